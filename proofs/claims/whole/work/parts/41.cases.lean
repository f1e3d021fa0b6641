section
variable {own nm : String} {cc : ByteArray} {nL : Nat} {ret : Option FieldType} {R : Room} {Q : ab_Q} {mc ms k n pc : Nat} {L : List (Nat × Value)} {st : List Value} {h : ab_H}
theorem v_st {st2 : List Value} (he : st = st2) (kk : Vd own nm cc nL ret R Q mc ms k n pc L st2 h) : Vd own nm cc nL ret R Q mc ms k n pc L st h := he ▸ kk
end
set_option maxRecDepth 100000 in
set_option maxHeartbeats 4000000 in
theorem lc_feed {nm : String} {Lx : Nat} {xs : Nat → Int32} {i : Nat} (hx1 : vp_in (nI i + (1 : Int32)) Lx) (hx2 : vp_in (nI i + (2 : Int32)) Lx) (hx3 : vp_in (nI i + (3 : Int32)) Lx) (hx4 : vp_in (nI i + (4 : Int32)) Lx) {Rl : (Nat → Nat → Int32) → (Nat → Nat → Int32) → Prop} (E_feed : ∀ (u v : Nat → Nat → Int32) (a1 : Int32), Rl u v → ∃ (r : Int32) (u2 : Nat → Nat → Int32) (v2 : Nat → Nat → Int32), d_F_feed u a1 = some (r, u2) ∧ d_M_feed v a1 = some (r, v2) ∧ Rl u2 v2) (u v : Nat → Nat → Int32) (w : Nat → Int64) (hR : Rl u v) (kk : ∀ (u v : Nat → Nat → Int32) (w : Nat → Int64), Rl u v → Vd RL nm cL_law 4 (some .boolean) room_1 (Q_law Lx xs) 600000 7302250 70 10812 1282 [(0, .retAddr 16), (1, .ref 0), (2, .ref 57), (3, .int (nI i))] [] (h_L u v w)) : Vd RL nm cL_law 4 (some .boolean) room_1 (Q_law Lx xs) 600000 7302250 70 10812 188 [(0, .retAddr 16), (1, .ref 0), (2, .ref 57), (3, .int (nI i))] [] (h_L u v w) := by
  obtain ⟨r, u2, v2, q1, q2, q3⟩ := E_feed u v (xs (nI i + (1 : Int32)).toNatClampNeg) hR
  refine v_aload_n dL_law_188 rfl ?_
  refine v_xload dL_law_189 rfl ?_
  refine v_iload_n dL_law_190 rfl ?_
  refine v_iconst dL_law_191 ic_1 ?_
  refine v_iadd dL_law_192 ?_
  refine v_xld dL_law_193 hx1 ?_
  refine v_invV (Ry := rm 1) (b := 0) (As := [.int (xs (nI i + (1 : Int32)).toNatClampNeg)]) (st := []) rrF dL_law_194 mv_L_13 (m_F_feed u (xs (nI i + (1 : Int32)).toNatClampNeg) q1) (hr_F u v w) nd_F rfl rfl rfl rfl rfl (Nat.le_of_ble_eq_true rfl) ⟨rfl, rfl⟩ ⟨by decide, by decide⟩ ⟨by decide, by decide⟩ (fun v h' hq => by rw [hq.2]; first | done | rfl) (fun v0 h0 hq => ?_)
  obtain ⟨rfl, rfl⟩ := hq
  refine v_heap (hp_F u u2 v w) ?_
  refine v_st (st2 := [.int r]) rfl ?_
  refine v_aload_n dL_law_197 rfl ?_
  refine v_xload dL_law_198 rfl ?_
  refine v_iload_n dL_law_199 rfl ?_
  refine v_iconst dL_law_200 ic_1 ?_
  refine v_iadd dL_law_201 ?_
  refine v_xld dL_law_202 hx1 ?_
  refine v_invV (Ry := rm 1) (b := 57) (As := [.int (xs (nI i + (1 : Int32)).toNatClampNeg)]) (st := [.int r]) rrM dL_law_203 mv_L_17 (m_M_feed v (xs (nI i + (1 : Int32)).toNatClampNeg) w q2) (hr_M u2 v w) nd_M rfl rfl rfl rfl rfl (Nat.le_of_ble_eq_true rfl) ⟨rfl, rfl⟩ ⟨by decide, by decide⟩ ⟨by decide, by decide⟩ (fun v h' hq => by rw [hq.2]; first | done | rfl) (fun v0 h0 hq => ?_)
  obtain ⟨rfl, rfl⟩ := hq
  refine v_heap (hp_M u2 v v2 w w) ?_
  refine v_st (st2 := [.int r, .int r]) rfl ?_
  refine v_icmp_eq (tgt := 1282) dL_law_206 (by decide) (fun _ => ?_) (fun c => absurd rfl c)
  exact kk u2 v2 w q3
set_option maxRecDepth 100000 in
set_option maxHeartbeats 4000000 in
theorem lc_end {nm : String} {Lx : Nat} {xs : Nat → Int32} {i : Nat} (hx1 : vp_in (nI i + (1 : Int32)) Lx) (hx2 : vp_in (nI i + (2 : Int32)) Lx) (hx3 : vp_in (nI i + (3 : Int32)) Lx) (hx4 : vp_in (nI i + (4 : Int32)) Lx) {Rl : (Nat → Nat → Int32) → (Nat → Nat → Int32) → Prop} (E_end : ∀ (u v : Nat → Nat → Int32) (a1 : Int32), Rl u v → ∃ (r : Int32) (u2 : Nat → Nat → Int32) (v2 : Nat → Nat → Int32), d_F_end u a1 = some (r, u2) ∧ d_M_end v a1 = some (r, v2) ∧ Rl u2 v2) (u v : Nat → Nat → Int32) (w : Nat → Int64) (hR : Rl u v) (kk : ∀ (u v : Nat → Nat → Int32) (w : Nat → Int64), Rl u v → Vd RL nm cL_law 4 (some .boolean) room_1 (Q_law Lx xs) 600000 7302250 70 10812 1282 [(0, .retAddr 16), (1, .ref 0), (2, .ref 57), (3, .int (nI i))] [] (h_L u v w)) : Vd RL nm cL_law 4 (some .boolean) room_1 (Q_law Lx xs) 600000 7302250 70 10812 211 [(0, .retAddr 16), (1, .ref 0), (2, .ref 57), (3, .int (nI i))] [] (h_L u v w) := by
  obtain ⟨r, u2, v2, q1, q2, q3⟩ := E_end u v (xs (nI i + (1 : Int32)).toNatClampNeg) hR
  refine v_aload_n dL_law_211 rfl ?_
  refine v_xload dL_law_212 rfl ?_
  refine v_iload_n dL_law_213 rfl ?_
  refine v_iconst dL_law_214 ic_1 ?_
  refine v_iadd dL_law_215 ?_
  refine v_xld dL_law_216 hx1 ?_
  refine v_invV (Ry := rm 1) (b := 0) (As := [.int (xs (nI i + (1 : Int32)).toNatClampNeg)]) (st := []) rrF dL_law_217 mv_L_18 (m_F_end u (xs (nI i + (1 : Int32)).toNatClampNeg) q1) (hr_F u v w) nd_F rfl rfl rfl rfl rfl (Nat.le_of_ble_eq_true rfl) ⟨rfl, rfl⟩ ⟨by decide, by decide⟩ ⟨by decide, by decide⟩ (fun v h' hq => by rw [hq.2]; first | done | rfl) (fun v0 h0 hq => ?_)
  obtain ⟨rfl, rfl⟩ := hq
  refine v_heap (hp_F u u2 v w) ?_
  refine v_st (st2 := [.int r]) rfl ?_
  refine v_aload_n dL_law_220 rfl ?_
  refine v_xload dL_law_221 rfl ?_
  refine v_iload_n dL_law_222 rfl ?_
  refine v_iconst dL_law_223 ic_1 ?_
  refine v_iadd dL_law_224 ?_
  refine v_xld dL_law_225 hx1 ?_
  refine v_invV (Ry := rm 1) (b := 57) (As := [.int (xs (nI i + (1 : Int32)).toNatClampNeg)]) (st := [.int r]) rrM dL_law_226 mv_L_21 (m_M_end v (xs (nI i + (1 : Int32)).toNatClampNeg) w q2) (hr_M u2 v w) nd_M rfl rfl rfl rfl rfl (Nat.le_of_ble_eq_true rfl) ⟨rfl, rfl⟩ ⟨by decide, by decide⟩ ⟨by decide, by decide⟩ (fun v h' hq => by rw [hq.2]; first | done | rfl) (fun v0 h0 hq => ?_)
  obtain ⟨rfl, rfl⟩ := hq
  refine v_heap (hp_M u2 v v2 w w) ?_
  refine v_st (st2 := [.int r, .int r]) rfl ?_
  refine v_icmp_eq (tgt := 1282) dL_law_229 (by decide) (fun _ => ?_) (fun c => absurd rfl c)
  exact kk u2 v2 w q3
set_option maxRecDepth 100000 in
set_option maxHeartbeats 4000000 in
theorem lc_text {nm : String} {Lx : Nat} {xs : Nat → Int32} {i : Nat} (hx1 : vp_in (nI i + (1 : Int32)) Lx) (hx2 : vp_in (nI i + (2 : Int32)) Lx) (hx3 : vp_in (nI i + (3 : Int32)) Lx) (hx4 : vp_in (nI i + (4 : Int32)) Lx) {Rl : (Nat → Nat → Int32) → (Nat → Nat → Int32) → Prop} (E_text : ∀ (u v : Nat → Nat → Int32), Rl u v → ∃ (r : Int32) (u2 : Nat → Nat → Int32) (v2 : Nat → Nat → Int32), d_F_text u = some (r, u2) ∧ d_M_text v = some (r, v2) ∧ Rl u2 v2) (u v : Nat → Nat → Int32) (w : Nat → Int64) (hR : Rl u v) (kk : ∀ (u v : Nat → Nat → Int32) (w : Nat → Int64), Rl u v → Vd RL nm cL_law 4 (some .boolean) room_1 (Q_law Lx xs) 600000 7302250 70 10812 1282 [(0, .retAddr 16), (1, .ref 0), (2, .ref 57), (3, .int (nI i))] [] (h_L u v w)) : Vd RL nm cL_law 4 (some .boolean) room_1 (Q_law Lx xs) 600000 7302250 70 10812 234 [(0, .retAddr 16), (1, .ref 0), (2, .ref 57), (3, .int (nI i))] [] (h_L u v w) := by
  obtain ⟨r, u2, v2, q1, q2, q3⟩ := E_text u v  hR
  refine v_aload_n dL_law_234 rfl ?_
  refine v_invV (Ry := rm 9) (b := 0) (As := []) (st := []) rrF dL_law_235 mv_L_22 (m_F_text u q1) (hr_F u v w) nd_F rfl rfl rfl rfl rfl (Nat.le_of_ble_eq_true rfl) ⟨rfl, rfl⟩ ⟨by decide, by decide⟩ ⟨by decide, by decide⟩ (fun v h' hq => by rw [hq.2]; first | done | rfl) (fun v0 h0 hq => ?_)
  obtain ⟨rfl, rfl⟩ := hq
  refine v_heap (hp_F u u2 v w) ?_
  refine v_st (st2 := [.int r]) rfl ?_
  refine v_aload_n dL_law_238 rfl ?_
  refine v_invV (Ry := rm 6) (b := 57) (As := []) (st := [.int r]) rrM dL_law_239 mv_L_26 (m_M_text v w q2) (hr_M u2 v w) nd_M rfl rfl rfl rfl rfl (Nat.le_of_ble_eq_true rfl) ⟨rfl, rfl⟩ ⟨by decide, by decide⟩ ⟨by decide, by decide⟩ (fun v h' hq => by rw [hq.2]; first | done | rfl) (fun v0 h0 hq => ?_)
  obtain ⟨rfl, rfl⟩ := hq
  refine v_heap (hp_M u2 v v2 w w) ?_
  refine v_st (st2 := [.int r, .int r]) rfl ?_
  refine v_icmp_eq (tgt := 1282) dL_law_242 (by decide) (fun _ => ?_) (fun c => absurd rfl c)
  exact kk u2 v2 w q3
set_option maxRecDepth 100000 in
set_option maxHeartbeats 4000000 in
theorem lc_fault {nm : String} {Lx : Nat} {xs : Nat → Int32} {i : Nat} (hx1 : vp_in (nI i + (1 : Int32)) Lx) (hx2 : vp_in (nI i + (2 : Int32)) Lx) (hx3 : vp_in (nI i + (3 : Int32)) Lx) (hx4 : vp_in (nI i + (4 : Int32)) Lx) {Rl : (Nat → Nat → Int32) → (Nat → Nat → Int32) → Prop} (E_fault : ∀ (u v : Nat → Nat → Int32), Rl u v → ∃ (r : Int32), d_F_fault u = some r ∧ d_M_fault v = some r ∧ Rl u v) (u v : Nat → Nat → Int32) (w : Nat → Int64) (hR : Rl u v) (kk : ∀ (u v : Nat → Nat → Int32) (w : Nat → Int64), Rl u v → Vd RL nm cL_law 4 (some .boolean) room_1 (Q_law Lx xs) 600000 7302250 70 10812 1282 [(0, .retAddr 16), (1, .ref 0), (2, .ref 57), (3, .int (nI i))] [] (h_L u v w)) : Vd RL nm cL_law 4 (some .boolean) room_1 (Q_law Lx xs) 600000 7302250 70 10812 247 [(0, .retAddr 16), (1, .ref 0), (2, .ref 57), (3, .int (nI i))] [] (h_L u v w) := by
  obtain ⟨r, q1, q2, q3⟩ := E_fault u v  hR
  refine v_aload_n dL_law_247 rfl ?_
  refine v_invV (Ry := rm 0) (b := 0) (As := []) (st := []) rrF dL_law_248 mv_L_27 (m_F_fault u q1) (hr_F u v w) nd_F rfl rfl rfl rfl rfl (Nat.le_of_ble_eq_true rfl) ⟨rfl, rfl⟩ ⟨by decide, by decide⟩ ⟨by decide, by decide⟩ (fun v h' hq => by rw [hq.2]; first | done | rfl) (fun v0 h0 hq => ?_)
  obtain ⟨rfl, rfl⟩ := hq
  refine v_heap (hp_F u u v w) ?_
  refine v_st (st2 := [.int r]) rfl ?_
  refine v_aload_n dL_law_251 rfl ?_
  refine v_invV (Ry := rm 0) (b := 57) (As := []) (st := [.int r]) rrM dL_law_252 mv_L_30 (m_M_fault v w q2) (hr_M u v w) nd_M rfl rfl rfl rfl rfl (Nat.le_of_ble_eq_true rfl) ⟨rfl, rfl⟩ ⟨by decide, by decide⟩ ⟨by decide, by decide⟩ (fun v h' hq => by rw [hq.2]; first | done | rfl) (fun v0 h0 hq => ?_)
  obtain ⟨rfl, rfl⟩ := hq
  refine v_heap (hp_M u v v w w) ?_
  refine v_st (st2 := [.int r, .int r]) rfl ?_
  refine v_icmp_eq (tgt := 1282) dL_law_255 (by decide) (fun _ => ?_) (fun c => absurd rfl c)
  exact kk u v w q3
set_option maxRecDepth 100000 in
set_option maxHeartbeats 4000000 in
theorem lc_rule {nm : String} {Lx : Nat} {xs : Nat → Int32} {i : Nat} (hx1 : vp_in (nI i + (1 : Int32)) Lx) (hx2 : vp_in (nI i + (2 : Int32)) Lx) (hx3 : vp_in (nI i + (3 : Int32)) Lx) (hx4 : vp_in (nI i + (4 : Int32)) Lx) {Rl : (Nat → Nat → Int32) → (Nat → Nat → Int32) → Prop} (E_rule : ∀ (u v : Nat → Nat → Int32) (a1 : Int32), Rl u v → ∃ (r : Int32) (v2 : Nat → Nat → Int32), d_F_rule u a1 = some r ∧ d_M_rule v a1 = some (r, v2) ∧ Rl u v2) (u v : Nat → Nat → Int32) (w : Nat → Int64) (hR : Rl u v) (kk : ∀ (u v : Nat → Nat → Int32) (w : Nat → Int64), Rl u v → Vd RL nm cL_law 4 (some .boolean) room_1 (Q_law Lx xs) 600000 7302250 70 10812 1282 [(0, .retAddr 16), (1, .ref 0), (2, .ref 57), (3, .int (nI i))] [] (h_L u v w)) : Vd RL nm cL_law 4 (some .boolean) room_1 (Q_law Lx xs) 600000 7302250 70 10812 260 [(0, .retAddr 16), (1, .ref 0), (2, .ref 57), (3, .int (nI i))] [] (h_L u v w) := by
  obtain ⟨r, v2, q1, q2, q3⟩ := E_rule u v (xs (nI i + (1 : Int32)).toNatClampNeg) hR
  refine v_aload_n dL_law_260 rfl ?_
  refine v_xload dL_law_261 rfl ?_
  refine v_iload_n dL_law_262 rfl ?_
  refine v_iconst dL_law_263 ic_1 ?_
  refine v_iadd dL_law_264 ?_
  refine v_xld dL_law_265 hx1 ?_
  refine v_invV (Ry := rm 1) (b := 0) (As := [.int (xs (nI i + (1 : Int32)).toNatClampNeg)]) (st := []) rrF dL_law_266 mv_L_31 (m_F_rule u (xs (nI i + (1 : Int32)).toNatClampNeg) q1) (hr_F u v w) nd_F rfl rfl rfl rfl rfl (Nat.le_of_ble_eq_true rfl) ⟨rfl, rfl⟩ ⟨by decide, by decide⟩ ⟨by decide, by decide⟩ (fun v h' hq => by rw [hq.2]; first | done | rfl) (fun v0 h0 hq => ?_)
  obtain ⟨rfl, rfl⟩ := hq
  refine v_heap (hp_F u u v w) ?_
  refine v_st (st2 := [.int r]) rfl ?_
  refine v_aload_n dL_law_269 rfl ?_
  refine v_xload dL_law_270 rfl ?_
  refine v_iload_n dL_law_271 rfl ?_
  refine v_iconst dL_law_272 ic_1 ?_
  refine v_iadd dL_law_273 ?_
  refine v_xld dL_law_274 hx1 ?_
  refine v_invV (Ry := rm 1) (b := 57) (As := [.int (xs (nI i + (1 : Int32)).toNatClampNeg)]) (st := [.int r]) rrM dL_law_275 mv_L_34 (m_M_rule v (xs (nI i + (1 : Int32)).toNatClampNeg) w q2) (hr_M u v w) nd_M rfl rfl rfl rfl rfl (Nat.le_of_ble_eq_true rfl) ⟨rfl, rfl⟩ ⟨by decide, by decide⟩ ⟨by decide, by decide⟩ (fun v h' hq => by rw [hq.2]; first | done | rfl) (fun v0 h0 hq => ?_)
  obtain ⟨rfl, rfl⟩ := hq
  refine v_heap (hp_M u v v2 w w) ?_
  refine v_st (st2 := [.int r, .int r]) rfl ?_
  refine v_icmp_eq (tgt := 1282) dL_law_278 (by decide) (fun _ => ?_) (fun c => absurd rfl c)
  exact kk u v2 w q3
set_option maxRecDepth 100000 in
set_option maxHeartbeats 4000000 in
theorem lc_house {nm : String} {Lx : Nat} {xs : Nat → Int32} {i : Nat} (hx1 : vp_in (nI i + (1 : Int32)) Lx) (hx2 : vp_in (nI i + (2 : Int32)) Lx) (hx3 : vp_in (nI i + (3 : Int32)) Lx) (hx4 : vp_in (nI i + (4 : Int32)) Lx) {Rl : (Nat → Nat → Int32) → (Nat → Nat → Int32) → Prop} (E_house : ∀ (u v : Nat → Nat → Int32) (a1 a2 : Int32), Rl u v → ∃ (r : Int32), d_F_house u a1 a2 = some r ∧ d_M_house v a1 a2 = some r ∧ Rl u v) (u v : Nat → Nat → Int32) (w : Nat → Int64) (hR : Rl u v) (kk : ∀ (u v : Nat → Nat → Int32) (w : Nat → Int64), Rl u v → Vd RL nm cL_law 4 (some .boolean) room_1 (Q_law Lx xs) 600000 7302250 70 10812 1282 [(0, .retAddr 16), (1, .ref 0), (2, .ref 57), (3, .int (nI i))] [] (h_L u v w)) : Vd RL nm cL_law 4 (some .boolean) room_1 (Q_law Lx xs) 600000 7302250 70 10812 283 [(0, .retAddr 16), (1, .ref 0), (2, .ref 57), (3, .int (nI i))] [] (h_L u v w) := by
  obtain ⟨r, q1, q2, q3⟩ := E_house u v (xs (nI i + (1 : Int32)).toNatClampNeg) (xs (nI i + (2 : Int32)).toNatClampNeg) hR
  refine v_aload_n dL_law_283 rfl ?_
  refine v_xload dL_law_284 rfl ?_
  refine v_iload_n dL_law_285 rfl ?_
  refine v_iconst dL_law_286 ic_1 ?_
  refine v_iadd dL_law_287 ?_
  refine v_xld dL_law_288 hx1 ?_
  refine v_xload dL_law_289 rfl ?_
  refine v_iload_n dL_law_290 rfl ?_
  refine v_iconst dL_law_291 ic_2 ?_
  refine v_iadd dL_law_292 ?_
  refine v_xld dL_law_293 hx2 ?_
  refine v_invV (Ry := rm 1) (b := 0) (As := [.int (xs (nI i + (1 : Int32)).toNatClampNeg), .int (xs (nI i + (2 : Int32)).toNatClampNeg)]) (st := []) rrF dL_law_294 mv_L_35 (m_F_house u (xs (nI i + (1 : Int32)).toNatClampNeg) (xs (nI i + (2 : Int32)).toNatClampNeg) q1) (hr_F u v w) nd_F rfl rfl rfl rfl rfl (Nat.le_of_ble_eq_true rfl) ⟨rfl, rfl⟩ ⟨by decide, by decide⟩ ⟨by decide, by decide⟩ (fun v h' hq => by rw [hq.2]; first | done | rfl) (fun v0 h0 hq => ?_)
  obtain ⟨rfl, rfl⟩ := hq
  refine v_heap (hp_F u u v w) ?_
  refine v_st (st2 := [.int r]) rfl ?_
  refine v_aload_n dL_law_297 rfl ?_
  refine v_xload dL_law_298 rfl ?_
  refine v_iload_n dL_law_299 rfl ?_
  refine v_iconst dL_law_300 ic_1 ?_
  refine v_iadd dL_law_301 ?_
  refine v_xld dL_law_302 hx1 ?_
  refine v_xload dL_law_303 rfl ?_
  refine v_iload_n dL_law_304 rfl ?_
  refine v_iconst dL_law_305 ic_2 ?_
  refine v_iadd dL_law_306 ?_
  refine v_xld dL_law_307 hx2 ?_
  refine v_invV (Ry := rm 2) (b := 57) (As := [.int (xs (nI i + (1 : Int32)).toNatClampNeg), .int (xs (nI i + (2 : Int32)).toNatClampNeg)]) (st := [.int r]) rrM dL_law_308 mv_L_39 (m_M_house v (xs (nI i + (1 : Int32)).toNatClampNeg) (xs (nI i + (2 : Int32)).toNatClampNeg) w q2) (hr_M u v w) nd_M rfl rfl rfl rfl rfl (Nat.le_of_ble_eq_true rfl) ⟨rfl, rfl⟩ ⟨by decide, by decide⟩ ⟨by decide, by decide⟩ (fun v h' hq => by rw [hq.2]; first | done | rfl) (fun v0 h0 hq => ?_)
  obtain ⟨rfl, rfl⟩ := hq
  refine v_heap (hp_M u v v w w) ?_
  refine v_st (st2 := [.int r, .int r]) rfl ?_
  refine v_icmp_eq (tgt := 1282) dL_law_311 (by decide) (fun _ => ?_) (fun c => absurd rfl c)
  exact kk u v w q3
set_option maxRecDepth 100000 in
set_option maxHeartbeats 4000000 in
theorem lc_alter {nm : String} {Lx : Nat} {xs : Nat → Int32} {i : Nat} (hx1 : vp_in (nI i + (1 : Int32)) Lx) (hx2 : vp_in (nI i + (2 : Int32)) Lx) (hx3 : vp_in (nI i + (3 : Int32)) Lx) (hx4 : vp_in (nI i + (4 : Int32)) Lx) {Rl : (Nat → Nat → Int32) → (Nat → Nat → Int32) → Prop} (E_alter : ∀ (u v : Nat → Nat → Int32) (a1 a2 a3 : Int32), Rl u v → ∃ (r : Int32) (u2 : Nat → Nat → Int32) (v2 : Nat → Nat → Int32), d_F_alter u a1 a2 a3 = some (r, u2) ∧ d_M_alter v a1 a2 a3 = some (r, v2) ∧ Rl u2 v2) (u v : Nat → Nat → Int32) (w : Nat → Int64) (hR : Rl u v) (kk : ∀ (u v : Nat → Nat → Int32) (w : Nat → Int64), Rl u v → Vd RL nm cL_law 4 (some .boolean) room_1 (Q_law Lx xs) 600000 7302250 70 10812 1282 [(0, .retAddr 16), (1, .ref 0), (2, .ref 57), (3, .int (nI i))] [] (h_L u v w)) : Vd RL nm cL_law 4 (some .boolean) room_1 (Q_law Lx xs) 600000 7302250 70 10812 316 [(0, .retAddr 16), (1, .ref 0), (2, .ref 57), (3, .int (nI i))] [] (h_L u v w) := by
  obtain ⟨r, u2, v2, q1, q2, q3⟩ := E_alter u v (xs (nI i + (1 : Int32)).toNatClampNeg) (xs (nI i + (2 : Int32)).toNatClampNeg) (xs (nI i + (3 : Int32)).toNatClampNeg) hR
  refine v_aload_n dL_law_316 rfl ?_
  refine v_xload dL_law_317 rfl ?_
  refine v_iload_n dL_law_318 rfl ?_
  refine v_iconst dL_law_319 ic_1 ?_
  refine v_iadd dL_law_320 ?_
  refine v_xld dL_law_321 hx1 ?_
  refine v_xload dL_law_322 rfl ?_
  refine v_iload_n dL_law_323 rfl ?_
  refine v_iconst dL_law_324 ic_2 ?_
  refine v_iadd dL_law_325 ?_
  refine v_xld dL_law_326 hx2 ?_
  refine v_xload dL_law_327 rfl ?_
  refine v_iload_n dL_law_328 rfl ?_
  refine v_iconst dL_law_329 ic_3 ?_
  refine v_iadd dL_law_330 ?_
  refine v_xld dL_law_331 hx3 ?_
  refine v_invV (Ry := rm 1) (b := 0) (As := [.int (xs (nI i + (1 : Int32)).toNatClampNeg), .int (xs (nI i + (2 : Int32)).toNatClampNeg), .int (xs (nI i + (3 : Int32)).toNatClampNeg)]) (st := []) rrF dL_law_332 mv_L_40 (m_F_alter u (xs (nI i + (1 : Int32)).toNatClampNeg) (xs (nI i + (2 : Int32)).toNatClampNeg) (xs (nI i + (3 : Int32)).toNatClampNeg) q1) (hr_F u v w) nd_F rfl rfl rfl rfl rfl (Nat.le_of_ble_eq_true rfl) ⟨rfl, rfl⟩ ⟨by decide, by decide⟩ ⟨by decide, by decide⟩ (fun v h' hq => by rw [hq.2]; first | done | rfl) (fun v0 h0 hq => ?_)
  obtain ⟨rfl, rfl⟩ := hq
  refine v_heap (hp_F u u2 v w) ?_
  refine v_st (st2 := [.int r]) rfl ?_
  refine v_aload_n dL_law_335 rfl ?_
  refine v_xload dL_law_336 rfl ?_
  refine v_iload_n dL_law_337 rfl ?_
  refine v_iconst dL_law_338 ic_1 ?_
  refine v_iadd dL_law_339 ?_
  refine v_xld dL_law_340 hx1 ?_
  refine v_xload dL_law_341 rfl ?_
  refine v_iload_n dL_law_342 rfl ?_
  refine v_iconst dL_law_343 ic_2 ?_
  refine v_iadd dL_law_344 ?_
  refine v_xld dL_law_345 hx2 ?_
  refine v_xload dL_law_346 rfl ?_
  refine v_iload_n dL_law_347 rfl ?_
  refine v_iconst dL_law_348 ic_3 ?_
  refine v_iadd dL_law_349 ?_
  refine v_xld dL_law_350 hx3 ?_
  refine v_invV (Ry := rm 2) (b := 57) (As := [.int (xs (nI i + (1 : Int32)).toNatClampNeg), .int (xs (nI i + (2 : Int32)).toNatClampNeg), .int (xs (nI i + (3 : Int32)).toNatClampNeg)]) (st := [.int r]) rrM dL_law_351 mv_L_44 (m_M_alter v (xs (nI i + (1 : Int32)).toNatClampNeg) (xs (nI i + (2 : Int32)).toNatClampNeg) (xs (nI i + (3 : Int32)).toNatClampNeg) w q2) (hr_M u2 v w) nd_M rfl rfl rfl rfl rfl (Nat.le_of_ble_eq_true rfl) ⟨rfl, rfl⟩ ⟨by decide, by decide⟩ ⟨by decide, by decide⟩ (fun v h' hq => by rw [hq.2]; first | done | rfl) (fun v0 h0 hq => ?_)
  obtain ⟨rfl, rfl⟩ := hq
  refine v_heap (hp_M u2 v v2 w w) ?_
  refine v_st (st2 := [.int r, .int r]) rfl ?_
  refine v_icmp_eq (tgt := 1282) dL_law_354 (by decide) (fun _ => ?_) (fun c => absurd rfl c)
  exact kk u2 v2 w q3
set_option maxRecDepth 100000 in
set_option maxHeartbeats 4000000 in
theorem lc_set {nm : String} {Lx : Nat} {xs : Nat → Int32} {i : Nat} (hx1 : vp_in (nI i + (1 : Int32)) Lx) (hx2 : vp_in (nI i + (2 : Int32)) Lx) (hx3 : vp_in (nI i + (3 : Int32)) Lx) (hx4 : vp_in (nI i + (4 : Int32)) Lx) {Rl : (Nat → Nat → Int32) → (Nat → Nat → Int32) → Prop} (E_set : ∀ (u v : Nat → Nat → Int32) (a1 a2 : Int32), Rl u v → ∃ (r : Int32) (u2 : Nat → Nat → Int32) (v2 : Nat → Nat → Int32), d_F_set u a1 a2 = some (r, u2) ∧ d_M_set v a1 a2 = some (r, v2) ∧ Rl u2 v2) (u v : Nat → Nat → Int32) (w : Nat → Int64) (hR : Rl u v) (kk : ∀ (u v : Nat → Nat → Int32) (w : Nat → Int64), Rl u v → Vd RL nm cL_law 4 (some .boolean) room_1 (Q_law Lx xs) 600000 7302250 70 10812 1282 [(0, .retAddr 16), (1, .ref 0), (2, .ref 57), (3, .int (nI i))] [] (h_L u v w)) : Vd RL nm cL_law 4 (some .boolean) room_1 (Q_law Lx xs) 600000 7302250 70 10812 359 [(0, .retAddr 16), (1, .ref 0), (2, .ref 57), (3, .int (nI i))] [] (h_L u v w) := by
  obtain ⟨r, u2, v2, q1, q2, q3⟩ := E_set u v (xs (nI i + (1 : Int32)).toNatClampNeg) (xs (nI i + (2 : Int32)).toNatClampNeg) hR
  refine v_aload_n dL_law_359 rfl ?_
  refine v_xload dL_law_360 rfl ?_
  refine v_iload_n dL_law_361 rfl ?_
  refine v_iconst dL_law_362 ic_1 ?_
  refine v_iadd dL_law_363 ?_
  refine v_xld dL_law_364 hx1 ?_
  refine v_xload dL_law_365 rfl ?_
  refine v_iload_n dL_law_366 rfl ?_
  refine v_iconst dL_law_367 ic_2 ?_
  refine v_iadd dL_law_368 ?_
  refine v_xld dL_law_369 hx2 ?_
  refine v_invV (Ry := rm 1) (b := 0) (As := [.int (xs (nI i + (1 : Int32)).toNatClampNeg), .int (xs (nI i + (2 : Int32)).toNatClampNeg)]) (st := []) rrF dL_law_370 mv_L_45 (m_F_set u (xs (nI i + (1 : Int32)).toNatClampNeg) (xs (nI i + (2 : Int32)).toNatClampNeg) q1) (hr_F u v w) nd_F rfl rfl rfl rfl rfl (Nat.le_of_ble_eq_true rfl) ⟨rfl, rfl⟩ ⟨by decide, by decide⟩ ⟨by decide, by decide⟩ (fun v h' hq => by rw [hq.2]; first | done | rfl) (fun v0 h0 hq => ?_)
  obtain ⟨rfl, rfl⟩ := hq
  refine v_heap (hp_F u u2 v w) ?_
  refine v_st (st2 := [.int r]) rfl ?_
  refine v_aload_n dL_law_373 rfl ?_
  refine v_xload dL_law_374 rfl ?_
  refine v_iload_n dL_law_375 rfl ?_
  refine v_iconst dL_law_376 ic_1 ?_
  refine v_iadd dL_law_377 ?_
  refine v_xld dL_law_378 hx1 ?_
  refine v_xload dL_law_379 rfl ?_
  refine v_iload_n dL_law_380 rfl ?_
  refine v_iconst dL_law_381 ic_2 ?_
  refine v_iadd dL_law_382 ?_
  refine v_xld dL_law_383 hx2 ?_
  refine v_invV (Ry := rm 2) (b := 57) (As := [.int (xs (nI i + (1 : Int32)).toNatClampNeg), .int (xs (nI i + (2 : Int32)).toNatClampNeg)]) (st := [.int r]) rrM dL_law_384 mv_L_48 (m_M_set v (xs (nI i + (1 : Int32)).toNatClampNeg) (xs (nI i + (2 : Int32)).toNatClampNeg) w q2) (hr_M u2 v w) nd_M rfl rfl rfl rfl rfl (Nat.le_of_ble_eq_true rfl) ⟨rfl, rfl⟩ ⟨by decide, by decide⟩ ⟨by decide, by decide⟩ (fun v h' hq => by rw [hq.2]; first | done | rfl) (fun v0 h0 hq => ?_)
  obtain ⟨rfl, rfl⟩ := hq
  refine v_heap (hp_M u2 v v2 w w) ?_
  refine v_st (st2 := [.int r, .int r]) rfl ?_
  refine v_icmp_eq (tgt := 1282) dL_law_387 (by decide) (fun _ => ?_) (fun c => absurd rfl c)
  exact kk u2 v2 w q3
set_option maxRecDepth 100000 in
set_option maxHeartbeats 4000000 in
theorem lc_rain {nm : String} {Lx : Nat} {xs : Nat → Int32} {i : Nat} (hx1 : vp_in (nI i + (1 : Int32)) Lx) (hx2 : vp_in (nI i + (2 : Int32)) Lx) (hx3 : vp_in (nI i + (3 : Int32)) Lx) (hx4 : vp_in (nI i + (4 : Int32)) Lx) {Rl : (Nat → Nat → Int32) → (Nat → Nat → Int32) → Prop} (E_rain : ∀ (u v : Nat → Nat → Int32) (a1 a2 : Int32), Rl u v → (a2 = 0 ∨ a2 = 1) → ∃ (r : Int32) (u2 : Nat → Nat → Int32) (v2 : Nat → Nat → Int32), d_F_rain u a1 a2 = some (r, u2) ∧ d_M_rain v a1 a2 = some (r, v2) ∧ Rl u2 v2) (u v : Nat → Nat → Int32) (w : Nat → Int64) (hR : Rl u v) (kk : ∀ (u v : Nat → Nat → Int32) (w : Nat → Int64), Rl u v → Vd RL nm cL_law 4 (some .boolean) room_1 (Q_law Lx xs) 600000 7302250 70 10812 1282 [(0, .retAddr 16), (1, .ref 0), (2, .ref 57), (3, .int (nI i))] [] (h_L u v w)) : Vd RL nm cL_law 4 (some .boolean) room_1 (Q_law Lx xs) 600000 7302250 70 10812 392 [(0, .retAddr 16), (1, .ref 0), (2, .ref 57), (3, .int (nI i))] [] (h_L u v w) := by
  by_cases hz : (xs (nI i + (2 : Int32)).toNatClampNeg) = 0
  · obtain ⟨r, u2, v2, q1, q2, q3⟩ := E_rain u v (xs (nI i + (1 : Int32)).toNatClampNeg) (0 : Int32) hR (Or.inl rfl)
    refine v_aload_n dL_law_392 rfl ?_
    refine v_xload dL_law_393 rfl ?_
    refine v_iload_n dL_law_394 rfl ?_
    refine v_iconst dL_law_395 ic_1 ?_
    refine v_iadd dL_law_396 ?_
    refine v_xld dL_law_397 hx1 ?_
    refine v_xload dL_law_398 rfl ?_
    refine v_iload_n dL_law_399 rfl ?_
    refine v_iconst dL_law_400 ic_2 ?_
    refine v_iadd dL_law_401 ?_
    refine v_xld dL_law_402 hx2 ?_
    refine v_if_eq (tgt := 410) dL_law_403 (by decide) (fun _ => ?_) (fun c => absurd hz c)
    refine v_iconst dL_law_410 ic_0 ?_
    refine v_invV (Ry := rm 1) (b := 0) (As := [.int (xs (nI i + (1 : Int32)).toNatClampNeg), .int (0 : Int32)]) (st := []) rrF dL_law_411 mv_L_49 (m_F_rain u (xs (nI i + (1 : Int32)).toNatClampNeg) (0 : Int32) q1) (hr_F u v w) nd_F rfl rfl rfl rfl rfl (Nat.le_of_ble_eq_true rfl) ⟨rfl, rfl⟩ ⟨by decide, by decide⟩ ⟨by decide, by decide⟩ (fun v h' hq => by rw [hq.2]; first | done | rfl) (fun v0 h0 hq => ?_)
    obtain ⟨rfl, rfl⟩ := hq
    refine v_heap (hp_F u u2 v w) ?_
    refine v_st (st2 := [.int r]) rfl ?_
    refine v_aload_n dL_law_414 rfl ?_
    refine v_xload dL_law_415 rfl ?_
    refine v_iload_n dL_law_416 rfl ?_
    refine v_iconst dL_law_417 ic_1 ?_
    refine v_iadd dL_law_418 ?_
    refine v_xld dL_law_419 hx1 ?_
    refine v_xload dL_law_420 rfl ?_
    refine v_iload_n dL_law_421 rfl ?_
    refine v_iconst dL_law_422 ic_2 ?_
    refine v_iadd dL_law_423 ?_
    refine v_xld dL_law_424 hx2 ?_
    refine v_if_eq (tgt := 432) dL_law_425 (by decide) (fun _ => ?_) (fun c => absurd hz c)
    refine v_iconst dL_law_432 ic_0 ?_
    refine v_invV (Ry := rm 1) (b := 57) (As := [.int (xs (nI i + (1 : Int32)).toNatClampNeg), .int (0 : Int32)]) (st := [.int r]) rrM dL_law_433 mv_L_53 (m_M_rain v (xs (nI i + (1 : Int32)).toNatClampNeg) (0 : Int32) w q2) (hr_M u2 v w) nd_M rfl rfl rfl rfl rfl (Nat.le_of_ble_eq_true rfl) ⟨rfl, rfl⟩ ⟨by decide, by decide⟩ ⟨by decide, by decide⟩ (fun v h' hq => by rw [hq.2]; first | done | rfl) (fun v0 h0 hq => ?_)
    obtain ⟨rfl, rfl⟩ := hq
    refine v_heap (hp_M u2 v v2 w w) ?_
    refine v_st (st2 := [.int r, .int r]) rfl ?_
    refine v_icmp_eq (tgt := 1282) dL_law_436 (by decide) (fun _ => ?_) (fun c => absurd rfl c)
    exact kk u2 v2 w q3
  · obtain ⟨r, u2, v2, q1, q2, q3⟩ := E_rain u v (xs (nI i + (1 : Int32)).toNatClampNeg) (1 : Int32) hR (Or.inr rfl)
    refine v_aload_n dL_law_392 rfl ?_
    refine v_xload dL_law_393 rfl ?_
    refine v_iload_n dL_law_394 rfl ?_
    refine v_iconst dL_law_395 ic_1 ?_
    refine v_iadd dL_law_396 ?_
    refine v_xld dL_law_397 hx1 ?_
    refine v_xload dL_law_398 rfl ?_
    refine v_iload_n dL_law_399 rfl ?_
    refine v_iconst dL_law_400 ic_2 ?_
    refine v_iadd dL_law_401 ?_
    refine v_xld dL_law_402 hx2 ?_
    refine v_if_eq (tgt := 410) dL_law_403 (by decide) (fun c => absurd c hz) (fun _ => ?_)
    refine v_iconst dL_law_406 ic_1 ?_
    refine v_goto (tgt := 411) dL_law_407 (by decide) ?_
    refine v_invV (Ry := rm 1) (b := 0) (As := [.int (xs (nI i + (1 : Int32)).toNatClampNeg), .int (1 : Int32)]) (st := []) rrF dL_law_411 mv_L_49 (m_F_rain u (xs (nI i + (1 : Int32)).toNatClampNeg) (1 : Int32) q1) (hr_F u v w) nd_F rfl rfl rfl rfl rfl (Nat.le_of_ble_eq_true rfl) ⟨rfl, rfl⟩ ⟨by decide, by decide⟩ ⟨by decide, by decide⟩ (fun v h' hq => by rw [hq.2]; first | done | rfl) (fun v0 h0 hq => ?_)
    obtain ⟨rfl, rfl⟩ := hq
    refine v_heap (hp_F u u2 v w) ?_
    refine v_st (st2 := [.int r]) rfl ?_
    refine v_aload_n dL_law_414 rfl ?_
    refine v_xload dL_law_415 rfl ?_
    refine v_iload_n dL_law_416 rfl ?_
    refine v_iconst dL_law_417 ic_1 ?_
    refine v_iadd dL_law_418 ?_
    refine v_xld dL_law_419 hx1 ?_
    refine v_xload dL_law_420 rfl ?_
    refine v_iload_n dL_law_421 rfl ?_
    refine v_iconst dL_law_422 ic_2 ?_
    refine v_iadd dL_law_423 ?_
    refine v_xld dL_law_424 hx2 ?_
    refine v_if_eq (tgt := 432) dL_law_425 (by decide) (fun c => absurd c hz) (fun _ => ?_)
    refine v_iconst dL_law_428 ic_1 ?_
    refine v_goto (tgt := 433) dL_law_429 (by decide) ?_
    refine v_invV (Ry := rm 1) (b := 57) (As := [.int (xs (nI i + (1 : Int32)).toNatClampNeg), .int (1 : Int32)]) (st := [.int r]) rrM dL_law_433 mv_L_53 (m_M_rain v (xs (nI i + (1 : Int32)).toNatClampNeg) (1 : Int32) w q2) (hr_M u2 v w) nd_M rfl rfl rfl rfl rfl (Nat.le_of_ble_eq_true rfl) ⟨rfl, rfl⟩ ⟨by decide, by decide⟩ ⟨by decide, by decide⟩ (fun v h' hq => by rw [hq.2]; first | done | rfl) (fun v0 h0 hq => ?_)
    obtain ⟨rfl, rfl⟩ := hq
    refine v_heap (hp_M u2 v v2 w w) ?_
    refine v_st (st2 := [.int r, .int r]) rfl ?_
    refine v_icmp_eq (tgt := 1282) dL_law_436 (by decide) (fun _ => ?_) (fun c => absurd rfl c)
    exact kk u2 v2 w q3
set_option maxRecDepth 100000 in
set_option maxHeartbeats 4000000 in
theorem lc_offer {nm : String} {Lx : Nat} {xs : Nat → Int32} {i : Nat} (hx1 : vp_in (nI i + (1 : Int32)) Lx) (hx2 : vp_in (nI i + (2 : Int32)) Lx) (hx3 : vp_in (nI i + (3 : Int32)) Lx) (hx4 : vp_in (nI i + (4 : Int32)) Lx) {Rl : (Nat → Nat → Int32) → (Nat → Nat → Int32) → Prop} (E_offer : ∀ (u v : Nat → Nat → Int32) (a1 a2 : Int32), Rl u v → ∃ (r : Int32) (u2 : Nat → Nat → Int32) (v2 : Nat → Nat → Int32), d_F_offer u a1 a2 = some (r, u2) ∧ d_M_offer v a1 a2 = some (r, v2) ∧ Rl u2 v2) (u v : Nat → Nat → Int32) (w : Nat → Int64) (hR : Rl u v) (kk : ∀ (u v : Nat → Nat → Int32) (w : Nat → Int64), Rl u v → Vd RL nm cL_law 4 (some .boolean) room_1 (Q_law Lx xs) 600000 7302250 70 10812 1282 [(0, .retAddr 16), (1, .ref 0), (2, .ref 57), (3, .int (nI i))] [] (h_L u v w)) : Vd RL nm cL_law 4 (some .boolean) room_1 (Q_law Lx xs) 600000 7302250 70 10812 441 [(0, .retAddr 16), (1, .ref 0), (2, .ref 57), (3, .int (nI i))] [] (h_L u v w) := by
  obtain ⟨r, u2, v2, q1, q2, q3⟩ := E_offer u v (xs (nI i + (1 : Int32)).toNatClampNeg) (xs (nI i + (2 : Int32)).toNatClampNeg) hR
  refine v_aload_n dL_law_441 rfl ?_
  refine v_xload dL_law_442 rfl ?_
  refine v_iload_n dL_law_443 rfl ?_
  refine v_iconst dL_law_444 ic_1 ?_
  refine v_iadd dL_law_445 ?_
  refine v_xld dL_law_446 hx1 ?_
  refine v_xload dL_law_447 rfl ?_
  refine v_iload_n dL_law_448 rfl ?_
  refine v_iconst dL_law_449 ic_2 ?_
  refine v_iadd dL_law_450 ?_
  refine v_xld dL_law_451 hx2 ?_
  refine v_invV (Ry := rm 3) (b := 0) (As := [.int (xs (nI i + (1 : Int32)).toNatClampNeg), .int (xs (nI i + (2 : Int32)).toNatClampNeg)]) (st := []) rrF dL_law_452 mv_L_54 (m_F_offer u (xs (nI i + (1 : Int32)).toNatClampNeg) (xs (nI i + (2 : Int32)).toNatClampNeg) q1) (hr_F u v w) nd_F rfl rfl rfl rfl rfl (Nat.le_of_ble_eq_true rfl) ⟨rfl, rfl⟩ ⟨by decide, by decide⟩ ⟨by decide, by decide⟩ (fun v h' hq => by rw [hq.2]; first | done | rfl) (fun v0 h0 hq => ?_)
  obtain ⟨rfl, rfl⟩ := hq
  refine v_heap (hp_F u u2 v w) ?_
  refine v_st (st2 := [.int r]) rfl ?_
  refine v_aload_n dL_law_455 rfl ?_
  refine v_xload dL_law_456 rfl ?_
  refine v_iload_n dL_law_457 rfl ?_
  refine v_iconst dL_law_458 ic_1 ?_
  refine v_iadd dL_law_459 ?_
  refine v_xld dL_law_460 hx1 ?_
  refine v_xload dL_law_461 rfl ?_
  refine v_iload_n dL_law_462 rfl ?_
  refine v_iconst dL_law_463 ic_2 ?_
  refine v_iadd dL_law_464 ?_
  refine v_xld dL_law_465 hx2 ?_
  refine v_invV (Ry := rm 2) (b := 57) (As := [.int (xs (nI i + (1 : Int32)).toNatClampNeg), .int (xs (nI i + (2 : Int32)).toNatClampNeg)]) (st := [.int r]) rrM dL_law_466 mv_L_57 (m_M_offer v (xs (nI i + (1 : Int32)).toNatClampNeg) (xs (nI i + (2 : Int32)).toNatClampNeg) w q2) (hr_M u2 v w) nd_M rfl rfl rfl rfl rfl (Nat.le_of_ble_eq_true rfl) ⟨rfl, rfl⟩ ⟨by decide, by decide⟩ ⟨by decide, by decide⟩ (fun v h' hq => by rw [hq.2]; first | done | rfl) (fun v0 h0 hq => ?_)
  obtain ⟨rfl, rfl⟩ := hq
  refine v_heap (hp_M u2 v v2 w w) ?_
  refine v_st (st2 := [.int r, .int r]) rfl ?_
  refine v_icmp_eq (tgt := 1282) dL_law_469 (by decide) (fun _ => ?_) (fun c => absurd rfl c)
  exact kk u2 v2 w q3
set_option maxRecDepth 100000 in
set_option maxHeartbeats 4000000 in
theorem lc_go {nm : String} {Lx : Nat} {xs : Nat → Int32} {i : Nat} (hx1 : vp_in (nI i + (1 : Int32)) Lx) (hx2 : vp_in (nI i + (2 : Int32)) Lx) (hx3 : vp_in (nI i + (3 : Int32)) Lx) (hx4 : vp_in (nI i + (4 : Int32)) Lx) {Rl : (Nat → Nat → Int32) → (Nat → Nat → Int32) → Prop} (E_go : ∀ (u v : Nat → Nat → Int32) (a1 : Int32), Rl u v → ∃ (r : Int32) (u2 : Nat → Nat → Int32) (v2 : Nat → Nat → Int32), d_F_go u a1 = some (r, u2) ∧ d_M_go v a1 = some (r, v2) ∧ Rl u2 v2) (u v : Nat → Nat → Int32) (w : Nat → Int64) (hR : Rl u v) (kk : ∀ (u v : Nat → Nat → Int32) (w : Nat → Int64), Rl u v → Vd RL nm cL_law 4 (some .boolean) room_1 (Q_law Lx xs) 600000 7302250 70 10812 1282 [(0, .retAddr 16), (1, .ref 0), (2, .ref 57), (3, .int (nI i))] [] (h_L u v w)) : Vd RL nm cL_law 4 (some .boolean) room_1 (Q_law Lx xs) 600000 7302250 70 10812 474 [(0, .retAddr 16), (1, .ref 0), (2, .ref 57), (3, .int (nI i))] [] (h_L u v w) := by
  obtain ⟨r, u2, v2, q1, q2, q3⟩ := E_go u v (xs (nI i + (1 : Int32)).toNatClampNeg) hR
  refine v_aload_n dL_law_474 rfl ?_
  refine v_xload dL_law_475 rfl ?_
  refine v_iload_n dL_law_476 rfl ?_
  refine v_iconst dL_law_477 ic_1 ?_
  refine v_iadd dL_law_478 ?_
  refine v_xld dL_law_479 hx1 ?_
  refine v_invV (Ry := rm 5) (b := 0) (As := [.int (xs (nI i + (1 : Int32)).toNatClampNeg)]) (st := []) rrF dL_law_480 mv_L_58 (m_F_go u (xs (nI i + (1 : Int32)).toNatClampNeg) q1) (hr_F u v w) nd_F rfl rfl rfl rfl rfl (Nat.le_of_ble_eq_true rfl) ⟨rfl, rfl⟩ ⟨by decide, by decide⟩ ⟨by decide, by decide⟩ (fun v h' hq => by rw [hq.2]; first | done | rfl) (fun v0 h0 hq => ?_)
  obtain ⟨rfl, rfl⟩ := hq
  refine v_heap (hp_F u u2 v w) ?_
  refine v_st (st2 := [.int r]) rfl ?_
  refine v_aload_n dL_law_483 rfl ?_
  refine v_xload dL_law_484 rfl ?_
  refine v_iload_n dL_law_485 rfl ?_
  refine v_iconst dL_law_486 ic_1 ?_
  refine v_iadd dL_law_487 ?_
  refine v_xld dL_law_488 hx1 ?_
  refine v_invV (Ry := rm 5) (b := 57) (As := [.int (xs (nI i + (1 : Int32)).toNatClampNeg)]) (st := [.int r]) rrM dL_law_489 mv_L_61 (m_M_go v (xs (nI i + (1 : Int32)).toNatClampNeg) w q2) (hr_M u2 v w) nd_M rfl rfl rfl rfl rfl (Nat.le_of_ble_eq_true rfl) ⟨rfl, rfl⟩ ⟨by decide, by decide⟩ ⟨by decide, by decide⟩ (fun v h' hq => by rw [hq.2]; first | done | rfl) (fun v0 h0 hq => ?_)
  obtain ⟨rfl, rfl⟩ := hq
  refine v_heap (hp_M u2 v v2 w w) ?_
  refine v_st (st2 := [.int r, .int r]) rfl ?_
  refine v_icmp_eq (tgt := 1282) dL_law_492 (by decide) (fun _ => ?_) (fun c => absurd rfl c)
  exact kk u2 v2 w q3
set_option maxRecDepth 100000 in
set_option maxHeartbeats 4000000 in
theorem lc_runs {nm : String} {Lx : Nat} {xs : Nat → Int32} {i : Nat} (hx1 : vp_in (nI i + (1 : Int32)) Lx) (hx2 : vp_in (nI i + (2 : Int32)) Lx) (hx3 : vp_in (nI i + (3 : Int32)) Lx) (hx4 : vp_in (nI i + (4 : Int32)) Lx) {Rl : (Nat → Nat → Int32) → (Nat → Nat → Int32) → Prop} (E_runs : ∀ (u v : Nat → Nat → Int32) (a1 a2 : Int32), Rl u v → ∃ (r : Int32) (u2 : Nat → Nat → Int32) (v2 : Nat → Nat → Int32), d_F_runs u a1 a2 = some (r, u2) ∧ d_M_runs v a1 a2 = some (r, v2) ∧ Rl u2 v2) (u v : Nat → Nat → Int32) (w : Nat → Int64) (hR : Rl u v) (kk : ∀ (u v : Nat → Nat → Int32) (w : Nat → Int64), Rl u v → Vd RL nm cL_law 4 (some .boolean) room_1 (Q_law Lx xs) 600000 7302250 70 10812 1282 [(0, .retAddr 16), (1, .ref 0), (2, .ref 57), (3, .int (nI i))] [] (h_L u v w)) : Vd RL nm cL_law 4 (some .boolean) room_1 (Q_law Lx xs) 600000 7302250 70 10812 497 [(0, .retAddr 16), (1, .ref 0), (2, .ref 57), (3, .int (nI i))] [] (h_L u v w) := by
  obtain ⟨r, u2, v2, q1, q2, q3⟩ := E_runs u v (xs (nI i + (1 : Int32)).toNatClampNeg) (xs (nI i + (2 : Int32)).toNatClampNeg) hR
  refine v_aload_n dL_law_497 rfl ?_
  refine v_xload dL_law_498 rfl ?_
  refine v_iload_n dL_law_499 rfl ?_
  refine v_iconst dL_law_500 ic_1 ?_
  refine v_iadd dL_law_501 ?_
  refine v_xld dL_law_502 hx1 ?_
  refine v_xload dL_law_503 rfl ?_
  refine v_iload_n dL_law_504 rfl ?_
  refine v_iconst dL_law_505 ic_2 ?_
  refine v_iadd dL_law_506 ?_
  refine v_xld dL_law_507 hx2 ?_
  refine v_invV (Ry := rm 4) (b := 0) (As := [.int (xs (nI i + (1 : Int32)).toNatClampNeg), .int (xs (nI i + (2 : Int32)).toNatClampNeg)]) (st := []) rrF dL_law_508 mv_L_62 (m_F_runs u (xs (nI i + (1 : Int32)).toNatClampNeg) (xs (nI i + (2 : Int32)).toNatClampNeg) q1) (hr_F u v w) nd_F rfl rfl rfl rfl rfl (Nat.le_of_ble_eq_true rfl) ⟨rfl, rfl⟩ ⟨by decide, by decide⟩ ⟨by decide, by decide⟩ (fun v h' hq => by rw [hq.2]; first | done | rfl) (fun v0 h0 hq => ?_)
  obtain ⟨rfl, rfl⟩ := hq
  refine v_heap (hp_F u u2 v w) ?_
  refine v_st (st2 := [.int r]) rfl ?_
  refine v_aload_n dL_law_511 rfl ?_
  refine v_xload dL_law_512 rfl ?_
  refine v_iload_n dL_law_513 rfl ?_
  refine v_iconst dL_law_514 ic_1 ?_
  refine v_iadd dL_law_515 ?_
  refine v_xld dL_law_516 hx1 ?_
  refine v_xload dL_law_517 rfl ?_
  refine v_iload_n dL_law_518 rfl ?_
  refine v_iconst dL_law_519 ic_2 ?_
  refine v_iadd dL_law_520 ?_
  refine v_xld dL_law_521 hx2 ?_
  refine v_invV (Ry := rm 4) (b := 57) (As := [.int (xs (nI i + (1 : Int32)).toNatClampNeg), .int (xs (nI i + (2 : Int32)).toNatClampNeg)]) (st := [.int r]) rrM dL_law_522 mv_L_65 (m_M_runs v (xs (nI i + (1 : Int32)).toNatClampNeg) (xs (nI i + (2 : Int32)).toNatClampNeg) w q2) (hr_M u2 v w) nd_M rfl rfl rfl rfl rfl (Nat.le_of_ble_eq_true rfl) ⟨rfl, rfl⟩ ⟨by decide, by decide⟩ ⟨by decide, by decide⟩ (fun v h' hq => by rw [hq.2]; first | done | rfl) (fun v0 h0 hq => ?_)
  obtain ⟨rfl, rfl⟩ := hq
  refine v_heap (hp_M u2 v v2 w w) ?_
  refine v_st (st2 := [.int r, .int r]) rfl ?_
  refine v_icmp_eq (tgt := 1282) dL_law_525 (by decide) (fun _ => ?_) (fun c => absurd rfl c)
  exact kk u2 v2 w q3
set_option maxRecDepth 100000 in
set_option maxHeartbeats 4000000 in
theorem lc_ahead {nm : String} {Lx : Nat} {xs : Nat → Int32} {i : Nat} (hx1 : vp_in (nI i + (1 : Int32)) Lx) (hx2 : vp_in (nI i + (2 : Int32)) Lx) (hx3 : vp_in (nI i + (3 : Int32)) Lx) (hx4 : vp_in (nI i + (4 : Int32)) Lx) {Rl : (Nat → Nat → Int32) → (Nat → Nat → Int32) → Prop} (E_ahead : ∀ (u v : Nat → Nat → Int32) (a1 a2 : Int32), Rl u v → ∃ (r : Int32) (u2 : Nat → Nat → Int32) (v2 : Nat → Nat → Int32), d_F_ahead u a1 a2 = some (r, u2) ∧ d_M_ahead v a1 a2 = some (r, v2) ∧ Rl u2 v2) (u v : Nat → Nat → Int32) (w : Nat → Int64) (hR : Rl u v) (kk : ∀ (u v : Nat → Nat → Int32) (w : Nat → Int64), Rl u v → Vd RL nm cL_law 4 (some .boolean) room_1 (Q_law Lx xs) 600000 7302250 70 10812 1282 [(0, .retAddr 16), (1, .ref 0), (2, .ref 57), (3, .int (nI i))] [] (h_L u v w)) : Vd RL nm cL_law 4 (some .boolean) room_1 (Q_law Lx xs) 600000 7302250 70 10812 530 [(0, .retAddr 16), (1, .ref 0), (2, .ref 57), (3, .int (nI i))] [] (h_L u v w) := by
  obtain ⟨r, u2, v2, q1, q2, q3⟩ := E_ahead u v (xs (nI i + (1 : Int32)).toNatClampNeg) (xs (nI i + (2 : Int32)).toNatClampNeg) hR
  refine v_aload_n dL_law_530 rfl ?_
  refine v_xload dL_law_531 rfl ?_
  refine v_iload_n dL_law_532 rfl ?_
  refine v_iconst dL_law_533 ic_1 ?_
  refine v_iadd dL_law_534 ?_
  refine v_xld dL_law_535 hx1 ?_
  refine v_xload dL_law_536 rfl ?_
  refine v_iload_n dL_law_537 rfl ?_
  refine v_iconst dL_law_538 ic_2 ?_
  refine v_iadd dL_law_539 ?_
  refine v_xld dL_law_540 hx2 ?_
  refine v_invV (Ry := rm 5) (b := 0) (As := [.int (xs (nI i + (1 : Int32)).toNatClampNeg), .int (xs (nI i + (2 : Int32)).toNatClampNeg)]) (st := []) rrF dL_law_541 mv_L_66 (m_F_ahead u (xs (nI i + (1 : Int32)).toNatClampNeg) (xs (nI i + (2 : Int32)).toNatClampNeg) q1) (hr_F u v w) nd_F rfl rfl rfl rfl rfl (Nat.le_of_ble_eq_true rfl) ⟨rfl, rfl⟩ ⟨by decide, by decide⟩ ⟨by decide, by decide⟩ (fun v h' hq => by rw [hq.2]; first | done | rfl) (fun v0 h0 hq => ?_)
  obtain ⟨rfl, rfl⟩ := hq
  refine v_heap (hp_F u u2 v w) ?_
  refine v_st (st2 := [.int r]) rfl ?_
  refine v_aload_n dL_law_544 rfl ?_
  refine v_xload dL_law_545 rfl ?_
  refine v_iload_n dL_law_546 rfl ?_
  refine v_iconst dL_law_547 ic_1 ?_
  refine v_iadd dL_law_548 ?_
  refine v_xld dL_law_549 hx1 ?_
  refine v_xload dL_law_550 rfl ?_
  refine v_iload_n dL_law_551 rfl ?_
  refine v_iconst dL_law_552 ic_2 ?_
  refine v_iadd dL_law_553 ?_
  refine v_xld dL_law_554 hx2 ?_
  refine v_invV (Ry := rm 5) (b := 57) (As := [.int (xs (nI i + (1 : Int32)).toNatClampNeg), .int (xs (nI i + (2 : Int32)).toNatClampNeg)]) (st := [.int r]) rrM dL_law_555 mv_L_69 (m_M_ahead v (xs (nI i + (1 : Int32)).toNatClampNeg) (xs (nI i + (2 : Int32)).toNatClampNeg) w q2) (hr_M u2 v w) nd_M rfl rfl rfl rfl rfl (Nat.le_of_ble_eq_true rfl) ⟨rfl, rfl⟩ ⟨by decide, by decide⟩ ⟨by decide, by decide⟩ (fun v h' hq => by rw [hq.2]; first | done | rfl) (fun v0 h0 hq => ?_)
  obtain ⟨rfl, rfl⟩ := hq
  refine v_heap (hp_M u2 v v2 w w) ?_
  refine v_st (st2 := [.int r, .int r]) rfl ?_
  refine v_icmp_eq (tgt := 1282) dL_law_558 (by decide) (fun _ => ?_) (fun c => absurd rfl c)
  exact kk u2 v2 w q3
set_option maxRecDepth 100000 in
set_option maxHeartbeats 4000000 in
theorem lc_bare {nm : String} {Lx : Nat} {xs : Nat → Int32} {i : Nat} (hx1 : vp_in (nI i + (1 : Int32)) Lx) (hx2 : vp_in (nI i + (2 : Int32)) Lx) (hx3 : vp_in (nI i + (3 : Int32)) Lx) (hx4 : vp_in (nI i + (4 : Int32)) Lx) {Rl : (Nat → Nat → Int32) → (Nat → Nat → Int32) → Prop} (E_bare : ∀ (u v : Nat → Nat → Int32) (a1 : Int32), Rl u v → ∃ (r : Int32) (u2 : Nat → Nat → Int32) (v2 : Nat → Nat → Int32), d_F_bare u a1 = some (r, u2) ∧ d_M_bare v a1 = some (r, v2) ∧ Rl u2 v2) (u v : Nat → Nat → Int32) (w : Nat → Int64) (hR : Rl u v) (kk : ∀ (u v : Nat → Nat → Int32) (w : Nat → Int64), Rl u v → Vd RL nm cL_law 4 (some .boolean) room_1 (Q_law Lx xs) 600000 7302250 70 10812 1282 [(0, .retAddr 16), (1, .ref 0), (2, .ref 57), (3, .int (nI i))] [] (h_L u v w)) : Vd RL nm cL_law 4 (some .boolean) room_1 (Q_law Lx xs) 600000 7302250 70 10812 563 [(0, .retAddr 16), (1, .ref 0), (2, .ref 57), (3, .int (nI i))] [] (h_L u v w) := by
  obtain ⟨r, u2, v2, q1, q2, q3⟩ := E_bare u v (xs (nI i + (1 : Int32)).toNatClampNeg) hR
  refine v_aload_n dL_law_563 rfl ?_
  refine v_xload dL_law_564 rfl ?_
  refine v_iload_n dL_law_565 rfl ?_
  refine v_iconst dL_law_566 ic_1 ?_
  refine v_iadd dL_law_567 ?_
  refine v_xld dL_law_568 hx1 ?_
  refine v_invV (Ry := rm 4) (b := 0) (As := [.int (xs (nI i + (1 : Int32)).toNatClampNeg)]) (st := []) rrF dL_law_569 mv_L_70 (m_F_bare u (xs (nI i + (1 : Int32)).toNatClampNeg) q1) (hr_F u v w) nd_F rfl rfl rfl rfl rfl (Nat.le_of_ble_eq_true rfl) ⟨rfl, rfl⟩ ⟨by decide, by decide⟩ ⟨by decide, by decide⟩ (fun v h' hq => by rw [hq.2]; first | done | rfl) (fun v0 h0 hq => ?_)
  obtain ⟨rfl, rfl⟩ := hq
  refine v_heap (hp_F u u2 v w) ?_
  refine v_st (st2 := [.int r]) rfl ?_
  refine v_aload_n dL_law_572 rfl ?_
  refine v_xload dL_law_573 rfl ?_
  refine v_iload_n dL_law_574 rfl ?_
  refine v_iconst dL_law_575 ic_1 ?_
  refine v_iadd dL_law_576 ?_
  refine v_xld dL_law_577 hx1 ?_
  refine v_invV (Ry := rm 4) (b := 57) (As := [.int (xs (nI i + (1 : Int32)).toNatClampNeg)]) (st := [.int r]) rrM dL_law_578 mv_L_73 (m_M_bare v (xs (nI i + (1 : Int32)).toNatClampNeg) w q2) (hr_M u2 v w) nd_M rfl rfl rfl rfl rfl (Nat.le_of_ble_eq_true rfl) ⟨rfl, rfl⟩ ⟨by decide, by decide⟩ ⟨by decide, by decide⟩ (fun v h' hq => by rw [hq.2]; first | done | rfl) (fun v0 h0 hq => ?_)
  obtain ⟨rfl, rfl⟩ := hq
  refine v_heap (hp_M u2 v v2 w w) ?_
  refine v_st (st2 := [.int r, .int r]) rfl ?_
  refine v_icmp_eq (tgt := 1282) dL_law_581 (by decide) (fun _ => ?_) (fun c => absurd rfl c)
  exact kk u2 v2 w q3
set_option maxRecDepth 100000 in
set_option maxHeartbeats 4000000 in
theorem lc_best {nm : String} {Lx : Nat} {xs : Nat → Int32} {i : Nat} (hx1 : vp_in (nI i + (1 : Int32)) Lx) (hx2 : vp_in (nI i + (2 : Int32)) Lx) (hx3 : vp_in (nI i + (3 : Int32)) Lx) (hx4 : vp_in (nI i + (4 : Int32)) Lx) {Rl : (Nat → Nat → Int32) → (Nat → Nat → Int32) → Prop} (E_best : ∀ (u v : Nat → Nat → Int32) (a1 a2 : Int32), Rl u v → ∃ (r : Int32) (u2 : Nat → Nat → Int32) (v2 : Nat → Nat → Int32), d_F_best u a1 a2 = some (r, u2) ∧ d_M_best v a1 a2 = some (r, v2) ∧ Rl u2 v2) (u v : Nat → Nat → Int32) (w : Nat → Int64) (hR : Rl u v) (kk : ∀ (u v : Nat → Nat → Int32) (w : Nat → Int64), Rl u v → Vd RL nm cL_law 4 (some .boolean) room_1 (Q_law Lx xs) 600000 7302250 70 10812 1282 [(0, .retAddr 16), (1, .ref 0), (2, .ref 57), (3, .int (nI i))] [] (h_L u v w)) : Vd RL nm cL_law 4 (some .boolean) room_1 (Q_law Lx xs) 600000 7302250 70 10812 586 [(0, .retAddr 16), (1, .ref 0), (2, .ref 57), (3, .int (nI i))] [] (h_L u v w) := by
  obtain ⟨r, u2, v2, q1, q2, q3⟩ := E_best u v (xs (nI i + (1 : Int32)).toNatClampNeg) (xs (nI i + (2 : Int32)).toNatClampNeg) hR
  refine v_aload_n dL_law_586 rfl ?_
  refine v_xload dL_law_587 rfl ?_
  refine v_iload_n dL_law_588 rfl ?_
  refine v_iconst dL_law_589 ic_1 ?_
  refine v_iadd dL_law_590 ?_
  refine v_xld dL_law_591 hx1 ?_
  refine v_xload dL_law_592 rfl ?_
  refine v_iload_n dL_law_593 rfl ?_
  refine v_iconst dL_law_594 ic_2 ?_
  refine v_iadd dL_law_595 ?_
  refine v_xld dL_law_596 hx2 ?_
  refine v_invV (Ry := rm 6) (b := 0) (As := [.int (xs (nI i + (1 : Int32)).toNatClampNeg), .int (xs (nI i + (2 : Int32)).toNatClampNeg)]) (st := []) rrF dL_law_597 mv_L_74 (m_F_best u (xs (nI i + (1 : Int32)).toNatClampNeg) (xs (nI i + (2 : Int32)).toNatClampNeg) q1) (hr_F u v w) nd_F rfl rfl rfl rfl rfl (Nat.le_of_ble_eq_true rfl) ⟨rfl, rfl⟩ ⟨by decide, by decide⟩ ⟨by decide, by decide⟩ (fun v h' hq => by rw [hq.2]; first | done | rfl) (fun v0 h0 hq => ?_)
  obtain ⟨rfl, rfl⟩ := hq
  refine v_heap (hp_F u u2 v w) ?_
  refine v_st (st2 := [.int r]) rfl ?_
  refine v_aload_n dL_law_600 rfl ?_
  refine v_xload dL_law_601 rfl ?_
  refine v_iload_n dL_law_602 rfl ?_
  refine v_iconst dL_law_603 ic_1 ?_
  refine v_iadd dL_law_604 ?_
  refine v_xld dL_law_605 hx1 ?_
  refine v_xload dL_law_606 rfl ?_
  refine v_iload_n dL_law_607 rfl ?_
  refine v_iconst dL_law_608 ic_2 ?_
  refine v_iadd dL_law_609 ?_
  refine v_xld dL_law_610 hx2 ?_
  refine v_invV (Ry := rm 6) (b := 57) (As := [.int (xs (nI i + (1 : Int32)).toNatClampNeg), .int (xs (nI i + (2 : Int32)).toNatClampNeg)]) (st := [.int r]) rrM dL_law_611 mv_L_77 (m_M_best v (xs (nI i + (1 : Int32)).toNatClampNeg) (xs (nI i + (2 : Int32)).toNatClampNeg) w q2) (hr_M u2 v w) nd_M rfl rfl rfl rfl rfl (Nat.le_of_ble_eq_true rfl) ⟨rfl, rfl⟩ ⟨by decide, by decide⟩ ⟨by decide, by decide⟩ (fun v h' hq => by rw [hq.2]; first | done | rfl) (fun v0 h0 hq => ?_)
  obtain ⟨rfl, rfl⟩ := hq
  refine v_heap (hp_M u2 v v2 w w) ?_
  refine v_st (st2 := [.int r, .int r]) rfl ?_
  refine v_icmp_eq (tgt := 1282) dL_law_614 (by decide) (fun _ => ?_) (fun c => absurd rfl c)
  exact kk u2 v2 w q3
set_option maxRecDepth 100000 in
set_option maxHeartbeats 4000000 in
theorem lc_change {nm : String} {Lx : Nat} {xs : Nat → Int32} {i : Nat} (hx1 : vp_in (nI i + (1 : Int32)) Lx) (hx2 : vp_in (nI i + (2 : Int32)) Lx) (hx3 : vp_in (nI i + (3 : Int32)) Lx) (hx4 : vp_in (nI i + (4 : Int32)) Lx) {Rl : (Nat → Nat → Int32) → (Nat → Nat → Int32) → Prop} (E_change : ∀ (u v : Nat → Nat → Int32) (a1 a2 : Int32), Rl u v → ∃ (r : Int32) (u2 : Nat → Nat → Int32) (v2 : Nat → Nat → Int32), d_F_change u a1 a2 = some (r, u2) ∧ d_M_change v a1 a2 = some (r, v2) ∧ Rl u2 v2) (u v : Nat → Nat → Int32) (w : Nat → Int64) (hR : Rl u v) (kk : ∀ (u v : Nat → Nat → Int32) (w : Nat → Int64), Rl u v → Vd RL nm cL_law 4 (some .boolean) room_1 (Q_law Lx xs) 600000 7302250 70 10812 1282 [(0, .retAddr 16), (1, .ref 0), (2, .ref 57), (3, .int (nI i))] [] (h_L u v w)) : Vd RL nm cL_law 4 (some .boolean) room_1 (Q_law Lx xs) 600000 7302250 70 10812 619 [(0, .retAddr 16), (1, .ref 0), (2, .ref 57), (3, .int (nI i))] [] (h_L u v w) := by
  obtain ⟨r, u2, v2, q1, q2, q3⟩ := E_change u v (xs (nI i + (1 : Int32)).toNatClampNeg) (xs (nI i + (2 : Int32)).toNatClampNeg) hR
  refine v_aload_n dL_law_619 rfl ?_
  refine v_xload dL_law_620 rfl ?_
  refine v_iload_n dL_law_621 rfl ?_
  refine v_iconst dL_law_622 ic_1 ?_
  refine v_iadd dL_law_623 ?_
  refine v_xld dL_law_624 hx1 ?_
  refine v_xload dL_law_625 rfl ?_
  refine v_iload_n dL_law_626 rfl ?_
  refine v_iconst dL_law_627 ic_2 ?_
  refine v_iadd dL_law_628 ?_
  refine v_xld dL_law_629 hx2 ?_
  refine v_invV (Ry := rm 6) (b := 0) (As := [.int (xs (nI i + (1 : Int32)).toNatClampNeg), .int (xs (nI i + (2 : Int32)).toNatClampNeg)]) (st := []) rrF dL_law_630 mv_L_78 (m_F_change u (xs (nI i + (1 : Int32)).toNatClampNeg) (xs (nI i + (2 : Int32)).toNatClampNeg) q1) (hr_F u v w) nd_F rfl rfl rfl rfl rfl (Nat.le_of_ble_eq_true rfl) ⟨rfl, rfl⟩ ⟨by decide, by decide⟩ ⟨by decide, by decide⟩ (fun v h' hq => by rw [hq.2]; first | done | rfl) (fun v0 h0 hq => ?_)
  obtain ⟨rfl, rfl⟩ := hq
  refine v_heap (hp_F u u2 v w) ?_
  refine v_st (st2 := [.int r]) rfl ?_
  refine v_aload_n dL_law_633 rfl ?_
  refine v_xload dL_law_634 rfl ?_
  refine v_iload_n dL_law_635 rfl ?_
  refine v_iconst dL_law_636 ic_1 ?_
  refine v_iadd dL_law_637 ?_
  refine v_xld dL_law_638 hx1 ?_
  refine v_xload dL_law_639 rfl ?_
  refine v_iload_n dL_law_640 rfl ?_
  refine v_iconst dL_law_641 ic_2 ?_
  refine v_iadd dL_law_642 ?_
  refine v_xld dL_law_643 hx2 ?_
  refine v_invV (Ry := rm 6) (b := 57) (As := [.int (xs (nI i + (1 : Int32)).toNatClampNeg), .int (xs (nI i + (2 : Int32)).toNatClampNeg)]) (st := [.int r]) rrM dL_law_644 mv_L_81 (m_M_change v (xs (nI i + (1 : Int32)).toNatClampNeg) (xs (nI i + (2 : Int32)).toNatClampNeg) w q2) (hr_M u2 v w) nd_M rfl rfl rfl rfl rfl (Nat.le_of_ble_eq_true rfl) ⟨rfl, rfl⟩ ⟨by decide, by decide⟩ ⟨by decide, by decide⟩ (fun v h' hq => by rw [hq.2]; first | done | rfl) (fun v0 h0 hq => ?_)
  obtain ⟨rfl, rfl⟩ := hq
  refine v_heap (hp_M u2 v v2 w w) ?_
  refine v_st (st2 := [.int r, .int r]) rfl ?_
  refine v_icmp_eq (tgt := 1282) dL_law_647 (by decide) (fun _ => ?_) (fun c => absurd rfl c)
  exact kk u2 v2 w q3
set_option maxRecDepth 100000 in
set_option maxHeartbeats 4000000 in
theorem lc_cooks {nm : String} {Lx : Nat} {xs : Nat → Int32} {i : Nat} (hx1 : vp_in (nI i + (1 : Int32)) Lx) (hx2 : vp_in (nI i + (2 : Int32)) Lx) (hx3 : vp_in (nI i + (3 : Int32)) Lx) (hx4 : vp_in (nI i + (4 : Int32)) Lx) {Rl : (Nat → Nat → Int32) → (Nat → Nat → Int32) → Prop} (E_cooks : ∀ (u v : Nat → Nat → Int32) (a1 a2 : Int32), Rl u v → ∃ (r : Int32) (u2 : Nat → Nat → Int32) (v2 : Nat → Nat → Int32), d_F_cooks u a1 a2 = some (r, u2) ∧ d_M_cooks v a1 a2 = some (r, v2) ∧ Rl u2 v2) (u v : Nat → Nat → Int32) (w : Nat → Int64) (hR : Rl u v) (kk : ∀ (u v : Nat → Nat → Int32) (w : Nat → Int64), Rl u v → Vd RL nm cL_law 4 (some .boolean) room_1 (Q_law Lx xs) 600000 7302250 70 10812 1282 [(0, .retAddr 16), (1, .ref 0), (2, .ref 57), (3, .int (nI i))] [] (h_L u v w)) : Vd RL nm cL_law 4 (some .boolean) room_1 (Q_law Lx xs) 600000 7302250 70 10812 652 [(0, .retAddr 16), (1, .ref 0), (2, .ref 57), (3, .int (nI i))] [] (h_L u v w) := by
  obtain ⟨r, u2, v2, q1, q2, q3⟩ := E_cooks u v (xs (nI i + (1 : Int32)).toNatClampNeg) (xs (nI i + (2 : Int32)).toNatClampNeg) hR
  refine v_aload_n dL_law_652 rfl ?_
  refine v_xload dL_law_653 rfl ?_
  refine v_iload_n dL_law_654 rfl ?_
  refine v_iconst dL_law_655 ic_1 ?_
  refine v_iadd dL_law_656 ?_
  refine v_xld dL_law_657 hx1 ?_
  refine v_xload dL_law_658 rfl ?_
  refine v_iload_n dL_law_659 rfl ?_
  refine v_iconst dL_law_660 ic_2 ?_
  refine v_iadd dL_law_661 ?_
  refine v_xld dL_law_662 hx2 ?_
  refine v_invV (Ry := rm 6) (b := 0) (As := [.int (xs (nI i + (1 : Int32)).toNatClampNeg), .int (xs (nI i + (2 : Int32)).toNatClampNeg)]) (st := []) rrF dL_law_663 mv_L_82 (m_F_cooks u (xs (nI i + (1 : Int32)).toNatClampNeg) (xs (nI i + (2 : Int32)).toNatClampNeg) q1) (hr_F u v w) nd_F rfl rfl rfl rfl rfl (Nat.le_of_ble_eq_true rfl) ⟨rfl, rfl⟩ ⟨by decide, by decide⟩ ⟨by decide, by decide⟩ (fun v h' hq => by rw [hq.2]; first | done | rfl) (fun v0 h0 hq => ?_)
  obtain ⟨rfl, rfl⟩ := hq
  refine v_heap (hp_F u u2 v w) ?_
  refine v_st (st2 := [.int r]) rfl ?_
  refine v_aload_n dL_law_666 rfl ?_
  refine v_xload dL_law_667 rfl ?_
  refine v_iload_n dL_law_668 rfl ?_
  refine v_iconst dL_law_669 ic_1 ?_
  refine v_iadd dL_law_670 ?_
  refine v_xld dL_law_671 hx1 ?_
  refine v_xload dL_law_672 rfl ?_
  refine v_iload_n dL_law_673 rfl ?_
  refine v_iconst dL_law_674 ic_2 ?_
  refine v_iadd dL_law_675 ?_
  refine v_xld dL_law_676 hx2 ?_
  refine v_invV (Ry := rm 5) (b := 57) (As := [.int (xs (nI i + (1 : Int32)).toNatClampNeg), .int (xs (nI i + (2 : Int32)).toNatClampNeg)]) (st := [.int r]) rrM dL_law_677 mv_L_85 (m_M_cooks v (xs (nI i + (1 : Int32)).toNatClampNeg) (xs (nI i + (2 : Int32)).toNatClampNeg) w q2) (hr_M u2 v w) nd_M rfl rfl rfl rfl rfl (Nat.le_of_ble_eq_true rfl) ⟨rfl, rfl⟩ ⟨by decide, by decide⟩ ⟨by decide, by decide⟩ (fun v h' hq => by rw [hq.2]; first | done | rfl) (fun v0 h0 hq => ?_)
  obtain ⟨rfl, rfl⟩ := hq
  refine v_heap (hp_M u2 v v2 w w) ?_
  refine v_st (st2 := [.int r, .int r]) rfl ?_
  refine v_icmp_eq (tgt := 1282) dL_law_680 (by decide) (fun _ => ?_) (fun c => absurd rfl c)
  exact kk u2 v2 w q3
set_option maxRecDepth 100000 in
set_option maxHeartbeats 4000000 in
theorem lc_appease {nm : String} {Lx : Nat} {xs : Nat → Int32} {i : Nat} (hx1 : vp_in (nI i + (1 : Int32)) Lx) (hx2 : vp_in (nI i + (2 : Int32)) Lx) (hx3 : vp_in (nI i + (3 : Int32)) Lx) (hx4 : vp_in (nI i + (4 : Int32)) Lx) {Rl : (Nat → Nat → Int32) → (Nat → Nat → Int32) → Prop} (E_appease : ∀ (u v : Nat → Nat → Int32) (a1 a2 : Int32), Rl u v → ∃ (r : Int32) (u2 : Nat → Nat → Int32) (v2 : Nat → Nat → Int32), d_F_appease u a1 a2 = some (r, u2) ∧ d_M_appease v a1 a2 = some (r, v2) ∧ Rl u2 v2) (u v : Nat → Nat → Int32) (w : Nat → Int64) (hR : Rl u v) (kk : ∀ (u v : Nat → Nat → Int32) (w : Nat → Int64), Rl u v → Vd RL nm cL_law 4 (some .boolean) room_1 (Q_law Lx xs) 600000 7302250 70 10812 1282 [(0, .retAddr 16), (1, .ref 0), (2, .ref 57), (3, .int (nI i))] [] (h_L u v w)) : Vd RL nm cL_law 4 (some .boolean) room_1 (Q_law Lx xs) 600000 7302250 70 10812 685 [(0, .retAddr 16), (1, .ref 0), (2, .ref 57), (3, .int (nI i))] [] (h_L u v w) := by
  obtain ⟨r, u2, v2, q1, q2, q3⟩ := E_appease u v (xs (nI i + (1 : Int32)).toNatClampNeg) (xs (nI i + (2 : Int32)).toNatClampNeg) hR
  refine v_aload_n dL_law_685 rfl ?_
  refine v_xload dL_law_686 rfl ?_
  refine v_iload_n dL_law_687 rfl ?_
  refine v_iconst dL_law_688 ic_1 ?_
  refine v_iadd dL_law_689 ?_
  refine v_xld dL_law_690 hx1 ?_
  refine v_xload dL_law_691 rfl ?_
  refine v_iload_n dL_law_692 rfl ?_
  refine v_iconst dL_law_693 ic_2 ?_
  refine v_iadd dL_law_694 ?_
  refine v_xld dL_law_695 hx2 ?_
  refine v_invV (Ry := rm 5) (b := 0) (As := [.int (xs (nI i + (1 : Int32)).toNatClampNeg), .int (xs (nI i + (2 : Int32)).toNatClampNeg)]) (st := []) rrF dL_law_696 mv_L_86 (m_F_appease u (xs (nI i + (1 : Int32)).toNatClampNeg) (xs (nI i + (2 : Int32)).toNatClampNeg) q1) (hr_F u v w) nd_F rfl rfl rfl rfl rfl (Nat.le_of_ble_eq_true rfl) ⟨rfl, rfl⟩ ⟨by decide, by decide⟩ ⟨by decide, by decide⟩ (fun v h' hq => by rw [hq.2]; first | done | rfl) (fun v0 h0 hq => ?_)
  obtain ⟨rfl, rfl⟩ := hq
  refine v_heap (hp_F u u2 v w) ?_
  refine v_st (st2 := [.int r]) rfl ?_
  refine v_aload_n dL_law_699 rfl ?_
  refine v_xload dL_law_700 rfl ?_
  refine v_iload_n dL_law_701 rfl ?_
  refine v_iconst dL_law_702 ic_1 ?_
  refine v_iadd dL_law_703 ?_
  refine v_xld dL_law_704 hx1 ?_
  refine v_xload dL_law_705 rfl ?_
  refine v_iload_n dL_law_706 rfl ?_
  refine v_iconst dL_law_707 ic_2 ?_
  refine v_iadd dL_law_708 ?_
  refine v_xld dL_law_709 hx2 ?_
  refine v_invV (Ry := rm 4) (b := 57) (As := [.int (xs (nI i + (1 : Int32)).toNatClampNeg), .int (xs (nI i + (2 : Int32)).toNatClampNeg)]) (st := [.int r]) rrM dL_law_710 mv_L_89 (m_M_appease v (xs (nI i + (1 : Int32)).toNatClampNeg) (xs (nI i + (2 : Int32)).toNatClampNeg) w q2) (hr_M u2 v w) nd_M rfl rfl rfl rfl rfl (Nat.le_of_ble_eq_true rfl) ⟨rfl, rfl⟩ ⟨by decide, by decide⟩ ⟨by decide, by decide⟩ (fun v h' hq => by rw [hq.2]; first | done | rfl) (fun v0 h0 hq => ?_)
  obtain ⟨rfl, rfl⟩ := hq
  refine v_heap (hp_M u2 v v2 w w) ?_
  refine v_st (st2 := [.int r, .int r]) rfl ?_
  refine v_icmp_eq (tgt := 1282) dL_law_713 (by decide) (fun _ => ?_) (fun c => absurd rfl c)
  exact kk u2 v2 w q3
set_option maxRecDepth 100000 in
set_option maxHeartbeats 4000000 in
theorem lc_pray {nm : String} {Lx : Nat} {xs : Nat → Int32} {i : Nat} (hx1 : vp_in (nI i + (1 : Int32)) Lx) (hx2 : vp_in (nI i + (2 : Int32)) Lx) (hx3 : vp_in (nI i + (3 : Int32)) Lx) (hx4 : vp_in (nI i + (4 : Int32)) Lx) {Rl : (Nat → Nat → Int32) → (Nat → Nat → Int32) → Prop} (E_pray : ∀ (u v : Nat → Nat → Int32) (a1 : Int32), Rl u v → ∃ (r : Int32) (u2 : Nat → Nat → Int32) (v2 : Nat → Nat → Int32), d_F_pray u a1 = some (r, u2) ∧ d_M_pray v a1 = some (r, v2) ∧ Rl u2 v2) (u v : Nat → Nat → Int32) (w : Nat → Int64) (hR : Rl u v) (kk : ∀ (u v : Nat → Nat → Int32) (w : Nat → Int64), Rl u v → Vd RL nm cL_law 4 (some .boolean) room_1 (Q_law Lx xs) 600000 7302250 70 10812 1282 [(0, .retAddr 16), (1, .ref 0), (2, .ref 57), (3, .int (nI i))] [] (h_L u v w)) : Vd RL nm cL_law 4 (some .boolean) room_1 (Q_law Lx xs) 600000 7302250 70 10812 718 [(0, .retAddr 16), (1, .ref 0), (2, .ref 57), (3, .int (nI i))] [] (h_L u v w) := by
  obtain ⟨r, u2, v2, q1, q2, q3⟩ := E_pray u v (xs (nI i + (1 : Int32)).toNatClampNeg) hR
  refine v_aload_n dL_law_718 rfl ?_
  refine v_xload dL_law_719 rfl ?_
  refine v_iload_n dL_law_720 rfl ?_
  refine v_iconst dL_law_721 ic_1 ?_
  refine v_iadd dL_law_722 ?_
  refine v_xld dL_law_723 hx1 ?_
  refine v_invV (Ry := rm 6) (b := 0) (As := [.int (xs (nI i + (1 : Int32)).toNatClampNeg)]) (st := []) rrF dL_law_724 mv_L_90 (m_F_pray u (xs (nI i + (1 : Int32)).toNatClampNeg) q1) (hr_F u v w) nd_F rfl rfl rfl rfl rfl (Nat.le_of_ble_eq_true rfl) ⟨rfl, rfl⟩ ⟨by decide, by decide⟩ ⟨by decide, by decide⟩ (fun v h' hq => by rw [hq.2]; first | done | rfl) (fun v0 h0 hq => ?_)
  obtain ⟨rfl, rfl⟩ := hq
  refine v_heap (hp_F u u2 v w) ?_
  refine v_st (st2 := [.int r]) rfl ?_
  refine v_aload_n dL_law_727 rfl ?_
  refine v_xload dL_law_728 rfl ?_
  refine v_iload_n dL_law_729 rfl ?_
  refine v_iconst dL_law_730 ic_1 ?_
  refine v_iadd dL_law_731 ?_
  refine v_xld dL_law_732 hx1 ?_
  refine v_invV (Ry := rm 6) (b := 57) (As := [.int (xs (nI i + (1 : Int32)).toNatClampNeg)]) (st := [.int r]) rrM dL_law_733 mv_L_93 (m_M_pray v (xs (nI i + (1 : Int32)).toNatClampNeg) w q2) (hr_M u2 v w) nd_M rfl rfl rfl rfl rfl (Nat.le_of_ble_eq_true rfl) ⟨rfl, rfl⟩ ⟨by decide, by decide⟩ ⟨by decide, by decide⟩ (fun v h' hq => by rw [hq.2]; first | done | rfl) (fun v0 h0 hq => ?_)
  obtain ⟨rfl, rfl⟩ := hq
  refine v_heap (hp_M u2 v v2 w w) ?_
  refine v_st (st2 := [.int r, .int r]) rfl ?_
  refine v_icmp_eq (tgt := 1282) dL_law_736 (by decide) (fun _ => ?_) (fun c => absurd rfl c)
  exact kk u2 v2 w q3
set_option maxRecDepth 100000 in
set_option maxHeartbeats 4000000 in
theorem lc_value {nm : String} {Lx : Nat} {xs : Nat → Int32} {i : Nat} (hx1 : vp_in (nI i + (1 : Int32)) Lx) (hx2 : vp_in (nI i + (2 : Int32)) Lx) (hx3 : vp_in (nI i + (3 : Int32)) Lx) (hx4 : vp_in (nI i + (4 : Int32)) Lx) {Rl : (Nat → Nat → Int32) → (Nat → Nat → Int32) → Prop} (E_value : ∀ (u v : Nat → Nat → Int32) (a1 a2 : Int32), Rl u v → ∃ (r : Int32) (u2 : Nat → Nat → Int32) (v2 : Nat → Nat → Int32), d_F_value u a1 a2 = some (r, u2) ∧ d_M_value v a1 a2 = some (r, v2) ∧ Rl u2 v2) (u v : Nat → Nat → Int32) (w : Nat → Int64) (hR : Rl u v) (kk : ∀ (u v : Nat → Nat → Int32) (w : Nat → Int64), Rl u v → Vd RL nm cL_law 4 (some .boolean) room_1 (Q_law Lx xs) 600000 7302250 70 10812 1282 [(0, .retAddr 16), (1, .ref 0), (2, .ref 57), (3, .int (nI i))] [] (h_L u v w)) : Vd RL nm cL_law 4 (some .boolean) room_1 (Q_law Lx xs) 600000 7302250 70 10812 741 [(0, .retAddr 16), (1, .ref 0), (2, .ref 57), (3, .int (nI i))] [] (h_L u v w) := by
  obtain ⟨r, u2, v2, q1, q2, q3⟩ := E_value u v (xs (nI i + (1 : Int32)).toNatClampNeg) (xs (nI i + (2 : Int32)).toNatClampNeg) hR
  refine v_aload_n dL_law_741 rfl ?_
  refine v_xload dL_law_742 rfl ?_
  refine v_iload_n dL_law_743 rfl ?_
  refine v_iconst dL_law_744 ic_1 ?_
  refine v_iadd dL_law_745 ?_
  refine v_xld dL_law_746 hx1 ?_
  refine v_xload dL_law_747 rfl ?_
  refine v_iload_n dL_law_748 rfl ?_
  refine v_iconst dL_law_749 ic_2 ?_
  refine v_iadd dL_law_750 ?_
  refine v_xld dL_law_751 hx2 ?_
  refine v_invV (Ry := rm 6) (b := 0) (As := [.int (xs (nI i + (1 : Int32)).toNatClampNeg), .int (xs (nI i + (2 : Int32)).toNatClampNeg)]) (st := []) rrF dL_law_752 mv_L_94 (m_F_value u (xs (nI i + (1 : Int32)).toNatClampNeg) (xs (nI i + (2 : Int32)).toNatClampNeg) q1) (hr_F u v w) nd_F rfl rfl rfl rfl rfl (Nat.le_of_ble_eq_true rfl) ⟨rfl, rfl⟩ ⟨by decide, by decide⟩ ⟨by decide, by decide⟩ (fun v h' hq => by rw [hq.2]; first | done | rfl) (fun v0 h0 hq => ?_)
  obtain ⟨rfl, rfl⟩ := hq
  refine v_heap (hp_F u u2 v w) ?_
  refine v_st (st2 := [.int r]) rfl ?_
  refine v_aload_n dL_law_755 rfl ?_
  refine v_xload dL_law_756 rfl ?_
  refine v_iload_n dL_law_757 rfl ?_
  refine v_iconst dL_law_758 ic_1 ?_
  refine v_iadd dL_law_759 ?_
  refine v_xld dL_law_760 hx1 ?_
  refine v_xload dL_law_761 rfl ?_
  refine v_iload_n dL_law_762 rfl ?_
  refine v_iconst dL_law_763 ic_2 ?_
  refine v_iadd dL_law_764 ?_
  refine v_xld dL_law_765 hx2 ?_
  refine v_invV (Ry := rm 7) (b := 57) (As := [.int (xs (nI i + (1 : Int32)).toNatClampNeg), .int (xs (nI i + (2 : Int32)).toNatClampNeg)]) (st := [.int r]) rrM dL_law_766 mv_L_97 (m_M_value v (xs (nI i + (1 : Int32)).toNatClampNeg) (xs (nI i + (2 : Int32)).toNatClampNeg) w q2) (hr_M u2 v w) nd_M rfl rfl rfl rfl rfl (Nat.le_of_ble_eq_true rfl) ⟨rfl, rfl⟩ ⟨by decide, by decide⟩ ⟨by decide, by decide⟩ (fun v h' hq => by rw [hq.2]; first | done | rfl) (fun v0 h0 hq => ?_)
  obtain ⟨rfl, rfl⟩ := hq
  refine v_heap (hp_M u2 v v2 w w) ?_
  refine v_st (st2 := [.int r, .int r]) rfl ?_
  refine v_icmp_eq (tgt := 1282) dL_law_769 (by decide) (fun _ => ?_) (fun c => absurd rfl c)
  exact kk u2 v2 w q3
set_option maxRecDepth 100000 in
set_option maxHeartbeats 4000000 in
theorem lc_share {nm : String} {Lx : Nat} {xs : Nat → Int32} {i : Nat} (hx1 : vp_in (nI i + (1 : Int32)) Lx) (hx2 : vp_in (nI i + (2 : Int32)) Lx) (hx3 : vp_in (nI i + (3 : Int32)) Lx) (hx4 : vp_in (nI i + (4 : Int32)) Lx) {Rl : (Nat → Nat → Int32) → (Nat → Nat → Int32) → Prop} (E_share : ∀ (u v : Nat → Nat → Int32) (a1 a2 a3 : Int32), Rl u v → ∃ (r : Int64) (u2 : Nat → Nat → Int32) (v2 : Nat → Nat → Int32), d_F_share u a1 a2 a3 = some (r, u2) ∧ d_M_share v a1 a2 a3 = some (r, v2) ∧ Rl u2 v2) (u v : Nat → Nat → Int32) (w : Nat → Int64) (hR : Rl u v) (kk : ∀ (u v : Nat → Nat → Int32) (w : Nat → Int64), Rl u v → Vd RL nm cL_law 4 (some .boolean) room_1 (Q_law Lx xs) 600000 7302250 70 10812 1282 [(0, .retAddr 16), (1, .ref 0), (2, .ref 57), (3, .int (nI i))] [] (h_L u v w)) : Vd RL nm cL_law 4 (some .boolean) room_1 (Q_law Lx xs) 600000 7302250 70 10812 774 [(0, .retAddr 16), (1, .ref 0), (2, .ref 57), (3, .int (nI i))] [] (h_L u v w) := by
  obtain ⟨r, u2, v2, q1, q2, q3⟩ := E_share u v (xs (nI i + (1 : Int32)).toNatClampNeg) (xs (nI i + (2 : Int32)).toNatClampNeg) (xs (nI i + (3 : Int32)).toNatClampNeg) hR
  refine v_aload_n dL_law_774 rfl ?_
  refine v_xload dL_law_775 rfl ?_
  refine v_iload_n dL_law_776 rfl ?_
  refine v_iconst dL_law_777 ic_1 ?_
  refine v_iadd dL_law_778 ?_
  refine v_xld dL_law_779 hx1 ?_
  refine v_xload dL_law_780 rfl ?_
  refine v_iload_n dL_law_781 rfl ?_
  refine v_iconst dL_law_782 ic_2 ?_
  refine v_iadd dL_law_783 ?_
  refine v_xld dL_law_784 hx2 ?_
  refine v_xload dL_law_785 rfl ?_
  refine v_iload_n dL_law_786 rfl ?_
  refine v_iconst dL_law_787 ic_3 ?_
  refine v_iadd dL_law_788 ?_
  refine v_xld dL_law_789 hx3 ?_
  refine v_invV (Ry := rm 6) (b := 0) (As := [.int (xs (nI i + (1 : Int32)).toNatClampNeg), .int (xs (nI i + (2 : Int32)).toNatClampNeg), .int (xs (nI i + (3 : Int32)).toNatClampNeg)]) (st := []) rrF dL_law_790 mv_L_98 (m_F_share u (xs (nI i + (1 : Int32)).toNatClampNeg) (xs (nI i + (2 : Int32)).toNatClampNeg) (xs (nI i + (3 : Int32)).toNatClampNeg) q1) (hr_F u v w) nd_F rfl rfl rfl rfl rfl (Nat.le_of_ble_eq_true rfl) ⟨rfl, rfl⟩ ⟨by decide, by decide⟩ ⟨by decide, by decide⟩ (fun v h' hq => by rw [hq.2]; first | done | rfl) (fun v0 h0 hq => ?_)
  obtain ⟨rfl, rfl⟩ := hq
  refine v_heap (hp_F u u2 v w) ?_
  refine v_st (st2 := [.long r]) rfl ?_
  refine v_aload_n dL_law_793 rfl ?_
  refine v_xload dL_law_794 rfl ?_
  refine v_iload_n dL_law_795 rfl ?_
  refine v_iconst dL_law_796 ic_1 ?_
  refine v_iadd dL_law_797 ?_
  refine v_xld dL_law_798 hx1 ?_
  refine v_xload dL_law_799 rfl ?_
  refine v_iload_n dL_law_800 rfl ?_
  refine v_iconst dL_law_801 ic_2 ?_
  refine v_iadd dL_law_802 ?_
  refine v_xld dL_law_803 hx2 ?_
  refine v_xload dL_law_804 rfl ?_
  refine v_iload_n dL_law_805 rfl ?_
  refine v_iconst dL_law_806 ic_3 ?_
  refine v_iadd dL_law_807 ?_
  refine v_xld dL_law_808 hx3 ?_
  refine v_invV (Ry := rm 7) (b := 57) (As := [.int (xs (nI i + (1 : Int32)).toNatClampNeg), .int (xs (nI i + (2 : Int32)).toNatClampNeg), .int (xs (nI i + (3 : Int32)).toNatClampNeg)]) (st := [.long r]) rrM dL_law_809 mv_L_102 (m_M_share v (xs (nI i + (1 : Int32)).toNatClampNeg) (xs (nI i + (2 : Int32)).toNatClampNeg) (xs (nI i + (3 : Int32)).toNatClampNeg) w q2) (hr_M u2 v w) nd_M rfl rfl rfl rfl rfl (Nat.le_of_ble_eq_true rfl) ⟨rfl, rfl⟩ ⟨by decide, by decide⟩ ⟨by decide, by decide⟩ (fun v h' hq => by rw [hq.2]; first | done | rfl) (fun v0 h0 hq => ?_)
  obtain ⟨rfl, rfl⟩ := hq
  refine v_heap (hp_M u2 v v2 w w) ?_
  refine v_st (st2 := [.long r, .long r]) rfl ?_
  refine v_lcmp dL_law_812 ?_
  refine v_if_eq (tgt := 1282) dL_law_813 (by decide) (fun _ => ?_) (fun c => absurd (lg_self r) c)
  exact kk u2 v2 w q3
set_option maxRecDepth 100000 in
set_option maxHeartbeats 4000000 in
theorem lc_luck {nm : String} {Lx : Nat} {xs : Nat → Int32} {i : Nat} (hx1 : vp_in (nI i + (1 : Int32)) Lx) (hx2 : vp_in (nI i + (2 : Int32)) Lx) (hx3 : vp_in (nI i + (3 : Int32)) Lx) (hx4 : vp_in (nI i + (4 : Int32)) Lx) {Rl : (Nat → Nat → Int32) → (Nat → Nat → Int32) → Prop} (E_luck : ∀ (u v : Nat → Nat → Int32) (w : Nat → Int64) (a1 a2 a3 : Int32), Rl u v → ∃ (r : Int64) (u2 : Nat → Nat → Int32) (v2 : Nat → Nat → Int32) (w2 : Nat → Int64), d_F_luck u a1 a2 a3 = some (r, u2) ∧ d_M_luck v w a1 a2 a3 = some (r, v2, w2) ∧ Rl u2 v2) (u v : Nat → Nat → Int32) (w : Nat → Int64) (hR : Rl u v) (kk : ∀ (u v : Nat → Nat → Int32) (w : Nat → Int64), Rl u v → Vd RL nm cL_law 4 (some .boolean) room_1 (Q_law Lx xs) 600000 7302250 70 10812 1282 [(0, .retAddr 16), (1, .ref 0), (2, .ref 57), (3, .int (nI i))] [] (h_L u v w)) : Vd RL nm cL_law 4 (some .boolean) room_1 (Q_law Lx xs) 600000 7302250 70 10812 818 [(0, .retAddr 16), (1, .ref 0), (2, .ref 57), (3, .int (nI i))] [] (h_L u v w) := by
  obtain ⟨r, u2, v2, w2, q1, q2, q3⟩ := E_luck u v w (xs (nI i + (1 : Int32)).toNatClampNeg) (xs (nI i + (2 : Int32)).toNatClampNeg) (xs (nI i + (3 : Int32)).toNatClampNeg) hR
  refine v_aload_n dL_law_818 rfl ?_
  refine v_xload dL_law_819 rfl ?_
  refine v_iload_n dL_law_820 rfl ?_
  refine v_iconst dL_law_821 ic_1 ?_
  refine v_iadd dL_law_822 ?_
  refine v_xld dL_law_823 hx1 ?_
  refine v_xload dL_law_824 rfl ?_
  refine v_iload_n dL_law_825 rfl ?_
  refine v_iconst dL_law_826 ic_2 ?_
  refine v_iadd dL_law_827 ?_
  refine v_xld dL_law_828 hx2 ?_
  refine v_xload dL_law_829 rfl ?_
  refine v_iload_n dL_law_830 rfl ?_
  refine v_iconst dL_law_831 ic_3 ?_
  refine v_iadd dL_law_832 ?_
  refine v_xld dL_law_833 hx3 ?_
  refine v_invV (Ry := rm 6) (b := 0) (As := [.int (xs (nI i + (1 : Int32)).toNatClampNeg), .int (xs (nI i + (2 : Int32)).toNatClampNeg), .int (xs (nI i + (3 : Int32)).toNatClampNeg)]) (st := []) rrF dL_law_834 mv_L_103 (m_F_luck u (xs (nI i + (1 : Int32)).toNatClampNeg) (xs (nI i + (2 : Int32)).toNatClampNeg) (xs (nI i + (3 : Int32)).toNatClampNeg) q1) (hr_F u v w) nd_F rfl rfl rfl rfl rfl (Nat.le_of_ble_eq_true rfl) ⟨rfl, rfl⟩ ⟨by decide, by decide⟩ ⟨by decide, by decide⟩ (fun v h' hq => by rw [hq.2]; first | done | rfl) (fun v0 h0 hq => ?_)
  obtain ⟨rfl, rfl⟩ := hq
  refine v_heap (hp_F u u2 v w) ?_
  refine v_st (st2 := [.long r]) rfl ?_
  refine v_aload_n dL_law_837 rfl ?_
  refine v_xload dL_law_838 rfl ?_
  refine v_iload_n dL_law_839 rfl ?_
  refine v_iconst dL_law_840 ic_1 ?_
  refine v_iadd dL_law_841 ?_
  refine v_xld dL_law_842 hx1 ?_
  refine v_xload dL_law_843 rfl ?_
  refine v_iload_n dL_law_844 rfl ?_
  refine v_iconst dL_law_845 ic_2 ?_
  refine v_iadd dL_law_846 ?_
  refine v_xld dL_law_847 hx2 ?_
  refine v_xload dL_law_848 rfl ?_
  refine v_iload_n dL_law_849 rfl ?_
  refine v_iconst dL_law_850 ic_3 ?_
  refine v_iadd dL_law_851 ?_
  refine v_xld dL_law_852 hx3 ?_
  refine v_invV (Ry := rm 7) (b := 57) (As := [.int (xs (nI i + (1 : Int32)).toNatClampNeg), .int (xs (nI i + (2 : Int32)).toNatClampNeg), .int (xs (nI i + (3 : Int32)).toNatClampNeg)]) (st := [.long r]) rrM dL_law_853 mv_L_106 (m_M_luck v w (xs (nI i + (1 : Int32)).toNatClampNeg) (xs (nI i + (2 : Int32)).toNatClampNeg) (xs (nI i + (3 : Int32)).toNatClampNeg) q2) (hr_M u2 v w) nd_M rfl rfl rfl rfl rfl (Nat.le_of_ble_eq_true rfl) ⟨rfl, rfl⟩ ⟨by decide, by decide⟩ ⟨by decide, by decide⟩ (fun v h' hq => by rw [hq.2]; first | done | rfl) (fun v0 h0 hq => ?_)
  obtain ⟨rfl, rfl⟩ := hq
  refine v_heap (hp_M u2 v v2 w w2) ?_
  refine v_st (st2 := [.long r, .long r]) rfl ?_
  refine v_lcmp dL_law_856 ?_
  refine v_if_eq (tgt := 1282) dL_law_857 (by decide) (fun _ => ?_) (fun c => absurd (lg_self r) c)
  exact kk u2 v2 w2 q3
set_option maxRecDepth 100000 in
set_option maxHeartbeats 4000000 in
theorem lc_mean {nm : String} {Lx : Nat} {xs : Nat → Int32} {i : Nat} (hx1 : vp_in (nI i + (1 : Int32)) Lx) (hx2 : vp_in (nI i + (2 : Int32)) Lx) (hx3 : vp_in (nI i + (3 : Int32)) Lx) (hx4 : vp_in (nI i + (4 : Int32)) Lx) {Rl : (Nat → Nat → Int32) → (Nat → Nat → Int32) → Prop} (E_mean : ∀ (u v : Nat → Nat → Int32) (w : Nat → Int64) (a1 a2 a3 : Int32), Rl u v → ∃ (r : Int64) (u2 : Nat → Nat → Int32) (v2 : Nat → Nat → Int32) (w2 : Nat → Int64), d_F_mean u a1 a2 a3 = some (r, u2) ∧ d_M_mean v w a1 a2 a3 = some (r, v2, w2) ∧ Rl u2 v2) (u v : Nat → Nat → Int32) (w : Nat → Int64) (hR : Rl u v) (kk : ∀ (u v : Nat → Nat → Int32) (w : Nat → Int64), Rl u v → Vd RL nm cL_law 4 (some .boolean) room_1 (Q_law Lx xs) 600000 7302250 70 10812 1282 [(0, .retAddr 16), (1, .ref 0), (2, .ref 57), (3, .int (nI i))] [] (h_L u v w)) : Vd RL nm cL_law 4 (some .boolean) room_1 (Q_law Lx xs) 600000 7302250 70 10812 862 [(0, .retAddr 16), (1, .ref 0), (2, .ref 57), (3, .int (nI i))] [] (h_L u v w) := by
  obtain ⟨r, u2, v2, w2, q1, q2, q3⟩ := E_mean u v w (xs (nI i + (1 : Int32)).toNatClampNeg) (xs (nI i + (2 : Int32)).toNatClampNeg) (xs (nI i + (3 : Int32)).toNatClampNeg) hR
  refine v_aload_n dL_law_862 rfl ?_
  refine v_xload dL_law_863 rfl ?_
  refine v_iload_n dL_law_864 rfl ?_
  refine v_iconst dL_law_865 ic_1 ?_
  refine v_iadd dL_law_866 ?_
  refine v_xld dL_law_867 hx1 ?_
  refine v_xload dL_law_868 rfl ?_
  refine v_iload_n dL_law_869 rfl ?_
  refine v_iconst dL_law_870 ic_2 ?_
  refine v_iadd dL_law_871 ?_
  refine v_xld dL_law_872 hx2 ?_
  refine v_xload dL_law_873 rfl ?_
  refine v_iload_n dL_law_874 rfl ?_
  refine v_iconst dL_law_875 ic_3 ?_
  refine v_iadd dL_law_876 ?_
  refine v_xld dL_law_877 hx3 ?_
  refine v_invV (Ry := rm 6) (b := 0) (As := [.int (xs (nI i + (1 : Int32)).toNatClampNeg), .int (xs (nI i + (2 : Int32)).toNatClampNeg), .int (xs (nI i + (3 : Int32)).toNatClampNeg)]) (st := []) rrF dL_law_878 mv_L_107 (m_F_mean u (xs (nI i + (1 : Int32)).toNatClampNeg) (xs (nI i + (2 : Int32)).toNatClampNeg) (xs (nI i + (3 : Int32)).toNatClampNeg) q1) (hr_F u v w) nd_F rfl rfl rfl rfl rfl (Nat.le_of_ble_eq_true rfl) ⟨rfl, rfl⟩ ⟨by decide, by decide⟩ ⟨by decide, by decide⟩ (fun v h' hq => by rw [hq.2]; first | done | rfl) (fun v0 h0 hq => ?_)
  obtain ⟨rfl, rfl⟩ := hq
  refine v_heap (hp_F u u2 v w) ?_
  refine v_st (st2 := [.long r]) rfl ?_
  refine v_aload_n dL_law_881 rfl ?_
  refine v_xload dL_law_882 rfl ?_
  refine v_iload_n dL_law_883 rfl ?_
  refine v_iconst dL_law_884 ic_1 ?_
  refine v_iadd dL_law_885 ?_
  refine v_xld dL_law_886 hx1 ?_
  refine v_xload dL_law_887 rfl ?_
  refine v_iload_n dL_law_888 rfl ?_
  refine v_iconst dL_law_889 ic_2 ?_
  refine v_iadd dL_law_890 ?_
  refine v_xld dL_law_891 hx2 ?_
  refine v_xload dL_law_892 rfl ?_
  refine v_iload_n dL_law_893 rfl ?_
  refine v_iconst dL_law_894 ic_3 ?_
  refine v_iadd dL_law_895 ?_
  refine v_xld dL_law_896 hx3 ?_
  refine v_invV (Ry := rm 7) (b := 57) (As := [.int (xs (nI i + (1 : Int32)).toNatClampNeg), .int (xs (nI i + (2 : Int32)).toNatClampNeg), .int (xs (nI i + (3 : Int32)).toNatClampNeg)]) (st := [.long r]) rrM dL_law_897 mv_L_110 (m_M_mean v w (xs (nI i + (1 : Int32)).toNatClampNeg) (xs (nI i + (2 : Int32)).toNatClampNeg) (xs (nI i + (3 : Int32)).toNatClampNeg) q2) (hr_M u2 v w) nd_M rfl rfl rfl rfl rfl (Nat.le_of_ble_eq_true rfl) ⟨rfl, rfl⟩ ⟨by decide, by decide⟩ ⟨by decide, by decide⟩ (fun v h' hq => by rw [hq.2]; first | done | rfl) (fun v0 h0 hq => ?_)
  obtain ⟨rfl, rfl⟩ := hq
  refine v_heap (hp_M u2 v v2 w w2) ?_
  refine v_st (st2 := [.long r, .long r]) rfl ?_
  refine v_lcmp dL_law_900 ?_
  refine v_if_eq (tgt := 1282) dL_law_901 (by decide) (fun _ => ?_) (fun c => absurd (lg_self r) c)
  exact kk u2 v2 w2 q3
set_option maxRecDepth 100000 in
set_option maxHeartbeats 4000000 in
theorem lc_see {nm : String} {Lx : Nat} {xs : Nat → Int32} {i : Nat} (hx1 : vp_in (nI i + (1 : Int32)) Lx) (hx2 : vp_in (nI i + (2 : Int32)) Lx) (hx3 : vp_in (nI i + (3 : Int32)) Lx) (hx4 : vp_in (nI i + (4 : Int32)) Lx) {Rl : (Nat → Nat → Int32) → (Nat → Nat → Int32) → Prop} (E_see : ∀ (u v : Nat → Nat → Int32) (a1 a2 a3 : Int32), Rl u v → ∃ (r : Int32) (u2 : Nat → Nat → Int32) (v2 : Nat → Nat → Int32), d_F_see u a1 a2 a3 = some (r, u2) ∧ d_M_see v a1 a2 a3 = some (r, v2) ∧ Rl u2 v2) (u v : Nat → Nat → Int32) (w : Nat → Int64) (hR : Rl u v) (kk : ∀ (u v : Nat → Nat → Int32) (w : Nat → Int64), Rl u v → Vd RL nm cL_law 4 (some .boolean) room_1 (Q_law Lx xs) 600000 7302250 70 10812 1282 [(0, .retAddr 16), (1, .ref 0), (2, .ref 57), (3, .int (nI i))] [] (h_L u v w)) : Vd RL nm cL_law 4 (some .boolean) room_1 (Q_law Lx xs) 600000 7302250 70 10812 906 [(0, .retAddr 16), (1, .ref 0), (2, .ref 57), (3, .int (nI i))] [] (h_L u v w) := by
  obtain ⟨r, u2, v2, q1, q2, q3⟩ := E_see u v (xs (nI i + (1 : Int32)).toNatClampNeg) (xs (nI i + (2 : Int32)).toNatClampNeg) (xs (nI i + (3 : Int32)).toNatClampNeg) hR
  refine v_aload_n dL_law_906 rfl ?_
  refine v_xload dL_law_907 rfl ?_
  refine v_iload_n dL_law_908 rfl ?_
  refine v_iconst dL_law_909 ic_1 ?_
  refine v_iadd dL_law_910 ?_
  refine v_xld dL_law_911 hx1 ?_
  refine v_xload dL_law_912 rfl ?_
  refine v_iload_n dL_law_913 rfl ?_
  refine v_iconst dL_law_914 ic_2 ?_
  refine v_iadd dL_law_915 ?_
  refine v_xld dL_law_916 hx2 ?_
  refine v_xload dL_law_917 rfl ?_
  refine v_iload_n dL_law_918 rfl ?_
  refine v_iconst dL_law_919 ic_3 ?_
  refine v_iadd dL_law_920 ?_
  refine v_xld dL_law_921 hx3 ?_
  refine v_invV (Ry := rm 1) (b := 0) (As := [.int (xs (nI i + (1 : Int32)).toNatClampNeg), .int (xs (nI i + (2 : Int32)).toNatClampNeg), .int (xs (nI i + (3 : Int32)).toNatClampNeg)]) (st := []) rrF dL_law_922 mv_L_111 (m_F_see u (xs (nI i + (1 : Int32)).toNatClampNeg) (xs (nI i + (2 : Int32)).toNatClampNeg) (xs (nI i + (3 : Int32)).toNatClampNeg) q1) (hr_F u v w) nd_F rfl rfl rfl rfl rfl (Nat.le_of_ble_eq_true rfl) ⟨rfl, rfl⟩ ⟨by decide, by decide⟩ ⟨by decide, by decide⟩ (fun v h' hq => by rw [hq.2]; first | done | rfl) (fun v0 h0 hq => ?_)
  obtain ⟨rfl, rfl⟩ := hq
  refine v_heap (hp_F u u2 v w) ?_
  refine v_st (st2 := [.int r]) rfl ?_
  refine v_aload_n dL_law_925 rfl ?_
  refine v_xload dL_law_926 rfl ?_
  refine v_iload_n dL_law_927 rfl ?_
  refine v_iconst dL_law_928 ic_1 ?_
  refine v_iadd dL_law_929 ?_
  refine v_xld dL_law_930 hx1 ?_
  refine v_xload dL_law_931 rfl ?_
  refine v_iload_n dL_law_932 rfl ?_
  refine v_iconst dL_law_933 ic_2 ?_
  refine v_iadd dL_law_934 ?_
  refine v_xld dL_law_935 hx2 ?_
  refine v_xload dL_law_936 rfl ?_
  refine v_iload_n dL_law_937 rfl ?_
  refine v_iconst dL_law_938 ic_3 ?_
  refine v_iadd dL_law_939 ?_
  refine v_xld dL_law_940 hx3 ?_
  refine v_invV (Ry := rm 2) (b := 57) (As := [.int (xs (nI i + (1 : Int32)).toNatClampNeg), .int (xs (nI i + (2 : Int32)).toNatClampNeg), .int (xs (nI i + (3 : Int32)).toNatClampNeg)]) (st := [.int r]) rrM dL_law_941 mv_L_114 (m_M_see v (xs (nI i + (1 : Int32)).toNatClampNeg) (xs (nI i + (2 : Int32)).toNatClampNeg) (xs (nI i + (3 : Int32)).toNatClampNeg) w q2) (hr_M u2 v w) nd_M rfl rfl rfl rfl rfl (Nat.le_of_ble_eq_true rfl) ⟨rfl, rfl⟩ ⟨by decide, by decide⟩ ⟨by decide, by decide⟩ (fun v h' hq => by rw [hq.2]; first | done | rfl) (fun v0 h0 hq => ?_)
  obtain ⟨rfl, rfl⟩ := hq
  refine v_heap (hp_M u2 v v2 w w) ?_
  refine v_st (st2 := [.int r, .int r]) rfl ?_
  refine v_icmp_eq (tgt := 1282) dL_law_944 (by decide) (fun _ => ?_) (fun c => absurd rfl c)
  exact kk u2 v2 w q3
set_option maxRecDepth 100000 in
set_option maxHeartbeats 4000000 in
theorem lc_forget {nm : String} {Lx : Nat} {xs : Nat → Int32} {i : Nat} (hx1 : vp_in (nI i + (1 : Int32)) Lx) (hx2 : vp_in (nI i + (2 : Int32)) Lx) (hx3 : vp_in (nI i + (3 : Int32)) Lx) (hx4 : vp_in (nI i + (4 : Int32)) Lx) {Rl : (Nat → Nat → Int32) → (Nat → Nat → Int32) → Prop} (E_forget : ∀ (u v : Nat → Nat → Int32) (a1 : Int32), Rl u v → ∃ (r : Int32) (u2 : Nat → Nat → Int32) (v2 : Nat → Nat → Int32), d_F_forget u a1 = some (r, u2) ∧ d_M_forget v a1 = some (r, v2) ∧ Rl u2 v2) (u v : Nat → Nat → Int32) (w : Nat → Int64) (hR : Rl u v) (kk : ∀ (u v : Nat → Nat → Int32) (w : Nat → Int64), Rl u v → Vd RL nm cL_law 4 (some .boolean) room_1 (Q_law Lx xs) 600000 7302250 70 10812 1282 [(0, .retAddr 16), (1, .ref 0), (2, .ref 57), (3, .int (nI i))] [] (h_L u v w)) : Vd RL nm cL_law 4 (some .boolean) room_1 (Q_law Lx xs) 600000 7302250 70 10812 949 [(0, .retAddr 16), (1, .ref 0), (2, .ref 57), (3, .int (nI i))] [] (h_L u v w) := by
  obtain ⟨r, u2, v2, q1, q2, q3⟩ := E_forget u v (xs (nI i + (1 : Int32)).toNatClampNeg) hR
  refine v_aload_n dL_law_949 rfl ?_
  refine v_xload dL_law_950 rfl ?_
  refine v_iload_n dL_law_951 rfl ?_
  refine v_iconst dL_law_952 ic_1 ?_
  refine v_iadd dL_law_953 ?_
  refine v_xld dL_law_954 hx1 ?_
  refine v_invV (Ry := rm 1) (b := 0) (As := [.int (xs (nI i + (1 : Int32)).toNatClampNeg)]) (st := []) rrF dL_law_955 mv_L_115 (m_F_forget u (xs (nI i + (1 : Int32)).toNatClampNeg) q1) (hr_F u v w) nd_F rfl rfl rfl rfl rfl (Nat.le_of_ble_eq_true rfl) ⟨rfl, rfl⟩ ⟨by decide, by decide⟩ ⟨by decide, by decide⟩ (fun v h' hq => by rw [hq.2]; first | done | rfl) (fun v0 h0 hq => ?_)
  obtain ⟨rfl, rfl⟩ := hq
  refine v_heap (hp_F u u2 v w) ?_
  refine v_st (st2 := [.int r]) rfl ?_
  refine v_aload_n dL_law_958 rfl ?_
  refine v_xload dL_law_959 rfl ?_
  refine v_iload_n dL_law_960 rfl ?_
  refine v_iconst dL_law_961 ic_1 ?_
  refine v_iadd dL_law_962 ?_
  refine v_xld dL_law_963 hx1 ?_
  refine v_invV (Ry := rm 1) (b := 57) (As := [.int (xs (nI i + (1 : Int32)).toNatClampNeg)]) (st := [.int r]) rrM dL_law_964 mv_L_118 (m_M_forget v (xs (nI i + (1 : Int32)).toNatClampNeg) w q2) (hr_M u2 v w) nd_M rfl rfl rfl rfl rfl (Nat.le_of_ble_eq_true rfl) ⟨rfl, rfl⟩ ⟨by decide, by decide⟩ ⟨by decide, by decide⟩ (fun v h' hq => by rw [hq.2]; first | done | rfl) (fun v0 h0 hq => ?_)
  obtain ⟨rfl, rfl⟩ := hq
  refine v_heap (hp_M u2 v v2 w w) ?_
  refine v_st (st2 := [.int r, .int r]) rfl ?_
  refine v_icmp_eq (tgt := 1282) dL_law_967 (by decide) (fun _ => ?_) (fun c => absurd rfl c)
  exact kk u2 v2 w q3
set_option maxRecDepth 100000 in
set_option maxHeartbeats 4000000 in
theorem lc_fits {nm : String} {Lx : Nat} {xs : Nat → Int32} {i : Nat} (hx1 : vp_in (nI i + (1 : Int32)) Lx) (hx2 : vp_in (nI i + (2 : Int32)) Lx) (hx3 : vp_in (nI i + (3 : Int32)) Lx) (hx4 : vp_in (nI i + (4 : Int32)) Lx) {Rl : (Nat → Nat → Int32) → (Nat → Nat → Int32) → Prop} (E_fits : ∀ (u v : Nat → Nat → Int32) (a1 : Int32), Rl u v → ∃ (r : Int32) (u2 : Nat → Nat → Int32) (v2 : Nat → Nat → Int32), d_F_fits u a1 = some (r, u2) ∧ d_M_fits v a1 = some (r, v2) ∧ Rl u2 v2) (u v : Nat → Nat → Int32) (w : Nat → Int64) (hR : Rl u v) (kk : ∀ (u v : Nat → Nat → Int32) (w : Nat → Int64), Rl u v → Vd RL nm cL_law 4 (some .boolean) room_1 (Q_law Lx xs) 600000 7302250 70 10812 1282 [(0, .retAddr 16), (1, .ref 0), (2, .ref 57), (3, .int (nI i))] [] (h_L u v w)) : Vd RL nm cL_law 4 (some .boolean) room_1 (Q_law Lx xs) 600000 7302250 70 10812 972 [(0, .retAddr 16), (1, .ref 0), (2, .ref 57), (3, .int (nI i))] [] (h_L u v w) := by
  obtain ⟨r, u2, v2, q1, q2, q3⟩ := E_fits u v (xs (nI i + (1 : Int32)).toNatClampNeg) hR
  refine v_aload_n dL_law_972 rfl ?_
  refine v_xload dL_law_973 rfl ?_
  refine v_iload_n dL_law_974 rfl ?_
  refine v_iconst dL_law_975 ic_1 ?_
  refine v_iadd dL_law_976 ?_
  refine v_xld dL_law_977 hx1 ?_
  refine v_invV (Ry := rm 5) (b := 0) (As := [.int (xs (nI i + (1 : Int32)).toNatClampNeg)]) (st := []) rrF dL_law_978 mv_L_119 (m_F_fits u (xs (nI i + (1 : Int32)).toNatClampNeg) q1) (hr_F u v w) nd_F rfl rfl rfl rfl rfl (Nat.le_of_ble_eq_true rfl) ⟨rfl, rfl⟩ ⟨by decide, by decide⟩ ⟨by decide, by decide⟩ (fun v h' hq => by rw [hq.2]; first | done | rfl) (fun v0 h0 hq => ?_)
  obtain ⟨rfl, rfl⟩ := hq
  refine v_heap (hp_F u u2 v w) ?_
  refine v_st (st2 := [.int r]) rfl ?_
  refine v_aload_n dL_law_981 rfl ?_
  refine v_xload dL_law_982 rfl ?_
  refine v_iload_n dL_law_983 rfl ?_
  refine v_iconst dL_law_984 ic_1 ?_
  refine v_iadd dL_law_985 ?_
  refine v_xld dL_law_986 hx1 ?_
  refine v_invV (Ry := rm 5) (b := 57) (As := [.int (xs (nI i + (1 : Int32)).toNatClampNeg)]) (st := [.int r]) rrM dL_law_987 mv_L_122 (m_M_fits v (xs (nI i + (1 : Int32)).toNatClampNeg) w q2) (hr_M u2 v w) nd_M rfl rfl rfl rfl rfl (Nat.le_of_ble_eq_true rfl) ⟨rfl, rfl⟩ ⟨by decide, by decide⟩ ⟨by decide, by decide⟩ (fun v h' hq => by rw [hq.2]; first | done | rfl) (fun v0 h0 hq => ?_)
  obtain ⟨rfl, rfl⟩ := hq
  refine v_heap (hp_M u2 v v2 w w) ?_
  refine v_st (st2 := [.int r, .int r]) rfl ?_
  refine v_icmp_eq (tgt := 1282) dL_law_990 (by decide) (fun _ => ?_) (fun c => absurd rfl c)
  exact kk u2 v2 w q3
set_option maxRecDepth 100000 in
set_option maxHeartbeats 4000000 in
theorem lc_look {nm : String} {Lx : Nat} {xs : Nat → Int32} {i : Nat} (hx1 : vp_in (nI i + (1 : Int32)) Lx) (hx2 : vp_in (nI i + (2 : Int32)) Lx) (hx3 : vp_in (nI i + (3 : Int32)) Lx) (hx4 : vp_in (nI i + (4 : Int32)) Lx) {Rl : (Nat → Nat → Int32) → (Nat → Nat → Int32) → Prop} (E_look : ∀ (u v : Nat → Nat → Int32) (a1 : Int32), Rl u v → ∃ (r : Int32) (u2 : Nat → Nat → Int32) (v2 : Nat → Nat → Int32), d_F_look u a1 = some (r, u2) ∧ d_M_look v a1 = some (r, v2) ∧ Rl u2 v2) (u v : Nat → Nat → Int32) (w : Nat → Int64) (hR : Rl u v) (kk : ∀ (u v : Nat → Nat → Int32) (w : Nat → Int64), Rl u v → Vd RL nm cL_law 4 (some .boolean) room_1 (Q_law Lx xs) 600000 7302250 70 10812 1282 [(0, .retAddr 16), (1, .ref 0), (2, .ref 57), (3, .int (nI i))] [] (h_L u v w)) : Vd RL nm cL_law 4 (some .boolean) room_1 (Q_law Lx xs) 600000 7302250 70 10812 995 [(0, .retAddr 16), (1, .ref 0), (2, .ref 57), (3, .int (nI i))] [] (h_L u v w) := by
  obtain ⟨r, u2, v2, q1, q2, q3⟩ := E_look u v (xs (nI i + (1 : Int32)).toNatClampNeg) hR
  refine v_aload_n dL_law_995 rfl ?_
  refine v_xload dL_law_996 rfl ?_
  refine v_iload_n dL_law_997 rfl ?_
  refine v_iconst dL_law_998 ic_1 ?_
  refine v_iadd dL_law_999 ?_
  refine v_xld dL_law_1000 hx1 ?_
  refine v_invV (Ry := rm 6) (b := 0) (As := [.int (xs (nI i + (1 : Int32)).toNatClampNeg)]) (st := []) rrF dL_law_1001 mv_L_123 (m_F_look u (xs (nI i + (1 : Int32)).toNatClampNeg) q1) (hr_F u v w) nd_F rfl rfl rfl rfl rfl (Nat.le_of_ble_eq_true rfl) ⟨rfl, rfl⟩ ⟨by decide, by decide⟩ ⟨by decide, by decide⟩ (fun v h' hq => by rw [hq.2]; first | done | rfl) (fun v0 h0 hq => ?_)
  obtain ⟨rfl, rfl⟩ := hq
  refine v_heap (hp_F u u2 v w) ?_
  refine v_st (st2 := [.int r]) rfl ?_
  refine v_aload_n dL_law_1004 rfl ?_
  refine v_xload dL_law_1005 rfl ?_
  refine v_iload_n dL_law_1006 rfl ?_
  refine v_iconst dL_law_1007 ic_1 ?_
  refine v_iadd dL_law_1008 ?_
  refine v_xld dL_law_1009 hx1 ?_
  refine v_invV (Ry := rm 5) (b := 57) (As := [.int (xs (nI i + (1 : Int32)).toNatClampNeg)]) (st := [.int r]) rrM dL_law_1010 mv_L_126 (m_M_look v (xs (nI i + (1 : Int32)).toNatClampNeg) w q2) (hr_M u2 v w) nd_M rfl rfl rfl rfl rfl (Nat.le_of_ble_eq_true rfl) ⟨rfl, rfl⟩ ⟨by decide, by decide⟩ ⟨by decide, by decide⟩ (fun v h' hq => by rw [hq.2]; first | done | rfl) (fun v0 h0 hq => ?_)
  obtain ⟨rfl, rfl⟩ := hq
  refine v_heap (hp_M u2 v v2 w w) ?_
  refine v_st (st2 := [.int r, .int r]) rfl ?_
  refine v_icmp_eq (tgt := 1282) dL_law_1013 (by decide) (fun _ => ?_) (fun c => absurd rfl c)
  exact kk u2 v2 w q3
set_option maxRecDepth 100000 in
set_option maxHeartbeats 4000000 in
theorem lc_drift {nm : String} {Lx : Nat} {xs : Nat → Int32} {i : Nat} (hx1 : vp_in (nI i + (1 : Int32)) Lx) (hx2 : vp_in (nI i + (2 : Int32)) Lx) (hx3 : vp_in (nI i + (3 : Int32)) Lx) (hx4 : vp_in (nI i + (4 : Int32)) Lx) {Rl : (Nat → Nat → Int32) → (Nat → Nat → Int32) → Prop} (E_drift : ∀ (u v : Nat → Nat → Int32) (a1 a2 a3 : Int32), Rl u v → ∃ (r : Int32) (u2 : Nat → Nat → Int32) (v2 : Nat → Nat → Int32), d_F_drift u a1 a2 a3 = some (r, u2) ∧ d_M_drift v a1 a2 a3 = some (r, v2) ∧ Rl u2 v2) (u v : Nat → Nat → Int32) (w : Nat → Int64) (hR : Rl u v) (kk : ∀ (u v : Nat → Nat → Int32) (w : Nat → Int64), Rl u v → Vd RL nm cL_law 4 (some .boolean) room_1 (Q_law Lx xs) 600000 7302250 70 10812 1282 [(0, .retAddr 16), (1, .ref 0), (2, .ref 57), (3, .int (nI i))] [] (h_L u v w)) : Vd RL nm cL_law 4 (some .boolean) room_1 (Q_law Lx xs) 600000 7302250 70 10812 1018 [(0, .retAddr 16), (1, .ref 0), (2, .ref 57), (3, .int (nI i))] [] (h_L u v w) := by
  obtain ⟨r, u2, v2, q1, q2, q3⟩ := E_drift u v (xs (nI i + (1 : Int32)).toNatClampNeg) (xs (nI i + (2 : Int32)).toNatClampNeg) (xs (nI i + (3 : Int32)).toNatClampNeg) hR
  refine v_aload_n dL_law_1018 rfl ?_
  refine v_xload dL_law_1019 rfl ?_
  refine v_iload_n dL_law_1020 rfl ?_
  refine v_iconst dL_law_1021 ic_1 ?_
  refine v_iadd dL_law_1022 ?_
  refine v_xld dL_law_1023 hx1 ?_
  refine v_xload dL_law_1024 rfl ?_
  refine v_iload_n dL_law_1025 rfl ?_
  refine v_iconst dL_law_1026 ic_2 ?_
  refine v_iadd dL_law_1027 ?_
  refine v_xld dL_law_1028 hx2 ?_
  refine v_xload dL_law_1029 rfl ?_
  refine v_iload_n dL_law_1030 rfl ?_
  refine v_iconst dL_law_1031 ic_3 ?_
  refine v_iadd dL_law_1032 ?_
  refine v_xld dL_law_1033 hx3 ?_
  refine v_invV (Ry := rm 3) (b := 0) (As := [.int (xs (nI i + (1 : Int32)).toNatClampNeg), .int (xs (nI i + (2 : Int32)).toNatClampNeg), .int (xs (nI i + (3 : Int32)).toNatClampNeg)]) (st := []) rrF dL_law_1034 mv_L_127 (m_F_drift u (xs (nI i + (1 : Int32)).toNatClampNeg) (xs (nI i + (2 : Int32)).toNatClampNeg) (xs (nI i + (3 : Int32)).toNatClampNeg) q1) (hr_F u v w) nd_F rfl rfl rfl rfl rfl (Nat.le_of_ble_eq_true rfl) ⟨rfl, rfl⟩ ⟨by decide, by decide⟩ ⟨by decide, by decide⟩ (fun v h' hq => by rw [hq.2]; first | done | rfl) (fun v0 h0 hq => ?_)
  obtain ⟨rfl, rfl⟩ := hq
  refine v_heap (hp_F u u2 v w) ?_
  refine v_st (st2 := [.int r]) rfl ?_
  refine v_aload_n dL_law_1037 rfl ?_
  refine v_xload dL_law_1038 rfl ?_
  refine v_iload_n dL_law_1039 rfl ?_
  refine v_iconst dL_law_1040 ic_1 ?_
  refine v_iadd dL_law_1041 ?_
  refine v_xld dL_law_1042 hx1 ?_
  refine v_xload dL_law_1043 rfl ?_
  refine v_iload_n dL_law_1044 rfl ?_
  refine v_iconst dL_law_1045 ic_2 ?_
  refine v_iadd dL_law_1046 ?_
  refine v_xld dL_law_1047 hx2 ?_
  refine v_xload dL_law_1048 rfl ?_
  refine v_iload_n dL_law_1049 rfl ?_
  refine v_iconst dL_law_1050 ic_3 ?_
  refine v_iadd dL_law_1051 ?_
  refine v_xld dL_law_1052 hx3 ?_
  refine v_invV (Ry := rm 3) (b := 57) (As := [.int (xs (nI i + (1 : Int32)).toNatClampNeg), .int (xs (nI i + (2 : Int32)).toNatClampNeg), .int (xs (nI i + (3 : Int32)).toNatClampNeg)]) (st := [.int r]) rrM dL_law_1053 mv_L_130 (m_M_drift v (xs (nI i + (1 : Int32)).toNatClampNeg) (xs (nI i + (2 : Int32)).toNatClampNeg) (xs (nI i + (3 : Int32)).toNatClampNeg) w q2) (hr_M u2 v w) nd_M rfl rfl rfl rfl rfl (Nat.le_of_ble_eq_true rfl) ⟨rfl, rfl⟩ ⟨by decide, by decide⟩ ⟨by decide, by decide⟩ (fun v h' hq => by rw [hq.2]; first | done | rfl) (fun v0 h0 hq => ?_)
  obtain ⟨rfl, rfl⟩ := hq
  refine v_heap (hp_M u2 v v2 w w) ?_
  refine v_st (st2 := [.int r, .int r]) rfl ?_
  refine v_icmp_eq (tgt := 1282) dL_law_1056 (by decide) (fun _ => ?_) (fun c => absurd rfl c)
  exact kk u2 v2 w q3
set_option maxRecDepth 100000 in
set_option maxHeartbeats 4000000 in
theorem lc_keep {nm : String} {Lx : Nat} {xs : Nat → Int32} {i : Nat} (hx1 : vp_in (nI i + (1 : Int32)) Lx) (hx2 : vp_in (nI i + (2 : Int32)) Lx) (hx3 : vp_in (nI i + (3 : Int32)) Lx) (hx4 : vp_in (nI i + (4 : Int32)) Lx) {Rl : (Nat → Nat → Int32) → (Nat → Nat → Int32) → Prop} (E_keep : ∀ (u v : Nat → Nat → Int32) (a1 : Int32), Rl u v → ∃ (r : Int32) (u2 : Nat → Nat → Int32) (v2 : Nat → Nat → Int32), d_F_keep u a1 = some (r, u2) ∧ d_M_keep v a1 = some (r, v2) ∧ Rl u2 v2) (u v : Nat → Nat → Int32) (w : Nat → Int64) (hR : Rl u v) (kk : ∀ (u v : Nat → Nat → Int32) (w : Nat → Int64), Rl u v → Vd RL nm cL_law 4 (some .boolean) room_1 (Q_law Lx xs) 600000 7302250 70 10812 1282 [(0, .retAddr 16), (1, .ref 0), (2, .ref 57), (3, .int (nI i))] [] (h_L u v w)) : Vd RL nm cL_law 4 (some .boolean) room_1 (Q_law Lx xs) 600000 7302250 70 10812 1061 [(0, .retAddr 16), (1, .ref 0), (2, .ref 57), (3, .int (nI i))] [] (h_L u v w) := by
  obtain ⟨r, u2, v2, q1, q2, q3⟩ := E_keep u v (xs (nI i + (1 : Int32)).toNatClampNeg) hR
  refine v_aload_n dL_law_1061 rfl ?_
  refine v_xload dL_law_1062 rfl ?_
  refine v_iload_n dL_law_1063 rfl ?_
  refine v_iconst dL_law_1064 ic_1 ?_
  refine v_iadd dL_law_1065 ?_
  refine v_xld dL_law_1066 hx1 ?_
  refine v_invV (Ry := rm 2) (b := 0) (As := [.int (xs (nI i + (1 : Int32)).toNatClampNeg)]) (st := []) rrF dL_law_1067 mv_L_131 (m_F_keep u (xs (nI i + (1 : Int32)).toNatClampNeg) q1) (hr_F u v w) nd_F rfl rfl rfl rfl rfl (Nat.le_of_ble_eq_true rfl) ⟨rfl, rfl⟩ ⟨by decide, by decide⟩ ⟨by decide, by decide⟩ (fun v h' hq => by rw [hq.2]; first | done | rfl) (fun v0 h0 hq => ?_)
  obtain ⟨rfl, rfl⟩ := hq
  refine v_heap (hp_F u u2 v w) ?_
  refine v_st (st2 := [.int r]) rfl ?_
  refine v_aload_n dL_law_1070 rfl ?_
  refine v_xload dL_law_1071 rfl ?_
  refine v_iload_n dL_law_1072 rfl ?_
  refine v_iconst dL_law_1073 ic_1 ?_
  refine v_iadd dL_law_1074 ?_
  refine v_xld dL_law_1075 hx1 ?_
  refine v_invV (Ry := rm 1) (b := 57) (As := [.int (xs (nI i + (1 : Int32)).toNatClampNeg)]) (st := [.int r]) rrM dL_law_1076 mv_L_134 (m_M_keep v (xs (nI i + (1 : Int32)).toNatClampNeg) w q2) (hr_M u2 v w) nd_M rfl rfl rfl rfl rfl (Nat.le_of_ble_eq_true rfl) ⟨rfl, rfl⟩ ⟨by decide, by decide⟩ ⟨by decide, by decide⟩ (fun v h' hq => by rw [hq.2]; first | done | rfl) (fun v0 h0 hq => ?_)
  obtain ⟨rfl, rfl⟩ := hq
  refine v_heap (hp_M u2 v v2 w w) ?_
  refine v_st (st2 := [.int r, .int r]) rfl ?_
  refine v_icmp_eq (tgt := 1282) dL_law_1079 (by decide) (fun _ => ?_) (fun c => absurd rfl c)
  exact kk u2 v2 w q3
set_option maxRecDepth 100000 in
set_option maxHeartbeats 4000000 in
theorem lc_back {nm : String} {Lx : Nat} {xs : Nat → Int32} {i : Nat} (hx1 : vp_in (nI i + (1 : Int32)) Lx) (hx2 : vp_in (nI i + (2 : Int32)) Lx) (hx3 : vp_in (nI i + (3 : Int32)) Lx) (hx4 : vp_in (nI i + (4 : Int32)) Lx) {Rl : (Nat → Nat → Int32) → (Nat → Nat → Int32) → Prop} (E_back : ∀ (u v : Nat → Nat → Int32) (a1 : Int32), Rl u v → ∃ (r : Int32) (u2 : Nat → Nat → Int32) (v2 : Nat → Nat → Int32), d_F_back u a1 = some (r, u2) ∧ d_M_back v a1 = some (r, v2) ∧ Rl u2 v2) (u v : Nat → Nat → Int32) (w : Nat → Int64) (hR : Rl u v) (kk : ∀ (u v : Nat → Nat → Int32) (w : Nat → Int64), Rl u v → Vd RL nm cL_law 4 (some .boolean) room_1 (Q_law Lx xs) 600000 7302250 70 10812 1282 [(0, .retAddr 16), (1, .ref 0), (2, .ref 57), (3, .int (nI i))] [] (h_L u v w)) : Vd RL nm cL_law 4 (some .boolean) room_1 (Q_law Lx xs) 600000 7302250 70 10812 1084 [(0, .retAddr 16), (1, .ref 0), (2, .ref 57), (3, .int (nI i))] [] (h_L u v w) := by
  obtain ⟨r, u2, v2, q1, q2, q3⟩ := E_back u v (xs (nI i + (1 : Int32)).toNatClampNeg) hR
  refine v_aload_n dL_law_1084 rfl ?_
  refine v_xload dL_law_1085 rfl ?_
  refine v_iload_n dL_law_1086 rfl ?_
  refine v_iconst dL_law_1087 ic_1 ?_
  refine v_iadd dL_law_1088 ?_
  refine v_xld dL_law_1089 hx1 ?_
  refine v_invV (Ry := rm 2) (b := 0) (As := [.int (xs (nI i + (1 : Int32)).toNatClampNeg)]) (st := []) rrF dL_law_1090 mv_L_135 (m_F_back u (xs (nI i + (1 : Int32)).toNatClampNeg) q1) (hr_F u v w) nd_F rfl rfl rfl rfl rfl (Nat.le_of_ble_eq_true rfl) ⟨rfl, rfl⟩ ⟨by decide, by decide⟩ ⟨by decide, by decide⟩ (fun v h' hq => by rw [hq.2]; first | done | rfl) (fun v0 h0 hq => ?_)
  obtain ⟨rfl, rfl⟩ := hq
  refine v_heap (hp_F u u2 v w) ?_
  refine v_st (st2 := [.int r]) rfl ?_
  refine v_aload_n dL_law_1093 rfl ?_
  refine v_xload dL_law_1094 rfl ?_
  refine v_iload_n dL_law_1095 rfl ?_
  refine v_iconst dL_law_1096 ic_1 ?_
  refine v_iadd dL_law_1097 ?_
  refine v_xld dL_law_1098 hx1 ?_
  refine v_invV (Ry := rm 1) (b := 57) (As := [.int (xs (nI i + (1 : Int32)).toNatClampNeg)]) (st := [.int r]) rrM dL_law_1099 mv_L_138 (m_M_back v (xs (nI i + (1 : Int32)).toNatClampNeg) w q2) (hr_M u2 v w) nd_M rfl rfl rfl rfl rfl (Nat.le_of_ble_eq_true rfl) ⟨rfl, rfl⟩ ⟨by decide, by decide⟩ ⟨by decide, by decide⟩ (fun v h' hq => by rw [hq.2]; first | done | rfl) (fun v0 h0 hq => ?_)
  obtain ⟨rfl, rfl⟩ := hq
  refine v_heap (hp_M u2 v v2 w w) ?_
  refine v_st (st2 := [.int r, .int r]) rfl ?_
  refine v_icmp_eq (tgt := 1282) dL_law_1102 (by decide) (fun _ => ?_) (fun c => absurd rfl c)
  exact kk u2 v2 w q3
set_option maxRecDepth 100000 in
set_option maxHeartbeats 4000000 in
theorem lc_sheet {nm : String} {Lx : Nat} {xs : Nat → Int32} {i : Nat} (hx1 : vp_in (nI i + (1 : Int32)) Lx) (hx2 : vp_in (nI i + (2 : Int32)) Lx) (hx3 : vp_in (nI i + (3 : Int32)) Lx) (hx4 : vp_in (nI i + (4 : Int32)) Lx) {Rl : (Nat → Nat → Int32) → (Nat → Nat → Int32) → Prop} (E_sheet : ∀ (u v : Nat → Nat → Int32) (a1 a2 a3 : Int32), Rl u v → ∃ (r : Int32) (u2 : Nat → Nat → Int32) (v2 : Nat → Nat → Int32), d_F_sheet u a1 a2 a3 = some (r, u2) ∧ d_M_sheet v a1 a2 a3 = some (r, v2) ∧ Rl u2 v2) (u v : Nat → Nat → Int32) (w : Nat → Int64) (hR : Rl u v) (kk : ∀ (u v : Nat → Nat → Int32) (w : Nat → Int64), Rl u v → Vd RL nm cL_law 4 (some .boolean) room_1 (Q_law Lx xs) 600000 7302250 70 10812 1282 [(0, .retAddr 16), (1, .ref 0), (2, .ref 57), (3, .int (nI i))] [] (h_L u v w)) : Vd RL nm cL_law 4 (some .boolean) room_1 (Q_law Lx xs) 600000 7302250 70 10812 1107 [(0, .retAddr 16), (1, .ref 0), (2, .ref 57), (3, .int (nI i))] [] (h_L u v w) := by
  obtain ⟨r, u2, v2, q1, q2, q3⟩ := E_sheet u v (xs (nI i + (1 : Int32)).toNatClampNeg) (xs (nI i + (2 : Int32)).toNatClampNeg) (xs (nI i + (3 : Int32)).toNatClampNeg) hR
  refine v_aload_n dL_law_1107 rfl ?_
  refine v_xload dL_law_1108 rfl ?_
  refine v_iload_n dL_law_1109 rfl ?_
  refine v_iconst dL_law_1110 ic_1 ?_
  refine v_iadd dL_law_1111 ?_
  refine v_xld dL_law_1112 hx1 ?_
  refine v_xload dL_law_1113 rfl ?_
  refine v_iload_n dL_law_1114 rfl ?_
  refine v_iconst dL_law_1115 ic_2 ?_
  refine v_iadd dL_law_1116 ?_
  refine v_xld dL_law_1117 hx2 ?_
  refine v_xload dL_law_1118 rfl ?_
  refine v_iload_n dL_law_1119 rfl ?_
  refine v_iconst dL_law_1120 ic_3 ?_
  refine v_iadd dL_law_1121 ?_
  refine v_xld dL_law_1122 hx3 ?_
  refine v_invV (Ry := rm 2) (b := 0) (As := [.int (xs (nI i + (1 : Int32)).toNatClampNeg), .int (xs (nI i + (2 : Int32)).toNatClampNeg), .int (xs (nI i + (3 : Int32)).toNatClampNeg)]) (st := []) rrF dL_law_1123 mv_L_139 (m_F_sheet u (xs (nI i + (1 : Int32)).toNatClampNeg) (xs (nI i + (2 : Int32)).toNatClampNeg) (xs (nI i + (3 : Int32)).toNatClampNeg) q1) (hr_F u v w) nd_F rfl rfl rfl rfl rfl (Nat.le_of_ble_eq_true rfl) ⟨rfl, rfl⟩ ⟨by decide, by decide⟩ ⟨by decide, by decide⟩ (fun v h' hq => by rw [hq.2]; first | done | rfl) (fun v0 h0 hq => ?_)
  obtain ⟨rfl, rfl⟩ := hq
  refine v_heap (hp_F u u2 v w) ?_
  refine v_st (st2 := [.int r]) rfl ?_
  refine v_aload_n dL_law_1126 rfl ?_
  refine v_xload dL_law_1127 rfl ?_
  refine v_iload_n dL_law_1128 rfl ?_
  refine v_iconst dL_law_1129 ic_1 ?_
  refine v_iadd dL_law_1130 ?_
  refine v_xld dL_law_1131 hx1 ?_
  refine v_xload dL_law_1132 rfl ?_
  refine v_iload_n dL_law_1133 rfl ?_
  refine v_iconst dL_law_1134 ic_2 ?_
  refine v_iadd dL_law_1135 ?_
  refine v_xld dL_law_1136 hx2 ?_
  refine v_xload dL_law_1137 rfl ?_
  refine v_iload_n dL_law_1138 rfl ?_
  refine v_iconst dL_law_1139 ic_3 ?_
  refine v_iadd dL_law_1140 ?_
  refine v_xld dL_law_1141 hx3 ?_
  refine v_invV (Ry := rm 2) (b := 57) (As := [.int (xs (nI i + (1 : Int32)).toNatClampNeg), .int (xs (nI i + (2 : Int32)).toNatClampNeg), .int (xs (nI i + (3 : Int32)).toNatClampNeg)]) (st := [.int r]) rrM dL_law_1142 mv_L_142 (m_M_sheet v (xs (nI i + (1 : Int32)).toNatClampNeg) (xs (nI i + (2 : Int32)).toNatClampNeg) (xs (nI i + (3 : Int32)).toNatClampNeg) w q2) (hr_M u2 v w) nd_M rfl rfl rfl rfl rfl (Nat.le_of_ble_eq_true rfl) ⟨rfl, rfl⟩ ⟨by decide, by decide⟩ ⟨by decide, by decide⟩ (fun v h' hq => by rw [hq.2]; first | done | rfl) (fun v0 h0 hq => ?_)
  obtain ⟨rfl, rfl⟩ := hq
  refine v_heap (hp_M u2 v v2 w w) ?_
  refine v_st (st2 := [.int r, .int r]) rfl ?_
  refine v_icmp_eq (tgt := 1282) dL_law_1145 (by decide) (fun _ => ?_) (fun c => absurd rfl c)
  exact kk u2 v2 w q3
set_option maxRecDepth 100000 in
set_option maxHeartbeats 4000000 in
theorem lc_lay {nm : String} {Lx : Nat} {xs : Nat → Int32} {i : Nat} (hx1 : vp_in (nI i + (1 : Int32)) Lx) (hx2 : vp_in (nI i + (2 : Int32)) Lx) (hx3 : vp_in (nI i + (3 : Int32)) Lx) (hx4 : vp_in (nI i + (4 : Int32)) Lx) {Rl : (Nat → Nat → Int32) → (Nat → Nat → Int32) → Prop} (E_lay : ∀ (u v : Nat → Nat → Int32) (a1 a2 a3 : Int32), Rl u v → ∃ (r : Int32) (u2 : Nat → Nat → Int32) (v2 : Nat → Nat → Int32), d_F_lay u a1 a2 a3 = some (r, u2) ∧ d_M_lay v a1 a2 a3 = some (r, v2) ∧ Rl u2 v2) (u v : Nat → Nat → Int32) (w : Nat → Int64) (hR : Rl u v) (kk : ∀ (u v : Nat → Nat → Int32) (w : Nat → Int64), Rl u v → Vd RL nm cL_law 4 (some .boolean) room_1 (Q_law Lx xs) 600000 7302250 70 10812 1282 [(0, .retAddr 16), (1, .ref 0), (2, .ref 57), (3, .int (nI i))] [] (h_L u v w)) : Vd RL nm cL_law 4 (some .boolean) room_1 (Q_law Lx xs) 600000 7302250 70 10812 1150 [(0, .retAddr 16), (1, .ref 0), (2, .ref 57), (3, .int (nI i))] [] (h_L u v w) := by
  obtain ⟨r, u2, v2, q1, q2, q3⟩ := E_lay u v (xs (nI i + (1 : Int32)).toNatClampNeg) (xs (nI i + (2 : Int32)).toNatClampNeg) (xs (nI i + (3 : Int32)).toNatClampNeg) hR
  refine v_aload_n dL_law_1150 rfl ?_
  refine v_xload dL_law_1151 rfl ?_
  refine v_iload_n dL_law_1152 rfl ?_
  refine v_iconst dL_law_1153 ic_1 ?_
  refine v_iadd dL_law_1154 ?_
  refine v_xld dL_law_1155 hx1 ?_
  refine v_xload dL_law_1156 rfl ?_
  refine v_iload_n dL_law_1157 rfl ?_
  refine v_iconst dL_law_1158 ic_2 ?_
  refine v_iadd dL_law_1159 ?_
  refine v_xld dL_law_1160 hx2 ?_
  refine v_xload dL_law_1161 rfl ?_
  refine v_iload_n dL_law_1162 rfl ?_
  refine v_iconst dL_law_1163 ic_3 ?_
  refine v_iadd dL_law_1164 ?_
  refine v_xld dL_law_1165 hx3 ?_
  refine v_invV (Ry := rm 2) (b := 0) (As := [.int (xs (nI i + (1 : Int32)).toNatClampNeg), .int (xs (nI i + (2 : Int32)).toNatClampNeg), .int (xs (nI i + (3 : Int32)).toNatClampNeg)]) (st := []) rrF dL_law_1166 mv_L_143 (m_F_lay u (xs (nI i + (1 : Int32)).toNatClampNeg) (xs (nI i + (2 : Int32)).toNatClampNeg) (xs (nI i + (3 : Int32)).toNatClampNeg) q1) (hr_F u v w) nd_F rfl rfl rfl rfl rfl (Nat.le_of_ble_eq_true rfl) ⟨rfl, rfl⟩ ⟨by decide, by decide⟩ ⟨by decide, by decide⟩ (fun v h' hq => by rw [hq.2]; first | done | rfl) (fun v0 h0 hq => ?_)
  obtain ⟨rfl, rfl⟩ := hq
  refine v_heap (hp_F u u2 v w) ?_
  refine v_st (st2 := [.int r]) rfl ?_
  refine v_aload_n dL_law_1169 rfl ?_
  refine v_xload dL_law_1170 rfl ?_
  refine v_iload_n dL_law_1171 rfl ?_
  refine v_iconst dL_law_1172 ic_1 ?_
  refine v_iadd dL_law_1173 ?_
  refine v_xld dL_law_1174 hx1 ?_
  refine v_xload dL_law_1175 rfl ?_
  refine v_iload_n dL_law_1176 rfl ?_
  refine v_iconst dL_law_1177 ic_2 ?_
  refine v_iadd dL_law_1178 ?_
  refine v_xld dL_law_1179 hx2 ?_
  refine v_xload dL_law_1180 rfl ?_
  refine v_iload_n dL_law_1181 rfl ?_
  refine v_iconst dL_law_1182 ic_3 ?_
  refine v_iadd dL_law_1183 ?_
  refine v_xld dL_law_1184 hx3 ?_
  refine v_invV (Ry := rm 2) (b := 57) (As := [.int (xs (nI i + (1 : Int32)).toNatClampNeg), .int (xs (nI i + (2 : Int32)).toNatClampNeg), .int (xs (nI i + (3 : Int32)).toNatClampNeg)]) (st := [.int r]) rrM dL_law_1185 mv_L_146 (m_M_lay v (xs (nI i + (1 : Int32)).toNatClampNeg) (xs (nI i + (2 : Int32)).toNatClampNeg) (xs (nI i + (3 : Int32)).toNatClampNeg) w q2) (hr_M u2 v w) nd_M rfl rfl rfl rfl rfl (Nat.le_of_ble_eq_true rfl) ⟨rfl, rfl⟩ ⟨by decide, by decide⟩ ⟨by decide, by decide⟩ (fun v h' hq => by rw [hq.2]; first | done | rfl) (fun v0 h0 hq => ?_)
  obtain ⟨rfl, rfl⟩ := hq
  refine v_heap (hp_M u2 v v2 w w) ?_
  refine v_st (st2 := [.int r, .int r]) rfl ?_
  refine v_icmp_eq (tgt := 1282) dL_law_1188 (by decide) (fun _ => ?_) (fun c => absurd rfl c)
  exact kk u2 v2 w q3
set_option maxRecDepth 100000 in
set_option maxHeartbeats 4000000 in
theorem lc_read {nm : String} {Lx : Nat} {xs : Nat → Int32} {i : Nat} (hx1 : vp_in (nI i + (1 : Int32)) Lx) (hx2 : vp_in (nI i + (2 : Int32)) Lx) (hx3 : vp_in (nI i + (3 : Int32)) Lx) (hx4 : vp_in (nI i + (4 : Int32)) Lx) {Rl : (Nat → Nat → Int32) → (Nat → Nat → Int32) → Prop} (E_read : ∀ (u v : Nat → Nat → Int32) (a1 a2 a3 a4 : Int32), Rl u v → ∃ (r : Int32) (u2 : Nat → Nat → Int32) (v2 : Nat → Nat → Int32), d_F_read u a1 a2 a3 a4 = some (r, u2) ∧ d_M_read v a1 a2 a3 a4 = some (r, v2) ∧ Rl u2 v2) (u v : Nat → Nat → Int32) (w : Nat → Int64) (hR : Rl u v) (kk : ∀ (u v : Nat → Nat → Int32) (w : Nat → Int64), Rl u v → Vd RL nm cL_law 4 (some .boolean) room_1 (Q_law Lx xs) 600000 7302250 70 10812 1282 [(0, .retAddr 16), (1, .ref 0), (2, .ref 57), (3, .int (nI i))] [] (h_L u v w)) : Vd RL nm cL_law 4 (some .boolean) room_1 (Q_law Lx xs) 600000 7302250 70 10812 1193 [(0, .retAddr 16), (1, .ref 0), (2, .ref 57), (3, .int (nI i))] [] (h_L u v w) := by
  obtain ⟨r, u2, v2, q1, q2, q3⟩ := E_read u v (xs (nI i + (1 : Int32)).toNatClampNeg) (xs (nI i + (2 : Int32)).toNatClampNeg) (xs (nI i + (3 : Int32)).toNatClampNeg) (xs (nI i + (4 : Int32)).toNatClampNeg) hR
  refine v_aload_n dL_law_1193 rfl ?_
  refine v_xload dL_law_1194 rfl ?_
  refine v_iload_n dL_law_1195 rfl ?_
  refine v_iconst dL_law_1196 ic_1 ?_
  refine v_iadd dL_law_1197 ?_
  refine v_xld dL_law_1198 hx1 ?_
  refine v_xload dL_law_1199 rfl ?_
  refine v_iload_n dL_law_1200 rfl ?_
  refine v_iconst dL_law_1201 ic_2 ?_
  refine v_iadd dL_law_1202 ?_
  refine v_xld dL_law_1203 hx2 ?_
  refine v_xload dL_law_1204 rfl ?_
  refine v_iload_n dL_law_1205 rfl ?_
  refine v_iconst dL_law_1206 ic_3 ?_
  refine v_iadd dL_law_1207 ?_
  refine v_xld dL_law_1208 hx3 ?_
  refine v_xload dL_law_1209 rfl ?_
  refine v_iload_n dL_law_1210 rfl ?_
  refine v_iconst dL_law_1211 ic_4 ?_
  refine v_iadd dL_law_1212 ?_
  refine v_xld dL_law_1213 hx4 ?_
  refine v_invV (Ry := rm 3) (b := 0) (As := [.int (xs (nI i + (1 : Int32)).toNatClampNeg), .int (xs (nI i + (2 : Int32)).toNatClampNeg), .int (xs (nI i + (3 : Int32)).toNatClampNeg), .int (xs (nI i + (4 : Int32)).toNatClampNeg)]) (st := []) rrF dL_law_1214 mv_L_147 (m_F_read u (xs (nI i + (1 : Int32)).toNatClampNeg) (xs (nI i + (2 : Int32)).toNatClampNeg) (xs (nI i + (3 : Int32)).toNatClampNeg) (xs (nI i + (4 : Int32)).toNatClampNeg) q1) (hr_F u v w) nd_F rfl rfl rfl rfl rfl (Nat.le_of_ble_eq_true rfl) ⟨rfl, rfl⟩ ⟨by decide, by decide⟩ ⟨by decide, by decide⟩ (fun v h' hq => by rw [hq.2]; first | done | rfl) (fun v0 h0 hq => ?_)
  obtain ⟨rfl, rfl⟩ := hq
  refine v_heap (hp_F u u2 v w) ?_
  refine v_st (st2 := [.int r]) rfl ?_
  refine v_aload_n dL_law_1217 rfl ?_
  refine v_xload dL_law_1218 rfl ?_
  refine v_iload_n dL_law_1219 rfl ?_
  refine v_iconst dL_law_1220 ic_1 ?_
  refine v_iadd dL_law_1221 ?_
  refine v_xld dL_law_1222 hx1 ?_
  refine v_xload dL_law_1223 rfl ?_
  refine v_iload_n dL_law_1224 rfl ?_
  refine v_iconst dL_law_1225 ic_2 ?_
  refine v_iadd dL_law_1226 ?_
  refine v_xld dL_law_1227 hx2 ?_
  refine v_xload dL_law_1228 rfl ?_
  refine v_iload_n dL_law_1229 rfl ?_
  refine v_iconst dL_law_1230 ic_3 ?_
  refine v_iadd dL_law_1231 ?_
  refine v_xld dL_law_1232 hx3 ?_
  refine v_xload dL_law_1233 rfl ?_
  refine v_iload_n dL_law_1234 rfl ?_
  refine v_iconst dL_law_1235 ic_4 ?_
  refine v_iadd dL_law_1236 ?_
  refine v_xld dL_law_1237 hx4 ?_
  refine v_invV (Ry := rm 3) (b := 57) (As := [.int (xs (nI i + (1 : Int32)).toNatClampNeg), .int (xs (nI i + (2 : Int32)).toNatClampNeg), .int (xs (nI i + (3 : Int32)).toNatClampNeg), .int (xs (nI i + (4 : Int32)).toNatClampNeg)]) (st := [.int r]) rrM dL_law_1238 mv_L_151 (m_M_read v (xs (nI i + (1 : Int32)).toNatClampNeg) (xs (nI i + (2 : Int32)).toNatClampNeg) (xs (nI i + (3 : Int32)).toNatClampNeg) (xs (nI i + (4 : Int32)).toNatClampNeg) w q2) (hr_M u2 v w) nd_M rfl rfl rfl rfl rfl (Nat.le_of_ble_eq_true rfl) ⟨rfl, rfl⟩ ⟨by decide, by decide⟩ ⟨by decide, by decide⟩ (fun v h' hq => by rw [hq.2]; first | done | rfl) (fun v0 h0 hq => ?_)
  obtain ⟨rfl, rfl⟩ := hq
  refine v_heap (hp_M u2 v v2 w w) ?_
  refine v_st (st2 := [.int r, .int r]) rfl ?_
  refine v_icmp_eq (tgt := 1282) dL_law_1241 (by decide) (fun _ => ?_) (fun c => absurd rfl c)
  exact kk u2 v2 w q3
set_option maxRecDepth 100000 in
set_option maxHeartbeats 4000000 in
theorem lc_torn {nm : String} {Lx : Nat} {xs : Nat → Int32} {i : Nat} (hx1 : vp_in (nI i + (1 : Int32)) Lx) (hx2 : vp_in (nI i + (2 : Int32)) Lx) (hx3 : vp_in (nI i + (3 : Int32)) Lx) (hx4 : vp_in (nI i + (4 : Int32)) Lx) {Rl : (Nat → Nat → Int32) → (Nat → Nat → Int32) → Prop} (E_torn : ∀ (u v : Nat → Nat → Int32), Rl u v → ∃ (r : Int32), d_F_torn u = some r ∧ d_M_torn v = some r ∧ Rl u v) (u v : Nat → Nat → Int32) (w : Nat → Int64) (hR : Rl u v) (kk : ∀ (u v : Nat → Nat → Int32) (w : Nat → Int64), Rl u v → Vd RL nm cL_law 4 (some .boolean) room_1 (Q_law Lx xs) 600000 7302250 70 10812 1282 [(0, .retAddr 16), (1, .ref 0), (2, .ref 57), (3, .int (nI i))] [] (h_L u v w)) : Vd RL nm cL_law 4 (some .boolean) room_1 (Q_law Lx xs) 600000 7302250 70 10812 1246 [(0, .retAddr 16), (1, .ref 0), (2, .ref 57), (3, .int (nI i))] [] (h_L u v w) := by
  obtain ⟨r, q1, q2, q3⟩ := E_torn u v  hR
  refine v_aload_n dL_law_1246 rfl ?_
  refine v_invV (Ry := rm 0) (b := 0) (As := []) (st := []) rrF dL_law_1247 mv_L_152 (m_F_torn u q1) (hr_F u v w) nd_F rfl rfl rfl rfl rfl (Nat.le_of_ble_eq_true rfl) ⟨rfl, rfl⟩ ⟨by decide, by decide⟩ ⟨by decide, by decide⟩ (fun v h' hq => by rw [hq.2]; first | done | rfl) (fun v0 h0 hq => ?_)
  obtain ⟨rfl, rfl⟩ := hq
  refine v_heap (hp_F u u v w) ?_
  refine v_st (st2 := [.int r]) rfl ?_
  refine v_aload_n dL_law_1250 rfl ?_
  refine v_invV (Ry := rm 0) (b := 57) (As := []) (st := [.int r]) rrM dL_law_1251 mv_L_155 (m_M_torn v w q2) (hr_M u v w) nd_M rfl rfl rfl rfl rfl (Nat.le_of_ble_eq_true rfl) ⟨rfl, rfl⟩ ⟨by decide, by decide⟩ ⟨by decide, by decide⟩ (fun v h' hq => by rw [hq.2]; first | done | rfl) (fun v0 h0 hq => ?_)
  obtain ⟨rfl, rfl⟩ := hq
  refine v_heap (hp_M u v v w w) ?_
  refine v_st (st2 := [.int r, .int r]) rfl ?_
  refine v_icmp_eq (tgt := 1282) dL_law_1254 (by decide) (fun _ => ?_) (fun c => absurd rfl c)
  exact kk u v w q3
set_option maxRecDepth 100000 in
set_option maxHeartbeats 4000000 in
theorem lc_count {nm : String} {Lx : Nat} {xs : Nat → Int32} {i : Nat} (hx1 : vp_in (nI i + (1 : Int32)) Lx) (hx2 : vp_in (nI i + (2 : Int32)) Lx) (hx3 : vp_in (nI i + (3 : Int32)) Lx) (hx4 : vp_in (nI i + (4 : Int32)) Lx) {Rl : (Nat → Nat → Int32) → (Nat → Nat → Int32) → Prop} (E_count : ∀ (u v : Nat → Nat → Int32) (a1 : Int32), Rl u v → ∃ (r : Int32) (v2 : Nat → Nat → Int32), d_F_count u a1 = some r ∧ d_M_count v a1 = some (r, v2) ∧ Rl u v2) (u v : Nat → Nat → Int32) (w : Nat → Int64) (hR : Rl u v) (kk : ∀ (u v : Nat → Nat → Int32) (w : Nat → Int64), Rl u v → Vd RL nm cL_law 4 (some .boolean) room_1 (Q_law Lx xs) 600000 7302250 70 10812 1282 [(0, .retAddr 16), (1, .ref 0), (2, .ref 57), (3, .int (nI i))] [] (h_L u v w)) : Vd RL nm cL_law 4 (some .boolean) room_1 (Q_law Lx xs) 600000 7302250 70 10812 1259 [(0, .retAddr 16), (1, .ref 0), (2, .ref 57), (3, .int (nI i))] [] (h_L u v w) := by
  obtain ⟨r, v2, q1, q2, q3⟩ := E_count u v (xs (nI i + (1 : Int32)).toNatClampNeg) hR
  refine v_aload_n dL_law_1259 rfl ?_
  refine v_xload dL_law_1260 rfl ?_
  refine v_iload_n dL_law_1261 rfl ?_
  refine v_iconst dL_law_1262 ic_1 ?_
  refine v_iadd dL_law_1263 ?_
  refine v_xld dL_law_1264 hx1 ?_
  refine v_invV (Ry := rm 1) (b := 0) (As := [.int (xs (nI i + (1 : Int32)).toNatClampNeg)]) (st := []) rrF dL_law_1265 mv_L_156 (m_F_count u (xs (nI i + (1 : Int32)).toNatClampNeg) q1) (hr_F u v w) nd_F rfl rfl rfl rfl rfl (Nat.le_of_ble_eq_true rfl) ⟨rfl, rfl⟩ ⟨by decide, by decide⟩ ⟨by decide, by decide⟩ (fun v h' hq => by rw [hq.2]; first | done | rfl) (fun v0 h0 hq => ?_)
  obtain ⟨rfl, rfl⟩ := hq
  refine v_heap (hp_F u u v w) ?_
  refine v_st (st2 := [.int r]) rfl ?_
  refine v_aload_n dL_law_1268 rfl ?_
  refine v_xload dL_law_1269 rfl ?_
  refine v_iload_n dL_law_1270 rfl ?_
  refine v_iconst dL_law_1271 ic_1 ?_
  refine v_iadd dL_law_1272 ?_
  refine v_xld dL_law_1273 hx1 ?_
  refine v_invV (Ry := rm 1) (b := 57) (As := [.int (xs (nI i + (1 : Int32)).toNatClampNeg)]) (st := [.int r]) rrM dL_law_1274 mv_L_159 (m_M_count v (xs (nI i + (1 : Int32)).toNatClampNeg) w q2) (hr_M u v w) nd_M rfl rfl rfl rfl rfl (Nat.le_of_ble_eq_true rfl) ⟨rfl, rfl⟩ ⟨by decide, by decide⟩ ⟨by decide, by decide⟩ (fun v h' hq => by rw [hq.2]; first | done | rfl) (fun v0 h0 hq => ?_)
  obtain ⟨rfl, rfl⟩ := hq
  refine v_heap (hp_M u v v2 w w) ?_
  refine v_st (st2 := [.int r, .int r]) rfl ?_
  refine v_icmp_eq (tgt := 1282) dL_law_1277 (by decide) (fun _ => ?_) (fun c => absurd rfl c)
  exact kk u v2 w q3
