
def d_M_look_233 (k140 : (Nat → Nat → Int32) → Int32 → Int32 → Int32 → Int32 → Option (Int32 × (Nat → Nat → Int32))) (k152 : (Nat → Nat → Int32) → Int32 → Int32 → Int32 → Int32 → Int32 → Option (Int32 × (Nat → Nat → Int32))) (u : (Nat → Nat → Int32)) (x1 : Int32) (x2 : Int32) (x4 : Int32) (x5 : Int32) (x6 : Int32) (s0 : Int32) : Option (Int32 × (Nat → Nat → Int32)) := (d_P_lesser x6 x2).bind fun zr16 => dl (x5 + (1 : Int32)) fun zy18 => k152 u x1 zr16 s0 x4 zy18
set_option maxRecDepth 100000 in
set_option maxHeartbeats 4000000 in
theorem v_M_look_233 (w : Nat → Int64) {r : Int32 × (Nat → Nat → Int32)} (k140 : (Nat → Nat → Int32) → Int32 → Int32 → Int32 → Int32 → Option (Int32 × (Nat → Nat → Int32))) (hk140 : ∀ (u : (Nat → Nat → Int32)) (x1 : Int32) (x2 : Int32) (x3 : Int32) (x4 : Int32), k140 u x1 x2 x3 x4 = some r → Vd RX7 "look" cX7_look 9 (some .int) (rm 5) (ab_eq (some (.int r.1)) (h_M r.2 w)) 0 0 0 0 140 [(0, .ref 0), (1, .int x1), (2, .int x2), (3, .int x3), (4, .int x4)] [] (h_M u w)) (k152 : (Nat → Nat → Int32) → Int32 → Int32 → Int32 → Int32 → Int32 → Option (Int32 × (Nat → Nat → Int32))) (hk152 : ∀ (u : (Nat → Nat → Int32)) (x1 : Int32) (x2 : Int32) (x3 : Int32) (x4 : Int32) (x5 : Int32), k152 u x1 x2 x3 x4 x5 = some r → Vd RX7 "look" cX7_look 9 (some .int) (rm 5) (ab_eq (some (.int r.1)) (h_M r.2 w)) 0 0 0 0 152 [(0, .ref 0), (1, .int x1), (2, .int x2), (3, .int x3), (4, .int x4), (5, .int x5)] [] (h_M u w)) (u : (Nat → Nat → Int32)) (x1 : Int32) (x2 : Int32) (x4 : Int32) (x5 : Int32) (x6 : Int32) (s0 : Int32) (hd : d_M_look_233 k140 k152 u x1 x2 x4 x5 x6 s0 = some r) : Vd RX7 "look" cX7_look 9 (some .int) (rm 5) (ab_eq (some (.int r.1)) (h_M r.2 w)) 0 0 0 0 233 [(0, .ref 0), (1, .int x1), (2, .int x2), (4, .int x4), (5, .int x5), (6, .int x6)] [.int s0] (h_M u w) := by
  unfold d_M_look_233 at hd
  refine v_istore_n (i := 3) (L2 := [(3, .int s0), (0, .ref 0), (1, .int x1), (2, .int x2), (4, .int x4), (5, .int x5), (6, .int x6)]) dX7_look_233 rfl (Nat.le_of_ble_eq_true rfl) rfl ?_
  refine v_iload dX7_look_234 rfl ?_
  refine v_iload_n dX7_look_236 rfl ?_
  obtain ⟨zr16, zh17, hd⟩ := g_bind hd
  refine v_cS (dy := 0) (st := []) (st2 := [.int zr16]) (h2 := (h_M u w)) [] dX7_look_237 mz_X7_151 (m_P_lesser x6 x2 zh17) rfl rfl rfl rfl rfl rfl (by decide) (by decide) rfl rfl rfl ?_
  refine v_istore_n (i := 2) (L2 := [(2, .int zr16), (3, .int s0), (0, .ref 0), (1, .int x1), (4, .int x4), (5, .int x5), (6, .int x6)]) dX7_look_240 rfl (Nat.le_of_ble_eq_true rfl) rfl ?_
  obtain ⟨zy18, ze19⟩ : ∃ z : Int32, z = (x5 + (1 : Int32)) := ⟨_, rfl⟩
  have hd := dl_n hd zy18 ze19
  refine v_iinc (v := zy18) (L2 := [(5, .int zy18), (2, .int zr16), (3, .int s0), (0, .ref 0), (1, .int x1), (4, .int x4), (6, .int x6)]) dX7_look_241 rfl (by rw [ic_1]; exact ze19.symm) (Nat.le_of_ble_eq_true rfl) rfl ?_
  refine v_goto (tgt := 152) dX7_look_244 (by decide) ?_
  refine v_loc [3, 4, 1, 2, 5, 0] rfl ?_
  exact hk152 u x1 zr16 s0 x4 zy18 hd

def d_M_look_207 (k140 : (Nat → Nat → Int32) → Int32 → Int32 → Int32 → Int32 → Option (Int32 × (Nat → Nat → Int32))) (k152 : (Nat → Nat → Int32) → Int32 → Int32 → Int32 → Int32 → Int32 → Option (Int32 × (Nat → Nat → Int32))) (k165 : (Nat → Nat → Int32) → Int32 → Int32 → Int32 → Int32 → Int32 → Int32 → Int32 → Option (Int32 × (Nat → Nat → Int32))) (u : (Nat → Nat → Int32)) (x1 : Int32) (x2 : Int32) (x3 : Int32) (x4 : Int32) (x5 : Int32) (x7 : Int32) (s0 : Int32) : Option (Int32 × (Nat → Nat → Int32)) := dl (x7 + (1 : Int32)) fun zy24 => k165 u x1 x2 x3 x4 x5 s0 zy24
set_option maxRecDepth 100000 in
set_option maxHeartbeats 4000000 in
theorem v_M_look_207 (w : Nat → Int64) {r : Int32 × (Nat → Nat → Int32)} (k140 : (Nat → Nat → Int32) → Int32 → Int32 → Int32 → Int32 → Option (Int32 × (Nat → Nat → Int32))) (hk140 : ∀ (u : (Nat → Nat → Int32)) (x1 : Int32) (x2 : Int32) (x3 : Int32) (x4 : Int32), k140 u x1 x2 x3 x4 = some r → Vd RX7 "look" cX7_look 9 (some .int) (rm 5) (ab_eq (some (.int r.1)) (h_M r.2 w)) 0 0 0 0 140 [(0, .ref 0), (1, .int x1), (2, .int x2), (3, .int x3), (4, .int x4)] [] (h_M u w)) (k152 : (Nat → Nat → Int32) → Int32 → Int32 → Int32 → Int32 → Int32 → Option (Int32 × (Nat → Nat → Int32))) (hk152 : ∀ (u : (Nat → Nat → Int32)) (x1 : Int32) (x2 : Int32) (x3 : Int32) (x4 : Int32) (x5 : Int32), k152 u x1 x2 x3 x4 x5 = some r → Vd RX7 "look" cX7_look 9 (some .int) (rm 5) (ab_eq (some (.int r.1)) (h_M r.2 w)) 0 0 0 0 152 [(0, .ref 0), (1, .int x1), (2, .int x2), (3, .int x3), (4, .int x4), (5, .int x5)] [] (h_M u w)) (k165 : (Nat → Nat → Int32) → Int32 → Int32 → Int32 → Int32 → Int32 → Int32 → Int32 → Option (Int32 × (Nat → Nat → Int32))) (hk165 : ∀ (u : (Nat → Nat → Int32)) (x1 : Int32) (x2 : Int32) (x3 : Int32) (x4 : Int32) (x5 : Int32) (x6 : Int32) (x7 : Int32), k165 u x1 x2 x3 x4 x5 x6 x7 = some r → Vd RX7 "look" cX7_look 9 (some .int) (rm 5) (ab_eq (some (.int r.1)) (h_M r.2 w)) 0 0 0 0 165 [(0, .ref 0), (1, .int x1), (2, .int x2), (3, .int x3), (4, .int x4), (5, .int x5), (6, .int x6), (7, .int x7)] [] (h_M u w)) (u : (Nat → Nat → Int32)) (x1 : Int32) (x2 : Int32) (x3 : Int32) (x4 : Int32) (x5 : Int32) (x7 : Int32) (s0 : Int32) (hd : d_M_look_207 k140 k152 k165 u x1 x2 x3 x4 x5 x7 s0 = some r) : Vd RX7 "look" cX7_look 9 (some .int) (rm 5) (ab_eq (some (.int r.1)) (h_M r.2 w)) 0 0 0 0 207 [(0, .ref 0), (1, .int x1), (2, .int x2), (3, .int x3), (4, .int x4), (5, .int x5), (7, .int x7)] [.int s0] (h_M u w) := by
  unfold d_M_look_207 at hd
  refine v_istore (i := 6) (L2 := [(6, .int s0), (0, .ref 0), (1, .int x1), (2, .int x2), (3, .int x3), (4, .int x4), (5, .int x5), (7, .int x7)]) dX7_look_207 (Nat.le_of_ble_eq_true rfl) rfl ?_
  obtain ⟨zy24, ze25⟩ : ∃ z : Int32, z = (x7 + (1 : Int32)) := ⟨_, rfl⟩
  have hd := dl_n hd zy24 ze25
  refine v_iinc (v := zy24) (L2 := [(7, .int zy24), (6, .int s0), (0, .ref 0), (1, .int x1), (2, .int x2), (3, .int x3), (4, .int x4), (5, .int x5)]) dX7_look_209 rfl (by rw [ic_1]; exact ze25.symm) (Nat.le_of_ble_eq_true rfl) rfl ?_
  refine v_goto (tgt := 165) dX7_look_212 (by decide) ?_
  refine v_loc [2, 3, 4, 5, 6, 7, 1, 0] rfl ?_
  exact hk165 u x1 x2 x3 x4 x5 s0 zy24 hd

def d_M_look_165 (k140 : (Nat → Nat → Int32) → Int32 → Int32 → Int32 → Int32 → Option (Int32 × (Nat → Nat → Int32))) (k152 : (Nat → Nat → Int32) → Int32 → Int32 → Int32 → Int32 → Int32 → Option (Int32 × (Nat → Nat → Int32))) : Nat → (Nat → Nat → Int32) → Int32 → Int32 → Int32 → Int32 → Int32 → Int32 → Int32 → Option (Int32 × (Nat → Nat → Int32))
  | 0, _, _, _, _, _, _, _, _ => none
  | f + 1, u, x1, x2, x3, x4, x5, x6, x7 => if (99 : Int32) < x7 then (if x2 ≤ x6 then (d_M_look_233 k140 k152 u x1 x2 x4 x5 x6 x3) else (d_M_look_233 k140 k152 u x1 x2 x4 x5 x6 (((10 : Int32) * x4) + x5))) else (if gi (((100 : Int32) * (((10 : Int32) * x4) + x5)) + x7) 5000 = true then dl ((u 8) (((100 : Int32) * (((10 : Int32) * x4) + x5)) + x7).toNatClampNeg) fun zy21 => if zy21 ≤ x6 then (d_M_look_207 k140 k152 (d_M_look_165 k140 k152 f) u x1 x2 x3 x4 x5 x7 x6) else (d_M_look_207 k140 k152 (d_M_look_165 k140 k152 f) u x1 x2 x3 x4 x5 x7 zy21) else none)
set_option maxRecDepth 100000 in
set_option maxHeartbeats 4000000 in
theorem v_M_look_165 (w : Nat → Int64) {r : Int32 × (Nat → Nat → Int32)} (k140 : (Nat → Nat → Int32) → Int32 → Int32 → Int32 → Int32 → Option (Int32 × (Nat → Nat → Int32))) (hk140 : ∀ (u : (Nat → Nat → Int32)) (x1 : Int32) (x2 : Int32) (x3 : Int32) (x4 : Int32), k140 u x1 x2 x3 x4 = some r → Vd RX7 "look" cX7_look 9 (some .int) (rm 5) (ab_eq (some (.int r.1)) (h_M r.2 w)) 0 0 0 0 140 [(0, .ref 0), (1, .int x1), (2, .int x2), (3, .int x3), (4, .int x4)] [] (h_M u w)) (k152 : (Nat → Nat → Int32) → Int32 → Int32 → Int32 → Int32 → Int32 → Option (Int32 × (Nat → Nat → Int32))) (hk152 : ∀ (u : (Nat → Nat → Int32)) (x1 : Int32) (x2 : Int32) (x3 : Int32) (x4 : Int32) (x5 : Int32), k152 u x1 x2 x3 x4 x5 = some r → Vd RX7 "look" cX7_look 9 (some .int) (rm 5) (ab_eq (some (.int r.1)) (h_M r.2 w)) 0 0 0 0 152 [(0, .ref 0), (1, .int x1), (2, .int x2), (3, .int x3), (4, .int x4), (5, .int x5)] [] (h_M u w)) : ∀ (f : Nat) (u : (Nat → Nat → Int32)) (x1 : Int32) (x2 : Int32) (x3 : Int32) (x4 : Int32) (x5 : Int32) (x6 : Int32) (x7 : Int32), d_M_look_165 k140 k152 f u x1 x2 x3 x4 x5 x6 x7 = some r → Vd RX7 "look" cX7_look 9 (some .int) (rm 5) (ab_eq (some (.int r.1)) (h_M r.2 w)) 0 0 0 0 165 [(0, .ref 0), (1, .int x1), (2, .int x2), (3, .int x3), (4, .int x4), (5, .int x5), (6, .int x6), (7, .int x7)] [] (h_M u w) := by
  intro f
  induction f with
  | zero =>
    intro u x1 x2 x3 x4 x5 x6 x7 hd
    rw [d_M_look_165] at hd
    cases hd
  | succ f ih =>
    intro u x1 x2 x3 x4 x5 x6 x7 hd
    rw [d_M_look_165] at hd
    refine v_iload dX7_look_165 rfl ?_
    refine v_bipush dX7_look_167 bp_99 ?_
    refine v_icmp_gt (tgt := 215) dX7_look_169 (by decide) (fun zc14 => ?_) (fun zc14 => ?_)
    · have hd := g_t hd zc14
      refine v_iload dX7_look_215 rfl ?_
      refine v_iload_n dX7_look_217 rfl ?_
      refine v_icmp_ge (tgt := 232) dX7_look_218 (by decide) (fun zc15 => ?_) (fun zc15 => ?_)
      · have hd := g_t hd zc15
        refine v_iload_n dX7_look_232 rfl ?_
        refine v_loc [0, 1, 2, 4, 5, 6] rfl ?_
        exact v_M_look_233 w k140 (hk140) k152 (hk152) u x1 x2 x4 x5 x6 x3 hd
      · have hd := g_f hd zc15
        refine v_bipush dX7_look_221 bp_10 ?_
        refine v_iload dX7_look_223 rfl ?_
        refine v_imul dX7_look_225 ?_
        refine v_iload dX7_look_226 rfl ?_
        refine v_iadd dX7_look_228 ?_
        refine v_goto (tgt := 233) dX7_look_229 (by decide) ?_
        refine v_loc [0, 1, 2, 4, 5, 6] rfl ?_
        exact v_M_look_233 w k140 (hk140) k152 (hk152) u x1 x2 x4 x5 x6 (((10 : Int32) * x4) + x5) hd
    · have hd := g_f hd zc14
      refine v_aload_n dX7_look_172 rfl ?_
      refine v_get (v := .ref 8) dX7_look_173 fl_X7_32 rfl rfl ?_
      refine v_bipush dX7_look_176 bp_100 ?_
      refine v_bipush dX7_look_178 bp_10 ?_
      refine v_iload dX7_look_180 rfl ?_
      refine v_imul dX7_look_182 ?_
      refine v_iload dX7_look_183 rfl ?_
      refine v_iadd dX7_look_185 ?_
      refine v_imul dX7_look_186 ?_
      refine v_iload dX7_look_187 rfl ?_
      refine v_iadd dX7_look_189 ?_
      obtain ⟨zg20, hd⟩ := g_b hd
      refine v_iald (f := (u 8)) dX7_look_190 rfl (gi_in zg20) ?_
      refine v_topi (fun zy21 ze22 => ?_)
      have hd := dl_n hd zy21 ze22
      refine v_istore (i := 8) (L2 := [(8, .int zy21), (0, .ref 0), (1, .int x1), (2, .int x2), (3, .int x3), (4, .int x4), (5, .int x5), (6, .int x6), (7, .int x7)]) dX7_look_191 (Nat.le_of_ble_eq_true rfl) rfl ?_
      refine v_iload dX7_look_193 rfl ?_
      refine v_iload dX7_look_195 rfl ?_
      refine v_icmp_le (tgt := 205) dX7_look_197 (by decide) (fun zc23 => ?_) (fun zc23 => ?_)
      · have hd := g_t hd zc23
        refine v_iload dX7_look_205 rfl ?_
        refine v_loc [1, 2, 3, 4, 5, 6, 8] rfl ?_
        exact v_M_look_207 w k140 (hk140) k152 (hk152) (d_M_look_165 k140 k152 f) (ih) u x1 x2 x3 x4 x5 x7 x6 hd
      · have hd := g_f hd zc23
        refine v_iload dX7_look_200 rfl ?_
        refine v_goto (tgt := 207) dX7_look_202 (by decide) ?_
        refine v_loc [1, 2, 3, 4, 5, 6, 8] rfl ?_
        exact v_M_look_207 w k140 (hk140) k152 (hk152) (d_M_look_165 k140 k152 f) (ih) u x1 x2 x3 x4 x5 x7 zy21 hd

def d_M_look_152 (k140 : (Nat → Nat → Int32) → Int32 → Int32 → Int32 → Int32 → Option (Int32 × (Nat → Nat → Int32))) : Nat → (Nat → Nat → Int32) → Int32 → Int32 → Int32 → Int32 → Int32 → Option (Int32 × (Nat → Nat → Int32))
  | 0, _, _, _, _, _, _ => none
  | f + 1, u, x1, x2, x3, x4, x5 => if (9 : Int32) < x5 then (dl (x4 + (1 : Int32)) fun zy12 => k140 u x1 x2 x3 zy12) else (d_M_look_165 k140 (d_M_look_152 k140 f) FU u x1 x2 x3 x4 x5 (0 : Int32) (0 : Int32))
set_option maxRecDepth 100000 in
set_option maxHeartbeats 4000000 in
theorem v_M_look_152 (w : Nat → Int64) {r : Int32 × (Nat → Nat → Int32)} (k140 : (Nat → Nat → Int32) → Int32 → Int32 → Int32 → Int32 → Option (Int32 × (Nat → Nat → Int32))) (hk140 : ∀ (u : (Nat → Nat → Int32)) (x1 : Int32) (x2 : Int32) (x3 : Int32) (x4 : Int32), k140 u x1 x2 x3 x4 = some r → Vd RX7 "look" cX7_look 9 (some .int) (rm 5) (ab_eq (some (.int r.1)) (h_M r.2 w)) 0 0 0 0 140 [(0, .ref 0), (1, .int x1), (2, .int x2), (3, .int x3), (4, .int x4)] [] (h_M u w)) : ∀ (f : Nat) (u : (Nat → Nat → Int32)) (x1 : Int32) (x2 : Int32) (x3 : Int32) (x4 : Int32) (x5 : Int32), d_M_look_152 k140 f u x1 x2 x3 x4 x5 = some r → Vd RX7 "look" cX7_look 9 (some .int) (rm 5) (ab_eq (some (.int r.1)) (h_M r.2 w)) 0 0 0 0 152 [(0, .ref 0), (1, .int x1), (2, .int x2), (3, .int x3), (4, .int x4), (5, .int x5)] [] (h_M u w) := by
  intro f
  induction f with
  | zero =>
    intro u x1 x2 x3 x4 x5 hd
    rw [d_M_look_152] at hd
    cases hd
  | succ f ih =>
    intro u x1 x2 x3 x4 x5 hd
    rw [d_M_look_152] at hd
    refine v_iload dX7_look_152 rfl ?_
    refine v_bipush dX7_look_154 bp_9 ?_
    refine v_icmp_gt (tgt := 247) dX7_look_156 (by decide) (fun zc11 => ?_) (fun zc11 => ?_)
    · have hd := g_t hd zc11
      obtain ⟨zy12, ze13⟩ : ∃ z : Int32, z = (x4 + (1 : Int32)) := ⟨_, rfl⟩
      have hd := dl_n hd zy12 ze13
      refine v_iinc (v := zy12) (L2 := [(4, .int zy12), (0, .ref 0), (1, .int x1), (2, .int x2), (3, .int x3), (5, .int x5)]) dX7_look_247 rfl (by rw [ic_1]; exact ze13.symm) (Nat.le_of_ble_eq_true rfl) rfl ?_
      refine v_goto (tgt := 140) dX7_look_250 (by decide) ?_
      refine v_loc [1, 2, 3, 4, 0] rfl ?_
      exact hk140 u x1 x2 x3 zy12 hd
    · have hd := g_f hd zc11
      refine v_iconst dX7_look_159 ic_0 ?_
      refine v_istore (i := 6) (L2 := [(6, .int (0 : Int32)), (0, .ref 0), (1, .int x1), (2, .int x2), (3, .int x3), (4, .int x4), (5, .int x5)]) dX7_look_160 (Nat.le_of_ble_eq_true rfl) rfl ?_
      refine v_iconst dX7_look_162 ic_0 ?_
      refine v_istore (i := 7) (L2 := [(7, .int (0 : Int32)), (6, .int (0 : Int32)), (0, .ref 0), (1, .int x1), (2, .int x2), (3, .int x3), (4, .int x4), (5, .int x5)]) dX7_look_163 (Nat.le_of_ble_eq_true rfl) rfl ?_
      refine v_loc [2, 3, 4, 5, 6, 7, 1, 0] rfl ?_
      exact v_M_look_165 w k140 (hk140) (d_M_look_152 k140 f) (ih) FU u x1 x2 x3 x4 x5 (0 : Int32) (0 : Int32) hd

def d_M_look_140  : Nat → (Nat → Nat → Int32) → Int32 → Int32 → Int32 → Int32 → Option (Int32 × (Nat → Nat → Int32))
  | 0, _, _, _, _, _ => none
  | f + 1, u, x1, x2, x3, x4 => if (u 0 3) ≤ x4 then (if x3 = (-4 : Int32) then (some ((-4 : Int32), u)) else (if x1 = 0 then (some (x3, u)) else (some (x2, u)))) else (d_M_look_152 (d_M_look_140 f) FU u x1 x2 x3 x4 (1 : Int32))
set_option maxRecDepth 100000 in
set_option maxHeartbeats 4000000 in
theorem v_M_look_140 (w : Nat → Int64) {r : Int32 × (Nat → Nat → Int32)}  : ∀ (f : Nat) (u : (Nat → Nat → Int32)) (x1 : Int32) (x2 : Int32) (x3 : Int32) (x4 : Int32), d_M_look_140  f u x1 x2 x3 x4 = some r → Vd RX7 "look" cX7_look 9 (some .int) (rm 5) (ab_eq (some (.int r.1)) (h_M r.2 w)) 0 0 0 0 140 [(0, .ref 0), (1, .int x1), (2, .int x2), (3, .int x3), (4, .int x4)] [] (h_M u w) := by
  intro f
  induction f with
  | zero =>
    intro u x1 x2 x3 x4 hd
    rw [d_M_look_140] at hd
    cases hd
  | succ f ih =>
    intro u x1 x2 x3 x4 hd
    rw [d_M_look_140] at hd
    refine v_iload dX7_look_140 rfl ?_
    refine v_aload_n dX7_look_142 rfl ?_
    refine v_get (v := .int (u 0 3)) dX7_look_143 fl_X7_67 rfl rfl ?_
    refine v_icmp_ge (tgt := 253) dX7_look_146 (by decide) (fun zc8 => ?_) (fun zc8 => ?_)
    · have hd := g_t hd zc8
      refine v_iload_n dX7_look_253 rfl ?_
      refine v_bipush dX7_look_254 bp_m4 ?_
      refine v_icmp_ne (tgt := 264) dX7_look_256 (by decide) (fun zc9 => ?_) (fun zc9 => ?_)
      · have hd := g_f hd zc9
        refine v_iload_n dX7_look_264 rfl ?_
        refine v_if_ne (tgt := 272) dX7_look_265 (by decide) (fun zc10 => ?_) (fun zc10 => ?_)
        · have hd := g_f hd zc10
          refine v_iload_n dX7_look_272 rfl ?_
          obtain rfl := Option.some.inj hd
          exact v_iretE dX7_look_273 rfl rfl rfl rfl
        · have hd := g_t hd zc10
          refine v_iload_n dX7_look_268 rfl ?_
          refine v_goto (tgt := 273) dX7_look_269 (by decide) ?_
          obtain rfl := Option.some.inj hd
          exact v_iretE dX7_look_273 rfl rfl rfl rfl
      · have hd := g_t hd zc9
        refine v_bipush dX7_look_259 bp_m4 ?_
        refine v_goto (tgt := 273) dX7_look_261 (by decide) ?_
        obtain rfl := Option.some.inj hd
        exact v_iretE dX7_look_273 rfl rfl rfl rfl
    · have hd := g_f hd zc8
      refine v_iconst dX7_look_149 ic_1 ?_
      refine v_istore (i := 5) (L2 := [(5, .int (1 : Int32)), (0, .ref 0), (1, .int x1), (2, .int x2), (3, .int x3), (4, .int x4)]) dX7_look_150 (Nat.le_of_ble_eq_true rfl) rfl ?_
      refine v_loc [1, 2, 3, 4, 5, 0] rfl ?_
      exact v_M_look_152 w (d_M_look_140 f) (ih) FU u x1 x2 x3 x4 (1 : Int32) hd

def d_M_look_131 (k42 : (Nat → Nat → Int32) → Int32 → Int32 → Int32 → Int32 → Option (Int32 × (Nat → Nat → Int32))) (u : (Nat → Nat → Int32)) (x1 : Int32) (x2 : Int32) (x3 : Int32) (x4 : Int32) : Option (Int32 × (Nat → Nat → Int32)) := dl (x4 + (1 : Int32)) fun zy29 => k42 u x1 x2 x3 zy29
set_option maxRecDepth 100000 in
set_option maxHeartbeats 4000000 in
theorem v_M_look_131 (w : Nat → Int64) {r : Int32 × (Nat → Nat → Int32)} (k42 : (Nat → Nat → Int32) → Int32 → Int32 → Int32 → Int32 → Option (Int32 × (Nat → Nat → Int32))) (hk42 : ∀ (u : (Nat → Nat → Int32)) (x1 : Int32) (x2 : Int32) (x3 : Int32) (x4 : Int32), k42 u x1 x2 x3 x4 = some r → Vd RX7 "look" cX7_look 9 (some .int) (rm 5) (ab_eq (some (.int r.1)) (h_M r.2 w)) 0 0 0 0 42 [(0, .ref 0), (1, .int x1), (2, .int x2), (3, .int x3), (4, .int x4)] [] (h_M u w)) (u : (Nat → Nat → Int32)) (x1 : Int32) (x2 : Int32) (x3 : Int32) (x4 : Int32) (hd : d_M_look_131 k42 u x1 x2 x3 x4 = some r) : Vd RX7 "look" cX7_look 9 (some .int) (rm 5) (ab_eq (some (.int r.1)) (h_M r.2 w)) 0 0 0 0 131 [(0, .ref 0), (1, .int x1), (2, .int x2), (3, .int x3), (4, .int x4)] [] (h_M u w) := by
  unfold d_M_look_131 at hd
  obtain ⟨zy29, ze30⟩ : ∃ z : Int32, z = (x4 + (1 : Int32)) := ⟨_, rfl⟩
  have hd := dl_n hd zy29 ze30
  refine v_iinc (v := zy29) (L2 := [(4, .int zy29), (0, .ref 0), (1, .int x1), (2, .int x2), (3, .int x3)]) dX7_look_131 rfl (by rw [ic_1]; exact ze30.symm) (Nat.le_of_ble_eq_true rfl) rfl ?_
  refine v_goto (tgt := 42) dX7_look_134 (by decide) ?_
  refine v_loc [1, 2, 3, 4, 0] rfl ?_
  exact hk42 u x1 x2 x3 zy29 hd

def d_M_look_78 (k42 : (Nat → Nat → Int32) → Int32 → Int32 → Int32 → Int32 → Option (Int32 × (Nat → Nat → Int32))) (k66 : (Nat → Nat → Int32) → Int32 → Int32 → Int32 → Int32 → Int32 → Option (Int32 × (Nat → Nat → Int32))) : Nat → (Nat → Nat → Int32) → Int32 → Int32 → Int32 → Int32 → Int32 → Int32 → Option (Int32 × (Nat → Nat → Int32))
  | 0, _, _, _, _, _, _, _ => none
  | f + 1, u, x1, x2, x3, x4, x5, x6 => if (9 : Int32) < x6 then (dl (x5 + (1 : Int32)) fun zy35 => k66 u x1 x2 x3 x4 zy35) else (if gi (((10 : Int32) * x5) + x6) 50 = true then if gi (((100 : Int32) * (((10 : Int32) * x5) + x6)) + ((u 7) (((10 : Int32) * x5) + x6).toNatClampNeg)) 5000 = true then if gi (((100 : Int32) * (((10 : Int32) * x5) + x6)) + ((u 7) (((10 : Int32) * x5) + x6).toNatClampNeg)) 5000 = true then dl (((u 8) (((100 : Int32) * (((10 : Int32) * x5) + x6)) + ((u 7) (((10 : Int32) * x5) + x6).toNatClampNeg)).toNatClampNeg) + (1 : Int32)) fun zy40 => dl (pw u 8 (((100 : Int32) * (((10 : Int32) * x5) + x6)) + ((u 7) (((10 : Int32) * x5) + x6).toNatClampNeg)).toNatClampNeg zy40) fun zu42 => dl (x6 + (1 : Int32)) fun zy44 => d_M_look_78 k42 k66 f zu42 x1 x2 x3 x4 x5 zy44 else none else none else none)
set_option maxRecDepth 100000 in
set_option maxHeartbeats 4000000 in
theorem v_M_look_78 (w : Nat → Int64) {r : Int32 × (Nat → Nat → Int32)} (k42 : (Nat → Nat → Int32) → Int32 → Int32 → Int32 → Int32 → Option (Int32 × (Nat → Nat → Int32))) (hk42 : ∀ (u : (Nat → Nat → Int32)) (x1 : Int32) (x2 : Int32) (x3 : Int32) (x4 : Int32), k42 u x1 x2 x3 x4 = some r → Vd RX7 "look" cX7_look 9 (some .int) (rm 5) (ab_eq (some (.int r.1)) (h_M r.2 w)) 0 0 0 0 42 [(0, .ref 0), (1, .int x1), (2, .int x2), (3, .int x3), (4, .int x4)] [] (h_M u w)) (k66 : (Nat → Nat → Int32) → Int32 → Int32 → Int32 → Int32 → Int32 → Option (Int32 × (Nat → Nat → Int32))) (hk66 : ∀ (u : (Nat → Nat → Int32)) (x1 : Int32) (x2 : Int32) (x3 : Int32) (x4 : Int32) (x5 : Int32), k66 u x1 x2 x3 x4 x5 = some r → Vd RX7 "look" cX7_look 9 (some .int) (rm 5) (ab_eq (some (.int r.1)) (h_M r.2 w)) 0 0 0 0 66 [(0, .ref 0), (1, .int x1), (2, .int x2), (3, .int x3), (4, .int x4), (5, .int x5)] [] (h_M u w)) : ∀ (f : Nat) (u : (Nat → Nat → Int32)) (x1 : Int32) (x2 : Int32) (x3 : Int32) (x4 : Int32) (x5 : Int32) (x6 : Int32), d_M_look_78 k42 k66 f u x1 x2 x3 x4 x5 x6 = some r → Vd RX7 "look" cX7_look 9 (some .int) (rm 5) (ab_eq (some (.int r.1)) (h_M r.2 w)) 0 0 0 0 78 [(0, .ref 0), (1, .int x1), (2, .int x2), (3, .int x3), (4, .int x4), (5, .int x5), (6, .int x6)] [] (h_M u w) := by
  intro f
  induction f with
  | zero =>
    intro u x1 x2 x3 x4 x5 x6 hd
    rw [d_M_look_78] at hd
    cases hd
  | succ f ih =>
    intro u x1 x2 x3 x4 x5 x6 hd
    rw [d_M_look_78] at hd
    refine v_iload dX7_look_78 rfl ?_
    refine v_bipush dX7_look_80 bp_9 ?_
    refine v_icmp_gt (tgt := 125) dX7_look_82 (by decide) (fun zc34 => ?_) (fun zc34 => ?_)
    · have hd := g_t hd zc34
      obtain ⟨zy35, ze36⟩ : ∃ z : Int32, z = (x5 + (1 : Int32)) := ⟨_, rfl⟩
      have hd := dl_n hd zy35 ze36
      refine v_iinc (v := zy35) (L2 := [(5, .int zy35), (0, .ref 0), (1, .int x1), (2, .int x2), (3, .int x3), (4, .int x4), (6, .int x6)]) dX7_look_125 rfl (by rw [ic_1]; exact ze36.symm) (Nat.le_of_ble_eq_true rfl) rfl ?_
      refine v_goto (tgt := 66) dX7_look_128 (by decide) ?_
      refine v_loc [1, 2, 3, 4, 5, 0] rfl ?_
      exact hk66 u x1 x2 x3 x4 zy35 hd
    · have hd := g_f hd zc34
      refine v_aload_n dX7_look_85 rfl ?_
      refine v_get (v := .ref 8) dX7_look_86 fl_X7_32 rfl rfl ?_
      refine v_bipush dX7_look_89 bp_100 ?_
      refine v_bipush dX7_look_91 bp_10 ?_
      refine v_iload dX7_look_93 rfl ?_
      refine v_imul dX7_look_95 ?_
      refine v_iload dX7_look_96 rfl ?_
      refine v_iadd dX7_look_98 ?_
      refine v_imul dX7_look_99 ?_
      refine v_aload_n dX7_look_100 rfl ?_
      refine v_get (v := .ref 7) dX7_look_101 fl_X7_29 rfl rfl ?_
      refine v_bipush dX7_look_104 bp_10 ?_
      refine v_iload dX7_look_106 rfl ?_
      refine v_imul dX7_look_108 ?_
      refine v_iload dX7_look_109 rfl ?_
      refine v_iadd dX7_look_111 ?_
      obtain ⟨zg37, hd⟩ := g_b hd
      refine v_iald (f := (u 7)) dX7_look_112 rfl (gi_in zg37) ?_
      refine v_iadd dX7_look_113 ?_
      refine v_dup2 dX7_look_114 rfl rfl ?_
      obtain ⟨zg38, hd⟩ := g_b hd
      refine v_iald (f := (u 8)) dX7_look_115 rfl (gi_in zg38) ?_
      refine v_iconst dX7_look_116 ic_1 ?_
      refine v_iadd dX7_look_117 ?_
      obtain ⟨zg39, hd⟩ := g_b hd
      refine v_topi (fun zy40 ze41 => ?_)
      have hd := dl_n hd zy40 ze41
      refine v_ist (f := (u 8)) (h2 := (h_M (pw u 8 (((100 : Int32) * (((10 : Int32) * x5) + x6)) + ((u 7) (((10 : Int32) * x5) + x6).toNatClampNeg)).toNatClampNeg zy40) w)) dX7_look_118 rfl (gi_in zg39) rfl ?_
      refine v_nmu (F := fun z => (h_M z w)) (e := (pw u 8 (((100 : Int32) * (((10 : Int32) * x5) + x6)) + ((u 7) (((10 : Int32) * x5) + x6).toNatClampNeg)).toNatClampNeg zy40)) (fun zu42 ze43 => ?_)
      have hd := dl_n hd zu42 ze43
      obtain ⟨zy44, ze45⟩ : ∃ z : Int32, z = (x6 + (1 : Int32)) := ⟨_, rfl⟩
      have hd := dl_n hd zy44 ze45
      refine v_iinc (v := zy44) (L2 := [(6, .int zy44), (0, .ref 0), (1, .int x1), (2, .int x2), (3, .int x3), (4, .int x4), (5, .int x5)]) dX7_look_119 rfl (by rw [ic_1]; exact ze45.symm) (Nat.le_of_ble_eq_true rfl) rfl ?_
      refine v_goto (tgt := 78) dX7_look_122 (by decide) ?_
      refine v_loc [1, 2, 3, 4, 5, 6, 0] rfl ?_
      exact ih zu42 x1 x2 x3 x4 x5 zy44 hd

def d_M_look_66 (k42 : (Nat → Nat → Int32) → Int32 → Int32 → Int32 → Int32 → Option (Int32 × (Nat → Nat → Int32))) : Nat → (Nat → Nat → Int32) → Int32 → Int32 → Int32 → Int32 → Int32 → Option (Int32 × (Nat → Nat → Int32))
  | 0, _, _, _, _, _, _ => none
  | f + 1, u, x1, x2, x3, x4, x5 => if (u 0 3) ≤ x5 then (d_M_look_131 k42 u x1 x2 x3 x4) else (d_M_look_78 k42 (d_M_look_66 k42 f) FU u x1 x2 x3 x4 x5 (1 : Int32))
set_option maxRecDepth 100000 in
set_option maxHeartbeats 4000000 in
theorem v_M_look_66 (w : Nat → Int64) {r : Int32 × (Nat → Nat → Int32)} (k42 : (Nat → Nat → Int32) → Int32 → Int32 → Int32 → Int32 → Option (Int32 × (Nat → Nat → Int32))) (hk42 : ∀ (u : (Nat → Nat → Int32)) (x1 : Int32) (x2 : Int32) (x3 : Int32) (x4 : Int32), k42 u x1 x2 x3 x4 = some r → Vd RX7 "look" cX7_look 9 (some .int) (rm 5) (ab_eq (some (.int r.1)) (h_M r.2 w)) 0 0 0 0 42 [(0, .ref 0), (1, .int x1), (2, .int x2), (3, .int x3), (4, .int x4)] [] (h_M u w)) : ∀ (f : Nat) (u : (Nat → Nat → Int32)) (x1 : Int32) (x2 : Int32) (x3 : Int32) (x4 : Int32) (x5 : Int32), d_M_look_66 k42 f u x1 x2 x3 x4 x5 = some r → Vd RX7 "look" cX7_look 9 (some .int) (rm 5) (ab_eq (some (.int r.1)) (h_M r.2 w)) 0 0 0 0 66 [(0, .ref 0), (1, .int x1), (2, .int x2), (3, .int x3), (4, .int x4), (5, .int x5)] [] (h_M u w) := by
  intro f
  induction f with
  | zero =>
    intro u x1 x2 x3 x4 x5 hd
    rw [d_M_look_66] at hd
    cases hd
  | succ f ih =>
    intro u x1 x2 x3 x4 x5 hd
    rw [d_M_look_66] at hd
    refine v_iload dX7_look_66 rfl ?_
    refine v_aload_n dX7_look_68 rfl ?_
    refine v_get (v := .int (u 0 3)) dX7_look_69 fl_X7_67 rfl rfl ?_
    refine v_icmp_ge (tgt := 131) dX7_look_72 (by decide) (fun zc33 => ?_) (fun zc33 => ?_)
    · have hd := g_t hd zc33
      refine v_loc [0, 1, 2, 3, 4] rfl ?_
      exact v_M_look_131 w k42 (hk42) u x1 x2 x3 x4 hd
    · have hd := g_f hd zc33
      refine v_iconst dX7_look_75 ic_1 ?_
      refine v_istore (i := 6) (L2 := [(6, .int (1 : Int32)), (0, .ref 0), (1, .int x1), (2, .int x2), (3, .int x3), (4, .int x4), (5, .int x5)]) dX7_look_76 (Nat.le_of_ble_eq_true rfl) rfl ?_
      refine v_loc [1, 2, 3, 4, 5, 6, 0] rfl ?_
      exact v_M_look_78 w k42 (hk42) (d_M_look_66 k42 f) (ih) FU u x1 x2 x3 x4 x5 (1 : Int32) hd

def d_M_look_42  : Nat → (Nat → Nat → Int32) → Int32 → Int32 → Int32 → Int32 → Option (Int32 × (Nat → Nat → Int32))
  | 0, _, _, _, _, _ => none
  | f + 1, u, x1, x2, x3, x4 => (d_M_numbers u).bind fun zr5 => if zr5 ≤ x4 then (d_M_look_140 FU u x1 x2 x3 (0 : Int32)) else ((d_M_isFit u x4).bind fun zr26 => if zr26.1 = 0 then (d_M_look_131 (d_M_look_42 f) zr26.2 x1 x2 x3 x4) else (dl (x2 + (1 : Int32)) fun zy31 => d_M_look_66 (d_M_look_42 f) FU zr26.2 x1 zy31 x3 x4 (0 : Int32)))
set_option maxRecDepth 100000 in
set_option maxHeartbeats 4000000 in
theorem v_M_look_42 (w : Nat → Int64) {r : Int32 × (Nat → Nat → Int32)}  : ∀ (f : Nat) (u : (Nat → Nat → Int32)) (x1 : Int32) (x2 : Int32) (x3 : Int32) (x4 : Int32), d_M_look_42  f u x1 x2 x3 x4 = some r → Vd RX7 "look" cX7_look 9 (some .int) (rm 5) (ab_eq (some (.int r.1)) (h_M r.2 w)) 0 0 0 0 42 [(0, .ref 0), (1, .int x1), (2, .int x2), (3, .int x3), (4, .int x4)] [] (h_M u w) := by
  intro f
  induction f with
  | zero =>
    intro u x1 x2 x3 x4 hd
    rw [d_M_look_42] at hd
    cases hd
  | succ f ih =>
    intro u x1 x2 x3 x4 hd
    rw [d_M_look_42] at hd
    refine v_iload dX7_look_42 rfl ?_
    refine v_aload_n dX7_look_44 rfl ?_
    obtain ⟨zr5, zh6, hd⟩ := g_bind hd
    refine v_cI (dy := 0) (st := [.int x4]) (st2 := [.int zr5, .int x4]) dX7_look_45 mv_X7_206 (m_M_numbers u w zh6) rfl rfl rfl rfl rfl (by decide) (by decide) rfl rfl ?_
    refine v_icmp_ge (tgt := 137) dX7_look_48 (by decide) (fun zc7 => ?_) (fun zc7 => ?_)
    · have hd := g_t hd zc7
      refine v_iconst dX7_look_137 ic_0 ?_
      refine v_istore (i := 4) (L2 := [(4, .int (0 : Int32)), (0, .ref 0), (1, .int x1), (2, .int x2), (3, .int x3)]) dX7_look_138 (Nat.le_of_ble_eq_true rfl) rfl ?_
      refine v_loc [1, 2, 3, 4, 0] rfl ?_
      exact v_M_look_140 w FU u x1 x2 x3 (0 : Int32) hd
    · have hd := g_f hd zc7
      refine v_aload_n dX7_look_51 rfl ?_
      refine v_iload dX7_look_52 rfl ?_
      obtain ⟨zr26, zh27, hd⟩ := g_bind hd
      refine v_cI (dy := 4) (st := []) (st2 := [.int zr26.1]) dX7_look_54 mv_X7_257 (m_M_isFit u x4 w zh27) rfl rfl rfl rfl rfl (by decide) (by decide) rfl rfl ?_
      refine v_if_eq (tgt := 131) dX7_look_57 (by decide) (fun zc28 => ?_) (fun zc28 => ?_)
      · have hd := g_t hd zc28
        exact v_M_look_131 w (d_M_look_42 f) (ih) zr26.2 x1 x2 x3 x4 hd
      · have hd := g_f hd zc28
        obtain ⟨zy31, ze32⟩ : ∃ z : Int32, z = (x2 + (1 : Int32)) := ⟨_, rfl⟩
        have hd := dl_n hd zy31 ze32
        refine v_iinc (v := zy31) (L2 := [(2, .int zy31), (0, .ref 0), (1, .int x1), (3, .int x3), (4, .int x4)]) dX7_look_60 rfl (by rw [ic_1]; exact ze32.symm) (Nat.le_of_ble_eq_true rfl) rfl ?_
        refine v_iconst dX7_look_63 ic_0 ?_
        refine v_istore (i := 5) (L2 := [(5, .int (0 : Int32)), (2, .int zy31), (0, .ref 0), (1, .int x1), (3, .int x3), (4, .int x4)]) dX7_look_64 (Nat.le_of_ble_eq_true rfl) rfl ?_
        refine v_loc [2, 3, 1, 4, 5, 0] rfl ?_
        exact v_M_look_66 w (d_M_look_42 f) (ih) FU zr26.2 x1 zy31 x3 x4 (0 : Int32) hd

def d_M_look_17  : Nat → (Nat → Nat → Int32) → Int32 → Int32 → Int32 → Int32 → Option (Int32 × (Nat → Nat → Int32))
  | 0, _, _, _, _, _ => none
  | f + 1, u, x1, x2, x3, x4 => if (5000 : Int32) ≤ x4 then (d_M_look_42 FU u x1 x2 x3 (0 : Int32)) else (if gi x4 5000 = true then dl (pw u 8 x4.toNatClampNeg (0 : Int32)) fun zu47 => dl (x4 + (1 : Int32)) fun zy49 => d_M_look_17 f zu47 x1 x2 x3 zy49 else none)
set_option maxRecDepth 100000 in
set_option maxHeartbeats 4000000 in
theorem v_M_look_17 (w : Nat → Int64) {r : Int32 × (Nat → Nat → Int32)}  : ∀ (f : Nat) (u : (Nat → Nat → Int32)) (x1 : Int32) (x2 : Int32) (x3 : Int32) (x4 : Int32), d_M_look_17  f u x1 x2 x3 x4 = some r → Vd RX7 "look" cX7_look 9 (some .int) (rm 5) (ab_eq (some (.int r.1)) (h_M r.2 w)) 0 0 0 0 17 [(0, .ref 0), (1, .int x1), (2, .int x2), (3, .int x3), (4, .int x4)] [] (h_M u w) := by
  intro f
  induction f with
  | zero =>
    intro u x1 x2 x3 x4 hd
    rw [d_M_look_17] at hd
    cases hd
  | succ f ih =>
    intro u x1 x2 x3 x4 hd
    rw [d_M_look_17] at hd
    refine v_iload dX7_look_17 rfl ?_
    refine v_sipush dX7_look_19 sp_5000 ?_
    refine v_icmp_ge (tgt := 39) dX7_look_22 (by decide) (fun zc4 => ?_) (fun zc4 => ?_)
    · have hd := g_t hd zc4
      refine v_iconst dX7_look_39 ic_0 ?_
      refine v_istore (i := 4) (L2 := [(4, .int (0 : Int32)), (0, .ref 0), (1, .int x1), (2, .int x2), (3, .int x3)]) dX7_look_40 (Nat.le_of_ble_eq_true rfl) rfl ?_
      refine v_loc [1, 2, 3, 4, 0] rfl ?_
      exact v_M_look_42 w FU u x1 x2 x3 (0 : Int32) hd
    · have hd := g_f hd zc4
      refine v_aload_n dX7_look_25 rfl ?_
      refine v_get (v := .ref 8) dX7_look_26 fl_X7_32 rfl rfl ?_
      refine v_iload dX7_look_29 rfl ?_
      refine v_iconst dX7_look_31 ic_0 ?_
      obtain ⟨zg46, hd⟩ := g_b hd
      refine v_ist (f := (u 8)) (h2 := (h_M (pw u 8 x4.toNatClampNeg (0 : Int32)) w)) dX7_look_32 rfl (gi_in zg46) rfl ?_
      refine v_nmu (F := fun z => (h_M z w)) (e := (pw u 8 x4.toNatClampNeg (0 : Int32))) (fun zu47 ze48 => ?_)
      have hd := dl_n hd zu47 ze48
      obtain ⟨zy49, ze50⟩ : ∃ z : Int32, z = (x4 + (1 : Int32)) := ⟨_, rfl⟩
      have hd := dl_n hd zy49 ze50
      refine v_iinc (v := zy49) (L2 := [(4, .int zy49), (0, .ref 0), (1, .int x1), (2, .int x2), (3, .int x3)]) dX7_look_33 rfl (by rw [ic_1]; exact ze50.symm) (Nat.le_of_ble_eq_true rfl) rfl ?_
      refine v_goto (tgt := 17) dX7_look_36 (by decide) ?_
      refine v_loc [1, 2, 3, 4, 0] rfl ?_
      exact ih zu47 x1 x2 x3 zy49 hd
def d_M_look (u : (Nat → Nat → Int32)) (a1 : Int32) : Option (Int32 × (Nat → Nat → Int32)) := (d_P_isPart a1).bind fun zr1 => if zr1 = 0 then (some ((-1 : Int32), u)) else (d_M_look_17 FU u a1 (0 : Int32) (-4 : Int32) (0 : Int32))
set_option maxRecDepth 100000 in
set_option maxHeartbeats 4000000 in
theorem v_M_look (u : (Nat → Nat → Int32)) (a1 : Int32) (w : Nat → Int64) {r : Int32 × (Nat → Nat → Int32)} (hd : d_M_look u a1 = some r) : Vd RX7 "look" cX7_look 9 (some .int) (rm 5) (ab_eq (some (.int r.1)) (h_M r.2 w)) 0 0 0 0 0 [(0, .ref 0), (1, .int a1)] [] (h_M u w) := by
  unfold d_M_look at hd
  refine v_iload_n dX7_look_0 rfl ?_
  obtain ⟨zr1, zh2, hd⟩ := g_bind hd
  refine v_cS (dy := 1) (st := []) (st2 := [.int zr1]) (h2 := (h_M u w)) [] dX7_look_1 mz_X7_182 (m_P_isPart a1 zh2) rfl rfl rfl rfl rfl rfl (by decide) (by decide) rfl rfl rfl ?_
  refine v_if_ne (tgt := 9) dX7_look_4 (by decide) (fun zc3 => ?_) (fun zc3 => ?_)
  · have hd := g_f hd zc3
    refine v_iconst dX7_look_9 ic_0 ?_
    refine v_istore_n (i := 2) (L2 := [(2, .int (0 : Int32)), (0, .ref 0), (1, .int a1)]) dX7_look_10 rfl (Nat.le_of_ble_eq_true rfl) rfl ?_
    refine v_bipush dX7_look_11 bp_m4 ?_
    refine v_istore_n (i := 3) (L2 := [(3, .int (-4 : Int32)), (2, .int (0 : Int32)), (0, .ref 0), (1, .int a1)]) dX7_look_13 rfl (Nat.le_of_ble_eq_true rfl) rfl ?_
    refine v_iconst dX7_look_14 ic_0 ?_
    refine v_istore (i := 4) (L2 := [(4, .int (0 : Int32)), (3, .int (-4 : Int32)), (2, .int (0 : Int32)), (0, .ref 0), (1, .int a1)]) dX7_look_15 (Nat.le_of_ble_eq_true rfl) rfl ?_
    refine v_loc [3, 4, 2, 1, 0] rfl ?_
    exact v_M_look_17 w FU u a1 (0 : Int32) (-4 : Int32) (0 : Int32) hd
  · have hd := g_t hd zc3
    refine v_iconst dX7_look_7 ic_m1 ?_
    obtain rfl := Option.some.inj hd
    exact v_iretE dX7_look_8 rfl rfl rfl rfl
theorem m_M_look (u : (Nat → Nat → Int32)) (a1 : Int32) (w : Nat → Int64) {r : Int32 × (Nat → Nat → Int32)} (hd : d_M_look u a1 = some r) : Mt yX7_look cX7_look 9 (some .int) (rm 5) [.ref 0, .int a1] (h_M u w) (ab_eq (some (.int r.1)) (h_M r.2 w)) := Mt.of (by decide +kernel) (fun _ _ _ => trivial) (Nat.le_of_ble_eq_true rfl) (v_M_look u a1 w hd)

def d_M_drift_104 (k41 : (Nat → Nat → Int32) → Int32 → Int32 → Int32 → Int32 → Option (Int32 × (Nat → Nat → Int32))) (u : (Nat → Nat → Int32)) (x2 : Int32) (x3 : Int32) (x4 : Int32) (x5 : Int32) : Option (Int32 × (Nat → Nat → Int32)) := dl (x5 + (1 : Int32)) fun zy19 => k41 u x2 x3 x4 zy19
set_option maxRecDepth 100000 in
set_option maxHeartbeats 4000000 in
theorem v_M_drift_104 (w : Nat → Int64) {r : Int32 × (Nat → Nat → Int32)} (k41 : (Nat → Nat → Int32) → Int32 → Int32 → Int32 → Int32 → Option (Int32 × (Nat → Nat → Int32))) (hk41 : ∀ (u : (Nat → Nat → Int32)) (x2 : Int32) (x3 : Int32) (x4 : Int32) (x5 : Int32), k41 u x2 x3 x4 x5 = some r → Vd RX7 "drift" cX7_drift 7 (some .int) (rm 3) (ab_eq (some (.int r.1)) (h_M r.2 w)) 0 0 0 0 41 [(0, .ref 0), (2, .int x2), (3, .int x3), (4, .int x4), (5, .int x5)] [] (h_M u w)) (u : (Nat → Nat → Int32)) (x2 : Int32) (x3 : Int32) (x4 : Int32) (x5 : Int32) (hd : d_M_drift_104 k41 u x2 x3 x4 x5 = some r) : Vd RX7 "drift" cX7_drift 7 (some .int) (rm 3) (ab_eq (some (.int r.1)) (h_M r.2 w)) 0 0 0 0 104 [(0, .ref 0), (2, .int x2), (3, .int x3), (4, .int x4), (5, .int x5)] [] (h_M u w) := by
  unfold d_M_drift_104 at hd
  obtain ⟨zy19, ze20⟩ : ∃ z : Int32, z = (x5 + (1 : Int32)) := ⟨_, rfl⟩
  have hd := dl_n hd zy19 ze20
  refine v_iinc (v := zy19) (L2 := [(5, .int zy19), (0, .ref 0), (2, .int x2), (3, .int x3), (4, .int x4)]) dX7_drift_104 rfl (by rw [ic_1]; exact ze20.symm) (Nat.le_of_ble_eq_true rfl) rfl ?_
  refine v_goto (tgt := 41) dX7_drift_107 (by decide) ?_
  refine v_loc [1, 2, 3, 4, 0] rfl ?_
  exact hk41 u x2 x3 x4 zy19 hd

def d_M_drift_41  : Nat → (Nat → Nat → Int32) → Int32 → Int32 → Int32 → Int32 → Option (Int32 × (Nat → Nat → Int32))
  | 0, _, _, _, _, _ => none
  | f + 1, u, x2, x3, x4, x5 => if x2 ≤ x5 then (if x3 = 0 then (some ((((u 2) (20 : Int32).toNatClampNeg) - ((u 1) (20 : Int32).toNatClampNeg)), u)) else ((d_M_allOf u (5 : Int32)).bind fun zr12 => some (zr12, u))) else (dl ((x4 * (1103515245 : Int32)) + (12345 : Int32)) fun zy14 => dl ((zy14 >>> ((16 : Int32) &&& 31)) &&& (32767 : Int32)) fun zy16 => if (zy16 - zy16 / (8 : Int32) * (8 : Int32)) ≤ (1 : Int32) then (d_M_drift_104 (d_M_drift_41 f) u x2 x3 zy14 x5) else (if gi ((0 : Int32) + ((u 2) (15 : Int32).toNatClampNeg)) 41 = true then dl ((zy16 / (8 : Int32)) - (zy16 / (8 : Int32)) / (4 : Int32) * (4 : Int32)) fun zy22 => dl (pw u 2 ((0 : Int32) + ((u 2) (15 : Int32).toNatClampNeg)).toNatClampNeg zy22) fun zu24 => (d_M_asks zu24).bind fun zr26 => d_M_drift_104 (d_M_drift_41 f) zr26 x2 x3 zy14 x5 else none))
set_option maxRecDepth 100000 in
set_option maxHeartbeats 4000000 in
theorem v_M_drift_41 (w : Nat → Int64) {r : Int32 × (Nat → Nat → Int32)}  : ∀ (f : Nat) (u : (Nat → Nat → Int32)) (x2 : Int32) (x3 : Int32) (x4 : Int32) (x5 : Int32), d_M_drift_41  f u x2 x3 x4 x5 = some r → Vd RX7 "drift" cX7_drift 7 (some .int) (rm 3) (ab_eq (some (.int r.1)) (h_M r.2 w)) 0 0 0 0 41 [(0, .ref 0), (2, .int x2), (3, .int x3), (4, .int x4), (5, .int x5)] [] (h_M u w) := by
  intro f
  induction f with
  | zero =>
    intro u x2 x3 x4 x5 hd
    rw [d_M_drift_41] at hd
    cases hd
  | succ f ih =>
    intro u x2 x3 x4 x5 hd
    rw [d_M_drift_41] at hd
    refine v_iload dX7_drift_41 rfl ?_
    refine v_iload_n dX7_drift_43 rfl ?_
    refine v_icmp_ge (tgt := 110) dX7_drift_44 (by decide) (fun zc10 => ?_) (fun zc10 => ?_)
    · have hd := g_t hd zc10
      refine v_iload_n dX7_drift_110 rfl ?_
      refine v_if_ne (tgt := 132) dX7_drift_111 (by decide) (fun zc11 => ?_) (fun zc11 => ?_)
      · have hd := g_f hd zc11
        refine v_aload_n dX7_drift_132 rfl ?_
        refine v_iconst dX7_drift_133 ic_5 ?_
        obtain ⟨zr12, zh13, hd⟩ := g_bind hd
        refine v_cI (dy := 0) (st := []) (st2 := [.int zr12]) dX7_drift_134 mv_X7_173 (m_M_allOf u (5 : Int32) w zh13) rfl rfl rfl rfl rfl (by decide) (by decide) rfl rfl ?_
        obtain rfl := Option.some.inj hd
        exact v_iretE dX7_drift_137 rfl rfl rfl rfl
      · have hd := g_t hd zc11
        refine v_aload_n dX7_drift_114 rfl ?_
        refine v_get (v := .ref 2) dX7_drift_115 fl_X7_13 rfl rfl ?_
        refine v_bipush dX7_drift_118 bp_20 ?_
        refine v_iald (f := (u 2)) dX7_drift_120 rfl gl_20_41 ?_
        refine v_aload_n dX7_drift_121 rfl ?_
        refine v_get (v := .ref 1) dX7_drift_122 fl_X7_7 rfl rfl ?_
        refine v_bipush dX7_drift_125 bp_20 ?_
        refine v_iald (f := (u 1)) dX7_drift_127 rfl gl_20_123 ?_
        refine v_isub dX7_drift_128 ?_
        refine v_goto (tgt := 137) dX7_drift_129 (by decide) ?_
        obtain rfl := Option.some.inj hd
        exact v_iretE dX7_drift_137 rfl rfl rfl rfl
    · have hd := g_f hd zc10
      refine v_iload dX7_drift_47 rfl ?_
      refine v_ldcw dX7_drift_49 kc_X7_262 ?_
      refine v_imul dX7_drift_52 ?_
      refine v_sipush dX7_drift_53 sp_12345 ?_
      refine v_iadd dX7_drift_56 ?_
      refine v_topi (fun zy14 ze15 => ?_)
      have hd := dl_n hd zy14 ze15
      refine v_istore (i := 4) (L2 := [(4, .int zy14), (0, .ref 0), (2, .int x2), (3, .int x3), (5, .int x5)]) dX7_drift_57 (Nat.le_of_ble_eq_true rfl) rfl ?_
      refine v_iload dX7_drift_59 rfl ?_
      refine v_bipush dX7_drift_61 bp_16 ?_
      refine v_ishr dX7_drift_63 ?_
      refine v_sipush dX7_drift_64 sp_32767 ?_
      refine v_iand dX7_drift_67 ?_
      refine v_topi (fun zy16 ze17 => ?_)
      have hd := dl_n hd zy16 ze17
      refine v_istore (i := 6) (L2 := [(6, .int zy16), (4, .int zy14), (0, .ref 0), (2, .int x2), (3, .int x3), (5, .int x5)]) dX7_drift_68 (Nat.le_of_ble_eq_true rfl) rfl ?_
      refine v_iload dX7_drift_70 rfl ?_
      refine v_bipush dX7_drift_72 bp_8 ?_
      refine v_irem dX7_drift_74 nz_8 ?_
      refine v_iconst dX7_drift_75 ic_1 ?_
      refine v_icmp_le (tgt := 104) dX7_drift_76 (by decide) (fun zc18 => ?_) (fun zc18 => ?_)
      · have hd := g_t hd zc18
        refine v_loc [2, 3, 4, 1, 5] rfl ?_
        exact v_M_drift_104 w (d_M_drift_41 f) (ih) u x2 x3 zy14 x5 hd
      · have hd := g_f hd zc18
        refine v_aload_n dX7_drift_79 rfl ?_
        refine v_get (v := .ref 2) dX7_drift_80 fl_X7_13 rfl rfl ?_
        refine v_iconst dX7_drift_83 ic_0 ?_
        refine v_aload_n dX7_drift_84 rfl ?_
        refine v_get (v := .ref 2) dX7_drift_85 fl_X7_13 rfl rfl ?_
        refine v_bipush dX7_drift_88 bp_15 ?_
        refine v_iald (f := (u 2)) dX7_drift_90 rfl gl_15_41 ?_
        refine v_iadd dX7_drift_91 ?_
        refine v_iload dX7_drift_92 rfl ?_
        refine v_bipush dX7_drift_94 bp_8 ?_
        refine v_idiv dX7_drift_96 nz_8 ?_
        refine v_iconst dX7_drift_97 ic_4 ?_
        refine v_irem dX7_drift_98 nz_4 ?_
        obtain ⟨zg21, hd⟩ := g_b hd
        refine v_topi (fun zy22 ze23 => ?_)
        have hd := dl_n hd zy22 ze23
        refine v_ist (f := (u 2)) (h2 := (h_M (pw u 2 ((0 : Int32) + ((u 2) (15 : Int32).toNatClampNeg)).toNatClampNeg zy22) w)) dX7_drift_99 rfl (gi_in zg21) rfl ?_
        refine v_nmu (F := fun z => (h_M z w)) (e := (pw u 2 ((0 : Int32) + ((u 2) (15 : Int32).toNatClampNeg)).toNatClampNeg zy22)) (fun zu24 ze25 => ?_)
        have hd := dl_n hd zu24 ze25
        refine v_aload_n dX7_drift_100 rfl ?_
        obtain ⟨zr26, zh27, hd⟩ := g_bind hd
        refine v_cI (dy := 2) (st := []) (st2 := []) dX7_drift_101 mv_X7_161 (m_M_asks zu24 w zh27) rfl rfl rfl rfl rfl (by decide) (by decide) rfl rfl ?_
        refine v_loc [2, 3, 4, 1, 5] rfl ?_
        exact v_M_drift_104 w (d_M_drift_41 f) (ih) zr26 x2 x3 zy14 x5 hd
def d_M_drift (u : (Nat → Nat → Int32)) (a1 : Int32) (a2 : Int32) (a3 : Int32) : Option (Int32 × (Nat → Nat → Int32)) := (d_P_in a2.toInt64 (1 : Int64) (60 : Int64)).bind fun zr1 => if zr1 = 0 then (some ((-1 : Int32), u)) else ((d_P_isPart a3).bind fun zr4 => if zr4 = 0 then (some ((-1 : Int32), u)) else (if (u 0 3) = 0 then (some ((-2 : Int32), u)) else ((d_M_starts u).bind fun zr8 => d_M_drift_41 FU zr8 a2 a3 a1 (0 : Int32))))
set_option maxRecDepth 100000 in
set_option maxHeartbeats 4000000 in
theorem v_M_drift (u : (Nat → Nat → Int32)) (a1 : Int32) (a2 : Int32) (a3 : Int32) (w : Nat → Int64) {r : Int32 × (Nat → Nat → Int32)} (hd : d_M_drift u a1 a2 a3 = some r) : Vd RX7 "drift" cX7_drift 7 (some .int) (rm 3) (ab_eq (some (.int r.1)) (h_M r.2 w)) 0 0 0 0 0 [(0, .ref 0), (1, .int a1), (2, .int a2), (3, .int a3)] [] (h_M u w) := by
  unfold d_M_drift at hd
  refine v_iload_n dX7_drift_0 rfl ?_
  refine v_i2l dX7_drift_1 ?_
  refine v_lconst (v := 1) dX7_drift_2 rfl ?_
  refine v_ldc2 dX7_drift_3 kc_X7_260 ?_
  obtain ⟨zr1, zh2, hd⟩ := g_bind hd
  refine v_cS (dy := 0) (st := []) (st2 := [.int zr1]) (h2 := (h_M u w)) [] dX7_drift_6 mz_X7_72 (m_P_in a2.toInt64 (1 : Int64) (60 : Int64) zh2) rfl rfl rfl rfl rfl rfl (by decide) (by decide) rfl rfl rfl ?_
  refine v_if_eq (tgt := 19) dX7_drift_9 (by decide) (fun zc3 => ?_) (fun zc3 => ?_)
  · have hd := g_t hd zc3
    refine v_iconst dX7_drift_19 ic_m1 ?_
    obtain rfl := Option.some.inj hd
    exact v_iretE dX7_drift_20 rfl rfl rfl rfl
  · have hd := g_f hd zc3
    refine v_iload_n dX7_drift_12 rfl ?_
    obtain ⟨zr4, zh5, hd⟩ := g_bind hd
    refine v_cS (dy := 1) (st := []) (st2 := [.int zr4]) (h2 := (h_M u w)) [] dX7_drift_13 mz_X7_182 (m_P_isPart a3 zh5) rfl rfl rfl rfl rfl rfl (by decide) (by decide) rfl rfl rfl ?_
    refine v_if_ne (tgt := 21) dX7_drift_16 (by decide) (fun zc6 => ?_) (fun zc6 => ?_)
    · have hd := g_f hd zc6
      refine v_aload_n dX7_drift_21 rfl ?_
      refine v_get (v := .int (u 0 3)) dX7_drift_22 fl_X7_67 rfl rfl ?_
      refine v_if_ne (tgt := 31) dX7_drift_25 (by decide) (fun zc7 => ?_) (fun zc7 => ?_)
      · have hd := g_f hd zc7
        refine v_iload_n dX7_drift_31 rfl ?_
        refine v_istore (i := 4) (L2 := [(4, .int a1), (0, .ref 0), (1, .int a1), (2, .int a2), (3, .int a3)]) dX7_drift_32 (Nat.le_of_ble_eq_true rfl) rfl ?_
        refine v_aload_n dX7_drift_34 rfl ?_
        obtain ⟨zr8, zh9, hd⟩ := g_bind hd
        refine v_cI (dy := 0) (st := []) (st2 := []) dX7_drift_35 mv_X7_170 (m_M_starts u w zh9) rfl rfl rfl rfl rfl (by decide) (by decide) rfl rfl ?_
        refine v_iconst dX7_drift_38 ic_0 ?_
        refine v_istore (i := 5) (L2 := [(5, .int (0 : Int32)), (4, .int a1), (0, .ref 0), (1, .int a1), (2, .int a2), (3, .int a3)]) dX7_drift_39 (Nat.le_of_ble_eq_true rfl) rfl ?_
        refine v_loc [2, 4, 5, 1, 0] rfl ?_
        exact v_M_drift_41 w FU zr8 a2 a3 a1 (0 : Int32) hd
      · have hd := g_t hd zc7
        refine v_bipush dX7_drift_28 bp_m2 ?_
        obtain rfl := Option.some.inj hd
        exact v_iretE dX7_drift_30 rfl rfl rfl rfl
    · have hd := g_t hd zc6
      refine v_iconst dX7_drift_19 ic_m1 ?_
      obtain rfl := Option.some.inj hd
      exact v_iretE dX7_drift_20 rfl rfl rfl rfl
theorem m_M_drift (u : (Nat → Nat → Int32)) (a1 : Int32) (a2 : Int32) (a3 : Int32) (w : Nat → Int64) {r : Int32 × (Nat → Nat → Int32)} (hd : d_M_drift u a1 a2 a3 = some r) : Mt yX7_drift cX7_drift 7 (some .int) (rm 3) [.ref 0, .int a1, .int a2, .int a3] (h_M u w) (ab_eq (some (.int r.1)) (h_M r.2 w)) := Mt.of (by decide +kernel) (fun _ _ _ => trivial) (Nat.le_of_ble_eq_true rfl) (v_M_drift u a1 a2 a3 w hd)

def d_M_copies_2  : Nat → (Nat → Nat → Int32) → Int32 → Int32 → Int32 → Option ((Nat → Nat → Int32))
  | 0, _, _, _, _ => none
  | f + 1, u, x1, x2, x3 => if (41 : Int32) ≤ x3 then (some u) else (if gi (x2 + x3) 123 = true then if gi (x1 + x3) 123 = true then dl ((u 1) (x2 + x3).toNatClampNeg) fun zy4 => dl (pw u 1 (x1 + x3).toNatClampNeg zy4) fun zu6 => dl (x3 + (1 : Int32)) fun zy8 => d_M_copies_2 f zu6 x1 x2 zy8 else none else none)
set_option maxRecDepth 100000 in
set_option maxHeartbeats 4000000 in
theorem v_M_copies_2 (w : Nat → Int64) {r : (Nat → Nat → Int32)}  : ∀ (f : Nat) (u : (Nat → Nat → Int32)) (x1 : Int32) (x2 : Int32) (x3 : Int32), d_M_copies_2  f u x1 x2 x3 = some r → Vd RX7 "copies" cX7_copies 4 none (rm 0) (ab_eq none (h_M r w)) 0 0 0 0 2 [(0, .ref 0), (1, .int x1), (2, .int x2), (3, .int x3)] [] (h_M u w) := by
  intro f
  induction f with
  | zero =>
    intro u x1 x2 x3 hd
    rw [d_M_copies_2] at hd
    cases hd
  | succ f ih =>
    intro u x1 x2 x3 hd
    rw [d_M_copies_2] at hd
    refine v_iload_n dX7_copies_2 rfl ?_
    refine v_bipush dX7_copies_3 bp_41 ?_
    refine v_icmp_ge (tgt := 30) dX7_copies_5 (by decide) (fun zc1 => ?_) (fun zc1 => ?_)
    · have hd := g_t hd zc1
      obtain rfl := Option.some.inj hd
      exact v_vretE dX7_copies_30 rfl rfl rfl
    · have hd := g_f hd zc1
      refine v_aload_n dX7_copies_8 rfl ?_
      refine v_get (v := .ref 1) dX7_copies_9 fl_X7_7 rfl rfl ?_
      refine v_iload_n dX7_copies_12 rfl ?_
      refine v_iload_n dX7_copies_13 rfl ?_
      refine v_iadd dX7_copies_14 ?_
      refine v_aload_n dX7_copies_15 rfl ?_
      refine v_get (v := .ref 1) dX7_copies_16 fl_X7_7 rfl rfl ?_
      refine v_iload_n dX7_copies_19 rfl ?_
      refine v_iload_n dX7_copies_20 rfl ?_
      refine v_iadd dX7_copies_21 ?_
      obtain ⟨zg2, hd⟩ := g_b hd
      refine v_iald (f := (u 1)) dX7_copies_22 rfl (gi_in zg2) ?_
      obtain ⟨zg3, hd⟩ := g_b hd
      refine v_topi (fun zy4 ze5 => ?_)
      have hd := dl_n hd zy4 ze5
      refine v_ist (f := (u 1)) (h2 := (h_M (pw u 1 (x1 + x3).toNatClampNeg zy4) w)) dX7_copies_23 rfl (gi_in zg3) rfl ?_
      refine v_nmu (F := fun z => (h_M z w)) (e := (pw u 1 (x1 + x3).toNatClampNeg zy4)) (fun zu6 ze7 => ?_)
      have hd := dl_n hd zu6 ze7
      obtain ⟨zy8, ze9⟩ : ∃ z : Int32, z = (x3 + (1 : Int32)) := ⟨_, rfl⟩
      have hd := dl_n hd zy8 ze9
      refine v_iinc (v := zy8) (L2 := [(3, .int zy8), (0, .ref 0), (1, .int x1), (2, .int x2)]) dX7_copies_24 rfl (by rw [ic_1]; exact ze9.symm) (Nat.le_of_ble_eq_true rfl) rfl ?_
      refine v_goto (tgt := 2) dX7_copies_27 (by decide) ?_
      refine v_loc [1, 2, 3, 0] rfl ?_
      exact ih zu6 x1 x2 zy8 hd
def d_M_copies (u : (Nat → Nat → Int32)) (a1 : Int32) (a2 : Int32) : Option ((Nat → Nat → Int32)) := d_M_copies_2 FU u a1 a2 (0 : Int32)
set_option maxRecDepth 100000 in
set_option maxHeartbeats 4000000 in
theorem v_M_copies (u : (Nat → Nat → Int32)) (a1 : Int32) (a2 : Int32) (w : Nat → Int64) {r : (Nat → Nat → Int32)} (hd : d_M_copies u a1 a2 = some r) : Vd RX7 "copies" cX7_copies 4 none (rm 0) (ab_eq none (h_M r w)) 0 0 0 0 0 [(0, .ref 0), (1, .int a1), (2, .int a2)] [] (h_M u w) := by
  unfold d_M_copies at hd
  refine v_iconst dX7_copies_0 ic_0 ?_
  refine v_istore_n (i := 3) (L2 := [(3, .int (0 : Int32)), (0, .ref 0), (1, .int a1), (2, .int a2)]) dX7_copies_1 rfl (Nat.le_of_ble_eq_true rfl) rfl ?_
  refine v_loc [1, 2, 3, 0] rfl ?_
  exact v_M_copies_2 w FU u a1 a2 (0 : Int32) hd
theorem m_M_copies (u : (Nat → Nat → Int32)) (a1 : Int32) (a2 : Int32) (w : Nat → Int64) {r : (Nat → Nat → Int32)} (hd : d_M_copies u a1 a2 = some r) : Mt yX7_copies cX7_copies 4 none (rm 0) [.ref 0, .int a1, .int a2] (h_M u w) (ab_eq none (h_M r w)) := Mt.of (by decide +kernel) (fun _ _ _ => trivial) (Nat.le_of_ble_eq_true rfl) (v_M_copies u a1 a2 w hd)
def d_M_keep (u : (Nat → Nat → Int32)) (a1 : Int32) : Option (Int32 × (Nat → Nat → Int32)) := (d_P_in a1.toInt64 (0 : Int64) (1 : Int64)).bind fun zr1 => if zr1 = 0 then (some ((-1 : Int32), u)) else (if gi a1 2 = true then (d_P_flag ((u 3) a1.toNatClampNeg)).bind fun zr5 => if gi a1 2 = true then dl (pw u 3 a1.toNatClampNeg (vp_nar .boolean (1 : Int32))) fun zu8 => (d_M_copies zu8 ((41 : Int32) * (a1 + (1 : Int32))) (0 : Int32)).bind fun zr10 => some (zr5, zr10) else none else none)
set_option maxRecDepth 100000 in
set_option maxHeartbeats 4000000 in
theorem v_M_keep (u : (Nat → Nat → Int32)) (a1 : Int32) (w : Nat → Int64) {r : Int32 × (Nat → Nat → Int32)} (hd : d_M_keep u a1 = some r) : Vd RX7 "keep" cX7_keep 3 (some .int) (rm 1) (ab_eq (some (.int r.1)) (h_M r.2 w)) 0 0 0 0 0 [(0, .ref 0), (1, .int a1)] [] (h_M u w) := by
  unfold d_M_keep at hd
  refine v_iload_n dX7_keep_0 rfl ?_
  refine v_i2l dX7_keep_1 ?_
  refine v_lconst (v := 0) dX7_keep_2 rfl ?_
  refine v_lconst (v := 1) dX7_keep_3 rfl ?_
  obtain ⟨zr1, zh2, hd⟩ := g_bind hd
  refine v_cS (dy := 0) (st := []) (st2 := [.int zr1]) (h2 := (h_M u w)) [] dX7_keep_4 mz_X7_72 (m_P_in a1.toInt64 (0 : Int64) (1 : Int64) zh2) rfl rfl rfl rfl rfl rfl (by decide) (by decide) rfl rfl rfl ?_
  refine v_if_ne (tgt := 12) dX7_keep_7 (by decide) (fun zc3 => ?_) (fun zc3 => ?_)
  · have hd := g_f hd zc3
    refine v_aload_n dX7_keep_12 rfl ?_
    refine v_get (v := .ref 3) dX7_keep_13 fl_X7_16 rfl rfl ?_
    refine v_iload_n dX7_keep_16 rfl ?_
    obtain ⟨zg4, hd⟩ := g_b hd
    refine v_zald (f := (u 3)) dX7_keep_17 rfl (gi_in zg4) ?_
    obtain ⟨zr5, zh6, hd⟩ := g_bind hd
    refine v_cS (dy := 0) (st := []) (st2 := [.int zr5]) (h2 := (h_M u w)) [] dX7_keep_18 mz_X7_215 (m_P_flag ((u 3) a1.toNatClampNeg) zh6) rfl rfl rfl rfl rfl rfl (by decide) (by decide) rfl rfl rfl ?_
    refine v_istore_n (i := 2) (L2 := [(2, .int zr5), (0, .ref 0), (1, .int a1)]) dX7_keep_21 rfl (Nat.le_of_ble_eq_true rfl) rfl ?_
    refine v_aload_n dX7_keep_22 rfl ?_
    refine v_get (v := .ref 3) dX7_keep_23 fl_X7_16 rfl rfl ?_
    refine v_iload_n dX7_keep_26 rfl ?_
    refine v_iconst dX7_keep_27 ic_1 ?_
    obtain ⟨zg7, hd⟩ := g_b hd
    refine v_zst (f := (u 3)) (h2 := (h_M (pw u 3 a1.toNatClampNeg (vp_nar .boolean (1 : Int32))) w)) dX7_keep_28 rfl (gi_in zg7) rfl ?_
    refine v_nmu (F := fun z => (h_M z w)) (e := (pw u 3 a1.toNatClampNeg (vp_nar .boolean (1 : Int32)))) (fun zu8 ze9 => ?_)
    have hd := dl_n hd zu8 ze9
    refine v_aload_n dX7_keep_29 rfl ?_
    refine v_bipush dX7_keep_30 bp_41 ?_
    refine v_iload_n dX7_keep_32 rfl ?_
    refine v_iconst dX7_keep_33 ic_1 ?_
    refine v_iadd dX7_keep_34 ?_
    refine v_imul dX7_keep_35 ?_
    refine v_iconst dX7_keep_36 ic_0 ?_
    obtain ⟨zr10, zh11, hd⟩ := g_bind hd
    refine v_cI (dy := 0) (st := []) (st2 := []) dX7_keep_37 mv_X7_263 (m_M_copies zu8 ((41 : Int32) * (a1 + (1 : Int32))) (0 : Int32) w zh11) rfl rfl rfl rfl rfl (by decide) (by decide) rfl rfl ?_
    refine v_iload_n dX7_keep_40 rfl ?_
    obtain rfl := Option.some.inj hd
    exact v_iretE dX7_keep_41 rfl rfl rfl rfl
  · have hd := g_t hd zc3
    refine v_iconst dX7_keep_10 ic_m1 ?_
    obtain rfl := Option.some.inj hd
    exact v_iretE dX7_keep_11 rfl rfl rfl rfl
theorem m_M_keep (u : (Nat → Nat → Int32)) (a1 : Int32) (w : Nat → Int64) {r : Int32 × (Nat → Nat → Int32)} (hd : d_M_keep u a1 = some r) : Mt yX7_keep cX7_keep 3 (some .int) (rm 1) [.ref 0, .int a1] (h_M u w) (ab_eq (some (.int r.1)) (h_M r.2 w)) := Mt.of (by decide +kernel) (fun _ _ _ => trivial) (Nat.le_of_ble_eq_true rfl) (v_M_keep u a1 w hd)
def d_M_back (u : (Nat → Nat → Int32)) (a1 : Int32) : Option (Int32 × (Nat → Nat → Int32)) := (d_P_in a1.toInt64 (0 : Int64) (1 : Int64)).bind fun zr1 => if zr1 = 0 then (some ((-1 : Int32), u)) else (if gi a1 2 = true then if ((u 3) a1.toNatClampNeg) = 0 then (some ((-2 : Int32), u)) else ((d_M_copies u (0 : Int32) ((41 : Int32) * (a1 + (1 : Int32)))).bind fun zr6 => some (((zr6 1) (19 : Int32).toNatClampNeg), zr6)) else none)
set_option maxRecDepth 100000 in
set_option maxHeartbeats 4000000 in
theorem v_M_back (u : (Nat → Nat → Int32)) (a1 : Int32) (w : Nat → Int64) {r : Int32 × (Nat → Nat → Int32)} (hd : d_M_back u a1 = some r) : Vd RX7 "back" cX7_back 2 (some .int) (rm 1) (ab_eq (some (.int r.1)) (h_M r.2 w)) 0 0 0 0 0 [(0, .ref 0), (1, .int a1)] [] (h_M u w) := by
  unfold d_M_back at hd
  refine v_iload_n dX7_back_0 rfl ?_
  refine v_i2l dX7_back_1 ?_
  refine v_lconst (v := 0) dX7_back_2 rfl ?_
  refine v_lconst (v := 1) dX7_back_3 rfl ?_
  obtain ⟨zr1, zh2, hd⟩ := g_bind hd
  refine v_cS (dy := 0) (st := []) (st2 := [.int zr1]) (h2 := (h_M u w)) [] dX7_back_4 mz_X7_72 (m_P_in a1.toInt64 (0 : Int64) (1 : Int64) zh2) rfl rfl rfl rfl rfl rfl (by decide) (by decide) rfl rfl rfl ?_
  refine v_if_ne (tgt := 12) dX7_back_7 (by decide) (fun zc3 => ?_) (fun zc3 => ?_)
  · have hd := g_f hd zc3
    refine v_aload_n dX7_back_12 rfl ?_
    refine v_get (v := .ref 3) dX7_back_13 fl_X7_16 rfl rfl ?_
    refine v_iload_n dX7_back_16 rfl ?_
    obtain ⟨zg4, hd⟩ := g_b hd
    refine v_zald (f := (u 3)) dX7_back_17 rfl (gi_in zg4) ?_
    refine v_if_ne (tgt := 24) dX7_back_18 (by decide) (fun zc5 => ?_) (fun zc5 => ?_)
    · have hd := g_f hd zc5
      refine v_aload_n dX7_back_24 rfl ?_
      refine v_iconst dX7_back_25 ic_0 ?_
      refine v_bipush dX7_back_26 bp_41 ?_
      refine v_iload_n dX7_back_28 rfl ?_
      refine v_iconst dX7_back_29 ic_1 ?_
      refine v_iadd dX7_back_30 ?_
      refine v_imul dX7_back_31 ?_
      obtain ⟨zr6, zh7, hd⟩ := g_bind hd
      refine v_cI (dy := 0) (st := []) (st2 := []) dX7_back_32 mv_X7_263 (m_M_copies u (0 : Int32) ((41 : Int32) * (a1 + (1 : Int32))) w zh7) rfl rfl rfl rfl rfl (by decide) (by decide) rfl rfl ?_
      refine v_aload_n dX7_back_35 rfl ?_
      refine v_get (v := .ref 1) dX7_back_36 fl_X7_7 rfl rfl ?_
      refine v_bipush dX7_back_39 bp_19 ?_
      refine v_iald (f := (zr6 1)) dX7_back_41 rfl gl_19_123 ?_
      obtain rfl := Option.some.inj hd
      exact v_iretE dX7_back_42 rfl rfl rfl rfl
    · have hd := g_t hd zc5
      refine v_bipush dX7_back_21 bp_m2 ?_
      obtain rfl := Option.some.inj hd
      exact v_iretE dX7_back_23 rfl rfl rfl rfl
  · have hd := g_t hd zc3
    refine v_iconst dX7_back_10 ic_m1 ?_
    obtain rfl := Option.some.inj hd
    exact v_iretE dX7_back_11 rfl rfl rfl rfl
theorem m_M_back (u : (Nat → Nat → Int32)) (a1 : Int32) (w : Nat → Int64) {r : Int32 × (Nat → Nat → Int32)} (hd : d_M_back u a1 = some r) : Mt yX7_back cX7_back 2 (some .int) (rm 1) [.ref 0, .int a1] (h_M u w) (ab_eq (some (.int r.1)) (h_M r.2 w)) := Mt.of (by decide +kernel) (fun _ _ _ => trivial) (Nat.le_of_ble_eq_true rfl) (v_M_back u a1 w hd)

def d_M_sheet_40  : Nat → (Nat → Nat → Int32) → Int32 → Int32 → Option (Int32 × (Nat → Nat → Int32))
  | 0, _, _, _ => none
  | f + 1, u, x1, x4 => if (40 : Int32) ≤ x4 then (some ((1 : Int32), u)) else (if gi (((40 : Int32) * x1) + x4) 160 = true then dl (pw u 11 (((40 : Int32) * x1) + x4).toNatClampNeg (0 : Int32)) fun zu14 => dl (x4 + (1 : Int32)) fun zy16 => d_M_sheet_40 f zu14 x1 zy16 else none)
set_option maxRecDepth 100000 in
set_option maxHeartbeats 4000000 in
theorem v_M_sheet_40 (w : Nat → Int64) {r : Int32 × (Nat → Nat → Int32)}  : ∀ (f : Nat) (u : (Nat → Nat → Int32)) (x1 : Int32) (x4 : Int32), d_M_sheet_40  f u x1 x4 = some r → Vd RX7 "sheet" cX7_sheet 5 (some .int) (rm 2) (ab_eq (some (.int r.1)) (h_M r.2 w)) 0 0 0 0 40 [(0, .ref 0), (1, .int x1), (4, .int x4)] [] (h_M u w) := by
  intro f
  induction f with
  | zero =>
    intro u x1 x4 hd
    rw [d_M_sheet_40] at hd
    cases hd
  | succ f ih =>
    intro u x1 x4 hd
    rw [d_M_sheet_40] at hd
    refine v_iload dX7_sheet_40 rfl ?_
    refine v_bipush dX7_sheet_42 bp_40 ?_
    refine v_icmp_ge (tgt := 66) dX7_sheet_44 (by decide) (fun zc12 => ?_) (fun zc12 => ?_)
    · have hd := g_t hd zc12
      refine v_iconst dX7_sheet_66 ic_1 ?_
      obtain rfl := Option.some.inj hd
      exact v_iretE dX7_sheet_67 rfl rfl rfl rfl
    · have hd := g_f hd zc12
      refine v_aload_n dX7_sheet_47 rfl ?_
      refine v_get (v := .ref 11) dX7_sheet_48 fl_X7_41 rfl rfl ?_
      refine v_bipush dX7_sheet_51 bp_40 ?_
      refine v_iload_n dX7_sheet_53 rfl ?_
      refine v_imul dX7_sheet_54 ?_
      refine v_iload dX7_sheet_55 rfl ?_
      refine v_iadd dX7_sheet_57 ?_
      refine v_iconst dX7_sheet_58 ic_0 ?_
      obtain ⟨zg13, hd⟩ := g_b hd
      refine v_ist (f := (u 11)) (h2 := (h_M (pw u 11 (((40 : Int32) * x1) + x4).toNatClampNeg (0 : Int32)) w)) dX7_sheet_59 rfl (gi_in zg13) rfl ?_
      refine v_nmu (F := fun z => (h_M z w)) (e := (pw u 11 (((40 : Int32) * x1) + x4).toNatClampNeg (0 : Int32))) (fun zu14 ze15 => ?_)
      have hd := dl_n hd zu14 ze15
      obtain ⟨zy16, ze17⟩ : ∃ z : Int32, z = (x4 + (1 : Int32)) := ⟨_, rfl⟩
      have hd := dl_n hd zy16 ze17
      refine v_iinc (v := zy16) (L2 := [(4, .int zy16), (0, .ref 0), (1, .int x1)]) dX7_sheet_60 rfl (by rw [ic_1]; exact ze17.symm) (Nat.le_of_ble_eq_true rfl) rfl ?_
      refine v_goto (tgt := 40) dX7_sheet_63 (by decide) ?_
      refine v_loc [1, 2, 0] rfl ?_
      exact ih zu14 x1 zy16 hd
def d_M_sheet (u : (Nat → Nat → Int32)) (a1 : Int32) (a2 : Int32) (a3 : Int32) : Option (Int32 × (Nat → Nat → Int32)) := (d_P_isSheet a1 a2).bind fun zr1 => if zr1 = 0 then (some ((-1 : Int32), u)) else (if a3 ≤ (40 : Int32) then (if 0 ≤ a3 then (if gi a1 4 = true then dl (pw u 9 a1.toNatClampNeg a2) fun zu7 => if gi a1 4 = true then dl (pw zu7 10 a1.toNatClampNeg a3) fun zu10 => d_M_sheet_40 FU zu10 a1 (0 : Int32) else none else none) else (some ((-14 : Int32), u))) else (some ((-1 : Int32), u)))
set_option maxRecDepth 100000 in
set_option maxHeartbeats 4000000 in
theorem v_M_sheet (u : (Nat → Nat → Int32)) (a1 : Int32) (a2 : Int32) (a3 : Int32) (w : Nat → Int64) {r : Int32 × (Nat → Nat → Int32)} (hd : d_M_sheet u a1 a2 a3 = some r) : Vd RX7 "sheet" cX7_sheet 5 (some .int) (rm 2) (ab_eq (some (.int r.1)) (h_M r.2 w)) 0 0 0 0 0 [(0, .ref 0), (1, .int a1), (2, .int a2), (3, .int a3)] [] (h_M u w) := by
  unfold d_M_sheet at hd
  refine v_iload_n dX7_sheet_0 rfl ?_
  refine v_iload_n dX7_sheet_1 rfl ?_
  obtain ⟨zr1, zh2, hd⟩ := g_bind hd
  refine v_cS (dy := 1) (st := []) (st2 := [.int zr1]) (h2 := (h_M u w)) [] dX7_sheet_2 mz_X7_266 (m_P_isSheet a1 a2 zh2) rfl rfl rfl rfl rfl rfl (by decide) (by decide) rfl rfl rfl ?_
  refine v_if_eq (tgt := 14) dX7_sheet_5 (by decide) (fun zc3 => ?_) (fun zc3 => ?_)
  · have hd := g_t hd zc3
    refine v_iconst dX7_sheet_14 ic_m1 ?_
    obtain rfl := Option.some.inj hd
    exact v_iretE dX7_sheet_15 rfl rfl rfl rfl
  · have hd := g_f hd zc3
    refine v_iload_n dX7_sheet_8 rfl ?_
    refine v_bipush dX7_sheet_9 bp_40 ?_
    refine v_icmp_le (tgt := 16) dX7_sheet_11 (by decide) (fun zc4 => ?_) (fun zc4 => ?_)
    · have hd := g_t hd zc4
      refine v_iload_n dX7_sheet_16 rfl ?_
      refine v_if_ge (tgt := 23) dX7_sheet_17 (by decide) (fun zc5 => ?_) (fun zc5 => ?_)
      · have hd := g_t hd zc5
        refine v_aload_n dX7_sheet_23 rfl ?_
        refine v_get (v := .ref 9) dX7_sheet_24 fl_X7_35 rfl rfl ?_
        refine v_iload_n dX7_sheet_27 rfl ?_
        refine v_iload_n dX7_sheet_28 rfl ?_
        obtain ⟨zg6, hd⟩ := g_b hd
        refine v_ist (f := (u 9)) (h2 := (h_M (pw u 9 a1.toNatClampNeg a2) w)) dX7_sheet_29 rfl (gi_in zg6) rfl ?_
        refine v_nmu (F := fun z => (h_M z w)) (e := (pw u 9 a1.toNatClampNeg a2)) (fun zu7 ze8 => ?_)
        have hd := dl_n hd zu7 ze8
        refine v_aload_n dX7_sheet_30 rfl ?_
        refine v_get (v := .ref 10) dX7_sheet_31 fl_X7_38 rfl rfl ?_
        refine v_iload_n dX7_sheet_34 rfl ?_
        refine v_iload_n dX7_sheet_35 rfl ?_
        obtain ⟨zg9, hd⟩ := g_b hd
        refine v_ist (f := (zu7 10)) (h2 := (h_M (pw zu7 10 a1.toNatClampNeg a3) w)) dX7_sheet_36 rfl (gi_in zg9) rfl ?_
        refine v_nmu (F := fun z => (h_M z w)) (e := (pw zu7 10 a1.toNatClampNeg a3)) (fun zu10 ze11 => ?_)
        have hd := dl_n hd zu10 ze11
        refine v_iconst dX7_sheet_37 ic_0 ?_
        refine v_istore (i := 4) (L2 := [(4, .int (0 : Int32)), (0, .ref 0), (1, .int a1), (2, .int a2), (3, .int a3)]) dX7_sheet_38 (Nat.le_of_ble_eq_true rfl) rfl ?_
        refine v_loc [1, 2, 0] rfl ?_
        exact v_M_sheet_40 w FU zu10 a1 (0 : Int32) hd
      · have hd := g_f hd zc5
        refine v_bipush dX7_sheet_20 bp_m14 ?_
        obtain rfl := Option.some.inj hd
        exact v_iretE dX7_sheet_22 rfl rfl rfl rfl
    · have hd := g_f hd zc4
      refine v_iconst dX7_sheet_14 ic_m1 ?_
      obtain rfl := Option.some.inj hd
      exact v_iretE dX7_sheet_15 rfl rfl rfl rfl
theorem m_M_sheet (u : (Nat → Nat → Int32)) (a1 : Int32) (a2 : Int32) (a3 : Int32) (w : Nat → Int64) {r : Int32 × (Nat → Nat → Int32)} (hd : d_M_sheet u a1 a2 a3 = some r) : Mt yX7_sheet cX7_sheet 5 (some .int) (rm 2) [.ref 0, .int a1, .int a2, .int a3] (h_M u w) (ab_eq (some (.int r.1)) (h_M r.2 w)) := Mt.of (by decide +kernel) (fun _ _ _ => trivial) (Nat.le_of_ble_eq_true rfl) (v_M_sheet u a1 a2 a3 w hd)
def d_M_lay (u : (Nat → Nat → Int32)) (a1 : Int32) (a2 : Int32) (a3 : Int32) : Option (Int32 × (Nat → Nat → Int32)) := (d_P_isSheet a1 (0 : Int32)).bind fun zr1 => if zr1 = 0 then (some ((-1 : Int32), u)) else (if gi a1 4 = true then if ((u 9) a1.toNatClampNeg) = (-4 : Int32) then (some ((-11 : Int32), u)) else (if gi a1 4 = true then (d_P_in a2.toInt64 (0 : Int64) ((((u 10) a1.toNatClampNeg) - (1 : Int32)).toInt64)).bind fun zr7 => if zr7 = 0 then (some ((-12 : Int32), u)) else (if gi a1 4 = true then if ((u 9) a1.toNatClampNeg) = 0 then (if gi (((40 : Int32) * a1) + a2) 160 = true then dl (pw u 11 (((40 : Int32) * a1) + a2).toNatClampNeg a3.toInt8.toInt32) fun zu21 => some ((1 : Int32), zu21) else none) else (if gi a1 4 = true then if ((u 9) a1.toNatClampNeg) = (1 : Int32) then (if gi (((40 : Int32) * a1) + a2) 160 = true then dl (pw u 11 (((40 : Int32) * a1) + a2).toNatClampNeg a3.toInt16.toInt32) fun zu18 => some ((1 : Int32), zu18) else none) else (if gi (((40 : Int32) * a1) + a2) 160 = true then dl (pw u 11 (((40 : Int32) * a1) + a2).toNatClampNeg a3) fun zu15 => some ((1 : Int32), zu15) else none) else none) else none) else none) else none)
set_option maxRecDepth 100000 in
set_option maxHeartbeats 4000000 in
theorem v_M_lay (u : (Nat → Nat → Int32)) (a1 : Int32) (a2 : Int32) (a3 : Int32) (w : Nat → Int64) {r : Int32 × (Nat → Nat → Int32)} (hd : d_M_lay u a1 a2 a3 = some r) : Vd RX7 "lay" cX7_lay 4 (some .int) (rm 2) (ab_eq (some (.int r.1)) (h_M r.2 w)) 0 0 0 0 0 [(0, .ref 0), (1, .int a1), (2, .int a2), (3, .int a3)] [] (h_M u w) := by
  unfold d_M_lay at hd
  refine v_iload_n dX7_lay_0 rfl ?_
  refine v_iconst dX7_lay_1 ic_0 ?_
  obtain ⟨zr1, zh2, hd⟩ := g_bind hd
  refine v_cS (dy := 1) (st := []) (st2 := [.int zr1]) (h2 := (h_M u w)) [] dX7_lay_2 mz_X7_266 (m_P_isSheet a1 (0 : Int32) zh2) rfl rfl rfl rfl rfl rfl (by decide) (by decide) rfl rfl rfl ?_
  refine v_if_ne (tgt := 10) dX7_lay_5 (by decide) (fun zc3 => ?_) (fun zc3 => ?_)
  · have hd := g_f hd zc3
    refine v_aload_n dX7_lay_10 rfl ?_
    refine v_get (v := .ref 9) dX7_lay_11 fl_X7_35 rfl rfl ?_
    refine v_iload_n dX7_lay_14 rfl ?_
    obtain ⟨zg4, hd⟩ := g_b hd
    refine v_iald (f := (u 9)) dX7_lay_15 rfl (gi_in zg4) ?_
    refine v_bipush dX7_lay_16 bp_m4 ?_
    refine v_icmp_ne (tgt := 24) dX7_lay_18 (by decide) (fun zc5 => ?_) (fun zc5 => ?_)
    · have hd := g_f hd zc5
      refine v_iload_n dX7_lay_24 rfl ?_
      refine v_i2l dX7_lay_25 ?_
      refine v_lconst (v := 0) dX7_lay_26 rfl ?_
      refine v_aload_n dX7_lay_27 rfl ?_
      refine v_get (v := .ref 10) dX7_lay_28 fl_X7_38 rfl rfl ?_
      refine v_iload_n dX7_lay_31 rfl ?_
      obtain ⟨zg6, hd⟩ := g_b hd
      refine v_iald (f := (u 10)) dX7_lay_32 rfl (gi_in zg6) ?_
      refine v_iconst dX7_lay_33 ic_1 ?_
      refine v_isub dX7_lay_34 ?_
      refine v_i2l dX7_lay_35 ?_
      obtain ⟨zr7, zh8, hd⟩ := g_bind hd
      refine v_cS (dy := 0) (st := []) (st2 := [.int zr7]) (h2 := (h_M u w)) [] dX7_lay_36 mz_X7_72 (m_P_in a2.toInt64 (0 : Int64) ((((u 10) a1.toNatClampNeg) - (1 : Int32)).toInt64) zh8) rfl rfl rfl rfl rfl rfl (by decide) (by decide) rfl rfl rfl ?_
      refine v_if_ne (tgt := 45) dX7_lay_39 (by decide) (fun zc9 => ?_) (fun zc9 => ?_)
      · have hd := g_f hd zc9
        refine v_aload_n dX7_lay_45 rfl ?_
        refine v_get (v := .ref 11) dX7_lay_46 fl_X7_41 rfl rfl ?_
        refine v_bipush dX7_lay_49 bp_40 ?_
        refine v_iload_n dX7_lay_51 rfl ?_
        refine v_imul dX7_lay_52 ?_
        refine v_iload_n dX7_lay_53 rfl ?_
        refine v_iadd dX7_lay_54 ?_
        refine v_aload_n dX7_lay_55 rfl ?_
        refine v_get (v := .ref 9) dX7_lay_56 fl_X7_35 rfl rfl ?_
        refine v_iload_n dX7_lay_59 rfl ?_
        obtain ⟨zg10, hd⟩ := g_b hd
        refine v_iald (f := (u 9)) dX7_lay_60 rfl (gi_in zg10) ?_
        refine v_if_ne (tgt := 69) dX7_lay_61 (by decide) (fun zc11 => ?_) (fun zc11 => ?_)
        · have hd := g_f hd zc11
          refine v_aload_n dX7_lay_69 rfl ?_
          refine v_get (v := .ref 9) dX7_lay_70 fl_X7_35 rfl rfl ?_
          refine v_iload_n dX7_lay_73 rfl ?_
          obtain ⟨zg12, hd⟩ := g_b hd
          refine v_iald (f := (u 9)) dX7_lay_74 rfl (gi_in zg12) ?_
          refine v_iconst dX7_lay_75 ic_1 ?_
          refine v_icmp_ne (tgt := 84) dX7_lay_76 (by decide) (fun zc13 => ?_) (fun zc13 => ?_)
          · have hd := g_f hd zc13
            refine v_iload_n dX7_lay_84 rfl ?_
            obtain ⟨zg14, hd⟩ := g_b hd
            refine v_ist (f := (u 11)) (h2 := (h_M (pw u 11 (((40 : Int32) * a1) + a2).toNatClampNeg a3) w)) dX7_lay_85 rfl (gi_in zg14) rfl ?_
            refine v_nmu (F := fun z => (h_M z w)) (e := (pw u 11 (((40 : Int32) * a1) + a2).toNatClampNeg a3)) (fun zu15 ze16 => ?_)
            have hd := dl_n hd zu15 ze16
            refine v_iconst dX7_lay_86 ic_1 ?_
            obtain rfl := Option.some.inj hd
            exact v_iretE dX7_lay_87 rfl rfl rfl rfl
          · have hd := g_t hd zc13
            refine v_iload_n dX7_lay_79 rfl ?_
            refine v_i2s dX7_lay_80 ?_
            refine v_goto (tgt := 85) dX7_lay_81 (by decide) ?_
            obtain ⟨zg17, hd⟩ := g_b hd
            refine v_ist (f := (u 11)) (h2 := (h_M (pw u 11 (((40 : Int32) * a1) + a2).toNatClampNeg a3.toInt16.toInt32) w)) dX7_lay_85 rfl (gi_in zg17) rfl ?_
            refine v_nmu (F := fun z => (h_M z w)) (e := (pw u 11 (((40 : Int32) * a1) + a2).toNatClampNeg a3.toInt16.toInt32)) (fun zu18 ze19 => ?_)
            have hd := dl_n hd zu18 ze19
            refine v_iconst dX7_lay_86 ic_1 ?_
            obtain rfl := Option.some.inj hd
            exact v_iretE dX7_lay_87 rfl rfl rfl rfl
        · have hd := g_t hd zc11
          refine v_iload_n dX7_lay_64 rfl ?_
          refine v_i2b dX7_lay_65 ?_
          refine v_goto (tgt := 85) dX7_lay_66 (by decide) ?_
          obtain ⟨zg20, hd⟩ := g_b hd
          refine v_ist (f := (u 11)) (h2 := (h_M (pw u 11 (((40 : Int32) * a1) + a2).toNatClampNeg a3.toInt8.toInt32) w)) dX7_lay_85 rfl (gi_in zg20) rfl ?_
          refine v_nmu (F := fun z => (h_M z w)) (e := (pw u 11 (((40 : Int32) * a1) + a2).toNatClampNeg a3.toInt8.toInt32)) (fun zu21 ze22 => ?_)
          have hd := dl_n hd zu21 ze22
          refine v_iconst dX7_lay_86 ic_1 ?_
          obtain rfl := Option.some.inj hd
          exact v_iretE dX7_lay_87 rfl rfl rfl rfl
      · have hd := g_t hd zc9
        refine v_bipush dX7_lay_42 bp_m12 ?_
        obtain rfl := Option.some.inj hd
        exact v_iretE dX7_lay_44 rfl rfl rfl rfl
    · have hd := g_t hd zc5
      refine v_bipush dX7_lay_21 bp_m11 ?_
      obtain rfl := Option.some.inj hd
      exact v_iretE dX7_lay_23 rfl rfl rfl rfl
  · have hd := g_t hd zc3
    refine v_iconst dX7_lay_8 ic_m1 ?_
    obtain rfl := Option.some.inj hd
    exact v_iretE dX7_lay_9 rfl rfl rfl rfl
theorem m_M_lay (u : (Nat → Nat → Int32)) (a1 : Int32) (a2 : Int32) (a3 : Int32) (w : Nat → Int64) {r : Int32 × (Nat → Nat → Int32)} (hd : d_M_lay u a1 a2 a3 = some r) : Mt yX7_lay cX7_lay 4 (some .int) (rm 2) [.ref 0, .int a1, .int a2, .int a3] (h_M u w) (ab_eq (some (.int r.1)) (h_M r.2 w)) := Mt.of (by decide +kernel) (fun _ _ _ => trivial) (Nat.le_of_ble_eq_true rfl) (v_M_lay u a1 a2 a3 w hd)

def d_M_read_250  (u : (Nat → Nat → Int32)) (x5 : Int32) (x6 : Int32) : Option (Int32 × (Nat → Nat → Int32)) := some (x6, (pw u 0 26 x5))
set_option maxRecDepth 100000 in
set_option maxHeartbeats 4000000 in
theorem v_M_read_250 (w : Nat → Int64) {r : Int32 × (Nat → Nat → Int32)}  (u : (Nat → Nat → Int32)) (x5 : Int32) (x6 : Int32) (hd : d_M_read_250  u x5 x6 = some r) : Vd RX7 "read" cX7_read 11 (some .int) (rm 3) (ab_eq (some (.int r.1)) (h_M r.2 w)) 0 0 0 0 250 [(0, .ref 0), (5, .int x5), (6, .int x6)] [] (h_M u w) := by
  unfold d_M_read_250 at hd
  refine v_aload_n dX7_read_250 rfl ?_
  refine v_iload dX7_read_251 rfl ?_
  refine v_pti (h2 := (h_M (pw u 0 26 x5) w)) dX7_read_253 fl_X7_273 rfl (Nat.le_of_ble_eq_true rfl) rfl ?_
  refine v_iload dX7_read_256 rfl ?_
  obtain rfl := Option.some.inj hd
  exact v_iretE dX7_read_258 rfl rfl rfl rfl

def d_M_read_244 (k62 : (Nat → Nat → Int32) → Int32 → Int32 → Int32 → Int32 → Int32 → Int32 → Int32 → Option (Int32 × (Nat → Nat → Int32))) (u : (Nat → Nat → Int32)) (x1 : Int32) (x2 : Int32) (x3 : Int32) (x4 : Int32) (x5 : Int32) (x6 : Int32) (x7 : Int32) : Option (Int32 × (Nat → Nat → Int32)) := dl (x7 + (1 : Int32)) fun zy12 => k62 u x1 x2 x3 x4 x5 x6 zy12
set_option maxRecDepth 100000 in
set_option maxHeartbeats 4000000 in
theorem v_M_read_244 (w : Nat → Int64) {r : Int32 × (Nat → Nat → Int32)} (k62 : (Nat → Nat → Int32) → Int32 → Int32 → Int32 → Int32 → Int32 → Int32 → Int32 → Option (Int32 × (Nat → Nat → Int32))) (hk62 : ∀ (u : (Nat → Nat → Int32)) (x1 : Int32) (x2 : Int32) (x3 : Int32) (x4 : Int32) (x5 : Int32) (x6 : Int32) (x7 : Int32), k62 u x1 x2 x3 x4 x5 x6 x7 = some r → Vd RX7 "read" cX7_read 11 (some .int) (rm 3) (ab_eq (some (.int r.1)) (h_M r.2 w)) 0 0 0 0 62 [(0, .ref 0), (1, .int x1), (2, .int x2), (3, .int x3), (4, .int x4), (5, .int x5), (6, .int x6), (7, .int x7)] [] (h_M u w)) (u : (Nat → Nat → Int32)) (x1 : Int32) (x2 : Int32) (x3 : Int32) (x4 : Int32) (x5 : Int32) (x6 : Int32) (x7 : Int32) (hd : d_M_read_244 k62 u x1 x2 x3 x4 x5 x6 x7 = some r) : Vd RX7 "read" cX7_read 11 (some .int) (rm 3) (ab_eq (some (.int r.1)) (h_M r.2 w)) 0 0 0 0 244 [(0, .ref 0), (1, .int x1), (2, .int x2), (3, .int x3), (4, .int x4), (5, .int x5), (6, .int x6), (7, .int x7)] [] (h_M u w) := by
  unfold d_M_read_244 at hd
  obtain ⟨zy12, ze13⟩ : ∃ z : Int32, z = (x7 + (1 : Int32)) := ⟨_, rfl⟩
  have hd := dl_n hd zy12 ze13
  refine v_iinc (v := zy12) (L2 := [(7, .int zy12), (0, .ref 0), (1, .int x1), (2, .int x2), (3, .int x3), (4, .int x4), (5, .int x5), (6, .int x6)]) dX7_read_244 rfl (by rw [ic_1]; exact ze13.symm) (Nat.le_of_ble_eq_true rfl) rfl ?_
  refine v_goto (tgt := 62) dX7_read_247 (by decide) ?_
  refine v_loc [1, 2, 3, 4, 5, 6, 7, 0] rfl ?_
  exact hk62 u x1 x2 x3 x4 x5 x6 zy12 hd

def d_M_read_208  : Nat → (Nat → Nat → Int32) → Int32 → Int32 → Option (Int32 × (Nat → Nat → Int32))
  | 0, _, _, _ => none
  | f + 1, u, x7, x9 => if (41 : Int32) ≤ x9 then (some (((-20 : Int32) - x7), u)) else (if gi x9 41 = true then if gi x9 123 = true then dl ((u 12) x9.toNatClampNeg) fun zy26 => dl (pw u 1 x9.toNatClampNeg zy26) fun zu28 => dl (x9 + (1 : Int32)) fun zy30 => d_M_read_208 f zu28 x7 zy30 else none else none)
set_option maxRecDepth 100000 in
set_option maxHeartbeats 4000000 in
theorem v_M_read_208 (w : Nat → Int64) {r : Int32 × (Nat → Nat → Int32)}  : ∀ (f : Nat) (u : (Nat → Nat → Int32)) (x7 : Int32) (x9 : Int32), d_M_read_208  f u x7 x9 = some r → Vd RX7 "read" cX7_read 11 (some .int) (rm 3) (ab_eq (some (.int r.1)) (h_M r.2 w)) 0 0 0 0 208 [(0, .ref 0), (7, .int x7), (9, .int x9)] [] (h_M u w) := by
  intro f
  induction f with
  | zero =>
    intro u x7 x9 hd
    rw [d_M_read_208] at hd
    cases hd
  | succ f ih =>
    intro u x7 x9 hd
    rw [d_M_read_208] at hd
    refine v_iload dX7_read_208 rfl ?_
    refine v_bipush dX7_read_210 bp_41 ?_
    refine v_icmp_ge (tgt := 235) dX7_read_212 (by decide) (fun zc23 => ?_) (fun zc23 => ?_)
    · have hd := g_t hd zc23
      refine v_bipush dX7_read_235 bp_m20 ?_
      refine v_iload dX7_read_237 rfl ?_
      refine v_isub dX7_read_239 ?_
      obtain rfl := Option.some.inj hd
      exact v_iretE dX7_read_240 rfl rfl rfl rfl
    · have hd := g_f hd zc23
      refine v_aload_n dX7_read_215 rfl ?_
      refine v_get (v := .ref 1) dX7_read_216 fl_X7_7 rfl rfl ?_
      refine v_iload dX7_read_219 rfl ?_
      refine v_aload_n dX7_read_221 rfl ?_
      refine v_get (v := .ref 12) dX7_read_222 fl_X7_44 rfl rfl ?_
      refine v_iload dX7_read_225 rfl ?_
      obtain ⟨zg24, hd⟩ := g_b hd
      refine v_iald (f := (u 12)) dX7_read_227 rfl (gi_in zg24) ?_
      obtain ⟨zg25, hd⟩ := g_b hd
      refine v_topi (fun zy26 ze27 => ?_)
      have hd := dl_n hd zy26 ze27
      refine v_ist (f := (u 1)) (h2 := (h_M (pw u 1 x9.toNatClampNeg zy26) w)) dX7_read_228 rfl (gi_in zg25) rfl ?_
      refine v_nmu (F := fun z => (h_M z w)) (e := (pw u 1 x9.toNatClampNeg zy26)) (fun zu28 ze29 => ?_)
      have hd := dl_n hd zu28 ze29
      obtain ⟨zy30, ze31⟩ : ∃ z : Int32, z = (x9 + (1 : Int32)) := ⟨_, rfl⟩
      have hd := dl_n hd zy30 ze31
      refine v_iinc (v := zy30) (L2 := [(9, .int zy30), (0, .ref 0), (7, .int x7)]) dX7_read_229 rfl (by rw [ic_1]; exact ze31.symm) (Nat.le_of_ble_eq_true rfl) rfl ?_
      refine v_goto (tgt := 208) dX7_read_232 (by decide) ?_
      refine v_loc [1, 2, 0] rfl ?_
      exact ih zu28 x7 zy30 hd

def d_M_read_164 (k62 : (Nat → Nat → Int32) → Int32 → Int32 → Int32 → Int32 → Int32 → Int32 → Int32 → Option (Int32 × (Nat → Nat → Int32))) (u : (Nat → Nat → Int32)) (x1 : Int32) (x2 : Int32) (x3 : Int32) (x4 : Int32) (x5 : Int32) (x6 : Int32) (x7 : Int32) : Option (Int32 × (Nat → Nat → Int32)) := if x5 = 0 then (dl ((((40 : Int32) * x1) + x3) + ((2 : Int32) * x7)) fun zy14 => if gi zy14 160 = true then if gi (zy14 + (1 : Int32)) 160 = true then (d_M_offer u ((u 11) zy14.toNatClampNeg) ((u 11) (zy14 + (1 : Int32)).toNatClampNeg)).bind fun zr18 => if 0 ≤ zr18.1 then (dl (x6 + (1 : Int32)) fun zy21 => d_M_read_244 k62 zr18.2 x1 x2 x3 x4 x5 zy21 x7) else (d_M_read_208 FU zr18.2 x7 (0 : Int32)) else none else none) else (d_M_read_244 k62 u x1 x2 x3 x4 x5 x6 x7)
set_option maxRecDepth 100000 in
set_option maxHeartbeats 4000000 in
theorem v_M_read_164 (w : Nat → Int64) {r : Int32 × (Nat → Nat → Int32)} (k62 : (Nat → Nat → Int32) → Int32 → Int32 → Int32 → Int32 → Int32 → Int32 → Int32 → Option (Int32 × (Nat → Nat → Int32))) (hk62 : ∀ (u : (Nat → Nat → Int32)) (x1 : Int32) (x2 : Int32) (x3 : Int32) (x4 : Int32) (x5 : Int32) (x6 : Int32) (x7 : Int32), k62 u x1 x2 x3 x4 x5 x6 x7 = some r → Vd RX7 "read" cX7_read 11 (some .int) (rm 3) (ab_eq (some (.int r.1)) (h_M r.2 w)) 0 0 0 0 62 [(0, .ref 0), (1, .int x1), (2, .int x2), (3, .int x3), (4, .int x4), (5, .int x5), (6, .int x6), (7, .int x7)] [] (h_M u w)) (u : (Nat → Nat → Int32)) (x1 : Int32) (x2 : Int32) (x3 : Int32) (x4 : Int32) (x5 : Int32) (x6 : Int32) (x7 : Int32) (hd : d_M_read_164 k62 u x1 x2 x3 x4 x5 x6 x7 = some r) : Vd RX7 "read" cX7_read 11 (some .int) (rm 3) (ab_eq (some (.int r.1)) (h_M r.2 w)) 0 0 0 0 164 [(0, .ref 0), (1, .int x1), (2, .int x2), (3, .int x3), (4, .int x4), (5, .int x5), (6, .int x6), (7, .int x7)] [] (h_M u w) := by
  unfold d_M_read_164 at hd
  refine v_iload dX7_read_164 rfl ?_
  refine v_if_ne (tgt := 244) dX7_read_166 (by decide) (fun zc11 => ?_) (fun zc11 => ?_)
  · have hd := g_f hd zc11
    exact v_M_read_244 w k62 (hk62) u x1 x2 x3 x4 x5 x6 x7 hd
  · have hd := g_t hd zc11
    refine v_bipush dX7_read_169 bp_40 ?_
    refine v_iload_n dX7_read_171 rfl ?_
    refine v_imul dX7_read_172 ?_
    refine v_iload_n dX7_read_173 rfl ?_
    refine v_iadd dX7_read_174 ?_
    refine v_iconst dX7_read_175 ic_2 ?_
    refine v_iload dX7_read_176 rfl ?_
    refine v_imul dX7_read_178 ?_
    refine v_iadd dX7_read_179 ?_
    refine v_topi (fun zy14 ze15 => ?_)
    have hd := dl_n hd zy14 ze15
    refine v_istore (i := 8) (L2 := [(8, .int zy14), (0, .ref 0), (1, .int x1), (2, .int x2), (3, .int x3), (4, .int x4), (5, .int x5), (6, .int x6), (7, .int x7)]) dX7_read_180 (Nat.le_of_ble_eq_true rfl) rfl ?_
    refine v_aload_n dX7_read_182 rfl ?_
    refine v_aload_n dX7_read_183 rfl ?_
    refine v_get (v := .ref 11) dX7_read_184 fl_X7_41 rfl rfl ?_
    refine v_iload dX7_read_187 rfl ?_
    obtain ⟨zg16, hd⟩ := g_b hd
    refine v_iald (f := (u 11)) dX7_read_189 rfl (gi_in zg16) ?_
    refine v_aload_n dX7_read_190 rfl ?_
    refine v_get (v := .ref 11) dX7_read_191 fl_X7_41 rfl rfl ?_
    refine v_iload dX7_read_194 rfl ?_
    refine v_iconst dX7_read_196 ic_1 ?_
    refine v_iadd dX7_read_197 ?_
    obtain ⟨zg17, hd⟩ := g_b hd
    refine v_iald (f := (u 11)) dX7_read_198 rfl (gi_in zg17) ?_
    obtain ⟨zr18, zh19, hd⟩ := g_bind hd
    refine v_cI (dy := 2) (st := []) (st2 := [.int zr18.1]) dX7_read_199 mv_X7_270 (m_M_offer u ((u 11) zy14.toNatClampNeg) ((u 11) (zy14 + (1 : Int32)).toNatClampNeg) w zh19) rfl rfl rfl rfl rfl (by decide) (by decide) rfl rfl ?_
    refine v_if_ge (tgt := 241) dX7_read_202 (by decide) (fun zc20 => ?_) (fun zc20 => ?_)
    · have hd := g_t hd zc20
      obtain ⟨zy21, ze22⟩ : ∃ z : Int32, z = (x6 + (1 : Int32)) := ⟨_, rfl⟩
      have hd := dl_n hd zy21 ze22
      refine v_iinc (v := zy21) (L2 := [(6, .int zy21), (8, .int zy14), (0, .ref 0), (1, .int x1), (2, .int x2), (3, .int x3), (4, .int x4), (5, .int x5), (7, .int x7)]) dX7_read_241 rfl (by rw [ic_1]; exact ze22.symm) (Nat.le_of_ble_eq_true rfl) rfl ?_
      refine v_loc [2, 3, 4, 5, 6, 7, 0, 8] rfl ?_
      exact v_M_read_244 w k62 (hk62) zr18.2 x1 x2 x3 x4 x5 zy21 x7 hd
    · have hd := g_f hd zc20
      refine v_iconst dX7_read_205 ic_0 ?_
      refine v_istore (i := 9) (L2 := [(9, .int (0 : Int32)), (8, .int zy14), (0, .ref 0), (1, .int x1), (2, .int x2), (3, .int x3), (4, .int x4), (5, .int x5), (6, .int x6), (7, .int x7)]) dX7_read_206 (Nat.le_of_ble_eq_true rfl) rfl ?_
      refine v_loc [2, 9, 0] rfl ?_
      exact v_M_read_208 w FU zr18.2 x7 (0 : Int32) hd

def d_M_read_156 (k62 : (Nat → Nat → Int32) → Int32 → Int32 → Int32 → Int32 → Int32 → Int32 → Int32 → Option (Int32 × (Nat → Nat → Int32))) (k77 : (Nat → Nat → Int32) → Int32 → Int32 → Int32 → Int32 → Int32 → Int32 → Int32 → Int32 → Option (Int32 × (Nat → Nat → Int32))) (u : (Nat → Nat → Int32)) (x1 : Int32) (x2 : Int32) (x3 : Int32) (x4 : Int32) (x6 : Int32) (x7 : Int32) (x8 : Int32) (s0 : Int32) : Option (Int32 × (Nat → Nat → Int32)) := dl (x8 + (1 : Int32)) fun zy40 => k77 u x1 x2 x3 x4 s0 x6 x7 zy40
set_option maxRecDepth 100000 in
set_option maxHeartbeats 4000000 in
theorem v_M_read_156 (w : Nat → Int64) {r : Int32 × (Nat → Nat → Int32)} (k62 : (Nat → Nat → Int32) → Int32 → Int32 → Int32 → Int32 → Int32 → Int32 → Int32 → Option (Int32 × (Nat → Nat → Int32))) (hk62 : ∀ (u : (Nat → Nat → Int32)) (x1 : Int32) (x2 : Int32) (x3 : Int32) (x4 : Int32) (x5 : Int32) (x6 : Int32) (x7 : Int32), k62 u x1 x2 x3 x4 x5 x6 x7 = some r → Vd RX7 "read" cX7_read 11 (some .int) (rm 3) (ab_eq (some (.int r.1)) (h_M r.2 w)) 0 0 0 0 62 [(0, .ref 0), (1, .int x1), (2, .int x2), (3, .int x3), (4, .int x4), (5, .int x5), (6, .int x6), (7, .int x7)] [] (h_M u w)) (k77 : (Nat → Nat → Int32) → Int32 → Int32 → Int32 → Int32 → Int32 → Int32 → Int32 → Int32 → Option (Int32 × (Nat → Nat → Int32))) (hk77 : ∀ (u : (Nat → Nat → Int32)) (x1 : Int32) (x2 : Int32) (x3 : Int32) (x4 : Int32) (x5 : Int32) (x6 : Int32) (x7 : Int32) (x8 : Int32), k77 u x1 x2 x3 x4 x5 x6 x7 x8 = some r → Vd RX7 "read" cX7_read 11 (some .int) (rm 3) (ab_eq (some (.int r.1)) (h_M r.2 w)) 0 0 0 0 77 [(0, .ref 0), (1, .int x1), (2, .int x2), (3, .int x3), (4, .int x4), (5, .int x5), (6, .int x6), (7, .int x7), (8, .int x8)] [] (h_M u w)) (u : (Nat → Nat → Int32)) (x1 : Int32) (x2 : Int32) (x3 : Int32) (x4 : Int32) (x6 : Int32) (x7 : Int32) (x8 : Int32) (s0 : Int32) (hd : d_M_read_156 k62 k77 u x1 x2 x3 x4 x6 x7 x8 s0 = some r) : Vd RX7 "read" cX7_read 11 (some .int) (rm 3) (ab_eq (some (.int r.1)) (h_M r.2 w)) 0 0 0 0 156 [(0, .ref 0), (1, .int x1), (2, .int x2), (3, .int x3), (4, .int x4), (6, .int x6), (7, .int x7), (8, .int x8)] [.int s0] (h_M u w) := by
  unfold d_M_read_156 at hd
  refine v_istore (i := 5) (L2 := [(5, .int s0), (0, .ref 0), (1, .int x1), (2, .int x2), (3, .int x3), (4, .int x4), (6, .int x6), (7, .int x7), (8, .int x8)]) dX7_read_156 (Nat.le_of_ble_eq_true rfl) rfl ?_
  obtain ⟨zy40, ze41⟩ : ∃ z : Int32, z = (x8 + (1 : Int32)) := ⟨_, rfl⟩
  have hd := dl_n hd zy40 ze41
  refine v_iinc (v := zy40) (L2 := [(8, .int zy40), (5, .int s0), (0, .ref 0), (1, .int x1), (2, .int x2), (3, .int x3), (4, .int x4), (6, .int x6), (7, .int x7)]) dX7_read_158 rfl (by rw [ic_1]; exact ze41.symm) (Nat.le_of_ble_eq_true rfl) rfl ?_
  refine v_goto (tgt := 77) dX7_read_161 (by decide) ?_
  refine v_loc [2, 3, 4, 5, 6, 1, 7, 8, 0] rfl ?_
  exact hk77 u x1 x2 x3 x4 s0 x6 x7 zy40 hd

def d_M_read_151 (k62 : (Nat → Nat → Int32) → Int32 → Int32 → Int32 → Int32 → Int32 → Int32 → Int32 → Option (Int32 × (Nat → Nat → Int32))) (k77 : (Nat → Nat → Int32) → Int32 → Int32 → Int32 → Int32 → Int32 → Int32 → Int32 → Int32 → Option (Int32 × (Nat → Nat → Int32))) (u : (Nat → Nat → Int32)) (x1 : Int32) (x2 : Int32) (x3 : Int32) (x4 : Int32) (x6 : Int32) (x7 : Int32) (x8 : Int32) : Option (Int32 × (Nat → Nat → Int32)) := d_M_read_156 k62 k77 u x1 x2 x3 x4 x6 x7 x8 (2 : Int32)
set_option maxRecDepth 100000 in
set_option maxHeartbeats 4000000 in
theorem v_M_read_151 (w : Nat → Int64) {r : Int32 × (Nat → Nat → Int32)} (k62 : (Nat → Nat → Int32) → Int32 → Int32 → Int32 → Int32 → Int32 → Int32 → Int32 → Option (Int32 × (Nat → Nat → Int32))) (hk62 : ∀ (u : (Nat → Nat → Int32)) (x1 : Int32) (x2 : Int32) (x3 : Int32) (x4 : Int32) (x5 : Int32) (x6 : Int32) (x7 : Int32), k62 u x1 x2 x3 x4 x5 x6 x7 = some r → Vd RX7 "read" cX7_read 11 (some .int) (rm 3) (ab_eq (some (.int r.1)) (h_M r.2 w)) 0 0 0 0 62 [(0, .ref 0), (1, .int x1), (2, .int x2), (3, .int x3), (4, .int x4), (5, .int x5), (6, .int x6), (7, .int x7)] [] (h_M u w)) (k77 : (Nat → Nat → Int32) → Int32 → Int32 → Int32 → Int32 → Int32 → Int32 → Int32 → Int32 → Option (Int32 × (Nat → Nat → Int32))) (hk77 : ∀ (u : (Nat → Nat → Int32)) (x1 : Int32) (x2 : Int32) (x3 : Int32) (x4 : Int32) (x5 : Int32) (x6 : Int32) (x7 : Int32) (x8 : Int32), k77 u x1 x2 x3 x4 x5 x6 x7 x8 = some r → Vd RX7 "read" cX7_read 11 (some .int) (rm 3) (ab_eq (some (.int r.1)) (h_M r.2 w)) 0 0 0 0 77 [(0, .ref 0), (1, .int x1), (2, .int x2), (3, .int x3), (4, .int x4), (5, .int x5), (6, .int x6), (7, .int x7), (8, .int x8)] [] (h_M u w)) (u : (Nat → Nat → Int32)) (x1 : Int32) (x2 : Int32) (x3 : Int32) (x4 : Int32) (x6 : Int32) (x7 : Int32) (x8 : Int32) (hd : d_M_read_151 k62 k77 u x1 x2 x3 x4 x6 x7 x8 = some r) : Vd RX7 "read" cX7_read 11 (some .int) (rm 3) (ab_eq (some (.int r.1)) (h_M r.2 w)) 0 0 0 0 151 [(0, .ref 0), (1, .int x1), (2, .int x2), (3, .int x3), (4, .int x4), (6, .int x6), (7, .int x7), (8, .int x8)] [] (h_M u w) := by
  unfold d_M_read_151 at hd
  refine v_iconst dX7_read_151 ic_2 ?_
  refine v_goto (tgt := 156) dX7_read_152 (by decide) ?_
  exact v_M_read_156 w k62 (hk62) k77 (hk77) u x1 x2 x3 x4 x6 x7 x8 (2 : Int32) hd

def d_M_read_77 (k62 : (Nat → Nat → Int32) → Int32 → Int32 → Int32 → Int32 → Int32 → Int32 → Int32 → Option (Int32 × (Nat → Nat → Int32))) : Nat → (Nat → Nat → Int32) → Int32 → Int32 → Int32 → Int32 → Int32 → Int32 → Int32 → Int32 → Option (Int32 × (Nat → Nat → Int32))
  | 0, _, _, _, _, _, _, _, _, _ => none
  | f + 1, u, x1, x2, x3, x4, x5, x6, x7, x8 => if (2 : Int32) ≤ x8 then (d_M_read_164 k62 u x1 x2 x3 x4 x5 x6 x7) else (if x5 = 0 then (dl ((x3.toInt64 + ((2 : Int32) * x7).toInt64) + x8.toInt64) fun zy33 => if gi x1 4 = true then if ((u 9) x1.toNatClampNeg) = (-4 : Int32) then (d_M_read_156 k62 (d_M_read_77 k62 f) u x1 x2 x3 x4 x6 x7 x8 (1 : Int32)) else (if gi x1 4 = true then if ((u 9) x1.toNatClampNeg) = x2 then (if (lg_cmp zy33 (0 : Int64)) < 0 then (d_M_read_151 k62 (d_M_read_77 k62 f) u x1 x2 x3 x4 x6 x7 x8) else (if gi x1 4 = true then if (lg_cmp zy33 (((u 10) x1.toNatClampNeg).toInt64)) < 0 then (d_M_read_156 k62 (d_M_read_77 k62 f) u x1 x2 x3 x4 x6 x7 x8 (0 : Int32)) else (d_M_read_151 k62 (d_M_read_77 k62 f) u x1 x2 x3 x4 x6 x7 x8) else none)) else (d_M_read_156 k62 (d_M_read_77 k62 f) u x1 x2 x3 x4 x6 x7 x8 (3 : Int32)) else none) else none) else (d_M_read_164 k62 u x1 x2 x3 x4 x5 x6 x7))
set_option maxRecDepth 100000 in
set_option maxHeartbeats 4000000 in
theorem v_M_read_77 (w : Nat → Int64) {r : Int32 × (Nat → Nat → Int32)} (k62 : (Nat → Nat → Int32) → Int32 → Int32 → Int32 → Int32 → Int32 → Int32 → Int32 → Option (Int32 × (Nat → Nat → Int32))) (hk62 : ∀ (u : (Nat → Nat → Int32)) (x1 : Int32) (x2 : Int32) (x3 : Int32) (x4 : Int32) (x5 : Int32) (x6 : Int32) (x7 : Int32), k62 u x1 x2 x3 x4 x5 x6 x7 = some r → Vd RX7 "read" cX7_read 11 (some .int) (rm 3) (ab_eq (some (.int r.1)) (h_M r.2 w)) 0 0 0 0 62 [(0, .ref 0), (1, .int x1), (2, .int x2), (3, .int x3), (4, .int x4), (5, .int x5), (6, .int x6), (7, .int x7)] [] (h_M u w)) : ∀ (f : Nat) (u : (Nat → Nat → Int32)) (x1 : Int32) (x2 : Int32) (x3 : Int32) (x4 : Int32) (x5 : Int32) (x6 : Int32) (x7 : Int32) (x8 : Int32), d_M_read_77 k62 f u x1 x2 x3 x4 x5 x6 x7 x8 = some r → Vd RX7 "read" cX7_read 11 (some .int) (rm 3) (ab_eq (some (.int r.1)) (h_M r.2 w)) 0 0 0 0 77 [(0, .ref 0), (1, .int x1), (2, .int x2), (3, .int x3), (4, .int x4), (5, .int x5), (6, .int x6), (7, .int x7), (8, .int x8)] [] (h_M u w) := by
  intro f
  induction f with
  | zero =>
    intro u x1 x2 x3 x4 x5 x6 x7 x8 hd
    rw [d_M_read_77] at hd
    cases hd
  | succ f ih =>
    intro u x1 x2 x3 x4 x5 x6 x7 x8 hd
    rw [d_M_read_77] at hd
    refine v_iload dX7_read_77 rfl ?_
    refine v_iconst dX7_read_79 ic_2 ?_
    refine v_icmp_ge (tgt := 164) dX7_read_80 (by decide) (fun zc10 => ?_) (fun zc10 => ?_)
    · have hd := g_t hd zc10
      refine v_loc [0, 1, 2, 3, 4, 5, 6, 7] rfl ?_
      exact v_M_read_164 w k62 (hk62) u x1 x2 x3 x4 x5 x6 x7 hd
    · have hd := g_f hd zc10
      refine v_iload dX7_read_83 rfl ?_
      refine v_if_ne (tgt := 164) dX7_read_85 (by decide) (fun zc32 => ?_) (fun zc32 => ?_)
      · have hd := g_f hd zc32
        refine v_loc [0, 1, 2, 3, 4, 5, 6, 7] rfl ?_
        exact v_M_read_164 w k62 (hk62) u x1 x2 x3 x4 x5 x6 x7 hd
      · have hd := g_t hd zc32
        refine v_iload_n dX7_read_88 rfl ?_
        refine v_i2l dX7_read_89 ?_
        refine v_iconst dX7_read_90 ic_2 ?_
        refine v_iload dX7_read_91 rfl ?_
        refine v_imul dX7_read_93 ?_
        refine v_i2l dX7_read_94 ?_
        refine v_ladd dX7_read_95 ?_
        refine v_iload dX7_read_96 rfl ?_
        refine v_i2l dX7_read_98 ?_
        refine v_ladd dX7_read_99 ?_
        refine v_topl (fun zy33 ze34 => ?_)
        have hd := dl_n hd zy33 ze34
        refine v_lstore (i := 9) (L2 := [(9, .long zy33), (0, .ref 0), (1, .int x1), (2, .int x2), (3, .int x3), (4, .int x4), (5, .int x5), (6, .int x6), (7, .int x7), (8, .int x8)]) dX7_read_100 (Nat.le_of_ble_eq_true rfl) rfl ?_
        refine v_aload_n dX7_read_102 rfl ?_
        refine v_get (v := .ref 9) dX7_read_103 fl_X7_35 rfl rfl ?_
        refine v_iload_n dX7_read_106 rfl ?_
        obtain ⟨zg35, hd⟩ := g_b hd
        refine v_iald (f := (u 9)) dX7_read_107 rfl (gi_in zg35) ?_
        refine v_bipush dX7_read_108 bp_m4 ?_
        refine v_icmp_ne (tgt := 117) dX7_read_110 (by decide) (fun zc36 => ?_) (fun zc36 => ?_)
        · have hd := g_f hd zc36
          refine v_aload_n dX7_read_117 rfl ?_
          refine v_get (v := .ref 9) dX7_read_118 fl_X7_35 rfl rfl ?_
          refine v_iload_n dX7_read_121 rfl ?_
          obtain ⟨zg37, hd⟩ := g_b hd
          refine v_iald (f := (u 9)) dX7_read_122 rfl (gi_in zg37) ?_
          refine v_iload_n dX7_read_123 rfl ?_
          refine v_icmp_eq (tgt := 131) dX7_read_124 (by decide) (fun zc38 => ?_) (fun zc38 => ?_)
          · have hd := g_t hd zc38
            refine v_lload dX7_read_131 rfl ?_
            refine v_lconst (v := 0) dX7_read_133 rfl ?_
            refine v_lcmp dX7_read_134 ?_
            refine v_if_lt (tgt := 151) dX7_read_135 (by decide) (fun zc39 => ?_) (fun zc39 => ?_)
            · have hd := g_t hd zc39
              refine v_loc [1, 2, 3, 4, 5, 7, 8, 9] rfl ?_
              exact v_M_read_151 w k62 (hk62) (d_M_read_77 k62 f) (ih) u x1 x2 x3 x4 x6 x7 x8 hd
            · have hd := g_f hd zc39
              refine v_lload dX7_read_138 rfl ?_
              refine v_aload_n dX7_read_140 rfl ?_
              refine v_get (v := .ref 10) dX7_read_141 fl_X7_38 rfl rfl ?_
              refine v_iload_n dX7_read_144 rfl ?_
              obtain ⟨zg42, hd⟩ := g_b hd
              refine v_iald (f := (u 10)) dX7_read_145 rfl (gi_in zg42) ?_
              refine v_i2l dX7_read_146 ?_
              refine v_lcmp dX7_read_147 ?_
              refine v_if_lt (tgt := 155) dX7_read_148 (by decide) (fun zc43 => ?_) (fun zc43 => ?_)
              · have hd := g_t hd zc43
                refine v_iconst dX7_read_155 ic_0 ?_
                refine v_loc [1, 2, 3, 4, 5, 7, 8, 9] rfl ?_
                exact v_M_read_156 w k62 (hk62) (d_M_read_77 k62 f) (ih) u x1 x2 x3 x4 x6 x7 x8 (0 : Int32) hd
              · have hd := g_f hd zc43
                refine v_loc [1, 2, 3, 4, 5, 7, 8, 9] rfl ?_
                exact v_M_read_151 w k62 (hk62) (d_M_read_77 k62 f) (ih) u x1 x2 x3 x4 x6 x7 x8 hd
          · have hd := g_f hd zc38
            refine v_iconst dX7_read_127 ic_3 ?_
            refine v_goto (tgt := 156) dX7_read_128 (by decide) ?_
            refine v_loc [1, 2, 3, 4, 5, 7, 8, 9] rfl ?_
            exact v_M_read_156 w k62 (hk62) (d_M_read_77 k62 f) (ih) u x1 x2 x3 x4 x6 x7 x8 (3 : Int32) hd
        · have hd := g_t hd zc36
          refine v_iconst dX7_read_113 ic_1 ?_
          refine v_goto (tgt := 156) dX7_read_114 (by decide) ?_
          refine v_loc [1, 2, 3, 4, 5, 7, 8, 9] rfl ?_
          exact v_M_read_156 w k62 (hk62) (d_M_read_77 k62 f) (ih) u x1 x2 x3 x4 x6 x7 x8 (1 : Int32) hd

def d_M_read_62  : Nat → (Nat → Nat → Int32) → Int32 → Int32 → Int32 → Int32 → Int32 → Int32 → Int32 → Option (Int32 × (Nat → Nat → Int32))
  | 0, _, _, _, _, _, _, _, _ => none
  | f + 1, u, x1, x2, x3, x4, x5, x6, x7 => if x4 ≤ x7 then (d_M_read_250 u x5 x6) else (if x5 = 0 then (d_M_read_77 (d_M_read_62 f) FU u x1 x2 x3 x4 x5 x6 x7 (0 : Int32)) else (d_M_read_250 u x5 x6))
set_option maxRecDepth 100000 in
set_option maxHeartbeats 4000000 in
theorem v_M_read_62 (w : Nat → Int64) {r : Int32 × (Nat → Nat → Int32)}  : ∀ (f : Nat) (u : (Nat → Nat → Int32)) (x1 : Int32) (x2 : Int32) (x3 : Int32) (x4 : Int32) (x5 : Int32) (x6 : Int32) (x7 : Int32), d_M_read_62  f u x1 x2 x3 x4 x5 x6 x7 = some r → Vd RX7 "read" cX7_read 11 (some .int) (rm 3) (ab_eq (some (.int r.1)) (h_M r.2 w)) 0 0 0 0 62 [(0, .ref 0), (1, .int x1), (2, .int x2), (3, .int x3), (4, .int x4), (5, .int x5), (6, .int x6), (7, .int x7)] [] (h_M u w) := by
  intro f
  induction f with
  | zero =>
    intro u x1 x2 x3 x4 x5 x6 x7 hd
    rw [d_M_read_62] at hd
    cases hd
  | succ f ih =>
    intro u x1 x2 x3 x4 x5 x6 x7 hd
    rw [d_M_read_62] at hd
    refine v_iload dX7_read_62 rfl ?_
    refine v_iload dX7_read_64 rfl ?_
    refine v_icmp_ge (tgt := 250) dX7_read_66 (by decide) (fun zc8 => ?_) (fun zc8 => ?_)
    · have hd := g_t hd zc8
      refine v_loc [0, 5, 6] rfl ?_
      exact v_M_read_250 w u x5 x6 hd
    · have hd := g_f hd zc8
      refine v_iload dX7_read_69 rfl ?_
      refine v_if_ne (tgt := 250) dX7_read_71 (by decide) (fun zc9 => ?_) (fun zc9 => ?_)
      · have hd := g_f hd zc9
        refine v_loc [0, 5, 6] rfl ?_
        exact v_M_read_250 w u x5 x6 hd
      · have hd := g_t hd zc9
        refine v_iconst dX7_read_74 ic_0 ?_
        refine v_istore (i := 8) (L2 := [(8, .int (0 : Int32)), (0, .ref 0), (1, .int x1), (2, .int x2), (3, .int x3), (4, .int x4), (5, .int x5), (6, .int x6), (7, .int x7)]) dX7_read_75 (Nat.le_of_ble_eq_true rfl) rfl ?_
        refine v_loc [1, 2, 3, 4, 5, 6, 7, 8, 0] rfl ?_
        exact v_M_read_77 w (d_M_read_62 f) (ih) FU u x1 x2 x3 x4 x5 x6 x7 (0 : Int32) hd

def d_M_read_26  : Nat → (Nat → Nat → Int32) → Int32 → Int32 → Int32 → Int32 → Int32 → Option (Int32 × (Nat → Nat → Int32))
  | 0, _, _, _, _, _, _ => none
  | f + 1, u, x1, x2, x3, x4, x5 => if (41 : Int32) ≤ x5 then (d_M_read_62 FU u x1 x2 x3 x4 (0 : Int32) (0 : Int32) (0 : Int32)) else (if gi x5 123 = true then if gi x5 41 = true then dl ((u 1) x5.toNatClampNeg) fun zy46 => dl (pw u 12 x5.toNatClampNeg zy46) fun zu48 => dl (x5 + (1 : Int32)) fun zy50 => d_M_read_26 f zu48 x1 x2 x3 x4 zy50 else none else none)
set_option maxRecDepth 100000 in
set_option maxHeartbeats 4000000 in
theorem v_M_read_26 (w : Nat → Int64) {r : Int32 × (Nat → Nat → Int32)}  : ∀ (f : Nat) (u : (Nat → Nat → Int32)) (x1 : Int32) (x2 : Int32) (x3 : Int32) (x4 : Int32) (x5 : Int32), d_M_read_26  f u x1 x2 x3 x4 x5 = some r → Vd RX7 "read" cX7_read 11 (some .int) (rm 3) (ab_eq (some (.int r.1)) (h_M r.2 w)) 0 0 0 0 26 [(0, .ref 0), (1, .int x1), (2, .int x2), (3, .int x3), (4, .int x4), (5, .int x5)] [] (h_M u w) := by
  intro f
  induction f with
  | zero =>
    intro u x1 x2 x3 x4 x5 hd
    rw [d_M_read_26] at hd
    cases hd
  | succ f ih =>
    intro u x1 x2 x3 x4 x5 hd
    rw [d_M_read_26] at hd
    refine v_iload dX7_read_26 rfl ?_
    refine v_bipush dX7_read_28 bp_41 ?_
    refine v_icmp_ge (tgt := 53) dX7_read_30 (by decide) (fun zc7 => ?_) (fun zc7 => ?_)
    · have hd := g_t hd zc7
      refine v_iconst dX7_read_53 ic_0 ?_
      refine v_istore (i := 5) (L2 := [(5, .int (0 : Int32)), (0, .ref 0), (1, .int x1), (2, .int x2), (3, .int x3), (4, .int x4)]) dX7_read_54 (Nat.le_of_ble_eq_true rfl) rfl ?_
      refine v_iconst dX7_read_56 ic_0 ?_
      refine v_istore (i := 6) (L2 := [(6, .int (0 : Int32)), (5, .int (0 : Int32)), (0, .ref 0), (1, .int x1), (2, .int x2), (3, .int x3), (4, .int x4)]) dX7_read_57 (Nat.le_of_ble_eq_true rfl) rfl ?_
      refine v_iconst dX7_read_59 ic_0 ?_
      refine v_istore (i := 7) (L2 := [(7, .int (0 : Int32)), (6, .int (0 : Int32)), (5, .int (0 : Int32)), (0, .ref 0), (1, .int x1), (2, .int x2), (3, .int x3), (4, .int x4)]) dX7_read_60 (Nat.le_of_ble_eq_true rfl) rfl ?_
      refine v_loc [3, 4, 5, 6, 7, 2, 1, 0] rfl ?_
      exact v_M_read_62 w FU u x1 x2 x3 x4 (0 : Int32) (0 : Int32) (0 : Int32) hd
    · have hd := g_f hd zc7
      refine v_aload_n dX7_read_33 rfl ?_
      refine v_get (v := .ref 12) dX7_read_34 fl_X7_44 rfl rfl ?_
      refine v_iload dX7_read_37 rfl ?_
      refine v_aload_n dX7_read_39 rfl ?_
      refine v_get (v := .ref 1) dX7_read_40 fl_X7_7 rfl rfl ?_
      refine v_iload dX7_read_43 rfl ?_
      obtain ⟨zg44, hd⟩ := g_b hd
      refine v_iald (f := (u 1)) dX7_read_45 rfl (gi_in zg44) ?_
      obtain ⟨zg45, hd⟩ := g_b hd
      refine v_topi (fun zy46 ze47 => ?_)
      have hd := dl_n hd zy46 ze47
      refine v_ist (f := (u 12)) (h2 := (h_M (pw u 12 x5.toNatClampNeg zy46) w)) dX7_read_46 rfl (gi_in zg45) rfl ?_
      refine v_nmu (F := fun z => (h_M z w)) (e := (pw u 12 x5.toNatClampNeg zy46)) (fun zu48 ze49 => ?_)
      have hd := dl_n hd zu48 ze49
      obtain ⟨zy50, ze51⟩ : ∃ z : Int32, z = (x5 + (1 : Int32)) := ⟨_, rfl⟩
      have hd := dl_n hd zy50 ze51
      refine v_iinc (v := zy50) (L2 := [(5, .int zy50), (0, .ref 0), (1, .int x1), (2, .int x2), (3, .int x3), (4, .int x4)]) dX7_read_47 rfl (by rw [ic_1]; exact ze51.symm) (Nat.le_of_ble_eq_true rfl) rfl ?_
      refine v_goto (tgt := 26) dX7_read_50 (by decide) ?_
      refine v_loc [1, 2, 3, 4, 5, 0] rfl ?_
      exact ih zu48 x1 x2 x3 x4 zy50 hd
def d_M_read (u : (Nat → Nat → Int32)) (a1 : Int32) (a2 : Int32) (a3 : Int32) (a4 : Int32) : Option (Int32 × (Nat → Nat → Int32)) := (d_P_isSheet a1 a2).bind fun zr1 => if zr1 = 0 then (some ((-1 : Int32), u)) else ((d_P_in a4.toInt64 (0 : Int64) (20 : Int64)).bind fun zr4 => if zr4 = 0 then (some ((-1 : Int32), u)) else (d_M_read_26 FU u a1 a2 a3 a4 (0 : Int32)))
set_option maxRecDepth 100000 in
set_option maxHeartbeats 4000000 in
theorem v_M_read (u : (Nat → Nat → Int32)) (a1 : Int32) (a2 : Int32) (a3 : Int32) (a4 : Int32) (w : Nat → Int64) {r : Int32 × (Nat → Nat → Int32)} (hd : d_M_read u a1 a2 a3 a4 = some r) : Vd RX7 "read" cX7_read 11 (some .int) (rm 3) (ab_eq (some (.int r.1)) (h_M r.2 w)) 0 0 0 0 0 [(0, .ref 0), (1, .int a1), (2, .int a2), (3, .int a3), (4, .int a4)] [] (h_M u w) := by
  unfold d_M_read at hd
  refine v_iload_n dX7_read_0 rfl ?_
  refine v_iload_n dX7_read_1 rfl ?_
  obtain ⟨zr1, zh2, hd⟩ := g_bind hd
  refine v_cS (dy := 1) (st := []) (st2 := [.int zr1]) (h2 := (h_M u w)) [] dX7_read_2 mz_X7_266 (m_P_isSheet a1 a2 zh2) rfl rfl rfl rfl rfl rfl (by decide) (by decide) rfl rfl rfl ?_
  refine v_if_eq (tgt := 21) dX7_read_5 (by decide) (fun zc3 => ?_) (fun zc3 => ?_)
  · have hd := g_t hd zc3
    refine v_iconst dX7_read_21 ic_m1 ?_
    obtain rfl := Option.some.inj hd
    exact v_iretE dX7_read_22 rfl rfl rfl rfl
  · have hd := g_f hd zc3
    refine v_iload dX7_read_8 rfl ?_
    refine v_i2l dX7_read_10 ?_
    refine v_lconst (v := 0) dX7_read_11 rfl ?_
    refine v_ldc2 dX7_read_12 kc_X7_192 ?_
    obtain ⟨zr4, zh5, hd⟩ := g_bind hd
    refine v_cS (dy := 0) (st := []) (st2 := [.int zr4]) (h2 := (h_M u w)) [] dX7_read_15 mz_X7_72 (m_P_in a4.toInt64 (0 : Int64) (20 : Int64) zh5) rfl rfl rfl rfl rfl rfl (by decide) (by decide) rfl rfl rfl ?_
    refine v_if_ne (tgt := 23) dX7_read_18 (by decide) (fun zc6 => ?_) (fun zc6 => ?_)
    · have hd := g_f hd zc6
      refine v_iconst dX7_read_23 ic_0 ?_
      refine v_istore (i := 5) (L2 := [(5, .int (0 : Int32)), (0, .ref 0), (1, .int a1), (2, .int a2), (3, .int a3), (4, .int a4)]) dX7_read_24 (Nat.le_of_ble_eq_true rfl) rfl ?_
      refine v_loc [1, 2, 3, 4, 5, 0] rfl ?_
      exact v_M_read_26 w FU u a1 a2 a3 a4 (0 : Int32) hd
    · have hd := g_t hd zc6
      refine v_iconst dX7_read_21 ic_m1 ?_
      obtain rfl := Option.some.inj hd
      exact v_iretE dX7_read_22 rfl rfl rfl rfl
theorem m_M_read (u : (Nat → Nat → Int32)) (a1 : Int32) (a2 : Int32) (a3 : Int32) (a4 : Int32) (w : Nat → Int64) {r : Int32 × (Nat → Nat → Int32)} (hd : d_M_read u a1 a2 a3 a4 = some r) : Mt yX7_read cX7_read 11 (some .int) (rm 3) [.ref 0, .int a1, .int a2, .int a3, .int a4] (h_M u w) (ab_eq (some (.int r.1)) (h_M r.2 w)) := Mt.of (by decide +kernel) (fun _ _ _ => trivial) (Nat.le_of_ble_eq_true rfl) (v_M_read u a1 a2 a3 a4 w hd)
def d_M_torn (u : (Nat → Nat → Int32)) : Option Int32 := some (u 0 26)
set_option maxRecDepth 100000 in
set_option maxHeartbeats 4000000 in
theorem v_M_torn (u : (Nat → Nat → Int32)) (w : Nat → Int64) {r : Int32} (hd : d_M_torn u = some r) : Vd RX7 "torn" cX7_torn 1 (some .int) (rm 0) (ab_eq (some (.int r)) (h_M u w)) 0 0 0 0 0 [(0, .ref 0)] [] (h_M u w) := by
  unfold d_M_torn at hd
  refine v_aload_n dX7_torn_0 rfl ?_
  refine v_get (v := .int (u 0 26)) dX7_torn_1 fl_X7_273 rfl rfl ?_
  obtain rfl := Option.some.inj hd
  exact v_iretE dX7_torn_4 rfl rfl rfl rfl
theorem m_M_torn (u : (Nat → Nat → Int32)) (w : Nat → Int64) {r : Int32} (hd : d_M_torn u = some r) : Mt yX7_torn cX7_torn 1 (some .int) (rm 0) [.ref 0] (h_M u w) (ab_eq (some (.int r)) (h_M u w)) := Mt.of (by decide +kernel) (fun _ _ _ => trivial) (Nat.le_of_ble_eq_true rfl) (v_M_torn u w hd)
def d_M_count (u : (Nat → Nat → Int32)) (a1 : Int32) : Option (Int32 × (Nat → Nat → Int32)) := (d_M_starts u).bind fun zr1 => if a1 = (0 : Int32) then ((d_M_allOf zr1 (10 : Int32)).bind fun zr4 => some (zr4, zr1)) else if a1 = (1 : Int32) then (some (((zr1 1) (22 : Int32).toNatClampNeg), zr1)) else if a1 = (2 : Int32) then ((d_P_flag ((zr1 3) (0 : Int32).toNatClampNeg)).bind fun zr8 => (d_P_flag ((zr1 3) (1 : Int32).toNatClampNeg)).bind fun zr10 => some ((zr8 + zr10), zr1)) else if a1 = (3 : Int32) then (some ((zr1 0 11), zr1)) else if a1 = (4 : Int32) then (if ((zr1 9) (0 : Int32).toNatClampNeg) = (-4 : Int32) then (some ((-4 : Int32), zr1)) else (some (((zr1 10) (0 : Int32).toNatClampNeg), zr1))) else (some ((-1 : Int32), zr1))
set_option maxRecDepth 100000 in
set_option maxHeartbeats 4000000 in
theorem v_M_count (u : (Nat → Nat → Int32)) (a1 : Int32) (w : Nat → Int64) {r : Int32 × (Nat → Nat → Int32)} (hd : d_M_count u a1 = some r) : Vd RX7 "count" cX7_count 2 (some .int) (rm 1) (ab_eq (some (.int r.1)) (h_M r.2 w)) 0 0 0 0 0 [(0, .ref 0), (1, .int a1)] [] (h_M u w) := by
  unfold d_M_count at hd
  refine v_aload_n dX7_count_0 rfl ?_
  obtain ⟨zr1, zh2, hd⟩ := g_bind hd
  refine v_cI (dy := 0) (st := []) (st2 := []) dX7_count_1 mv_X7_170 (m_M_starts u w zh2) rfl rfl rfl rfl rfl (by decide) (by decide) rfl rfl ?_
  refine v_iload_n dX7_count_4 rfl ?_
  by_cases zc3 : a1 = (0 : Int32)
  · have hd := g_t hd zc3
    refine v_tIn (0 : Int32) (tgt := 40) dX7_count_5 zc3 (by decide) (by decide) rfl (by decide) ?_
    refine v_aload_n dX7_count_40 rfl ?_
    refine v_bipush dX7_count_41 bp_10 ?_
    obtain ⟨zr4, zh5, hd⟩ := g_bind hd
    refine v_cI (dy := 0) (st := []) (st2 := [.int zr4]) dX7_count_43 mv_X7_173 (m_M_allOf zr1 (10 : Int32) w zh5) rfl rfl rfl rfl rfl (by decide) (by decide) rfl rfl ?_
    obtain rfl := Option.some.inj hd
    exact v_iretE dX7_count_46 rfl rfl rfl rfl
  have hd := g_f hd zc3
  by_cases zc6 : a1 = (1 : Int32)
  · have hd := g_t hd zc6
    refine v_tIn (1 : Int32) (tgt := 47) dX7_count_5 zc6 (by decide) (by decide) rfl (by decide) ?_
    refine v_aload_n dX7_count_47 rfl ?_
    refine v_get (v := .ref 1) dX7_count_48 fl_X7_7 rfl rfl ?_
    refine v_bipush dX7_count_51 bp_22 ?_
    refine v_iald (f := (zr1 1)) dX7_count_53 rfl gl_22_123 ?_
    obtain rfl := Option.some.inj hd
    exact v_iretE dX7_count_54 rfl rfl rfl rfl
  have hd := g_f hd zc6
  by_cases zc7 : a1 = (2 : Int32)
  · have hd := g_t hd zc7
    refine v_tIn (2 : Int32) (tgt := 55) dX7_count_5 zc7 (by decide) (by decide) rfl (by decide) ?_
    refine v_aload_n dX7_count_55 rfl ?_
    refine v_get (v := .ref 3) dX7_count_56 fl_X7_16 rfl rfl ?_
    refine v_iconst dX7_count_59 ic_0 ?_
    refine v_zald (f := (zr1 3)) dX7_count_60 rfl gl_0_2 ?_
    obtain ⟨zr8, zh9, hd⟩ := g_bind hd
    refine v_cS (dy := 0) (st := []) (st2 := [.int zr8]) (h2 := (h_M zr1 w)) [] dX7_count_61 mz_X7_215 (m_P_flag ((zr1 3) (0 : Int32).toNatClampNeg) zh9) rfl rfl rfl rfl rfl rfl (by decide) (by decide) rfl rfl rfl ?_
    refine v_aload_n dX7_count_64 rfl ?_
    refine v_get (v := .ref 3) dX7_count_65 fl_X7_16 rfl rfl ?_
    refine v_iconst dX7_count_68 ic_1 ?_
    refine v_zald (f := (zr1 3)) dX7_count_69 rfl gl_1_2 ?_
    obtain ⟨zr10, zh11, hd⟩ := g_bind hd
    refine v_cS (dy := 0) (st := [.int zr8]) (st2 := [.int zr10, .int zr8]) (h2 := (h_M zr1 w)) [] dX7_count_70 mz_X7_215 (m_P_flag ((zr1 3) (1 : Int32).toNatClampNeg) zh11) rfl rfl rfl rfl rfl rfl (by decide) (by decide) rfl rfl rfl ?_
    refine v_iadd dX7_count_73 ?_
    obtain rfl := Option.some.inj hd
    exact v_iretE dX7_count_74 rfl rfl rfl rfl
  have hd := g_f hd zc7
  by_cases zc12 : a1 = (3 : Int32)
  · have hd := g_t hd zc12
    refine v_tIn (3 : Int32) (tgt := 75) dX7_count_5 zc12 (by decide) (by decide) rfl (by decide) ?_
    refine v_aload_n dX7_count_75 rfl ?_
    refine v_get (v := .int (zr1 0 11)) dX7_count_76 fl_X7_76 rfl rfl ?_
    obtain rfl := Option.some.inj hd
    exact v_iretE dX7_count_79 rfl rfl rfl rfl
  have hd := g_f hd zc12
  by_cases zc13 : a1 = (4 : Int32)
  · have hd := g_t hd zc13
    refine v_tIn (4 : Int32) (tgt := 80) dX7_count_5 zc13 (by decide) (by decide) rfl (by decide) ?_
    refine v_aload_n dX7_count_80 rfl ?_
    refine v_get (v := .ref 9) dX7_count_81 fl_X7_35 rfl rfl ?_
    refine v_iconst dX7_count_84 ic_0 ?_
    refine v_iald (f := (zr1 9)) dX7_count_85 rfl gl_0_4 ?_
    refine v_bipush dX7_count_86 bp_m4 ?_
    refine v_icmp_ne (tgt := 96) dX7_count_88 (by decide) (fun zc14 => ?_) (fun zc14 => ?_)
    · have hd := g_f hd zc14
      refine v_aload_n dX7_count_96 rfl ?_
      refine v_get (v := .ref 10) dX7_count_97 fl_X7_38 rfl rfl ?_
      refine v_iconst dX7_count_100 ic_0 ?_
      refine v_iald (f := (zr1 10)) dX7_count_101 rfl gl_0_4 ?_
      obtain rfl := Option.some.inj hd
      exact v_iretE dX7_count_102 rfl rfl rfl rfl
    · have hd := g_t hd zc14
      refine v_bipush dX7_count_91 bp_m4 ?_
      refine v_goto (tgt := 102) dX7_count_93 (by decide) ?_
      obtain rfl := Option.some.inj hd
      exact v_iretE dX7_count_102 rfl rfl rfl rfl
  have hd := g_f hd zc13
  refine v_tOut (tgt := 103) dX7_count_5 (by have q0 := lv_neT (a := 0) zc3 rfl; have q1 := lv_neT (a := 1) zc6 rfl; have q2 := lv_neT (a := 2) zc7 rfl; have q3 := lv_neT (a := 3) zc12 rfl; have q4 := lv_neT (a := 4) zc13 rfl; omega) (by decide) ?_
  refine v_iconst dX7_count_103 ic_m1 ?_
  obtain rfl := Option.some.inj hd
  exact v_iretE dX7_count_104 rfl rfl rfl rfl
theorem m_M_count (u : (Nat → Nat → Int32)) (a1 : Int32) (w : Nat → Int64) {r : Int32 × (Nat → Nat → Int32)} (hd : d_M_count u a1 = some r) : Mt yX7_count cX7_count 2 (some .int) (rm 1) [.ref 0, .int a1] (h_M u w) (ab_eq (some (.int r.1)) (h_M r.2 w)) := Mt.of (by decide +kernel) (fun _ _ _ => trivial) (Nat.le_of_ble_eq_true rfl) (v_M_count u a1 w hd)
