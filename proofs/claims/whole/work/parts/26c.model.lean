
def d_M_cooks_173 (k79 : (Nat → Nat → Int32) → Int32 → Int32 → Int32 → Int32 → Int32 → Int32 → Option (Int32 × (Nat → Nat → Int32))) (u : (Nat → Nat → Int32)) (x1 : Int32) (x2 : Int32) (x3 : Int32) (x4 : Int32) (x5 : Int32) (x6 : Int32) : Option (Int32 × (Nat → Nat → Int32)) := dl (x6 + (1 : Int32)) fun zy12 => k79 u x1 x2 x3 x4 x5 zy12
set_option maxRecDepth 100000 in
set_option maxHeartbeats 4000000 in
theorem v_M_cooks_173 (w : Nat → Int64) {r : Int32 × (Nat → Nat → Int32)} (k79 : (Nat → Nat → Int32) → Int32 → Int32 → Int32 → Int32 → Int32 → Int32 → Option (Int32 × (Nat → Nat → Int32))) (hk79 : ∀ (u : (Nat → Nat → Int32)) (x1 : Int32) (x2 : Int32) (x3 : Int32) (x4 : Int32) (x5 : Int32) (x6 : Int32), k79 u x1 x2 x3 x4 x5 x6 = some r → Vd RX7 "cooks" cX7_cooks 8 (some .int) (rm 5) (ab_eq (some (.int r.1)) (h_M r.2 w)) 0 0 0 0 79 [(0, .ref 0), (1, .int x1), (2, .int x2), (3, .int x3), (4, .int x4), (5, .int x5), (6, .int x6)] [] (h_M u w)) (u : (Nat → Nat → Int32)) (x1 : Int32) (x2 : Int32) (x3 : Int32) (x4 : Int32) (x5 : Int32) (x6 : Int32) (hd : d_M_cooks_173 k79 u x1 x2 x3 x4 x5 x6 = some r) : Vd RX7 "cooks" cX7_cooks 8 (some .int) (rm 5) (ab_eq (some (.int r.1)) (h_M r.2 w)) 0 0 0 0 173 [(0, .ref 0), (1, .int x1), (2, .int x2), (3, .int x3), (4, .int x4), (5, .int x5), (6, .int x6)] [] (h_M u w) := by
  unfold d_M_cooks_173 at hd
  obtain ⟨zy12, ze13⟩ : ∃ z : Int32, z = (x6 + (1 : Int32)) := ⟨_, rfl⟩
  have hd := dl_n hd zy12 ze13
  refine v_iinc (v := zy12) (L2 := [(6, .int zy12), (0, .ref 0), (1, .int x1), (2, .int x2), (3, .int x3), (4, .int x4), (5, .int x5)]) dX7_cooks_173 rfl (by rw [ic_1]; exact ze13.symm) (Nat.le_of_ble_eq_true rfl) rfl ?_
  refine v_goto (tgt := 79) dX7_cooks_176 (by decide) ?_
  refine v_loc [1, 2, 3, 4, 5, 6, 0] rfl ?_
  exact hk79 u x1 x2 x3 x4 x5 zy12 hd

def d_M_cooks_171 (k79 : (Nat → Nat → Int32) → Int32 → Int32 → Int32 → Int32 → Int32 → Int32 → Option (Int32 × (Nat → Nat → Int32))) (u : (Nat → Nat → Int32)) (x1 : Int32) (x2 : Int32) (x3 : Int32) (x5 : Int32) (x6 : Int32) (s0 : Int32) : Option (Int32 × (Nat → Nat → Int32)) := d_M_cooks_173 k79 u x1 x2 x3 s0 x5 x6
set_option maxRecDepth 100000 in
set_option maxHeartbeats 4000000 in
theorem v_M_cooks_171 (w : Nat → Int64) {r : Int32 × (Nat → Nat → Int32)} (k79 : (Nat → Nat → Int32) → Int32 → Int32 → Int32 → Int32 → Int32 → Int32 → Option (Int32 × (Nat → Nat → Int32))) (hk79 : ∀ (u : (Nat → Nat → Int32)) (x1 : Int32) (x2 : Int32) (x3 : Int32) (x4 : Int32) (x5 : Int32) (x6 : Int32), k79 u x1 x2 x3 x4 x5 x6 = some r → Vd RX7 "cooks" cX7_cooks 8 (some .int) (rm 5) (ab_eq (some (.int r.1)) (h_M r.2 w)) 0 0 0 0 79 [(0, .ref 0), (1, .int x1), (2, .int x2), (3, .int x3), (4, .int x4), (5, .int x5), (6, .int x6)] [] (h_M u w)) (u : (Nat → Nat → Int32)) (x1 : Int32) (x2 : Int32) (x3 : Int32) (x5 : Int32) (x6 : Int32) (s0 : Int32) (hd : d_M_cooks_171 k79 u x1 x2 x3 x5 x6 s0 = some r) : Vd RX7 "cooks" cX7_cooks 8 (some .int) (rm 5) (ab_eq (some (.int r.1)) (h_M r.2 w)) 0 0 0 0 171 [(0, .ref 0), (1, .int x1), (2, .int x2), (3, .int x3), (5, .int x5), (6, .int x6)] [.int s0] (h_M u w) := by
  unfold d_M_cooks_171 at hd
  refine v_istore (i := 4) (L2 := [(4, .int s0), (0, .ref 0), (1, .int x1), (2, .int x2), (3, .int x3), (5, .int x5), (6, .int x6)]) dX7_cooks_171 (Nat.le_of_ble_eq_true rfl) rfl ?_
  refine v_loc [1, 2, 3, 4, 0, 5, 6] rfl ?_
  exact v_M_cooks_173 w k79 (hk79) u x1 x2 x3 s0 x5 x6 hd

def d_M_cooks_154 (k79 : (Nat → Nat → Int32) → Int32 → Int32 → Int32 → Int32 → Int32 → Int32 → Option (Int32 × (Nat → Nat → Int32))) (u : (Nat → Nat → Int32)) (x1 : Int32) (x2 : Int32) (x3 : Int32) (x4 : Int32) (x6 : Int32) (x7 : Int32) (s0 : Int32) : Option (Int32 × (Nat → Nat → Int32)) := if x7 = 0 then (d_M_cooks_171 k79 u x1 x2 x3 s0 x6 x4) else ((d_P_bitsOf x6).bind fun zr24 => d_M_cooks_171 k79 u x1 x2 x3 s0 x6 zr24)
set_option maxRecDepth 100000 in
set_option maxHeartbeats 4000000 in
theorem v_M_cooks_154 (w : Nat → Int64) {r : Int32 × (Nat → Nat → Int32)} (k79 : (Nat → Nat → Int32) → Int32 → Int32 → Int32 → Int32 → Int32 → Int32 → Option (Int32 × (Nat → Nat → Int32))) (hk79 : ∀ (u : (Nat → Nat → Int32)) (x1 : Int32) (x2 : Int32) (x3 : Int32) (x4 : Int32) (x5 : Int32) (x6 : Int32), k79 u x1 x2 x3 x4 x5 x6 = some r → Vd RX7 "cooks" cX7_cooks 8 (some .int) (rm 5) (ab_eq (some (.int r.1)) (h_M r.2 w)) 0 0 0 0 79 [(0, .ref 0), (1, .int x1), (2, .int x2), (3, .int x3), (4, .int x4), (5, .int x5), (6, .int x6)] [] (h_M u w)) (u : (Nat → Nat → Int32)) (x1 : Int32) (x2 : Int32) (x3 : Int32) (x4 : Int32) (x6 : Int32) (x7 : Int32) (s0 : Int32) (hd : d_M_cooks_154 k79 u x1 x2 x3 x4 x6 x7 s0 = some r) : Vd RX7 "cooks" cX7_cooks 8 (some .int) (rm 5) (ab_eq (some (.int r.1)) (h_M r.2 w)) 0 0 0 0 154 [(0, .ref 0), (1, .int x1), (2, .int x2), (3, .int x3), (4, .int x4), (6, .int x6), (7, .int x7)] [.int s0] (h_M u w) := by
  unfold d_M_cooks_154 at hd
  refine v_istore (i := 5) (L2 := [(5, .int s0), (0, .ref 0), (1, .int x1), (2, .int x2), (3, .int x3), (4, .int x4), (6, .int x6), (7, .int x7)]) dX7_cooks_154 (Nat.le_of_ble_eq_true rfl) rfl ?_
  refine v_iload dX7_cooks_156 rfl ?_
  refine v_if_eq (tgt := 169) dX7_cooks_158 (by decide) (fun zc23 => ?_) (fun zc23 => ?_)
  · have hd := g_t hd zc23
    refine v_iload dX7_cooks_169 rfl ?_
    refine v_loc [1, 2, 3, 4, 0, 6] rfl ?_
    exact v_M_cooks_171 w k79 (hk79) u x1 x2 x3 s0 x6 x4 hd
  · have hd := g_f hd zc23
    refine v_iload dX7_cooks_161 rfl ?_
    obtain ⟨zr24, zh25, hd⟩ := g_bind hd
    refine v_cS (dy := 0) (st := []) (st2 := [.int zr24]) (h2 := (h_M u w)) [] dX7_cooks_163 mz_X7_219 (m_P_bitsOf x6 zh25) rfl rfl rfl rfl rfl rfl (by decide) (by decide) rfl rfl rfl ?_
    refine v_goto (tgt := 171) dX7_cooks_166 (by decide) ?_
    refine v_loc [1, 2, 3, 4, 0, 6] rfl ?_
    exact v_M_cooks_171 w k79 (hk79) u x1 x2 x3 s0 x6 zr24 hd

def d_M_cooks_140 (k79 : (Nat → Nat → Int32) → Int32 → Int32 → Int32 → Int32 → Int32 → Int32 → Option (Int32 × (Nat → Nat → Int32))) (u : (Nat → Nat → Int32)) (x1 : Int32) (x2 : Int32) (x3 : Int32) (x4 : Int32) (x5 : Int32) (x6 : Int32) (s0 : Int32) : Option (Int32 × (Nat → Nat → Int32)) := if s0 = 0 then (d_M_cooks_154 k79 u x1 x2 x3 x4 x6 s0 x5) else (d_M_cooks_154 k79 u x1 x2 x3 x4 x6 s0 x6)
set_option maxRecDepth 100000 in
set_option maxHeartbeats 4000000 in
theorem v_M_cooks_140 (w : Nat → Int64) {r : Int32 × (Nat → Nat → Int32)} (k79 : (Nat → Nat → Int32) → Int32 → Int32 → Int32 → Int32 → Int32 → Int32 → Option (Int32 × (Nat → Nat → Int32))) (hk79 : ∀ (u : (Nat → Nat → Int32)) (x1 : Int32) (x2 : Int32) (x3 : Int32) (x4 : Int32) (x5 : Int32) (x6 : Int32), k79 u x1 x2 x3 x4 x5 x6 = some r → Vd RX7 "cooks" cX7_cooks 8 (some .int) (rm 5) (ab_eq (some (.int r.1)) (h_M r.2 w)) 0 0 0 0 79 [(0, .ref 0), (1, .int x1), (2, .int x2), (3, .int x3), (4, .int x4), (5, .int x5), (6, .int x6)] [] (h_M u w)) (u : (Nat → Nat → Int32)) (x1 : Int32) (x2 : Int32) (x3 : Int32) (x4 : Int32) (x5 : Int32) (x6 : Int32) (s0 : Int32) (hd : d_M_cooks_140 k79 u x1 x2 x3 x4 x5 x6 s0 = some r) : Vd RX7 "cooks" cX7_cooks 8 (some .int) (rm 5) (ab_eq (some (.int r.1)) (h_M r.2 w)) 0 0 0 0 140 [(0, .ref 0), (1, .int x1), (2, .int x2), (3, .int x3), (4, .int x4), (5, .int x5), (6, .int x6)] [.int s0] (h_M u w) := by
  unfold d_M_cooks_140 at hd
  refine v_istore (i := 7) (L2 := [(7, .int s0), (0, .ref 0), (1, .int x1), (2, .int x2), (3, .int x3), (4, .int x4), (5, .int x5), (6, .int x6)]) dX7_cooks_140 (Nat.le_of_ble_eq_true rfl) rfl ?_
  refine v_iload dX7_cooks_142 rfl ?_
  refine v_if_eq (tgt := 152) dX7_cooks_144 (by decide) (fun zc22 => ?_) (fun zc22 => ?_)
  · have hd := g_t hd zc22
    refine v_iload dX7_cooks_152 rfl ?_
    refine v_loc [1, 2, 3, 4, 5, 7, 0] rfl ?_
    exact v_M_cooks_154 w k79 (hk79) u x1 x2 x3 x4 x6 s0 x5 hd
  · have hd := g_f hd zc22
    refine v_iload dX7_cooks_147 rfl ?_
    refine v_goto (tgt := 154) dX7_cooks_149 (by decide) ?_
    refine v_loc [1, 2, 3, 4, 5, 7, 0] rfl ?_
    exact v_M_cooks_154 w k79 (hk79) u x1 x2 x3 x4 x6 s0 x6 hd

def d_M_cooks_79  : Nat → (Nat → Nat → Int32) → Int32 → Int32 → Int32 → Int32 → Int32 → Int32 → Option (Int32 × (Nat → Nat → Int32))
  | 0, _, _, _, _, _, _, _ => none
  | f + 1, u, x1, x2, x3, x4, x5, x6 => if ((1 : Int32) <<< ((u 0 3) &&& 31)) ≤ x6 then (if x5 = (-4 : Int32) then (some ((-4 : Int32), u)) else (if x2 = 0 then (some (x4, u)) else (some (x5, u)))) else (if (x6 &&& x3) = 0 then ((d_P_bitsOf x6).bind fun zr14 => if x4 ≤ zr14 then (d_M_cooks_173 (d_M_cooks_79 f) u x1 x2 x3 x4 x5 x6) else ((d_M_startsWithCooks u x6).bind fun zr17 => (d_M_nightsGo zr17 x1).bind fun zr19 => if ((zr19 2) (20 : Int32).toNatClampNeg) = ((zr19 1) (20 : Int32).toNatClampNeg) then (d_M_cooks_140 (d_M_cooks_79 f) zr19 x1 x2 x3 x4 x5 x6 (1 : Int32)) else (d_M_cooks_140 (d_M_cooks_79 f) zr19 x1 x2 x3 x4 x5 x6 (0 : Int32)))) else (d_M_cooks_173 (d_M_cooks_79 f) u x1 x2 x3 x4 x5 x6))
set_option maxRecDepth 100000 in
set_option maxHeartbeats 4000000 in
theorem v_M_cooks_79 (w : Nat → Int64) {r : Int32 × (Nat → Nat → Int32)}  : ∀ (f : Nat) (u : (Nat → Nat → Int32)) (x1 : Int32) (x2 : Int32) (x3 : Int32) (x4 : Int32) (x5 : Int32) (x6 : Int32), d_M_cooks_79  f u x1 x2 x3 x4 x5 x6 = some r → Vd RX7 "cooks" cX7_cooks 8 (some .int) (rm 5) (ab_eq (some (.int r.1)) (h_M r.2 w)) 0 0 0 0 79 [(0, .ref 0), (1, .int x1), (2, .int x2), (3, .int x3), (4, .int x4), (5, .int x5), (6, .int x6)] [] (h_M u w) := by
  intro f
  induction f with
  | zero =>
    intro u x1 x2 x3 x4 x5 x6 hd
    rw [d_M_cooks_79] at hd
    cases hd
  | succ f ih =>
    intro u x1 x2 x3 x4 x5 x6 hd
    rw [d_M_cooks_79] at hd
    refine v_iload dX7_cooks_79 rfl ?_
    refine v_iconst dX7_cooks_81 ic_1 ?_
    refine v_aload_n dX7_cooks_82 rfl ?_
    refine v_get (v := .int (u 0 3)) dX7_cooks_83 fl_X7_67 rfl rfl ?_
    refine v_ishl dX7_cooks_86 ?_
    refine v_icmp_ge (tgt := 179) dX7_cooks_87 (by decide) (fun zc8 => ?_) (fun zc8 => ?_)
    · have hd := g_t hd zc8
      refine v_iload dX7_cooks_179 rfl ?_
      refine v_bipush dX7_cooks_181 bp_m4 ?_
      refine v_icmp_ne (tgt := 191) dX7_cooks_183 (by decide) (fun zc9 => ?_) (fun zc9 => ?_)
      · have hd := g_f hd zc9
        refine v_iload_n dX7_cooks_191 rfl ?_
        refine v_if_ne (tgt := 200) dX7_cooks_192 (by decide) (fun zc10 => ?_) (fun zc10 => ?_)
        · have hd := g_f hd zc10
          refine v_iload dX7_cooks_200 rfl ?_
          obtain rfl := Option.some.inj hd
          exact v_iretE dX7_cooks_202 rfl rfl rfl rfl
        · have hd := g_t hd zc10
          refine v_iload dX7_cooks_195 rfl ?_
          refine v_goto (tgt := 202) dX7_cooks_197 (by decide) ?_
          obtain rfl := Option.some.inj hd
          exact v_iretE dX7_cooks_202 rfl rfl rfl rfl
      · have hd := g_t hd zc9
        refine v_bipush dX7_cooks_186 bp_m4 ?_
        refine v_goto (tgt := 202) dX7_cooks_188 (by decide) ?_
        obtain rfl := Option.some.inj hd
        exact v_iretE dX7_cooks_202 rfl rfl rfl rfl
    · have hd := g_f hd zc8
      refine v_iload dX7_cooks_90 rfl ?_
      refine v_iload_n dX7_cooks_92 rfl ?_
      refine v_iand dX7_cooks_93 ?_
      refine v_if_ne (tgt := 173) dX7_cooks_94 (by decide) (fun zc11 => ?_) (fun zc11 => ?_)
      · have hd := g_f hd zc11
        exact v_M_cooks_173 w (d_M_cooks_79 f) (ih) u x1 x2 x3 x4 x5 x6 hd
      · have hd := g_t hd zc11
        refine v_iload dX7_cooks_97 rfl ?_
        obtain ⟨zr14, zh15, hd⟩ := g_bind hd
        refine v_cS (dy := 0) (st := []) (st2 := [.int zr14]) (h2 := (h_M u w)) [] dX7_cooks_99 mz_X7_219 (m_P_bitsOf x6 zh15) rfl rfl rfl rfl rfl rfl (by decide) (by decide) rfl rfl rfl ?_
        refine v_iload dX7_cooks_102 rfl ?_
        refine v_icmp_ge (tgt := 173) dX7_cooks_104 (by decide) (fun zc16 => ?_) (fun zc16 => ?_)
        · have hd := g_t hd zc16
          exact v_M_cooks_173 w (d_M_cooks_79 f) (ih) u x1 x2 x3 x4 x5 x6 hd
        · have hd := g_f hd zc16
          refine v_aload_n dX7_cooks_107 rfl ?_
          refine v_iload dX7_cooks_108 rfl ?_
          obtain ⟨zr17, zh18, hd⟩ := g_bind hd
          refine v_cI (dy := 1) (st := []) (st2 := []) dX7_cooks_110 mv_X7_222 (m_M_startsWithCooks u x6 w zh18) rfl rfl rfl rfl rfl (by decide) (by decide) rfl rfl ?_
          refine v_aload_n dX7_cooks_113 rfl ?_
          refine v_iload_n dX7_cooks_114 rfl ?_
          obtain ⟨zr19, zh20, hd⟩ := g_bind hd
          refine v_cI (dy := 4) (st := []) (st2 := []) dX7_cooks_115 mv_X7_167 (m_M_nightsGo zr17 x1 w zh20) rfl rfl rfl rfl rfl (by decide) (by decide) rfl rfl ?_
          refine v_aload_n dX7_cooks_118 rfl ?_
          refine v_get (v := .ref 2) dX7_cooks_119 fl_X7_13 rfl rfl ?_
          refine v_bipush dX7_cooks_122 bp_20 ?_
          refine v_iald (f := (zr19 2)) dX7_cooks_124 rfl gl_20_41 ?_
          refine v_aload_n dX7_cooks_125 rfl ?_
          refine v_get (v := .ref 1) dX7_cooks_126 fl_X7_7 rfl rfl ?_
          refine v_bipush dX7_cooks_129 bp_20 ?_
          refine v_iald (f := (zr19 1)) dX7_cooks_131 rfl gl_20_123 ?_
          refine v_icmp_ne (tgt := 139) dX7_cooks_132 (by decide) (fun zc21 => ?_) (fun zc21 => ?_)
          · have hd := g_f hd zc21
            refine v_iconst dX7_cooks_139 ic_0 ?_
            exact v_M_cooks_140 w (d_M_cooks_79 f) (ih) zr19 x1 x2 x3 x4 x5 x6 (0 : Int32) hd
          · have hd := g_t hd zc21
            refine v_iconst dX7_cooks_135 ic_1 ?_
            refine v_goto (tgt := 140) dX7_cooks_136 (by decide) ?_
            exact v_M_cooks_140 w (d_M_cooks_79 f) (ih) zr19 x1 x2 x3 x4 x5 x6 (1 : Int32) hd

def d_M_cooks_54 (k26 : (Nat → Nat → Int32) → Int32 → Int32 → Int32 → Int32 → Option (Int32 × (Nat → Nat → Int32))) (u : (Nat → Nat → Int32)) (x1 : Int32) (x2 : Int32) (x4 : Int32) (s0 : Int32) (s1 : Int32) : Option (Int32 × (Nat → Nat → Int32)) := (d_P_flag s1).bind fun zr28 => dl (s0 ||| (zr28 <<< (x4 &&& 31))) fun zy30 => dl (x4 + (1 : Int32)) fun zy32 => k26 u x1 x2 zy30 zy32
set_option maxRecDepth 100000 in
set_option maxHeartbeats 4000000 in
theorem v_M_cooks_54 (w : Nat → Int64) {r : Int32 × (Nat → Nat → Int32)} (k26 : (Nat → Nat → Int32) → Int32 → Int32 → Int32 → Int32 → Option (Int32 × (Nat → Nat → Int32))) (hk26 : ∀ (u : (Nat → Nat → Int32)) (x1 : Int32) (x2 : Int32) (x3 : Int32) (x4 : Int32), k26 u x1 x2 x3 x4 = some r → Vd RX7 "cooks" cX7_cooks 8 (some .int) (rm 5) (ab_eq (some (.int r.1)) (h_M r.2 w)) 0 0 0 0 26 [(0, .ref 0), (1, .int x1), (2, .int x2), (3, .int x3), (4, .int x4)] [] (h_M u w)) (u : (Nat → Nat → Int32)) (x1 : Int32) (x2 : Int32) (x4 : Int32) (s0 : Int32) (s1 : Int32) (hd : d_M_cooks_54 k26 u x1 x2 x4 s0 s1 = some r) : Vd RX7 "cooks" cX7_cooks 8 (some .int) (rm 5) (ab_eq (some (.int r.1)) (h_M r.2 w)) 0 0 0 0 54 [(0, .ref 0), (1, .int x1), (2, .int x2), (4, .int x4)] [.int s1, .int s0] (h_M u w) := by
  unfold d_M_cooks_54 at hd
  obtain ⟨zr28, zh29, hd⟩ := g_bind hd
  refine v_cS (dy := 0) (st := [.int s0]) (st2 := [.int zr28, .int s0]) (h2 := (h_M u w)) [] dX7_cooks_54 mz_X7_215 (m_P_flag s1 zh29) rfl rfl rfl rfl rfl rfl (by decide) (by decide) rfl rfl rfl ?_
  refine v_iload dX7_cooks_57 rfl ?_
  refine v_ishl dX7_cooks_59 ?_
  refine v_ior dX7_cooks_60 ?_
  refine v_topi (fun zy30 ze31 => ?_)
  have hd := dl_n hd zy30 ze31
  refine v_istore_n (i := 3) (L2 := [(3, .int zy30), (0, .ref 0), (1, .int x1), (2, .int x2), (4, .int x4)]) dX7_cooks_61 rfl (Nat.le_of_ble_eq_true rfl) rfl ?_
  obtain ⟨zy32, ze33⟩ : ∃ z : Int32, z = (x4 + (1 : Int32)) := ⟨_, rfl⟩
  have hd := dl_n hd zy32 ze33
  refine v_iinc (v := zy32) (L2 := [(4, .int zy32), (3, .int zy30), (0, .ref 0), (1, .int x1), (2, .int x2)]) dX7_cooks_62 rfl (by rw [ic_1]; exact ze33.symm) (Nat.le_of_ble_eq_true rfl) rfl ?_
  refine v_goto (tgt := 26) dX7_cooks_65 (by decide) ?_
  refine v_loc [2, 3, 4, 1, 0] rfl ?_
  exact hk26 u x1 x2 zy30 zy32 hd

def d_M_cooks_26  : Nat → (Nat → Nat → Int32) → Int32 → Int32 → Int32 → Int32 → Option (Int32 × (Nat → Nat → Int32))
  | 0, _, _, _, _, _ => none
  | f + 1, u, x1, x2, x3, x4 => if (u 0 3) ≤ x4 then (d_M_cooks_79 FU u x1 x2 x3 (1000000 : Int32) (-4 : Int32) (0 : Int32)) else (if gi ((0 : Int32) + x4) 123 = true then if ((u 1) ((0 : Int32) + x4).toNatClampNeg) = (3 : Int32) then (d_M_cooks_54 (d_M_cooks_26 f) u x1 x2 x4 x3 (1 : Int32)) else (d_M_cooks_54 (d_M_cooks_26 f) u x1 x2 x4 x3 (0 : Int32)) else none)
set_option maxRecDepth 100000 in
set_option maxHeartbeats 4000000 in
theorem v_M_cooks_26 (w : Nat → Int64) {r : Int32 × (Nat → Nat → Int32)}  : ∀ (f : Nat) (u : (Nat → Nat → Int32)) (x1 : Int32) (x2 : Int32) (x3 : Int32) (x4 : Int32), d_M_cooks_26  f u x1 x2 x3 x4 = some r → Vd RX7 "cooks" cX7_cooks 8 (some .int) (rm 5) (ab_eq (some (.int r.1)) (h_M r.2 w)) 0 0 0 0 26 [(0, .ref 0), (1, .int x1), (2, .int x2), (3, .int x3), (4, .int x4)] [] (h_M u w) := by
  intro f
  induction f with
  | zero =>
    intro u x1 x2 x3 x4 hd
    rw [d_M_cooks_26] at hd
    cases hd
  | succ f ih =>
    intro u x1 x2 x3 x4 hd
    rw [d_M_cooks_26] at hd
    refine v_iload dX7_cooks_26 rfl ?_
    refine v_aload_n dX7_cooks_28 rfl ?_
    refine v_get (v := .int (u 0 3)) dX7_cooks_29 fl_X7_67 rfl rfl ?_
    refine v_icmp_ge (tgt := 68) dX7_cooks_32 (by decide) (fun zc7 => ?_) (fun zc7 => ?_)
    · have hd := g_t hd zc7
      refine v_ldc dX7_cooks_68 kc_X7_205 ?_
      refine v_istore (i := 4) (L2 := [(4, .int (1000000 : Int32)), (0, .ref 0), (1, .int x1), (2, .int x2), (3, .int x3)]) dX7_cooks_70 (Nat.le_of_ble_eq_true rfl) rfl ?_
      refine v_bipush dX7_cooks_72 bp_m4 ?_
      refine v_istore (i := 5) (L2 := [(5, .int (-4 : Int32)), (4, .int (1000000 : Int32)), (0, .ref 0), (1, .int x1), (2, .int x2), (3, .int x3)]) dX7_cooks_74 (Nat.le_of_ble_eq_true rfl) rfl ?_
      refine v_iconst dX7_cooks_76 ic_0 ?_
      refine v_istore (i := 6) (L2 := [(6, .int (0 : Int32)), (5, .int (-4 : Int32)), (4, .int (1000000 : Int32)), (0, .ref 0), (1, .int x1), (2, .int x2), (3, .int x3)]) dX7_cooks_77 (Nat.le_of_ble_eq_true rfl) rfl ?_
      refine v_loc [3, 4, 5, 6, 2, 1, 0] rfl ?_
      exact v_M_cooks_79 w FU u x1 x2 x3 (1000000 : Int32) (-4 : Int32) (0 : Int32) hd
    · have hd := g_f hd zc7
      refine v_iload_n dX7_cooks_35 rfl ?_
      refine v_aload_n dX7_cooks_36 rfl ?_
      refine v_get (v := .ref 1) dX7_cooks_37 fl_X7_7 rfl rfl ?_
      refine v_iconst dX7_cooks_40 ic_0 ?_
      refine v_iload dX7_cooks_41 rfl ?_
      refine v_iadd dX7_cooks_43 ?_
      obtain ⟨zg26, hd⟩ := g_b hd
      refine v_iald (f := (u 1)) dX7_cooks_44 rfl (gi_in zg26) ?_
      refine v_iconst dX7_cooks_45 ic_3 ?_
      refine v_icmp_ne (tgt := 53) dX7_cooks_46 (by decide) (fun zc27 => ?_) (fun zc27 => ?_)
      · have hd := g_f hd zc27
        refine v_iconst dX7_cooks_53 ic_0 ?_
        refine v_loc [0, 1, 2, 4] rfl ?_
        exact v_M_cooks_54 w (d_M_cooks_26 f) (ih) u x1 x2 x4 x3 (0 : Int32) hd
      · have hd := g_t hd zc27
        refine v_iconst dX7_cooks_49 ic_1 ?_
        refine v_goto (tgt := 54) dX7_cooks_50 (by decide) ?_
        refine v_loc [0, 1, 2, 4] rfl ?_
        exact v_M_cooks_54 w (d_M_cooks_26 f) (ih) u x1 x2 x4 x3 (1 : Int32) hd
def d_M_cooks (u : (Nat → Nat → Int32)) (a1 : Int32) (a2 : Int32) : Option (Int32 × (Nat → Nat → Int32)) := (d_P_in a1.toInt64 (0 : Int64) (20 : Int64)).bind fun zr1 => if zr1 = 0 then (some ((-1 : Int32), u)) else ((d_P_isPart a2).bind fun zr4 => if zr4 = 0 then (some ((-1 : Int32), u)) else (d_M_cooks_26 FU u a1 a2 (0 : Int32) (0 : Int32)))
set_option maxRecDepth 100000 in
set_option maxHeartbeats 4000000 in
theorem v_M_cooks (u : (Nat → Nat → Int32)) (a1 : Int32) (a2 : Int32) (w : Nat → Int64) {r : Int32 × (Nat → Nat → Int32)} (hd : d_M_cooks u a1 a2 = some r) : Vd RX7 "cooks" cX7_cooks 8 (some .int) (rm 5) (ab_eq (some (.int r.1)) (h_M r.2 w)) 0 0 0 0 0 [(0, .ref 0), (1, .int a1), (2, .int a2)] [] (h_M u w) := by
  unfold d_M_cooks at hd
  refine v_iload_n dX7_cooks_0 rfl ?_
  refine v_i2l dX7_cooks_1 ?_
  refine v_lconst (v := 0) dX7_cooks_2 rfl ?_
  refine v_ldc2 dX7_cooks_3 kc_X7_192 ?_
  obtain ⟨zr1, zh2, hd⟩ := g_bind hd
  refine v_cS (dy := 0) (st := []) (st2 := [.int zr1]) (h2 := (h_M u w)) [] dX7_cooks_6 mz_X7_72 (m_P_in a1.toInt64 (0 : Int64) (20 : Int64) zh2) rfl rfl rfl rfl rfl rfl (by decide) (by decide) rfl rfl rfl ?_
  refine v_if_eq (tgt := 19) dX7_cooks_9 (by decide) (fun zc3 => ?_) (fun zc3 => ?_)
  · have hd := g_t hd zc3
    refine v_iconst dX7_cooks_19 ic_m1 ?_
    obtain rfl := Option.some.inj hd
    exact v_iretE dX7_cooks_20 rfl rfl rfl rfl
  · have hd := g_f hd zc3
    refine v_iload_n dX7_cooks_12 rfl ?_
    obtain ⟨zr4, zh5, hd⟩ := g_bind hd
    refine v_cS (dy := 1) (st := []) (st2 := [.int zr4]) (h2 := (h_M u w)) [] dX7_cooks_13 mz_X7_182 (m_P_isPart a2 zh5) rfl rfl rfl rfl rfl rfl (by decide) (by decide) rfl rfl rfl ?_
    refine v_if_ne (tgt := 21) dX7_cooks_16 (by decide) (fun zc6 => ?_) (fun zc6 => ?_)
    · have hd := g_f hd zc6
      refine v_iconst dX7_cooks_21 ic_0 ?_
      refine v_istore_n (i := 3) (L2 := [(3, .int (0 : Int32)), (0, .ref 0), (1, .int a1), (2, .int a2)]) dX7_cooks_22 rfl (Nat.le_of_ble_eq_true rfl) rfl ?_
      refine v_iconst dX7_cooks_23 ic_0 ?_
      refine v_istore (i := 4) (L2 := [(4, .int (0 : Int32)), (3, .int (0 : Int32)), (0, .ref 0), (1, .int a1), (2, .int a2)]) dX7_cooks_24 (Nat.le_of_ble_eq_true rfl) rfl ?_
      refine v_loc [2, 3, 4, 1, 0] rfl ?_
      exact v_M_cooks_26 w FU u a1 a2 (0 : Int32) (0 : Int32) hd
    · have hd := g_t hd zc6
      refine v_iconst dX7_cooks_19 ic_m1 ?_
      obtain rfl := Option.some.inj hd
      exact v_iretE dX7_cooks_20 rfl rfl rfl rfl
theorem m_M_cooks (u : (Nat → Nat → Int32)) (a1 : Int32) (a2 : Int32) (w : Nat → Int64) {r : Int32 × (Nat → Nat → Int32)} (hd : d_M_cooks u a1 a2 = some r) : Mt yX7_cooks cX7_cooks 8 (some .int) (rm 5) [.ref 0, .int a1, .int a2] (h_M u w) (ab_eq (some (.int r.1)) (h_M r.2 w)) := Mt.of (by decide +kernel) (fun _ _ _ => trivial) (Nat.le_of_ble_eq_true rfl) (v_M_cooks u a1 a2 w hd)

def d_M_appease_131 (k24 : (Nat → Nat → Int32) → Int32 → Int32 → Int32 → Option (Int32 × (Nat → Nat → Int32))) (k58 : (Nat → Nat → Int32) → Int32 → Int32 → Int32 → Int32 → Int32 → Option (Int32 × (Nat → Nat → Int32))) (u : (Nat → Nat → Int32)) (x1 : Int32) (x2 : Int32) (x3 : Int32) (x5 : Int32) (s0 : Int32) (s1 : Int32) (s2 : Int32) : Option (Int32 × (Nat → Nat → Int32)) := dl (s0 + (s1 - s2)) fun zy29 => dl (x5 + (1 : Int32)) fun zy31 => k58 u x1 x2 x3 zy29 zy31
set_option maxRecDepth 100000 in
set_option maxHeartbeats 4000000 in
theorem v_M_appease_131 (w : Nat → Int64) {r : Int32 × (Nat → Nat → Int32)} (k24 : (Nat → Nat → Int32) → Int32 → Int32 → Int32 → Option (Int32 × (Nat → Nat → Int32))) (hk24 : ∀ (u : (Nat → Nat → Int32)) (x1 : Int32) (x2 : Int32) (x3 : Int32), k24 u x1 x2 x3 = some r → Vd RX7 "appease" cX7_appease 9 (some .int) (rm 4) (ab_eq (some (.int r.1)) (h_M r.2 w)) 0 0 0 0 24 [(0, .ref 0), (1, .int x1), (2, .int x2), (3, .int x3)] [] (h_M u w)) (k58 : (Nat → Nat → Int32) → Int32 → Int32 → Int32 → Int32 → Int32 → Option (Int32 × (Nat → Nat → Int32))) (hk58 : ∀ (u : (Nat → Nat → Int32)) (x1 : Int32) (x2 : Int32) (x3 : Int32) (x4 : Int32) (x5 : Int32), k58 u x1 x2 x3 x4 x5 = some r → Vd RX7 "appease" cX7_appease 9 (some .int) (rm 4) (ab_eq (some (.int r.1)) (h_M r.2 w)) 0 0 0 0 58 [(0, .ref 0), (1, .int x1), (2, .int x2), (3, .int x3), (4, .int x4), (5, .int x5)] [] (h_M u w)) (u : (Nat → Nat → Int32)) (x1 : Int32) (x2 : Int32) (x3 : Int32) (x5 : Int32) (s0 : Int32) (s1 : Int32) (s2 : Int32) (hd : d_M_appease_131 k24 k58 u x1 x2 x3 x5 s0 s1 s2 = some r) : Vd RX7 "appease" cX7_appease 9 (some .int) (rm 4) (ab_eq (some (.int r.1)) (h_M r.2 w)) 0 0 0 0 131 [(0, .ref 0), (1, .int x1), (2, .int x2), (3, .int x3), (5, .int x5)] [.int s2, .int s1, .int s0] (h_M u w) := by
  unfold d_M_appease_131 at hd
  refine v_isub dX7_appease_131 ?_
  refine v_iadd dX7_appease_132 ?_
  refine v_topi (fun zy29 ze30 => ?_)
  have hd := dl_n hd zy29 ze30
  refine v_istore (i := 4) (L2 := [(4, .int zy29), (0, .ref 0), (1, .int x1), (2, .int x2), (3, .int x3), (5, .int x5)]) dX7_appease_133 (Nat.le_of_ble_eq_true rfl) rfl ?_
  obtain ⟨zy31, ze32⟩ : ∃ z : Int32, z = (x5 + (1 : Int32)) := ⟨_, rfl⟩
  have hd := dl_n hd zy31 ze32
  refine v_iinc (v := zy31) (L2 := [(5, .int zy31), (4, .int zy29), (0, .ref 0), (1, .int x1), (2, .int x2), (3, .int x3)]) dX7_appease_135 rfl (by rw [ic_1]; exact ze32.symm) (Nat.le_of_ble_eq_true rfl) rfl ?_
  refine v_goto (tgt := 58) dX7_appease_138 (by decide) ?_
  refine v_loc [2, 3, 4, 5, 1, 0] rfl ?_
  exact hk58 u x1 x2 x3 zy29 zy31 hd

def d_M_appease_58 (k24 : (Nat → Nat → Int32) → Int32 → Int32 → Int32 → Option (Int32 × (Nat → Nat → Int32))) : Nat → (Nat → Nat → Int32) → Int32 → Int32 → Int32 → Int32 → Int32 → Option (Int32 × (Nat → Nat → Int32))
  | 0, _, _, _, _, _, _ => none
  | f + 1, u, x1, x2, x3, x4, x5 => if x2 ≤ x5 then (if x4 = 0 then (some (x3, u)) else (dl (x3 + (1 : Int32)) fun zy16 => k24 u x1 x2 zy16)) else (if gi ((10 : Int32) + x1) 41 = true then dl ((u 2) ((10 : Int32) + x1).toNatClampNeg) fun zy19 => dl ((u 2) (21 : Int32).toNatClampNeg) fun zy21 => dl ((u 2) (15 : Int32).toNatClampNeg) fun zy23 => (d_M_nightGoes u).bind fun zr25 => if gi ((10 : Int32) + x1) 41 = true then if zy23 = x1 then (d_M_appease_131 k24 (d_M_appease_58 k24 f) zr25 x1 x2 x3 x5 x4 (((zr25 2) ((10 : Int32) + x1).toNatClampNeg) - zy19) (((zr25 2) (21 : Int32).toNatClampNeg) - zy21)) else (d_M_appease_131 k24 (d_M_appease_58 k24 f) zr25 x1 x2 x3 x5 x4 (((zr25 2) ((10 : Int32) + x1).toNatClampNeg) - zy19) (0 : Int32)) else none else none)
set_option maxRecDepth 100000 in
set_option maxHeartbeats 4000000 in
theorem v_M_appease_58 (w : Nat → Int64) {r : Int32 × (Nat → Nat → Int32)} (k24 : (Nat → Nat → Int32) → Int32 → Int32 → Int32 → Option (Int32 × (Nat → Nat → Int32))) (hk24 : ∀ (u : (Nat → Nat → Int32)) (x1 : Int32) (x2 : Int32) (x3 : Int32), k24 u x1 x2 x3 = some r → Vd RX7 "appease" cX7_appease 9 (some .int) (rm 4) (ab_eq (some (.int r.1)) (h_M r.2 w)) 0 0 0 0 24 [(0, .ref 0), (1, .int x1), (2, .int x2), (3, .int x3)] [] (h_M u w)) : ∀ (f : Nat) (u : (Nat → Nat → Int32)) (x1 : Int32) (x2 : Int32) (x3 : Int32) (x4 : Int32) (x5 : Int32), d_M_appease_58 k24 f u x1 x2 x3 x4 x5 = some r → Vd RX7 "appease" cX7_appease 9 (some .int) (rm 4) (ab_eq (some (.int r.1)) (h_M r.2 w)) 0 0 0 0 58 [(0, .ref 0), (1, .int x1), (2, .int x2), (3, .int x3), (4, .int x4), (5, .int x5)] [] (h_M u w) := by
  intro f
  induction f with
  | zero =>
    intro u x1 x2 x3 x4 x5 hd
    rw [d_M_appease_58] at hd
    cases hd
  | succ f ih =>
    intro u x1 x2 x3 x4 x5 hd
    rw [d_M_appease_58] at hd
    refine v_iload dX7_appease_58 rfl ?_
    refine v_iload_n dX7_appease_60 rfl ?_
    refine v_icmp_ge (tgt := 141) dX7_appease_61 (by decide) (fun zc14 => ?_) (fun zc14 => ?_)
    · have hd := g_t hd zc14
      refine v_iload dX7_appease_141 rfl ?_
      refine v_if_ne (tgt := 148) dX7_appease_143 (by decide) (fun zc15 => ?_) (fun zc15 => ?_)
      · have hd := g_f hd zc15
        obtain ⟨zy16, ze17⟩ : ∃ z : Int32, z = (x3 + (1 : Int32)) := ⟨_, rfl⟩
        have hd := dl_n hd zy16 ze17
        refine v_iinc (v := zy16) (L2 := [(3, .int zy16), (0, .ref 0), (1, .int x1), (2, .int x2), (4, .int x4), (5, .int x5)]) dX7_appease_148 rfl (by rw [ic_1]; exact ze17.symm) (Nat.le_of_ble_eq_true rfl) rfl ?_
        refine v_goto (tgt := 24) dX7_appease_151 (by decide) ?_
        refine v_loc [1, 2, 3, 0] rfl ?_
        exact hk24 u x1 x2 zy16 hd
      · have hd := g_t hd zc15
        refine v_iload_n dX7_appease_146 rfl ?_
        obtain rfl := Option.some.inj hd
        exact v_iretE dX7_appease_147 rfl rfl rfl rfl
    · have hd := g_f hd zc14
      refine v_aload_n dX7_appease_64 rfl ?_
      refine v_get (v := .ref 2) dX7_appease_65 fl_X7_13 rfl rfl ?_
      refine v_bipush dX7_appease_68 bp_10 ?_
      refine v_iload_n dX7_appease_70 rfl ?_
      refine v_iadd dX7_appease_71 ?_
      obtain ⟨zg18, hd⟩ := g_b hd
      refine v_iald (f := (u 2)) dX7_appease_72 rfl (gi_in zg18) ?_
      refine v_topi (fun zy19 ze20 => ?_)
      have hd := dl_n hd zy19 ze20
      refine v_istore (i := 6) (L2 := [(6, .int zy19), (0, .ref 0), (1, .int x1), (2, .int x2), (3, .int x3), (4, .int x4), (5, .int x5)]) dX7_appease_73 (Nat.le_of_ble_eq_true rfl) rfl ?_
      refine v_aload_n dX7_appease_75 rfl ?_
      refine v_get (v := .ref 2) dX7_appease_76 fl_X7_13 rfl rfl ?_
      refine v_bipush dX7_appease_79 bp_21 ?_
      refine v_iald (f := (u 2)) dX7_appease_81 rfl gl_21_41 ?_
      refine v_topi (fun zy21 ze22 => ?_)
      have hd := dl_n hd zy21 ze22
      refine v_istore (i := 7) (L2 := [(7, .int zy21), (6, .int zy19), (0, .ref 0), (1, .int x1), (2, .int x2), (3, .int x3), (4, .int x4), (5, .int x5)]) dX7_appease_82 (Nat.le_of_ble_eq_true rfl) rfl ?_
      refine v_aload_n dX7_appease_84 rfl ?_
      refine v_get (v := .ref 2) dX7_appease_85 fl_X7_13 rfl rfl ?_
      refine v_bipush dX7_appease_88 bp_15 ?_
      refine v_iald (f := (u 2)) dX7_appease_90 rfl gl_15_41 ?_
      refine v_topi (fun zy23 ze24 => ?_)
      have hd := dl_n hd zy23 ze24
      refine v_istore (i := 8) (L2 := [(8, .int zy23), (7, .int zy21), (6, .int zy19), (0, .ref 0), (1, .int x1), (2, .int x2), (3, .int x3), (4, .int x4), (5, .int x5)]) dX7_appease_91 (Nat.le_of_ble_eq_true rfl) rfl ?_
      refine v_aload_n dX7_appease_93 rfl ?_
      obtain ⟨zr25, zh26, hd⟩ := g_bind hd
      refine v_cI (dy := 3) (st := []) (st2 := []) dX7_appease_94 mv_X7_164 (m_M_nightGoes u w zh26) rfl rfl rfl rfl rfl (by decide) (by decide) rfl rfl ?_
      refine v_iload dX7_appease_97 rfl ?_
      refine v_aload_n dX7_appease_99 rfl ?_
      refine v_get (v := .ref 2) dX7_appease_100 fl_X7_13 rfl rfl ?_
      refine v_bipush dX7_appease_103 bp_10 ?_
      refine v_iload_n dX7_appease_105 rfl ?_
      refine v_iadd dX7_appease_106 ?_
      obtain ⟨zg27, hd⟩ := g_b hd
      refine v_iald (f := (zr25 2)) dX7_appease_107 rfl (gi_in zg27) ?_
      refine v_iload dX7_appease_108 rfl ?_
      refine v_isub dX7_appease_110 ?_
      refine v_iload dX7_appease_111 rfl ?_
      refine v_iload_n dX7_appease_113 rfl ?_
      refine v_icmp_ne (tgt := 130) dX7_appease_114 (by decide) (fun zc28 => ?_) (fun zc28 => ?_)
      · have hd := g_f hd zc28
        refine v_iconst dX7_appease_130 ic_0 ?_
        refine v_loc [3, 4, 5, 6, 8] rfl ?_
        exact v_M_appease_131 w k24 (hk24) (d_M_appease_58 k24 f) (ih) zr25 x1 x2 x3 x5 x4 (((zr25 2) ((10 : Int32) + x1).toNatClampNeg) - zy19) (0 : Int32) hd
      · have hd := g_t hd zc28
        refine v_aload_n dX7_appease_117 rfl ?_
        refine v_get (v := .ref 2) dX7_appease_118 fl_X7_13 rfl rfl ?_
        refine v_bipush dX7_appease_121 bp_21 ?_
        refine v_iald (f := (zr25 2)) dX7_appease_123 rfl gl_21_41 ?_
        refine v_iload dX7_appease_124 rfl ?_
        refine v_isub dX7_appease_126 ?_
        refine v_goto (tgt := 131) dX7_appease_127 (by decide) ?_
        refine v_loc [3, 4, 5, 6, 8] rfl ?_
        exact v_M_appease_131 w k24 (hk24) (d_M_appease_58 k24 f) (ih) zr25 x1 x2 x3 x5 x4 (((zr25 2) ((10 : Int32) + x1).toNatClampNeg) - zy19) (((zr25 2) (21 : Int32).toNatClampNeg) - zy21) hd

def d_M_appease_24  : Nat → (Nat → Nat → Int32) → Int32 → Int32 → Int32 → Option (Int32 × (Nat → Nat → Int32))
  | 0, _, _, _, _ => none
  | f + 1, u, x1, x2, x3 => if (20 : Int32) < x3 then (some ((-4 : Int32), u)) else (if gi ((5 : Int32) + x1) 123 = true then if ((u 1) ((5 : Int32) + x1).toNatClampNeg) < x3 then (some ((-4 : Int32), u)) else ((d_M_starts u).bind fun zr10 => (d_M_gives zr10 x1 x3).bind fun zr12 => d_M_appease_58 (d_M_appease_24 f) FU zr12 x1 x2 x3 (0 : Int32) (0 : Int32)) else none)
set_option maxRecDepth 100000 in
set_option maxHeartbeats 4000000 in
theorem v_M_appease_24 (w : Nat → Int64) {r : Int32 × (Nat → Nat → Int32)}  : ∀ (f : Nat) (u : (Nat → Nat → Int32)) (x1 : Int32) (x2 : Int32) (x3 : Int32), d_M_appease_24  f u x1 x2 x3 = some r → Vd RX7 "appease" cX7_appease 9 (some .int) (rm 4) (ab_eq (some (.int r.1)) (h_M r.2 w)) 0 0 0 0 24 [(0, .ref 0), (1, .int x1), (2, .int x2), (3, .int x3)] [] (h_M u w) := by
  intro f
  induction f with
  | zero =>
    intro u x1 x2 x3 hd
    rw [d_M_appease_24] at hd
    cases hd
  | succ f ih =>
    intro u x1 x2 x3 hd
    rw [d_M_appease_24] at hd
    refine v_iload_n dX7_appease_24 rfl ?_
    refine v_bipush dX7_appease_25 bp_20 ?_
    refine v_icmp_gt (tgt := 154) dX7_appease_27 (by decide) (fun zc7 => ?_) (fun zc7 => ?_)
    · have hd := g_t hd zc7
      refine v_bipush dX7_appease_154 bp_m4 ?_
      obtain rfl := Option.some.inj hd
      exact v_iretE dX7_appease_156 rfl rfl rfl rfl
    · have hd := g_f hd zc7
      refine v_iload_n dX7_appease_30 rfl ?_
      refine v_aload_n dX7_appease_31 rfl ?_
      refine v_get (v := .ref 1) dX7_appease_32 fl_X7_7 rfl rfl ?_
      refine v_iconst dX7_appease_35 ic_5 ?_
      refine v_iload_n dX7_appease_36 rfl ?_
      refine v_iadd dX7_appease_37 ?_
      obtain ⟨zg8, hd⟩ := g_b hd
      refine v_iald (f := (u 1)) dX7_appease_38 rfl (gi_in zg8) ?_
      refine v_icmp_gt (tgt := 154) dX7_appease_39 (by decide) (fun zc9 => ?_) (fun zc9 => ?_)
      · have hd := g_t hd zc9
        refine v_bipush dX7_appease_154 bp_m4 ?_
        obtain rfl := Option.some.inj hd
        exact v_iretE dX7_appease_156 rfl rfl rfl rfl
      · have hd := g_f hd zc9
        refine v_aload_n dX7_appease_42 rfl ?_
        obtain ⟨zr10, zh11, hd⟩ := g_bind hd
        refine v_cI (dy := 0) (st := []) (st2 := []) dX7_appease_43 mv_X7_170 (m_M_starts u w zh11) rfl rfl rfl rfl rfl (by decide) (by decide) rfl rfl ?_
        refine v_aload_n dX7_appease_46 rfl ?_
        refine v_iload_n dX7_appease_47 rfl ?_
        refine v_iload_n dX7_appease_48 rfl ?_
        obtain ⟨zr12, zh13, hd⟩ := g_bind hd
        refine v_cI (dy := 0) (st := []) (st2 := []) dX7_appease_49 mv_X7_157 (m_M_gives zr10 x1 x3 w zh13) rfl rfl rfl rfl rfl (by decide) (by decide) rfl rfl ?_
        refine v_iconst dX7_appease_52 ic_0 ?_
        refine v_istore (i := 4) (L2 := [(4, .int (0 : Int32)), (0, .ref 0), (1, .int x1), (2, .int x2), (3, .int x3)]) dX7_appease_53 (Nat.le_of_ble_eq_true rfl) rfl ?_
        refine v_iconst dX7_appease_55 ic_0 ?_
        refine v_istore (i := 5) (L2 := [(5, .int (0 : Int32)), (4, .int (0 : Int32)), (0, .ref 0), (1, .int x1), (2, .int x2), (3, .int x3)]) dX7_appease_56 (Nat.le_of_ble_eq_true rfl) rfl ?_
        refine v_loc [2, 3, 4, 5, 1, 0] rfl ?_
        exact v_M_appease_58 w (d_M_appease_24 f) (ih) FU zr12 x1 x2 x3 (0 : Int32) (0 : Int32) hd
def d_M_appease (u : (Nat → Nat → Int32)) (a1 : Int32) (a2 : Int32) : Option (Int32 × (Nat → Nat → Int32)) := (d_M_isHouse u a1).bind fun zr1 => if zr1 = 0 then (some ((-1 : Int32), u)) else ((d_P_in a2.toInt64 (0 : Int64) (20 : Int64)).bind fun zr4 => if zr4 = 0 then (some ((-1 : Int32), u)) else (d_M_appease_24 FU u a1 a2 (0 : Int32)))
set_option maxRecDepth 100000 in
set_option maxHeartbeats 4000000 in
theorem v_M_appease (u : (Nat → Nat → Int32)) (a1 : Int32) (a2 : Int32) (w : Nat → Int64) {r : Int32 × (Nat → Nat → Int32)} (hd : d_M_appease u a1 a2 = some r) : Vd RX7 "appease" cX7_appease 9 (some .int) (rm 4) (ab_eq (some (.int r.1)) (h_M r.2 w)) 0 0 0 0 0 [(0, .ref 0), (1, .int a1), (2, .int a2)] [] (h_M u w) := by
  unfold d_M_appease at hd
  refine v_aload_n dX7_appease_0 rfl ?_
  refine v_iload_n dX7_appease_1 rfl ?_
  obtain ⟨zr1, zh2, hd⟩ := g_bind hd
  refine v_cI (dy := 1) (st := []) (st2 := [.int zr1]) dX7_appease_2 mv_X7_176 (m_M_isHouse u a1 w zh2) rfl rfl rfl rfl rfl (by decide) (by decide) rfl rfl ?_
  refine v_if_eq (tgt := 20) dX7_appease_5 (by decide) (fun zc3 => ?_) (fun zc3 => ?_)
  · have hd := g_t hd zc3
    refine v_iconst dX7_appease_20 ic_m1 ?_
    obtain rfl := Option.some.inj hd
    exact v_iretE dX7_appease_21 rfl rfl rfl rfl
  · have hd := g_f hd zc3
    refine v_iload_n dX7_appease_8 rfl ?_
    refine v_i2l dX7_appease_9 ?_
    refine v_lconst (v := 0) dX7_appease_10 rfl ?_
    refine v_ldc2 dX7_appease_11 kc_X7_192 ?_
    obtain ⟨zr4, zh5, hd⟩ := g_bind hd
    refine v_cS (dy := 0) (st := []) (st2 := [.int zr4]) (h2 := (h_M u w)) [] dX7_appease_14 mz_X7_72 (m_P_in a2.toInt64 (0 : Int64) (20 : Int64) zh5) rfl rfl rfl rfl rfl rfl (by decide) (by decide) rfl rfl rfl ?_
    refine v_if_ne (tgt := 22) dX7_appease_17 (by decide) (fun zc6 => ?_) (fun zc6 => ?_)
    · have hd := g_f hd zc6
      refine v_iconst dX7_appease_22 ic_0 ?_
      refine v_istore_n (i := 3) (L2 := [(3, .int (0 : Int32)), (0, .ref 0), (1, .int a1), (2, .int a2)]) dX7_appease_23 rfl (Nat.le_of_ble_eq_true rfl) rfl ?_
      refine v_loc [1, 2, 3, 0] rfl ?_
      exact v_M_appease_24 w FU u a1 a2 (0 : Int32) hd
    · have hd := g_t hd zc6
      refine v_iconst dX7_appease_20 ic_m1 ?_
      obtain rfl := Option.some.inj hd
      exact v_iretE dX7_appease_21 rfl rfl rfl rfl
theorem m_M_appease (u : (Nat → Nat → Int32)) (a1 : Int32) (a2 : Int32) (w : Nat → Int64) {r : Int32 × (Nat → Nat → Int32)} (hd : d_M_appease u a1 a2 = some r) : Mt yX7_appease cX7_appease 9 (some .int) (rm 4) [.ref 0, .int a1, .int a2] (h_M u w) (ab_eq (some (.int r.1)) (h_M r.2 w)) := Mt.of (by decide +kernel) (fun _ _ _ => trivial) (Nat.le_of_ble_eq_true rfl) (v_M_appease u a1 a2 w hd)

def d_M_pray_69 (k29 : (Nat → Nat → Int32) → Int32 → Int32 → Int32 → Int32 → Option (Int32 × (Nat → Nat → Int32))) (u : (Nat → Nat → Int32)) (x1 : Int32) (x2 : Int32) (x4 : Int32) (s0 : Int32) (s1 : Int32) : Option (Int32 × (Nat → Nat → Int32)) := (d_P_flag s1).bind fun zr16 => dl (s0 ||| (zr16 <<< (x4 &&& 31))) fun zy18 => dl (x4 + (1 : Int32)) fun zy20 => k29 u x1 x2 zy18 zy20
set_option maxRecDepth 100000 in
set_option maxHeartbeats 4000000 in
theorem v_M_pray_69 (w : Nat → Int64) {r : Int32 × (Nat → Nat → Int32)} (k29 : (Nat → Nat → Int32) → Int32 → Int32 → Int32 → Int32 → Option (Int32 × (Nat → Nat → Int32))) (hk29 : ∀ (u : (Nat → Nat → Int32)) (x1 : Int32) (x2 : Int32) (x3 : Int32) (x4 : Int32), k29 u x1 x2 x3 x4 = some r → Vd RX7 "pray" cX7_pray 5 (some .int) (rm 6) (ab_eq (some (.int r.1)) (h_M r.2 w)) 0 0 0 0 29 [(0, .ref 0), (1, .int x1), (2, .int x2), (3, .int x3), (4, .int x4)] [] (h_M u w)) (u : (Nat → Nat → Int32)) (x1 : Int32) (x2 : Int32) (x4 : Int32) (s0 : Int32) (s1 : Int32) (hd : d_M_pray_69 k29 u x1 x2 x4 s0 s1 = some r) : Vd RX7 "pray" cX7_pray 5 (some .int) (rm 6) (ab_eq (some (.int r.1)) (h_M r.2 w)) 0 0 0 0 69 [(0, .ref 0), (1, .int x1), (2, .int x2), (4, .int x4)] [.int s1, .int s0] (h_M u w) := by
  unfold d_M_pray_69 at hd
  obtain ⟨zr16, zh17, hd⟩ := g_bind hd
  refine v_cS (dy := 0) (st := [.int s0]) (st2 := [.int zr16, .int s0]) (h2 := (h_M u w)) [] dX7_pray_69 mz_X7_215 (m_P_flag s1 zh17) rfl rfl rfl rfl rfl rfl (by decide) (by decide) rfl rfl rfl ?_
  refine v_iload dX7_pray_72 rfl ?_
  refine v_ishl dX7_pray_74 ?_
  refine v_ior dX7_pray_75 ?_
  refine v_topi (fun zy18 ze19 => ?_)
  have hd := dl_n hd zy18 ze19
  refine v_istore_n (i := 3) (L2 := [(3, .int zy18), (0, .ref 0), (1, .int x1), (2, .int x2), (4, .int x4)]) dX7_pray_76 rfl (Nat.le_of_ble_eq_true rfl) rfl ?_
  obtain ⟨zy20, ze21⟩ : ∃ z : Int32, z = (x4 + (1 : Int32)) := ⟨_, rfl⟩
  have hd := dl_n hd zy20 ze21
  refine v_iinc (v := zy20) (L2 := [(4, .int zy20), (3, .int zy18), (0, .ref 0), (1, .int x1), (2, .int x2)]) dX7_pray_77 rfl (by rw [ic_1]; exact ze21.symm) (Nat.le_of_ble_eq_true rfl) rfl ?_
  refine v_goto (tgt := 29) dX7_pray_80 (by decide) ?_
  refine v_loc [2, 3, 4, 1, 0] rfl ?_
  exact hk29 u x1 x2 zy18 zy20 hd

def d_M_pray_29  : Nat → (Nat → Nat → Int32) → Int32 → Int32 → Int32 → Int32 → Option (Int32 × (Nat → Nat → Int32))
  | 0, _, _, _, _, _ => none
  | f + 1, u, x1, x2, x3, x4 => if (7 : Int32) ≤ x4 then (some (x3, u)) else ((d_M_starts u).bind fun zr9 => dl (((zr9 2) (18 : Int32).toNatClampNeg) ||| ((1 : Int32) <<< (x4 &&& 31))) fun zy11 => (d_M_lossOf (pw zr9 2 (18 : Int32).toNatClampNeg zy11) x1).bind fun zr13 => if x2 ≤ zr13.1 then (d_M_pray_69 (d_M_pray_29 f) zr13.2 x1 x2 x4 x3 (0 : Int32)) else (d_M_pray_69 (d_M_pray_29 f) zr13.2 x1 x2 x4 x3 (1 : Int32)))
set_option maxRecDepth 100000 in
set_option maxHeartbeats 4000000 in
theorem v_M_pray_29 (w : Nat → Int64) {r : Int32 × (Nat → Nat → Int32)}  : ∀ (f : Nat) (u : (Nat → Nat → Int32)) (x1 : Int32) (x2 : Int32) (x3 : Int32) (x4 : Int32), d_M_pray_29  f u x1 x2 x3 x4 = some r → Vd RX7 "pray" cX7_pray 5 (some .int) (rm 6) (ab_eq (some (.int r.1)) (h_M r.2 w)) 0 0 0 0 29 [(0, .ref 0), (1, .int x1), (2, .int x2), (3, .int x3), (4, .int x4)] [] (h_M u w) := by
  intro f
  induction f with
  | zero =>
    intro u x1 x2 x3 x4 hd
    rw [d_M_pray_29] at hd
    cases hd
  | succ f ih =>
    intro u x1 x2 x3 x4 hd
    rw [d_M_pray_29] at hd
    refine v_iload dX7_pray_29 rfl ?_
    refine v_bipush dX7_pray_31 bp_7 ?_
    refine v_icmp_ge (tgt := 83) dX7_pray_33 (by decide) (fun zc8 => ?_) (fun zc8 => ?_)
    · have hd := g_t hd zc8
      refine v_iload_n dX7_pray_83 rfl ?_
      obtain rfl := Option.some.inj hd
      exact v_iretE dX7_pray_84 rfl rfl rfl rfl
    · have hd := g_f hd zc8
      refine v_aload_n dX7_pray_36 rfl ?_
      obtain ⟨zr9, zh10, hd⟩ := g_bind hd
      refine v_cI (dy := 0) (st := []) (st2 := []) dX7_pray_37 mv_X7_170 (m_M_starts u w zh10) rfl rfl rfl rfl rfl (by decide) (by decide) rfl rfl ?_
      refine v_aload_n dX7_pray_40 rfl ?_
      refine v_get (v := .ref 2) dX7_pray_41 fl_X7_13 rfl rfl ?_
      refine v_bipush dX7_pray_44 bp_18 ?_
      refine v_dup2 dX7_pray_46 rfl rfl ?_
      refine v_iald (f := (zr9 2)) dX7_pray_47 rfl gl_18_41 ?_
      refine v_iconst dX7_pray_48 ic_1 ?_
      refine v_iload dX7_pray_49 rfl ?_
      refine v_ishl dX7_pray_51 ?_
      refine v_ior dX7_pray_52 ?_
      refine v_topi (fun zy11 ze12 => ?_)
      have hd := dl_n hd zy11 ze12
      refine v_ist (f := (zr9 2)) (h2 := (h_M (pw zr9 2 (18 : Int32).toNatClampNeg zy11) w)) dX7_pray_53 rfl gl_18_41 rfl ?_
      refine v_iload_n dX7_pray_54 rfl ?_
      refine v_aload_n dX7_pray_55 rfl ?_
      refine v_iload_n dX7_pray_56 rfl ?_
      obtain ⟨zr13, zh14, hd⟩ := g_bind hd
      refine v_cI (dy := 5) (st := [.int x3]) (st2 := [.int zr13.1, .int x3]) dX7_pray_57 mv_X7_212 (m_M_lossOf (pw zr9 2 (18 : Int32).toNatClampNeg zy11) x1 w zh14) rfl rfl rfl rfl rfl (by decide) (by decide) rfl rfl ?_
      refine v_iload_n dX7_pray_60 rfl ?_
      refine v_icmp_ge (tgt := 68) dX7_pray_61 (by decide) (fun zc15 => ?_) (fun zc15 => ?_)
      · have hd := g_t hd zc15
        refine v_iconst dX7_pray_68 ic_0 ?_
        refine v_loc [0, 1, 2, 4] rfl ?_
        exact v_M_pray_69 w (d_M_pray_29 f) (ih) zr13.2 x1 x2 x4 x3 (0 : Int32) hd
      · have hd := g_f hd zc15
        refine v_iconst dX7_pray_64 ic_1 ?_
        refine v_goto (tgt := 69) dX7_pray_65 (by decide) ?_
        refine v_loc [0, 1, 2, 4] rfl ?_
        exact v_M_pray_69 w (d_M_pray_29 f) (ih) zr13.2 x1 x2 x4 x3 (1 : Int32) hd
def d_M_pray (u : (Nat → Nat → Int32)) (a1 : Int32) : Option (Int32 × (Nat → Nat → Int32)) := (d_P_in a1.toInt64 (0 : Int64) (20 : Int64)).bind fun zr1 => if zr1 = 0 then (some ((-1 : Int32), u)) else ((d_M_starts u).bind fun zr4 => (d_M_lossOf zr4 a1).bind fun zr6 => d_M_pray_29 FU zr6.2 a1 zr6.1 (0 : Int32) (0 : Int32))
set_option maxRecDepth 100000 in
set_option maxHeartbeats 4000000 in
theorem v_M_pray (u : (Nat → Nat → Int32)) (a1 : Int32) (w : Nat → Int64) {r : Int32 × (Nat → Nat → Int32)} (hd : d_M_pray u a1 = some r) : Vd RX7 "pray" cX7_pray 5 (some .int) (rm 6) (ab_eq (some (.int r.1)) (h_M r.2 w)) 0 0 0 0 0 [(0, .ref 0), (1, .int a1)] [] (h_M u w) := by
  unfold d_M_pray at hd
  refine v_iload_n dX7_pray_0 rfl ?_
  refine v_i2l dX7_pray_1 ?_
  refine v_lconst (v := 0) dX7_pray_2 rfl ?_
  refine v_ldc2 dX7_pray_3 kc_X7_192 ?_
  obtain ⟨zr1, zh2, hd⟩ := g_bind hd
  refine v_cS (dy := 0) (st := []) (st2 := [.int zr1]) (h2 := (h_M u w)) [] dX7_pray_6 mz_X7_72 (m_P_in a1.toInt64 (0 : Int64) (20 : Int64) zh2) rfl rfl rfl rfl rfl rfl (by decide) (by decide) rfl rfl rfl ?_
  refine v_if_ne (tgt := 14) dX7_pray_9 (by decide) (fun zc3 => ?_) (fun zc3 => ?_)
  · have hd := g_f hd zc3
    refine v_aload_n dX7_pray_14 rfl ?_
    obtain ⟨zr4, zh5, hd⟩ := g_bind hd
    refine v_cI (dy := 0) (st := []) (st2 := []) dX7_pray_15 mv_X7_170 (m_M_starts u w zh5) rfl rfl rfl rfl rfl (by decide) (by decide) rfl rfl ?_
    refine v_aload_n dX7_pray_18 rfl ?_
    refine v_iload_n dX7_pray_19 rfl ?_
    obtain ⟨zr6, zh7, hd⟩ := g_bind hd
    refine v_cI (dy := 5) (st := []) (st2 := [.int zr6.1]) dX7_pray_20 mv_X7_212 (m_M_lossOf zr4 a1 w zh7) rfl rfl rfl rfl rfl (by decide) (by decide) rfl rfl ?_
    refine v_istore_n (i := 2) (L2 := [(2, .int zr6.1), (0, .ref 0), (1, .int a1)]) dX7_pray_23 rfl (Nat.le_of_ble_eq_true rfl) rfl ?_
    refine v_iconst dX7_pray_24 ic_0 ?_
    refine v_istore_n (i := 3) (L2 := [(3, .int (0 : Int32)), (2, .int zr6.1), (0, .ref 0), (1, .int a1)]) dX7_pray_25 rfl (Nat.le_of_ble_eq_true rfl) rfl ?_
    refine v_iconst dX7_pray_26 ic_0 ?_
    refine v_istore (i := 4) (L2 := [(4, .int (0 : Int32)), (3, .int (0 : Int32)), (2, .int zr6.1), (0, .ref 0), (1, .int a1)]) dX7_pray_27 (Nat.le_of_ble_eq_true rfl) rfl ?_
    refine v_loc [3, 4, 2, 1, 0] rfl ?_
    exact v_M_pray_29 w FU zr6.2 a1 zr6.1 (0 : Int32) (0 : Int32) hd
  · have hd := g_t hd zc3
    refine v_iconst dX7_pray_12 ic_m1 ?_
    obtain rfl := Option.some.inj hd
    exact v_iretE dX7_pray_13 rfl rfl rfl rfl
theorem m_M_pray (u : (Nat → Nat → Int32)) (a1 : Int32) (w : Nat → Int64) {r : Int32 × (Nat → Nat → Int32)} (hd : d_M_pray u a1 = some r) : Mt yX7_pray cX7_pray 5 (some .int) (rm 6) [.ref 0, .int a1] (h_M u w) (ab_eq (some (.int r.1)) (h_M r.2 w)) := Mt.of (by decide +kernel) (fun _ _ _ => trivial) (Nat.le_of_ble_eq_true rfl) (v_M_pray u a1 w hd)
def d_M_valueOf (u : (Nat → Nat → Int32)) (a1 : Int32) (a2 : Int32) : Option (Int32 × (Nat → Nat → Int32)) := (d_M_starts u).bind fun zr1 => (d_M_lossOf zr1 a2).bind fun zr3 => (d_M_startsWithCooks zr3.2 a1).bind fun zr5 => (d_M_lossOf zr5 a2).bind fun zr7 => some ((zr3.1 - zr7.1), zr7.2)
set_option maxRecDepth 100000 in
set_option maxHeartbeats 4000000 in
theorem v_M_valueOf (u : (Nat → Nat → Int32)) (a1 : Int32) (a2 : Int32) (w : Nat → Int64) {r : Int32 × (Nat → Nat → Int32)} (hd : d_M_valueOf u a1 a2 = some r) : Vd RX7 "valueOf" cX7_valueOf 4 (some .int) (rm 6) (ab_eq (some (.int r.1)) (h_M r.2 w)) 0 0 0 0 0 [(0, .ref 0), (1, .int a1), (2, .int a2)] [] (h_M u w) := by
  unfold d_M_valueOf at hd
  refine v_aload_n dX7_valueOf_0 rfl ?_
  obtain ⟨zr1, zh2, hd⟩ := g_bind hd
  refine v_cI (dy := 0) (st := []) (st2 := []) dX7_valueOf_1 mv_X7_170 (m_M_starts u w zh2) rfl rfl rfl rfl rfl (by decide) (by decide) rfl rfl ?_
  refine v_aload_n dX7_valueOf_4 rfl ?_
  refine v_iload_n dX7_valueOf_5 rfl ?_
  obtain ⟨zr3, zh4, hd⟩ := g_bind hd
  refine v_cI (dy := 5) (st := []) (st2 := [.int zr3.1]) dX7_valueOf_6 mv_X7_212 (m_M_lossOf zr1 a2 w zh4) rfl rfl rfl rfl rfl (by decide) (by decide) rfl rfl ?_
  refine v_istore_n (i := 3) (L2 := [(3, .int zr3.1), (0, .ref 0), (1, .int a1), (2, .int a2)]) dX7_valueOf_9 rfl (Nat.le_of_ble_eq_true rfl) rfl ?_
  refine v_aload_n dX7_valueOf_10 rfl ?_
  refine v_iload_n dX7_valueOf_11 rfl ?_
  obtain ⟨zr5, zh6, hd⟩ := g_bind hd
  refine v_cI (dy := 1) (st := []) (st2 := []) dX7_valueOf_12 mv_X7_222 (m_M_startsWithCooks zr3.2 a1 w zh6) rfl rfl rfl rfl rfl (by decide) (by decide) rfl rfl ?_
  refine v_iload_n dX7_valueOf_15 rfl ?_
  refine v_aload_n dX7_valueOf_16 rfl ?_
  refine v_iload_n dX7_valueOf_17 rfl ?_
  obtain ⟨zr7, zh8, hd⟩ := g_bind hd
  refine v_cI (dy := 5) (st := [.int zr3.1]) (st2 := [.int zr7.1, .int zr3.1]) dX7_valueOf_18 mv_X7_212 (m_M_lossOf zr5 a2 w zh8) rfl rfl rfl rfl rfl (by decide) (by decide) rfl rfl ?_
  refine v_isub dX7_valueOf_21 ?_
  obtain rfl := Option.some.inj hd
  exact v_iretE dX7_valueOf_22 rfl rfl rfl rfl
theorem m_M_valueOf (u : (Nat → Nat → Int32)) (a1 : Int32) (a2 : Int32) (w : Nat → Int64) {r : Int32 × (Nat → Nat → Int32)} (hd : d_M_valueOf u a1 a2 = some r) : Mt yX7_valueOf cX7_valueOf 4 (some .int) (rm 6) [.ref 0, .int a1, .int a2] (h_M u w) (ab_eq (some (.int r.1)) (h_M r.2 w)) := Mt.of (by decide +kernel) (fun _ _ _ => trivial) (Nat.le_of_ble_eq_true rfl) (v_M_valueOf u a1 a2 w hd)
def d_M_value (u : (Nat → Nat → Int32)) (a1 : Int32) (a2 : Int32) : Option (Int32 × (Nat → Nat → Int32)) := (d_P_in a1.toInt64 (0 : Int64) ((((1 : Int32) <<< ((u 0 3) &&& 31)) - (1 : Int32)).toInt64)).bind fun zr1 => if zr1 = 0 then (some ((-1 : Int32), u)) else ((d_P_in a2.toInt64 (0 : Int64) (20 : Int64)).bind fun zr4 => if zr4 = 0 then (some ((-1 : Int32), u)) else ((d_M_valueOf u a1 a2).bind fun zr7 => some (((1000 : Int32) + zr7.1), zr7.2)))
set_option maxRecDepth 100000 in
set_option maxHeartbeats 4000000 in
theorem v_M_value (u : (Nat → Nat → Int32)) (a1 : Int32) (a2 : Int32) (w : Nat → Int64) {r : Int32 × (Nat → Nat → Int32)} (hd : d_M_value u a1 a2 = some r) : Vd RX7 "value" cX7_value 3 (some .int) (rm 7) (ab_eq (some (.int r.1)) (h_M r.2 w)) 0 0 0 0 0 [(0, .ref 0), (1, .int a1), (2, .int a2)] [] (h_M u w) := by
  unfold d_M_value at hd
  refine v_iload_n dX7_value_0 rfl ?_
  refine v_i2l dX7_value_1 ?_
  refine v_lconst (v := 0) dX7_value_2 rfl ?_
  refine v_iconst dX7_value_3 ic_1 ?_
  refine v_aload_n dX7_value_4 rfl ?_
  refine v_get (v := .int (u 0 3)) dX7_value_5 fl_X7_67 rfl rfl ?_
  refine v_ishl dX7_value_8 ?_
  refine v_iconst dX7_value_9 ic_1 ?_
  refine v_isub dX7_value_10 ?_
  refine v_i2l dX7_value_11 ?_
  obtain ⟨zr1, zh2, hd⟩ := g_bind hd
  refine v_cS (dy := 0) (st := []) (st2 := [.int zr1]) (h2 := (h_M u w)) [] dX7_value_12 mz_X7_72 (m_P_in a1.toInt64 (0 : Int64) ((((1 : Int32) <<< ((u 0 3) &&& 31)) - (1 : Int32)).toInt64) zh2) rfl rfl rfl rfl rfl rfl (by decide) (by decide) rfl rfl rfl ?_
  refine v_if_eq (tgt := 43) dX7_value_15 (by decide) (fun zc3 => ?_) (fun zc3 => ?_)
  · have hd := g_t hd zc3
    refine v_iconst dX7_value_43 ic_m1 ?_
    obtain rfl := Option.some.inj hd
    exact v_iretE dX7_value_44 rfl rfl rfl rfl
  · have hd := g_f hd zc3
    refine v_iload_n dX7_value_18 rfl ?_
    refine v_i2l dX7_value_19 ?_
    refine v_lconst (v := 0) dX7_value_20 rfl ?_
    refine v_ldc2 dX7_value_21 kc_X7_192 ?_
    obtain ⟨zr4, zh5, hd⟩ := g_bind hd
    refine v_cS (dy := 0) (st := []) (st2 := [.int zr4]) (h2 := (h_M u w)) [] dX7_value_24 mz_X7_72 (m_P_in a2.toInt64 (0 : Int64) (20 : Int64) zh5) rfl rfl rfl rfl rfl rfl (by decide) (by decide) rfl rfl rfl ?_
    refine v_if_eq (tgt := 43) dX7_value_27 (by decide) (fun zc6 => ?_) (fun zc6 => ?_)
    · have hd := g_t hd zc6
      refine v_iconst dX7_value_43 ic_m1 ?_
      obtain rfl := Option.some.inj hd
      exact v_iretE dX7_value_44 rfl rfl rfl rfl
    · have hd := g_f hd zc6
      refine v_sipush dX7_value_30 sp_1000 ?_
      refine v_aload_n dX7_value_33 rfl ?_
      refine v_iload_n dX7_value_34 rfl ?_
      refine v_iload_n dX7_value_35 rfl ?_
      obtain ⟨zr7, zh8, hd⟩ := g_bind hd
      refine v_cI (dy := 6) (st := [.int (1000 : Int32)]) (st2 := [.int zr7.1, .int (1000 : Int32)]) dX7_value_36 mv_X7_225 (m_M_valueOf u a1 a2 w zh8) rfl rfl rfl rfl rfl (by decide) (by decide) rfl rfl ?_
      refine v_iadd dX7_value_39 ?_
      refine v_goto (tgt := 44) dX7_value_40 (by decide) ?_
      obtain rfl := Option.some.inj hd
      exact v_iretE dX7_value_44 rfl rfl rfl rfl
theorem m_M_value (u : (Nat → Nat → Int32)) (a1 : Int32) (a2 : Int32) (w : Nat → Int64) {r : Int32 × (Nat → Nat → Int32)} (hd : d_M_value u a1 a2 = some r) : Mt yX7_value cX7_value 3 (some .int) (rm 7) [.ref 0, .int a1, .int a2] (h_M u w) (ab_eq (some (.int r.1)) (h_M r.2 w)) := Mt.of (by decide +kernel) (fun _ _ _ => trivial) (Nat.le_of_ble_eq_true rfl) (v_M_value u a1 a2 w hd)

def d_M_share_108 (k37 : (Nat → Nat → Int32) → Int32 → Int32 → Int32 → Int64 → Int32 → Option (Int64 × (Nat → Nat → Int32))) (u : (Nat → Nat → Int32)) (x1 : Int32) (x2 : Int32) (x3 : Int32) (x4 : Int64) (x6 : Int32) : Option (Int64 × (Nat → Nat → Int32)) := dl (x6 + (1 : Int32)) fun zy16 => k37 u x1 x2 x3 x4 zy16
set_option maxRecDepth 100000 in
set_option maxHeartbeats 4000000 in
theorem v_M_share_108 (w : Nat → Int64) {r : Int64 × (Nat → Nat → Int32)} (k37 : (Nat → Nat → Int32) → Int32 → Int32 → Int32 → Int64 → Int32 → Option (Int64 × (Nat → Nat → Int32))) (hk37 : ∀ (u : (Nat → Nat → Int32)) (x1 : Int32) (x2 : Int32) (x3 : Int32) (x4 : Int64) (x6 : Int32), k37 u x1 x2 x3 x4 x6 = some r → Vd RX7 "share" cX7_share 8 (some .long) (rm 7) (ab_eq (some (.long r.1)) (h_M r.2 w)) 0 0 0 0 37 [(0, .ref 0), (1, .int x1), (2, .int x2), (3, .int x3), (4, .long x4), (6, .int x6)] [] (h_M u w)) (u : (Nat → Nat → Int32)) (x1 : Int32) (x2 : Int32) (x3 : Int32) (x4 : Int64) (x6 : Int32) (hd : d_M_share_108 k37 u x1 x2 x3 x4 x6 = some r) : Vd RX7 "share" cX7_share 8 (some .long) (rm 7) (ab_eq (some (.long r.1)) (h_M r.2 w)) 0 0 0 0 108 [(0, .ref 0), (1, .int x1), (2, .int x2), (3, .int x3), (4, .long x4), (6, .int x6)] [] (h_M u w) := by
  unfold d_M_share_108 at hd
  obtain ⟨zy16, ze17⟩ : ∃ z : Int32, z = (x6 + (1 : Int32)) := ⟨_, rfl⟩
  have hd := dl_n hd zy16 ze17
  refine v_iinc (v := zy16) (L2 := [(6, .int zy16), (0, .ref 0), (1, .int x1), (2, .int x2), (3, .int x3), (4, .long x4)]) dX7_share_108 rfl (by rw [ic_1]; exact ze17.symm) (Nat.le_of_ble_eq_true rfl) rfl ?_
  refine v_goto (tgt := 37) dX7_share_111 (by decide) ?_
  refine v_loc [1, 2, 3, 4, 5, 0] rfl ?_
  exact hk37 u x1 x2 x3 x4 zy16 hd

def d_M_share_37  : Nat → (Nat → Nat → Int32) → Int32 → Int32 → Int32 → Int64 → Int32 → Option (Int64 × (Nat → Nat → Int32))
  | 0, _, _, _, _, _, _ => none
  | f + 1, u, x1, x2, x3, x4, x6 => if ((1 : Int32) <<< ((u 0 3) &&& 31)) ≤ x6 then ((d_P_orders (u 0 3)).bind fun zr11 => (d_P_told x4 zr11 x3).bind fun zr13 => some (zr13, u)) else (if ((x6 >>> (x1 &&& 31)) &&& (1 : Int32)) = 0 then ((d_P_bitsOf x6).bind fun zr18 => (d_M_valueOf u (x6 ||| ((1 : Int32) <<< (x1 &&& 31))) x2).bind fun zr20 => (d_M_valueOf zr20.2 x6 x2).bind fun zr22 => (d_P_orders zr18).bind fun zr24 => (d_P_orders (((zr22.2 0 3) - (1 : Int32)) - zr18)).bind fun zr26 => dl (x4 + (((zr20.1 - zr22.1).toInt64 * zr24) * zr26)) fun zy28 => d_M_share_108 (d_M_share_37 f) zr22.2 x1 x2 x3 zy28 x6) else (d_M_share_108 (d_M_share_37 f) u x1 x2 x3 x4 x6))
set_option maxRecDepth 100000 in
set_option maxHeartbeats 4000000 in
theorem v_M_share_37 (w : Nat → Int64) {r : Int64 × (Nat → Nat → Int32)}  : ∀ (f : Nat) (u : (Nat → Nat → Int32)) (x1 : Int32) (x2 : Int32) (x3 : Int32) (x4 : Int64) (x6 : Int32), d_M_share_37  f u x1 x2 x3 x4 x6 = some r → Vd RX7 "share" cX7_share 8 (some .long) (rm 7) (ab_eq (some (.long r.1)) (h_M r.2 w)) 0 0 0 0 37 [(0, .ref 0), (1, .int x1), (2, .int x2), (3, .int x3), (4, .long x4), (6, .int x6)] [] (h_M u w) := by
  intro f
  induction f with
  | zero =>
    intro u x1 x2 x3 x4 x6 hd
    rw [d_M_share_37] at hd
    cases hd
  | succ f ih =>
    intro u x1 x2 x3 x4 x6 hd
    rw [d_M_share_37] at hd
    refine v_iload dX7_share_37 rfl ?_
    refine v_iconst dX7_share_39 ic_1 ?_
    refine v_aload_n dX7_share_40 rfl ?_
    refine v_get (v := .int (u 0 3)) dX7_share_41 fl_X7_67 rfl rfl ?_
    refine v_ishl dX7_share_44 ?_
    refine v_icmp_ge (tgt := 114) dX7_share_45 (by decide) (fun zc10 => ?_) (fun zc10 => ?_)
    · have hd := g_t hd zc10
      refine v_lload dX7_share_114 rfl ?_
      refine v_aload_n dX7_share_116 rfl ?_
      refine v_get (v := .int (u 0 3)) dX7_share_117 fl_X7_67 rfl rfl ?_
      obtain ⟨zr11, zh12, hd⟩ := g_bind hd
      refine v_cS (dy := 0) (st := [.long x4]) (st2 := [.long zr11, .long x4]) (h2 := (h_M u w)) [] dX7_share_120 mz_X7_234 (m_P_orders (u 0 3) zh12) rfl rfl rfl rfl rfl rfl (by decide) (by decide) rfl rfl rfl ?_
      refine v_iload_n dX7_share_123 rfl ?_
      obtain ⟨zr13, zh14, hd⟩ := g_bind hd
      refine v_cS (dy := 1) (st := []) (st2 := [.long zr13]) (h2 := (h_M u w)) [] dX7_share_124 mz_X7_238 (m_P_told x4 zr11 x3 zh14) rfl rfl rfl rfl rfl rfl (by decide) (by decide) rfl rfl rfl ?_
      obtain rfl := Option.some.inj hd
      exact v_lretE dX7_share_127 rfl rfl rfl
    · have hd := g_f hd zc10
      refine v_iload dX7_share_48 rfl ?_
      refine v_iload_n dX7_share_50 rfl ?_
      refine v_ishr dX7_share_51 ?_
      refine v_iconst dX7_share_52 ic_1 ?_
      refine v_iand dX7_share_53 ?_
      refine v_if_ne (tgt := 108) dX7_share_54 (by decide) (fun zc15 => ?_) (fun zc15 => ?_)
      · have hd := g_f hd zc15
        exact v_M_share_108 w (d_M_share_37 f) (ih) u x1 x2 x3 x4 x6 hd
      · have hd := g_t hd zc15
        refine v_iload dX7_share_57 rfl ?_
        obtain ⟨zr18, zh19, hd⟩ := g_bind hd
        refine v_cS (dy := 0) (st := []) (st2 := [.int zr18]) (h2 := (h_M u w)) [] dX7_share_59 mz_X7_219 (m_P_bitsOf x6 zh19) rfl rfl rfl rfl rfl rfl (by decide) (by decide) rfl rfl rfl ?_
        refine v_istore (i := 7) (L2 := [(7, .int zr18), (0, .ref 0), (1, .int x1), (2, .int x2), (3, .int x3), (4, .long x4), (6, .int x6)]) dX7_share_62 (Nat.le_of_ble_eq_true rfl) rfl ?_
        refine v_lload dX7_share_64 rfl ?_
        refine v_aload_n dX7_share_66 rfl ?_
        refine v_iload dX7_share_67 rfl ?_
        refine v_iconst dX7_share_69 ic_1 ?_
        refine v_iload_n dX7_share_70 rfl ?_
        refine v_ishl dX7_share_71 ?_
        refine v_ior dX7_share_72 ?_
        refine v_iload_n dX7_share_73 rfl ?_
        obtain ⟨zr20, zh21, hd⟩ := g_bind hd
        refine v_cI (dy := 6) (st := [.long x4]) (st2 := [.int zr20.1, .long x4]) dX7_share_74 mv_X7_225 (m_M_valueOf u (x6 ||| ((1 : Int32) <<< (x1 &&& 31))) x2 w zh21) rfl rfl rfl rfl rfl (by decide) (by decide) rfl rfl ?_
        refine v_aload_n dX7_share_77 rfl ?_
        refine v_iload dX7_share_78 rfl ?_
        refine v_iload_n dX7_share_80 rfl ?_
        obtain ⟨zr22, zh23, hd⟩ := g_bind hd
        refine v_cI (dy := 6) (st := [.int zr20.1, .long x4]) (st2 := [.int zr22.1, .int zr20.1, .long x4]) dX7_share_81 mv_X7_225 (m_M_valueOf zr20.2 x6 x2 w zh23) rfl rfl rfl rfl rfl (by decide) (by decide) rfl rfl ?_
        refine v_isub dX7_share_84 ?_
        refine v_i2l dX7_share_85 ?_
        refine v_iload dX7_share_86 rfl ?_
        obtain ⟨zr24, zh25, hd⟩ := g_bind hd
        refine v_cS (dy := 0) (st := [.long (zr20.1 - zr22.1).toInt64, .long x4]) (st2 := [.long zr24, .long (zr20.1 - zr22.1).toInt64, .long x4]) (h2 := (h_M zr22.2 w)) [] dX7_share_88 mz_X7_234 (m_P_orders zr18 zh25) rfl rfl rfl rfl rfl rfl (by decide) (by decide) rfl rfl rfl ?_
        refine v_lmul dX7_share_91 ?_
        refine v_aload_n dX7_share_92 rfl ?_
        refine v_get (v := .int (zr22.2 0 3)) dX7_share_93 fl_X7_67 rfl rfl ?_
        refine v_iconst dX7_share_96 ic_1 ?_
        refine v_isub dX7_share_97 ?_
        refine v_iload dX7_share_98 rfl ?_
        refine v_isub dX7_share_100 ?_
        obtain ⟨zr26, zh27, hd⟩ := g_bind hd
        refine v_cS (dy := 0) (st := [.long ((zr20.1 - zr22.1).toInt64 * zr24), .long x4]) (st2 := [.long zr26, .long ((zr20.1 - zr22.1).toInt64 * zr24), .long x4]) (h2 := (h_M zr22.2 w)) [] dX7_share_101 mz_X7_234 (m_P_orders (((zr22.2 0 3) - (1 : Int32)) - zr18) zh27) rfl rfl rfl rfl rfl rfl (by decide) (by decide) rfl rfl rfl ?_
        refine v_lmul dX7_share_104 ?_
        refine v_ladd dX7_share_105 ?_
        refine v_topl (fun zy28 ze29 => ?_)
        have hd := dl_n hd zy28 ze29
        refine v_lstore (i := 4) (L2 := [(4, .long zy28), (7, .int zr18), (0, .ref 0), (1, .int x1), (2, .int x2), (3, .int x3), (6, .int x6)]) dX7_share_106 (Nat.le_of_ble_eq_true rfl) rfl ?_
        refine v_loc [2, 3, 4, 5, 0, 6] rfl ?_
        exact v_M_share_108 w (d_M_share_37 f) (ih) zr22.2 x1 x2 x3 zy28 x6 hd
def d_M_share (u : (Nat → Nat → Int32)) (a1 : Int32) (a2 : Int32) (a3 : Int32) : Option (Int64 × (Nat → Nat → Int32)) := (d_M_isHouse u a1).bind fun zr1 => if zr1 = 0 then (some ((-1 : Int64), u)) else ((d_P_in a2.toInt64 (0 : Int64) (20 : Int64)).bind fun zr4 => if zr4 = 0 then (some ((-1 : Int64), u)) else ((d_P_isPart a3).bind fun zr7 => if zr7 = 0 then (some ((-1 : Int64), u)) else (d_M_share_37 FU u a1 a2 a3 (0 : Int64) (0 : Int32))))
set_option maxRecDepth 100000 in
set_option maxHeartbeats 4000000 in
theorem v_M_share (u : (Nat → Nat → Int32)) (a1 : Int32) (a2 : Int32) (a3 : Int32) (w : Nat → Int64) {r : Int64 × (Nat → Nat → Int32)} (hd : d_M_share u a1 a2 a3 = some r) : Vd RX7 "share" cX7_share 8 (some .long) (rm 7) (ab_eq (some (.long r.1)) (h_M r.2 w)) 0 0 0 0 0 [(0, .ref 0), (1, .int a1), (2, .int a2), (3, .int a3)] [] (h_M u w) := by
  unfold d_M_share at hd
  refine v_aload_n dX7_share_0 rfl ?_
  refine v_iload_n dX7_share_1 rfl ?_
  obtain ⟨zr1, zh2, hd⟩ := g_bind hd
  refine v_cI (dy := 1) (st := []) (st2 := [.int zr1]) dX7_share_2 mv_X7_176 (m_M_isHouse u a1 w zh2) rfl rfl rfl rfl rfl (by decide) (by decide) rfl rfl ?_
  refine v_if_eq (tgt := 27) dX7_share_5 (by decide) (fun zc3 => ?_) (fun zc3 => ?_)
  · have hd := g_t hd zc3
    refine v_ldc2 dX7_share_27 kc_X7_232 ?_
    obtain rfl := Option.some.inj hd
    exact v_lretE dX7_share_30 rfl rfl rfl
  · have hd := g_f hd zc3
    refine v_iload_n dX7_share_8 rfl ?_
    refine v_i2l dX7_share_9 ?_
    refine v_lconst (v := 0) dX7_share_10 rfl ?_
    refine v_ldc2 dX7_share_11 kc_X7_192 ?_
    obtain ⟨zr4, zh5, hd⟩ := g_bind hd
    refine v_cS (dy := 0) (st := []) (st2 := [.int zr4]) (h2 := (h_M u w)) [] dX7_share_14 mz_X7_72 (m_P_in a2.toInt64 (0 : Int64) (20 : Int64) zh5) rfl rfl rfl rfl rfl rfl (by decide) (by decide) rfl rfl rfl ?_
    refine v_if_eq (tgt := 27) dX7_share_17 (by decide) (fun zc6 => ?_) (fun zc6 => ?_)
    · have hd := g_t hd zc6
      refine v_ldc2 dX7_share_27 kc_X7_232 ?_
      obtain rfl := Option.some.inj hd
      exact v_lretE dX7_share_30 rfl rfl rfl
    · have hd := g_f hd zc6
      refine v_iload_n dX7_share_20 rfl ?_
      obtain ⟨zr7, zh8, hd⟩ := g_bind hd
      refine v_cS (dy := 1) (st := []) (st2 := [.int zr7]) (h2 := (h_M u w)) [] dX7_share_21 mz_X7_182 (m_P_isPart a3 zh8) rfl rfl rfl rfl rfl rfl (by decide) (by decide) rfl rfl rfl ?_
      refine v_if_ne (tgt := 31) dX7_share_24 (by decide) (fun zc9 => ?_) (fun zc9 => ?_)
      · have hd := g_f hd zc9
        refine v_lconst (v := 0) dX7_share_31 rfl ?_
        refine v_lstore (i := 4) (L2 := [(4, .long (0 : Int64)), (0, .ref 0), (1, .int a1), (2, .int a2), (3, .int a3)]) dX7_share_32 (Nat.le_of_ble_eq_true rfl) rfl ?_
        refine v_iconst dX7_share_34 ic_0 ?_
        refine v_istore (i := 6) (L2 := [(6, .int (0 : Int32)), (4, .long (0 : Int64)), (0, .ref 0), (1, .int a1), (2, .int a2), (3, .int a3)]) dX7_share_35 (Nat.le_of_ble_eq_true rfl) rfl ?_
        refine v_loc [2, 3, 4, 5, 1, 0] rfl ?_
        exact v_M_share_37 w FU u a1 a2 a3 (0 : Int64) (0 : Int32) hd
      · have hd := g_t hd zc9
        refine v_ldc2 dX7_share_27 kc_X7_232 ?_
        obtain rfl := Option.some.inj hd
        exact v_lretE dX7_share_30 rfl rfl rfl
theorem m_M_share (u : (Nat → Nat → Int32)) (a1 : Int32) (a2 : Int32) (a3 : Int32) (w : Nat → Int64) {r : Int64 × (Nat → Nat → Int32)} (hd : d_M_share u a1 a2 a3 = some r) : Mt yX7_share cX7_share 8 (some .long) (rm 7) [.ref 0, .int a1, .int a2, .int a3] (h_M u w) (ab_eq (some (.long r.1)) (h_M r.2 w)) := Mt.of (by decide +kernel) (fun _ _ _ => trivial) (Nat.le_of_ble_eq_true rfl) (v_M_share u a1 a2 a3 w hd)

def d_M_findOdds_179 (k45 : (Nat → Nat → Int32) → (Nat → Int64) → Int32 → Int32 → Int32 → Option ((Nat → Nat → Int32) × (Nat → Int64))) (u : (Nat → Nat → Int32)) (w : (Nat → Int64)) (x1 : Int32) (x2 : Int32) (x3 : Int32) (x4 : Int64) (x6 : Int32) (s1 : Int64) (s2 : Int64) : Option ((Nat → Nat → Int32) × (Nat → Int64)) := dl (s1 + s2) fun zy9 => dl ((w 19) + (x4 * x6.toInt64)) fun zy11 => dl (x3 + (1 : Int32)) fun zy13 => k45 u (pwl (pwl w 18 zy9) 19 zy11) x1 x2 zy13
set_option maxRecDepth 100000 in
set_option maxHeartbeats 4000000 in
theorem v_M_findOdds_179  {r : (Nat → Nat → Int32) × (Nat → Int64)} (k45 : (Nat → Nat → Int32) → (Nat → Int64) → Int32 → Int32 → Int32 → Option ((Nat → Nat → Int32) × (Nat → Int64))) (hk45 : ∀ (u : (Nat → Nat → Int32)) (w : (Nat → Int64)) (x1 : Int32) (x2 : Int32) (x3 : Int32), k45 u w x1 x2 x3 = some r → Vd RX7 "findOdds" cX7_findOdds 8 none (rm 6) (ab_eq none (h_M r.1 r.2)) 0 0 0 0 45 [(0, .ref 0), (1, .int x1), (2, .int x2), (3, .int x3)] [] (h_M u w)) (u : (Nat → Nat → Int32)) (w : (Nat → Int64)) (x1 : Int32) (x2 : Int32) (x3 : Int32) (x4 : Int64) (x6 : Int32) (s1 : Int64) (s2 : Int64) (hd : d_M_findOdds_179 k45 u w x1 x2 x3 x4 x6 s1 s2 = some r) : Vd RX7 "findOdds" cX7_findOdds 8 none (rm 6) (ab_eq none (h_M r.1 r.2)) 0 0 0 0 179 [(0, .ref 0), (1, .int x1), (2, .int x2), (3, .int x3), (4, .long x4), (6, .int x6)] [.long s2, .long s1, .ref 0] (h_M u w) := by
  unfold d_M_findOdds_179 at hd
  refine v_ladd dX7_findOdds_179 ?_
  refine v_topl (fun zy9 ze10 => ?_)
  have hd := dl_n hd zy9 ze10
  refine v_ptl (h2 := (h_M u (pwl w 18 zy9))) dX7_findOdds_180 fl_X7_242 rfl (Nat.le_of_ble_eq_true rfl) rfl ?_
  refine v_aload_n dX7_findOdds_183 rfl ?_
  refine v_dup dX7_findOdds_184 rfl ?_
  refine v_get (v := .long (w 19)) dX7_findOdds_185 fl_X7_246 rfl rfl ?_
  refine v_lload dX7_findOdds_188 rfl ?_
  refine v_iload dX7_findOdds_190 rfl ?_
  refine v_i2l dX7_findOdds_192 ?_
  refine v_lmul dX7_findOdds_193 ?_
  refine v_ladd dX7_findOdds_194 ?_
  refine v_topl (fun zy11 ze12 => ?_)
  have hd := dl_n hd zy11 ze12
  refine v_ptl (h2 := (h_M u (pwl (pwl w 18 zy9) 19 zy11))) dX7_findOdds_195 fl_X7_246 rfl (Nat.le_of_ble_eq_true rfl) rfl ?_
  obtain ⟨zy13, ze14⟩ : ∃ z : Int32, z = (x3 + (1 : Int32)) := ⟨_, rfl⟩
  have hd := dl_n hd zy13 ze14
  refine v_iinc (v := zy13) (L2 := [(3, .int zy13), (0, .ref 0), (1, .int x1), (2, .int x2), (4, .long x4), (6, .int x6)]) dX7_findOdds_198 rfl (by rw [ic_1]; exact ze14.symm) (Nat.le_of_ble_eq_true rfl) rfl ?_
  refine v_goto (tgt := 45) dX7_findOdds_201 (by decide) ?_
  refine v_loc [1, 2, 3, 0] rfl ?_
  exact hk45 u (pwl (pwl w 18 zy9) 19 zy11) x1 x2 zy13 hd

def d_M_findOdds_137 (k45 : (Nat → Nat → Int32) → (Nat → Int64) → Int32 → Int32 → Int32 → Option ((Nat → Nat → Int32) × (Nat → Int64))) (k65 : (Nat → Nat → Int32) → (Nat → Int64) → Int32 → Int32 → Int32 → Int64 → Int32 → Option ((Nat → Nat → Int32) × (Nat → Int64))) (u : (Nat → Nat → Int32)) (w : (Nat → Int64)) (x1 : Int32) (x2 : Int32) (x3 : Int32) (x4 : Int64) (x6 : Int32) (s1 : Int32) (s2 : Int32) : Option ((Nat → Nat → Int32) × (Nat → Int64)) := if gi s1 41 = true then dl (pw u 2 s1.toNatClampNeg s2) fun zu22 => dl (x6 + (1 : Int32)) fun zy24 => k65 zu22 w x1 x2 x3 x4 zy24 else none
set_option maxRecDepth 100000 in
set_option maxHeartbeats 4000000 in
theorem v_M_findOdds_137  {r : (Nat → Nat → Int32) × (Nat → Int64)} (k45 : (Nat → Nat → Int32) → (Nat → Int64) → Int32 → Int32 → Int32 → Option ((Nat → Nat → Int32) × (Nat → Int64))) (hk45 : ∀ (u : (Nat → Nat → Int32)) (w : (Nat → Int64)) (x1 : Int32) (x2 : Int32) (x3 : Int32), k45 u w x1 x2 x3 = some r → Vd RX7 "findOdds" cX7_findOdds 8 none (rm 6) (ab_eq none (h_M r.1 r.2)) 0 0 0 0 45 [(0, .ref 0), (1, .int x1), (2, .int x2), (3, .int x3)] [] (h_M u w)) (k65 : (Nat → Nat → Int32) → (Nat → Int64) → Int32 → Int32 → Int32 → Int64 → Int32 → Option ((Nat → Nat → Int32) × (Nat → Int64))) (hk65 : ∀ (u : (Nat → Nat → Int32)) (w : (Nat → Int64)) (x1 : Int32) (x2 : Int32) (x3 : Int32) (x4 : Int64) (x6 : Int32), k65 u w x1 x2 x3 x4 x6 = some r → Vd RX7 "findOdds" cX7_findOdds 8 none (rm 6) (ab_eq none (h_M r.1 r.2)) 0 0 0 0 65 [(0, .ref 0), (1, .int x1), (2, .int x2), (3, .int x3), (4, .long x4), (6, .int x6)] [] (h_M u w)) (u : (Nat → Nat → Int32)) (w : (Nat → Int64)) (x1 : Int32) (x2 : Int32) (x3 : Int32) (x4 : Int64) (x6 : Int32) (s1 : Int32) (s2 : Int32) (hd : d_M_findOdds_137 k45 k65 u w x1 x2 x3 x4 x6 s1 s2 = some r) : Vd RX7 "findOdds" cX7_findOdds 8 none (rm 6) (ab_eq none (h_M r.1 r.2)) 0 0 0 0 137 [(0, .ref 0), (1, .int x1), (2, .int x2), (3, .int x3), (4, .long x4), (6, .int x6)] [.int s2, .int s1, .ref 2] (h_M u w) := by
  unfold d_M_findOdds_137 at hd
  obtain ⟨zg21, hd⟩ := g_b hd
  refine v_ist (f := (u 2)) (h2 := (h_M (pw u 2 s1.toNatClampNeg s2) w)) dX7_findOdds_137 rfl (gi_in zg21) rfl ?_
  refine v_nmu (F := fun z => (h_M z w)) (e := (pw u 2 s1.toNatClampNeg s2)) (fun zu22 ze23 => ?_)
  have hd := dl_n hd zu22 ze23
  obtain ⟨zy24, ze25⟩ : ∃ z : Int32, z = (x6 + (1 : Int32)) := ⟨_, rfl⟩
  have hd := dl_n hd zy24 ze25
  refine v_iinc (v := zy24) (L2 := [(6, .int zy24), (0, .ref 0), (1, .int x1), (2, .int x2), (3, .int x3), (4, .long x4)]) dX7_findOdds_138 rfl (by rw [ic_1]; exact ze25.symm) (Nat.le_of_ble_eq_true rfl) rfl ?_
  refine v_goto (tgt := 65) dX7_findOdds_141 (by decide) ?_
  refine v_loc [1, 2, 3, 4, 5, 0] rfl ?_
  exact hk65 zu22 w x1 x2 x3 x4 zy24 hd

def d_M_findOdds_108 (k45 : (Nat → Nat → Int32) → (Nat → Int64) → Int32 → Int32 → Int32 → Option ((Nat → Nat → Int32) × (Nat → Int64))) (k65 : (Nat → Nat → Int32) → (Nat → Int64) → Int32 → Int32 → Int32 → Int64 → Int32 → Option ((Nat → Nat → Int32) × (Nat → Int64))) (u : (Nat → Nat → Int32)) (w : (Nat → Int64)) (x1 : Int32) (x2 : Int32) (x3 : Int32) (x6 : Int32) (x7 : Int32) (s0 : Int64) (s1 : Int64) : Option ((Nat → Nat → Int32) × (Nat → Int64)) := dl (s0 * s1) fun zy17 => if x7 = 0 then (if gi ((0 : Int32) + x6) 41 = true then d_M_findOdds_137 k45 k65 u w x1 x2 x3 zy17 x6 ((0 : Int32) + x6) ((u 2) ((0 : Int32) + x6).toNatClampNeg) else none) else (d_M_findOdds_137 k45 k65 u w x1 x2 x3 zy17 x6 ((0 : Int32) + x6) (2 : Int32))
set_option maxRecDepth 100000 in
set_option maxHeartbeats 4000000 in
theorem v_M_findOdds_108  {r : (Nat → Nat → Int32) × (Nat → Int64)} (k45 : (Nat → Nat → Int32) → (Nat → Int64) → Int32 → Int32 → Int32 → Option ((Nat → Nat → Int32) × (Nat → Int64))) (hk45 : ∀ (u : (Nat → Nat → Int32)) (w : (Nat → Int64)) (x1 : Int32) (x2 : Int32) (x3 : Int32), k45 u w x1 x2 x3 = some r → Vd RX7 "findOdds" cX7_findOdds 8 none (rm 6) (ab_eq none (h_M r.1 r.2)) 0 0 0 0 45 [(0, .ref 0), (1, .int x1), (2, .int x2), (3, .int x3)] [] (h_M u w)) (k65 : (Nat → Nat → Int32) → (Nat → Int64) → Int32 → Int32 → Int32 → Int64 → Int32 → Option ((Nat → Nat → Int32) × (Nat → Int64))) (hk65 : ∀ (u : (Nat → Nat → Int32)) (w : (Nat → Int64)) (x1 : Int32) (x2 : Int32) (x3 : Int32) (x4 : Int64) (x6 : Int32), k65 u w x1 x2 x3 x4 x6 = some r → Vd RX7 "findOdds" cX7_findOdds 8 none (rm 6) (ab_eq none (h_M r.1 r.2)) 0 0 0 0 65 [(0, .ref 0), (1, .int x1), (2, .int x2), (3, .int x3), (4, .long x4), (6, .int x6)] [] (h_M u w)) (u : (Nat → Nat → Int32)) (w : (Nat → Int64)) (x1 : Int32) (x2 : Int32) (x3 : Int32) (x6 : Int32) (x7 : Int32) (s0 : Int64) (s1 : Int64) (hd : d_M_findOdds_108 k45 k65 u w x1 x2 x3 x6 x7 s0 s1 = some r) : Vd RX7 "findOdds" cX7_findOdds 8 none (rm 6) (ab_eq none (h_M r.1 r.2)) 0 0 0 0 108 [(0, .ref 0), (1, .int x1), (2, .int x2), (3, .int x3), (6, .int x6), (7, .int x7)] [.long s1, .long s0] (h_M u w) := by
  unfold d_M_findOdds_108 at hd
  refine v_lmul dX7_findOdds_108 ?_
  refine v_topl (fun zy17 ze18 => ?_)
  have hd := dl_n hd zy17 ze18
  refine v_lstore (i := 4) (L2 := [(4, .long zy17), (0, .ref 0), (1, .int x1), (2, .int x2), (3, .int x3), (6, .int x6), (7, .int x7)]) dX7_findOdds_109 (Nat.le_of_ble_eq_true rfl) rfl ?_
  refine v_aload_n dX7_findOdds_111 rfl ?_
  refine v_get (v := .ref 2) dX7_findOdds_112 fl_X7_13 rfl rfl ?_
  refine v_iconst dX7_findOdds_115 ic_0 ?_
  refine v_iload dX7_findOdds_116 rfl ?_
  refine v_iadd dX7_findOdds_118 ?_
  refine v_iload dX7_findOdds_119 rfl ?_
  refine v_if_eq (tgt := 128) dX7_findOdds_121 (by decide) (fun zc19 => ?_) (fun zc19 => ?_)
  · have hd := g_t hd zc19
    refine v_aload_n dX7_findOdds_128 rfl ?_
    refine v_get (v := .ref 2) dX7_findOdds_129 fl_X7_13 rfl rfl ?_
    refine v_iconst dX7_findOdds_132 ic_0 ?_
    refine v_iload dX7_findOdds_133 rfl ?_
    refine v_iadd dX7_findOdds_135 ?_
    obtain ⟨zg20, hd⟩ := g_b hd
    refine v_iald (f := (u 2)) dX7_findOdds_136 rfl (gi_in zg20) ?_
    refine v_loc [1, 2, 3, 4, 0, 5] rfl ?_
    exact v_M_findOdds_137 k45 (hk45) k65 (hk65) u w x1 x2 x3 zy17 x6 ((0 : Int32) + x6) ((u 2) ((0 : Int32) + x6).toNatClampNeg) hd
  · have hd := g_f hd zc19
    refine v_iconst dX7_findOdds_124 ic_2 ?_
    refine v_goto (tgt := 137) dX7_findOdds_125 (by decide) ?_
    refine v_loc [1, 2, 3, 4, 0, 5] rfl ?_
    exact v_M_findOdds_137 k45 (hk45) k65 (hk65) u w x1 x2 x3 zy17 x6 ((0 : Int32) + x6) (2 : Int32) hd

def d_M_findOdds_89 (k45 : (Nat → Nat → Int32) → (Nat → Int64) → Int32 → Int32 → Int32 → Option ((Nat → Nat → Int32) × (Nat → Int64))) (k65 : (Nat → Nat → Int32) → (Nat → Int64) → Int32 → Int32 → Int32 → Int64 → Int32 → Option ((Nat → Nat → Int32) × (Nat → Int64))) (u : (Nat → Nat → Int32)) (w : (Nat → Int64)) (x1 : Int32) (x2 : Int32) (x3 : Int32) (x4 : Int64) (x6 : Int32) (s0 : Int32) : Option ((Nat → Nat → Int32) × (Nat → Int64)) := if s0 = 0 then (d_M_findOdds_108 k45 k65 u w x1 x2 x3 x6 s0 x4 (((10 : Int32) - x1).toInt64)) else (d_M_findOdds_108 k45 k65 u w x1 x2 x3 x6 s0 x4 x1.toInt64)
set_option maxRecDepth 100000 in
set_option maxHeartbeats 4000000 in
theorem v_M_findOdds_89  {r : (Nat → Nat → Int32) × (Nat → Int64)} (k45 : (Nat → Nat → Int32) → (Nat → Int64) → Int32 → Int32 → Int32 → Option ((Nat → Nat → Int32) × (Nat → Int64))) (hk45 : ∀ (u : (Nat → Nat → Int32)) (w : (Nat → Int64)) (x1 : Int32) (x2 : Int32) (x3 : Int32), k45 u w x1 x2 x3 = some r → Vd RX7 "findOdds" cX7_findOdds 8 none (rm 6) (ab_eq none (h_M r.1 r.2)) 0 0 0 0 45 [(0, .ref 0), (1, .int x1), (2, .int x2), (3, .int x3)] [] (h_M u w)) (k65 : (Nat → Nat → Int32) → (Nat → Int64) → Int32 → Int32 → Int32 → Int64 → Int32 → Option ((Nat → Nat → Int32) × (Nat → Int64))) (hk65 : ∀ (u : (Nat → Nat → Int32)) (w : (Nat → Int64)) (x1 : Int32) (x2 : Int32) (x3 : Int32) (x4 : Int64) (x6 : Int32), k65 u w x1 x2 x3 x4 x6 = some r → Vd RX7 "findOdds" cX7_findOdds 8 none (rm 6) (ab_eq none (h_M r.1 r.2)) 0 0 0 0 65 [(0, .ref 0), (1, .int x1), (2, .int x2), (3, .int x3), (4, .long x4), (6, .int x6)] [] (h_M u w)) (u : (Nat → Nat → Int32)) (w : (Nat → Int64)) (x1 : Int32) (x2 : Int32) (x3 : Int32) (x4 : Int64) (x6 : Int32) (s0 : Int32) (hd : d_M_findOdds_89 k45 k65 u w x1 x2 x3 x4 x6 s0 = some r) : Vd RX7 "findOdds" cX7_findOdds 8 none (rm 6) (ab_eq none (h_M r.1 r.2)) 0 0 0 0 89 [(0, .ref 0), (1, .int x1), (2, .int x2), (3, .int x3), (4, .long x4), (6, .int x6)] [.int s0] (h_M u w) := by
  unfold d_M_findOdds_89 at hd
  refine v_istore (i := 7) (L2 := [(7, .int s0), (0, .ref 0), (1, .int x1), (2, .int x2), (3, .int x3), (4, .long x4), (6, .int x6)]) dX7_findOdds_89 (Nat.le_of_ble_eq_true rfl) rfl ?_
  refine v_lload dX7_findOdds_91 rfl ?_
  refine v_iload dX7_findOdds_93 rfl ?_
  refine v_if_eq (tgt := 103) dX7_findOdds_95 (by decide) (fun zc16 => ?_) (fun zc16 => ?_)
  · have hd := g_t hd zc16
    refine v_bipush dX7_findOdds_103 bp_10 ?_
    refine v_iload_n dX7_findOdds_105 rfl ?_
    refine v_isub dX7_findOdds_106 ?_
    refine v_i2l dX7_findOdds_107 ?_
    refine v_loc [1, 2, 3, 4, 6, 0] rfl ?_
    exact v_M_findOdds_108 k45 (hk45) k65 (hk65) u w x1 x2 x3 x6 s0 x4 (((10 : Int32) - x1).toInt64) hd
  · have hd := g_f hd zc16
    refine v_iload_n dX7_findOdds_98 rfl ?_
    refine v_i2l dX7_findOdds_99 ?_
    refine v_goto (tgt := 108) dX7_findOdds_100 (by decide) ?_
    refine v_loc [1, 2, 3, 4, 6, 0] rfl ?_
    exact v_M_findOdds_108 k45 (hk45) k65 (hk65) u w x1 x2 x3 x6 s0 x4 x1.toInt64 hd

def d_M_findOdds_65 (k45 : (Nat → Nat → Int32) → (Nat → Int64) → Int32 → Int32 → Int32 → Option ((Nat → Nat → Int32) × (Nat → Int64))) : Nat → (Nat → Nat → Int32) → (Nat → Int64) → Int32 → Int32 → Int32 → Int64 → Int32 → Option ((Nat → Nat → Int32) × (Nat → Int64))
  | 0, _, _, _, _, _, _, _ => none
  | f + 1, u, w, x1, x2, x3, x4, x6 => if (u 0 3) ≤ x6 then ((d_M_lossOf u x2).bind fun zr6 => if ((zr6.2 2) (20 : Int32).toNatClampNeg) = ((zr6.2 1) (20 : Int32).toNatClampNeg) then (d_M_findOdds_179 k45 zr6.2 w x1 x2 x3 x4 zr6.1 (w 18) x4) else (d_M_findOdds_179 k45 zr6.2 w x1 x2 x3 x4 zr6.1 (w 18) (0 : Int64))) else (if ((x3 >>> (x6 &&& 31)) &&& (1 : Int32)) = (1 : Int32) then (d_M_findOdds_89 k45 (d_M_findOdds_65 k45 f) u w x1 x2 x3 x4 x6 (1 : Int32)) else (d_M_findOdds_89 k45 (d_M_findOdds_65 k45 f) u w x1 x2 x3 x4 x6 (0 : Int32)))
set_option maxRecDepth 100000 in
set_option maxHeartbeats 4000000 in
theorem v_M_findOdds_65  {r : (Nat → Nat → Int32) × (Nat → Int64)} (k45 : (Nat → Nat → Int32) → (Nat → Int64) → Int32 → Int32 → Int32 → Option ((Nat → Nat → Int32) × (Nat → Int64))) (hk45 : ∀ (u : (Nat → Nat → Int32)) (w : (Nat → Int64)) (x1 : Int32) (x2 : Int32) (x3 : Int32), k45 u w x1 x2 x3 = some r → Vd RX7 "findOdds" cX7_findOdds 8 none (rm 6) (ab_eq none (h_M r.1 r.2)) 0 0 0 0 45 [(0, .ref 0), (1, .int x1), (2, .int x2), (3, .int x3)] [] (h_M u w)) : ∀ (f : Nat) (u : (Nat → Nat → Int32)) (w : (Nat → Int64)) (x1 : Int32) (x2 : Int32) (x3 : Int32) (x4 : Int64) (x6 : Int32), d_M_findOdds_65 k45 f u w x1 x2 x3 x4 x6 = some r → Vd RX7 "findOdds" cX7_findOdds 8 none (rm 6) (ab_eq none (h_M r.1 r.2)) 0 0 0 0 65 [(0, .ref 0), (1, .int x1), (2, .int x2), (3, .int x3), (4, .long x4), (6, .int x6)] [] (h_M u w) := by
  intro f
  induction f with
  | zero =>
    intro u w x1 x2 x3 x4 x6 hd
    rw [d_M_findOdds_65] at hd
    cases hd
  | succ f ih =>
    intro u w x1 x2 x3 x4 x6 hd
    rw [d_M_findOdds_65] at hd
    refine v_iload dX7_findOdds_65 rfl ?_
    refine v_aload_n dX7_findOdds_67 rfl ?_
    refine v_get (v := .int (u 0 3)) dX7_findOdds_68 fl_X7_67 rfl rfl ?_
    refine v_icmp_ge (tgt := 144) dX7_findOdds_71 (by decide) (fun zc5 => ?_) (fun zc5 => ?_)
    · have hd := g_t hd zc5
      refine v_aload_n dX7_findOdds_144 rfl ?_
      refine v_iload_n dX7_findOdds_145 rfl ?_
      obtain ⟨zr6, zh7, hd⟩ := g_bind hd
      refine v_cI (dy := 5) (st := []) (st2 := [.int zr6.1]) dX7_findOdds_146 mv_X7_212 (m_M_lossOf u x2 w zh7) rfl rfl rfl rfl rfl (by decide) (by decide) rfl rfl ?_
      refine v_istore (i := 6) (L2 := [(6, .int zr6.1), (0, .ref 0), (1, .int x1), (2, .int x2), (3, .int x3), (4, .long x4)]) dX7_findOdds_149 (Nat.le_of_ble_eq_true rfl) rfl ?_
      refine v_aload_n dX7_findOdds_151 rfl ?_
      refine v_dup dX7_findOdds_152 rfl ?_
      refine v_get (v := .long (w 18)) dX7_findOdds_153 fl_X7_242 rfl rfl ?_
      refine v_aload_n dX7_findOdds_156 rfl ?_
      refine v_get (v := .ref 2) dX7_findOdds_157 fl_X7_13 rfl rfl ?_
      refine v_bipush dX7_findOdds_160 bp_20 ?_
      refine v_iald (f := (zr6.2 2)) dX7_findOdds_162 rfl gl_20_41 ?_
      refine v_aload_n dX7_findOdds_163 rfl ?_
      refine v_get (v := .ref 1) dX7_findOdds_164 fl_X7_7 rfl rfl ?_
      refine v_bipush dX7_findOdds_167 bp_20 ?_
      refine v_iald (f := (zr6.2 1)) dX7_findOdds_169 rfl gl_20_123 ?_
      refine v_icmp_ne (tgt := 178) dX7_findOdds_170 (by decide) (fun zc8 => ?_) (fun zc8 => ?_)
      · have hd := g_f hd zc8
        refine v_lconst (v := 0) dX7_findOdds_178 rfl ?_
        refine v_loc [1, 2, 3, 4, 5, 0] rfl ?_
        exact v_M_findOdds_179 k45 (hk45) zr6.2 w x1 x2 x3 x4 zr6.1 (w 18) (0 : Int64) hd
      · have hd := g_t hd zc8
        refine v_lload dX7_findOdds_173 rfl ?_
        refine v_goto (tgt := 179) dX7_findOdds_175 (by decide) ?_
        refine v_loc [1, 2, 3, 4, 5, 0] rfl ?_
        exact v_M_findOdds_179 k45 (hk45) zr6.2 w x1 x2 x3 x4 zr6.1 (w 18) x4 hd
    · have hd := g_f hd zc5
      refine v_iload_n dX7_findOdds_74 rfl ?_
      refine v_iload dX7_findOdds_75 rfl ?_
      refine v_ishr dX7_findOdds_77 ?_
      refine v_iconst dX7_findOdds_78 ic_1 ?_
      refine v_iand dX7_findOdds_79 ?_
      refine v_iconst dX7_findOdds_80 ic_1 ?_
      refine v_icmp_ne (tgt := 88) dX7_findOdds_81 (by decide) (fun zc15 => ?_) (fun zc15 => ?_)
      · have hd := g_f hd zc15
        refine v_iconst dX7_findOdds_88 ic_0 ?_
        exact v_M_findOdds_89 k45 (hk45) (d_M_findOdds_65 k45 f) (ih) u w x1 x2 x3 x4 x6 (0 : Int32) hd
      · have hd := g_t hd zc15
        refine v_iconst dX7_findOdds_84 ic_1 ?_
        refine v_goto (tgt := 89) dX7_findOdds_85 (by decide) ?_
        exact v_M_findOdds_89 k45 (hk45) (d_M_findOdds_65 k45 f) (ih) u w x1 x2 x3 x4 x6 (1 : Int32) hd

def d_M_findOdds_45  : Nat → (Nat → Nat → Int32) → (Nat → Int64) → Int32 → Int32 → Int32 → Option ((Nat → Nat → Int32) × (Nat → Int64))
  | 0, _, _, _, _, _ => none
  | f + 1, u, w, x1, x2, x3 => if ((1 : Int32) <<< ((u 0 3) &&& 31)) ≤ x3 then (some (u, w)) else ((d_M_starts u).bind fun zr3 => d_M_findOdds_65 (d_M_findOdds_45 f) FU zr3 w x1 x2 x3 (1 : Int64) (0 : Int32))
set_option maxRecDepth 100000 in
set_option maxHeartbeats 4000000 in
theorem v_M_findOdds_45  {r : (Nat → Nat → Int32) × (Nat → Int64)}  : ∀ (f : Nat) (u : (Nat → Nat → Int32)) (w : (Nat → Int64)) (x1 : Int32) (x2 : Int32) (x3 : Int32), d_M_findOdds_45  f u w x1 x2 x3 = some r → Vd RX7 "findOdds" cX7_findOdds 8 none (rm 6) (ab_eq none (h_M r.1 r.2)) 0 0 0 0 45 [(0, .ref 0), (1, .int x1), (2, .int x2), (3, .int x3)] [] (h_M u w) := by
  intro f
  induction f with
  | zero =>
    intro u w x1 x2 x3 hd
    rw [d_M_findOdds_45] at hd
    cases hd
  | succ f ih =>
    intro u w x1 x2 x3 hd
    rw [d_M_findOdds_45] at hd
    refine v_iload_n dX7_findOdds_45 rfl ?_
    refine v_iconst dX7_findOdds_46 ic_1 ?_
    refine v_aload_n dX7_findOdds_47 rfl ?_
    refine v_get (v := .int (u 0 3)) dX7_findOdds_48 fl_X7_67 rfl rfl ?_
    refine v_ishl dX7_findOdds_51 ?_
    refine v_icmp_ge (tgt := 204) dX7_findOdds_52 (by decide) (fun zc2 => ?_) (fun zc2 => ?_)
    · have hd := g_t hd zc2
      obtain rfl := Option.some.inj hd
      exact v_vretE dX7_findOdds_204 rfl rfl rfl
    · have hd := g_f hd zc2
      refine v_lconst (v := 1) dX7_findOdds_55 rfl ?_
      refine v_lstore (i := 4) (L2 := [(4, .long (1 : Int64)), (0, .ref 0), (1, .int x1), (2, .int x2), (3, .int x3)]) dX7_findOdds_56 (Nat.le_of_ble_eq_true rfl) rfl ?_
      refine v_aload_n dX7_findOdds_58 rfl ?_
      obtain ⟨zr3, zh4, hd⟩ := g_bind hd
      refine v_cI (dy := 0) (st := []) (st2 := []) dX7_findOdds_59 mv_X7_170 (m_M_starts u w zh4) rfl rfl rfl rfl rfl (by decide) (by decide) rfl rfl ?_
      refine v_iconst dX7_findOdds_62 ic_0 ?_
      refine v_istore (i := 6) (L2 := [(6, .int (0 : Int32)), (4, .long (1 : Int64)), (0, .ref 0), (1, .int x1), (2, .int x2), (3, .int x3)]) dX7_findOdds_63 (Nat.le_of_ble_eq_true rfl) rfl ?_
      refine v_loc [2, 3, 4, 5, 1, 0] rfl ?_
      exact v_M_findOdds_65 (d_M_findOdds_45 f) (ih) FU zr3 w x1 x2 x3 (1 : Int64) (0 : Int32) hd

def d_M_findOdds_17  : Nat → (Nat → Nat → Int32) → (Nat → Int64) → Int32 → Int32 → Int32 → Option ((Nat → Nat → Int32) × (Nat → Int64))
  | 0, _, _, _, _, _ => none
  | f + 1, u, w, x1, x2, x3 => if (u 0 3) ≤ x3 then (d_M_findOdds_45 FU u w x1 x2 (0 : Int32)) else (dl ((w 20) * (10 : Int64)) fun zy26 => dl (x3 + (1 : Int32)) fun zy28 => d_M_findOdds_17 f u (pwl w 20 zy26) x1 x2 zy28)
set_option maxRecDepth 100000 in
set_option maxHeartbeats 4000000 in
theorem v_M_findOdds_17  {r : (Nat → Nat → Int32) × (Nat → Int64)}  : ∀ (f : Nat) (u : (Nat → Nat → Int32)) (w : (Nat → Int64)) (x1 : Int32) (x2 : Int32) (x3 : Int32), d_M_findOdds_17  f u w x1 x2 x3 = some r → Vd RX7 "findOdds" cX7_findOdds 8 none (rm 6) (ab_eq none (h_M r.1 r.2)) 0 0 0 0 17 [(0, .ref 0), (1, .int x1), (2, .int x2), (3, .int x3)] [] (h_M u w) := by
  intro f
  induction f with
  | zero =>
    intro u w x1 x2 x3 hd
    rw [d_M_findOdds_17] at hd
    cases hd
  | succ f ih =>
    intro u w x1 x2 x3 hd
    rw [d_M_findOdds_17] at hd
    refine v_iload_n dX7_findOdds_17 rfl ?_
    refine v_aload_n dX7_findOdds_18 rfl ?_
    refine v_get (v := .int (u 0 3)) dX7_findOdds_19 fl_X7_67 rfl rfl ?_
    refine v_icmp_ge (tgt := 43) dX7_findOdds_22 (by decide) (fun zc1 => ?_) (fun zc1 => ?_)
    · have hd := g_t hd zc1
      refine v_iconst dX7_findOdds_43 ic_0 ?_
      refine v_istore_n (i := 3) (L2 := [(3, .int (0 : Int32)), (0, .ref 0), (1, .int x1), (2, .int x2)]) dX7_findOdds_44 rfl (Nat.le_of_ble_eq_true rfl) rfl ?_
      refine v_loc [1, 2, 3, 0] rfl ?_
      exact v_M_findOdds_45 FU u w x1 x2 (0 : Int32) hd
    · have hd := g_f hd zc1
      refine v_aload_n dX7_findOdds_25 rfl ?_
      refine v_dup dX7_findOdds_26 rfl ?_
      refine v_get (v := .long (w 20)) dX7_findOdds_27 fl_X7_249 rfl rfl ?_
      refine v_ldc2 dX7_findOdds_30 kc_X7_252 ?_
      refine v_lmul dX7_findOdds_33 ?_
      refine v_topl (fun zy26 ze27 => ?_)
      have hd := dl_n hd zy26 ze27
      refine v_ptl (h2 := (h_M u (pwl w 20 zy26))) dX7_findOdds_34 fl_X7_249 rfl (Nat.le_of_ble_eq_true rfl) rfl ?_
      obtain ⟨zy28, ze29⟩ : ∃ z : Int32, z = (x3 + (1 : Int32)) := ⟨_, rfl⟩
      have hd := dl_n hd zy28 ze29
      refine v_iinc (v := zy28) (L2 := [(3, .int zy28), (0, .ref 0), (1, .int x1), (2, .int x2)]) dX7_findOdds_37 rfl (by rw [ic_1]; exact ze29.symm) (Nat.le_of_ble_eq_true rfl) rfl ?_
      refine v_goto (tgt := 17) dX7_findOdds_40 (by decide) ?_
      refine v_loc [1, 2, 3, 0] rfl ?_
      exact ih u (pwl w 20 zy26) x1 x2 zy28 hd
def d_M_findOdds (u : (Nat → Nat → Int32)) (w : (Nat → Int64)) (a1 : Int32) (a2 : Int32) : Option ((Nat → Nat → Int32) × (Nat → Int64)) := d_M_findOdds_17 FU u (pwl (pwl (pwl w 18 (0 : Int64)) 19 (0 : Int64)) 20 (1 : Int64)) a1 a2 (0 : Int32)
set_option maxRecDepth 100000 in
set_option maxHeartbeats 4000000 in
theorem v_M_findOdds (u : (Nat → Nat → Int32)) (w : (Nat → Int64)) (a1 : Int32) (a2 : Int32) {r : (Nat → Nat → Int32) × (Nat → Int64)} (hd : d_M_findOdds u w a1 a2 = some r) : Vd RX7 "findOdds" cX7_findOdds 8 none (rm 6) (ab_eq none (h_M r.1 r.2)) 0 0 0 0 0 [(0, .ref 0), (1, .int a1), (2, .int a2)] [] (h_M u w) := by
  unfold d_M_findOdds at hd
  refine v_aload_n dX7_findOdds_0 rfl ?_
  refine v_lconst (v := 0) dX7_findOdds_1 rfl ?_
  refine v_ptl (h2 := (h_M u (pwl w 18 (0 : Int64)))) dX7_findOdds_2 fl_X7_242 rfl (Nat.le_of_ble_eq_true rfl) rfl ?_
  refine v_aload_n dX7_findOdds_5 rfl ?_
  refine v_lconst (v := 0) dX7_findOdds_6 rfl ?_
  refine v_ptl (h2 := (h_M u (pwl (pwl w 18 (0 : Int64)) 19 (0 : Int64)))) dX7_findOdds_7 fl_X7_246 rfl (Nat.le_of_ble_eq_true rfl) rfl ?_
  refine v_aload_n dX7_findOdds_10 rfl ?_
  refine v_lconst (v := 1) dX7_findOdds_11 rfl ?_
  refine v_ptl (h2 := (h_M u (pwl (pwl (pwl w 18 (0 : Int64)) 19 (0 : Int64)) 20 (1 : Int64)))) dX7_findOdds_12 fl_X7_249 rfl (Nat.le_of_ble_eq_true rfl) rfl ?_
  refine v_iconst dX7_findOdds_15 ic_0 ?_
  refine v_istore_n (i := 3) (L2 := [(3, .int (0 : Int32)), (0, .ref 0), (1, .int a1), (2, .int a2)]) dX7_findOdds_16 rfl (Nat.le_of_ble_eq_true rfl) rfl ?_
  refine v_loc [1, 2, 3, 0] rfl ?_
  exact v_M_findOdds_17 FU u (pwl (pwl (pwl w 18 (0 : Int64)) 19 (0 : Int64)) 20 (1 : Int64)) a1 a2 (0 : Int32) hd
theorem m_M_findOdds (u : (Nat → Nat → Int32)) (w : (Nat → Int64)) (a1 : Int32) (a2 : Int32) {r : (Nat → Nat → Int32) × (Nat → Int64)} (hd : d_M_findOdds u w a1 a2 = some r) : Mt yX7_findOdds cX7_findOdds 8 none (rm 6) [.ref 0, .int a1, .int a2] (h_M u w) (ab_eq none (h_M r.1 r.2)) := Mt.of (by decide +kernel) (fun _ _ _ => trivial) (Nat.le_of_ble_eq_true rfl) (v_M_findOdds u w a1 a2 hd)
def d_M_luck (u : (Nat → Nat → Int32)) (w : (Nat → Int64)) (a1 : Int32) (a2 : Int32) (a3 : Int32) : Option (Int64 × (Nat → Nat → Int32) × (Nat → Int64)) := (d_P_in a1.toInt64 (0 : Int64) (10 : Int64)).bind fun zr1 => if zr1 = 0 then (some ((-1 : Int64), u, w)) else ((d_P_in a2.toInt64 (0 : Int64) (20 : Int64)).bind fun zr4 => if zr4 = 0 then (some ((-1 : Int64), u, w)) else ((d_P_isPart a3).bind fun zr7 => if zr7 = 0 then (some ((-1 : Int64), u, w)) else ((d_M_findOdds u w a1 a2).bind fun zr10 => (d_P_told (zr10.2 18) (zr10.2 20) a3).bind fun zr12 => some (zr12, zr10.1, zr10.2))))
set_option maxRecDepth 100000 in
set_option maxHeartbeats 4000000 in
theorem v_M_luck (u : (Nat → Nat → Int32)) (w : (Nat → Int64)) (a1 : Int32) (a2 : Int32) (a3 : Int32) {r : Int64 × (Nat → Nat → Int32) × (Nat → Int64)} (hd : d_M_luck u w a1 a2 a3 = some r) : Vd RX7 "luck" cX7_luck 4 (some .long) (rm 7) (ab_eq (some (.long r.1)) (h_M r.2.1 r.2.2)) 0 0 0 0 0 [(0, .ref 0), (1, .int a1), (2, .int a2), (3, .int a3)] [] (h_M u w) := by
  unfold d_M_luck at hd
  refine v_iload_n dX7_luck_0 rfl ?_
  refine v_i2l dX7_luck_1 ?_
  refine v_lconst (v := 0) dX7_luck_2 rfl ?_
  refine v_ldc2 dX7_luck_3 kc_X7_252 ?_
  obtain ⟨zr1, zh2, hd⟩ := g_bind hd
  refine v_cS (dy := 0) (st := []) (st2 := [.int zr1]) (h2 := (h_M u w)) [] dX7_luck_6 mz_X7_72 (m_P_in a1.toInt64 (0 : Int64) (10 : Int64) zh2) rfl rfl rfl rfl rfl rfl (by decide) (by decide) rfl rfl rfl ?_
  refine v_if_eq (tgt := 31) dX7_luck_9 (by decide) (fun zc3 => ?_) (fun zc3 => ?_)
  · have hd := g_t hd zc3
    refine v_ldc2 dX7_luck_31 kc_X7_232 ?_
    obtain rfl := Option.some.inj hd
    exact v_lretE dX7_luck_34 rfl rfl rfl
  · have hd := g_f hd zc3
    refine v_iload_n dX7_luck_12 rfl ?_
    refine v_i2l dX7_luck_13 ?_
    refine v_lconst (v := 0) dX7_luck_14 rfl ?_
    refine v_ldc2 dX7_luck_15 kc_X7_192 ?_
    obtain ⟨zr4, zh5, hd⟩ := g_bind hd
    refine v_cS (dy := 0) (st := []) (st2 := [.int zr4]) (h2 := (h_M u w)) [] dX7_luck_18 mz_X7_72 (m_P_in a2.toInt64 (0 : Int64) (20 : Int64) zh5) rfl rfl rfl rfl rfl rfl (by decide) (by decide) rfl rfl rfl ?_
    refine v_if_eq (tgt := 31) dX7_luck_21 (by decide) (fun zc6 => ?_) (fun zc6 => ?_)
    · have hd := g_t hd zc6
      refine v_ldc2 dX7_luck_31 kc_X7_232 ?_
      obtain rfl := Option.some.inj hd
      exact v_lretE dX7_luck_34 rfl rfl rfl
    · have hd := g_f hd zc6
      refine v_iload_n dX7_luck_24 rfl ?_
      obtain ⟨zr7, zh8, hd⟩ := g_bind hd
      refine v_cS (dy := 1) (st := []) (st2 := [.int zr7]) (h2 := (h_M u w)) [] dX7_luck_25 mz_X7_182 (m_P_isPart a3 zh8) rfl rfl rfl rfl rfl rfl (by decide) (by decide) rfl rfl rfl ?_
      refine v_if_ne (tgt := 35) dX7_luck_28 (by decide) (fun zc9 => ?_) (fun zc9 => ?_)
      · have hd := g_f hd zc9
        refine v_aload_n dX7_luck_35 rfl ?_
        refine v_iload_n dX7_luck_36 rfl ?_
        refine v_iload_n dX7_luck_37 rfl ?_
        obtain ⟨zr10, zh11, hd⟩ := g_bind hd
        refine v_cI (dy := 6) (st := []) (st2 := []) dX7_luck_38 mv_X7_254 (m_M_findOdds u w a1 a2 zh11) rfl rfl rfl rfl rfl (by decide) (by decide) rfl rfl ?_
        refine v_aload_n dX7_luck_41 rfl ?_
        refine v_get (v := .long (zr10.2 18)) dX7_luck_42 fl_X7_242 rfl rfl ?_
        refine v_aload_n dX7_luck_45 rfl ?_
        refine v_get (v := .long (zr10.2 20)) dX7_luck_46 fl_X7_249 rfl rfl ?_
        refine v_iload_n dX7_luck_49 rfl ?_
        obtain ⟨zr12, zh13, hd⟩ := g_bind hd
        refine v_cS (dy := 1) (st := []) (st2 := [.long zr12]) (h2 := (h_M zr10.1 zr10.2)) [] dX7_luck_50 mz_X7_238 (m_P_told (zr10.2 18) (zr10.2 20) a3 zh13) rfl rfl rfl rfl rfl rfl (by decide) (by decide) rfl rfl rfl ?_
        obtain rfl := Option.some.inj hd
        exact v_lretE dX7_luck_53 rfl rfl rfl
      · have hd := g_t hd zc9
        refine v_ldc2 dX7_luck_31 kc_X7_232 ?_
        obtain rfl := Option.some.inj hd
        exact v_lretE dX7_luck_34 rfl rfl rfl
theorem m_M_luck (u : (Nat → Nat → Int32)) (w : (Nat → Int64)) (a1 : Int32) (a2 : Int32) (a3 : Int32) {r : Int64 × (Nat → Nat → Int32) × (Nat → Int64)} (hd : d_M_luck u w a1 a2 a3 = some r) : Mt yX7_luck cX7_luck 4 (some .long) (rm 7) [.ref 0, .int a1, .int a2, .int a3] (h_M u w) (ab_eq (some (.long r.1)) (h_M r.2.1 r.2.2)) := Mt.of (by decide +kernel) (fun _ _ _ => trivial) (Nat.le_of_ble_eq_true rfl) (v_M_luck u w a1 a2 a3 hd)
def d_M_mean (u : (Nat → Nat → Int32)) (w : (Nat → Int64)) (a1 : Int32) (a2 : Int32) (a3 : Int32) : Option (Int64 × (Nat → Nat → Int32) × (Nat → Int64)) := (d_P_in a1.toInt64 (0 : Int64) (10 : Int64)).bind fun zr1 => if zr1 = 0 then (some ((-1 : Int64), u, w)) else ((d_P_in a2.toInt64 (0 : Int64) (20 : Int64)).bind fun zr4 => if zr4 = 0 then (some ((-1 : Int64), u, w)) else ((d_P_isPart a3).bind fun zr7 => if zr7 = 0 then (some ((-1 : Int64), u, w)) else ((d_M_findOdds u w a1 a2).bind fun zr10 => (d_P_told (zr10.2 19) (zr10.2 20) a3).bind fun zr12 => some (zr12, zr10.1, zr10.2))))
set_option maxRecDepth 100000 in
set_option maxHeartbeats 4000000 in
theorem v_M_mean (u : (Nat → Nat → Int32)) (w : (Nat → Int64)) (a1 : Int32) (a2 : Int32) (a3 : Int32) {r : Int64 × (Nat → Nat → Int32) × (Nat → Int64)} (hd : d_M_mean u w a1 a2 a3 = some r) : Vd RX7 "mean" cX7_mean 4 (some .long) (rm 7) (ab_eq (some (.long r.1)) (h_M r.2.1 r.2.2)) 0 0 0 0 0 [(0, .ref 0), (1, .int a1), (2, .int a2), (3, .int a3)] [] (h_M u w) := by
  unfold d_M_mean at hd
  refine v_iload_n dX7_mean_0 rfl ?_
  refine v_i2l dX7_mean_1 ?_
  refine v_lconst (v := 0) dX7_mean_2 rfl ?_
  refine v_ldc2 dX7_mean_3 kc_X7_252 ?_
  obtain ⟨zr1, zh2, hd⟩ := g_bind hd
  refine v_cS (dy := 0) (st := []) (st2 := [.int zr1]) (h2 := (h_M u w)) [] dX7_mean_6 mz_X7_72 (m_P_in a1.toInt64 (0 : Int64) (10 : Int64) zh2) rfl rfl rfl rfl rfl rfl (by decide) (by decide) rfl rfl rfl ?_
  refine v_if_eq (tgt := 31) dX7_mean_9 (by decide) (fun zc3 => ?_) (fun zc3 => ?_)
  · have hd := g_t hd zc3
    refine v_ldc2 dX7_mean_31 kc_X7_232 ?_
    obtain rfl := Option.some.inj hd
    exact v_lretE dX7_mean_34 rfl rfl rfl
  · have hd := g_f hd zc3
    refine v_iload_n dX7_mean_12 rfl ?_
    refine v_i2l dX7_mean_13 ?_
    refine v_lconst (v := 0) dX7_mean_14 rfl ?_
    refine v_ldc2 dX7_mean_15 kc_X7_192 ?_
    obtain ⟨zr4, zh5, hd⟩ := g_bind hd
    refine v_cS (dy := 0) (st := []) (st2 := [.int zr4]) (h2 := (h_M u w)) [] dX7_mean_18 mz_X7_72 (m_P_in a2.toInt64 (0 : Int64) (20 : Int64) zh5) rfl rfl rfl rfl rfl rfl (by decide) (by decide) rfl rfl rfl ?_
    refine v_if_eq (tgt := 31) dX7_mean_21 (by decide) (fun zc6 => ?_) (fun zc6 => ?_)
    · have hd := g_t hd zc6
      refine v_ldc2 dX7_mean_31 kc_X7_232 ?_
      obtain rfl := Option.some.inj hd
      exact v_lretE dX7_mean_34 rfl rfl rfl
    · have hd := g_f hd zc6
      refine v_iload_n dX7_mean_24 rfl ?_
      obtain ⟨zr7, zh8, hd⟩ := g_bind hd
      refine v_cS (dy := 1) (st := []) (st2 := [.int zr7]) (h2 := (h_M u w)) [] dX7_mean_25 mz_X7_182 (m_P_isPart a3 zh8) rfl rfl rfl rfl rfl rfl (by decide) (by decide) rfl rfl rfl ?_
      refine v_if_ne (tgt := 35) dX7_mean_28 (by decide) (fun zc9 => ?_) (fun zc9 => ?_)
      · have hd := g_f hd zc9
        refine v_aload_n dX7_mean_35 rfl ?_
        refine v_iload_n dX7_mean_36 rfl ?_
        refine v_iload_n dX7_mean_37 rfl ?_
        obtain ⟨zr10, zh11, hd⟩ := g_bind hd
        refine v_cI (dy := 6) (st := []) (st2 := []) dX7_mean_38 mv_X7_254 (m_M_findOdds u w a1 a2 zh11) rfl rfl rfl rfl rfl (by decide) (by decide) rfl rfl ?_
        refine v_aload_n dX7_mean_41 rfl ?_
        refine v_get (v := .long (zr10.2 19)) dX7_mean_42 fl_X7_246 rfl rfl ?_
        refine v_aload_n dX7_mean_45 rfl ?_
        refine v_get (v := .long (zr10.2 20)) dX7_mean_46 fl_X7_249 rfl rfl ?_
        refine v_iload_n dX7_mean_49 rfl ?_
        obtain ⟨zr12, zh13, hd⟩ := g_bind hd
        refine v_cS (dy := 1) (st := []) (st2 := [.long zr12]) (h2 := (h_M zr10.1 zr10.2)) [] dX7_mean_50 mz_X7_238 (m_P_told (zr10.2 19) (zr10.2 20) a3 zh13) rfl rfl rfl rfl rfl rfl (by decide) (by decide) rfl rfl rfl ?_
        obtain rfl := Option.some.inj hd
        exact v_lretE dX7_mean_53 rfl rfl rfl
      · have hd := g_t hd zc9
        refine v_ldc2 dX7_mean_31 kc_X7_232 ?_
        obtain rfl := Option.some.inj hd
        exact v_lretE dX7_mean_34 rfl rfl rfl
theorem m_M_mean (u : (Nat → Nat → Int32)) (w : (Nat → Int64)) (a1 : Int32) (a2 : Int32) (a3 : Int32) {r : Int64 × (Nat → Nat → Int32) × (Nat → Int64)} (hd : d_M_mean u w a1 a2 a3 = some r) : Mt yX7_mean cX7_mean 4 (some .long) (rm 7) [.ref 0, .int a1, .int a2, .int a3] (h_M u w) (ab_eq (some (.long r.1)) (h_M r.2.1 r.2.2)) := Mt.of (by decide +kernel) (fun _ _ _ => trivial) (Nat.le_of_ble_eq_true rfl) (v_M_mean u w a1 a2 a3 hd)
def d_M_see (u : (Nat → Nat → Int32)) (a1 : Int32) (a2 : Int32) (a3 : Int32) : Option (Int32 × (Nat → Nat → Int32)) := (d_M_isHouse u a1).bind fun zr1 => if zr1 = 0 then (some ((-1 : Int32), u)) else ((d_P_in a2.toInt64 (1 : Int64) (9 : Int64)).bind fun zr4 => if zr4 = 0 then (some ((-1 : Int32), u)) else ((d_P_in a3.toInt64 (0 : Int64) (99 : Int64)).bind fun zr7 => if zr7 = 0 then (some ((-1 : Int32), u)) else (if ((u 1) (22 : Int32).toNatClampNeg) = (6 : Int32) then (some ((-3 : Int32), u)) else (dl ((23 : Int32) + ((3 : Int32) * ((u 1) (22 : Int32).toNatClampNeg))) fun zy11 => if gi zy11 123 = true then dl (pw u 1 zy11.toNatClampNeg a1) fun zu14 => if gi (zy11 + (1 : Int32)) 123 = true then dl (pw zu14 1 (zy11 + (1 : Int32)).toNatClampNeg a2) fun zu17 => if gi (zy11 + (2 : Int32)) 123 = true then dl (pw zu17 1 (zy11 + (2 : Int32)).toNatClampNeg a3) fun zu20 => dl (((zu20 1) (22 : Int32).toNatClampNeg) + (1 : Int32)) fun zy22 => some (((upd (zu20 1) (22 : Int32).toNatClampNeg zy22) (22 : Int32).toNatClampNeg), (pw zu20 1 (22 : Int32).toNatClampNeg zy22)) else none else none else none))))
set_option maxRecDepth 100000 in
set_option maxHeartbeats 4000000 in
theorem v_M_see (u : (Nat → Nat → Int32)) (a1 : Int32) (a2 : Int32) (a3 : Int32) (w : Nat → Int64) {r : Int32 × (Nat → Nat → Int32)} (hd : d_M_see u a1 a2 a3 = some r) : Vd RX7 "see" cX7_see 5 (some .int) (rm 2) (ab_eq (some (.int r.1)) (h_M r.2 w)) 0 0 0 0 0 [(0, .ref 0), (1, .int a1), (2, .int a2), (3, .int a3)] [] (h_M u w) := by
  unfold d_M_see at hd
  refine v_aload_n dX7_see_0 rfl ?_
  refine v_iload_n dX7_see_1 rfl ?_
  obtain ⟨zr1, zh2, hd⟩ := g_bind hd
  refine v_cI (dy := 1) (st := []) (st2 := [.int zr1]) dX7_see_2 mv_X7_176 (m_M_isHouse u a1 w zh2) rfl rfl rfl rfl rfl (by decide) (by decide) rfl rfl ?_
  refine v_if_eq (tgt := 32) dX7_see_5 (by decide) (fun zc3 => ?_) (fun zc3 => ?_)
  · have hd := g_t hd zc3
    refine v_iconst dX7_see_32 ic_m1 ?_
    obtain rfl := Option.some.inj hd
    exact v_iretE dX7_see_33 rfl rfl rfl rfl
  · have hd := g_f hd zc3
    refine v_iload_n dX7_see_8 rfl ?_
    refine v_i2l dX7_see_9 ?_
    refine v_lconst (v := 1) dX7_see_10 rfl ?_
    refine v_ldc2 dX7_see_11 kc_X7_194 ?_
    obtain ⟨zr4, zh5, hd⟩ := g_bind hd
    refine v_cS (dy := 0) (st := []) (st2 := [.int zr4]) (h2 := (h_M u w)) [] dX7_see_14 mz_X7_72 (m_P_in a2.toInt64 (1 : Int64) (9 : Int64) zh5) rfl rfl rfl rfl rfl rfl (by decide) (by decide) rfl rfl rfl ?_
    refine v_if_eq (tgt := 32) dX7_see_17 (by decide) (fun zc6 => ?_) (fun zc6 => ?_)
    · have hd := g_t hd zc6
      refine v_iconst dX7_see_32 ic_m1 ?_
      obtain rfl := Option.some.inj hd
      exact v_iretE dX7_see_33 rfl rfl rfl rfl
    · have hd := g_f hd zc6
      refine v_iload_n dX7_see_20 rfl ?_
      refine v_i2l dX7_see_21 ?_
      refine v_lconst (v := 0) dX7_see_22 rfl ?_
      refine v_ldc2 dX7_see_23 kc_X7_187 ?_
      obtain ⟨zr7, zh8, hd⟩ := g_bind hd
      refine v_cS (dy := 0) (st := []) (st2 := [.int zr7]) (h2 := (h_M u w)) [] dX7_see_26 mz_X7_72 (m_P_in a3.toInt64 (0 : Int64) (99 : Int64) zh8) rfl rfl rfl rfl rfl rfl (by decide) (by decide) rfl rfl rfl ?_
      refine v_if_ne (tgt := 34) dX7_see_29 (by decide) (fun zc9 => ?_) (fun zc9 => ?_)
      · have hd := g_f hd zc9
        refine v_aload_n dX7_see_34 rfl ?_
        refine v_get (v := .ref 1) dX7_see_35 fl_X7_7 rfl rfl ?_
        refine v_bipush dX7_see_38 bp_22 ?_
        refine v_iald (f := (u 1)) dX7_see_40 rfl gl_22_123 ?_
        refine v_bipush dX7_see_41 bp_6 ?_
        refine v_icmp_ne (tgt := 49) dX7_see_43 (by decide) (fun zc10 => ?_) (fun zc10 => ?_)
        · have hd := g_f hd zc10
          refine v_bipush dX7_see_49 bp_23 ?_
          refine v_iconst dX7_see_51 ic_3 ?_
          refine v_aload_n dX7_see_52 rfl ?_
          refine v_get (v := .ref 1) dX7_see_53 fl_X7_7 rfl rfl ?_
          refine v_bipush dX7_see_56 bp_22 ?_
          refine v_iald (f := (u 1)) dX7_see_58 rfl gl_22_123 ?_
          refine v_imul dX7_see_59 ?_
          refine v_iadd dX7_see_60 ?_
          refine v_topi (fun zy11 ze12 => ?_)
          have hd := dl_n hd zy11 ze12
          refine v_istore (i := 4) (L2 := [(4, .int zy11), (0, .ref 0), (1, .int a1), (2, .int a2), (3, .int a3)]) dX7_see_61 (Nat.le_of_ble_eq_true rfl) rfl ?_
          refine v_aload_n dX7_see_63 rfl ?_
          refine v_get (v := .ref 1) dX7_see_64 fl_X7_7 rfl rfl ?_
          refine v_iload dX7_see_67 rfl ?_
          refine v_iload_n dX7_see_69 rfl ?_
          obtain ⟨zg13, hd⟩ := g_b hd
          refine v_ist (f := (u 1)) (h2 := (h_M (pw u 1 zy11.toNatClampNeg a1) w)) dX7_see_70 rfl (gi_in zg13) rfl ?_
          refine v_nmu (F := fun z => (h_M z w)) (e := (pw u 1 zy11.toNatClampNeg a1)) (fun zu14 ze15 => ?_)
          have hd := dl_n hd zu14 ze15
          refine v_aload_n dX7_see_71 rfl ?_
          refine v_get (v := .ref 1) dX7_see_72 fl_X7_7 rfl rfl ?_
          refine v_iload dX7_see_75 rfl ?_
          refine v_iconst dX7_see_77 ic_1 ?_
          refine v_iadd dX7_see_78 ?_
          refine v_iload_n dX7_see_79 rfl ?_
          obtain ⟨zg16, hd⟩ := g_b hd
          refine v_ist (f := (zu14 1)) (h2 := (h_M (pw zu14 1 (zy11 + (1 : Int32)).toNatClampNeg a2) w)) dX7_see_80 rfl (gi_in zg16) rfl ?_
          refine v_nmu (F := fun z => (h_M z w)) (e := (pw zu14 1 (zy11 + (1 : Int32)).toNatClampNeg a2)) (fun zu17 ze18 => ?_)
          have hd := dl_n hd zu17 ze18
          refine v_aload_n dX7_see_81 rfl ?_
          refine v_get (v := .ref 1) dX7_see_82 fl_X7_7 rfl rfl ?_
          refine v_iload dX7_see_85 rfl ?_
          refine v_iconst dX7_see_87 ic_2 ?_
          refine v_iadd dX7_see_88 ?_
          refine v_iload_n dX7_see_89 rfl ?_
          obtain ⟨zg19, hd⟩ := g_b hd
          refine v_ist (f := (zu17 1)) (h2 := (h_M (pw zu17 1 (zy11 + (2 : Int32)).toNatClampNeg a3) w)) dX7_see_90 rfl (gi_in zg19) rfl ?_
          refine v_nmu (F := fun z => (h_M z w)) (e := (pw zu17 1 (zy11 + (2 : Int32)).toNatClampNeg a3)) (fun zu20 ze21 => ?_)
          have hd := dl_n hd zu20 ze21
          refine v_aload_n dX7_see_91 rfl ?_
          refine v_get (v := .ref 1) dX7_see_92 fl_X7_7 rfl rfl ?_
          refine v_bipush dX7_see_95 bp_22 ?_
          refine v_dup2 dX7_see_97 rfl rfl ?_
          refine v_iald (f := (zu20 1)) dX7_see_98 rfl gl_22_123 ?_
          refine v_iconst dX7_see_99 ic_1 ?_
          refine v_iadd dX7_see_100 ?_
          refine v_topi (fun zy22 ze23 => ?_)
          have hd := dl_n hd zy22 ze23
          refine v_ist (f := (zu20 1)) (h2 := (h_M (pw zu20 1 (22 : Int32).toNatClampNeg zy22) w)) dX7_see_101 rfl gl_22_123 rfl ?_
          refine v_aload_n dX7_see_102 rfl ?_
          refine v_get (v := .ref 1) dX7_see_103 fl_X7_7 rfl rfl ?_
          refine v_bipush dX7_see_106 bp_22 ?_
          refine v_iald (f := (upd (zu20 1) (22 : Int32).toNatClampNeg zy22)) dX7_see_108 rfl gl_22_123 ?_
          obtain rfl := Option.some.inj hd
          exact v_iretE dX7_see_109 rfl rfl rfl rfl
        · have hd := g_t hd zc10
          refine v_bipush dX7_see_46 bp_m3 ?_
          obtain rfl := Option.some.inj hd
          exact v_iretE dX7_see_48 rfl rfl rfl rfl
      · have hd := g_t hd zc9
        refine v_iconst dX7_see_32 ic_m1 ?_
        obtain rfl := Option.some.inj hd
        exact v_iretE dX7_see_33 rfl rfl rfl rfl
theorem m_M_see (u : (Nat → Nat → Int32)) (a1 : Int32) (a2 : Int32) (a3 : Int32) (w : Nat → Int64) {r : Int32 × (Nat → Nat → Int32)} (hd : d_M_see u a1 a2 a3 = some r) : Mt yX7_see cX7_see 5 (some .int) (rm 2) [.ref 0, .int a1, .int a2, .int a3] (h_M u w) (ab_eq (some (.int r.1)) (h_M r.2 w)) := Mt.of (by decide +kernel) (fun _ _ _ => trivial) (Nat.le_of_ble_eq_true rfl) (v_M_see u a1 a2 a3 w hd)
def d_M_forget (u : (Nat → Nat → Int32)) (a1 : Int32) : Option (Int32 × (Nat → Nat → Int32)) := (d_P_in a1.toInt64 (0 : Int64) (((u 1) (22 : Int32).toNatClampNeg).toInt64)).bind fun zr1 => if zr1 = 0 then (some ((-1 : Int32), u)) else ((d_M_becomes u (22 : Int32) a1).bind fun zr4 => some (zr4.1, zr4.2))
set_option maxRecDepth 100000 in
set_option maxHeartbeats 4000000 in
theorem v_M_forget (u : (Nat → Nat → Int32)) (a1 : Int32) (w : Nat → Int64) {r : Int32 × (Nat → Nat → Int32)} (hd : d_M_forget u a1 = some r) : Vd RX7 "forget" cX7_forget 2 (some .int) (rm 1) (ab_eq (some (.int r.1)) (h_M r.2 w)) 0 0 0 0 0 [(0, .ref 0), (1, .int a1)] [] (h_M u w) := by
  unfold d_M_forget at hd
  refine v_iload_n dX7_forget_0 rfl ?_
  refine v_i2l dX7_forget_1 ?_
  refine v_lconst (v := 0) dX7_forget_2 rfl ?_
  refine v_aload_n dX7_forget_3 rfl ?_
  refine v_get (v := .ref 1) dX7_forget_4 fl_X7_7 rfl rfl ?_
  refine v_bipush dX7_forget_7 bp_22 ?_
  refine v_iald (f := (u 1)) dX7_forget_9 rfl gl_22_123 ?_
  refine v_i2l dX7_forget_10 ?_
  obtain ⟨zr1, zh2, hd⟩ := g_bind hd
  refine v_cS (dy := 0) (st := []) (st2 := [.int zr1]) (h2 := (h_M u w)) [] dX7_forget_11 mz_X7_72 (m_P_in a1.toInt64 (0 : Int64) (((u 1) (22 : Int32).toNatClampNeg).toInt64) zh2) rfl rfl rfl rfl rfl rfl (by decide) (by decide) rfl rfl rfl ?_
  refine v_if_eq (tgt := 27) dX7_forget_14 (by decide) (fun zc3 => ?_) (fun zc3 => ?_)
  · have hd := g_t hd zc3
    refine v_iconst dX7_forget_27 ic_m1 ?_
    obtain rfl := Option.some.inj hd
    exact v_iretE dX7_forget_28 rfl rfl rfl rfl
  · have hd := g_f hd zc3
    refine v_aload_n dX7_forget_17 rfl ?_
    refine v_bipush dX7_forget_18 bp_22 ?_
    refine v_iload_n dX7_forget_20 rfl ?_
    obtain ⟨zr4, zh5, hd⟩ := g_bind hd
    refine v_cI (dy := 0) (st := []) (st2 := [.int zr4.1]) dX7_forget_21 mv_X7_189 (m_M_becomes u (22 : Int32) a1 w zh5) rfl rfl rfl rfl rfl (by decide) (by decide) rfl rfl ?_
    refine v_goto (tgt := 28) dX7_forget_24 (by decide) ?_
    obtain rfl := Option.some.inj hd
    exact v_iretE dX7_forget_28 rfl rfl rfl rfl
theorem m_M_forget (u : (Nat → Nat → Int32)) (a1 : Int32) (w : Nat → Int64) {r : Int32 × (Nat → Nat → Int32)} (hd : d_M_forget u a1 = some r) : Mt yX7_forget cX7_forget 2 (some .int) (rm 1) [.ref 0, .int a1] (h_M u w) (ab_eq (some (.int r.1)) (h_M r.2 w)) := Mt.of (by decide +kernel) (fun _ _ _ => trivial) (Nat.le_of_ble_eq_true rfl) (v_M_forget u a1 w hd)

def d_M_isFit_131 (k66 : (Nat → Nat → Int32) → Int32 → Int32 → Option (Int32 × (Nat → Nat → Int32))) (u : (Nat → Nat → Int32)) (x3 : Int32) (s0 : Int32) : Option (Int32 × (Nat → Nat → Int32)) := dl (x3 + (1 : Int32)) fun zy9 => k66 u s0 zy9
set_option maxRecDepth 100000 in
set_option maxHeartbeats 4000000 in
theorem v_M_isFit_131 (w : Nat → Int64) {r : Int32 × (Nat → Nat → Int32)} (k66 : (Nat → Nat → Int32) → Int32 → Int32 → Option (Int32 × (Nat → Nat → Int32))) (hk66 : ∀ (u : (Nat → Nat → Int32)) (x2 : Int32) (x3 : Int32), k66 u x2 x3 = some r → Vd RX7 "isFit" cX7_isFit 5 (some .boolean) (rm 4) (ab_eq (some (.int r.1)) (h_M r.2 w)) 0 0 0 0 66 [(0, .ref 0), (2, .int x2), (3, .int x3)] [] (h_M u w)) (u : (Nat → Nat → Int32)) (x3 : Int32) (s0 : Int32) (hd : d_M_isFit_131 k66 u x3 s0 = some r) : Vd RX7 "isFit" cX7_isFit 5 (some .boolean) (rm 4) (ab_eq (some (.int r.1)) (h_M r.2 w)) 0 0 0 0 131 [(0, .ref 0), (3, .int x3)] [.int s0] (h_M u w) := by
  unfold d_M_isFit_131 at hd
  refine v_istore_n (i := 2) (L2 := [(2, .int s0), (0, .ref 0), (3, .int x3)]) dX7_isFit_131 rfl (Nat.le_of_ble_eq_true rfl) rfl ?_
  obtain ⟨zy9, ze10⟩ : ∃ z : Int32, z = (x3 + (1 : Int32)) := ⟨_, rfl⟩
  have hd := dl_n hd zy9 ze10
  refine v_iinc (v := zy9) (L2 := [(3, .int zy9), (2, .int s0), (0, .ref 0)]) dX7_isFit_132 rfl (by rw [ic_1]; exact ze10.symm) (Nat.le_of_ble_eq_true rfl) rfl ?_
  refine v_goto (tgt := 66) dX7_isFit_135 (by decide) ?_
  refine v_loc [2, 1, 0] rfl ?_
  exact hk66 u s0 zy9 hd

def d_M_isFit_130 (k66 : (Nat → Nat → Int32) → Int32 → Int32 → Option (Int32 × (Nat → Nat → Int32))) (u : (Nat → Nat → Int32)) (x3 : Int32) : Option (Int32 × (Nat → Nat → Int32)) := d_M_isFit_131 k66 u x3 (0 : Int32)
set_option maxRecDepth 100000 in
set_option maxHeartbeats 4000000 in
theorem v_M_isFit_130 (w : Nat → Int64) {r : Int32 × (Nat → Nat → Int32)} (k66 : (Nat → Nat → Int32) → Int32 → Int32 → Option (Int32 × (Nat → Nat → Int32))) (hk66 : ∀ (u : (Nat → Nat → Int32)) (x2 : Int32) (x3 : Int32), k66 u x2 x3 = some r → Vd RX7 "isFit" cX7_isFit 5 (some .boolean) (rm 4) (ab_eq (some (.int r.1)) (h_M r.2 w)) 0 0 0 0 66 [(0, .ref 0), (2, .int x2), (3, .int x3)] [] (h_M u w)) (u : (Nat → Nat → Int32)) (x3 : Int32) (hd : d_M_isFit_130 k66 u x3 = some r) : Vd RX7 "isFit" cX7_isFit 5 (some .boolean) (rm 4) (ab_eq (some (.int r.1)) (h_M r.2 w)) 0 0 0 0 130 [(0, .ref 0), (3, .int x3)] [] (h_M u w) := by
  unfold d_M_isFit_130 at hd
  refine v_iconst dX7_isFit_130 ic_0 ?_
  exact v_M_isFit_131 w k66 (hk66) u x3 (0 : Int32) hd

def d_M_isFit_66  : Nat → (Nat → Nat → Int32) → Int32 → Int32 → Option (Int32 × (Nat → Nat → Int32))
  | 0, _, _, _ => none
  | f + 1, u, x2, x3 => if ((u 1) (22 : Int32).toNatClampNeg) ≤ x3 then (if x2 = 0 ∨ x2 = 1 then some (x2, u) else none) else (dl ((23 : Int32) + ((3 : Int32) * x3)) fun zy6 => if x2 = 0 then (d_M_isFit_130 (d_M_isFit_66 f) u x3) else (if gi zy6 123 = true then if gi (zy6 + (1 : Int32)) 123 = true then if gi (((10 : Int32) * ((u 1) zy6.toNatClampNeg)) + ((u 1) (zy6 + (1 : Int32)).toNatClampNeg)) 50 = true then if gi (zy6 + (2 : Int32)) 123 = true then if ((u 7) (((10 : Int32) * ((u 1) zy6.toNatClampNeg)) + ((u 1) (zy6 + (1 : Int32)).toNatClampNeg)).toNatClampNeg) = ((u 1) (zy6 + (2 : Int32)).toNatClampNeg) then (d_M_isFit_131 (d_M_isFit_66 f) u x3 (1 : Int32)) else (d_M_isFit_130 (d_M_isFit_66 f) u x3) else none else none else none else none))
set_option maxRecDepth 100000 in
set_option maxHeartbeats 4000000 in
theorem v_M_isFit_66 (w : Nat → Int64) {r : Int32 × (Nat → Nat → Int32)}  : ∀ (f : Nat) (u : (Nat → Nat → Int32)) (x2 : Int32) (x3 : Int32), d_M_isFit_66  f u x2 x3 = some r → Vd RX7 "isFit" cX7_isFit 5 (some .boolean) (rm 4) (ab_eq (some (.int r.1)) (h_M r.2 w)) 0 0 0 0 66 [(0, .ref 0), (2, .int x2), (3, .int x3)] [] (h_M u w) := by
  intro f
  induction f with
  | zero =>
    intro u x2 x3 hd
    rw [d_M_isFit_66] at hd
    cases hd
  | succ f ih =>
    intro u x2 x3 hd
    rw [d_M_isFit_66] at hd
    refine v_iload_n dX7_isFit_66 rfl ?_
    refine v_aload_n dX7_isFit_67 rfl ?_
    refine v_get (v := .ref 1) dX7_isFit_68 fl_X7_7 rfl rfl ?_
    refine v_bipush dX7_isFit_71 bp_22 ?_
    refine v_iald (f := (u 1)) dX7_isFit_73 rfl gl_22_123 ?_
    refine v_icmp_ge (tgt := 138) dX7_isFit_74 (by decide) (fun zc4 => ?_) (fun zc4 => ?_)
    · have hd := g_t hd zc4
      refine v_iload_n dX7_isFit_138 rfl ?_
      obtain ⟨zg5, hd⟩ := g_b hd
      obtain rfl := Option.some.inj hd
      exact v_iretE dX7_isFit_139 rfl (by rcases zg5 with zg5 | zg5 <;> rw [zg5] <;> rfl) rfl rfl
    · have hd := g_f hd zc4
      refine v_bipush dX7_isFit_77 bp_23 ?_
      refine v_iconst dX7_isFit_79 ic_3 ?_
      refine v_iload_n dX7_isFit_80 rfl ?_
      refine v_imul dX7_isFit_81 ?_
      refine v_iadd dX7_isFit_82 ?_
      refine v_topi (fun zy6 ze7 => ?_)
      have hd := dl_n hd zy6 ze7
      refine v_istore (i := 4) (L2 := [(4, .int zy6), (0, .ref 0), (2, .int x2), (3, .int x3)]) dX7_isFit_83 (Nat.le_of_ble_eq_true rfl) rfl ?_
      refine v_iload_n dX7_isFit_85 rfl ?_
      refine v_if_eq (tgt := 130) dX7_isFit_86 (by decide) (fun zc8 => ?_) (fun zc8 => ?_)
      · have hd := g_t hd zc8
        refine v_loc [1, 3] rfl ?_
        exact v_M_isFit_130 w (d_M_isFit_66 f) (ih) u x3 hd
      · have hd := g_f hd zc8
        refine v_aload_n dX7_isFit_89 rfl ?_
        refine v_get (v := .ref 7) dX7_isFit_90 fl_X7_29 rfl rfl ?_
        refine v_bipush dX7_isFit_93 bp_10 ?_
        refine v_aload_n dX7_isFit_95 rfl ?_
        refine v_get (v := .ref 1) dX7_isFit_96 fl_X7_7 rfl rfl ?_
        refine v_iload dX7_isFit_99 rfl ?_
        obtain ⟨zg11, hd⟩ := g_b hd
        refine v_iald (f := (u 1)) dX7_isFit_101 rfl (gi_in zg11) ?_
        refine v_imul dX7_isFit_102 ?_
        refine v_aload_n dX7_isFit_103 rfl ?_
        refine v_get (v := .ref 1) dX7_isFit_104 fl_X7_7 rfl rfl ?_
        refine v_iload dX7_isFit_107 rfl ?_
        refine v_iconst dX7_isFit_109 ic_1 ?_
        refine v_iadd dX7_isFit_110 ?_
        obtain ⟨zg12, hd⟩ := g_b hd
        refine v_iald (f := (u 1)) dX7_isFit_111 rfl (gi_in zg12) ?_
        refine v_iadd dX7_isFit_112 ?_
        obtain ⟨zg13, hd⟩ := g_b hd
        refine v_iald (f := (u 7)) dX7_isFit_113 rfl (gi_in zg13) ?_
        refine v_aload_n dX7_isFit_114 rfl ?_
        refine v_get (v := .ref 1) dX7_isFit_115 fl_X7_7 rfl rfl ?_
        refine v_iload dX7_isFit_118 rfl ?_
        refine v_iconst dX7_isFit_120 ic_2 ?_
        refine v_iadd dX7_isFit_121 ?_
        obtain ⟨zg14, hd⟩ := g_b hd
        refine v_iald (f := (u 1)) dX7_isFit_122 rfl (gi_in zg14) ?_
        refine v_icmp_ne (tgt := 130) dX7_isFit_123 (by decide) (fun zc15 => ?_) (fun zc15 => ?_)
        · have hd := g_f hd zc15
          refine v_loc [1, 3] rfl ?_
          exact v_M_isFit_130 w (d_M_isFit_66 f) (ih) u x3 hd
        · have hd := g_t hd zc15
          refine v_iconst dX7_isFit_126 ic_1 ?_
          refine v_goto (tgt := 131) dX7_isFit_127 (by decide) ?_
          refine v_loc [1, 3] rfl ?_
          exact v_M_isFit_131 w (d_M_isFit_66 f) (ih) u x3 (1 : Int32) hd

def d_M_isFit_22 (k9 : (Nat → Nat → Int32) → Int32 → Int32 → Option (Int32 × (Nat → Nat → Int32))) : Nat → (Nat → Nat → Int32) → Int32 → Int32 → Int32 → Option (Int32 × (Nat → Nat → Int32))
  | 0, _, _, _, _ => none
  | f + 1, u, x2, x3, x4 => if (u 0 3) ≤ x4 then (dl (x3 + (1 : Int32)) fun zy19 => k9 u x2 zy19) else (if gi ((5 : Int32) + x4) 41 = true then if gi (((10 : Int32) * x4) + x3) 50 = true then dl ((u 2) ((5 : Int32) + x4).toNatClampNeg) fun zy23 => dl (pw u 7 (((10 : Int32) * x4) + x3).toNatClampNeg zy23) fun zu25 => dl (x4 + (1 : Int32)) fun zy27 => d_M_isFit_22 k9 f zu25 x2 x3 zy27 else none else none)
set_option maxRecDepth 100000 in
set_option maxHeartbeats 4000000 in
theorem v_M_isFit_22 (w : Nat → Int64) {r : Int32 × (Nat → Nat → Int32)} (k9 : (Nat → Nat → Int32) → Int32 → Int32 → Option (Int32 × (Nat → Nat → Int32))) (hk9 : ∀ (u : (Nat → Nat → Int32)) (x2 : Int32) (x3 : Int32), k9 u x2 x3 = some r → Vd RX7 "isFit" cX7_isFit 5 (some .boolean) (rm 4) (ab_eq (some (.int r.1)) (h_M r.2 w)) 0 0 0 0 9 [(0, .ref 0), (2, .int x2), (3, .int x3)] [] (h_M u w)) : ∀ (f : Nat) (u : (Nat → Nat → Int32)) (x2 : Int32) (x3 : Int32) (x4 : Int32), d_M_isFit_22 k9 f u x2 x3 x4 = some r → Vd RX7 "isFit" cX7_isFit 5 (some .boolean) (rm 4) (ab_eq (some (.int r.1)) (h_M r.2 w)) 0 0 0 0 22 [(0, .ref 0), (2, .int x2), (3, .int x3), (4, .int x4)] [] (h_M u w) := by
  intro f
  induction f with
  | zero =>
    intro u x2 x3 x4 hd
    rw [d_M_isFit_22] at hd
    cases hd
  | succ f ih =>
    intro u x2 x3 x4 hd
    rw [d_M_isFit_22] at hd
    refine v_iload dX7_isFit_22 rfl ?_
    refine v_aload_n dX7_isFit_24 rfl ?_
    refine v_get (v := .int (u 0 3)) dX7_isFit_25 fl_X7_67 rfl rfl ?_
    refine v_icmp_ge (tgt := 58) dX7_isFit_28 (by decide) (fun zc18 => ?_) (fun zc18 => ?_)
    · have hd := g_t hd zc18
      obtain ⟨zy19, ze20⟩ : ∃ z : Int32, z = (x3 + (1 : Int32)) := ⟨_, rfl⟩
      have hd := dl_n hd zy19 ze20
      refine v_iinc (v := zy19) (L2 := [(3, .int zy19), (0, .ref 0), (2, .int x2), (4, .int x4)]) dX7_isFit_58 rfl (by rw [ic_1]; exact ze20.symm) (Nat.le_of_ble_eq_true rfl) rfl ?_
      refine v_goto (tgt := 9) dX7_isFit_61 (by decide) ?_
      refine v_loc [1, 2, 0] rfl ?_
      exact hk9 u x2 zy19 hd
    · have hd := g_f hd zc18
      refine v_aload_n dX7_isFit_31 rfl ?_
      refine v_get (v := .ref 7) dX7_isFit_32 fl_X7_29 rfl rfl ?_
      refine v_bipush dX7_isFit_35 bp_10 ?_
      refine v_iload dX7_isFit_37 rfl ?_
      refine v_imul dX7_isFit_39 ?_
      refine v_iload_n dX7_isFit_40 rfl ?_
      refine v_iadd dX7_isFit_41 ?_
      refine v_aload_n dX7_isFit_42 rfl ?_
      refine v_get (v := .ref 2) dX7_isFit_43 fl_X7_13 rfl rfl ?_
      refine v_iconst dX7_isFit_46 ic_5 ?_
      refine v_iload dX7_isFit_47 rfl ?_
      refine v_iadd dX7_isFit_49 ?_
      obtain ⟨zg21, hd⟩ := g_b hd
      refine v_iald (f := (u 2)) dX7_isFit_50 rfl (gi_in zg21) ?_
      obtain ⟨zg22, hd⟩ := g_b hd
      refine v_topi (fun zy23 ze24 => ?_)
      have hd := dl_n hd zy23 ze24
      refine v_ist (f := (u 7)) (h2 := (h_M (pw u 7 (((10 : Int32) * x4) + x3).toNatClampNeg zy23) w)) dX7_isFit_51 rfl (gi_in zg22) rfl ?_
      refine v_nmu (F := fun z => (h_M z w)) (e := (pw u 7 (((10 : Int32) * x4) + x3).toNatClampNeg zy23)) (fun zu25 ze26 => ?_)
      have hd := dl_n hd zu25 ze26
      obtain ⟨zy27, ze28⟩ : ∃ z : Int32, z = (x4 + (1 : Int32)) := ⟨_, rfl⟩
      have hd := dl_n hd zy27 ze28
      refine v_iinc (v := zy27) (L2 := [(4, .int zy27), (0, .ref 0), (2, .int x2), (3, .int x3)]) dX7_isFit_52 rfl (by rw [ic_1]; exact ze28.symm) (Nat.le_of_ble_eq_true rfl) rfl ?_
      refine v_goto (tgt := 22) dX7_isFit_55 (by decide) ?_
      refine v_loc [1, 2, 3, 0] rfl ?_
      exact ih zu25 x2 x3 zy27 hd

def d_M_isFit_9  : Nat → (Nat → Nat → Int32) → Int32 → Int32 → Option (Int32 × (Nat → Nat → Int32))
  | 0, _, _, _ => none
  | f + 1, u, x2, x3 => if (9 : Int32) < x3 then (d_M_isFit_66 FU u x2 (0 : Int32)) else ((d_M_nightGoes u).bind fun zr16 => d_M_isFit_22 (d_M_isFit_9 f) FU zr16 x2 x3 (0 : Int32))
set_option maxRecDepth 100000 in
set_option maxHeartbeats 4000000 in
theorem v_M_isFit_9 (w : Nat → Int64) {r : Int32 × (Nat → Nat → Int32)}  : ∀ (f : Nat) (u : (Nat → Nat → Int32)) (x2 : Int32) (x3 : Int32), d_M_isFit_9  f u x2 x3 = some r → Vd RX7 "isFit" cX7_isFit 5 (some .boolean) (rm 4) (ab_eq (some (.int r.1)) (h_M r.2 w)) 0 0 0 0 9 [(0, .ref 0), (2, .int x2), (3, .int x3)] [] (h_M u w) := by
  intro f
  induction f with
  | zero =>
    intro u x2 x3 hd
    rw [d_M_isFit_9] at hd
    cases hd
  | succ f ih =>
    intro u x2 x3 hd
    rw [d_M_isFit_9] at hd
    refine v_iload_n dX7_isFit_9 rfl ?_
    refine v_bipush dX7_isFit_10 bp_9 ?_
    refine v_icmp_gt (tgt := 64) dX7_isFit_12 (by decide) (fun zc3 => ?_) (fun zc3 => ?_)
    · have hd := g_t hd zc3
      refine v_iconst dX7_isFit_64 ic_0 ?_
      refine v_istore_n (i := 3) (L2 := [(3, .int (0 : Int32)), (0, .ref 0), (2, .int x2)]) dX7_isFit_65 rfl (Nat.le_of_ble_eq_true rfl) rfl ?_
      refine v_loc [1, 2, 0] rfl ?_
      exact v_M_isFit_66 w FU u x2 (0 : Int32) hd
    · have hd := g_f hd zc3
      refine v_aload_n dX7_isFit_15 rfl ?_
      obtain ⟨zr16, zh17, hd⟩ := g_bind hd
      refine v_cI (dy := 3) (st := []) (st2 := []) dX7_isFit_16 mv_X7_164 (m_M_nightGoes u w zh17) rfl rfl rfl rfl rfl (by decide) (by decide) rfl rfl ?_
      refine v_iconst dX7_isFit_19 ic_0 ?_
      refine v_istore (i := 4) (L2 := [(4, .int (0 : Int32)), (0, .ref 0), (2, .int x2), (3, .int x3)]) dX7_isFit_20 (Nat.le_of_ble_eq_true rfl) rfl ?_
      refine v_loc [1, 2, 3, 0] rfl ?_
      exact v_M_isFit_22 w (d_M_isFit_9 f) (ih) FU zr16 x2 x3 (0 : Int32) hd
def d_M_isFit (u : (Nat → Nat → Int32)) (a1 : Int32) : Option (Int32 × (Nat → Nat → Int32)) := (d_M_startsBy u a1).bind fun zr1 => d_M_isFit_9 FU zr1 (1 : Int32) (1 : Int32)
set_option maxRecDepth 100000 in
set_option maxHeartbeats 4000000 in
theorem v_M_isFit (u : (Nat → Nat → Int32)) (a1 : Int32) (w : Nat → Int64) {r : Int32 × (Nat → Nat → Int32)} (hd : d_M_isFit u a1 = some r) : Vd RX7 "isFit" cX7_isFit 5 (some .boolean) (rm 4) (ab_eq (some (.int r.1)) (h_M r.2 w)) 0 0 0 0 0 [(0, .ref 0), (1, .int a1)] [] (h_M u w) := by
  unfold d_M_isFit at hd
  refine v_iconst dX7_isFit_0 ic_1 ?_
  refine v_istore_n (i := 2) (L2 := [(2, .int (1 : Int32)), (0, .ref 0), (1, .int a1)]) dX7_isFit_1 rfl (Nat.le_of_ble_eq_true rfl) rfl ?_
  refine v_aload_n dX7_isFit_2 rfl ?_
  refine v_iload_n dX7_isFit_3 rfl ?_
  obtain ⟨zr1, zh2, hd⟩ := g_bind hd
  refine v_cI (dy := 1) (st := []) (st2 := []) dX7_isFit_4 mv_X7_209 (m_M_startsBy u a1 w zh2) rfl rfl rfl rfl rfl (by decide) (by decide) rfl rfl ?_
  refine v_iconst dX7_isFit_7 ic_1 ?_
  refine v_istore_n (i := 3) (L2 := [(3, .int (1 : Int32)), (2, .int (1 : Int32)), (0, .ref 0), (1, .int a1)]) dX7_isFit_8 rfl (Nat.le_of_ble_eq_true rfl) rfl ?_
  refine v_loc [2, 1, 0] rfl ?_
  exact v_M_isFit_9 w FU zr1 (1 : Int32) (1 : Int32) hd
theorem m_M_isFit (u : (Nat → Nat → Int32)) (a1 : Int32) (w : Nat → Int64) {r : Int32 × (Nat → Nat → Int32)} (hd : d_M_isFit u a1 = some r) : Mt yX7_isFit cX7_isFit 5 (some .boolean) (rm 4) [.ref 0, .int a1] (h_M u w) (ab_eq (some (.int r.1)) (h_M r.2 w)) := Mt.of (by decide +kernel) (fun _ _ _ => trivial) (Nat.le_of_ble_eq_true rfl) (v_M_isFit u a1 w hd)

def d_M_fits_91 (k31 : (Nat → Nat → Int32) → Int32 → Int32 → Int32 → Int32 → Int32 → Option (Int32 × (Nat → Nat → Int32))) (u : (Nat → Nat → Int32)) (x1 : Int32) (x2 : Int32) (x3 : Int32) (x4 : Int32) (x5 : Int32) : Option (Int32 × (Nat → Nat → Int32)) := dl (x5 + (1 : Int32)) fun zy12 => k31 u x1 x2 x3 x4 zy12
set_option maxRecDepth 100000 in
set_option maxHeartbeats 4000000 in
theorem v_M_fits_91 (w : Nat → Int64) {r : Int32 × (Nat → Nat → Int32)} (k31 : (Nat → Nat → Int32) → Int32 → Int32 → Int32 → Int32 → Int32 → Option (Int32 × (Nat → Nat → Int32))) (hk31 : ∀ (u : (Nat → Nat → Int32)) (x1 : Int32) (x2 : Int32) (x3 : Int32) (x4 : Int32) (x5 : Int32), k31 u x1 x2 x3 x4 x5 = some r → Vd RX7 "fits" cX7_fits 6 (some .int) (rm 5) (ab_eq (some (.int r.1)) (h_M r.2 w)) 0 0 0 0 31 [(0, .ref 0), (1, .int x1), (2, .int x2), (3, .int x3), (4, .int x4), (5, .int x5)] [] (h_M u w)) (u : (Nat → Nat → Int32)) (x1 : Int32) (x2 : Int32) (x3 : Int32) (x4 : Int32) (x5 : Int32) (hd : d_M_fits_91 k31 u x1 x2 x3 x4 x5 = some r) : Vd RX7 "fits" cX7_fits 6 (some .int) (rm 5) (ab_eq (some (.int r.1)) (h_M r.2 w)) 0 0 0 0 91 [(0, .ref 0), (1, .int x1), (2, .int x2), (3, .int x3), (4, .int x4), (5, .int x5)] [] (h_M u w) := by
  unfold d_M_fits_91 at hd
  obtain ⟨zy12, ze13⟩ : ∃ z : Int32, z = (x5 + (1 : Int32)) := ⟨_, rfl⟩
  have hd := dl_n hd zy12 ze13
  refine v_iinc (v := zy12) (L2 := [(5, .int zy12), (0, .ref 0), (1, .int x1), (2, .int x2), (3, .int x3), (4, .int x4)]) dX7_fits_91 rfl (by rw [ic_1]; exact ze13.symm) (Nat.le_of_ble_eq_true rfl) rfl ?_
  refine v_goto (tgt := 31) dX7_fits_94 (by decide) ?_
  refine v_loc [1, 2, 3, 4, 5, 0] rfl ?_
  exact hk31 u x1 x2 x3 x4 zy12 hd

def d_M_fits_85 (k31 : (Nat → Nat → Int32) → Int32 → Int32 → Int32 → Int32 → Int32 → Option (Int32 × (Nat → Nat → Int32))) (u : (Nat → Nat → Int32)) (x1 : Int32) (x2 : Int32) (x3 : Int32) (x5 : Int32) (s0 : Int32) (s1 : Int32) : Option (Int32 × (Nat → Nat → Int32)) := dl (s0 ||| s1) fun zy17 => dl (x2 + (1 : Int32)) fun zy19 => d_M_fits_91 k31 u x1 zy19 x3 zy17 x5
set_option maxRecDepth 100000 in
set_option maxHeartbeats 4000000 in
theorem v_M_fits_85 (w : Nat → Int64) {r : Int32 × (Nat → Nat → Int32)} (k31 : (Nat → Nat → Int32) → Int32 → Int32 → Int32 → Int32 → Int32 → Option (Int32 × (Nat → Nat → Int32))) (hk31 : ∀ (u : (Nat → Nat → Int32)) (x1 : Int32) (x2 : Int32) (x3 : Int32) (x4 : Int32) (x5 : Int32), k31 u x1 x2 x3 x4 x5 = some r → Vd RX7 "fits" cX7_fits 6 (some .int) (rm 5) (ab_eq (some (.int r.1)) (h_M r.2 w)) 0 0 0 0 31 [(0, .ref 0), (1, .int x1), (2, .int x2), (3, .int x3), (4, .int x4), (5, .int x5)] [] (h_M u w)) (u : (Nat → Nat → Int32)) (x1 : Int32) (x2 : Int32) (x3 : Int32) (x5 : Int32) (s0 : Int32) (s1 : Int32) (hd : d_M_fits_85 k31 u x1 x2 x3 x5 s0 s1 = some r) : Vd RX7 "fits" cX7_fits 6 (some .int) (rm 5) (ab_eq (some (.int r.1)) (h_M r.2 w)) 0 0 0 0 85 [(0, .ref 0), (1, .int x1), (2, .int x2), (3, .int x3), (5, .int x5)] [.int s1, .int s0] (h_M u w) := by
  unfold d_M_fits_85 at hd
  refine v_ior dX7_fits_85 ?_
  refine v_topi (fun zy17 ze18 => ?_)
  have hd := dl_n hd zy17 ze18
  refine v_istore (i := 4) (L2 := [(4, .int zy17), (0, .ref 0), (1, .int x1), (2, .int x2), (3, .int x3), (5, .int x5)]) dX7_fits_86 (Nat.le_of_ble_eq_true rfl) rfl ?_
  obtain ⟨zy19, ze20⟩ : ∃ z : Int32, z = (x2 + (1 : Int32)) := ⟨_, rfl⟩
  have hd := dl_n hd zy19 ze20
  refine v_iinc (v := zy19) (L2 := [(2, .int zy19), (4, .int zy17), (0, .ref 0), (1, .int x1), (3, .int x3), (5, .int x5)]) dX7_fits_88 rfl (by rw [ic_1]; exact ze20.symm) (Nat.le_of_ble_eq_true rfl) rfl ?_
  refine v_loc [2, 3, 0, 4, 1, 5] rfl ?_
  exact v_M_fits_91 w k31 (hk31) u x1 zy19 x3 zy17 x5 hd

def d_M_fits_59 (k31 : (Nat → Nat → Int32) → Int32 → Int32 → Int32 → Int32 → Int32 → Option (Int32 × (Nat → Nat → Int32))) (u : (Nat → Nat → Int32)) (x1 : Int32) (x2 : Int32) (x4 : Int32) (x5 : Int32) (s0 : Int32) : Option (Int32 × (Nat → Nat → Int32)) := if (10 : Int32) ≤ x1 then (if gi (((0 : Int32) + x1) - (10 : Int32)) 41 = true then d_M_fits_85 k31 u x1 x2 s0 x5 x4 ((1 : Int32) <<< (((u 2) (((0 : Int32) + x1) - (10 : Int32)).toNatClampNeg) &&& 31)) else none) else (d_M_fits_85 k31 u x1 x2 s0 x5 x4 (0 : Int32))
set_option maxRecDepth 100000 in
set_option maxHeartbeats 4000000 in
theorem v_M_fits_59 (w : Nat → Int64) {r : Int32 × (Nat → Nat → Int32)} (k31 : (Nat → Nat → Int32) → Int32 → Int32 → Int32 → Int32 → Int32 → Option (Int32 × (Nat → Nat → Int32))) (hk31 : ∀ (u : (Nat → Nat → Int32)) (x1 : Int32) (x2 : Int32) (x3 : Int32) (x4 : Int32) (x5 : Int32), k31 u x1 x2 x3 x4 x5 = some r → Vd RX7 "fits" cX7_fits 6 (some .int) (rm 5) (ab_eq (some (.int r.1)) (h_M r.2 w)) 0 0 0 0 31 [(0, .ref 0), (1, .int x1), (2, .int x2), (3, .int x3), (4, .int x4), (5, .int x5)] [] (h_M u w)) (u : (Nat → Nat → Int32)) (x1 : Int32) (x2 : Int32) (x4 : Int32) (x5 : Int32) (s0 : Int32) (hd : d_M_fits_59 k31 u x1 x2 x4 x5 s0 = some r) : Vd RX7 "fits" cX7_fits 6 (some .int) (rm 5) (ab_eq (some (.int r.1)) (h_M r.2 w)) 0 0 0 0 59 [(0, .ref 0), (1, .int x1), (2, .int x2), (4, .int x4), (5, .int x5)] [.int s0] (h_M u w) := by
  unfold d_M_fits_59 at hd
  refine v_istore_n (i := 3) (L2 := [(3, .int s0), (0, .ref 0), (1, .int x1), (2, .int x2), (4, .int x4), (5, .int x5)]) dX7_fits_59 rfl (Nat.le_of_ble_eq_true rfl) rfl ?_
  refine v_iload dX7_fits_60 rfl ?_
  refine v_iload_n dX7_fits_62 rfl ?_
  refine v_bipush dX7_fits_63 bp_10 ?_
  refine v_icmp_ge (tgt := 72) dX7_fits_65 (by decide) (fun zc15 => ?_) (fun zc15 => ?_)
  · have hd := g_t hd zc15
    refine v_iconst dX7_fits_72 ic_1 ?_
    refine v_aload_n dX7_fits_73 rfl ?_
    refine v_get (v := .ref 2) dX7_fits_74 fl_X7_13 rfl rfl ?_
    refine v_iconst dX7_fits_77 ic_0 ?_
    refine v_iload_n dX7_fits_78 rfl ?_
    refine v_iadd dX7_fits_79 ?_
    refine v_bipush dX7_fits_80 bp_10 ?_
    refine v_isub dX7_fits_82 ?_
    obtain ⟨zg16, hd⟩ := g_b hd
    refine v_iald (f := (u 2)) dX7_fits_83 rfl (gi_in zg16) ?_
    refine v_ishl dX7_fits_84 ?_
    refine v_loc [1, 2, 3, 0, 5] rfl ?_
    exact v_M_fits_85 w k31 (hk31) u x1 x2 s0 x5 x4 ((1 : Int32) <<< (((u 2) (((0 : Int32) + x1) - (10 : Int32)).toNatClampNeg) &&& 31)) hd
  · have hd := g_f hd zc15
    refine v_iconst dX7_fits_68 ic_0 ?_
    refine v_goto (tgt := 85) dX7_fits_69 (by decide) ?_
    refine v_loc [1, 2, 3, 0, 5] rfl ?_
    exact v_M_fits_85 w k31 (hk31) u x1 x2 s0 x5 x4 (0 : Int32) hd

def d_M_fits_31  : Nat → (Nat → Nat → Int32) → Int32 → Int32 → Int32 → Int32 → Int32 → Option (Int32 × (Nat → Nat → Int32))
  | 0, _, _, _, _, _, _ => none
  | f + 1, u, x1, x2, x3, x4, x5 => (d_M_numbers u).bind fun zr4 => if zr4 ≤ x5 then (if x1 = 0 then (some (x2, u)) else (if x1 = (1 : Int32) then (some (x3, u)) else (some (x4, u)))) else ((d_M_isFit u x5).bind fun zr9 => if zr9.1 = 0 then (d_M_fits_91 (d_M_fits_31 f) zr9.2 x1 x2 x3 x4 x5) else (if x2 = 0 then (d_M_fits_59 (d_M_fits_31 f) zr9.2 x1 x2 x4 x5 x5) else (d_M_fits_59 (d_M_fits_31 f) zr9.2 x1 x2 x4 x5 x3)))
set_option maxRecDepth 100000 in
set_option maxHeartbeats 4000000 in
theorem v_M_fits_31 (w : Nat → Int64) {r : Int32 × (Nat → Nat → Int32)}  : ∀ (f : Nat) (u : (Nat → Nat → Int32)) (x1 : Int32) (x2 : Int32) (x3 : Int32) (x4 : Int32) (x5 : Int32), d_M_fits_31  f u x1 x2 x3 x4 x5 = some r → Vd RX7 "fits" cX7_fits 6 (some .int) (rm 5) (ab_eq (some (.int r.1)) (h_M r.2 w)) 0 0 0 0 31 [(0, .ref 0), (1, .int x1), (2, .int x2), (3, .int x3), (4, .int x4), (5, .int x5)] [] (h_M u w) := by
  intro f
  induction f with
  | zero =>
    intro u x1 x2 x3 x4 x5 hd
    rw [d_M_fits_31] at hd
    cases hd
  | succ f ih =>
    intro u x1 x2 x3 x4 x5 hd
    rw [d_M_fits_31] at hd
    refine v_iload dX7_fits_31 rfl ?_
    refine v_aload_n dX7_fits_33 rfl ?_
    obtain ⟨zr4, zh5, hd⟩ := g_bind hd
    refine v_cI (dy := 0) (st := [.int x5]) (st2 := [.int zr4, .int x5]) dX7_fits_34 mv_X7_206 (m_M_numbers u w zh5) rfl rfl rfl rfl rfl (by decide) (by decide) rfl rfl ?_
    refine v_icmp_ge (tgt := 97) dX7_fits_37 (by decide) (fun zc6 => ?_) (fun zc6 => ?_)
    · have hd := g_t hd zc6
      refine v_iload_n dX7_fits_97 rfl ?_
      refine v_if_ne (tgt := 105) dX7_fits_98 (by decide) (fun zc7 => ?_) (fun zc7 => ?_)
      · have hd := g_f hd zc7
        refine v_iload_n dX7_fits_105 rfl ?_
        refine v_iconst dX7_fits_106 ic_1 ?_
        refine v_icmp_ne (tgt := 114) dX7_fits_107 (by decide) (fun zc8 => ?_) (fun zc8 => ?_)
        · have hd := g_f hd zc8
          refine v_iload dX7_fits_114 rfl ?_
          obtain rfl := Option.some.inj hd
          exact v_iretE dX7_fits_116 rfl rfl rfl rfl
        · have hd := g_t hd zc8
          refine v_iload_n dX7_fits_110 rfl ?_
          refine v_goto (tgt := 116) dX7_fits_111 (by decide) ?_
          obtain rfl := Option.some.inj hd
          exact v_iretE dX7_fits_116 rfl rfl rfl rfl
      · have hd := g_t hd zc7
        refine v_iload_n dX7_fits_101 rfl ?_
        refine v_goto (tgt := 116) dX7_fits_102 (by decide) ?_
        obtain rfl := Option.some.inj hd
        exact v_iretE dX7_fits_116 rfl rfl rfl rfl
    · have hd := g_f hd zc6
      refine v_aload_n dX7_fits_40 rfl ?_
      refine v_iload dX7_fits_41 rfl ?_
      obtain ⟨zr9, zh10, hd⟩ := g_bind hd
      refine v_cI (dy := 4) (st := []) (st2 := [.int zr9.1]) dX7_fits_43 mv_X7_257 (m_M_isFit u x5 w zh10) rfl rfl rfl rfl rfl (by decide) (by decide) rfl rfl ?_
      refine v_if_eq (tgt := 91) dX7_fits_46 (by decide) (fun zc11 => ?_) (fun zc11 => ?_)
      · have hd := g_t hd zc11
        exact v_M_fits_91 w (d_M_fits_31 f) (ih) zr9.2 x1 x2 x3 x4 x5 hd
      · have hd := g_f hd zc11
        refine v_iload_n dX7_fits_49 rfl ?_
        refine v_if_ne (tgt := 58) dX7_fits_50 (by decide) (fun zc14 => ?_) (fun zc14 => ?_)
        · have hd := g_f hd zc14
          refine v_iload_n dX7_fits_58 rfl ?_
          refine v_loc [0, 1, 2, 4, 5] rfl ?_
          exact v_M_fits_59 w (d_M_fits_31 f) (ih) zr9.2 x1 x2 x4 x5 x3 hd
        · have hd := g_t hd zc14
          refine v_iload dX7_fits_53 rfl ?_
          refine v_goto (tgt := 59) dX7_fits_55 (by decide) ?_
          refine v_loc [0, 1, 2, 4, 5] rfl ?_
          exact v_M_fits_59 w (d_M_fits_31 f) (ih) zr9.2 x1 x2 x4 x5 x5 hd

def d_M_fits_20  (u : (Nat → Nat → Int32)) (x1 : Int32) : Option (Int32 × (Nat → Nat → Int32)) := d_M_fits_31 FU u x1 (0 : Int32) (-4 : Int32) (0 : Int32) (0 : Int32)
set_option maxRecDepth 100000 in
set_option maxHeartbeats 4000000 in
theorem v_M_fits_20 (w : Nat → Int64) {r : Int32 × (Nat → Nat → Int32)}  (u : (Nat → Nat → Int32)) (x1 : Int32) (hd : d_M_fits_20  u x1 = some r) : Vd RX7 "fits" cX7_fits 6 (some .int) (rm 5) (ab_eq (some (.int r.1)) (h_M r.2 w)) 0 0 0 0 20 [(0, .ref 0), (1, .int x1)] [] (h_M u w) := by
  unfold d_M_fits_20 at hd
  refine v_iconst dX7_fits_20 ic_0 ?_
  refine v_istore_n (i := 2) (L2 := [(2, .int (0 : Int32)), (0, .ref 0), (1, .int x1)]) dX7_fits_21 rfl (Nat.le_of_ble_eq_true rfl) rfl ?_
  refine v_bipush dX7_fits_22 bp_m4 ?_
  refine v_istore_n (i := 3) (L2 := [(3, .int (-4 : Int32)), (2, .int (0 : Int32)), (0, .ref 0), (1, .int x1)]) dX7_fits_24 rfl (Nat.le_of_ble_eq_true rfl) rfl ?_
  refine v_iconst dX7_fits_25 ic_0 ?_
  refine v_istore (i := 4) (L2 := [(4, .int (0 : Int32)), (3, .int (-4 : Int32)), (2, .int (0 : Int32)), (0, .ref 0), (1, .int x1)]) dX7_fits_26 (Nat.le_of_ble_eq_true rfl) rfl ?_
  refine v_iconst dX7_fits_28 ic_0 ?_
  refine v_istore (i := 5) (L2 := [(5, .int (0 : Int32)), (4, .int (0 : Int32)), (3, .int (-4 : Int32)), (2, .int (0 : Int32)), (0, .ref 0), (1, .int x1)]) dX7_fits_29 (Nat.le_of_ble_eq_true rfl) rfl ?_
  refine v_loc [4, 5, 3, 2, 1, 0] rfl ?_
  exact v_M_fits_31 w FU u x1 (0 : Int32) (-4 : Int32) (0 : Int32) (0 : Int32) hd
def d_M_fits (u : (Nat → Nat → Int32)) (a1 : Int32) : Option (Int32 × (Nat → Nat → Int32)) := (d_P_isPart a1).bind fun zr1 => if zr1 = 0 then ((d_M_isHouse u (a1 - (10 : Int32))).bind fun zr21 => if zr21 = 0 then (some ((-1 : Int32), u)) else (d_M_fits_20 u a1)) else (d_M_fits_20 u a1)
set_option maxRecDepth 100000 in
set_option maxHeartbeats 4000000 in
theorem v_M_fits (u : (Nat → Nat → Int32)) (a1 : Int32) (w : Nat → Int64) {r : Int32 × (Nat → Nat → Int32)} (hd : d_M_fits u a1 = some r) : Vd RX7 "fits" cX7_fits 6 (some .int) (rm 5) (ab_eq (some (.int r.1)) (h_M r.2 w)) 0 0 0 0 0 [(0, .ref 0), (1, .int a1)] [] (h_M u w) := by
  unfold d_M_fits at hd
  refine v_iload_n dX7_fits_0 rfl ?_
  obtain ⟨zr1, zh2, hd⟩ := g_bind hd
  refine v_cS (dy := 1) (st := []) (st2 := [.int zr1]) (h2 := (h_M u w)) [] dX7_fits_1 mz_X7_182 (m_P_isPart a1 zh2) rfl rfl rfl rfl rfl rfl (by decide) (by decide) rfl rfl rfl ?_
  refine v_if_ne (tgt := 20) dX7_fits_4 (by decide) (fun zc3 => ?_) (fun zc3 => ?_)
  · have hd := g_f hd zc3
    exact v_M_fits_20 w u a1 hd
  · have hd := g_t hd zc3
    refine v_aload_n dX7_fits_7 rfl ?_
    refine v_iload_n dX7_fits_8 rfl ?_
    refine v_bipush dX7_fits_9 bp_10 ?_
    refine v_isub dX7_fits_11 ?_
    obtain ⟨zr21, zh22, hd⟩ := g_bind hd
    refine v_cI (dy := 1) (st := []) (st2 := [.int zr21]) dX7_fits_12 mv_X7_176 (m_M_isHouse u (a1 - (10 : Int32)) w zh22) rfl rfl rfl rfl rfl (by decide) (by decide) rfl rfl ?_
    refine v_if_ne (tgt := 20) dX7_fits_15 (by decide) (fun zc23 => ?_) (fun zc23 => ?_)
    · have hd := g_f hd zc23
      exact v_M_fits_20 w u a1 hd
    · have hd := g_t hd zc23
      refine v_iconst dX7_fits_18 ic_m1 ?_
      obtain rfl := Option.some.inj hd
      exact v_iretE dX7_fits_19 rfl rfl rfl rfl
theorem m_M_fits (u : (Nat → Nat → Int32)) (a1 : Int32) (w : Nat → Int64) {r : Int32 × (Nat → Nat → Int32)} (hd : d_M_fits u a1 = some r) : Mt yX7_fits cX7_fits 6 (some .int) (rm 5) [.ref 0, .int a1] (h_M u w) (ab_eq (some (.int r.1)) (h_M r.2 w)) := Mt.of (by decide +kernel) (fun _ _ _ => trivial) (Nat.le_of_ble_eq_true rfl) (v_M_fits u a1 w hd)
