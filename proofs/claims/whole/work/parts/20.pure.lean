
def d_P_outside_10   : Option Int32 := some (1 : Int32)
set_option maxRecDepth 100000 in
set_option maxHeartbeats 4000000 in
theorem v_P_outside_10  {r : Int32}   (hd : d_P_outside_10   = some r) : Vd RX6 "outside" cX6_outside 3 (some .boolean) (rm 0) (ab_eq (some (.int r)) []) 0 0 0 0 10 [] [] [] := by
  unfold d_P_outside_10 at hd
  refine v_iconst dX6_outside_10 ic_1 ?_
  refine v_goto (tgt := 15) dX6_outside_11 (by decide) ?_
  obtain rfl := Option.some.inj hd
  exact v_iretE dX6_outside_15 rfl rfl rfl rfl
def d_P_outside (a0 : Int32) (a1 : Int32) (a2 : Int32) : Option Int32 := if a0 < a1 then (d_P_outside_10) else (if a0 ≤ a2 then (some (0 : Int32)) else (d_P_outside_10))
set_option maxRecDepth 100000 in
set_option maxHeartbeats 4000000 in
theorem v_P_outside (a0 : Int32) (a1 : Int32) (a2 : Int32) {r : Int32} (hd : d_P_outside a0 a1 a2 = some r) : Vd RX6 "outside" cX6_outside 3 (some .boolean) (rm 0) (ab_eq (some (.int r)) []) 0 0 0 0 0 [(0, .int a0), (1, .int a1), (2, .int a2)] [] [] := by
  unfold d_P_outside at hd
  refine v_iload_n dX6_outside_0 rfl ?_
  refine v_iload_n dX6_outside_1 rfl ?_
  refine v_icmp_lt (tgt := 10) dX6_outside_2 (by decide) (fun zc1 => ?_) (fun zc1 => ?_)
  · have hd := g_t hd zc1
    refine v_loc [] rfl ?_
    exact v_P_outside_10 hd
  · have hd := g_f hd zc1
    refine v_iload_n dX6_outside_5 rfl ?_
    refine v_iload_n dX6_outside_6 rfl ?_
    refine v_icmp_le (tgt := 14) dX6_outside_7 (by decide) (fun zc2 => ?_) (fun zc2 => ?_)
    · have hd := g_t hd zc2
      refine v_iconst dX6_outside_14 ic_0 ?_
      obtain rfl := Option.some.inj hd
      exact v_iretE dX6_outside_15 rfl rfl rfl rfl
    · have hd := g_f hd zc2
      refine v_loc [] rfl ?_
      exact v_P_outside_10 hd
theorem m_P_outside (a0 : Int32) (a1 : Int32) (a2 : Int32) {r : Int32} (hd : d_P_outside a0 a1 a2 = some r) : Mt yX6_outside cX6_outside 3 (some .boolean) (rm 0) [.int a0, .int a1, .int a2] [] (ab_eq (some (.int r)) []) := Mt.of (by decide +kernel) (fun _ _ _ => trivial) (Nat.le_of_ble_eq_true rfl) (v_P_outside a0 a1 a2 hd)

def d_P_power_5  : Nat → Int32 → Int32 → Int64 → Int32 → Option Int64
  | 0, _, _, _, _ => none
  | f + 1, x0, x1, x2, x4 => if x1 ≤ x4 then (some x2) else (dl (x2 * x0.toInt64) fun zy2 => dl (x4 + (1 : Int32)) fun zy4 => d_P_power_5 f x0 x1 zy2 zy4)
set_option maxRecDepth 100000 in
set_option maxHeartbeats 4000000 in
theorem v_P_power_5  {r : Int64}  : ∀ (f : Nat) (x0 : Int32) (x1 : Int32) (x2 : Int64) (x4 : Int32), d_P_power_5  f x0 x1 x2 x4 = some r → Vd RX6 "power" cX6_power 5 (some .long) (rm 0) (ab_eq (some (.long r)) []) 0 0 0 0 5 [(0, .int x0), (1, .int x1), (2, .long x2), (4, .int x4)] [] [] := by
  intro f
  induction f with
  | zero =>
    intro x0 x1 x2 x4 hd
    rw [d_P_power_5] at hd
    cases hd
  | succ f ih =>
    intro x0 x1 x2 x4 hd
    rw [d_P_power_5] at hd
    refine v_iload dX6_power_5 rfl ?_
    refine v_iload_n dX6_power_7 rfl ?_
    refine v_icmp_ge (tgt := 22) dX6_power_8 (by decide) (fun zc1 => ?_) (fun zc1 => ?_)
    · have hd := g_t hd zc1
      refine v_lload_n dX6_power_22 rfl ?_
      obtain rfl := Option.some.inj hd
      exact v_lretE dX6_power_23 rfl rfl rfl
    · have hd := g_f hd zc1
      refine v_lload_n dX6_power_11 rfl ?_
      refine v_iload_n dX6_power_12 rfl ?_
      refine v_i2l dX6_power_13 ?_
      refine v_lmul dX6_power_14 ?_
      refine v_topl (fun zy2 ze3 => ?_)
      have hd := dl_n hd zy2 ze3
      refine v_lstore_n (i := 2) (L2 := [(2, .long zy2), (0, .int x0), (1, .int x1), (4, .int x4)]) dX6_power_15 rfl (Nat.le_of_ble_eq_true rfl) rfl ?_
      obtain ⟨zy4, ze5⟩ : ∃ z : Int32, z = (x4 + (1 : Int32)) := ⟨_, rfl⟩
      have hd := dl_n hd zy4 ze5
      refine v_iinc (v := zy4) (L2 := [(4, .int zy4), (2, .long zy2), (0, .int x0), (1, .int x1)]) dX6_power_16 rfl (by rw [ic_1]; exact ze5.symm) (Nat.le_of_ble_eq_true rfl) rfl ?_
      refine v_goto (tgt := 5) dX6_power_19 (by decide) ?_
      refine v_loc [2, 3, 1, 0] rfl ?_
      exact ih x0 x1 zy2 zy4 hd
def d_P_power (a0 : Int32) (a1 : Int32) : Option Int64 := d_P_power_5 FU a0 a1 (1 : Int64) (0 : Int32)
set_option maxRecDepth 100000 in
set_option maxHeartbeats 4000000 in
theorem v_P_power (a0 : Int32) (a1 : Int32) {r : Int64} (hd : d_P_power a0 a1 = some r) : Vd RX6 "power" cX6_power 5 (some .long) (rm 0) (ab_eq (some (.long r)) []) 0 0 0 0 0 [(0, .int a0), (1, .int a1)] [] [] := by
  unfold d_P_power at hd
  refine v_lconst (v := 1) dX6_power_0 rfl ?_
  refine v_lstore_n (i := 2) (L2 := [(2, .long (1 : Int64)), (0, .int a0), (1, .int a1)]) dX6_power_1 rfl (Nat.le_of_ble_eq_true rfl) rfl ?_
  refine v_iconst dX6_power_2 ic_0 ?_
  refine v_istore (i := 4) (L2 := [(4, .int (0 : Int32)), (2, .long (1 : Int64)), (0, .int a0), (1, .int a1)]) dX6_power_3 (Nat.le_of_ble_eq_true rfl) rfl ?_
  refine v_loc [2, 3, 1, 0] rfl ?_
  exact v_P_power_5 FU a0 a1 (1 : Int64) (0 : Int32) hd
theorem m_P_power (a0 : Int32) (a1 : Int32) {r : Int64} (hd : d_P_power a0 a1 = some r) : Mt yX6_power cX6_power 5 (some .long) (rm 0) [.int a0, .int a1] [] (ab_eq (some (.long r)) []) := Mt.of (by decide +kernel) (fun _ _ _ => trivial) (Nat.le_of_ble_eq_true rfl) (v_P_power a0 a1 hd)
def d_P_factorial (a0 : Int32) : Option Int64 := (d_P_outside a0 (0 : Int32) (5 : Int32)).bind fun zr1 => if zr1 = 0 then (if gi a0 6 = true then some ((ab_fac a0.toNatClampNeg).toInt64) else none) else (some (0 : Int64))
set_option maxRecDepth 100000 in
set_option maxHeartbeats 4000000 in
theorem v_P_factorial (a0 : Int32) {r : Int64} (hd : d_P_factorial a0 = some r) : Vd RX6 "factorial" cX6_factorial 1 (some .long) (rm 1) (ab_eq (some (.long r)) []) 0 0 0 0 0 [(0, .int a0)] [] [] := by
  unfold d_P_factorial at hd
  refine v_iload_n dX6_factorial_0 rfl ?_
  refine v_iconst dX6_factorial_1 ic_0 ?_
  refine v_iconst dX6_factorial_2 ic_5 ?_
  obtain ⟨zr1, zh2, hd⟩ := g_bind hd
  refine v_cS (dy := 0) (st := []) (st2 := [.int zr1]) (h2 := []) [] dX6_factorial_3 mz_X6_54 (m_P_outside a0 (0 : Int32) (5 : Int32) zh2) rfl rfl rfl rfl rfl rfl (by decide) (by decide) rfl rfl rfl ?_
  refine v_if_eq (tgt := 13) dX6_factorial_6 (by decide) (fun zc3 => ?_) (fun zc3 => ?_)
  · have hd := g_t hd zc3
    refine v_gets dX6_factorial_13 kg_X6_274 ?_
    refine v_iload_n dX6_factorial_16 rfl ?_
    obtain ⟨zg4, hd⟩ := g_b hd
    refine v_tald dX6_factorial_17 (gi_in zg4) ?_
    refine v_i2l dX6_factorial_18 ?_
    obtain rfl := Option.some.inj hd
    exact v_lretE dX6_factorial_19 rfl rfl rfl
  · have hd := g_f hd zc3
    refine v_lconst (v := 0) dX6_factorial_9 rfl ?_
    refine v_goto (tgt := 19) dX6_factorial_10 (by decide) ?_
    obtain rfl := Option.some.inj hd
    exact v_lretE dX6_factorial_19 rfl rfl rfl
theorem m_P_factorial (a0 : Int32) {r : Int64} (hd : d_P_factorial a0 = some r) : Mt yX6_factorial cX6_factorial 1 (some .long) (rm 1) [.int a0] [] (ab_eq (some (.long r)) []) := Mt.of (by decide +kernel) (fun _ _ _ => trivial) (Nat.le_of_ble_eq_true rfl) (v_P_factorial a0 hd)
def d_P_abs (a0 : Int64) : Option Int64 := if 0 ≤ (lg_cmp a0 (0 : Int64)) then (some a0) else (some (-a0))
set_option maxRecDepth 100000 in
set_option maxHeartbeats 4000000 in
theorem v_P_abs (a0 : Int64) {r : Int64} (hd : d_P_abs a0 = some r) : Vd RJ9 "abs" cJ9_abs_067f4 2 (some .long) (rm 0) (ab_eq (some (.long r)) []) 0 0 0 0 0 [(0, .long a0)] [] [] := by
  unfold d_P_abs at hd
  refine v_lload_n dJ9_abs_067f4_0 rfl ?_
  refine v_lconst (v := 0) dJ9_abs_067f4_1 rfl ?_
  refine v_lcmp dJ9_abs_067f4_2 ?_
  refine v_if_ge (tgt := 11) dJ9_abs_067f4_3 (by decide) (fun zc1 => ?_) (fun zc1 => ?_)
  · have hd := g_t hd zc1
    refine v_lload_n dJ9_abs_067f4_11 rfl ?_
    obtain rfl := Option.some.inj hd
    exact v_lretE dJ9_abs_067f4_12 rfl rfl rfl
  · have hd := g_f hd zc1
    refine v_lload_n dJ9_abs_067f4_6 rfl ?_
    refine v_lneg dJ9_abs_067f4_7 ?_
    refine v_goto (tgt := 12) dJ9_abs_067f4_8 (by decide) ?_
    obtain rfl := Option.some.inj hd
    exact v_lretE dJ9_abs_067f4_12 rfl rfl rfl
theorem m_P_abs (a0 : Int64) {r : Int64} (hd : d_P_abs a0 = some r) : Mt yJ9_abs_067f4 cJ9_abs_067f4 2 (some .long) (rm 0) [.long a0] [] (ab_eq (some (.long r)) []) := Mt.of (by decide +kernel) (fun _ _ _ => trivial) (Nat.le_of_ble_eq_true rfl) (v_P_abs a0 hd)

def d_P_commonDivisor_9  : Nat → Int64 → Int64 → Int32 → Option Int64
  | 0, _, _, _ => none
  | f + 1, x4, x6, x8 => if (128 : Int32) ≤ x8 then (some x4) else (if (lg_cmp x6 (0 : Int64)) = 0 then (some x4) else (if x6 = 0 then none else dl (x4 - x4 / x6 * x6) fun zy4 => dl (x8 + (1 : Int32)) fun zy6 => d_P_commonDivisor_9 f x6 zy4 zy6))
set_option maxRecDepth 100000 in
set_option maxHeartbeats 4000000 in
theorem v_P_commonDivisor_9  {r : Int64}  : ∀ (f : Nat) (x4 : Int64) (x6 : Int64) (x8 : Int32), d_P_commonDivisor_9  f x4 x6 x8 = some r → Vd RX6 "commonDivisor" cX6_commonDivisor 11 (some .long) (rm 0) (ab_eq (some (.long r)) []) 0 0 0 0 9 [(4, .long x4), (6, .long x6), (8, .int x8)] [] [] := by
  intro f
  induction f with
  | zero =>
    intro x4 x6 x8 hd
    rw [d_P_commonDivisor_9] at hd
    cases hd
  | succ f ih =>
    intro x4 x6 x8 hd
    rw [d_P_commonDivisor_9] at hd
    refine v_iload dX6_commonDivisor_9 rfl ?_
    refine v_sipush dX6_commonDivisor_11 sp_128 ?_
    refine v_icmp_ge (tgt := 45) dX6_commonDivisor_14 (by decide) (fun zc1 => ?_) (fun zc1 => ?_)
    · have hd := g_t hd zc1
      refine v_lload dX6_commonDivisor_45 rfl ?_
      obtain rfl := Option.some.inj hd
      exact v_lretE dX6_commonDivisor_47 rfl rfl rfl
    · have hd := g_f hd zc1
      refine v_lload dX6_commonDivisor_17 rfl ?_
      refine v_lconst (v := 0) dX6_commonDivisor_19 rfl ?_
      refine v_lcmp dX6_commonDivisor_20 ?_
      refine v_if_eq (tgt := 45) dX6_commonDivisor_21 (by decide) (fun zc2 => ?_) (fun zc2 => ?_)
      · have hd := g_t hd zc2
        refine v_lload dX6_commonDivisor_45 rfl ?_
        obtain rfl := Option.some.inj hd
        exact v_lretE dX6_commonDivisor_47 rfl rfl rfl
      · have hd := g_f hd zc2
        refine v_lload dX6_commonDivisor_24 rfl ?_
        refine v_lload dX6_commonDivisor_26 rfl ?_
        obtain ⟨zg3, hd⟩ := g_n hd
        refine v_lrem dX6_commonDivisor_28 zg3 ?_
        refine v_topl (fun zy4 ze5 => ?_)
        have hd := dl_n hd zy4 ze5
        refine v_lstore (i := 9) (L2 := [(9, .long zy4), (4, .long x4), (6, .long x6), (8, .int x8)]) dX6_commonDivisor_29 (Nat.le_of_ble_eq_true rfl) rfl ?_
        refine v_lload dX6_commonDivisor_31 rfl ?_
        refine v_lstore (i := 4) (L2 := [(4, .long x6), (9, .long zy4), (6, .long x6), (8, .int x8)]) dX6_commonDivisor_33 (Nat.le_of_ble_eq_true rfl) rfl ?_
        refine v_lload dX6_commonDivisor_35 rfl ?_
        refine v_lstore (i := 6) (L2 := [(6, .long zy4), (4, .long x6), (9, .long zy4), (8, .int x8)]) dX6_commonDivisor_37 (Nat.le_of_ble_eq_true rfl) rfl ?_
        obtain ⟨zy6, ze7⟩ : ∃ z : Int32, z = (x8 + (1 : Int32)) := ⟨_, rfl⟩
        have hd := dl_n hd zy6 ze7
        refine v_iinc (v := zy6) (L2 := [(8, .int zy6), (6, .long zy4), (4, .long x6), (9, .long zy4)]) dX6_commonDivisor_39 rfl (by rw [ic_1]; exact ze7.symm) (Nat.le_of_ble_eq_true rfl) rfl ?_
        refine v_goto (tgt := 9) dX6_commonDivisor_42 (by decide) ?_
        refine v_loc [2, 1, 0] rfl ?_
        exact ih x6 zy4 zy6 hd
def d_P_commonDivisor (a0 : Int64) (a2 : Int64) : Option Int64 := d_P_commonDivisor_9 FU a0 a2 (0 : Int32)
set_option maxRecDepth 100000 in
set_option maxHeartbeats 4000000 in
theorem v_P_commonDivisor (a0 : Int64) (a2 : Int64) {r : Int64} (hd : d_P_commonDivisor a0 a2 = some r) : Vd RX6 "commonDivisor" cX6_commonDivisor 11 (some .long) (rm 0) (ab_eq (some (.long r)) []) 0 0 0 0 0 [(0, .long a0), (2, .long a2)] [] [] := by
  unfold d_P_commonDivisor at hd
  refine v_lload_n dX6_commonDivisor_0 rfl ?_
  refine v_lstore (i := 4) (L2 := [(4, .long a0), (0, .long a0), (2, .long a2)]) dX6_commonDivisor_1 (Nat.le_of_ble_eq_true rfl) rfl ?_
  refine v_lload_n dX6_commonDivisor_3 rfl ?_
  refine v_lstore (i := 6) (L2 := [(6, .long a2), (4, .long a0), (0, .long a0), (2, .long a2)]) dX6_commonDivisor_4 (Nat.le_of_ble_eq_true rfl) rfl ?_
  refine v_iconst dX6_commonDivisor_6 ic_0 ?_
  refine v_istore (i := 8) (L2 := [(8, .int (0 : Int32)), (6, .long a2), (4, .long a0), (0, .long a0), (2, .long a2)]) dX6_commonDivisor_7 (Nat.le_of_ble_eq_true rfl) rfl ?_
  refine v_loc [2, 1, 0] rfl ?_
  exact v_P_commonDivisor_9 FU a0 a2 (0 : Int32) hd
theorem m_P_commonDivisor (a0 : Int64) (a2 : Int64) {r : Int64} (hd : d_P_commonDivisor a0 a2 = some r) : Mt yX6_commonDivisor cX6_commonDivisor 11 (some .long) (rm 0) [.long a0, .long a2] [] (ab_eq (some (.long r)) []) := Mt.of (by decide +kernel) (fun _ _ _ => trivial) (Nat.le_of_ble_eq_true rfl) (v_P_commonDivisor a0 a2 hd)
def d_P_partOfFraction (a0 : Int64) (a2 : Int64) (a4 : Int32) : Option Int64 := (d_P_abs a0).bind fun zr1 => (d_P_commonDivisor zr1 a2).bind fun zr3 => if (lg_cmp zr3 (0 : Int64)) = 0 then (some (0 : Int64)) else (if a4 = 0 then (if zr3 = 0 then none else some (a0 / zr3)) else (if zr3 = 0 then none else some (a2 / zr3)))
set_option maxRecDepth 100000 in
set_option maxHeartbeats 4000000 in
theorem v_P_partOfFraction (a0 : Int64) (a2 : Int64) (a4 : Int32) {r : Int64} (hd : d_P_partOfFraction a0 a2 a4 = some r) : Vd RX6 "partOfFraction" cX6_partOfFraction 7 (some .long) (rm 1) (ab_eq (some (.long r)) []) 0 0 0 0 0 [(0, .long a0), (2, .long a2), (4, .int a4)] [] [] := by
  unfold d_P_partOfFraction at hd
  refine v_lload_n dX6_partOfFraction_0 rfl ?_
  obtain ⟨zr1, zh2, hd⟩ := g_bind hd
  refine v_cS (dy := 0) (st := []) (st2 := [.long zr1]) (h2 := []) [] dX6_partOfFraction_1 mz_X6_277 (m_P_abs a0 zh2) rfl rfl rfl rfl rfl rfl (by decide) (by decide) rfl rfl rfl ?_
  refine v_lload_n dX6_partOfFraction_4 rfl ?_
  obtain ⟨zr3, zh4, hd⟩ := g_bind hd
  refine v_cS (dy := 0) (st := []) (st2 := [.long zr3]) (h2 := []) [] dX6_partOfFraction_5 mz_X6_283 (m_P_commonDivisor zr1 a2 zh4) rfl rfl rfl rfl rfl rfl (by decide) (by decide) rfl rfl rfl ?_
  refine v_lstore (i := 5) (L2 := [(5, .long zr3), (0, .long a0), (2, .long a2), (4, .int a4)]) dX6_partOfFraction_8 (Nat.le_of_ble_eq_true rfl) rfl ?_
  refine v_lload dX6_partOfFraction_10 rfl ?_
  refine v_lconst (v := 0) dX6_partOfFraction_12 rfl ?_
  refine v_lcmp dX6_partOfFraction_13 ?_
  refine v_if_ne (tgt := 19) dX6_partOfFraction_14 (by decide) (fun zc5 => ?_) (fun zc5 => ?_)
  · have hd := g_f hd zc5
    refine v_iload dX6_partOfFraction_19 rfl ?_
    refine v_if_ne (tgt := 31) dX6_partOfFraction_21 (by decide) (fun zc6 => ?_) (fun zc6 => ?_)
    · have hd := g_f hd zc6
      refine v_lload_n dX6_partOfFraction_31 rfl ?_
      refine v_lload dX6_partOfFraction_32 rfl ?_
      obtain ⟨zg7, hd⟩ := g_n hd
      refine v_ldiv dX6_partOfFraction_34 zg7 ?_
      obtain rfl := Option.some.inj hd
      exact v_lretE dX6_partOfFraction_35 rfl rfl rfl
    · have hd := g_t hd zc6
      refine v_lload_n dX6_partOfFraction_24 rfl ?_
      refine v_lload dX6_partOfFraction_25 rfl ?_
      obtain ⟨zg8, hd⟩ := g_n hd
      refine v_ldiv dX6_partOfFraction_27 zg8 ?_
      refine v_goto (tgt := 35) dX6_partOfFraction_28 (by decide) ?_
      obtain rfl := Option.some.inj hd
      exact v_lretE dX6_partOfFraction_35 rfl rfl rfl
  · have hd := g_t hd zc5
    refine v_lconst (v := 0) dX6_partOfFraction_17 rfl ?_
    obtain rfl := Option.some.inj hd
    exact v_lretE dX6_partOfFraction_18 rfl rfl rfl
theorem m_P_partOfFraction (a0 : Int64) (a2 : Int64) (a4 : Int32) {r : Int64} (hd : d_P_partOfFraction a0 a2 a4 = some r) : Mt yX6_partOfFraction cX6_partOfFraction 7 (some .long) (rm 1) [.long a0, .long a2, .int a4] [] (ab_eq (some (.long r)) []) := Mt.of (by decide +kernel) (fun _ _ _ => trivial) (Nat.le_of_ble_eq_true rfl) (v_P_partOfFraction a0 a2 a4 hd)
def d_P_slot (a0 : Int32) (a1 : Int32) : Option Int32 := some (((a0 * (9 : Int32)) + a1) - (1 : Int32))
set_option maxRecDepth 100000 in
set_option maxHeartbeats 4000000 in
theorem v_P_slot (a0 : Int32) (a1 : Int32) {r : Int32} (hd : d_P_slot a0 a1 = some r) : Vd RX6 "slot" cX6_slot 2 (some .int) (rm 0) (ab_eq (some (.int r)) []) 0 0 0 0 0 [(0, .int a0), (1, .int a1)] [] [] := by
  unfold d_P_slot at hd
  refine v_iload_n dX6_slot_0 rfl ?_
  refine v_bipush dX6_slot_1 bp_9 ?_
  refine v_imul dX6_slot_3 ?_
  refine v_iload_n dX6_slot_4 rfl ?_
  refine v_iadd dX6_slot_5 ?_
  refine v_iconst dX6_slot_6 ic_1 ?_
  refine v_isub dX6_slot_7 ?_
  obtain rfl := Option.some.inj hd
  exact v_iretE dX6_slot_8 rfl rfl rfl rfl
theorem m_P_slot (a0 : Int32) (a1 : Int32) {r : Int32} (hd : d_P_slot a0 a1 = some r) : Mt yX6_slot cX6_slot 2 (some .int) (rm 0) [.int a0, .int a1] [] (ab_eq (some (.int r)) []) := Mt.of (by decide +kernel) (fun _ _ _ => trivial) (Nat.le_of_ble_eq_true rfl) (v_P_slot a0 a1 hd)
def d_P_in (a0 : Int64) (a2 : Int64) (a4 : Int64) : Option Int32 := if (lg_cmp a0 a2) < 0 then (some (0 : Int32)) else (if 0 < (lg_cmp a0 a4) then (some (0 : Int32)) else (some (1 : Int32)))
set_option maxRecDepth 100000 in
set_option maxHeartbeats 4000000 in
theorem v_P_in (a0 : Int64) (a2 : Int64) (a4 : Int64) {r : Int32} (hd : d_P_in a0 a2 a4 = some r) : Vd RX7 "in" cX7_in 6 (some .boolean) (rm 0) (ab_eq (some (.int r)) []) 0 0 0 0 0 [(0, .long a0), (2, .long a2), (4, .long a4)] [] [] := by
  unfold d_P_in at hd
  refine v_lload_n dX7_in_0 rfl ?_
  refine v_lload_n dX7_in_1 rfl ?_
  refine v_lcmp dX7_in_2 ?_
  refine v_if_lt (tgt := 17) dX7_in_3 (by decide) (fun zc1 => ?_) (fun zc1 => ?_)
  · have hd := g_t hd zc1
    refine v_iconst dX7_in_17 ic_0 ?_
    obtain rfl := Option.some.inj hd
    exact v_iretE dX7_in_18 rfl rfl rfl rfl
  · have hd := g_f hd zc1
    refine v_lload_n dX7_in_6 rfl ?_
    refine v_lload dX7_in_7 rfl ?_
    refine v_lcmp dX7_in_9 ?_
    refine v_if_gt (tgt := 17) dX7_in_10 (by decide) (fun zc2 => ?_) (fun zc2 => ?_)
    · have hd := g_t hd zc2
      refine v_iconst dX7_in_17 ic_0 ?_
      obtain rfl := Option.some.inj hd
      exact v_iretE dX7_in_18 rfl rfl rfl rfl
    · have hd := g_f hd zc2
      refine v_iconst dX7_in_13 ic_1 ?_
      refine v_goto (tgt := 18) dX7_in_14 (by decide) ?_
      obtain rfl := Option.some.inj hd
      exact v_iretE dX7_in_18 rfl rfl rfl rfl
theorem m_P_in (a0 : Int64) (a2 : Int64) (a4 : Int64) {r : Int32} (hd : d_P_in a0 a2 a4 = some r) : Mt yX7_in cX7_in 6 (some .boolean) (rm 0) [.long a0, .long a2, .long a4] [] (ab_eq (some (.int r)) []) := Mt.of (by decide +kernel) (fun _ _ _ => trivial) (Nat.le_of_ble_eq_true rfl) (v_P_in a0 a2 a4 hd)
def d_P_flag (a0 : Int32) : Option Int32 := if a0 = 0 then (some (0 : Int32)) else (some (1 : Int32))
set_option maxRecDepth 100000 in
set_option maxHeartbeats 4000000 in
theorem v_P_flag (a0 : Int32) {r : Int32} (hd : d_P_flag a0 = some r) : Vd RX7 "flag" cX7_flag 1 (some .int) (rm 0) (ab_eq (some (.int r)) []) 0 0 0 0 0 [(0, .int a0)] [] [] := by
  unfold d_P_flag at hd
  refine v_iload_n dX7_flag_0 rfl ?_
  refine v_if_eq (tgt := 8) dX7_flag_1 (by decide) (fun zc1 => ?_) (fun zc1 => ?_)
  · have hd := g_t hd zc1
    refine v_iconst dX7_flag_8 ic_0 ?_
    obtain rfl := Option.some.inj hd
    exact v_iretE dX7_flag_9 rfl rfl rfl rfl
  · have hd := g_f hd zc1
    refine v_iconst dX7_flag_4 ic_1 ?_
    refine v_goto (tgt := 9) dX7_flag_5 (by decide) ?_
    obtain rfl := Option.some.inj hd
    exact v_iretE dX7_flag_9 rfl rfl rfl rfl
theorem m_P_flag (a0 : Int32) {r : Int32} (hd : d_P_flag a0 = some r) : Mt yX7_flag cX7_flag 1 (some .int) (rm 0) [.int a0] [] (ab_eq (some (.int r)) []) := Mt.of (by decide +kernel) (fun _ _ _ => trivial) (Nat.le_of_ble_eq_true rfl) (v_P_flag a0 hd)
def d_P_isPart (a0 : Int32) : Option Int32 := (d_P_in a0.toInt64 (0 : Int64) (1 : Int64)).bind fun zr1 => if zr1 = 0 ∨ zr1 = 1 then some zr1 else none
set_option maxRecDepth 100000 in
set_option maxHeartbeats 4000000 in
theorem v_P_isPart (a0 : Int32) {r : Int32} (hd : d_P_isPart a0 = some r) : Vd RX7 "isPart" cX7_isPart 1 (some .boolean) (rm 1) (ab_eq (some (.int r)) []) 0 0 0 0 0 [(0, .int a0)] [] [] := by
  unfold d_P_isPart at hd
  refine v_iload_n dX7_isPart_0 rfl ?_
  refine v_i2l dX7_isPart_1 ?_
  refine v_lconst (v := 0) dX7_isPart_2 rfl ?_
  refine v_lconst (v := 1) dX7_isPart_3 rfl ?_
  obtain ⟨zr1, zh2, hd⟩ := g_bind hd
  refine v_cS (dy := 0) (st := []) (st2 := [.int zr1]) (h2 := []) [] dX7_isPart_4 mz_X7_72 (m_P_in a0.toInt64 (0 : Int64) (1 : Int64) zh2) rfl rfl rfl rfl rfl rfl (by decide) (by decide) rfl rfl rfl ?_
  obtain ⟨zg3, hd⟩ := g_b hd
  obtain rfl := Option.some.inj hd
  exact v_iretE dX7_isPart_7 rfl (by rcases zg3 with zg3 | zg3 <;> rw [zg3] <;> rfl) rfl rfl
theorem m_P_isPart (a0 : Int32) {r : Int32} (hd : d_P_isPart a0 = some r) : Mt yX7_isPart cX7_isPart 1 (some .boolean) (rm 1) [.int a0] [] (ab_eq (some (.int r)) []) := Mt.of (by decide +kernel) (fun _ _ _ => trivial) (Nat.le_of_ble_eq_true rfl) (v_P_isPart a0 hd)
def d_P_lesser (a0 : Int32) (a1 : Int32) : Option Int32 := if a1 ≤ a0 then (some a1) else (some a0)
set_option maxRecDepth 100000 in
set_option maxHeartbeats 4000000 in
theorem v_P_lesser (a0 : Int32) (a1 : Int32) {r : Int32} (hd : d_P_lesser a0 a1 = some r) : Vd RX7 "lesser" cX7_lesser 2 (some .int) (rm 0) (ab_eq (some (.int r)) []) 0 0 0 0 0 [(0, .int a0), (1, .int a1)] [] [] := by
  unfold d_P_lesser at hd
  refine v_iload_n dX7_lesser_0 rfl ?_
  refine v_iload_n dX7_lesser_1 rfl ?_
  refine v_icmp_ge (tgt := 9) dX7_lesser_2 (by decide) (fun zc1 => ?_) (fun zc1 => ?_)
  · have hd := g_t hd zc1
    refine v_iload_n dX7_lesser_9 rfl ?_
    obtain rfl := Option.some.inj hd
    exact v_iretE dX7_lesser_10 rfl rfl rfl rfl
  · have hd := g_f hd zc1
    refine v_iload_n dX7_lesser_5 rfl ?_
    refine v_goto (tgt := 10) dX7_lesser_6 (by decide) ?_
    obtain rfl := Option.some.inj hd
    exact v_iretE dX7_lesser_10 rfl rfl rfl rfl
theorem m_P_lesser (a0 : Int32) (a1 : Int32) {r : Int32} (hd : d_P_lesser a0 a1 = some r) : Mt yX7_lesser cX7_lesser 2 (some .int) (rm 0) [.int a0, .int a1] [] (ab_eq (some (.int r)) []) := Mt.of (by decide +kernel) (fun _ _ _ => trivial) (Nat.le_of_ble_eq_true rfl) (v_P_lesser a0 a1 hd)

def d_P_bitsOf_4  : Nat → Int32 → Int32 → Int32 → Option Int32
  | 0, _, _, _ => none
  | f + 1, x0, x1, x2 => if (5 : Int32) ≤ x2 then (some x1) else (dl (x1 + ((x0 >>> (x2 &&& 31)) &&& (1 : Int32))) fun zy2 => dl (x2 + (1 : Int32)) fun zy4 => d_P_bitsOf_4 f x0 zy2 zy4)
set_option maxRecDepth 100000 in
set_option maxHeartbeats 4000000 in
theorem v_P_bitsOf_4  {r : Int32}  : ∀ (f : Nat) (x0 : Int32) (x1 : Int32) (x2 : Int32), d_P_bitsOf_4  f x0 x1 x2 = some r → Vd RX7 "bitsOf" cX7_bitsOf 3 (some .int) (rm 0) (ab_eq (some (.int r)) []) 0 0 0 0 4 [(0, .int x0), (1, .int x1), (2, .int x2)] [] [] := by
  intro f
  induction f with
  | zero =>
    intro x0 x1 x2 hd
    rw [d_P_bitsOf_4] at hd
    cases hd
  | succ f ih =>
    intro x0 x1 x2 hd
    rw [d_P_bitsOf_4] at hd
    refine v_iload_n dX7_bitsOf_4 rfl ?_
    refine v_iconst dX7_bitsOf_5 ic_5 ?_
    refine v_icmp_ge (tgt := 23) dX7_bitsOf_6 (by decide) (fun zc1 => ?_) (fun zc1 => ?_)
    · have hd := g_t hd zc1
      refine v_iload_n dX7_bitsOf_23 rfl ?_
      obtain rfl := Option.some.inj hd
      exact v_iretE dX7_bitsOf_24 rfl rfl rfl rfl
    · have hd := g_f hd zc1
      refine v_iload_n dX7_bitsOf_9 rfl ?_
      refine v_iload_n dX7_bitsOf_10 rfl ?_
      refine v_iload_n dX7_bitsOf_11 rfl ?_
      refine v_ishr dX7_bitsOf_12 ?_
      refine v_iconst dX7_bitsOf_13 ic_1 ?_
      refine v_iand dX7_bitsOf_14 ?_
      refine v_iadd dX7_bitsOf_15 ?_
      refine v_topi (fun zy2 ze3 => ?_)
      have hd := dl_n hd zy2 ze3
      refine v_istore_n (i := 1) (L2 := [(1, .int zy2), (0, .int x0), (2, .int x2)]) dX7_bitsOf_16 rfl (Nat.le_of_ble_eq_true rfl) rfl ?_
      obtain ⟨zy4, ze5⟩ : ∃ z : Int32, z = (x2 + (1 : Int32)) := ⟨_, rfl⟩
      have hd := dl_n hd zy4 ze5
      refine v_iinc (v := zy4) (L2 := [(2, .int zy4), (1, .int zy2), (0, .int x0)]) dX7_bitsOf_17 rfl (by rw [ic_1]; exact ze5.symm) (Nat.le_of_ble_eq_true rfl) rfl ?_
      refine v_goto (tgt := 4) dX7_bitsOf_20 (by decide) ?_
      refine v_loc [2, 1, 0] rfl ?_
      exact ih x0 zy2 zy4 hd
def d_P_bitsOf (a0 : Int32) : Option Int32 := d_P_bitsOf_4 FU a0 (0 : Int32) (0 : Int32)
set_option maxRecDepth 100000 in
set_option maxHeartbeats 4000000 in
theorem v_P_bitsOf (a0 : Int32) {r : Int32} (hd : d_P_bitsOf a0 = some r) : Vd RX7 "bitsOf" cX7_bitsOf 3 (some .int) (rm 0) (ab_eq (some (.int r)) []) 0 0 0 0 0 [(0, .int a0)] [] [] := by
  unfold d_P_bitsOf at hd
  refine v_iconst dX7_bitsOf_0 ic_0 ?_
  refine v_istore_n (i := 1) (L2 := [(1, .int (0 : Int32)), (0, .int a0)]) dX7_bitsOf_1 rfl (Nat.le_of_ble_eq_true rfl) rfl ?_
  refine v_iconst dX7_bitsOf_2 ic_0 ?_
  refine v_istore_n (i := 2) (L2 := [(2, .int (0 : Int32)), (1, .int (0 : Int32)), (0, .int a0)]) dX7_bitsOf_3 rfl (Nat.le_of_ble_eq_true rfl) rfl ?_
  refine v_loc [2, 1, 0] rfl ?_
  exact v_P_bitsOf_4 FU a0 (0 : Int32) (0 : Int32) hd
theorem m_P_bitsOf (a0 : Int32) {r : Int32} (hd : d_P_bitsOf a0 = some r) : Mt yX7_bitsOf cX7_bitsOf 3 (some .int) (rm 0) [.int a0] [] (ab_eq (some (.int r)) []) := Mt.of (by decide +kernel) (fun _ _ _ => trivial) (Nat.le_of_ble_eq_true rfl) (v_P_bitsOf a0 hd)

def d_P_common_17  : Nat → Int64 → Int64 → Option Int64
  | 0, _, _ => none
  | f + 1, x4, x6 => if (lg_cmp x6 (0 : Int64)) = 0 then (some x4) else (if x6 = 0 then none else dl (x4 - x4 / x6 * x6) fun zy4 => d_P_common_17 f x6 zy4)
set_option maxRecDepth 100000 in
set_option maxHeartbeats 4000000 in
theorem v_P_common_17  {r : Int64}  : ∀ (f : Nat) (x4 : Int64) (x6 : Int64), d_P_common_17  f x4 x6 = some r → Vd RX7 "common" cX7_common 10 (some .long) (rm 0) (ab_eq (some (.long r)) []) 0 0 0 0 17 [(4, .long x4), (6, .long x6)] [] [] := by
  intro f
  induction f with
  | zero =>
    intro x4 x6 hd
    rw [d_P_common_17] at hd
    cases hd
  | succ f ih =>
    intro x4 x6 hd
    rw [d_P_common_17] at hd
    refine v_lload dX7_common_17 rfl ?_
    refine v_lconst (v := 0) dX7_common_19 rfl ?_
    refine v_lcmp dX7_common_20 ?_
    refine v_if_eq (tgt := 42) dX7_common_21 (by decide) (fun zc2 => ?_) (fun zc2 => ?_)
    · have hd := g_t hd zc2
      refine v_lload dX7_common_42 rfl ?_
      obtain rfl := Option.some.inj hd
      exact v_lretE dX7_common_44 rfl rfl rfl
    · have hd := g_f hd zc2
      refine v_lload dX7_common_24 rfl ?_
      refine v_lload dX7_common_26 rfl ?_
      obtain ⟨zg3, hd⟩ := g_n hd
      refine v_lrem dX7_common_28 zg3 ?_
      refine v_topl (fun zy4 ze5 => ?_)
      have hd := dl_n hd zy4 ze5
      refine v_lstore (i := 8) (L2 := [(8, .long zy4), (4, .long x4), (6, .long x6)]) dX7_common_29 (Nat.le_of_ble_eq_true rfl) rfl ?_
      refine v_lload dX7_common_31 rfl ?_
      refine v_lstore (i := 4) (L2 := [(4, .long x6), (8, .long zy4), (6, .long x6)]) dX7_common_33 (Nat.le_of_ble_eq_true rfl) rfl ?_
      refine v_lload dX7_common_35 rfl ?_
      refine v_lstore (i := 6) (L2 := [(6, .long zy4), (4, .long x6), (8, .long zy4)]) dX7_common_37 (Nat.le_of_ble_eq_true rfl) rfl ?_
      refine v_goto (tgt := 17) dX7_common_39 (by decide) ?_
      refine v_loc [1, 0] rfl ?_
      exact ih x6 zy4 hd

def d_P_common_15  (x4 : Int64) (s0 : Int64) : Option Int64 := d_P_common_17 FU x4 s0
set_option maxRecDepth 100000 in
set_option maxHeartbeats 4000000 in
theorem v_P_common_15  {r : Int64}  (x4 : Int64) (s0 : Int64) (hd : d_P_common_15  x4 s0 = some r) : Vd RX7 "common" cX7_common 10 (some .long) (rm 0) (ab_eq (some (.long r)) []) 0 0 0 0 15 [(4, .long x4)] [.long s0] [] := by
  unfold d_P_common_15 at hd
  refine v_lstore (i := 6) (L2 := [(6, .long s0), (4, .long x4)]) dX7_common_15 (Nat.le_of_ble_eq_true rfl) rfl ?_
  refine v_loc [1, 0] rfl ?_
  exact v_P_common_17 FU x4 s0 hd
def d_P_common (a0 : Int64) (a2 : Int64) : Option Int64 := if 0 ≤ (lg_cmp a2 (0 : Int64)) then (d_P_common_15 a0 a2) else (d_P_common_15 a0 (-a2))
set_option maxRecDepth 100000 in
set_option maxHeartbeats 4000000 in
theorem v_P_common (a0 : Int64) (a2 : Int64) {r : Int64} (hd : d_P_common a0 a2 = some r) : Vd RX7 "common" cX7_common 10 (some .long) (rm 0) (ab_eq (some (.long r)) []) 0 0 0 0 0 [(0, .long a0), (2, .long a2)] [] [] := by
  unfold d_P_common at hd
  refine v_lload_n dX7_common_0 rfl ?_
  refine v_lstore (i := 4) (L2 := [(4, .long a0), (0, .long a0), (2, .long a2)]) dX7_common_1 (Nat.le_of_ble_eq_true rfl) rfl ?_
  refine v_lload_n dX7_common_3 rfl ?_
  refine v_lconst (v := 0) dX7_common_4 rfl ?_
  refine v_lcmp dX7_common_5 ?_
  refine v_if_ge (tgt := 14) dX7_common_6 (by decide) (fun zc1 => ?_) (fun zc1 => ?_)
  · have hd := g_t hd zc1
    refine v_lload_n dX7_common_14 rfl ?_
    refine v_loc [0] rfl ?_
    exact v_P_common_15 a0 a2 hd
  · have hd := g_f hd zc1
    refine v_lload_n dX7_common_9 rfl ?_
    refine v_lneg dX7_common_10 ?_
    refine v_goto (tgt := 15) dX7_common_11 (by decide) ?_
    refine v_loc [0] rfl ?_
    exact v_P_common_15 a0 (-a2) hd
theorem m_P_common (a0 : Int64) (a2 : Int64) {r : Int64} (hd : d_P_common a0 a2 = some r) : Mt yX7_common cX7_common 10 (some .long) (rm 0) [.long a0, .long a2] [] (ab_eq (some (.long r)) []) := Mt.of (by decide +kernel) (fun _ _ _ => trivial) (Nat.le_of_ble_eq_true rfl) (v_P_common a0 a2 hd)
def d_P_told (a0 : Int64) (a2 : Int64) (a4 : Int32) : Option Int64 := (d_P_common a2 a0).bind fun zr1 => if a4 = 0 then (if zr1 = 0 then none else some (a0 / zr1)) else (if zr1 = 0 then none else some (a2 / zr1))
set_option maxRecDepth 100000 in
set_option maxHeartbeats 4000000 in
theorem v_P_told (a0 : Int64) (a2 : Int64) (a4 : Int32) {r : Int64} (hd : d_P_told a0 a2 a4 = some r) : Vd RX7 "told" cX7_told 7 (some .long) (rm 1) (ab_eq (some (.long r)) []) 0 0 0 0 0 [(0, .long a0), (2, .long a2), (4, .int a4)] [] [] := by
  unfold d_P_told at hd
  refine v_lload_n dX7_told_0 rfl ?_
  refine v_lload_n dX7_told_1 rfl ?_
  obtain ⟨zr1, zh2, hd⟩ := g_bind hd
  refine v_cS (dy := 0) (st := []) (st2 := [.long zr1]) (h2 := []) [] dX7_told_2 mz_X7_228 (m_P_common a2 a0 zh2) rfl rfl rfl rfl rfl rfl (by decide) (by decide) rfl rfl rfl ?_
  refine v_lstore (i := 5) (L2 := [(5, .long zr1), (0, .long a0), (2, .long a2), (4, .int a4)]) dX7_told_5 (Nat.le_of_ble_eq_true rfl) rfl ?_
  refine v_iload dX7_told_7 rfl ?_
  refine v_if_ne (tgt := 19) dX7_told_9 (by decide) (fun zc3 => ?_) (fun zc3 => ?_)
  · have hd := g_f hd zc3
    refine v_lload_n dX7_told_19 rfl ?_
    refine v_lload dX7_told_20 rfl ?_
    obtain ⟨zg4, hd⟩ := g_n hd
    refine v_ldiv dX7_told_22 zg4 ?_
    obtain rfl := Option.some.inj hd
    exact v_lretE dX7_told_23 rfl rfl rfl
  · have hd := g_t hd zc3
    refine v_lload_n dX7_told_12 rfl ?_
    refine v_lload dX7_told_13 rfl ?_
    obtain ⟨zg5, hd⟩ := g_n hd
    refine v_ldiv dX7_told_15 zg5 ?_
    refine v_goto (tgt := 23) dX7_told_16 (by decide) ?_
    obtain rfl := Option.some.inj hd
    exact v_lretE dX7_told_23 rfl rfl rfl
theorem m_P_told (a0 : Int64) (a2 : Int64) (a4 : Int32) {r : Int64} (hd : d_P_told a0 a2 a4 = some r) : Mt yX7_told cX7_told 7 (some .long) (rm 1) [.long a0, .long a2, .int a4] [] (ab_eq (some (.long r)) []) := Mt.of (by decide +kernel) (fun _ _ _ => trivial) (Nat.le_of_ble_eq_true rfl) (v_P_told a0 a2 a4 hd)

def d_P_orders_4  : Nat → Int32 → Int64 → Int32 → Option Int64
  | 0, _, _, _ => none
  | f + 1, x0, x1, x3 => if x0 < x3 then (some x1) else (dl (x1 * x3.toInt64) fun zy2 => dl (x3 + (1 : Int32)) fun zy4 => d_P_orders_4 f x0 zy2 zy4)
set_option maxRecDepth 100000 in
set_option maxHeartbeats 4000000 in
theorem v_P_orders_4  {r : Int64}  : ∀ (f : Nat) (x0 : Int32) (x1 : Int64) (x3 : Int32), d_P_orders_4  f x0 x1 x3 = some r → Vd RX7 "orders" cX7_orders 4 (some .long) (rm 0) (ab_eq (some (.long r)) []) 0 0 0 0 4 [(0, .int x0), (1, .long x1), (3, .int x3)] [] [] := by
  intro f
  induction f with
  | zero =>
    intro x0 x1 x3 hd
    rw [d_P_orders_4] at hd
    cases hd
  | succ f ih =>
    intro x0 x1 x3 hd
    rw [d_P_orders_4] at hd
    refine v_iload_n dX7_orders_4 rfl ?_
    refine v_iload_n dX7_orders_5 rfl ?_
    refine v_icmp_gt (tgt := 20) dX7_orders_6 (by decide) (fun zc1 => ?_) (fun zc1 => ?_)
    · have hd := g_t hd zc1
      refine v_lload_n dX7_orders_20 rfl ?_
      obtain rfl := Option.some.inj hd
      exact v_lretE dX7_orders_21 rfl rfl rfl
    · have hd := g_f hd zc1
      refine v_lload_n dX7_orders_9 rfl ?_
      refine v_iload_n dX7_orders_10 rfl ?_
      refine v_i2l dX7_orders_11 ?_
      refine v_lmul dX7_orders_12 ?_
      refine v_topl (fun zy2 ze3 => ?_)
      have hd := dl_n hd zy2 ze3
      refine v_lstore_n (i := 1) (L2 := [(1, .long zy2), (0, .int x0), (3, .int x3)]) dX7_orders_13 rfl (Nat.le_of_ble_eq_true rfl) rfl ?_
      obtain ⟨zy4, ze5⟩ : ∃ z : Int32, z = (x3 + (1 : Int32)) := ⟨_, rfl⟩
      have hd := dl_n hd zy4 ze5
      refine v_iinc (v := zy4) (L2 := [(3, .int zy4), (1, .long zy2), (0, .int x0)]) dX7_orders_14 rfl (by rw [ic_1]; exact ze5.symm) (Nat.le_of_ble_eq_true rfl) rfl ?_
      refine v_goto (tgt := 4) dX7_orders_17 (by decide) ?_
      refine v_loc [2, 1, 0] rfl ?_
      exact ih x0 zy2 zy4 hd
def d_P_orders (a0 : Int32) : Option Int64 := d_P_orders_4 FU a0 (1 : Int64) (2 : Int32)
set_option maxRecDepth 100000 in
set_option maxHeartbeats 4000000 in
theorem v_P_orders (a0 : Int32) {r : Int64} (hd : d_P_orders a0 = some r) : Vd RX7 "orders" cX7_orders 4 (some .long) (rm 0) (ab_eq (some (.long r)) []) 0 0 0 0 0 [(0, .int a0)] [] [] := by
  unfold d_P_orders at hd
  refine v_lconst (v := 1) dX7_orders_0 rfl ?_
  refine v_lstore_n (i := 1) (L2 := [(1, .long (1 : Int64)), (0, .int a0)]) dX7_orders_1 rfl (Nat.le_of_ble_eq_true rfl) rfl ?_
  refine v_iconst dX7_orders_2 ic_2 ?_
  refine v_istore_n (i := 3) (L2 := [(3, .int (2 : Int32)), (1, .long (1 : Int64)), (0, .int a0)]) dX7_orders_3 rfl (Nat.le_of_ble_eq_true rfl) rfl ?_
  refine v_loc [2, 1, 0] rfl ?_
  exact v_P_orders_4 FU a0 (1 : Int64) (2 : Int32) hd
theorem m_P_orders (a0 : Int32) {r : Int64} (hd : d_P_orders a0 = some r) : Mt yX7_orders cX7_orders 4 (some .long) (rm 0) [.int a0] [] (ab_eq (some (.long r)) []) := Mt.of (by decide +kernel) (fun _ _ _ => trivial) (Nat.le_of_ble_eq_true rfl) (v_P_orders a0 hd)
def d_P_isSheet (a0 : Int32) (a1 : Int32) : Option Int32 := (d_P_in a0.toInt64 (0 : Int64) (3 : Int64)).bind fun zr1 => if zr1 = 0 then (some (0 : Int32)) else ((d_P_in a1.toInt64 (0 : Int64) (2 : Int64)).bind fun zr4 => if zr4 = 0 then (some (0 : Int32)) else (some (1 : Int32)))
set_option maxRecDepth 100000 in
set_option maxHeartbeats 4000000 in
theorem v_P_isSheet (a0 : Int32) (a1 : Int32) {r : Int32} (hd : d_P_isSheet a0 a1 = some r) : Vd RX7 "isSheet" cX7_isSheet 2 (some .boolean) (rm 1) (ab_eq (some (.int r)) []) 0 0 0 0 0 [(0, .int a0), (1, .int a1)] [] [] := by
  unfold d_P_isSheet at hd
  refine v_iload_n dX7_isSheet_0 rfl ?_
  refine v_i2l dX7_isSheet_1 ?_
  refine v_lconst (v := 0) dX7_isSheet_2 rfl ?_
  refine v_ldc2 dX7_isSheet_3 kc_X7_185 ?_
  obtain ⟨zr1, zh2, hd⟩ := g_bind hd
  refine v_cS (dy := 0) (st := []) (st2 := [.int zr1]) (h2 := []) [] dX7_isSheet_6 mz_X7_72 (m_P_in a0.toInt64 (0 : Int64) (3 : Int64) zh2) rfl rfl rfl rfl rfl rfl (by decide) (by decide) rfl rfl rfl ?_
  refine v_if_eq (tgt := 28) dX7_isSheet_9 (by decide) (fun zc3 => ?_) (fun zc3 => ?_)
  · have hd := g_t hd zc3
    refine v_iconst dX7_isSheet_28 ic_0 ?_
    obtain rfl := Option.some.inj hd
    exact v_iretE dX7_isSheet_29 rfl rfl rfl rfl
  · have hd := g_f hd zc3
    refine v_iload_n dX7_isSheet_12 rfl ?_
    refine v_i2l dX7_isSheet_13 ?_
    refine v_lconst (v := 0) dX7_isSheet_14 rfl ?_
    refine v_ldc2 dX7_isSheet_15 kc_X7_180 ?_
    obtain ⟨zr4, zh5, hd⟩ := g_bind hd
    refine v_cS (dy := 0) (st := []) (st2 := [.int zr4]) (h2 := []) [] dX7_isSheet_18 mz_X7_72 (m_P_in a1.toInt64 (0 : Int64) (2 : Int64) zh5) rfl rfl rfl rfl rfl rfl (by decide) (by decide) rfl rfl rfl ?_
    refine v_if_eq (tgt := 28) dX7_isSheet_21 (by decide) (fun zc6 => ?_) (fun zc6 => ?_)
    · have hd := g_t hd zc6
      refine v_iconst dX7_isSheet_28 ic_0 ?_
      obtain rfl := Option.some.inj hd
      exact v_iretE dX7_isSheet_29 rfl rfl rfl rfl
    · have hd := g_f hd zc6
      refine v_iconst dX7_isSheet_24 ic_1 ?_
      refine v_goto (tgt := 29) dX7_isSheet_25 (by decide) ?_
      obtain rfl := Option.some.inj hd
      exact v_iretE dX7_isSheet_29 rfl rfl rfl rfl
theorem m_P_isSheet (a0 : Int32) (a1 : Int32) {r : Int32} (hd : d_P_isSheet a0 a1 = some r) : Mt yX7_isSheet cX7_isSheet 2 (some .boolean) (rm 1) [.int a0, .int a1] [] (ab_eq (some (.int r)) []) := Mt.of (by decide +kernel) (fun _ _ _ => trivial) (Nat.le_of_ble_eq_true rfl) (v_P_isSheet a0 a1 hd)
def d_P_bitCount (a0 : Int32) : Option Int32 := dl (a0 - ((a0.toUInt32 >>> ((1 : Int32).toUInt32 &&& Int32.toUInt32 31)).toInt32 &&& (1431655765 : Int32))) fun zy1 => dl ((zy1 &&& (858993459 : Int32)) + ((zy1.toUInt32 >>> ((2 : Int32).toUInt32 &&& Int32.toUInt32 31)).toInt32 &&& (858993459 : Int32))) fun zy3 => dl ((zy3 + (zy3.toUInt32 >>> ((4 : Int32).toUInt32 &&& Int32.toUInt32 31)).toInt32) &&& (252645135 : Int32)) fun zy5 => dl (zy5 + (zy5.toUInt32 >>> ((8 : Int32).toUInt32 &&& Int32.toUInt32 31)).toInt32) fun zy7 => dl (zy7 + (zy7.toUInt32 >>> ((16 : Int32).toUInt32 &&& Int32.toUInt32 31)).toInt32) fun zy9 => some (zy9 &&& (63 : Int32))
set_option maxRecDepth 100000 in
set_option maxHeartbeats 4000000 in
theorem v_P_bitCount (a0 : Int32) {r : Int32} (hd : d_P_bitCount a0 = some r) : Vd RJ6 "bitCount" cJ6_bitCount_0f7a4 1 (some .int) (rm 0) (ab_eq (some (.int r)) []) 0 0 0 0 0 [(0, .int a0)] [] [] := by
  unfold d_P_bitCount at hd
  refine v_iload_n dJ6_bitCount_0f7a4_0 rfl ?_
  refine v_iload_n dJ6_bitCount_0f7a4_1 rfl ?_
  refine v_iconst dJ6_bitCount_0f7a4_2 ic_1 ?_
  refine v_iushr dJ6_bitCount_0f7a4_3 ?_
  refine v_ldcw dJ6_bitCount_0f7a4_4 kc_J6_265 ?_
  refine v_iand dJ6_bitCount_0f7a4_7 ?_
  refine v_isub dJ6_bitCount_0f7a4_8 ?_
  refine v_topi (fun zy1 ze2 => ?_)
  have hd := dl_n hd zy1 ze2
  refine v_istore_n (i := 0) (L2 := [(0, .int zy1)]) dJ6_bitCount_0f7a4_9 rfl (Nat.le_of_ble_eq_true rfl) rfl ?_
  refine v_iload_n dJ6_bitCount_0f7a4_10 rfl ?_
  refine v_ldcw dJ6_bitCount_0f7a4_11 kc_J6_266 ?_
  refine v_iand dJ6_bitCount_0f7a4_14 ?_
  refine v_iload_n dJ6_bitCount_0f7a4_15 rfl ?_
  refine v_iconst dJ6_bitCount_0f7a4_16 ic_2 ?_
  refine v_iushr dJ6_bitCount_0f7a4_17 ?_
  refine v_ldcw dJ6_bitCount_0f7a4_18 kc_J6_266 ?_
  refine v_iand dJ6_bitCount_0f7a4_21 ?_
  refine v_iadd dJ6_bitCount_0f7a4_22 ?_
  refine v_topi (fun zy3 ze4 => ?_)
  have hd := dl_n hd zy3 ze4
  refine v_istore_n (i := 0) (L2 := [(0, .int zy3)]) dJ6_bitCount_0f7a4_23 rfl (Nat.le_of_ble_eq_true rfl) rfl ?_
  refine v_iload_n dJ6_bitCount_0f7a4_24 rfl ?_
  refine v_iload_n dJ6_bitCount_0f7a4_25 rfl ?_
  refine v_iconst dJ6_bitCount_0f7a4_26 ic_4 ?_
  refine v_iushr dJ6_bitCount_0f7a4_27 ?_
  refine v_iadd dJ6_bitCount_0f7a4_28 ?_
  refine v_ldcw dJ6_bitCount_0f7a4_29 kc_J6_267 ?_
  refine v_iand dJ6_bitCount_0f7a4_32 ?_
  refine v_topi (fun zy5 ze6 => ?_)
  have hd := dl_n hd zy5 ze6
  refine v_istore_n (i := 0) (L2 := [(0, .int zy5)]) dJ6_bitCount_0f7a4_33 rfl (Nat.le_of_ble_eq_true rfl) rfl ?_
  refine v_iload_n dJ6_bitCount_0f7a4_34 rfl ?_
  refine v_iload_n dJ6_bitCount_0f7a4_35 rfl ?_
  refine v_bipush dJ6_bitCount_0f7a4_36 bp_8 ?_
  refine v_iushr dJ6_bitCount_0f7a4_38 ?_
  refine v_iadd dJ6_bitCount_0f7a4_39 ?_
  refine v_topi (fun zy7 ze8 => ?_)
  have hd := dl_n hd zy7 ze8
  refine v_istore_n (i := 0) (L2 := [(0, .int zy7)]) dJ6_bitCount_0f7a4_40 rfl (Nat.le_of_ble_eq_true rfl) rfl ?_
  refine v_iload_n dJ6_bitCount_0f7a4_41 rfl ?_
  refine v_iload_n dJ6_bitCount_0f7a4_42 rfl ?_
  refine v_bipush dJ6_bitCount_0f7a4_43 bp_16 ?_
  refine v_iushr dJ6_bitCount_0f7a4_45 ?_
  refine v_iadd dJ6_bitCount_0f7a4_46 ?_
  refine v_topi (fun zy9 ze10 => ?_)
  have hd := dl_n hd zy9 ze10
  refine v_istore_n (i := 0) (L2 := [(0, .int zy9)]) dJ6_bitCount_0f7a4_47 rfl (Nat.le_of_ble_eq_true rfl) rfl ?_
  refine v_iload_n dJ6_bitCount_0f7a4_48 rfl ?_
  refine v_bipush dJ6_bitCount_0f7a4_49 bp_63 ?_
  refine v_iand dJ6_bitCount_0f7a4_51 ?_
  obtain rfl := Option.some.inj hd
  exact v_iretE dJ6_bitCount_0f7a4_52 rfl rfl rfl rfl
theorem m_P_bitCount (a0 : Int32) {r : Int32} (hd : d_P_bitCount a0 = some r) : Mt yJ6_bitCount_0f7a4 cJ6_bitCount_0f7a4 1 (some .int) (rm 0) [.int a0] [] (ab_eq (some (.int r)) []) := Mt.of (by decide +kernel) (fun _ _ _ => trivial) (Nat.le_of_ble_eq_true rfl) (v_P_bitCount a0 hd)
def d_P_max (a0 : Int32) (a1 : Int32) : Option Int32 := if a0 < a1 then (some a1) else (some a0)
set_option maxRecDepth 100000 in
set_option maxHeartbeats 4000000 in
theorem v_P_max (a0 : Int32) (a1 : Int32) {r : Int32} (hd : d_P_max a0 a1 = some r) : Vd RJ9 "max" cJ9_max_7cf53 2 (some .int) (rm 0) (ab_eq (some (.int r)) []) 0 0 0 0 0 [(0, .int a0), (1, .int a1)] [] [] := by
  unfold d_P_max at hd
  refine v_iload_n dJ9_max_7cf53_0 rfl ?_
  refine v_iload_n dJ9_max_7cf53_1 rfl ?_
  refine v_icmp_lt (tgt := 9) dJ9_max_7cf53_2 (by decide) (fun zc1 => ?_) (fun zc1 => ?_)
  · have hd := g_t hd zc1
    refine v_iload_n dJ9_max_7cf53_9 rfl ?_
    obtain rfl := Option.some.inj hd
    exact v_iretE dJ9_max_7cf53_10 rfl rfl rfl rfl
  · have hd := g_f hd zc1
    refine v_iload_n dJ9_max_7cf53_5 rfl ?_
    refine v_goto (tgt := 10) dJ9_max_7cf53_6 (by decide) ?_
    obtain rfl := Option.some.inj hd
    exact v_iretE dJ9_max_7cf53_10 rfl rfl rfl rfl
theorem m_P_max (a0 : Int32) (a1 : Int32) {r : Int32} (hd : d_P_max a0 a1 = some r) : Mt yJ9_max_7cf53 cJ9_max_7cf53 2 (some .int) (rm 0) [.int a0, .int a1] [] (ab_eq (some (.int r)) []) := Mt.of (by decide +kernel) (fun _ _ _ => trivial) (Nat.le_of_ble_eq_true rfl) (v_P_max a0 a1 hd)
def d_P_min (a0 : Int32) (a1 : Int32) : Option Int32 := if a1 < a0 then (some a1) else (some a0)
set_option maxRecDepth 100000 in
set_option maxHeartbeats 4000000 in
theorem v_P_min (a0 : Int32) (a1 : Int32) {r : Int32} (hd : d_P_min a0 a1 = some r) : Vd RJ9 "min" cJ9_min_7cf53 2 (some .int) (rm 0) (ab_eq (some (.int r)) []) 0 0 0 0 0 [(0, .int a0), (1, .int a1)] [] [] := by
  unfold d_P_min at hd
  refine v_iload_n dJ9_min_7cf53_0 rfl ?_
  refine v_iload_n dJ9_min_7cf53_1 rfl ?_
  refine v_icmp_gt (tgt := 9) dJ9_min_7cf53_2 (by decide) (fun zc1 => ?_) (fun zc1 => ?_)
  · have hd := g_t hd zc1
    refine v_iload_n dJ9_min_7cf53_9 rfl ?_
    obtain rfl := Option.some.inj hd
    exact v_iretE dJ9_min_7cf53_10 rfl rfl rfl rfl
  · have hd := g_f hd zc1
    refine v_iload_n dJ9_min_7cf53_5 rfl ?_
    refine v_goto (tgt := 10) dJ9_min_7cf53_6 (by decide) ?_
    obtain rfl := Option.some.inj hd
    exact v_iretE dJ9_min_7cf53_10 rfl rfl rfl rfl
theorem m_P_min (a0 : Int32) (a1 : Int32) {r : Int32} (hd : d_P_min a0 a1 = some r) : Mt yJ9_min_7cf53 cJ9_min_7cf53 2 (some .int) (rm 0) [.int a0, .int a1] [] (ab_eq (some (.int r)) []) := Mt.of (by decide +kernel) (fun _ _ _ => trivial) (Nat.le_of_ble_eq_true rfl) (v_P_min a0 a1 hd)
