
def d_A5_fill_5  : Nat → (Nat → Nat → Int32) → Int32 → Int32 → Int32 → Option ((Nat → Nat → Int32))
  | 0, _, _, _, _ => none
  | f + 1, u, x1, x2, x3 => if x3 ≤ x2 then (some u) else (if gi x2 5 = true then dl (x2 + (1 : Int32)) fun zy3 => d_A5_fill_5 f (pw u 0 x2.toNatClampNeg x1) x1 zy3 x3 else none)
set_option maxRecDepth 100000 in
set_option maxHeartbeats 4000000 in
theorem v_A5_fill_5  {r : (Nat → Nat → Int32)}  : ∀ (f : Nat) (u : (Nat → Nat → Int32)) (x1 : Int32) (x2 : Int32) (x3 : Int32), d_A5_fill_5  f u x1 x2 x3 = some r → Vd RJ7 "fill" cJ7_fill_53178 4 none (rm 0) (ab_eq none (h_A5 r)) 0 0 0 0 5 [(0, .ref 0), (1, .int x1), (2, .int x2), (3, .int x3)] [] (h_A5 u) := by
  intro f
  induction f with
  | zero =>
    intro u x1 x2 x3 hd
    rw [d_A5_fill_5] at hd
    cases hd
  | succ f ih =>
    intro u x1 x2 x3 hd
    rw [d_A5_fill_5] at hd
    refine v_iload_n dJ7_fill_53178_5 rfl ?_
    refine v_iload_n dJ7_fill_53178_6 rfl ?_
    refine v_icmp_ge (tgt := 20) dJ7_fill_53178_7 (by decide) (fun zc1 => ?_) (fun zc1 => ?_)
    · have hd := g_t hd zc1
      obtain rfl := Option.some.inj hd
      exact v_vretE dJ7_fill_53178_20 rfl rfl rfl
    · have hd := g_f hd zc1
      refine v_aload_n dJ7_fill_53178_10 rfl ?_
      refine v_iload_n dJ7_fill_53178_11 rfl ?_
      refine v_iload_n dJ7_fill_53178_12 rfl ?_
      obtain ⟨zg2, hd⟩ := g_b hd
      refine v_ist (f := (u 0)) (h2 := (h_A5 (pw u 0 x2.toNatClampNeg x1))) dJ7_fill_53178_13 rfl (gi_in zg2) rfl ?_
      obtain ⟨zy3, ze4⟩ : ∃ z : Int32, z = (x2 + (1 : Int32)) := ⟨_, rfl⟩
      have hd := dl_n hd zy3 ze4
      refine v_iinc (v := zy3) (L2 := [(2, .int zy3), (0, .ref 0), (1, .int x1), (3, .int x3)]) dJ7_fill_53178_14 rfl (by rw [ic_1]; exact ze4.symm) (Nat.le_of_ble_eq_true rfl) rfl ?_
      refine v_goto (tgt := 5) dJ7_fill_53178_17 (by decide) ?_
      refine v_loc [1, 2, 0, 3] rfl ?_
      exact ih (pw u 0 x2.toNatClampNeg x1) x1 zy3 x3 hd
def d_A5_fill (u : (Nat → Nat → Int32)) (a1 : Int32) : Option ((Nat → Nat → Int32)) := d_A5_fill_5 FU u a1 (0 : Int32) (5 : Int32)
set_option maxRecDepth 100000 in
set_option maxHeartbeats 4000000 in
theorem v_A5_fill (u : (Nat → Nat → Int32)) (a1 : Int32) {r : (Nat → Nat → Int32)} (hd : d_A5_fill u a1 = some r) : Vd RJ7 "fill" cJ7_fill_53178 4 none (rm 0) (ab_eq none (h_A5 r)) 0 0 0 0 0 [(0, .ref 0), (1, .int a1)] [] (h_A5 u) := by
  unfold d_A5_fill at hd
  refine v_iconst dJ7_fill_53178_0 ic_0 ?_
  refine v_istore_n (i := 2) (L2 := [(2, .int (0 : Int32)), (0, .ref 0), (1, .int a1)]) dJ7_fill_53178_1 rfl (Nat.le_of_ble_eq_true rfl) rfl ?_
  refine v_aload_n dJ7_fill_53178_2 rfl ?_
  refine v_alen dJ7_fill_53178_3 rfl (by decide) al_5 ?_
  refine v_istore_n (i := 3) (L2 := [(3, .int (5 : Int32)), (2, .int (0 : Int32)), (0, .ref 0), (1, .int a1)]) dJ7_fill_53178_4 rfl (Nat.le_of_ble_eq_true rfl) rfl ?_
  refine v_loc [2, 3, 1, 0] rfl ?_
  exact v_A5_fill_5 FU u a1 (0 : Int32) (5 : Int32) hd
theorem m_A5_fill (u : (Nat → Nat → Int32)) (a1 : Int32) {r : (Nat → Nat → Int32)} (hd : d_A5_fill u a1 = some r) : Mt yJ7_fill_53178 cJ7_fill_53178 4 none (rm 0) [.ref 0, .int a1] (h_A5 u) (ab_eq none (h_A5 r)) := Mt.of (by decide +kernel) (fun _ _ _ => trivial) (Nat.le_of_ble_eq_true rfl) (v_A5_fill u a1 hd)

def d_A40_fill_5  : Nat → (Nat → Nat → Int32) → Int32 → Int32 → Int32 → Option ((Nat → Nat → Int32))
  | 0, _, _, _, _ => none
  | f + 1, u, x1, x2, x3 => if x3 ≤ x2 then (some u) else (if gi x2 40 = true then dl (x2 + (1 : Int32)) fun zy3 => d_A40_fill_5 f (pw u 0 x2.toNatClampNeg x1) x1 zy3 x3 else none)
set_option maxRecDepth 100000 in
set_option maxHeartbeats 4000000 in
theorem v_A40_fill_5  {r : (Nat → Nat → Int32)}  : ∀ (f : Nat) (u : (Nat → Nat → Int32)) (x1 : Int32) (x2 : Int32) (x3 : Int32), d_A40_fill_5  f u x1 x2 x3 = some r → Vd RJ7 "fill" cJ7_fill_53178 4 none (rm 0) (ab_eq none (h_A40 r)) 0 0 0 0 5 [(0, .ref 0), (1, .int x1), (2, .int x2), (3, .int x3)] [] (h_A40 u) := by
  intro f
  induction f with
  | zero =>
    intro u x1 x2 x3 hd
    rw [d_A40_fill_5] at hd
    cases hd
  | succ f ih =>
    intro u x1 x2 x3 hd
    rw [d_A40_fill_5] at hd
    refine v_iload_n dJ7_fill_53178_5 rfl ?_
    refine v_iload_n dJ7_fill_53178_6 rfl ?_
    refine v_icmp_ge (tgt := 20) dJ7_fill_53178_7 (by decide) (fun zc1 => ?_) (fun zc1 => ?_)
    · have hd := g_t hd zc1
      obtain rfl := Option.some.inj hd
      exact v_vretE dJ7_fill_53178_20 rfl rfl rfl
    · have hd := g_f hd zc1
      refine v_aload_n dJ7_fill_53178_10 rfl ?_
      refine v_iload_n dJ7_fill_53178_11 rfl ?_
      refine v_iload_n dJ7_fill_53178_12 rfl ?_
      obtain ⟨zg2, hd⟩ := g_b hd
      refine v_ist (f := (u 0)) (h2 := (h_A40 (pw u 0 x2.toNatClampNeg x1))) dJ7_fill_53178_13 rfl (gi_in zg2) rfl ?_
      obtain ⟨zy3, ze4⟩ : ∃ z : Int32, z = (x2 + (1 : Int32)) := ⟨_, rfl⟩
      have hd := dl_n hd zy3 ze4
      refine v_iinc (v := zy3) (L2 := [(2, .int zy3), (0, .ref 0), (1, .int x1), (3, .int x3)]) dJ7_fill_53178_14 rfl (by rw [ic_1]; exact ze4.symm) (Nat.le_of_ble_eq_true rfl) rfl ?_
      refine v_goto (tgt := 5) dJ7_fill_53178_17 (by decide) ?_
      refine v_loc [1, 2, 0, 3] rfl ?_
      exact ih (pw u 0 x2.toNatClampNeg x1) x1 zy3 x3 hd
def d_A40_fill (u : (Nat → Nat → Int32)) (a1 : Int32) : Option ((Nat → Nat → Int32)) := d_A40_fill_5 FU u a1 (0 : Int32) (40 : Int32)
set_option maxRecDepth 100000 in
set_option maxHeartbeats 4000000 in
theorem v_A40_fill (u : (Nat → Nat → Int32)) (a1 : Int32) {r : (Nat → Nat → Int32)} (hd : d_A40_fill u a1 = some r) : Vd RJ7 "fill" cJ7_fill_53178 4 none (rm 0) (ab_eq none (h_A40 r)) 0 0 0 0 0 [(0, .ref 0), (1, .int a1)] [] (h_A40 u) := by
  unfold d_A40_fill at hd
  refine v_iconst dJ7_fill_53178_0 ic_0 ?_
  refine v_istore_n (i := 2) (L2 := [(2, .int (0 : Int32)), (0, .ref 0), (1, .int a1)]) dJ7_fill_53178_1 rfl (Nat.le_of_ble_eq_true rfl) rfl ?_
  refine v_aload_n dJ7_fill_53178_2 rfl ?_
  refine v_alen dJ7_fill_53178_3 rfl (by decide) al_40 ?_
  refine v_istore_n (i := 3) (L2 := [(3, .int (40 : Int32)), (2, .int (0 : Int32)), (0, .ref 0), (1, .int a1)]) dJ7_fill_53178_4 rfl (Nat.le_of_ble_eq_true rfl) rfl ?_
  refine v_loc [2, 3, 1, 0] rfl ?_
  exact v_A40_fill_5 FU u a1 (0 : Int32) (40 : Int32) hd
theorem m_A40_fill (u : (Nat → Nat → Int32)) (a1 : Int32) {r : (Nat → Nat → Int32)} (hd : d_A40_fill u a1 = some r) : Mt yJ7_fill_53178 cJ7_fill_53178 4 none (rm 0) [.ref 0, .int a1] (h_A40 u) (ab_eq none (h_A40 r)) := Mt.of (by decide +kernel) (fun _ _ _ => trivial) (Nat.le_of_ble_eq_true rfl) (v_A40_fill u a1 hd)

def d_A4500_fill_5  : Nat → (Nat → Nat → Int32) → Int32 → Int32 → Int32 → Option ((Nat → Nat → Int32))
  | 0, _, _, _, _ => none
  | f + 1, u, x1, x2, x3 => if x3 ≤ x2 then (some u) else (if gi x2 4500 = true then dl (x2 + (1 : Int32)) fun zy3 => d_A4500_fill_5 f (pw u 0 x2.toNatClampNeg x1) x1 zy3 x3 else none)
set_option maxRecDepth 100000 in
set_option maxHeartbeats 4000000 in
theorem v_A4500_fill_5  {r : (Nat → Nat → Int32)}  : ∀ (f : Nat) (u : (Nat → Nat → Int32)) (x1 : Int32) (x2 : Int32) (x3 : Int32), d_A4500_fill_5  f u x1 x2 x3 = some r → Vd RJ7 "fill" cJ7_fill_53178 4 none (rm 0) (ab_eq none (h_A4500 r)) 0 0 0 0 5 [(0, .ref 0), (1, .int x1), (2, .int x2), (3, .int x3)] [] (h_A4500 u) := by
  intro f
  induction f with
  | zero =>
    intro u x1 x2 x3 hd
    rw [d_A4500_fill_5] at hd
    cases hd
  | succ f ih =>
    intro u x1 x2 x3 hd
    rw [d_A4500_fill_5] at hd
    refine v_iload_n dJ7_fill_53178_5 rfl ?_
    refine v_iload_n dJ7_fill_53178_6 rfl ?_
    refine v_icmp_ge (tgt := 20) dJ7_fill_53178_7 (by decide) (fun zc1 => ?_) (fun zc1 => ?_)
    · have hd := g_t hd zc1
      obtain rfl := Option.some.inj hd
      exact v_vretE dJ7_fill_53178_20 rfl rfl rfl
    · have hd := g_f hd zc1
      refine v_aload_n dJ7_fill_53178_10 rfl ?_
      refine v_iload_n dJ7_fill_53178_11 rfl ?_
      refine v_iload_n dJ7_fill_53178_12 rfl ?_
      obtain ⟨zg2, hd⟩ := g_b hd
      refine v_ist (f := (u 0)) (h2 := (h_A4500 (pw u 0 x2.toNatClampNeg x1))) dJ7_fill_53178_13 rfl (gi_in zg2) rfl ?_
      obtain ⟨zy3, ze4⟩ : ∃ z : Int32, z = (x2 + (1 : Int32)) := ⟨_, rfl⟩
      have hd := dl_n hd zy3 ze4
      refine v_iinc (v := zy3) (L2 := [(2, .int zy3), (0, .ref 0), (1, .int x1), (3, .int x3)]) dJ7_fill_53178_14 rfl (by rw [ic_1]; exact ze4.symm) (Nat.le_of_ble_eq_true rfl) rfl ?_
      refine v_goto (tgt := 5) dJ7_fill_53178_17 (by decide) ?_
      refine v_loc [1, 2, 0, 3] rfl ?_
      exact ih (pw u 0 x2.toNatClampNeg x1) x1 zy3 x3 hd
def d_A4500_fill (u : (Nat → Nat → Int32)) (a1 : Int32) : Option ((Nat → Nat → Int32)) := d_A4500_fill_5 FU u a1 (0 : Int32) (4500 : Int32)
set_option maxRecDepth 100000 in
set_option maxHeartbeats 4000000 in
theorem v_A4500_fill (u : (Nat → Nat → Int32)) (a1 : Int32) {r : (Nat → Nat → Int32)} (hd : d_A4500_fill u a1 = some r) : Vd RJ7 "fill" cJ7_fill_53178 4 none (rm 0) (ab_eq none (h_A4500 r)) 0 0 0 0 0 [(0, .ref 0), (1, .int a1)] [] (h_A4500 u) := by
  unfold d_A4500_fill at hd
  refine v_iconst dJ7_fill_53178_0 ic_0 ?_
  refine v_istore_n (i := 2) (L2 := [(2, .int (0 : Int32)), (0, .ref 0), (1, .int a1)]) dJ7_fill_53178_1 rfl (Nat.le_of_ble_eq_true rfl) rfl ?_
  refine v_aload_n dJ7_fill_53178_2 rfl ?_
  refine v_alen dJ7_fill_53178_3 rfl (by decide) al_4500 ?_
  refine v_istore_n (i := 3) (L2 := [(3, .int (4500 : Int32)), (2, .int (0 : Int32)), (0, .ref 0), (1, .int a1)]) dJ7_fill_53178_4 rfl (Nat.le_of_ble_eq_true rfl) rfl ?_
  refine v_loc [2, 3, 1, 0] rfl ?_
  exact v_A4500_fill_5 FU u a1 (0 : Int32) (4500 : Int32) hd
theorem m_A4500_fill (u : (Nat → Nat → Int32)) (a1 : Int32) {r : (Nat → Nat → Int32)} (hd : d_A4500_fill u a1 = some r) : Mt yJ7_fill_53178 cJ7_fill_53178 4 none (rm 0) [.ref 0, .int a1] (h_A4500 u) (ab_eq none (h_A4500 r)) := Mt.of (by decide +kernel) (fun _ _ _ => trivial) (Nat.le_of_ble_eq_true rfl) (v_A4500_fill u a1 hd)
