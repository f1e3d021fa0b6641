/-! PURE: who should be home -/
def scB (L : Nat → Nat) : Nat → Nat → Nat → Nat → Nat × Nat
  | 0, _, x, l => (x, l)
  | c + 1, m, x, l => if L m < l then scB L c (m + 1) m (L m) else scB L c (m + 1) x l
theorem scB_0 (L : Nat → Nat) : ∀ c m x, scB L c m x 0 = (x, 0) := by
  intro c
  induction c with
  | zero => intro m x; rfl
  | succ c ih => intro m x; rw [scB, if_neg (by omega)]; exact ih _ _
theorem pow4 : ∀ N, N ≤ 5 → 2 ^ (2 * N) ≤ 1024 ∧ 1 ≤ 2 ^ (2 * N) ∧ (1 : Int32) <<< (nI (2 * N) &&& 31) = nI (2 ^ (2 * N)) := by decide +kernel
theorem pow2 : ∀ N, N ≤ 5 → 2 ^ N ≤ 32 ∧ 1 ≤ 2 ^ N ∧ (1 : Int32) <<< (nI N &&& 31) = nI (2 ^ N) := by decide +kernel
def bRes (N h : Nat) (a2 : Int32) (p : Nat × Nat) : Int32 := if a2 = 0 then nI p.2 else nI (p.1 / 2 ^ (2 * (N - 1 - h)) % 4)
theorem F_best_lp {u : Nat → Nat → Int32} {N n h : Nat} {G : Nat → Nat} (ec : EC (sh u 11) N G 0 0) (I : sInv N G) (h19 : G 19 ≤ 999) (hn : n ≤ 20) (a2 a3 : Int32) (ha : a2 = 0 ∨ (h < N ∧ a3 = nI h)) : ∀ (f m x l : Nat) (t : Nat → Nat → Int32), AgF u t → m ≤ 2 ^ (2 * N) → 2 ^ (2 * N) - m < f → x < 2000 → l ≤ 1000000 → ∃ t', d_F_best_55 f t (nI n) a2 a3 (nI (2 ^ (2 * N))) (nI x) (nI l) (nI m) = some (bRes N h a2 (scB (fun m => sLs N n (sK N m (sT G))) (2 ^ (2 * N) - m) m x l), t') ∧ AgF u t' := by
  intro f
  induction f with
  | zero => intro m x l t _ _ hf; omega
  | succ f ih =>
    intro m x l t hA hm hf hx hl
    have hN := I.1
    have p4 := pow4 N hN
    have eF : d_F_best_97 t a2 a3 (nI x) (nI l) = some (bRes N h a2 (x, l), t) := by
      unfold d_F_best_97 bRes
      rcases ha with q | ⟨q1, q2⟩
      · rw [if_pos q, if_pos q]
      · by_cases q : a2 = 0
        · rw [if_pos q, if_pos q]
        · have e4 : sh t 11 0 4 = nI N := by rw [show sh t 11 0 = sh u 11 0 from hA 11 (by omega) (by omega)]; exact ec.1
          rw [if_neg q, if_neg q, q2, C_kindBy hN e4 q1 (by omega), Option.bind_some]
    rw [d_F_best_55]
    by_cases hc : 2 ^ (2 * N) ≤ m
    · rw [if_pos ((qb_leI (by omega) (by omega)).mpr hc), show 2 ^ (2 * N) - m = 0 by omega, eF]
      exact ⟨t, rfl, hA⟩
    · rw [if_neg (fun z => hc ((qb_leI (by omega) (by omega)).mp z))]
      have hle0 : nI l ≤ (0 : Int32) ↔ l ≤ 0 := qb_leI (b := 0) (by omega) (by omega)
      by_cases hl0 : l ≤ 0
      · rw [if_pos (hle0.mpr hl0), show l = 0 by omega, scB_0]
        rw [show l = 0 by omega] at eF
        rw [eF]
        exact ⟨t, rfl, hA⟩
      · rw [if_neg (fun z => hl0 (hle0.mp z))]
        obtain ⟨t1, e1, e2⟩ := F_byKinds (m := m) (n := n) ec I h19 (by omega) (by omega) hA
        have hL : sLs N n (sK N m (sT G)) ≤ 420 := by have := sLs_le (n := n) (sK_inv (m := m) (sT_inv I)); omega
        rw [e1, Option.bind_some]
        unfold d_F_best_91
        simp only [dl, k_1, nI_add, qb_leI (show l < 2147483648 by omega) (show sLs N n (sK N m (sT G)) < 2147483648 by omega)]
        rw [show 2 ^ (2 * N) - m = (2 ^ (2 * N) - (m + 1)) + 1 by omega, scB]
        by_cases hq : l ≤ sLs N n (sK N m (sT G))
        · rw [if_pos hq, if_neg (by omega)]
          exact ih (m + 1) x l t1 e2 (by omega) (by omega) hx hl
        · rw [if_neg hq, if_pos (by omega)]
          exact ih (m + 1) m _ t1 e2 (by omega) (by omega) (by omega) (by omega)
theorem M_best_lp {v : Nat → Nat → Int32} {N n h : Nat} {G : Nat → Nat} (h3 : v 0 3 = nI N) (hs : ∀ i, i < 22 → v 1 i = nI (G i)) (I : sInv N G) (h19 : G 19 ≤ 999) (hn : n ≤ 20) (a2 : Int32) (ha : a2 = 0 ∨ (h < N ∧ a2 - 10 = nI h)) : ∀ (f m x l : Nat) (t : Nat → Nat → Int32), AgM v t → m ≤ 2 ^ (2 * N) → 2 ^ (2 * N) - m < f → x < 2000 → l ≤ 1000000 → ∃ t', d_M_best_38 f t (nI n) a2 (nI l) (nI x) (nI m) = some (bRes N h a2 (scB (fun m => sLs N n (sK N m (sT G))) (2 ^ (2 * N) - m) m x l), t') ∧ AgM v t' := by
  intro f
  induction f with
  | zero => intro m x l t _ _ hf; omega
  | succ f ih =>
    intro m x l t hA hm hf hx hl
    have hN := I.1
    have p4 := pow4 N hN
    have e3 : t 0 3 = nI N := by rw [hA 0 (by omega) (by omega) (by omega)]; exact h3
    rw [d_M_best_38]
    unfold d_M_numbers
    rw [e3, k_2, pk_mul, p4.2.2, Option.bind_some]
    by_cases hc : 2 ^ (2 * N) ≤ m
    · rw [if_pos ((qb_leI (by omega) (by omega)).mpr hc), show 2 ^ (2 * N) - m = 0 by omega]
      obtain ⟨t1, e1, e2⟩ := M_startsBy (m := x) hN (by omega) h3 hs hA
      rw [e1, Option.bind_some, scB]
      unfold bRes
      rcases ha with q | ⟨q1, q2⟩
      · rw [if_pos q, if_pos q]
        exact ⟨t1, rfl, e2.2⟩
      · by_cases q : a2 = 0
        · rw [if_pos q, if_pos q]
          exact ⟨t1, rfl, e2.2⟩
        · rw [if_neg q, if_neg q, Int32.zero_add, q2, qb_gt (by omega) (by omega), if_pos rfl, qb_cl (by omega), e2.1.2 h (by omega)]
          refine ⟨t1, ?_, e2.2⟩
          unfold sK
          rw [if_pos q1]
    · rw [if_neg (fun z => hc ((qb_leI (by omega) (by omega)).mp z))]
      obtain ⟨t1, t2, e1, e2, e4⟩ := M_byKinds (m := m) (n := n) h3 hs I h19 (by omega) (by omega) hA
      have hL : sLs N n (sK N m (sT G)) ≤ 420 := by have := sLs_le (n := n) (sK_inv (m := m) (sT_inv I)); omega
      unfold d_M_best_73
      simp only [Option.bind_some, z10, z00, if_true, if_false, e1, e2, dl, k_1, nI_add, qb_leI (show l < 2147483648 by omega) (show sLs N n (sK N m (sT G)) < 2147483648 by omega), qp_less (show sLs N n (sK N m (sT G)) < 2147483648 by omega) (show l < 2147483648 by omega)]
      rw [show 2 ^ (2 * N) - m = (2 ^ (2 * N) - (m + 1)) + 1 by omega, scB]
      by_cases hq : l ≤ sLs N n (sK N m (sT G))
      · rw [if_pos hq, if_neg (by omega), Nat.min_eq_right hq]
        exact ih (m + 1) x l t2 e4 (by omega) (by omega) hx hl
      · rw [if_neg hq, if_pos (by omega), Nat.min_eq_left (by omega)]
        exact ih (m + 1) m _ t2 e4 (by omega) (by omega) (by omega) (by omega)
theorem p_best (u v : Nat → Nat → Int32) (a1 a2 : Int32) (h : Rel u v) : ∃ (r : Int32) (u2 : Nat → Nat → Int32) (v2 : Nat → Nat → Int32), d_F_best u a1 a2 = some (r, u2) ∧ d_M_best v a1 a2 = some (r, v2) ∧ Rel u2 v2 := by
  obtain ⟨N, g, h3, ⟨ec, hs, I, h19, h20⟩, hR⟩ := id h
  have hN := I.1
  have p4 := pow4 N hN
  unfold d_F_best d_M_best
  simp only [dl]
  rcases gd0 a1 20 (by omega) with ⟨n, n1, n2, n3, n4⟩ | ⟨n3, n4⟩
  · subst n2
    have n4' : d_P_in (nI n).toInt64 (0 : Int64) (20 : Int64) = some 1 := n4
    have n3' : d_P_outside (nI n) 0 20 = some 0 := n3
    have core : ∀ j, (a2 = 0 ∨ (j < N ∧ a2 - 10 = nI j)) → ∃ (r : Int32) (u2 : Nat → Nat → Int32) (v2 : Nat → Nat → Int32), d_F_best_32 u (nI n) a2 (a2 - 10) = some (r, u2) ∧ d_M_best_29 v (nI n) a2 = some (r, v2) ∧ Rel u2 v2 := fun j hj => by
      have e4 : u 11 4 = nI N := ec.1
      unfold d_F_best_32 d_M_best_29 d_C_allKinds
      have e4' : sh u 11 0 4 = nI N := ec.1
      obtain ⟨t1, e1, e2⟩ := F_byKinds (m := 0) (n := n) ec I h19 (by omega) (by omega) AgF.rf
      have hL : sLs N n (sK N 0 (sT g)) ≤ 420 := by have := sLs_le (n := n) (sK_inv (m := 0) (sT_inv I)); omega
      obtain ⟨t2, f1, f2⟩ := F_best_lp (h := j) ec I h19 n1 a2 (a2 - 10) hj FU 1 0 (sLs N n (sK N 0 (sT g))) t1 e2 (by omega) (by show 2 ^ (2 * N) - 1 < 10000; omega) (by omega) (by omega)
      obtain ⟨s2, k1, k2⟩ := M_best_lp (h := j) h3 hs I h19 n1 a2 hj FU 0 0 1000000 v AgM.rf (by omega) (by show 2 ^ (2 * N) - 0 < 10000; omega) (by omega) (by omega)
      rw [e4', k_2, pk_mul, p4.2.2, Option.bind_some]
      have e1' : d_F_lossByKinds u 0 (nI n) = some (nI (sLs N n (sK N 0 (sT g))), t1) := e1
      rw [e1', Option.bind_some]
      rw [show 2 ^ (2 * N) - 0 = (2 ^ (2 * N) - 1) + 1 by omega, scB, if_pos (by omega)] at k1
      exact ⟨_, t2, s2, f1, k1, h.ag f2 k2⟩
    simp only [Option.bind_some, z10, z00, if_true, if_false, n3', n4']
    by_cases q : a2 = 0
    · simp only [if_pos q]
      exact core 0 (Or.inl q)
    · simp only [if_neg q]
      rcases hs_F ec.1 hN h3 (a2 - 10) with ⟨j, j1, j2, j3, j4⟩ | ⟨j3, j4⟩
      · simp only [Option.bind_some, z10, z00, if_true, if_false, j3, j4]
        exact core j (Or.inr ⟨j1, j2⟩)
      · simp only [Option.bind_some, z10, z00, if_true, if_false, j3, j4]
        exact ⟨_, _, _, rfl, rfl, h⟩
  · have n4' : d_P_in a1.toInt64 (0 : Int64) (20 : Int64) = some 0 := n4
    have n3' : d_P_outside a1 0 20 = some 1 := n3
    simp only [Option.bind_some, z10, z00, if_true, if_false, n3', n4']
    exact ⟨_, _, _, rfl, rfl, h⟩
