/-! PURE: sheets -/
theorem A40_5 : ∀ (f k : Nat) (u : Nat → Nat → Int32), (∀ i, i < k → u 0 i = 0) → k ≤ 40 → 40 - k < f → ∃ z, d_A40_fill_5 f u 0 (nI k) 40 = some z ∧ ∀ i, i < 40 → z 0 i = 0 := by
  intro f
  induction f with
  | zero => intro k u _ _ hf; omega
  | succ f ih =>
    intro k u hu hk hf
    rw [d_A40_fill_5]
    have hle : (40 : Int32) ≤ nI k ↔ 40 ≤ k := qb_leI (a := 40) (by omega) (by omega)
    by_cases hc : 40 ≤ k
    · rw [if_pos (hle.mpr hc)]
      exact ⟨u, rfl, fun i hi => hu i (by omega)⟩
    · rw [if_neg (fun z => hc (hle.mp z)), qb_gt (by omega) (by omega), if_pos rfl, qb_cl (by omega)]
      simp only [dl, k_1, nI_add]
      refine ih (k + 1) _ (fun i hi => ?_) (by omega) (by omega)
      rw [pw_s]
      by_cases q : i = k
      · subst q; rw [up_s]
      · rw [up_n q]; exact hu i (by omega)
theorem S_renew (c : Nat → Nat → Int32) (a b : Int32) : ∃ z, d_S_renew c a b = some z ∧ z 0 1 = 1 ∧ z 0 2 = a ∧ z 0 3 = b ∧ ∀ i, i < 40 → z 1 i = 0 := by
  obtain ⟨y, y1, y2⟩ := A40_5 FU 0 (sh c 1) (fun i hi => by omega) (by omega) (by show 40 - 0 < 10000; omega)
  have y1' : d_A40_fill (sh c 1) 0 = some y := y1
  unfold d_S_renew
  rw [y1', Option.bind_some]
  refine ⟨_, rfl, ?_, ?_, ?_, fun i hi => ?_⟩
  · rw [pw_s, up_n (by omega), pw_s, up_n (by omega), pw_s, up_s]
  · rw [pw_s, up_n (by omega), pw_s, up_s]
  · rw [pw_s, up_s]
  · rw [pw_n _ _ _ (by omega), pw_n _ _ _ (by omega), pw_n _ _ _ (by omega), pt_at (by omega) (by omega)]
    exact y2 i hi
theorem M_sheet_40 {v : Nat → Nat → Int32} {k : Nat} (hk : k < 4) : ∀ (f j : Nat) (t : Nat → Nat → Int32), (∀ c, c ≠ 11 → t c = v c) → (∀ i, i < j → t 11 (40 * k + i) = 0) → (∀ i, i < 40 * k ∨ 40 * k + 40 ≤ i → t 11 i = v 11 i) → j ≤ 40 → 40 - j < f → ∃ t', d_M_sheet_40 f t (nI k) (nI j) = some (1, t') ∧ (∀ c, c ≠ 11 → t' c = v c) ∧ (∀ i, i < 40 → t' 11 (40 * k + i) = 0) ∧ (∀ i, i < 40 * k ∨ 40 * k + 40 ≤ i → t' 11 i = v 11 i) := by
  intro f
  induction f with
  | zero => intro j t _ _ _ _ hf; omega
  | succ f ih =>
    intro j t h1 h2 h3 hj hf
    rw [d_M_sheet_40, k_40]
    by_cases hc : 40 ≤ j
    · rw [if_pos ((qb_leI (by omega) (by omega)).mpr hc)]
      exact ⟨t, rfl, h1, fun i hi => h2 i (by omega), h3⟩
    · rw [if_neg (fun z => hc ((qb_leI (by omega) (by omega)).mp z)), pk_mul, nI_add, qb_gt (by omega) (by omega), if_pos rfl, qb_cl (by omega)]
      simp only [dl, k_1, nI_add]
      refine ih (j + 1) _ (fun c hc => by rw [pw_n _ _ _ hc]; exact h1 c hc) (fun i hi => ?_) (fun i hi => ?_) (by omega) (by omega)
      · rw [pw_s]
        by_cases q : i = j
        · subst q; rw [up_s]
        · rw [up_n (by omega)]; exact h2 i (by omega)
      · rw [pw_s, up_n (by omega)]; exact h3 i hi
theorem isSh (a1 a2 : Int32) : (∃ k l, k ≤ 3 ∧ l ≤ 2 ∧ a1 = nI k ∧ a2 = nI l ∧ d_P_outside a1 0 3 = some 0 ∧ d_P_outside a2 0 2 = some 0 ∧ d_P_isSheet a1 a2 = some 1) ∨ ((d_P_outside a1 0 3 = some 1 ∨ (d_P_outside a1 0 3 = some 0 ∧ d_P_outside a2 0 2 = some 1)) ∧ d_P_isSheet a1 a2 = some 0) := by
  unfold d_P_isSheet
  rcases gd0 a1 3 (by omega) with ⟨k, k1, k2, k3, k4⟩ | ⟨k3, k4⟩
  · have k4' : d_P_in a1.toInt64 (0 : Int64) (3 : Int64) = some 1 := k4
    rcases gd0 a2 2 (by omega) with ⟨l, l1, l2, l3, l4⟩ | ⟨l3, l4⟩
    · have l4' : d_P_in a2.toInt64 (0 : Int64) (2 : Int64) = some 1 := l4
      left
      refine ⟨k, l, k1, l1, k2, l2, k3, l3, ?_⟩
      simp only [Option.bind_some, z10, z00, if_true, if_false, k4', l4']
    · have l4' : d_P_in a2.toInt64 (0 : Int64) (2 : Int64) = some 0 := l4
      right
      refine ⟨Or.inr ⟨k3, l3⟩, ?_⟩
      simp only [Option.bind_some, z10, z00, if_true, if_false, k4', l4']
  · have k4' : d_P_in a1.toInt64 (0 : Int64) (3 : Int64) = some 0 := k4
    right
    refine ⟨Or.inl k3, ?_⟩
    simp only [Option.bind_some, z10, z00, if_true, if_false, k4']
theorem relS0 {u v u' v' : Nat → Nat → Int32} (h : Rel u v) (hu : ∀ c, c < 47 ∨ 48 < c → u' c = u c) (hv : ∀ c, c ≠ 9 → c ≠ 10 → c ≠ 11 → v' c = v c) (h9 : ∀ j, j ≠ 0 → v' 9 j = v 9 j) (h10 : ∀ j, j ≠ 0 → v' 10 j = v 10 j) (h11 : ∀ i, i < 0 ∨ 40 ≤ i → v' 11 i = v 11 i) (hn : HR (sh u' 47) (v' 9 0) (v' 10 0) (so (v' 11) 0)) : Rel u' v' := by
  obtain ⟨N, g, e3, hC, hR⟩ := h
  have s : ∀ b n : Nat, (b + n ≤ 47 ∨ 48 < b) → ∀ i, i < n → sh u' b i = sh u b i := fun b n hb i hi => hu (b + i) (by omega)
  refine ⟨N, g, by rw [hv 0 (by omega) (by omega) (by omega)]; exact e3, hC.cg (s 11 4 (by omega)) (fun i _ => by rw [hv 1 (by omega) (by omega) (by omega)]), ?_⟩
  refine ⟨hR.sn.cg (s 21 4 (by omega)) (fun i _ _ => by rw [hv 1 (by omega) (by omega) (by omega)]), hR.i0.cg (by rw [hu 26 (by omega)]) (s 27 4 (by omega)) (s 32 4 (by omega)) (by rw [hv 3 (by omega) (by omega) (by omega)]) (fun i _ => by unfold so; rw [hv 1 (by omega) (by omega) (by omega)]), hR.i1.cg (by rw [hu 36 (by omega)]) (s 37 4 (by omega)) (s 42 4 (by omega)) (by rw [hv 3 (by omega) (by omega) (by omega)]) (fun i _ => by unfold so; rw [hv 1 (by omega) (by omega) (by omega)]), ?_, ?_, ?_, hn, (hR.h1.cg (s 49 2 (by omega)) (h9 1 (by omega)) (h10 1 (by omega)) (fun i hi => h11 (40 + i) (by omega))), (hR.h2.cg (s 51 2 (by omega)) (h9 2 (by omega)) (h10 2 (by omega)) (fun i hi => h11 (80 + i) (by omega))), (hR.h3.cg (s 53 2 (by omega)) (h9 3 (by omega)) (h10 3 (by omega)) (fun i hi => h11 (120 + i) (by omega)))⟩
  · rw [hu 2 (by omega), hu 3 (by omega), hv 0 (by omega) (by omega) (by omega), hv 6 (by omega) (by omega) (by omega)]; exact hR.tp
  · rw [hu 0 (by omega), hv 0 (by omega) (by omega) (by omega)]; exact hR.fa
  · rw [hu 0 (by omega), hv 0 (by omega) (by omega) (by omega)]; exact hR.to
theorem sheetA0 (u v : Nat → Nat → Int32) (h : Rel u v) {l z : Nat} (hl : l ≤ 2) (hz : z ≤ 40) : ∃ (u2 v2 : Nat → Nat → Int32), (d_S_renew (sh u 47) (nI l) (nI z)).bind (fun zr10 => some ((1 : Int32), (pt u 47 2 zr10))) = some (1, u2) ∧ d_M_sheet_40 FU (pw (pw v 9 0 (nI l)) 10 0 (nI z)) (nI 0) 0 = some (1, v2) ∧ Rel u2 v2 := by
  obtain ⟨c, c1, c2, c3, c4, c5⟩ := S_renew (sh u 47) (nI l) (nI z)
  obtain ⟨t, t1, t2, t3, t4⟩ := M_sheet_40 (v := pw (pw v 9 0 (nI l)) 10 0 (nI z)) (k := 0) (by omega) FU 0 _ (fun _ _ => rfl) (fun i hi => by omega) (fun _ _ => rfl) (by omega) (by show 40 - 0 < 10000; omega)
  rw [c1, Option.bind_some]
  refine ⟨_, t, rfl, t1, relS0 h (fun c hc => pt_out (by omega)) (fun c q9 q10 q11 => by rw [t2 c q11, pw_n _ _ _ q10, pw_n _ _ _ q9]) (fun j hj => by rw [t2 9 (by omega), pw_n _ _ _ (by omega), pw_s, up_n hj]) (fun j hj => by rw [t2 10 (by omega), pw_s, up_n hj, pw_n _ _ _ (by omega)]) (fun i hi => by rw [t4 i (by omega), pw_n _ _ _ (by omega), pw_n _ _ _ (by omega)]) ?_⟩
  right
  rw [pt_in (by omega), pt_in (by omega), t2 9 (by omega), t2 10 (by omega), pw_n _ _ _ (show (9 : Nat) ≠ 10 by omega), pw_s, pw_s, up_s, up_s]
  refine ⟨c2, l, z, hl, hz, c3, rfl, c4, rfl, fun i hi => ?_⟩
  rw [c5 i hi]
  exact (t3 i hi).symm
theorem layA0 (u v : Nat → Nat → Int32) (a2 a3 : Int32) (h : Rel u v) : ∃ (r : Int32) (u2 v2 : Nat → Nat → Int32), d_F_lay u (nI 0) a2 a3 = some (r, u2) ∧ d_M_lay v (nI 0) a2 a3 = some (r, v2) ∧ Rel u2 v2 := by
  obtain ⟨N, g, e3, hC, hR⟩ := id h
  unfold d_F_lay d_M_lay
  rw [show d_P_isSheet (nI 0) 0 = some 1 from by decide +kernel, show d_P_outside (nI 0) 0 3 = some 0 from by decide +kernel, Option.bind_some, Option.bind_some, if_pos rfl, if_neg (show ¬ (1 : Int32) = 0 by decide), qb_gt (show 0 < 4 by omega) (by omega), if_pos rfl, qb_cl (by omega)]
  rw [if_pos (show nI 0 = (0 : Int32) from rfl)]
  unfold d_S_tearAt
  rcases hR.h0 with ⟨x1, x2⟩ | ⟨x1, L, Z, x2, x3, x4, x5, x6, x7, x8⟩
  · rw [if_pos x1, if_pos x2, Option.bind_some, if_neg (by decide)]
    exact ⟨_, _, _, rfl, rfl, h⟩
  · have x4' : u 47 2 = nI L := x4
    have n4 : ¬ nI L = (-4 : Int32) := by
      rcases (show L = 0 ∨ L = 1 ∨ L = 2 by omega) with q | q | q <;> subst q <;> decide
    rw [if_neg (show ¬ sh u 47 0 1 = 0 by rw [x1]; decide), x4, x4', x5, x6, x7, if_neg n4, if_pos rfl]
    rcases gd a2 0 (nI Z - 1) with ⟨y1, y2, y3, y4⟩ | ⟨y1, y3, y4⟩
    · have y4' : d_P_in a2.toInt64 (0 : Int64) (nI Z - 1).toInt64 = some 1 := y4
      obtain ⟨i, i1, i2⟩ := nI_of (x := a2) (Int32.not_lt.mpr y1)
      have iZ : i < Z := by
        rw [i2, qb_le, nI_toInt (by omega), k_1, pk_sub_toInt (by omega) (by omega)] at y2
        omega
      subst i2
      have o39 : d_P_outside (nI i) 0 39 = some 0 := by
        have := qp_out (nI i) 0 39
        rw [if_pos ⟨y1, (qb_leI (b := 39) (by omega) (by omega)).mpr (by omega)⟩] at this
        exact this
      unfold d_S_put
      simp only [Option.bind_some, z10, z00, if_true, if_false, y3, y4', o39, x4, k_40, pk_mul, nI_add, qb_gt (show i < 40 by omega) (show 40 < 2147483648 by omega), qb_cl (show i < 2147483648 by omega), qb_gt (show 40 * 0 + i < 160 by omega) (show 160 < 2147483648 by omega), qb_cl (show 40 * 0 + i < 2147483648 by omega), dl]
      have fin : ∀ w : Int32, Rel (pt u 47 2 (pw (sh u 47) 1 i w)) (pw v 11 (40 * 0 + i) w) := fun w => by
        refine relS0 h (fun c hc => pt_out (by omega)) (fun c q9 q10 q11 => pw_n _ _ _ q11) (fun j hj => by rw [pw_n _ _ _ (by omega)]) (fun j hj => by rw [pw_n _ _ _ (by omega)]) (fun j hj => by rw [pw_s, up_n (by omega)]) ?_
        right
        rw [pt_in (by omega), pt_in (by omega), pw_n _ _ _ (show (0 : Nat) ≠ 1 by omega), pw_s, pw_n _ _ _ (show (9 : Nat) ≠ 11 by omega), pw_n _ _ _ (show (10 : Nat) ≠ 11 by omega), pw_s]
        refine ⟨x1, L, Z, x2, x3, x4, x5, x6, x7, fun j hj => ?_⟩
        unfold so
        by_cases q : j = i
        · subst q; rw [up_s, up_s]
        · rw [up_n q, up_n (by omega)]; exact x8 j hj
      rcases (show L = 0 ∨ L = 1 ∨ L = 2 by omega) with q | q | q
      · subst q
        rw [if_pos (show nI 0 = (0 : Int32) from rfl), if_pos (show nI 0 = (0 : Int32) from rfl), Option.bind_some]
        exact ⟨_, _, _, rfl, rfl, fin _⟩
      · subst q
        rw [if_neg (show ¬ nI 1 = (0 : Int32) by decide), if_neg (show ¬ nI 1 = (0 : Int32) by decide), if_pos (show nI 1 = (1 : Int32) from rfl), if_pos (show nI 1 = (1 : Int32) from rfl), Option.bind_some]
        exact ⟨_, _, _, rfl, rfl, fin _⟩
      · subst q
        rw [if_neg (show ¬ nI 2 = (0 : Int32) by decide), if_neg (show ¬ nI 2 = (0 : Int32) by decide), if_neg (show ¬ nI 2 = (1 : Int32) by decide), if_neg (show ¬ nI 2 = (1 : Int32) by decide), Option.bind_some]
        exact ⟨_, _, _, rfl, rfl, fin _⟩
    · have y4' : d_P_in a2.toInt64 (0 : Int64) (nI Z - 1).toInt64 = some 0 := y4
      simp only [Option.bind_some, z10, z00, if_true, if_false, y3, y4']
      rw [if_neg (show ¬ (2 : Int32) = 0 by decide)]
      exact ⟨_, _, _, rfl, rfl, h⟩
theorem relS1 {u v u' v' : Nat → Nat → Int32} (h : Rel u v) (hu : ∀ c, c < 49 ∨ 50 < c → u' c = u c) (hv : ∀ c, c ≠ 9 → c ≠ 10 → c ≠ 11 → v' c = v c) (h9 : ∀ j, j ≠ 1 → v' 9 j = v 9 j) (h10 : ∀ j, j ≠ 1 → v' 10 j = v 10 j) (h11 : ∀ i, i < 40 ∨ 80 ≤ i → v' 11 i = v 11 i) (hn : HR (sh u' 49) (v' 9 1) (v' 10 1) (so (v' 11) 40)) : Rel u' v' := by
  obtain ⟨N, g, e3, hC, hR⟩ := h
  have s : ∀ b n : Nat, (b + n ≤ 49 ∨ 50 < b) → ∀ i, i < n → sh u' b i = sh u b i := fun b n hb i hi => hu (b + i) (by omega)
  refine ⟨N, g, by rw [hv 0 (by omega) (by omega) (by omega)]; exact e3, hC.cg (s 11 4 (by omega)) (fun i _ => by rw [hv 1 (by omega) (by omega) (by omega)]), ?_⟩
  refine ⟨hR.sn.cg (s 21 4 (by omega)) (fun i _ _ => by rw [hv 1 (by omega) (by omega) (by omega)]), hR.i0.cg (by rw [hu 26 (by omega)]) (s 27 4 (by omega)) (s 32 4 (by omega)) (by rw [hv 3 (by omega) (by omega) (by omega)]) (fun i _ => by unfold so; rw [hv 1 (by omega) (by omega) (by omega)]), hR.i1.cg (by rw [hu 36 (by omega)]) (s 37 4 (by omega)) (s 42 4 (by omega)) (by rw [hv 3 (by omega) (by omega) (by omega)]) (fun i _ => by unfold so; rw [hv 1 (by omega) (by omega) (by omega)]), ?_, ?_, ?_, (hR.h0.cg (s 47 2 (by omega)) (h9 0 (by omega)) (h10 0 (by omega)) (fun i hi => h11 (0 + i) (by omega))), hn, (hR.h2.cg (s 51 2 (by omega)) (h9 2 (by omega)) (h10 2 (by omega)) (fun i hi => h11 (80 + i) (by omega))), (hR.h3.cg (s 53 2 (by omega)) (h9 3 (by omega)) (h10 3 (by omega)) (fun i hi => h11 (120 + i) (by omega)))⟩
  · rw [hu 2 (by omega), hu 3 (by omega), hv 0 (by omega) (by omega) (by omega), hv 6 (by omega) (by omega) (by omega)]; exact hR.tp
  · rw [hu 0 (by omega), hv 0 (by omega) (by omega) (by omega)]; exact hR.fa
  · rw [hu 0 (by omega), hv 0 (by omega) (by omega) (by omega)]; exact hR.to
theorem sheetA1 (u v : Nat → Nat → Int32) (h : Rel u v) {l z : Nat} (hl : l ≤ 2) (hz : z ≤ 40) : ∃ (u2 v2 : Nat → Nat → Int32), (d_S_renew (sh u 49) (nI l) (nI z)).bind (fun zr10 => some ((1 : Int32), (pt u 49 2 zr10))) = some (1, u2) ∧ d_M_sheet_40 FU (pw (pw v 9 1 (nI l)) 10 1 (nI z)) (nI 1) 0 = some (1, v2) ∧ Rel u2 v2 := by
  obtain ⟨c, c1, c2, c3, c4, c5⟩ := S_renew (sh u 49) (nI l) (nI z)
  obtain ⟨t, t1, t2, t3, t4⟩ := M_sheet_40 (v := pw (pw v 9 1 (nI l)) 10 1 (nI z)) (k := 1) (by omega) FU 0 _ (fun _ _ => rfl) (fun i hi => by omega) (fun _ _ => rfl) (by omega) (by show 40 - 0 < 10000; omega)
  rw [c1, Option.bind_some]
  refine ⟨_, t, rfl, t1, relS1 h (fun c hc => pt_out (by omega)) (fun c q9 q10 q11 => by rw [t2 c q11, pw_n _ _ _ q10, pw_n _ _ _ q9]) (fun j hj => by rw [t2 9 (by omega), pw_n _ _ _ (by omega), pw_s, up_n hj]) (fun j hj => by rw [t2 10 (by omega), pw_s, up_n hj, pw_n _ _ _ (by omega)]) (fun i hi => by rw [t4 i (by omega), pw_n _ _ _ (by omega), pw_n _ _ _ (by omega)]) ?_⟩
  right
  rw [pt_in (by omega), pt_in (by omega), t2 9 (by omega), t2 10 (by omega), pw_n _ _ _ (show (9 : Nat) ≠ 10 by omega), pw_s, pw_s, up_s, up_s]
  refine ⟨c2, l, z, hl, hz, c3, rfl, c4, rfl, fun i hi => ?_⟩
  rw [c5 i hi]
  exact (t3 i hi).symm
theorem layA1 (u v : Nat → Nat → Int32) (a2 a3 : Int32) (h : Rel u v) : ∃ (r : Int32) (u2 v2 : Nat → Nat → Int32), d_F_lay u (nI 1) a2 a3 = some (r, u2) ∧ d_M_lay v (nI 1) a2 a3 = some (r, v2) ∧ Rel u2 v2 := by
  obtain ⟨N, g, e3, hC, hR⟩ := id h
  unfold d_F_lay d_M_lay
  rw [show d_P_isSheet (nI 1) 0 = some 1 from by decide +kernel, show d_P_outside (nI 1) 0 3 = some 0 from by decide +kernel, Option.bind_some, Option.bind_some, if_pos rfl, if_neg (show ¬ (1 : Int32) = 0 by decide), qb_gt (show 1 < 4 by omega) (by omega), if_pos rfl, qb_cl (by omega)]
  rw [if_neg (show ¬ nI 1 = (0 : Int32) by decide), if_pos (show nI 1 = (1 : Int32) from rfl)]
  unfold d_S_tearAt
  rcases hR.h1 with ⟨x1, x2⟩ | ⟨x1, L, Z, x2, x3, x4, x5, x6, x7, x8⟩
  · rw [if_pos x1, if_pos x2, Option.bind_some, if_neg (by decide)]
    exact ⟨_, _, _, rfl, rfl, h⟩
  · have x4' : u 49 2 = nI L := x4
    have n4 : ¬ nI L = (-4 : Int32) := by
      rcases (show L = 0 ∨ L = 1 ∨ L = 2 by omega) with q | q | q <;> subst q <;> decide
    rw [if_neg (show ¬ sh u 49 0 1 = 0 by rw [x1]; decide), x4, x4', x5, x6, x7, if_neg n4, if_pos rfl]
    rcases gd a2 0 (nI Z - 1) with ⟨y1, y2, y3, y4⟩ | ⟨y1, y3, y4⟩
    · have y4' : d_P_in a2.toInt64 (0 : Int64) (nI Z - 1).toInt64 = some 1 := y4
      obtain ⟨i, i1, i2⟩ := nI_of (x := a2) (Int32.not_lt.mpr y1)
      have iZ : i < Z := by
        rw [i2, qb_le, nI_toInt (by omega), k_1, pk_sub_toInt (by omega) (by omega)] at y2
        omega
      subst i2
      have o39 : d_P_outside (nI i) 0 39 = some 0 := by
        have := qp_out (nI i) 0 39
        rw [if_pos ⟨y1, (qb_leI (b := 39) (by omega) (by omega)).mpr (by omega)⟩] at this
        exact this
      unfold d_S_put
      simp only [Option.bind_some, z10, z00, if_true, if_false, y3, y4', o39, x4, k_40, pk_mul, nI_add, qb_gt (show i < 40 by omega) (show 40 < 2147483648 by omega), qb_cl (show i < 2147483648 by omega), qb_gt (show 40 * 1 + i < 160 by omega) (show 160 < 2147483648 by omega), qb_cl (show 40 * 1 + i < 2147483648 by omega), dl]
      have fin : ∀ w : Int32, Rel (pt u 49 2 (pw (sh u 49) 1 i w)) (pw v 11 (40 * 1 + i) w) := fun w => by
        refine relS1 h (fun c hc => pt_out (by omega)) (fun c q9 q10 q11 => pw_n _ _ _ q11) (fun j hj => by rw [pw_n _ _ _ (by omega)]) (fun j hj => by rw [pw_n _ _ _ (by omega)]) (fun j hj => by rw [pw_s, up_n (by omega)]) ?_
        right
        rw [pt_in (by omega), pt_in (by omega), pw_n _ _ _ (show (0 : Nat) ≠ 1 by omega), pw_s, pw_n _ _ _ (show (9 : Nat) ≠ 11 by omega), pw_n _ _ _ (show (10 : Nat) ≠ 11 by omega), pw_s]
        refine ⟨x1, L, Z, x2, x3, x4, x5, x6, x7, fun j hj => ?_⟩
        unfold so
        by_cases q : j = i
        · subst q; rw [up_s, up_s]
        · rw [up_n q, up_n (by omega)]; exact x8 j hj
      rcases (show L = 0 ∨ L = 1 ∨ L = 2 by omega) with q | q | q
      · subst q
        rw [if_pos (show nI 0 = (0 : Int32) from rfl), if_pos (show nI 0 = (0 : Int32) from rfl), Option.bind_some]
        exact ⟨_, _, _, rfl, rfl, fin _⟩
      · subst q
        rw [if_neg (show ¬ nI 1 = (0 : Int32) by decide), if_neg (show ¬ nI 1 = (0 : Int32) by decide), if_pos (show nI 1 = (1 : Int32) from rfl), if_pos (show nI 1 = (1 : Int32) from rfl), Option.bind_some]
        exact ⟨_, _, _, rfl, rfl, fin _⟩
      · subst q
        rw [if_neg (show ¬ nI 2 = (0 : Int32) by decide), if_neg (show ¬ nI 2 = (0 : Int32) by decide), if_neg (show ¬ nI 2 = (1 : Int32) by decide), if_neg (show ¬ nI 2 = (1 : Int32) by decide), Option.bind_some]
        exact ⟨_, _, _, rfl, rfl, fin _⟩
    · have y4' : d_P_in a2.toInt64 (0 : Int64) (nI Z - 1).toInt64 = some 0 := y4
      simp only [Option.bind_some, z10, z00, if_true, if_false, y3, y4']
      rw [if_neg (show ¬ (2 : Int32) = 0 by decide)]
      exact ⟨_, _, _, rfl, rfl, h⟩
theorem relS2 {u v u' v' : Nat → Nat → Int32} (h : Rel u v) (hu : ∀ c, c < 51 ∨ 52 < c → u' c = u c) (hv : ∀ c, c ≠ 9 → c ≠ 10 → c ≠ 11 → v' c = v c) (h9 : ∀ j, j ≠ 2 → v' 9 j = v 9 j) (h10 : ∀ j, j ≠ 2 → v' 10 j = v 10 j) (h11 : ∀ i, i < 80 ∨ 120 ≤ i → v' 11 i = v 11 i) (hn : HR (sh u' 51) (v' 9 2) (v' 10 2) (so (v' 11) 80)) : Rel u' v' := by
  obtain ⟨N, g, e3, hC, hR⟩ := h
  have s : ∀ b n : Nat, (b + n ≤ 51 ∨ 52 < b) → ∀ i, i < n → sh u' b i = sh u b i := fun b n hb i hi => hu (b + i) (by omega)
  refine ⟨N, g, by rw [hv 0 (by omega) (by omega) (by omega)]; exact e3, hC.cg (s 11 4 (by omega)) (fun i _ => by rw [hv 1 (by omega) (by omega) (by omega)]), ?_⟩
  refine ⟨hR.sn.cg (s 21 4 (by omega)) (fun i _ _ => by rw [hv 1 (by omega) (by omega) (by omega)]), hR.i0.cg (by rw [hu 26 (by omega)]) (s 27 4 (by omega)) (s 32 4 (by omega)) (by rw [hv 3 (by omega) (by omega) (by omega)]) (fun i _ => by unfold so; rw [hv 1 (by omega) (by omega) (by omega)]), hR.i1.cg (by rw [hu 36 (by omega)]) (s 37 4 (by omega)) (s 42 4 (by omega)) (by rw [hv 3 (by omega) (by omega) (by omega)]) (fun i _ => by unfold so; rw [hv 1 (by omega) (by omega) (by omega)]), ?_, ?_, ?_, (hR.h0.cg (s 47 2 (by omega)) (h9 0 (by omega)) (h10 0 (by omega)) (fun i hi => h11 (0 + i) (by omega))), (hR.h1.cg (s 49 2 (by omega)) (h9 1 (by omega)) (h10 1 (by omega)) (fun i hi => h11 (40 + i) (by omega))), hn, (hR.h3.cg (s 53 2 (by omega)) (h9 3 (by omega)) (h10 3 (by omega)) (fun i hi => h11 (120 + i) (by omega)))⟩
  · rw [hu 2 (by omega), hu 3 (by omega), hv 0 (by omega) (by omega) (by omega), hv 6 (by omega) (by omega) (by omega)]; exact hR.tp
  · rw [hu 0 (by omega), hv 0 (by omega) (by omega) (by omega)]; exact hR.fa
  · rw [hu 0 (by omega), hv 0 (by omega) (by omega) (by omega)]; exact hR.to
theorem sheetA2 (u v : Nat → Nat → Int32) (h : Rel u v) {l z : Nat} (hl : l ≤ 2) (hz : z ≤ 40) : ∃ (u2 v2 : Nat → Nat → Int32), (d_S_renew (sh u 51) (nI l) (nI z)).bind (fun zr10 => some ((1 : Int32), (pt u 51 2 zr10))) = some (1, u2) ∧ d_M_sheet_40 FU (pw (pw v 9 2 (nI l)) 10 2 (nI z)) (nI 2) 0 = some (1, v2) ∧ Rel u2 v2 := by
  obtain ⟨c, c1, c2, c3, c4, c5⟩ := S_renew (sh u 51) (nI l) (nI z)
  obtain ⟨t, t1, t2, t3, t4⟩ := M_sheet_40 (v := pw (pw v 9 2 (nI l)) 10 2 (nI z)) (k := 2) (by omega) FU 0 _ (fun _ _ => rfl) (fun i hi => by omega) (fun _ _ => rfl) (by omega) (by show 40 - 0 < 10000; omega)
  rw [c1, Option.bind_some]
  refine ⟨_, t, rfl, t1, relS2 h (fun c hc => pt_out (by omega)) (fun c q9 q10 q11 => by rw [t2 c q11, pw_n _ _ _ q10, pw_n _ _ _ q9]) (fun j hj => by rw [t2 9 (by omega), pw_n _ _ _ (by omega), pw_s, up_n hj]) (fun j hj => by rw [t2 10 (by omega), pw_s, up_n hj, pw_n _ _ _ (by omega)]) (fun i hi => by rw [t4 i (by omega), pw_n _ _ _ (by omega), pw_n _ _ _ (by omega)]) ?_⟩
  right
  rw [pt_in (by omega), pt_in (by omega), t2 9 (by omega), t2 10 (by omega), pw_n _ _ _ (show (9 : Nat) ≠ 10 by omega), pw_s, pw_s, up_s, up_s]
  refine ⟨c2, l, z, hl, hz, c3, rfl, c4, rfl, fun i hi => ?_⟩
  rw [c5 i hi]
  exact (t3 i hi).symm
theorem layA2 (u v : Nat → Nat → Int32) (a2 a3 : Int32) (h : Rel u v) : ∃ (r : Int32) (u2 v2 : Nat → Nat → Int32), d_F_lay u (nI 2) a2 a3 = some (r, u2) ∧ d_M_lay v (nI 2) a2 a3 = some (r, v2) ∧ Rel u2 v2 := by
  obtain ⟨N, g, e3, hC, hR⟩ := id h
  unfold d_F_lay d_M_lay
  rw [show d_P_isSheet (nI 2) 0 = some 1 from by decide +kernel, show d_P_outside (nI 2) 0 3 = some 0 from by decide +kernel, Option.bind_some, Option.bind_some, if_pos rfl, if_neg (show ¬ (1 : Int32) = 0 by decide), qb_gt (show 2 < 4 by omega) (by omega), if_pos rfl, qb_cl (by omega)]
  rw [if_neg (show ¬ nI 2 = (0 : Int32) by decide), if_neg (show ¬ nI 2 = (1 : Int32) by decide), if_pos (show nI 2 = (2 : Int32) from rfl)]
  unfold d_S_tearAt
  rcases hR.h2 with ⟨x1, x2⟩ | ⟨x1, L, Z, x2, x3, x4, x5, x6, x7, x8⟩
  · rw [if_pos x1, if_pos x2, Option.bind_some, if_neg (by decide)]
    exact ⟨_, _, _, rfl, rfl, h⟩
  · have x4' : u 51 2 = nI L := x4
    have n4 : ¬ nI L = (-4 : Int32) := by
      rcases (show L = 0 ∨ L = 1 ∨ L = 2 by omega) with q | q | q <;> subst q <;> decide
    rw [if_neg (show ¬ sh u 51 0 1 = 0 by rw [x1]; decide), x4, x4', x5, x6, x7, if_neg n4, if_pos rfl]
    rcases gd a2 0 (nI Z - 1) with ⟨y1, y2, y3, y4⟩ | ⟨y1, y3, y4⟩
    · have y4' : d_P_in a2.toInt64 (0 : Int64) (nI Z - 1).toInt64 = some 1 := y4
      obtain ⟨i, i1, i2⟩ := nI_of (x := a2) (Int32.not_lt.mpr y1)
      have iZ : i < Z := by
        rw [i2, qb_le, nI_toInt (by omega), k_1, pk_sub_toInt (by omega) (by omega)] at y2
        omega
      subst i2
      have o39 : d_P_outside (nI i) 0 39 = some 0 := by
        have := qp_out (nI i) 0 39
        rw [if_pos ⟨y1, (qb_leI (b := 39) (by omega) (by omega)).mpr (by omega)⟩] at this
        exact this
      unfold d_S_put
      simp only [Option.bind_some, z10, z00, if_true, if_false, y3, y4', o39, x4, k_40, pk_mul, nI_add, qb_gt (show i < 40 by omega) (show 40 < 2147483648 by omega), qb_cl (show i < 2147483648 by omega), qb_gt (show 40 * 2 + i < 160 by omega) (show 160 < 2147483648 by omega), qb_cl (show 40 * 2 + i < 2147483648 by omega), dl]
      have fin : ∀ w : Int32, Rel (pt u 51 2 (pw (sh u 51) 1 i w)) (pw v 11 (40 * 2 + i) w) := fun w => by
        refine relS2 h (fun c hc => pt_out (by omega)) (fun c q9 q10 q11 => pw_n _ _ _ q11) (fun j hj => by rw [pw_n _ _ _ (by omega)]) (fun j hj => by rw [pw_n _ _ _ (by omega)]) (fun j hj => by rw [pw_s, up_n (by omega)]) ?_
        right
        rw [pt_in (by omega), pt_in (by omega), pw_n _ _ _ (show (0 : Nat) ≠ 1 by omega), pw_s, pw_n _ _ _ (show (9 : Nat) ≠ 11 by omega), pw_n _ _ _ (show (10 : Nat) ≠ 11 by omega), pw_s]
        refine ⟨x1, L, Z, x2, x3, x4, x5, x6, x7, fun j hj => ?_⟩
        unfold so
        by_cases q : j = i
        · subst q; rw [up_s, up_s]
        · rw [up_n q, up_n (by omega)]; exact x8 j hj
      rcases (show L = 0 ∨ L = 1 ∨ L = 2 by omega) with q | q | q
      · subst q
        rw [if_pos (show nI 0 = (0 : Int32) from rfl), if_pos (show nI 0 = (0 : Int32) from rfl), Option.bind_some]
        exact ⟨_, _, _, rfl, rfl, fin _⟩
      · subst q
        rw [if_neg (show ¬ nI 1 = (0 : Int32) by decide), if_neg (show ¬ nI 1 = (0 : Int32) by decide), if_pos (show nI 1 = (1 : Int32) from rfl), if_pos (show nI 1 = (1 : Int32) from rfl), Option.bind_some]
        exact ⟨_, _, _, rfl, rfl, fin _⟩
      · subst q
        rw [if_neg (show ¬ nI 2 = (0 : Int32) by decide), if_neg (show ¬ nI 2 = (0 : Int32) by decide), if_neg (show ¬ nI 2 = (1 : Int32) by decide), if_neg (show ¬ nI 2 = (1 : Int32) by decide), Option.bind_some]
        exact ⟨_, _, _, rfl, rfl, fin _⟩
    · have y4' : d_P_in a2.toInt64 (0 : Int64) (nI Z - 1).toInt64 = some 0 := y4
      simp only [Option.bind_some, z10, z00, if_true, if_false, y3, y4']
      rw [if_neg (show ¬ (2 : Int32) = 0 by decide)]
      exact ⟨_, _, _, rfl, rfl, h⟩
theorem relS3 {u v u' v' : Nat → Nat → Int32} (h : Rel u v) (hu : ∀ c, c < 53 ∨ 54 < c → u' c = u c) (hv : ∀ c, c ≠ 9 → c ≠ 10 → c ≠ 11 → v' c = v c) (h9 : ∀ j, j ≠ 3 → v' 9 j = v 9 j) (h10 : ∀ j, j ≠ 3 → v' 10 j = v 10 j) (h11 : ∀ i, i < 120 ∨ 160 ≤ i → v' 11 i = v 11 i) (hn : HR (sh u' 53) (v' 9 3) (v' 10 3) (so (v' 11) 120)) : Rel u' v' := by
  obtain ⟨N, g, e3, hC, hR⟩ := h
  have s : ∀ b n : Nat, (b + n ≤ 53 ∨ 54 < b) → ∀ i, i < n → sh u' b i = sh u b i := fun b n hb i hi => hu (b + i) (by omega)
  refine ⟨N, g, by rw [hv 0 (by omega) (by omega) (by omega)]; exact e3, hC.cg (s 11 4 (by omega)) (fun i _ => by rw [hv 1 (by omega) (by omega) (by omega)]), ?_⟩
  refine ⟨hR.sn.cg (s 21 4 (by omega)) (fun i _ _ => by rw [hv 1 (by omega) (by omega) (by omega)]), hR.i0.cg (by rw [hu 26 (by omega)]) (s 27 4 (by omega)) (s 32 4 (by omega)) (by rw [hv 3 (by omega) (by omega) (by omega)]) (fun i _ => by unfold so; rw [hv 1 (by omega) (by omega) (by omega)]), hR.i1.cg (by rw [hu 36 (by omega)]) (s 37 4 (by omega)) (s 42 4 (by omega)) (by rw [hv 3 (by omega) (by omega) (by omega)]) (fun i _ => by unfold so; rw [hv 1 (by omega) (by omega) (by omega)]), ?_, ?_, ?_, (hR.h0.cg (s 47 2 (by omega)) (h9 0 (by omega)) (h10 0 (by omega)) (fun i hi => h11 (0 + i) (by omega))), (hR.h1.cg (s 49 2 (by omega)) (h9 1 (by omega)) (h10 1 (by omega)) (fun i hi => h11 (40 + i) (by omega))), (hR.h2.cg (s 51 2 (by omega)) (h9 2 (by omega)) (h10 2 (by omega)) (fun i hi => h11 (80 + i) (by omega))), hn⟩
  · rw [hu 2 (by omega), hu 3 (by omega), hv 0 (by omega) (by omega) (by omega), hv 6 (by omega) (by omega) (by omega)]; exact hR.tp
  · rw [hu 0 (by omega), hv 0 (by omega) (by omega) (by omega)]; exact hR.fa
  · rw [hu 0 (by omega), hv 0 (by omega) (by omega) (by omega)]; exact hR.to
theorem sheetA3 (u v : Nat → Nat → Int32) (h : Rel u v) {l z : Nat} (hl : l ≤ 2) (hz : z ≤ 40) : ∃ (u2 v2 : Nat → Nat → Int32), (d_S_renew (sh u 53) (nI l) (nI z)).bind (fun zr10 => some ((1 : Int32), (pt u 53 2 zr10))) = some (1, u2) ∧ d_M_sheet_40 FU (pw (pw v 9 3 (nI l)) 10 3 (nI z)) (nI 3) 0 = some (1, v2) ∧ Rel u2 v2 := by
  obtain ⟨c, c1, c2, c3, c4, c5⟩ := S_renew (sh u 53) (nI l) (nI z)
  obtain ⟨t, t1, t2, t3, t4⟩ := M_sheet_40 (v := pw (pw v 9 3 (nI l)) 10 3 (nI z)) (k := 3) (by omega) FU 0 _ (fun _ _ => rfl) (fun i hi => by omega) (fun _ _ => rfl) (by omega) (by show 40 - 0 < 10000; omega)
  rw [c1, Option.bind_some]
  refine ⟨_, t, rfl, t1, relS3 h (fun c hc => pt_out (by omega)) (fun c q9 q10 q11 => by rw [t2 c q11, pw_n _ _ _ q10, pw_n _ _ _ q9]) (fun j hj => by rw [t2 9 (by omega), pw_n _ _ _ (by omega), pw_s, up_n hj]) (fun j hj => by rw [t2 10 (by omega), pw_s, up_n hj, pw_n _ _ _ (by omega)]) (fun i hi => by rw [t4 i (by omega), pw_n _ _ _ (by omega), pw_n _ _ _ (by omega)]) ?_⟩
  right
  rw [pt_in (by omega), pt_in (by omega), t2 9 (by omega), t2 10 (by omega), pw_n _ _ _ (show (9 : Nat) ≠ 10 by omega), pw_s, pw_s, up_s, up_s]
  refine ⟨c2, l, z, hl, hz, c3, rfl, c4, rfl, fun i hi => ?_⟩
  rw [c5 i hi]
  exact (t3 i hi).symm
theorem layA3 (u v : Nat → Nat → Int32) (a2 a3 : Int32) (h : Rel u v) : ∃ (r : Int32) (u2 v2 : Nat → Nat → Int32), d_F_lay u (nI 3) a2 a3 = some (r, u2) ∧ d_M_lay v (nI 3) a2 a3 = some (r, v2) ∧ Rel u2 v2 := by
  obtain ⟨N, g, e3, hC, hR⟩ := id h
  unfold d_F_lay d_M_lay
  rw [show d_P_isSheet (nI 3) 0 = some 1 from by decide +kernel, show d_P_outside (nI 3) 0 3 = some 0 from by decide +kernel, Option.bind_some, Option.bind_some, if_pos rfl, if_neg (show ¬ (1 : Int32) = 0 by decide), qb_gt (show 3 < 4 by omega) (by omega), if_pos rfl, qb_cl (by omega)]
  rw [if_neg (show ¬ nI 3 = (0 : Int32) by decide), if_neg (show ¬ nI 3 = (1 : Int32) by decide), if_neg (show ¬ nI 3 = (2 : Int32) by decide), if_pos (show nI 3 = (3 : Int32) from rfl)]
  unfold d_S_tearAt
  rcases hR.h3 with ⟨x1, x2⟩ | ⟨x1, L, Z, x2, x3, x4, x5, x6, x7, x8⟩
  · rw [if_pos x1, if_pos x2, Option.bind_some, if_neg (by decide)]
    exact ⟨_, _, _, rfl, rfl, h⟩
  · have x4' : u 53 2 = nI L := x4
    have n4 : ¬ nI L = (-4 : Int32) := by
      rcases (show L = 0 ∨ L = 1 ∨ L = 2 by omega) with q | q | q <;> subst q <;> decide
    rw [if_neg (show ¬ sh u 53 0 1 = 0 by rw [x1]; decide), x4, x4', x5, x6, x7, if_neg n4, if_pos rfl]
    rcases gd a2 0 (nI Z - 1) with ⟨y1, y2, y3, y4⟩ | ⟨y1, y3, y4⟩
    · have y4' : d_P_in a2.toInt64 (0 : Int64) (nI Z - 1).toInt64 = some 1 := y4
      obtain ⟨i, i1, i2⟩ := nI_of (x := a2) (Int32.not_lt.mpr y1)
      have iZ : i < Z := by
        rw [i2, qb_le, nI_toInt (by omega), k_1, pk_sub_toInt (by omega) (by omega)] at y2
        omega
      subst i2
      have o39 : d_P_outside (nI i) 0 39 = some 0 := by
        have := qp_out (nI i) 0 39
        rw [if_pos ⟨y1, (qb_leI (b := 39) (by omega) (by omega)).mpr (by omega)⟩] at this
        exact this
      unfold d_S_put
      simp only [Option.bind_some, z10, z00, if_true, if_false, y3, y4', o39, x4, k_40, pk_mul, nI_add, qb_gt (show i < 40 by omega) (show 40 < 2147483648 by omega), qb_cl (show i < 2147483648 by omega), qb_gt (show 40 * 3 + i < 160 by omega) (show 160 < 2147483648 by omega), qb_cl (show 40 * 3 + i < 2147483648 by omega), dl]
      have fin : ∀ w : Int32, Rel (pt u 53 2 (pw (sh u 53) 1 i w)) (pw v 11 (40 * 3 + i) w) := fun w => by
        refine relS3 h (fun c hc => pt_out (by omega)) (fun c q9 q10 q11 => pw_n _ _ _ q11) (fun j hj => by rw [pw_n _ _ _ (by omega)]) (fun j hj => by rw [pw_n _ _ _ (by omega)]) (fun j hj => by rw [pw_s, up_n (by omega)]) ?_
        right
        rw [pt_in (by omega), pt_in (by omega), pw_n _ _ _ (show (0 : Nat) ≠ 1 by omega), pw_s, pw_n _ _ _ (show (9 : Nat) ≠ 11 by omega), pw_n _ _ _ (show (10 : Nat) ≠ 11 by omega), pw_s]
        refine ⟨x1, L, Z, x2, x3, x4, x5, x6, x7, fun j hj => ?_⟩
        unfold so
        by_cases q : j = i
        · subst q; rw [up_s, up_s]
        · rw [up_n q, up_n (by omega)]; exact x8 j hj
      rcases (show L = 0 ∨ L = 1 ∨ L = 2 by omega) with q | q | q
      · subst q
        rw [if_pos (show nI 0 = (0 : Int32) from rfl), if_pos (show nI 0 = (0 : Int32) from rfl), Option.bind_some]
        exact ⟨_, _, _, rfl, rfl, fin _⟩
      · subst q
        rw [if_neg (show ¬ nI 1 = (0 : Int32) by decide), if_neg (show ¬ nI 1 = (0 : Int32) by decide), if_pos (show nI 1 = (1 : Int32) from rfl), if_pos (show nI 1 = (1 : Int32) from rfl), Option.bind_some]
        exact ⟨_, _, _, rfl, rfl, fin _⟩
      · subst q
        rw [if_neg (show ¬ nI 2 = (0 : Int32) by decide), if_neg (show ¬ nI 2 = (0 : Int32) by decide), if_neg (show ¬ nI 2 = (1 : Int32) by decide), if_neg (show ¬ nI 2 = (1 : Int32) by decide), Option.bind_some]
        exact ⟨_, _, _, rfl, rfl, fin _⟩
    · have y4' : d_P_in a2.toInt64 (0 : Int64) (nI Z - 1).toInt64 = some 0 := y4
      simp only [Option.bind_some, z10, z00, if_true, if_false, y3, y4']
      rw [if_neg (show ¬ (2 : Int32) = 0 by decide)]
      exact ⟨_, _, _, rfl, rfl, h⟩
theorem p_sheet (u v : Nat → Nat → Int32) (a1 a2 a3 : Int32) (h : Rel u v) : ∃ (r : Int32) (u2 : Nat → Nat → Int32) (v2 : Nat → Nat → Int32), d_F_sheet u a1 a2 a3 = some (r, u2) ∧ d_M_sheet v a1 a2 a3 = some (r, v2) ∧ Rel u2 v2 := by
  unfold d_F_sheet d_M_sheet
  rcases isSh a1 a2 with ⟨k, l, k1, l1, k2, l2, o1, o2, o3⟩ | ⟨q | ⟨q1, q2⟩, o3⟩
  · subst k2
    subst l2
    simp only [Option.bind_some, z10, z00, if_true, if_false, o1, o2, o3, qb_gt (show k < 4 by omega) (show 4 < 2147483648 by omega), qb_cl (show k < 2147483648 by omega), dl]
    by_cases h40 : a3 ≤ 40
    · simp only [if_pos h40]
      by_cases h0 : 0 ≤ a3
      · simp only [if_pos h0]
        obtain ⟨z, z1, z2⟩ := nI_of (x := a3) (Int32.not_lt.mpr h0)
        subst z2
        have hz : z ≤ 40 := (qb_leI (b := 40) (by omega) (by omega)).mp h40
        rcases (show k = 0 ∨ k = 1 ∨ k = 2 ∨ k = 3 by omega) with q | q | q | q
        · subst q
          rw [if_pos (show nI 0 = (0 : Int32) from rfl)]
          obtain ⟨u2, v2, b1, b2, b3⟩ := sheetA0 u v h l1 hz
          exact ⟨1, u2, v2, b1, b2, b3⟩
        · subst q
          rw [if_neg (show ¬ nI 1 = (0 : Int32) by decide), if_pos (show nI 1 = (1 : Int32) from rfl)]
          obtain ⟨u2, v2, b1, b2, b3⟩ := sheetA1 u v h l1 hz
          exact ⟨1, u2, v2, b1, b2, b3⟩
        · subst q
          rw [if_neg (show ¬ nI 2 = (0 : Int32) by decide), if_neg (show ¬ nI 2 = (1 : Int32) by decide), if_pos (show nI 2 = (2 : Int32) from rfl)]
          obtain ⟨u2, v2, b1, b2, b3⟩ := sheetA2 u v h l1 hz
          exact ⟨1, u2, v2, b1, b2, b3⟩
        · subst q
          rw [if_neg (show ¬ nI 3 = (0 : Int32) by decide), if_neg (show ¬ nI 3 = (1 : Int32) by decide), if_neg (show ¬ nI 3 = (2 : Int32) by decide), if_pos (show nI 3 = (3 : Int32) from rfl)]
          obtain ⟨u2, v2, b1, b2, b3⟩ := sheetA3 u v h l1 hz
          exact ⟨1, u2, v2, b1, b2, b3⟩
      · simp only [if_neg h0]
        exact ⟨_, _, _, rfl, rfl, h⟩
    · simp only [if_neg h40]
      exact ⟨_, _, _, rfl, rfl, h⟩
  · simp only [Option.bind_some, z10, z00, if_true, if_false, q, o3]
    exact ⟨_, _, _, rfl, rfl, h⟩
  · simp only [Option.bind_some, z10, z00, if_true, if_false, q1, q2, o3]
    exact ⟨_, _, _, rfl, rfl, h⟩
theorem p_lay (u v : Nat → Nat → Int32) (a1 a2 a3 : Int32) (h : Rel u v) : ∃ (r : Int32) (u2 : Nat → Nat → Int32) (v2 : Nat → Nat → Int32), d_F_lay u a1 a2 a3 = some (r, u2) ∧ d_M_lay v a1 a2 a3 = some (r, v2) ∧ Rel u2 v2 := by
  rcases isSh a1 0 with ⟨k, l, k1, l1, k2, l2, o1, o2, o3⟩ | ⟨q | ⟨q1, q2⟩, o3⟩
  · subst k2
    rcases (show k = 0 ∨ k = 1 ∨ k = 2 ∨ k = 3 by omega) with q | q | q | q
    · subst q; exact layA0 u v a2 a3 h
    · subst q; exact layA1 u v a2 a3 h
    · subst q; exact layA2 u v a2 a3 h
    · subst q; exact layA3 u v a2 a3 h
  · unfold d_F_lay d_M_lay
    simp only [Option.bind_some, z10, z00, if_true, if_false, q, o3]
    exact ⟨_, _, _, rfl, rfl, h⟩
  · exfalso
    revert q2
    decide
