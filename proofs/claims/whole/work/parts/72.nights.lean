/-! PURE: offers, runs, what is ahead, bare -/
/-- an offer, to both -/
theorem off2 {c v : Nat → Nat → Int32} {N b q : Nat} {g : Nat → Nat} (h3 : v 0 3 = nI N) (ec : EC c N g b q) (hs : ∀ i, i < 22 → v 1 i = nI (g i)) (I : sInv N g) (a1 a2 : Int32) : (∃ h x, h < N ∧ 1 ≤ x ∧ x ≤ 20 ∧ x ≤ g (5 + h) ∧ a1 = nI h ∧ a2 = nI x ∧ (∃ c2, d_C_giveAhead c a1 a2 = some (nI (g 16 - x), c2) ∧ EC c2 N (sGive (sT g) h x) b q) ∧ ∃ v2, d_M_offer v a1 a2 = some (nI (g 16 - x), v2) ∧ (∀ r, r ≠ 1 → r ≠ 2 → r ≠ 7 → r ≠ 8 → v2 r = v r) ∧ (∀ i, i < 22 → v2 1 i = nI (sGive (sT g) h x i)) ∧ (∀ i, 22 ≤ i → v2 1 i = v 1 i)) ∨ (∃ r : Int32, (r = -1 ∨ r = -2) ∧ d_C_giveAhead c a1 a2 = some (r, c) ∧ d_M_offer v a1 a2 = some (r, v)) := by
  have hN := I.1
  unfold d_C_giveAhead d_M_offer
  rcases hs_F ec.1 hN h3 a1 with ⟨j, j1, j2, j3, j4⟩ | ⟨j3, j4⟩
  · rcases gd1 a2 20 (by omega) with ⟨m, m0, m1, m2, m3, m4⟩ | ⟨m3, m4⟩
    · subst j2
      subst m2
      have m4' : d_P_in (nI m).toInt64 (1 : Int64) (20 : Int64) = some 1 := m4
      have m3' : d_P_outside (nI m) 1 20 = some 0 := m3
      obtain ⟨r1, r2, r3⟩ := ec.2.2.2.2.2.2.2.2.2.2 j j1
      have hw := I.2.2.2.2.2.2.1 j (by omega)
      have h16 := I.2.2.2.1
      simp only [Option.bind_some, z10, z00, if_true, if_false, j3, j4, m3', m4', qb_gt (show j < 5 by omega) (show 5 < 2147483648 by omega), qb_cl (show j < 2147483648 by omega), k_5, nI_add, qb_gt (show 5 + j < 123 by omega) (show 123 < 2147483648 by omega), qb_cl (show 5 + j < 2147483648 by omega), r2, hs (5 + j) (by omega), qb_leI (show m < 2147483648 by omega) (show g (5 + j) < 2147483648 by omega)]
      by_cases hc : m ≤ g (5 + j)
      · left
        simp only [if_pos hc]
        obtain ⟨c2, f1, f2, f3⟩ := C_give (x := m) hN (ec.T hN) j1 (by rw [sT_lt (by omega)]; exact hc) (by rw [sT_lt (by omega)]; exact hw) (by rw [sT_lt (by omega)]; exact h16)
        obtain ⟨t, e1, e2, e3⟩ := M_start2 h3 hs AgM.rf
        obtain ⟨t2, g1, g2, g3⟩ := M_gives (k := j) (x := m) e2.1 (by omega) (by rw [sT_lt (by omega)]; exact hc) (by rw [sT_lt (by omega)]; exact hw) (by rw [sT_lt (by omega)]; exact h16)
        obtain ⟨t3, s1, s2, s3, s4⟩ := M_settle (e2.go g2 g3) (fun i hi hk => by rw [g3.2 i hi]; exact e3 i (by omega))
        have e16 : sGive (sT g) j m 16 = g 16 - m := by unfold sGive; rw [sp_s, sT_lt (by omega)]
        simp only [Option.bind_some, z10, z00, if_true, if_false, f1, e1, g1, s1, s3 16 (by omega), f2.2.2.1, e16, show (16 : Int32).toNatClampNeg = 16 from rfl]
        refine ⟨j, m, j1, m0, m1, hc, rfl, rfl, ⟨c2, rfl, f2⟩, t3, rfl, fun r r1 r2 r7 r8 => ?_, s3, s4⟩
        rw [s2 r r1, g3.1 r r2]; exact e2.2 r r2 r7 r8
      · right
        simp only [if_neg hc]
        exact ⟨-2, Or.inr rfl, rfl, rfl⟩
    · right
      have m4' : d_P_in a2.toInt64 (1 : Int64) (20 : Int64) = some 0 := m4
      have m3' : d_P_outside a2 1 20 = some 1 := m3
      simp only [Option.bind_some, z10, z00, if_true, if_false, j3, j4, m3', m4']
      exact ⟨-1, Or.inl rfl, rfl, rfl⟩
  · right
    simp only [Option.bind_some, z10, z00, if_true, if_false, j3, j4]
    exact ⟨-1, Or.inl rfl, rfl, rfl⟩
theorem sGive_keep {g : Nat → Nat} {h x : Nat} (hh : h < 5) : sGive g h x 19 = g 19 ∧ sGive g h x 20 = g 20 := by
  unfold sGive
  exact ⟨by rw [sp_n _ _ (by omega), sp_n _ _ (by omega), sp_n _ _ (by omega), sp_n _ _ (by omega)], by rw [sp_n _ _ (by omega), sp_n _ _ (by omega), sp_n _ _ (by omega), sp_n _ _ (by omega)]⟩
theorem p_offer (u v : Nat → Nat → Int32) (a1 a2 : Int32) (h : Rel u v) : ∃ (r : Int32) (u2 : Nat → Nat → Int32) (v2 : Nat → Nat → Int32), d_F_offer u a1 a2 = some (r, u2) ∧ d_M_offer v a1 a2 = some (r, v2) ∧ Rel u2 v2 := by
  obtain ⟨N, g, h3, ⟨ec, hs, I, h19, h20⟩, hR⟩ := id h
  have hN := I.1
  unfold d_F_offer
  rcases off2 h3 ec hs I a1 a2 with ⟨j, x, j1, x1, x2, x3, -, -, ⟨c2, f1, f2⟩, v2, g1, g2, g3, g4⟩ | ⟨r, -, f1, f2⟩
  · rw [f1, g1, Option.bind_some]
    have sk := sGive_keep (g := sT g) (x := x) (show j < 5 by omega)
    rw [sT_lt (by omega), sT_lt (by omega)] at sk
    refine ⟨_, _, _, rfl, rfl, ?_⟩
    exact Rel.now (g := sGive (sT g) j x) hR (fun c h1 h2 => pt_out (by omega)) (fun c hc => g2 c (by omega) (by omega) (by omega) (by omega)) g4 h3 (f2.cg (fun i hi => pt_in (by omega))) g3 (sGive_inv (by omega) (sT_inv I)) (by rw [sk.1]; exact h19) (by rw [sk.1, sk.2]; exact h20)
  · rw [f1, f2, Option.bind_some]
    refine ⟨_, _, _, rfl, rfl, ?_⟩
    have e : pt u 11 5 (sh u 11) = u := by
      funext c
      unfold pt
      split
      · unfold sh; rw [show 11 + (c - 11) = c by omega]
      · rfl
    rw [e]; exact h
theorem p_ahead (u v : Nat → Nat → Int32) (a1 a2 : Int32) (h : Rel u v) : ∃ (r : Int32) (u2 : Nat → Nat → Int32) (v2 : Nat → Nat → Int32), d_F_ahead u a1 a2 = some (r, u2) ∧ d_M_ahead v a1 a2 = some (r, v2) ∧ Rel u2 v2 := by
  obtain ⟨N, g, h3, ⟨ec, hs, I, h19, h20⟩, hR⟩ := id h
  have hN := I.1
  unfold d_F_ahead d_M_ahead
  rcases hs_F ec.1 hN h3 a1 with ⟨j, j1, j2, j3, j4⟩ | ⟨j3, j4⟩
  · subst j2
    rcases gd0 a2 30 (by omega) with ⟨m, m1, m2, m3, m4⟩ | ⟨m3, m4⟩
    · subst m2
      have m4' : d_P_in (nI m).toInt64 (0 : Int64) (30 : Int64) = some 1 := m4
      have m3' : d_P_outside (nI m) 0 30 = some 0 := m3
      obtain ⟨t1, e1, e2⟩ := F_start hN ec AgF.rf
      obtain ⟨c, f1, f2, f3, f4⟩ := e2.nights (n := m) (sT_inv I) (by rw [sT_lt (by omega)]; omega) (by omega)
      obtain ⟨s1, k1, k2⟩ := M_start h3 hs AgM.rf
      obtain ⟨s2, l1, l2, l3⟩ := M_nights (n := m) k2.1 (sT_inv I) (by rw [sT_lt (by omega)]; omega) (by omega)
      simp only [Option.bind_some, z10, z00, if_true, if_false, j3, j4, m3', m4', e1, f1, k1, l1, k_5, nI_add, qb_gt (show j < 5 by omega) (show 5 < 2147483648 by omega), qb_cl (show j < 2147483648 by omega), qb_gt (show 5 + j < 41 by omega) (show 41 < 2147483648 by omega), qb_cl (show 5 + j < 2147483648 by omega), (f3.2.2.2.2.2.2.2.2.2.2 j j1).2.1, l2.2 (5 + j) (by omega)]
      exact ⟨_, _, _, rfl, rfl, h.ag f2.2.2 (k2.go l2 l3).2⟩
    · have m4' : d_P_in a2.toInt64 (0 : Int64) (30 : Int64) = some 0 := m4
      have m3' : d_P_outside a2 0 30 = some 1 := m3
      simp only [Option.bind_some, z10, z00, if_true, if_false, j3, j4, m3', m4']
      exact ⟨_, _, _, rfl, rfl, h⟩
  · simp only [Option.bind_some, z10, z00, if_true, if_false, j3, j4]
    exact ⟨_, _, _, rfl, rfl, h⟩
theorem TF.night {u t : Nat → Nat → Int32} {N b q : Nat} {g : Nat → Nat} (h : TF u N g b q t) (I : sInv N g) (h19 : g 19 < 2000) : ∃ c, d_C_passNight (sh t 16) = some c ∧ TF u N (sNight N g) b q (pt t 16 5 c) ∧ EC c N (sNight N g) b q := by
  obtain ⟨c, e1, e2, e3⟩ := C_night h.1 I h19
  exact ⟨c, e1, h.go e2 e3, e2⟩
theorem TM.night {v t : Nat → Nat → Int32} {N : Nat} {g : Nat → Nat} (h : TM v N g t) (I : sInv N g) (h19 : g 19 < 2000) : ∃ t2, d_M_nightGoes t = some t2 ∧ TM v N (sNight N g) t2 := by
  obtain ⟨c, e1, e2, e3⟩ := M_night h.1 I h19
  exact ⟨c, e1, h.go e2 e3⟩
theorem bare_lp {u v : Nat → Nat → Int32} {N b q j : Nat} (hN : N ≤ 5) (hj : j < N) : ∀ (f k : Nat) (g : Nat → Nat) (t s : Nat → Nat → Int32), TF u N g b q t → TM v N g s → sInv N g → g 19 + (61 - k) ≤ 1100 → k ≤ 61 → 61 - k < f → ∃ r t' s', d_F_bare_19 f t (nI j) (nI k) = some (r, t') ∧ d_M_bare_16 f s (nI j) (nI k) = some (r, s') ∧ AgF u t' ∧ AgM v s' := by
  intro f
  induction f with
  | zero => intro k g t s _ _ _ _ _ hf; omega
  | succ f ih =>
    intro k g t s hF hM I h19 hk hf
    have hw := I.2.2.2.2.2.2.1 j (by omega)
    rw [d_F_bare_19, d_M_bare_16, k_60]
    by_cases hc : 60 < k
    · rw [if_pos ((qb_ltI (by omega) (by omega)).mpr hc), if_pos ((qb_ltI (by omega) (by omega)).mpr hc)]
      exact ⟨_, _, _, rfl, rfl, hF.2.2, hM.2⟩
    · have hw' : t 18 j = nI (g (5 + j)) := (hF.1.2.2.2.2.2.2.2.2.2.2 j hj).2.1
      have hne : ¬ nI 60 < nI k := fun z => hc ((qb_ltI (by omega) (by omega)).mp z)
      simp only [Option.bind_some, z10, z00, if_true, if_false, hne, k_5, nI_add, qb_gt (show j < 5 by omega) (show 5 < 2147483648 by omega), qb_cl (show j < 2147483648 by omega), qb_gt (show 5 + j < 41 by omega) (show 41 < 2147483648 by omega), qb_cl (show 5 + j < 2147483648 by omega), hw', hM.1.2 (5 + j) (by omega), show ((0 : Int32)) = nI 0 from rfl, qb_eqI (show g (5 + j) < 2147483648 by omega) (show 0 < 2147483648 by omega), dl, k_1]
      by_cases h0 : g (5 + j) = 0
      · simp only [if_pos h0]
        exact ⟨_, _, _, rfl, rfl, hF.2.2, hM.2⟩
      · simp only [if_neg h0]
        obtain ⟨c, f1, f2, f3⟩ := hF.night I (by omega)
        obtain ⟨s2, l1, l2⟩ := hM.night I (by omega)
        simp only [Option.bind_some, z10, z00, if_true, if_false, f1, l1]
        exact ih (k + 1) _ _ _ f2 l2 (sNight_inv I) (by rw [sNight_19]; omega) (by omega) (by omega)
theorem p_bare (u v : Nat → Nat → Int32) (a1 : Int32) (h : Rel u v) : ∃ (r : Int32) (u2 : Nat → Nat → Int32) (v2 : Nat → Nat → Int32), d_F_bare u a1 = some (r, u2) ∧ d_M_bare v a1 = some (r, v2) ∧ Rel u2 v2 := by
  obtain ⟨N, g, h3, ⟨ec, hs, I, h19, h20⟩, hR⟩ := id h
  have hN := I.1
  unfold d_F_bare d_M_bare
  rcases hs_F ec.1 hN h3 a1 with ⟨j, j1, j2, j3, j4⟩ | ⟨j3, j4⟩
  · subst j2
    obtain ⟨t1, e1, e2⟩ := F_start hN ec AgF.rf
    obtain ⟨s1, k1, k2⟩ := M_start h3 hs AgM.rf
    simp only [Option.bind_some, z10, z00, if_true, if_false, j3, j4, e1, k1]
    obtain ⟨r, t', s', a1, a2, a3, a4⟩ := bare_lp hN j1 FU 0 _ _ _ e2 k2 (sT_inv I) (by rw [sT_lt (by omega)]; omega) (by omega) (by show 61 - 0 < 10000; omega)
    exact ⟨r, t', s', a1, a2, h.ag a3 a4⟩
  · simp only [Option.bind_some, z10, z00, if_true, if_false, j3, j4]
    exact ⟨_, _, _, rfl, rfl, h⟩
theorem runs_lp {u v : Nat → Nat → Int32} {N n : Nat} {G : Nat → Nat} (hN : N ≤ 5) (hs : v 1 20 = nI (G 20) ∧ v 1 21 = nI (G 21)) (hn : n ≤ 30) (hG : G 20 ≤ 100000) (a2 : Int32) : ∀ (f k : Nat) (x3 : Int32) (g : Nat → Nat) (t s : Nat → Nat → Int32), TF u N g (G 20) (G 21) t → TM v N g s → sInv N g → g 19 + (n + 1 - k) ≤ 1100 → g 20 + 20 * (n + 1 - k) ≤ 200000 → k ≤ n + 1 → n + 1 - k < f → ∃ r t' s', d_F_runs_31 f t (nI n) a2 x3 (nI k) = some (r, t') ∧ d_M_runs_36 f s (nI n) a2 x3 (nI k) = some (r, s') ∧ AgF u t' ∧ AgM v s' := by
  intro f
  induction f with
  | zero => intro k x3 g t s _ _ _ _ _ _ hf; omega
  | succ f ih =>
    intro k x3 g t s hF hM I h19 h20 hk hf
    have m1 : s 1 = v 1 := hM.2 1 (by omega) (by omega) (by omega)
    rw [d_F_runs_31, d_M_runs_36]
    obtain ⟨c4, c5, c6, c7, c8, c9, c10, c11, cb, cq, -⟩ := id hF.1
    by_cases hc : n < k
    · rw [if_pos ((qb_ltI (by omega) (by omega)).mpr hc), if_pos ((qb_ltI (by omega) (by omega)).mpr hc)]
      have c5' : t 16 5 = nI (g 15) := c5
      have c6' : t 16 6 = nI (g 16) := c6
      have c7' : t 16 7 = nI (g 17) := c7
      have c10' : t 16 10 = nI (g 20 - G 20) := c10
      have c11' : t 16 11 = nI (g 21 - G 21) := c11
      simp only [Option.bind_some, z10, z00, if_true, if_false, c5', c6', c7', c10', c11', m1, hs.1, hs.2, show (20 : Int32).toNatClampNeg = 20 from rfl, show (21 : Int32).toNatClampNeg = 21 from rfl, show (16 : Int32).toNatClampNeg = 16 from rfl, show (17 : Int32).toNatClampNeg = 17 from rfl, show (15 : Int32).toNatClampNeg = 15 from rfl, hM.1.2 20 (by omega), hM.1.2 21 (by omega), hM.1.2 16 (by omega), hM.1.2 17 (by omega), hM.1.2 15 (by omega), pk_sub cb, pk_sub cq]
      by_cases q0 : a2 = 0
      · simp only [if_pos q0]; exact ⟨_, _, _, rfl, rfl, hF.2.2, hM.2⟩
      simp only [if_neg q0]
      by_cases q1 : a2 = 1
      · simp only [if_pos q1]; exact ⟨_, _, _, rfl, rfl, hF.2.2, hM.2⟩
      simp only [if_neg q1]
      by_cases q2 : a2 = 2
      · simp only [if_pos q2]; exact ⟨_, _, _, rfl, rfl, hF.2.2, hM.2⟩
      simp only [if_neg q2]
      by_cases q3 : a2 = 3
      · simp only [if_pos q3]; exact ⟨_, _, _, rfl, rfl, hF.2.2, hM.2⟩
      simp only [if_neg q3]
      by_cases q4 : a2 = 4
      · simp only [if_pos q4]; exact ⟨_, _, _, rfl, rfl, hF.2.2, hM.2⟩
      simp only [if_neg q4]
      exact ⟨_, _, _, rfl, rfl, hF.2.2, hM.2⟩
    · have hne : ¬ nI n < nI k := fun z => hc ((qb_ltI (by omega) (by omega)).mp z)
      rw [if_neg hne, if_neg hne]
      obtain ⟨c, f1, f2, f3⟩ := hF.night I (by omega)
      obtain ⟨s2, l1, l2⟩ := hM.night I (by omega)
      have mo := sNight_mono I
      have n1 : s2 1 = v 1 := l2.2 1 (by omega) (by omega) (by omega)
      obtain ⟨d4, d5, d6, d7, d8, d9, d10, d11, db, dq, -⟩ := id f3
      have w := fun x3 => ih (k + 1) x3 _ _ _ f2 l2 (sNight_inv I) (by rw [sNight_19]; omega) (by omega) (by omega) (by omega)
      unfold d_F_runs_63 d_M_runs_75 d_M_runs_74 d_M_runs_75
      simp only [Option.bind_some, z10, z00, if_true, if_false, f1, l1, n1, hs.1, show (20 : Int32).toNatClampNeg = 20 from rfl, d10, l2.1.2 20 (by omega), show ((0 : Int32)) = nI 0 from rfl, qb_leI (show sNight N g 20 - G 20 < 2147483648 by omega) (show 0 < 2147483648 by omega), qb_leI (show sNight N g 20 < 2147483648 by omega) (show G 20 < 2147483648 by omega), dl, k_1, nI_add]
      by_cases hz : sNight N g 20 ≤ G 20
      · have hz' : sNight N g 20 - G 20 ≤ 0 := by omega
        simp only [if_pos hz, if_pos hz', ite_self]
        exact w x3
      · have hz' : ¬ sNight N g 20 - G 20 ≤ 0 := by omega
        simp only [if_neg hz, if_neg hz']
        by_cases hx : x3 = (-4 : Int32)
        · have hx' : x3 = -nI 4 := hx
          simp only [if_pos hx, if_pos hx']
          exact w (nI k)
        · have hx' : ¬ x3 = -nI 4 := hx
          simp only [if_neg hx, if_neg hx']
          exact w x3
theorem p_runs (u v : Nat → Nat → Int32) (a1 a2 : Int32) (h : Rel u v) : ∃ (r : Int32) (u2 : Nat → Nat → Int32) (v2 : Nat → Nat → Int32), d_F_runs u a1 a2 = some (r, u2) ∧ d_M_runs v a1 a2 = some (r, v2) ∧ Rel u2 v2 := by
  obtain ⟨N, g, h3, ⟨ec, hs, I, h19, h20⟩, hR⟩ := id h
  have hN := I.1
  unfold d_F_runs d_M_runs
  rcases gd0 a1 30 (by omega) with ⟨m, m1, m2, m3, m4⟩ | ⟨m3, m4⟩
  · subst m2
    have m4' : d_P_in (nI m).toInt64 (0 : Int64) (30 : Int64) = some 1 := m4
    have m3' : d_P_outside (nI m) 0 30 = some 0 := m3
    rcases gd0 a2 5 (by omega) with ⟨l, l1, l2, l3, l4⟩ | ⟨l3, l4⟩
    · have l4' : d_P_in a2.toInt64 (0 : Int64) (5 : Int64) = some 1 := l4
      have l3' : d_P_outside a2 0 5 = some 0 := l3
      obtain ⟨t1, e1, e2⟩ := F_start hN ec AgF.rf
      obtain ⟨s1, k1, k2⟩ := M_start h3 hs AgM.rf
      simp only [Option.bind_some, z10, z00, if_true, if_false, m3', m4', l3', l4', e1, k1]
      obtain ⟨r, t', s', b1, b2, b3, b4⟩ := runs_lp (n := m) hN ⟨hs 20 (by omega), hs 21 (by omega)⟩ m1 (by omega) a2 FU 1 (-4) _ _ _ e2 k2 (sT_inv I) (by rw [sT_lt (by omega)]; omega) (by rw [sT_lt (by omega)]; omega) (by omega) (by show m + 1 - 1 < 10000; omega)
      exact ⟨r, t', s', b1, b2, h.ag b3 b4⟩
    · have l4' : d_P_in a2.toInt64 (0 : Int64) (5 : Int64) = some 0 := l4
      have l3' : d_P_outside a2 0 5 = some 1 := l3
      simp only [Option.bind_some, z10, z00, if_true, if_false, m3', m4', l3', l4']
      exact ⟨_, _, _, rfl, rfl, h⟩
  · have m4' : d_P_in a1.toInt64 (0 : Int64) (30 : Int64) = some 0 := m4
    have m3' : d_P_outside a1 0 30 = some 1 := m3
    simp only [Option.bind_some, z10, z00, if_true, if_false, m3', m4']
    exact ⟨_, _, _, rfl, rfl, h⟩
