/-! PURE: the equations of the plain calls -/
theorem RR.ag2 {N : Nat} {u v u' v' : Nat → Nat → Int32} (h : RR N u v) (hu : ∀ c, c < 55 → 20 < c → u' c = u c) (hv : ∀ c, c = 3 ∨ c = 9 ∨ c = 10 ∨ c = 11 → v' c = v c) (h1 : ∀ i, 22 ≤ i → v' 1 i = v 1 i) (tp : TR (u' 2 2) (u' 3) (v' 0 11) (v' 6)) (fa : u' 0 8 = v' 0 16) (to : u' 0 9 = v' 0 26) : RR N u' v' := by
  have s : ∀ b n : Nat, 20 < b → b + n ≤ 55 → ∀ i, i < n → sh u' b i = sh u b i := fun b n hb hn i hi => hu (b + i) (by omega) (by omega)
  refine ⟨h.sn.cg (s 21 4 (by omega) (by omega)) (fun i hi _ => h1 i hi), h.i0.cg (by rw [hu 26 (by omega) (by omega)]) (s 27 4 (by omega) (by omega)) (s 32 4 (by omega) (by omega)) (by rw [hv 3 (by omega)]) (fun i _ => h1 (41 + i) (by omega)), h.i1.cg (by rw [hu 36 (by omega) (by omega)]) (s 37 4 (by omega) (by omega)) (s 42 4 (by omega) (by omega)) (by rw [hv 3 (by omega)]) (fun i _ => h1 (82 + i) (by omega)), tp, fa, to, ?_, ?_, ?_, ?_⟩
  · exact h.h0.cg (s 47 2 (by omega) (by omega)) (by rw [hv 9 (by omega)]) (by rw [hv 10 (by omega)]) (fun i _ => by unfold so; rw [hv 11 (by omega)])
  · exact h.h1.cg (s 49 2 (by omega) (by omega)) (by rw [hv 9 (by omega)]) (by rw [hv 10 (by omega)]) (fun i _ => by unfold so; rw [hv 11 (by omega)])
  · exact h.h2.cg (s 51 2 (by omega) (by omega)) (by rw [hv 9 (by omega)]) (by rw [hv 10 (by omega)]) (fun i _ => by unfold so; rw [hv 11 (by omega)])
  · exact h.h3.cg (s 53 2 (by omega) (by omega)) (by rw [hv 9 (by omega)]) (by rw [hv 10 (by omega)]) (fun i _ => by unfold so; rw [hv 11 (by omega)])
theorem byt : ∀ j, j < 128 → vp_nar .byte (nI j).toInt8.toInt32 = nI j := by decide +kernel
theorem p_fault (u v : Nat → Nat → Int32) (h : Rel u v) : ∃ (r : Int32), d_F_fault u = some r ∧ d_M_fault v = some r ∧ Rel u v := by
  obtain ⟨N, g, h3, hC, hR⟩ := id h
  exact ⟨u 0 8, rfl, by unfold d_M_fault; rw [hR.fa], h⟩
theorem p_torn (u v : Nat → Nat → Int32) (h : Rel u v) : ∃ (r : Int32), d_F_torn u = some r ∧ d_M_torn v = some r ∧ Rel u v := by
  obtain ⟨N, g, h3, hC, hR⟩ := id h
  exact ⟨u 0 9, rfl, by unfold d_M_torn; rw [hR.to], h⟩
theorem p_end (u v : Nat → Nat → Int32) (a1 : Int32) (h : Rel u v) : ∃ (r : Int32) (u2 : Nat → Nat → Int32) (v2 : Nat → Nat → Int32), d_F_end u a1 = some (r, u2) ∧ d_M_end v a1 = some (r, v2) ∧ Rel u2 v2 := by
  obtain ⟨N, g, h3, hC, hR⟩ := id h
  obtain ⟨t, b, t1, t2, t3, t4⟩ := hR.tp
  unfold d_F_end d_M_end
  rw [t2, t3]
  rcases gd0 a1 t (by omega) with ⟨j, j1, j2, j3, j4⟩ | ⟨j3, j4⟩
  · have j4' : d_P_in a1.toInt64 (0 : Int64) (nI t).toInt64 = some 1 := j4
    rw [j3, j4', Option.bind_some, Option.bind_some, if_pos rfl, if_neg (by decide)]
    refine ⟨_, _, _, rfl, rfl, N, g, ?_, ?_, ?_⟩
    · rw [pw_s, up_n (by omega)]; exact h3
    · exact hC.cg (fun i hi => by show pw u 2 2 a1 (11 + i) = u (11 + i); rw [pw_n _ _ _ (by omega)]) (fun i _ => by rw [pw_n _ _ _ (by omega)])
    · refine hR.ag2 (fun c h1 h2 => pw_n _ _ _ (by omega)) (fun c hc => pw_n _ _ _ (by omega)) (fun i _ => by rw [pw_n _ _ _ (by omega)]) ?_ ?_ ?_
      · rw [pw_s, up_s, pw_s, up_s, pw_n _ _ _ (by omega), pw_n _ _ _ (by omega)]
        exact ⟨j, b, by omega, j2, j2, fun i hi => t4 i (by omega)⟩
      · rw [pw_n _ _ _ (by omega), pw_s, up_n (by omega)]; exact hR.fa
      · rw [pw_n _ _ _ (by omega), pw_s, up_n (by omega)]; exact hR.to
  · have j4' : d_P_in a1.toInt64 (0 : Int64) (nI t).toInt64 = some 0 := j4
    rw [j3, j4', Option.bind_some, Option.bind_some, if_neg (by decide), if_pos rfl]
    exact ⟨_, _, _, rfl, rfl, h⟩
theorem p_feed (u v : Nat → Nat → Int32) (a1 : Int32) (h : Rel u v) : ∃ (r : Int32) (u2 : Nat → Nat → Int32) (v2 : Nat → Nat → Int32), d_F_feed u a1 = some (r, u2) ∧ d_M_feed v a1 = some (r, v2) ∧ Rel u2 v2 := by
  obtain ⟨N, g, h3, hC, hR⟩ := id h
  obtain ⟨t, b, t1, t2, t3, t4⟩ := hR.tp
  unfold d_F_feed d_M_feed
  rcases gd0 a1 127 (by omega) with ⟨j, j1, j2, j3, j4⟩ | ⟨j3, j4⟩
  · have j4' : d_P_in a1.toInt64 (0 : Int64) (127 : Int64) = some 1 := j4
    have j3' : d_P_outside a1 0 127 = some 0 := j3
    rw [j3', j4', Option.bind_some, Option.bind_some, if_pos rfl, if_neg (by decide), t3]
    unfold d_T_append
    have t2' : sh u 2 0 2 = nI t := t2
    rw [t2', k_160]
    by_cases hc : t < 160
    · have hne : ¬ nI t = nI 160 := fun z => by have := (qb_eqI (by omega) (by omega)).mp z; omega
      rw [if_pos ((qb_ltI (by omega) (by omega)).mpr hc), if_neg hne, qb_gt hc (by omega), if_pos rfl, if_pos rfl, qb_cl (by omega)]
      simp only [dl, Option.bind_some]
      rw [if_neg (by decide), pw_s, up_s, k_1, nI_add, pw_n _ _ _ (by omega), t3, nI_add]
      refine ⟨_, _, _, rfl, rfl, N, g, ?_, ?_, ?_⟩
      · rw [pw_s, up_n (by omega), pw_n _ _ _ (by omega)]; exact h3
      · exact hC.cg (fun i hi => by show pt u 2 2 _ (11 + i) = u (11 + i); rw [pt_out (by omega)]) (fun i _ => by rw [pw_n _ _ _ (by omega), pw_n _ _ _ (by omega)])
      · refine hR.ag2 (fun c h1 h2 => pt_out (by omega)) (fun c hc => by rw [pw_n _ _ _ (by omega), pw_n _ _ _ (by omega)]) (fun i _ => by rw [pw_n _ _ _ (by omega), pw_n _ _ _ (by omega)]) ?_ ?_ ?_
        · rw [pt_at (by omega) (by omega), pt_at (by omega) (by omega), pw_s, up_s, pw_n _ _ _ (by omega), pw_s, pw_s, up_s, pw_n _ _ _ (by omega), pw_s, j2, byt j (by omega)]
          refine ⟨t + 1, fun i => if i = t then j else b i, by omega, rfl, rfl, fun i hi => ?_⟩
          by_cases q : i = t
          · subst q
            rw [up_s, up_s]
            simp only [if_true]
            exact ⟨by omega, trivial, trivial⟩
          · rw [up_n q, up_n q]
            simp only [if_neg q]
            exact t4 i (by omega)
        · rw [pt_out (by omega), pw_s, up_n (by omega), pw_n _ _ _ (by omega)]; exact hR.fa
        · rw [pt_out (by omega), pw_s, up_n (by omega), pw_n _ _ _ (by omega)]; exact hR.to
    · have : t = 160 := by omega
      subst this
      rw [if_neg (fun z => by have := (qb_ltI (by omega) (by omega)).mp z; omega), if_pos rfl, Option.bind_some, if_pos rfl]
      refine ⟨_, _, _, rfl, rfl, ?_⟩
      have e : pt u 2 2 (sh u 2) = u := by
        funext c
        unfold pt
        split
        · unfold sh; rw [show 2 + (c - 2) = c by omega]
        · rfl
      rw [e]
      exact h
  · have j4' : d_P_in a1.toInt64 (0 : Int64) (127 : Int64) = some 0 := j4
    have j3' : d_P_outside a1 0 127 = some 1 := j3
    rw [j3', j4', Option.bind_some, Option.bind_some, if_neg (by decide), if_pos rfl]
    exact ⟨_, _, _, rfl, rfl, h⟩
def sSum (g : Nat → Nat) (o : Nat) : Nat → Nat
  | 0 => 0
  | n + 1 => sSum g o n + g (o + n)
theorem C_allWorth_4 {c : Nat → Nat → Int32} {N b q : Nat} {g : Nat → Nat} (hN : N ≤ 5) (h : EC c N g b q) : ∀ (f k : Nat), k ≤ N → N - k < f → d_C_allWorth_4 f c (nI (sSum g 5 k)) (nI k) = some (nI (sSum g 5 N)) := by
  intro f
  induction f with
  | zero => intro k _ hf; omega
  | succ f ih =>
    intro k hk hf
    rw [d_C_allWorth_4, h.1]
    by_cases hc : N ≤ k
    · rw [if_pos ((qb_leI (by omega) (by omega)).mpr hc), show k = N by omega]
    · rw [if_neg (fun z => hc ((qb_leI (by omega) (by omega)).mp z)), qb_gt (by omega) (by omega), if_pos rfl, qb_cl (by omega), (h.2.2.2.2.2.2.2.2.2.2 k (by omega)).2.1]
      simp only [dl, k_1, nI_add]
      exact ih (k + 1) (by omega) (by omega)
theorem C_allWorth {c : Nat → Nat → Int32} {N b q : Nat} {g : Nat → Nat} (hN : N ≤ 5) (h : EC c N g b q) : d_C_allWorth c = some (nI (sSum g 5 N)) := C_allWorth_4 hN h FU 0 (by omega) (by show N - 0 < 10000; omega)
theorem C_allLost_4 {c : Nat → Nat → Int32} {N b q : Nat} {g : Nat → Nat} (hN : N ≤ 5) (h : EC c N g b q) : ∀ (f k : Nat), k ≤ N → N - k < f → d_C_allLost_4 f c (nI (sSum g 10 k)) (nI k) = some (nI (sSum g 10 N)) := by
  intro f
  induction f with
  | zero => intro k _ hf; omega
  | succ f ih =>
    intro k hk hf
    rw [d_C_allLost_4, h.1]
    by_cases hc : N ≤ k
    · rw [if_pos ((qb_leI (by omega) (by omega)).mpr hc), show k = N by omega]
    · rw [if_neg (fun z => hc ((qb_leI (by omega) (by omega)).mp z)), qb_gt (by omega) (by omega), if_pos rfl, qb_cl (by omega), (h.2.2.2.2.2.2.2.2.2.2 k (by omega)).2.2]
      simp only [dl, k_1, nI_add]
      exact ih (k + 1) (by omega) (by omega)
theorem C_allLost {c : Nat → Nat → Int32} {N b q : Nat} {g : Nat → Nat} (hN : N ≤ 5) (h : EC c N g b q) : d_C_allLost c = some (nI (sSum g 10 N)) := C_allLost_4 hN h FU 0 (by omega) (by show N - 0 < 10000; omega)
theorem M_allOf_4 {t : Nat → Nat → Int32} {N o : Nat} {g : Nat → Nat} (hN : N ≤ 5) (ho : o ≤ 10) (h : EM t N g) : ∀ (f k : Nat), k ≤ N → N - k < f → d_M_allOf_4 f t (nI o) (nI (sSum g o k)) (nI k) = some (nI (sSum g o N)) := by
  intro f
  induction f with
  | zero => intro k _ hf; omega
  | succ f ih =>
    intro k hk hf
    rw [d_M_allOf_4, h.1]
    by_cases hc : N ≤ k
    · rw [if_pos ((qb_leI (by omega) (by omega)).mpr hc), show k = N by omega]
    · rw [if_neg (fun z => hc ((qb_leI (by omega) (by omega)).mp z)), nI_add, qb_gt (by omega) (by omega), if_pos rfl, qb_cl (by omega), h.2 _ (by omega)]
      simp only [dl, k_1, nI_add]
      exact ih (k + 1) (by omega) (by omega)
theorem M_allOf {t : Nat → Nat → Int32} {N o : Nat} {g : Nat → Nat} (hN : N ≤ 5) (ho : o ≤ 10) (h : EM t N g) : d_M_allOf t (nI o) = some (nI (sSum g o N)) := M_allOf_4 hN ho h FU 0 (by omega) (by show N - 0 < 10000; omega)
theorem sSum_T {G : Nat → Nat} {o : Nat} : ∀ n, o + n ≤ 22 → sSum (sT G) o n = sSum G o n := by
  intro n
  induction n with
  | zero => intro _; rfl
  | succ n ih => intro h; rw [sSum, sSum, ih (by omega), sT_lt (by omega)]
theorem p_rule (u v : Nat → Nat → Int32) (a1 : Int32) (h : Rel u v) : ∃ (r : Int32) (v2 : Nat → Nat → Int32), d_F_rule u a1 = some r ∧ d_M_rule v a1 = some (r, v2) ∧ Rel u v2 := by
  obtain ⟨N, g, h3, ⟨ec, hs, I, h19, h20⟩, hR⟩ := id h
  obtain ⟨t, e1, e2⟩ := M_start h3 hs AgM.rf
  have hN := I.1
  have hr : Rel u t := h.ag AgF.rf e2.2
  have e3 : t 0 3 = nI N := e2.1.1
  have er : t 1 = v 1 := e2.2 1 (by omega) (by omega) (by omega)
  obtain ⟨c4, c5, c6, c7, c8, c9, c10, c11, -, -, -⟩ := id ec
  rw [Nat.sub_zero] at c10 c11
  unfold d_F_rule d_M_rule d_M_rule_61
  rw [e1, Option.bind_some]
  by_cases q0 : a1 = 0
  · rw [if_pos q0, if_pos q0, e3]; exact ⟨_, _, by rw [← c4]; rfl, rfl, hr⟩
  rw [if_neg q0, if_neg q0]
  by_cases q1 : a1 = 1
  · rw [if_pos q1, if_pos q1, q1, show ((15 : Int32) + 1 - 1) = nI 15 from rfl, qb_gt (by omega) (by omega), if_pos rfl, qb_cl (by omega), er, hs 15 (by omega)]
    exact ⟨_, _, by rw [← c5]; rfl, rfl, hr⟩
  rw [if_neg q1, if_neg q1]
  by_cases q1 : a1 = 2
  · rw [if_pos q1, if_pos q1, q1, show ((15 : Int32) + 2 - 1) = nI 16 from rfl, qb_gt (by omega) (by omega), if_pos rfl, qb_cl (by omega), er, hs 16 (by omega)]
    exact ⟨_, _, by rw [← c6]; rfl, rfl, hr⟩
  rw [if_neg q1, if_neg q1]
  by_cases q1 : a1 = 3
  · rw [if_pos q1, if_pos q1, q1, show ((15 : Int32) + 3 - 1) = nI 17 from rfl, qb_gt (by omega) (by omega), if_pos rfl, qb_cl (by omega), er, hs 17 (by omega)]
    exact ⟨_, _, by rw [← c7]; rfl, rfl, hr⟩
  rw [if_neg q1, if_neg q1]
  by_cases q1 : a1 = 4
  · rw [if_pos q1, if_pos q1, q1, show ((15 : Int32) + 4 - 1) = nI 18 from rfl, qb_gt (by omega) (by omega), if_pos rfl, qb_cl (by omega), er, hs 18 (by omega)]
    exact ⟨_, _, by rw [← c8]; rfl, rfl, hr⟩
  rw [if_neg q1, if_neg q1]
  by_cases q1 : a1 = 5
  · rw [if_pos q1, if_pos q1, q1, show ((15 : Int32) + 5 - 1) = nI 19 from rfl, qb_gt (by omega) (by omega), if_pos rfl, qb_cl (by omega), er, hs 19 (by omega)]
    exact ⟨_, _, by rw [← c9]; rfl, rfl, hr⟩
  rw [if_neg q1, if_neg q1]
  by_cases q1 : a1 = 6
  · rw [if_pos q1, if_pos q1, q1, show ((15 : Int32) + 6 - 1) = nI 20 from rfl, qb_gt (by omega) (by omega), if_pos rfl, qb_cl (by omega), er, hs 20 (by omega)]
    exact ⟨_, _, by rw [← c10]; rfl, rfl, hr⟩
  rw [if_neg q1, if_neg q1]
  by_cases q1 : a1 = 7
  · rw [if_pos q1, if_pos q1, q1, show ((15 : Int32) + 7 - 1) = nI 21 from rfl, qb_gt (by omega) (by omega), if_pos rfl, qb_cl (by omega), er, hs 21 (by omega)]
    exact ⟨_, _, by rw [← c11]; rfl, rfl, hr⟩
  rw [if_neg q1, if_neg q1]
  by_cases q1 : a1 = 8
  · rw [if_pos q1, if_pos q1, C_allWorth hN ec, k_5, M_allOf hN (by omega) e2.1, sSum_T _ (by omega)]
    exact ⟨_, _, rfl, rfl, hr⟩
  rw [if_neg q1, if_neg q1]
  exact ⟨_, _, rfl, rfl, hr⟩
theorem p_house (u v : Nat → Nat → Int32) (a1 a2 : Int32) (h : Rel u v) : ∃ (r : Int32), d_F_house u a1 a2 = some r ∧ d_M_house v a1 a2 = some r ∧ Rel u v := by
  obtain ⟨N, g, h3, ⟨ec, hs, I, h19, h20⟩, hR⟩ := id h
  have hN := I.1
  unfold d_F_house d_M_house
  rcases hs_F ec.1 hN h3 a1 with ⟨j, j1, j2, j3, j4⟩ | ⟨j3, j4⟩
  · subst j2
    obtain ⟨r1, r2, r3⟩ := ec.2.2.2.2.2.2.2.2.2.2 j j1
    have r1' : u 12 j = nI (g j) := r1
    have r2' : u 13 j = nI (g (5 + j)) := r2
    have r3' : u 14 j = nI (g (10 + j)) := r3
    simp only [Option.bind_some, z10, z00, if_true, if_false, j3, j4, qb_gt (show j < 5 by omega) (show 5 < 2147483648 by omega), qb_cl (show j < 2147483648 by omega), r1', r2', r3']
    rcases gd0 a2 2 (by omega) with ⟨i, i1, i2, i3, i4⟩ | ⟨i3, i4⟩
    · have i4' : d_P_in a2.toInt64 (0 : Int64) (2 : Int64) = some 1 := i4
      simp only [Option.bind_some, z10, z00, if_true, if_false, i4']
      rw [i2, k_5, pk_mul, nI_add, qb_gt (by omega) (by omega), if_pos rfl, qb_cl (by omega), hs _ (by omega)]
      rcases (show i = 0 ∨ i = 1 ∨ i = 2 by omega) with q | q | q
      · subst q; rw [if_pos (by decide), show 5 * 0 + j = j by omega]; exact ⟨_, rfl, rfl, h⟩
      · subst q; rw [if_neg (by decide), if_pos (by decide), show 5 * 1 + j = 5 + j by omega]; exact ⟨_, rfl, rfl, h⟩
      · subst q; rw [if_neg (by decide), if_neg (by decide), if_pos (by decide), show 5 * 2 + j = 10 + j by omega]; exact ⟨_, rfl, rfl, h⟩
    · have i4' : d_P_in a2.toInt64 (0 : Int64) (2 : Int64) = some 0 := i4
      simp only [Option.bind_some, z10, z00, if_true, if_false, i4']
      rw [if_neg, if_neg, if_neg]
      · exact ⟨_, rfl, rfl, h⟩
      all_goals (intro q; subst q; revert i3; decide)
  · rw [j3, j4, Option.bind_some, Option.bind_some, if_pos rfl, if_pos rfl]
    exact ⟨_, rfl, rfl, h⟩
theorem p_count (u v : Nat → Nat → Int32) (a1 : Int32) (h : Rel u v) : ∃ (r : Int32) (v2 : Nat → Nat → Int32), d_F_count u a1 = some r ∧ d_M_count v a1 = some (r, v2) ∧ Rel u v2 := by
  obtain ⟨N, g, h3, ⟨ec, hs, I, h19, h20⟩, hR⟩ := id h
  obtain ⟨t, e1, e2⟩ := M_start h3 hs AgM.rf
  have hN := I.1
  have hr : Rel u t := h.ag AgF.rf e2.2
  have rw' : ∀ c, c ≠ 2 → c ≠ 7 → c ≠ 8 → t c = v c := e2.2
  unfold d_F_count d_M_count
  rw [e1, Option.bind_some]
  by_cases q0 : a1 = 0
  · rw [if_pos q0, if_pos q0, C_allLost hN ec, k_10, M_allOf hN (by omega) e2.1, sSum_T _ (by omega)]
    exact ⟨_, _, rfl, rfl, hr⟩
  rw [if_neg q0, if_neg q0]
  by_cases q1 : a1 = 1
  · rw [if_pos q1, if_pos q1]
    obtain ⟨z, p, q, r, s1, s2, s3, -⟩ := hR.sn
    have s2' : u 21 3 = nI z := s2
    rw [s2', rw' 1 (by omega) (by omega) (by omega), show (22 : Int32).toNatClampNeg = 22 from rfl, s3]
    exact ⟨_, _, rfl, rfl, hr⟩
  rw [if_neg q1, if_neg q1]
  by_cases q2 : a1 = 2
  · rw [if_pos q2, if_pos q2, rw' 3 (by omega) (by omega) (by omega), show (0 : Int32).toNatClampNeg = 0 from rfl, show (1 : Int32).toNatClampNeg = 1 from rfl]
    have : d_F_imagesKept u = some (if u 26 2 = 0 then (if u 36 2 = 0 then 0 else 1) else (if u 36 2 = 0 then 1 else 2)) := by
      show d_F_imagesKept_4 (9997 + 1 + 1 + 1) u 0 0 = _
      have l1 : ∀ x : Int32, d_F_imagesKept_4 (9997 + 1 + 1) u x 1 = some (if u 36 2 = 0 then x else x + 1) := fun x => by
        rw [d_F_imagesKept_4, if_neg (by decide), if_neg (by decide), if_pos rfl]
        unfold d_F_imagesKept_24
        simp only [dl]
        by_cases z1 : u 36 2 = 0
        · rw [if_pos z1, if_pos z1]; rfl
        · rw [if_neg z1, if_neg z1]; rfl
      rw [d_F_imagesKept_4, if_neg (by decide), if_pos rfl]
      unfold d_F_imagesKept_24
      simp only [dl]
      rw [show (0 : Int32) + 1 = 1 from rfl, l1, l1]
      by_cases z0 : u 26 2 = 0
      · rw [if_pos z0, if_pos z0]; rfl
      · rw [if_neg z0, if_neg z0]; rfl
    rw [this]
    unfold d_P_flag
    rcases hR.i0 with ⟨x1, x2⟩ | ⟨x1, x2, -⟩ <;> rcases hR.i1 with ⟨y1, y2⟩ | ⟨y1, y2, -⟩ <;> rw [x1, x2, y1, y2] <;> exact ⟨_, _, rfl, rfl, hr⟩
  rw [if_neg q2, if_neg q2]
  by_cases q3 : a1 = 3
  · rw [if_pos q3, if_pos q3]
    obtain ⟨z, b, t1, t2, t3, t4⟩ := hR.tp
    rw [t2, rw' 0 (by omega) (by omega) (by omega), t3]
    exact ⟨_, _, rfl, rfl, hr⟩
  rw [if_neg q3, if_neg q3]
  by_cases q4 : a1 = 4
  · rw [if_pos q4, if_pos q4, if_pos rfl, if_pos rfl, rw' 9 (by omega) (by omega) (by omega), rw' 10 (by omega) (by omega) (by omega), show (0 : Int32).toNatClampNeg = 0 from rfl]
    rcases hR.h0 with ⟨x1, x2⟩ | ⟨x1, L, Z, x2, x3, x4, x5, x6, x7, x8⟩
    · have x1' : u 47 1 = 0 := x1
      rw [x1', x2, if_pos rfl, if_pos rfl]
      exact ⟨_, _, rfl, rfl, hr⟩
    · have x1' : u 47 1 = 1 := x1
      have x6' : u 47 3 = nI Z := x6
      have : ¬ nI L = (-4 : Int32) := by
        rcases (show L = 0 ∨ L = 1 ∨ L = 2 by omega) with q | q | q <;> subst q <;> decide
      rw [x1', x5, x6', x7, if_neg (by decide), if_neg this]
      exact ⟨_, _, rfl, rfl, hr⟩
  rw [if_neg q4, if_neg q4]
  exact ⟨_, _, rfl, rfl, hr⟩
