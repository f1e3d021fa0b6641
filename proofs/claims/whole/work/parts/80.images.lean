/-! PURE: what was seen, images -/
theorem RR.ag3 {N : Nat} {u v u' v' : Nat → Nat → Int32} (h : RR N u v) (hu : ∀ c, c < 55 → (c < 11 ∨ 24 < c) → u' c = u c) (hv : ∀ c, c = 0 ∨ c = 3 ∨ c = 6 ∨ c = 9 ∨ c = 10 ∨ c = 11 → v' c = v c) (h1 : ∀ i, 41 ≤ i → v' 1 i = v 1 i) (sn : SR (sh u' 21) (v' 1) N) : RR N u' v' := by
  have s : ∀ b n : Nat, 24 < b → b + n ≤ 55 → ∀ i, i < n → sh u' b i = sh u b i := fun b n hb hn i hi => hu (b + i) (by omega) (by omega)
  refine ⟨sn, h.i0.cg (by rw [hu 26 (by omega) (by omega)]) (s 27 4 (by omega) (by omega)) (s 32 4 (by omega) (by omega)) (by rw [hv 3 (by omega)]) (fun i _ => h1 (41 + i) (by omega)), h.i1.cg (by rw [hu 36 (by omega) (by omega)]) (s 37 4 (by omega) (by omega)) (s 42 4 (by omega) (by omega)) (by rw [hv 3 (by omega)]) (fun i _ => h1 (82 + i) (by omega)), ?_, ?_, ?_, ?_, ?_, ?_, ?_⟩
  · rw [hu 2 (by omega) (by omega), hu 3 (by omega) (by omega), hv 0 (by omega), hv 6 (by omega)]; exact h.tp
  · rw [hu 0 (by omega) (by omega), hv 0 (by omega)]; exact h.fa
  · rw [hu 0 (by omega) (by omega), hv 0 (by omega)]; exact h.to
  · exact h.h0.cg (s 47 2 (by omega) (by omega)) (by rw [hv 9 (by omega)]) (by rw [hv 10 (by omega)]) (fun i _ => by unfold so; rw [hv 11 (by omega)])
  · exact h.h1.cg (s 49 2 (by omega) (by omega)) (by rw [hv 9 (by omega)]) (by rw [hv 10 (by omega)]) (fun i _ => by unfold so; rw [hv 11 (by omega)])
  · exact h.h2.cg (s 51 2 (by omega) (by omega)) (by rw [hv 9 (by omega)]) (by rw [hv 10 (by omega)]) (fun i _ => by unfold so; rw [hv 11 (by omega)])
  · exact h.h3.cg (s 53 2 (by omega) (by omega)) (by rw [hv 9 (by omega)]) (by rw [hv 10 (by omega)]) (fun i _ => by unfold so; rw [hv 11 (by omega)])
theorem p_forget (u v : Nat → Nat → Int32) (a1 : Int32) (h : Rel u v) : ∃ (r : Int32) (u2 : Nat → Nat → Int32) (v2 : Nat → Nat → Int32), d_F_forget u a1 = some (r, u2) ∧ d_M_forget v a1 = some (r, v2) ∧ Rel u2 v2 := by
  obtain ⟨N, g, h3, hC, hR⟩ := id h
  obtain ⟨z, p, q, r, z1, z2, z3, z4⟩ := hR.sn
  have z2' : u 21 3 = nI z := z2
  unfold d_F_forget d_M_forget d_M_becomes
  rw [z2', show (22 : Int32).toNatClampNeg = 22 from rfl, z3]
  rcases gd0 a1 z (by omega) with ⟨j, j1, j2, j3, j4⟩ | ⟨j3, j4⟩
  · have j4' : d_P_in a1.toInt64 (0 : Int64) (nI z).toInt64 = some 1 := j4
    simp only [Option.bind_some, z10, z00, if_true, if_false, j3, j4', k_22, qb_gt (show 22 < 123 by omega) (show 123 < 2147483648 by omega), qb_cl (show 22 < 2147483648 by omega), z3, dl]
    refine ⟨_, _, _, rfl, rfl, N, g, ?_, ?_, ?_⟩
    · rw [pw_n _ _ _ (by omega)]; exact h3
    · exact hC.cg (fun i hi => by show pw u 21 3 a1 (11 + i) = u (11 + i); rw [pw_n _ _ _ (by omega)]) (fun i hi => by rw [pw_s, up_n (by omega)])
    · refine hR.ag3 (fun c h1 h2 => pw_n _ _ _ (by omega)) (fun c hc => pw_n _ _ _ (by omega)) (fun i hi => by rw [pw_s, up_n (by omega)]) ⟨j, p, q, r, by omega, ?_, ?_, fun i hi => ?_⟩
      · show pw u 21 3 a1 21 3 = _
        rw [pw_s, up_s, j2]
      · rw [pw_s, up_s, j2]
      · have w := z4 i (by omega)
        have e : ∀ k, k < 3 → sh (pw u 21 3 a1) 21 (k + 1) = sh u 21 (k + 1) := fun k hk => pw_n _ _ _ (by omega)
        rw [e 0 (by omega), e 1 (by omega), e 2 (by omega), pw_s, up_n (by omega), up_n (by omega), up_n (by omega)]
        exact w
  · have j4' : d_P_in a1.toInt64 (0 : Int64) (nI z).toInt64 = some 0 := j4
    simp only [Option.bind_some, z10, z00, if_true, if_false, j3, j4']
    exact ⟨_, _, _, rfl, rfl, h⟩
theorem p_see (u v : Nat → Nat → Int32) (a1 a2 a3 : Int32) (h : Rel u v) : ∃ (r : Int32) (u2 : Nat → Nat → Int32) (v2 : Nat → Nat → Int32), d_F_see u a1 a2 a3 = some (r, u2) ∧ d_M_see v a1 a2 a3 = some (r, v2) ∧ Rel u2 v2 := by
  obtain ⟨N, g, h3, hC, hR⟩ := id h
  obtain ⟨ec, hs, I, h19, h20⟩ := id hC
  have hN := I.1
  obtain ⟨z, p, q, r, z1, z2, z3, z4⟩ := hR.sn
  unfold d_F_see d_M_see
  rcases hs_F ec.1 hN h3 a1 with ⟨j, j1, j2, j3, j4⟩ | ⟨j3, j4⟩
  · rcases gd1 a2 9 (by omega) with ⟨n, n0, n1, n2, n3, n4⟩ | ⟨n3, n4⟩
    · have n4' : d_P_in a2.toInt64 (1 : Int64) (9 : Int64) = some 1 := n4
      have n3' : d_P_outside a2 1 9 = some 0 := n3
      rcases gd0 a3 99 (by omega) with ⟨m, m1, m2, m3, m4⟩ | ⟨m3, m4⟩
      · have m4' : d_P_in a3.toInt64 (0 : Int64) (99 : Int64) = some 1 := m4
        have m3' : d_P_outside a3 0 99 = some 0 := m3
        unfold d_G_append
        have hz6 : nI z = (6 : Int32) ↔ z = 6 := qb_eqI (b := 6) (by omega) (by omega)
        have hl6 : nI z < (6 : Int32) ↔ z < 6 := qb_ltI (b := 6) (by omega) (by omega)
        simp only [Option.bind_some, z10, z00, if_true, if_false, j3, j4, n3', n4', m3', m4', z2, show (22 : Int32).toNatClampNeg = 22 from rfl, z3, hz6, hl6]
        by_cases hc : z < 6
        · have hne : ¬ z = 6 := by omega
          have e1 : (23 : Int32) + 3 * nI z = nI (23 + 3 * z) := by rw [k_23, k_3, pk_mul, nI_add]
          have e2 : nI (23 + 3 * z) + (1 : Int32) = nI (24 + 3 * z) := by rw [k_1, nI_add, show 23 + 3 * z + 1 = 24 + 3 * z by omega]
          have e3 : nI (23 + 3 * z) + (2 : Int32) = nI (25 + 3 * z) := by rw [k_2, nI_add, show 23 + 3 * z + 2 = 25 + 3 * z by omega]
          have e4 : nI z + (1 : Int32) = nI (z + 1) := nI_add z 1
          simp only [if_pos hc, if_neg hne, dl, e1, e2, e3, e4, qb_gt (show z < 6 by omega) (show 6 < 2147483648 by omega), qb_cl (show z < 2147483648 by omega), qb_gt (show 23 + 3 * z < 123 by omega) (show 123 < 2147483648 by omega), qb_cl (show 23 + 3 * z < 2147483648 by omega), qb_gt (show 24 + 3 * z < 123 by omega) (show 123 < 2147483648 by omega), qb_cl (show 24 + 3 * z < 2147483648 by omega), qb_gt (show 25 + 3 * z < 123 by omega) (show 123 < 2147483648 by omega), qb_cl (show 25 + 3 * z < 2147483648 by omega), if_true, Option.bind_some, z10, if_false, pw_s, up_s]
          have e22 : upd (upd (upd (v 1) (23 + 3 * z) a1) (24 + 3 * z) a2) (25 + 3 * z) a3 22 = nI z := by rw [up_n (by omega), up_n (by omega), up_n (by omega)]; exact z3
          rw [e22, e4]
          refine ⟨_, _, _, rfl, rfl, N, g, ?_, ?_, ?_⟩
          · rw [pw_n _ _ _ (by omega), pw_n _ _ _ (by omega), pw_n _ _ _ (by omega), pw_n _ _ _ (by omega)]; exact h3
          · exact hC.cg (fun i hi => by show pt u 21 4 _ (11 + i) = u (11 + i); rw [pt_out (by omega)]) (fun i hi => by rw [pw_s, up_n (by omega), pw_s, up_n (by omega), pw_s, up_n (by omega), pw_s, up_n (by omega)])
          · refine hR.ag3 (fun c h1 h2 => pt_out (by omega)) (fun c hc => by rw [pw_n _ _ _ (by omega), pw_n _ _ _ (by omega), pw_n _ _ _ (by omega), pw_n _ _ _ (by omega)]) (fun i hi => by rw [pw_s, up_n (by omega), pw_s, up_n (by omega), pw_s, up_n (by omega), pw_s, up_n (by omega)]) ⟨z + 1, fun i => if i = z then j else p i, fun i => if i = z then n else q i, fun i => if i = z then m else r i, by omega, ?_, ?_, fun i hi => ?_⟩
            · rw [pt_in (by omega), pw_s, up_s]
            · rw [pw_s, up_s]
            · rw [pt_in (by omega), pt_in (by omega), pt_in (by omega)]
              rw [pw_n _ _ _ (show (1 : Nat) ≠ 0 by omega), pw_n _ _ _ (show (1 : Nat) ≠ 3 by omega), pw_n _ _ _ (show (1 : Nat) ≠ 2 by omega), pw_s, pw_n _ _ _ (show (2 : Nat) ≠ 0 by omega), pw_n _ _ _ (show (2 : Nat) ≠ 3 by omega), pw_s, pw_n _ _ _ (show (2 : Nat) ≠ 1 by omega), pw_n _ _ _ (show (3 : Nat) ≠ 0 by omega), pw_s, pw_n _ _ _ (show (3 : Nat) ≠ 2 by omega), pw_n _ _ _ (show (3 : Nat) ≠ 1 by omega), pw_s, pw_s, pw_s, pw_s]
              by_cases qi : i = z
              · subst qi
                rw [up_s, up_s, up_s, up_n (by omega), up_n (by omega), up_n (by omega), up_s, up_n (by omega), up_n (by omega), up_s, up_n (by omega), up_s, j2, n2, m2]
                simp only [if_true]
                exact ⟨j1, n0, n1, m1, trivial, trivial, trivial, trivial, trivial, trivial⟩
              · rw [up_n qi, up_n qi, up_n qi, up_n (by omega), up_n (by omega), up_n (by omega), up_n (by omega), up_n (by omega), up_n (by omega), up_n (by omega), up_n (by omega), up_n (by omega), up_n (by omega), up_n (by omega), up_n (by omega)]
                simp only [if_neg qi]
                exact z4 i (by omega)
        · have he : z = 6 := by omega
          simp only [if_neg hc, if_pos he, Option.bind_some, if_true]
          refine ⟨_, _, _, rfl, rfl, ?_⟩
          have e : pt u 21 4 (sh u 21) = u := by
            funext c
            unfold pt
            split
            · unfold sh; rw [show 21 + (c - 21) = c by omega]
            · rfl
          rw [e]; exact h
      · have m4' : d_P_in a3.toInt64 (0 : Int64) (99 : Int64) = some 0 := m4
        have m3' : d_P_outside a3 0 99 = some 1 := m3
        simp only [Option.bind_some, z10, z00, if_true, if_false, j3, j4, n3', n4', m3', m4']
        exact ⟨_, _, _, rfl, rfl, h⟩
    · have n4' : d_P_in a2.toInt64 (1 : Int64) (9 : Int64) = some 0 := n4
      have n3' : d_P_outside a2 1 9 = some 1 := n3
      simp only [Option.bind_some, z10, z00, if_true, if_false, j3, j4, n3', n4']
      exact ⟨_, _, _, rfl, rfl, h⟩
  · simp only [Option.bind_some, z10, z00, if_true, if_false, j3, j4]
    exact ⟨_, _, _, rfl, rfl, h⟩
theorem GG_like (c d : Nat → Nat → Int32) : ∃ z, d_GG_becomeLike (sj c d 4) = some z ∧ (∀ i, z (4 + i) = d i) ∧ z 0 3 = d 0 3 ∧ (∀ j, j < 6 → z 1 j = d 1 j ∧ z 2 j = d 2 j ∧ z 3 j = d 3 j) := by
  refine ⟨_, rfl, fun i => ?_, ?_, fun j hj => ⟨?_, ?_, ?_⟩⟩
  · rw [pw_n _ _ _ (by omega), pr_n _ _ (by omega), pr_n _ _ (by omega), pr_n _ _ (by omega)]
    show (if 4 + i < 4 then _ else d (4 + i - 4)) = d i
    rw [if_neg (by omega), show 4 + i - 4 = i by omega]
  · rw [pw_s, up_s]; rfl
  · rw [pw_n _ _ _ (by omega), pr_n _ _ (by omega), pr_n _ _ (by omega), pr_s]
    unfold va_cpy
    rw [if_pos (by omega)]
    show d 1 (0 + (j - 0)) = _
    rw [show 0 + (j - 0) = j by omega]
  · rw [pw_n _ _ _ (by omega), pr_n _ _ (by omega), pr_s]
    unfold va_cpy
    rw [if_pos (by omega)]
    show d 2 (0 + (j - 0)) = _
    rw [show 0 + (j - 0) = j by omega]
  · rw [pw_n _ _ _ (by omega), pr_s]
    unfold va_cpy
    rw [if_pos (by omega)]
    show d 3 (0 + (j - 0)) = _
    rw [show 0 + (j - 0) = j by omega]
theorem SR.like {z d : Nat → Nat → Int32} {s s' : Nat → Int32} {N : Nat} (h : SR d s N) (e0 : z 0 3 = d 0 3) (e1 : ∀ j, j < 6 → z 1 j = d 1 j ∧ z 2 j = d 2 j ∧ z 3 j = d 3 j) (e2 : ∀ i, 22 ≤ i → i < 41 → s' i = s i) : SR z s' N := by
  obtain ⟨k, p, q, r, h1, h2, h3, h4⟩ := h
  refine ⟨k, p, q, r, h1, ?_, ?_, fun i hi => ?_⟩
  · rw [e0]; exact h2
  · rw [e2 22 (by omega) (by omega)]; exact h3
  · rw [(e1 i (by omega)).1, (e1 i (by omega)).2.1, (e1 i (by omega)).2.2, e2 _ (by omega) (by omega), e2 _ (by omega) (by omega), e2 _ (by omega) (by omega)]
    exact h4 i hi
theorem CR.like {z d : Nat → Nat → Int32} {s s' : Nat → Int32} {N : Nat} {g : Nat → Nat} (h : CR d s N g) (e0 : ∀ j, 4 ≤ j → j ≤ 11 → z 0 j = d 0 j) (e1 : ∀ j, j < 5 → z 1 j = d 1 j ∧ z 2 j = d 2 j ∧ z 3 j = d 3 j) (e2 : ∀ i, i < 22 → s' i = s i) : CR z s' N g := ⟨h.1.like h.2.2.1.1 e0 e1, fun i hi => by rw [e2 i hi]; exact h.2.1 i hi, h.2.2⟩
theorem M_copies_2 {v : Nat → Nat → Int32} {a b : Nat} (ha : a + 41 ≤ 123) (hb : b + 41 ≤ 123) (hd : a + 41 ≤ b ∨ b + 41 ≤ a) : ∀ (f k : Nat) (t : Nat → Nat → Int32), (∀ c, c ≠ 1 → t c = v c) → (∀ i, i < k → t 1 (a + i) = v 1 (b + i)) → (∀ j, j < a ∨ a + k ≤ j → t 1 j = v 1 j) → k ≤ 41 → 41 - k < f → ∃ t', d_M_copies_2 f t (nI a) (nI b) (nI k) = some t' ∧ (∀ c, c ≠ 1 → t' c = v c) ∧ (∀ i, i < 41 → t' 1 (a + i) = v 1 (b + i)) ∧ (∀ j, j < a ∨ a + 41 ≤ j → t' 1 j = v 1 j) := by
  intro f
  induction f with
  | zero => intro k t _ _ _ _ hf; omega
  | succ f ih =>
    intro k t h1 h2 h3 hk hf
    rw [d_M_copies_2, k_41]
    by_cases hc : 41 ≤ k
    · have : k = 41 := by omega
      subst this
      rw [if_pos ((qb_leI (by omega) (by omega)).mpr hc)]
      exact ⟨t, rfl, h1, h2, h3⟩
    · rw [if_neg (fun z => hc ((qb_leI (by omega) (by omega)).mp z)), nI_add, nI_add, qb_gt (by omega) (by omega), qb_gt (by omega) (by omega), if_pos rfl, if_pos rfl, qb_cl (by omega), qb_cl (by omega)]
      simp only [dl, k_1, nI_add]
      refine ih (k + 1) _ (fun c hc => by rw [pw_n _ _ _ hc]; exact h1 c hc) (fun i hi => ?_) (fun j hj => ?_) (by omega) (by omega)
      · rw [pw_s]
        by_cases q : i = k
        · subst q; rw [up_s]; exact h3 _ (by omega)
        · rw [up_n (by omega)]; exact h2 i (by omega)
      · rw [pw_s, up_n (by omega)]; exact h3 j (by omega)
theorem M_copies {v : Nat → Nat → Int32} {a b : Nat} (ha : a + 41 ≤ 123) (hb : b + 41 ≤ 123) (hd : a + 41 ≤ b ∨ b + 41 ≤ a) : ∃ t', d_M_copies v (nI a) (nI b) = some t' ∧ (∀ c, c ≠ 1 → t' c = v c) ∧ (∀ i, i < 41 → t' 1 (a + i) = v 1 (b + i)) ∧ (∀ j, j < a ∨ a + 41 ≤ j → t' 1 j = v 1 j) := M_copies_2 ha hb hd FU 0 v (fun _ _ => rfl) (fun i hi => by omega) (fun _ _ => rfl) (by omega) (by show 41 - 0 < 10000; omega)
theorem keepF0 (u : Nat → Nat → Int32) (s0 : Int32) : ∃ u', d_F_keep_30 u s0 = some (s0, u') ∧ (∀ c, c < 26 ∨ 35 < c → u' c = u c) ∧ u' 26 2 = 1 ∧ (∀ j, 4 ≤ j → j ≤ 11 → u' 27 j = u 11 j) ∧ (∀ j, j < 5 → u' 28 j = u 12 j ∧ u' 29 j = u 13 j ∧ u' 30 j = u 14 j) ∧ u' 32 3 = u 21 3 ∧ (∀ j, j < 6 → u' 33 j = u 22 j ∧ u' 34 j = u 23 j ∧ u' 35 j = u 24 j) := by
  unfold d_F_keep_30
  obtain ⟨z, z1, z2, z3, z4⟩ := CC_like (sh (pw u 26 2 (1 : Int32)) 27) (sh (pw u 26 2 (1 : Int32)) 11)
  rw [z1, Option.bind_some]
  have e11 : ∀ i, i < 5 → sh (pw u 26 2 (1 : Int32)) 11 i = u (11 + i) := fun i hi => pw_n _ _ _ (by omega)
  obtain ⟨y, y1, y2, y3, y4⟩ := GG_like (sh (pt (pt (pw u 26 2 (1 : Int32)) 27 5 z) 11 5 (sh z 5)) 32) (sh (pt (pt (pw u 26 2 (1 : Int32)) 27 5 z) 11 5 (sh z 5)) 21)
  rw [y1, Option.bind_some]
  have e21 : ∀ i, i < 4 → sh (pt (pt (pw u 26 2 (1 : Int32)) 27 5 z) 11 5 (sh z 5)) 21 i = u (21 + i) := fun i hi => by
    show pt (pt (pw u 26 2 (1 : Int32)) 27 5 z) 11 5 (sh z 5) (21 + i) = _
    rw [pt_out (by omega), pt_out (by omega), pw_n _ _ _ (by omega)]
  refine ⟨_, rfl, fun c hc => ?_, ?_, fun j h1 h2 => ?_, fun j hj => ?_, ?_, fun j hj => ?_⟩
  · by_cases q21 : 21 ≤ c ∧ c < 25
    · rw [pt_at q21.1 (by omega)]
      show y (4 + (c - 21)) = _
      rw [y2, e21 _ (by omega), show 21 + (c - 21) = c by omega]
    · rw [pt_out (by omega), pt_out (by omega)]
      by_cases q11 : 11 ≤ c ∧ c < 16
      · rw [pt_at q11.1 (by omega)]
        show z (5 + (c - 11)) = _
        rw [z2, e11 _ (by omega), show 11 + (c - 11) = c by omega]
      · rw [pt_out (by omega), pt_out (by omega), pw_n _ _ _ (by omega)]
  · rw [pt_out (by omega), pt_out (by omega), pt_out (by omega), pt_out (by omega), pw_s, up_s]
  · rw [pt_out (by omega), pt_out (by omega), pt_out (by omega), pt_at (by omega) (by omega)]
    show z 0 j = _
    rw [z3 j h1 h2, e11 0 (by omega)]
  · have w := z4 j hj
    rw [e11 1 (by omega), e11 2 (by omega), e11 3 (by omega)] at w
    refine ⟨?_, ?_, ?_⟩ <;> rw [pt_out (by omega), pt_out (by omega), pt_out (by omega), pt_at (by omega) (by omega)]
    · exact w.1
    · exact w.2.1
    · exact w.2.2
  · rw [pt_out (by omega), pt_at (by omega) (by omega)]
    show y 0 3 = _
    rw [y3, e21 0 (by omega)]
  · have w := y4 j hj
    rw [e21 1 (by omega), e21 2 (by omega), e21 3 (by omega)] at w
    refine ⟨?_, ?_, ?_⟩ <;> rw [pt_out (by omega), pt_at (by omega) (by omega)]
    · exact w.1
    · exact w.2.1
    · exact w.2.2
theorem keepR0 {u v u' v' : Nat → Nat → Int32} (h : Rel u v) (hu : ∀ c, c < 26 ∨ 35 < c → u' c = u c) (ht : u' 26 2 = 1) (hc0 : ∀ j, 4 ≤ j → j ≤ 11 → u' 27 j = u 11 j) (hc1 : ∀ j, j < 5 → u' 28 j = u 12 j ∧ u' 29 j = u 13 j ∧ u' 30 j = u 14 j) (hg0 : u' 32 3 = u 21 3) (hg1 : ∀ j, j < 6 → u' 33 j = u 22 j ∧ u' 34 j = u 23 j ∧ u' 35 j = u 24 j) (hv : ∀ c, c ≠ 1 → c ≠ 3 → v' c = v c) (h3 : v' 3 0 = 1) (h3' : v' 3 1 = v 3 1) (h1 : ∀ i, i < 41 → v' 1 (41 + i) = v 1 (0 + i)) (h1' : ∀ j, j < 41 ∨ 41 + 41 ≤ j → v' 1 j = v 1 j) : Rel u' v' := by
  obtain ⟨N, g, e3, hC, hR⟩ := h
  have s : ∀ b n : Nat, (b + n ≤ 26 ∨ 35 < b) → ∀ i, i < n → sh u' b i = sh u b i := fun b n hb i hi => hu (b + i) (by omega)
  refine ⟨N, g, by rw [hv 0 (by omega) (by omega)]; exact e3, hC.cg (s 11 4 (by omega)) (fun i hi => h1' i (by omega)), ?_⟩
  have im : IR (u' 26 2) (sh u' 27) (sh u' 32) (v' 3 0) (so (v' 1) 41) N := by
    refine Or.inr ⟨ht, h3, ⟨g, hC.like hc0 hc1 (fun i hi => ?_)⟩, hR.sn.like hg0 hg1 (fun i hi hk => ?_)⟩
    · show v' 1 (41 + i) = _
      rw [h1 i (by omega), Nat.zero_add]
    · show v' 1 (41 + i) = _
      rw [h1 i (by omega), Nat.zero_add]
  have io : IR (u' 36 2) (sh u' 37) (sh u' 42) (v' 3 1) (so (v' 1) 82) N := hR.i1.cg (by rw [hu 36 (by omega)]) (s 37 4 (by omega)) (s 42 4 (by omega)) h3' (fun i hi => h1' (82 + i) (by omega))
  refine ⟨hR.sn.cg (s 21 4 (by omega)) (fun i hi hk => h1' i (by omega)), im, io, ?_, ?_, ?_, ?_, ?_, ?_, ?_⟩
  · rw [hu 2 (by omega), hu 3 (by omega), hv 0 (by omega) (by omega), hv 6 (by omega) (by omega)]; exact hR.tp
  · rw [hu 0 (by omega), hv 0 (by omega) (by omega)]; exact hR.fa
  · rw [hu 0 (by omega), hv 0 (by omega) (by omega)]; exact hR.to
  · exact hR.h0.cg (s 47 2 (by omega)) (by rw [hv 9 (by omega) (by omega)]) (by rw [hv 10 (by omega) (by omega)]) (fun i _ => by unfold so; rw [hv 11 (by omega) (by omega)])
  · exact hR.h1.cg (s 49 2 (by omega)) (by rw [hv 9 (by omega) (by omega)]) (by rw [hv 10 (by omega) (by omega)]) (fun i _ => by unfold so; rw [hv 11 (by omega) (by omega)])
  · exact hR.h2.cg (s 51 2 (by omega)) (by rw [hv 9 (by omega) (by omega)]) (by rw [hv 10 (by omega) (by omega)]) (fun i _ => by unfold so; rw [hv 11 (by omega) (by omega)])
  · exact hR.h3.cg (s 53 2 (by omega)) (by rw [hv 9 (by omega) (by omega)]) (by rw [hv 10 (by omega) (by omega)]) (fun i _ => by unfold so; rw [hv 11 (by omega) (by omega)])
theorem keepA0 (u v : Nat → Nat → Int32) (h : Rel u v) : ∃ (r : Int32) (u2 : Nat → Nat → Int32) (v2 : Nat → Nat → Int32), d_F_keep u (nI 0) = some (r, u2) ∧ d_M_keep v (nI 0) = some (r, v2) ∧ Rel u2 v2 := by
  obtain ⟨N, g, e3, hC, hR⟩ := id h
  obtain ⟨t, t1, t2, t3, t4⟩ := M_copies (v := pw v 3 0 (vp_nar .boolean (1 : Int32))) (a := 41) (b := 0) (by omega) (by omega) (by omega)
  have eb : vp_nar .boolean (1 : Int32) = 1 := by decide +kernel
  have m1 : ∀ c, d_P_flag c = (if c = 0 then some 0 else some 1) := fun c => rfl
  have go : ∀ r : Int32, d_F_keep u (nI 0) = d_F_keep_30 u r → d_P_flag (v 3 0) = some r → ∃ (r : Int32) (u2 : Nat → Nat → Int32) (v2 : Nat → Nat → Int32), d_F_keep u (nI 0) = some (r, u2) ∧ d_M_keep v (nI 0) = some (r, v2) ∧ Rel u2 v2 := fun r hr hfl => by
    obtain ⟨u', k1, k2, k3, k4, k5, k6, k7⟩ := keepF0 u r
    refine ⟨r, u', t, hr.trans k1, ?_, keepR0 h k2 k3 k4 k5 k6 k7 (fun c c1 c3 => by rw [t2 c c1, pw_n _ _ _ c3]) ?_ ?_ (fun i hi => ?_) (fun j hj => ?_)⟩
    · unfold d_M_keep
      rw [show d_P_in (nI 0).toInt64 (0 : Int64) (1 : Int64) = some 1 from by decide +kernel, Option.bind_some, if_neg (by decide), qb_gt (by omega) (by omega), if_pos rfl, qb_cl (by omega), hfl, Option.bind_some, if_pos rfl]
      simp only [dl]
      rw [show (41 : Int32) * (nI 0 + 1) = nI 41 from rfl]
      have t1' : d_M_copies (pw v 3 0 (vp_nar .boolean (1 : Int32))) (nI 41) 0 = some t := t1
      rw [t1', Option.bind_some]
    · rw [t2 3 (by omega), pw_s, up_s, eb]
    · rw [t2 3 (by omega), pw_s, up_n (by omega)]
    · rw [t3 i hi, pw_n _ _ _ (by omega)]
    · rw [t4 j hj, pw_n _ _ _ (by omega)]
  have hF : d_F_keep u (nI 0) = if u 26 2 = 0 then d_F_keep_30 u 0 else d_F_keep_30 u 1 := by
    unfold d_F_keep
    rw [show d_P_outside (nI 0) 0 1 = some 0 from by decide +kernel, Option.bind_some, if_pos rfl]
    rw [if_pos (show nI 0 = (0 : Int32) from rfl)]
  rcases hR.i0 with ⟨x1, x2⟩ | ⟨x1, x2, -⟩
  · exact go 0 (by rw [hF, if_pos x1]) (by rw [m1, if_pos x2])
  · exact go 1 (by rw [hF, if_neg (by rw [x1]; decide)]) (by rw [m1, if_neg (by rw [x2]; decide)])
theorem backA0 (u v : Nat → Nat → Int32) (h : Rel u v) : ∃ (r : Int32) (u2 : Nat → Nat → Int32) (v2 : Nat → Nat → Int32), d_F_back u (nI 0) = some (r, u2) ∧ d_M_back v (nI 0) = some (r, v2) ∧ Rel u2 v2 := by
  obtain ⟨N, g0, e3, hC, hR⟩ := id h
  unfold d_F_back d_M_back
  rw [show d_P_in (nI 0).toInt64 (0 : Int64) (1 : Int64) = some 1 from by decide +kernel, show d_P_outside (nI 0) 0 1 = some 0 from by decide +kernel, Option.bind_some, Option.bind_some, if_pos rfl, if_neg (show ¬ (1 : Int32) = 0 by decide), qb_gt (show 0 < 2 by omega) (by omega), if_pos rfl, qb_cl (by omega)]
  rw [if_pos (show nI 0 = (0 : Int32) from rfl)]
  rcases hR.i0 with ⟨x1, x2⟩ | ⟨x1, x2, ⟨g, x3⟩, x4⟩
  · rw [if_pos x1, if_pos x2]
    exact ⟨_, _, _, rfl, rfl, h⟩
  · rw [if_neg (show ¬ u 26 2 = 0 by rw [x1]; decide), if_neg (show ¬ v 3 0 = 0 by rw [x2]; decide), show (41 : Int32) * (nI 0 + 1) = nI 41 from rfl]
    obtain ⟨t, t1, t2, t3, t4⟩ := M_copies (v := v) (a := 0) (b := 41) (by omega) (by omega) (by omega)
    have t1' : d_M_copies v 0 (nI 41) = some t := t1
    obtain ⟨z, z1, z2, z3, z4⟩ := CC_like (sh u 11) (sh u 27)
    rw [t1', z1, Option.bind_some, Option.bind_some]
    obtain ⟨y, y1, y2, y3, y4⟩ := GG_like (sh (pt (pt u 11 5 z) 27 5 (sh z 5)) 21) (sh (pt (pt u 11 5 z) 27 5 (sh z 5)) 32)
    rw [y1, Option.bind_some, show (19 : Int32).toNatClampNeg = 19 from rfl]
    have e32 : ∀ i, i < 4 → sh (pt (pt u 11 5 z) 27 5 (sh z 5)) 32 i = u (32 + i) := fun i hi => by
      show pt (pt u 11 5 z) 27 5 (sh z 5) (32 + i) = _
      rw [pt_out (by omega), pt_out (by omega)]
    have c9 : z 0 9 = nI (g 19) := by
      rw [z3 9 (by omega) (by omega)]
      exact x3.1.2.2.2.2.2.1
    have c19 : t 1 19 = nI (g 19) := by
      have := t3 19 (by omega)
      rw [Nat.zero_add] at this
      rw [this]
      exact x3.2.1 19 (by omega)
    rw [c9, c19]
    generalize hw : (pt (pt (pt (pt u 11 5 z) 27 5 (sh z 5)) 21 4 y) 32 4 (sh y 4)) = w
    have wo : ∀ c, c < 55 → (c < 11 ∨ (15 < c ∧ c < 21) ∨ 24 < c) → w c = u c := fun c hc h2 => by
      rw [← hw]
      by_cases q1 : 32 ≤ c ∧ c < 36
      · rw [pt_at q1.1 (by omega)]
        show y (4 + (c - 32)) = _
        rw [y2, e32 _ (by omega), show 32 + (c - 32) = c by omega]
      · rw [pt_out (by omega), pt_out (by omega)]
        by_cases q2 : 27 ≤ c ∧ c < 32
        · rw [pt_at q2.1 (by omega)]
          show z (5 + (c - 27)) = _
          rw [z2]
          show u (27 + (c - 27)) = _
          rw [show 27 + (c - 27) = c by omega]
        · rw [pt_out (by omega), pt_out (by omega)]
    have w11 : ∀ i, i < 5 → sh w 11 i = z i := fun i hi => by
      rw [← hw]
      show pt (pt (pt (pt u 11 5 z) 27 5 (sh z 5)) 21 4 y) 32 4 (sh y 4) (11 + i) = _
      rw [pt_out (by omega), pt_out (by omega), pt_out (by omega), pt_at (by omega) (by omega), show 11 + i - 11 = i by omega]
    have w21 : ∀ i, i < 4 → sh w 21 i = y i := fun i hi => by
      rw [← hw]
      show pt (pt (pt (pt u 11 5 z) 27 5 (sh z 5)) 21 4 y) 32 4 (sh y 4) (21 + i) = _
      rw [pt_out (by omega), pt_at (by omega) (by omega), show 21 + i - 21 = i by omega]
    refine ⟨_, _, _, rfl, rfl, N, g, by rw [t2 0 (by omega)]; exact e3, ?_, ?_⟩
    · refine (x3.like (z := z) (s' := t 1) z3 z4 (fun i hi => ?_)).cg (fun i hi => w11 i (by omega)) (fun _ _ => rfl)
      have := t3 i (by omega)
      rw [Nat.zero_add] at this
      exact this
    · refine hR.ag3 (fun c h1 h2 => wo c h1 (by omega)) (fun c hc => t2 c (by omega)) (fun i hi => t4 i (by omega)) ?_
      refine (x4.like (z := y) (s' := t 1) ?_ ?_ (fun i hi hk => ?_)).cg (fun i hi => w21 i (by omega)) (fun _ _ _ => rfl)
      · rw [y3, e32 0 (by omega)]; rfl
      · intro j hj
        have wq := y4 j hj
        rw [e32 1 (by omega), e32 2 (by omega), e32 3 (by omega)] at wq
        exact wq
      · have := t3 i (by omega)
        rw [Nat.zero_add] at this
        exact this
theorem keepF1 (u : Nat → Nat → Int32) (s0 : Int32) : ∃ u', d_F_keep_30b u s0 = some (s0, u') ∧ (∀ c, c < 36 ∨ 45 < c → u' c = u c) ∧ u' 36 2 = 1 ∧ (∀ j, 4 ≤ j → j ≤ 11 → u' 37 j = u 11 j) ∧ (∀ j, j < 5 → u' 38 j = u 12 j ∧ u' 39 j = u 13 j ∧ u' 40 j = u 14 j) ∧ u' 42 3 = u 21 3 ∧ (∀ j, j < 6 → u' 43 j = u 22 j ∧ u' 44 j = u 23 j ∧ u' 45 j = u 24 j) := by
  unfold d_F_keep_30b
  obtain ⟨z, z1, z2, z3, z4⟩ := CC_like (sh (pw u 36 2 (1 : Int32)) 37) (sh (pw u 36 2 (1 : Int32)) 11)
  rw [z1, Option.bind_some]
  have e11 : ∀ i, i < 5 → sh (pw u 36 2 (1 : Int32)) 11 i = u (11 + i) := fun i hi => pw_n _ _ _ (by omega)
  obtain ⟨y, y1, y2, y3, y4⟩ := GG_like (sh (pt (pt (pw u 36 2 (1 : Int32)) 37 5 z) 11 5 (sh z 5)) 42) (sh (pt (pt (pw u 36 2 (1 : Int32)) 37 5 z) 11 5 (sh z 5)) 21)
  rw [y1, Option.bind_some]
  have e21 : ∀ i, i < 4 → sh (pt (pt (pw u 36 2 (1 : Int32)) 37 5 z) 11 5 (sh z 5)) 21 i = u (21 + i) := fun i hi => by
    show pt (pt (pw u 36 2 (1 : Int32)) 37 5 z) 11 5 (sh z 5) (21 + i) = _
    rw [pt_out (by omega), pt_out (by omega), pw_n _ _ _ (by omega)]
  refine ⟨_, rfl, fun c hc => ?_, ?_, fun j h1 h2 => ?_, fun j hj => ?_, ?_, fun j hj => ?_⟩
  · by_cases q21 : 21 ≤ c ∧ c < 25
    · rw [pt_at q21.1 (by omega)]
      show y (4 + (c - 21)) = _
      rw [y2, e21 _ (by omega), show 21 + (c - 21) = c by omega]
    · rw [pt_out (by omega), pt_out (by omega)]
      by_cases q11 : 11 ≤ c ∧ c < 16
      · rw [pt_at q11.1 (by omega)]
        show z (5 + (c - 11)) = _
        rw [z2, e11 _ (by omega), show 11 + (c - 11) = c by omega]
      · rw [pt_out (by omega), pt_out (by omega), pw_n _ _ _ (by omega)]
  · rw [pt_out (by omega), pt_out (by omega), pt_out (by omega), pt_out (by omega), pw_s, up_s]
  · rw [pt_out (by omega), pt_out (by omega), pt_out (by omega), pt_at (by omega) (by omega)]
    show z 0 j = _
    rw [z3 j h1 h2, e11 0 (by omega)]
  · have w := z4 j hj
    rw [e11 1 (by omega), e11 2 (by omega), e11 3 (by omega)] at w
    refine ⟨?_, ?_, ?_⟩ <;> rw [pt_out (by omega), pt_out (by omega), pt_out (by omega), pt_at (by omega) (by omega)]
    · exact w.1
    · exact w.2.1
    · exact w.2.2
  · rw [pt_out (by omega), pt_at (by omega) (by omega)]
    show y 0 3 = _
    rw [y3, e21 0 (by omega)]
  · have w := y4 j hj
    rw [e21 1 (by omega), e21 2 (by omega), e21 3 (by omega)] at w
    refine ⟨?_, ?_, ?_⟩ <;> rw [pt_out (by omega), pt_at (by omega) (by omega)]
    · exact w.1
    · exact w.2.1
    · exact w.2.2
theorem keepR1 {u v u' v' : Nat → Nat → Int32} (h : Rel u v) (hu : ∀ c, c < 36 ∨ 45 < c → u' c = u c) (ht : u' 36 2 = 1) (hc0 : ∀ j, 4 ≤ j → j ≤ 11 → u' 37 j = u 11 j) (hc1 : ∀ j, j < 5 → u' 38 j = u 12 j ∧ u' 39 j = u 13 j ∧ u' 40 j = u 14 j) (hg0 : u' 42 3 = u 21 3) (hg1 : ∀ j, j < 6 → u' 43 j = u 22 j ∧ u' 44 j = u 23 j ∧ u' 45 j = u 24 j) (hv : ∀ c, c ≠ 1 → c ≠ 3 → v' c = v c) (h3 : v' 3 1 = 1) (h3' : v' 3 0 = v 3 0) (h1 : ∀ i, i < 41 → v' 1 (82 + i) = v 1 (0 + i)) (h1' : ∀ j, j < 82 ∨ 82 + 41 ≤ j → v' 1 j = v 1 j) : Rel u' v' := by
  obtain ⟨N, g, e3, hC, hR⟩ := h
  have s : ∀ b n : Nat, (b + n ≤ 36 ∨ 45 < b) → ∀ i, i < n → sh u' b i = sh u b i := fun b n hb i hi => hu (b + i) (by omega)
  refine ⟨N, g, by rw [hv 0 (by omega) (by omega)]; exact e3, hC.cg (s 11 4 (by omega)) (fun i hi => h1' i (by omega)), ?_⟩
  have im : IR (u' 36 2) (sh u' 37) (sh u' 42) (v' 3 1) (so (v' 1) 82) N := by
    refine Or.inr ⟨ht, h3, ⟨g, hC.like hc0 hc1 (fun i hi => ?_)⟩, hR.sn.like hg0 hg1 (fun i hi hk => ?_)⟩
    · show v' 1 (82 + i) = _
      rw [h1 i (by omega), Nat.zero_add]
    · show v' 1 (82 + i) = _
      rw [h1 i (by omega), Nat.zero_add]
  have io : IR (u' 26 2) (sh u' 27) (sh u' 32) (v' 3 0) (so (v' 1) 41) N := hR.i0.cg (by rw [hu 26 (by omega)]) (s 27 4 (by omega)) (s 32 4 (by omega)) h3' (fun i hi => h1' (41 + i) (by omega))
  refine ⟨hR.sn.cg (s 21 4 (by omega)) (fun i hi hk => h1' i (by omega)), io, im, ?_, ?_, ?_, ?_, ?_, ?_, ?_⟩
  · rw [hu 2 (by omega), hu 3 (by omega), hv 0 (by omega) (by omega), hv 6 (by omega) (by omega)]; exact hR.tp
  · rw [hu 0 (by omega), hv 0 (by omega) (by omega)]; exact hR.fa
  · rw [hu 0 (by omega), hv 0 (by omega) (by omega)]; exact hR.to
  · exact hR.h0.cg (s 47 2 (by omega)) (by rw [hv 9 (by omega) (by omega)]) (by rw [hv 10 (by omega) (by omega)]) (fun i _ => by unfold so; rw [hv 11 (by omega) (by omega)])
  · exact hR.h1.cg (s 49 2 (by omega)) (by rw [hv 9 (by omega) (by omega)]) (by rw [hv 10 (by omega) (by omega)]) (fun i _ => by unfold so; rw [hv 11 (by omega) (by omega)])
  · exact hR.h2.cg (s 51 2 (by omega)) (by rw [hv 9 (by omega) (by omega)]) (by rw [hv 10 (by omega) (by omega)]) (fun i _ => by unfold so; rw [hv 11 (by omega) (by omega)])
  · exact hR.h3.cg (s 53 2 (by omega)) (by rw [hv 9 (by omega) (by omega)]) (by rw [hv 10 (by omega) (by omega)]) (fun i _ => by unfold so; rw [hv 11 (by omega) (by omega)])
theorem keepA1 (u v : Nat → Nat → Int32) (h : Rel u v) : ∃ (r : Int32) (u2 : Nat → Nat → Int32) (v2 : Nat → Nat → Int32), d_F_keep u (nI 1) = some (r, u2) ∧ d_M_keep v (nI 1) = some (r, v2) ∧ Rel u2 v2 := by
  obtain ⟨N, g, e3, hC, hR⟩ := id h
  obtain ⟨t, t1, t2, t3, t4⟩ := M_copies (v := pw v 3 1 (vp_nar .boolean (1 : Int32))) (a := 82) (b := 0) (by omega) (by omega) (by omega)
  have eb : vp_nar .boolean (1 : Int32) = 1 := by decide +kernel
  have m1 : ∀ c, d_P_flag c = (if c = 0 then some 0 else some 1) := fun c => rfl
  have go : ∀ r : Int32, d_F_keep u (nI 1) = d_F_keep_30b u r → d_P_flag (v 3 1) = some r → ∃ (r : Int32) (u2 : Nat → Nat → Int32) (v2 : Nat → Nat → Int32), d_F_keep u (nI 1) = some (r, u2) ∧ d_M_keep v (nI 1) = some (r, v2) ∧ Rel u2 v2 := fun r hr hfl => by
    obtain ⟨u', k1, k2, k3, k4, k5, k6, k7⟩ := keepF1 u r
    refine ⟨r, u', t, hr.trans k1, ?_, keepR1 h k2 k3 k4 k5 k6 k7 (fun c c1 c3 => by rw [t2 c c1, pw_n _ _ _ c3]) ?_ ?_ (fun i hi => ?_) (fun j hj => ?_)⟩
    · unfold d_M_keep
      rw [show d_P_in (nI 1).toInt64 (0 : Int64) (1 : Int64) = some 1 from by decide +kernel, Option.bind_some, if_neg (by decide), qb_gt (by omega) (by omega), if_pos rfl, qb_cl (by omega), hfl, Option.bind_some, if_pos rfl]
      simp only [dl]
      rw [show (41 : Int32) * (nI 1 + 1) = nI 82 from rfl]
      have t1' : d_M_copies (pw v 3 1 (vp_nar .boolean (1 : Int32))) (nI 82) 0 = some t := t1
      rw [t1', Option.bind_some]
    · rw [t2 3 (by omega), pw_s, up_s, eb]
    · rw [t2 3 (by omega), pw_s, up_n (by omega)]
    · rw [t3 i hi, pw_n _ _ _ (by omega)]
    · rw [t4 j hj, pw_n _ _ _ (by omega)]
  have hF : d_F_keep u (nI 1) = if u 36 2 = 0 then d_F_keep_30b u 0 else d_F_keep_30b u 1 := by
    unfold d_F_keep
    rw [show d_P_outside (nI 1) 0 1 = some 0 from by decide +kernel, Option.bind_some, if_pos rfl]
    rw [if_neg (show ¬ nI 1 = (0 : Int32) by decide), if_pos (show nI 1 = (1 : Int32) from rfl)]
  rcases hR.i1 with ⟨x1, x2⟩ | ⟨x1, x2, -⟩
  · exact go 0 (by rw [hF, if_pos x1]) (by rw [m1, if_pos x2])
  · exact go 1 (by rw [hF, if_neg (by rw [x1]; decide)]) (by rw [m1, if_neg (by rw [x2]; decide)])
theorem backA1 (u v : Nat → Nat → Int32) (h : Rel u v) : ∃ (r : Int32) (u2 : Nat → Nat → Int32) (v2 : Nat → Nat → Int32), d_F_back u (nI 1) = some (r, u2) ∧ d_M_back v (nI 1) = some (r, v2) ∧ Rel u2 v2 := by
  obtain ⟨N, g0, e3, hC, hR⟩ := id h
  unfold d_F_back d_M_back
  rw [show d_P_in (nI 1).toInt64 (0 : Int64) (1 : Int64) = some 1 from by decide +kernel, show d_P_outside (nI 1) 0 1 = some 0 from by decide +kernel, Option.bind_some, Option.bind_some, if_pos rfl, if_neg (show ¬ (1 : Int32) = 0 by decide), qb_gt (show 1 < 2 by omega) (by omega), if_pos rfl, qb_cl (by omega)]
  rw [if_neg (show ¬ nI 1 = (0 : Int32) by decide), if_pos (show nI 1 = (1 : Int32) from rfl)]
  rcases hR.i1 with ⟨x1, x2⟩ | ⟨x1, x2, ⟨g, x3⟩, x4⟩
  · rw [if_pos x1, if_pos x2]
    exact ⟨_, _, _, rfl, rfl, h⟩
  · rw [if_neg (show ¬ u 36 2 = 0 by rw [x1]; decide), if_neg (show ¬ v 3 1 = 0 by rw [x2]; decide), show (41 : Int32) * (nI 1 + 1) = nI 82 from rfl]
    obtain ⟨t, t1, t2, t3, t4⟩ := M_copies (v := v) (a := 0) (b := 82) (by omega) (by omega) (by omega)
    have t1' : d_M_copies v 0 (nI 82) = some t := t1
    obtain ⟨z, z1, z2, z3, z4⟩ := CC_like (sh u 11) (sh u 37)
    rw [t1', z1, Option.bind_some, Option.bind_some]
    obtain ⟨y, y1, y2, y3, y4⟩ := GG_like (sh (pt (pt u 11 5 z) 37 5 (sh z 5)) 21) (sh (pt (pt u 11 5 z) 37 5 (sh z 5)) 42)
    rw [y1, Option.bind_some, show (19 : Int32).toNatClampNeg = 19 from rfl]
    have e32 : ∀ i, i < 4 → sh (pt (pt u 11 5 z) 37 5 (sh z 5)) 42 i = u (42 + i) := fun i hi => by
      show pt (pt u 11 5 z) 37 5 (sh z 5) (42 + i) = _
      rw [pt_out (by omega), pt_out (by omega)]
    have c9 : z 0 9 = nI (g 19) := by
      rw [z3 9 (by omega) (by omega)]
      exact x3.1.2.2.2.2.2.1
    have c19 : t 1 19 = nI (g 19) := by
      have := t3 19 (by omega)
      rw [Nat.zero_add] at this
      rw [this]
      exact x3.2.1 19 (by omega)
    rw [c9, c19]
    generalize hw : (pt (pt (pt (pt u 11 5 z) 37 5 (sh z 5)) 21 4 y) 42 4 (sh y 4)) = w
    have wo : ∀ c, c < 55 → (c < 11 ∨ (15 < c ∧ c < 21) ∨ 24 < c) → w c = u c := fun c hc h2 => by
      rw [← hw]
      by_cases q1 : 42 ≤ c ∧ c < 46
      · rw [pt_at q1.1 (by omega)]
        show y (4 + (c - 42)) = _
        rw [y2, e32 _ (by omega), show 42 + (c - 42) = c by omega]
      · rw [pt_out (by omega), pt_out (by omega)]
        by_cases q2 : 37 ≤ c ∧ c < 42
        · rw [pt_at q2.1 (by omega)]
          show z (5 + (c - 37)) = _
          rw [z2]
          show u (37 + (c - 37)) = _
          rw [show 37 + (c - 37) = c by omega]
        · rw [pt_out (by omega), pt_out (by omega)]
    have w11 : ∀ i, i < 5 → sh w 11 i = z i := fun i hi => by
      rw [← hw]
      show pt (pt (pt (pt u 11 5 z) 37 5 (sh z 5)) 21 4 y) 42 4 (sh y 4) (11 + i) = _
      rw [pt_out (by omega), pt_out (by omega), pt_out (by omega), pt_at (by omega) (by omega), show 11 + i - 11 = i by omega]
    have w21 : ∀ i, i < 4 → sh w 21 i = y i := fun i hi => by
      rw [← hw]
      show pt (pt (pt (pt u 11 5 z) 37 5 (sh z 5)) 21 4 y) 42 4 (sh y 4) (21 + i) = _
      rw [pt_out (by omega), pt_at (by omega) (by omega), show 21 + i - 21 = i by omega]
    refine ⟨_, _, _, rfl, rfl, N, g, by rw [t2 0 (by omega)]; exact e3, ?_, ?_⟩
    · refine (x3.like (z := z) (s' := t 1) z3 z4 (fun i hi => ?_)).cg (fun i hi => w11 i (by omega)) (fun _ _ => rfl)
      have := t3 i (by omega)
      rw [Nat.zero_add] at this
      exact this
    · refine hR.ag3 (fun c h1 h2 => wo c h1 (by omega)) (fun c hc => t2 c (by omega)) (fun i hi => t4 i (by omega)) ?_
      refine (x4.like (z := y) (s' := t 1) ?_ ?_ (fun i hi hk => ?_)).cg (fun i hi => w21 i (by omega)) (fun _ _ _ => rfl)
      · rw [y3, e32 0 (by omega)]; rfl
      · intro j hj
        have wq := y4 j hj
        rw [e32 1 (by omega), e32 2 (by omega), e32 3 (by omega)] at wq
        exact wq
      · have := t3 i (by omega)
        rw [Nat.zero_add] at this
        exact this
theorem p_keep (u v : Nat → Nat → Int32) (a1 : Int32) (h : Rel u v) : ∃ (r : Int32) (u2 : Nat → Nat → Int32) (v2 : Nat → Nat → Int32), d_F_keep u a1 = some (r, u2) ∧ d_M_keep v a1 = some (r, v2) ∧ Rel u2 v2 := by
  rcases gd0 a1 1 (by omega) with ⟨j, j1, j2, j3, j4⟩ | ⟨j3, j4⟩
  · subst j2
    rcases (show j = 0 ∨ j = 1 by omega) with q | q
    · subst q; exact keepA0 u v h
    · subst q; exact keepA1 u v h
  · have j4' : d_P_in a1.toInt64 (0 : Int64) (1 : Int64) = some 0 := j4
    have j3' : d_P_outside a1 0 1 = some 1 := j3
    unfold d_F_keep d_M_keep
    simp only [Option.bind_some, z10, z00, if_true, if_false, j3', j4']
    exact ⟨_, _, _, rfl, rfl, h⟩
theorem p_back (u v : Nat → Nat → Int32) (a1 : Int32) (h : Rel u v) : ∃ (r : Int32) (u2 : Nat → Nat → Int32) (v2 : Nat → Nat → Int32), d_F_back u a1 = some (r, u2) ∧ d_M_back v a1 = some (r, v2) ∧ Rel u2 v2 := by
  rcases gd0 a1 1 (by omega) with ⟨j, j1, j2, j3, j4⟩ | ⟨j3, j4⟩
  · subst j2
    rcases (show j = 0 ∨ j = 1 by omega) with q | q
    · subst q; exact backA0 u v h
    · subst q; exact backA1 u v h
  · have j4' : d_P_in a1.toInt64 (0 : Int64) (1 : Int64) = some 0 := j4
    have j3' : d_P_outside a1 0 1 = some 1 := j3
    unfold d_F_back d_M_back
    simp only [Option.bind_some, z10, z00, if_true, if_false, j3', j4']
    exact ⟨_, _, _, rfl, rfl, h⟩
