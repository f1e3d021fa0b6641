/-! PURE: what changes the city now -/
theorem EC.T {c : Nat → Nat → Int32} {N b q : Nat} {g : Nat → Nat} (hN : N ≤ 5) (h : EC c N g b q) : EC c N (sT g) b q := by
  obtain ⟨h4, h5, h6, h7, h8, h9, h10, h11, hb, hq, hr⟩ := h
  refine ⟨h4, ?_, ?_, ?_, ?_, ?_, ?_, ?_, ?_, ?_, fun j hj => ?_⟩
  · rw [sT_lt (by omega)]; exact h5
  · rw [sT_lt (by omega)]; exact h6
  · rw [sT_lt (by omega)]; exact h7
  · rw [sT_lt (by omega)]; exact h8
  · rw [sT_lt (by omega)]; exact h9
  · rw [sT_lt (by omega)]; exact h10
  · rw [sT_lt (by omega)]; exact h11
  · rw [sT_lt (by omega)]; exact hb
  · rw [sT_lt (by omega)]; exact hq
  · rw [sT_lt (by omega), sT_lt (by omega), sT_lt (by omega)]; exact hr j hj
theorem M_start2 {v t : Nat → Nat → Int32} {N : Nat} {G : Nat → Nat} (h3 : v 0 3 = nI N) (hs : ∀ i, i < 22 → v 1 i = nI (G i)) (ha : AgM v t) : ∃ t', d_M_starts t = some t' ∧ TM v N (sT G) t' ∧ ∀ i, i < 41 → t' 2 i = v 1 i := by
  obtain ⟨t', e1, e2, e3⟩ := M_starts_2 v FU 0 t ha (fun i hi => by omega) (by omega) (by show 41 - 0 < 10000; omega)
  refine ⟨t', e1, ⟨⟨?_, fun i hi => ?_⟩, e2⟩, e3⟩
  · rw [e2 0 (by omega) (by omega) (by omega)]; exact h3
  · rw [e3 i (by omega), hs i hi, sT_lt hi]
theorem M_settles_2 (s : Nat → Nat → Int32) : ∀ (f k : Nat) (t : Nat → Nat → Int32), (∀ c, c ≠ 1 → t c = s c) → (∀ i, i < k → t 1 i = s 2 i) → (∀ i, 41 ≤ i → t 1 i = s 1 i) → k ≤ 41 → 41 - k < f → ∃ t', d_M_settles_2 f t (nI k) = some t' ∧ (∀ c, c ≠ 1 → t' c = s c) ∧ (∀ i, i < 41 → t' 1 i = s 2 i) ∧ (∀ i, 41 ≤ i → t' 1 i = s 1 i) := by
  intro f
  induction f with
  | zero => intro k t _ _ _ _ hf; omega
  | succ f ih =>
    intro k t ha hk hg h41 hf
    rw [d_M_settles_2, k_41]
    by_cases hc : 41 ≤ k
    · rw [if_pos ((qb_leI (by omega) (by omega)).mpr hc)]
      exact ⟨t, rfl, ha, fun i hi => hk i (by omega), hg⟩
    · rw [if_neg (fun z => hc ((qb_leI (by omega) (by omega)).mp z)), qb_gt (by omega) (by omega), qb_gt (by omega) (by omega), if_pos rfl, if_pos rfl, qb_cl (by omega)]
      simp only [dl, k_1, nI_add]
      refine ih (k + 1) _ (fun c h1 => by rw [pw_n _ _ _ h1]; exact ha c h1) (fun i hi => ?_) (fun i hi => ?_) (by omega) (by omega)
      · rw [pw_s]
        by_cases q : i = k
        · subst q
          rw [up_s, ha 2 (by omega)]
        · rw [up_n q]
          exact hk i (by omega)
      · rw [pw_s, up_n (by omega)]
        exact hg i hi
theorem M_settle {v t : Nat → Nat → Int32} {N : Nat} {g : Nat → Nat} (h : TM v N g t) (h2 : ∀ i, 22 ≤ i → i < 41 → t 2 i = v 1 i) : ∃ t', d_M_settles t = some t' ∧ (∀ c, c ≠ 1 → t' c = t c) ∧ (∀ i, i < 22 → t' 1 i = nI (g i)) ∧ (∀ i, 22 ≤ i → t' 1 i = v 1 i) := by
  obtain ⟨t', e1, e2, e3, e4⟩ := M_settles_2 t FU 0 t (fun _ _ => rfl) (fun i hi => by omega) (fun _ _ => rfl) (by omega) (by show 41 - 0 < 10000; omega)
  refine ⟨t', e1, e2, fun i hi => ?_, fun i hi => ?_⟩
  · rw [e3 i (by omega)]; exact h.1.2 i hi
  · by_cases q : i < 41
    · rw [e3 i q]; exact h2 i hi q
    · rw [e4 i (by omega), h.2 1 (by omega) (by omega) (by omega)]
/-- the two cities changed alike -/
theorem Rel.now {u v u' v' : Nat → Nat → Int32} {N : Nat} {g : Nat → Nat} (hR : RR N u v) (hu : ∀ c, c < 55 → (c < 11 ∨ 20 < c) → u' c = u c) (hv : ∀ c, c = 0 ∨ c = 3 ∨ c = 6 ∨ c = 9 ∨ c = 10 ∨ c = 11 → v' c = v c) (h1 : ∀ i, 22 ≤ i → v' 1 i = v 1 i) (h3 : v 0 3 = nI N) (ec : EC (sh u' 11) N g 0 0) (hs : ∀ i, i < 22 → v' 1 i = nI (g i)) (I : sInv N g) (h19 : g 19 ≤ 999) (h20 : g 20 ≤ 20 * g 19) : Rel u' v' := by
  refine ⟨N, g, ?_, ⟨ec, hs, I, h19, h20⟩, hR.ag hu hv h1⟩
  rw [hv 0 (by omega)]; exact h3
theorem p_go (u v : Nat → Nat → Int32) (a1 : Int32) (h : Rel u v) : ∃ (r : Int32) (u2 : Nat → Nat → Int32) (v2 : Nat → Nat → Int32), d_F_go u a1 = some (r, u2) ∧ d_M_go v a1 = some (r, v2) ∧ Rel u2 v2 := by
  obtain ⟨N, g, h3, ⟨ec, hs, I, h19, h20⟩, hR⟩ := id h
  have hN := I.1
  unfold d_F_go d_M_go
  rcases gd0 a1 30 (by omega) with ⟨j, j1, j2, j3, j4⟩ | ⟨j3, j4⟩
  · subst j2
    have j4' : d_P_in (nI j).toInt64 (0 : Int64) (30 : Int64) = some 1 := j4
    have j3' : d_P_outside (nI j) 0 30 = some 0 := j3
    have e9 : u 11 9 = nI (g 19) := ec.2.2.2.2.2.1
    have e10 : u 11 10 = nI (g 20) := ec.2.2.2.2.2.2.1
    simp only [Option.bind_some, z10, z00, if_true, if_false, j3', j4', e9, e10, show (19 : Int32).toNatClampNeg = 19 from rfl, show (20 : Int32).toNatClampNeg = 20 from rfl, hs 19 (by omega), hs 20 (by omega), nI_add, k_999, qb_leI (show g 19 + j < 2147483648 by omega) (show 999 < 2147483648 by omega), dl]
    by_cases hc : g 19 + j ≤ 999
    · simp only [if_pos hc]
      obtain ⟨c2, f1, f2, f3⟩ := C_nights (n := j) (ec.T hN) (sT_inv I) (by rw [sT_lt (by omega)]; omega) (by omega)
      obtain ⟨t, e1, e2, e3⟩ := M_start2 h3 hs AgM.rf
      obtain ⟨t2, g1, g2, g3⟩ := M_nights (n := j) e2.1 (sT_inv I) (by rw [sT_lt (by omega)]; omega) (by omega)
      obtain ⟨t3, s1, s2, s3, s4⟩ := M_settle (e2.go g2 g3) (fun i hi hk => by rw [g3.2 i hi]; exact e3 i (by omega))
      have mo := sNights_mono j (sT g) (sT_inv I)
      rw [sT_lt (by omega), sT_lt (by omega)] at mo
      simp only [Option.bind_some, z10, z00, if_true, if_false, f1, e1, g1, s1, s3 20 (by omega), f2.2.2.2.2.2.2.1, Nat.sub_zero]
      refine ⟨_, _, _, rfl, rfl, ?_⟩
      refine Rel.now (g := sNights N j (sT g)) hR (fun c h1 h2 => pt_out (by omega)) (fun c hc => by rw [s2 c (by omega), g3.1 c (by omega)]; exact e2.2 c (by omega) (by omega) (by omega)) s4 h3 (f2.cg (fun i hi => pt_in (by omega))) s3 (sNights_inv _ _ (sT_inv I)) ?_ ?_
      · rw [sNights_19, sT_lt (by omega)]; omega
      · rw [sNights_19, sT_lt (by omega)]; omega
    · simp only [if_neg hc]
      exact ⟨_, _, _, rfl, rfl, h⟩
  · have j4' : d_P_in a1.toInt64 (0 : Int64) (30 : Int64) = some 0 := j4
    have j3' : d_P_outside a1 0 30 = some 1 := j3
    simp only [Option.bind_some, z10, z00, if_true, if_false, j3', j4']
    exact ⟨_, _, _, rfl, rfl, h⟩
theorem p_alter (u v : Nat → Nat → Int32) (a1 a2 a3 : Int32) (h : Rel u v) : ∃ (r : Int32) (u2 : Nat → Nat → Int32) (v2 : Nat → Nat → Int32), d_F_alter u a1 a2 a3 = some (r, u2) ∧ d_M_alter v a1 a2 a3 = some (r, v2) ∧ Rel u2 v2 := by
  obtain ⟨N, g, h3, ⟨ec, hs, I, h19, h20⟩, hR⟩ := id h
  have hN := I.1
  unfold d_F_alter d_M_alter
  rcases hs_F ec.1 hN h3 a1 with ⟨j, j1, j2, j3, j4⟩ | ⟨j3, j4⟩
  · subst j2
    obtain ⟨r1, r2, r3⟩ := ec.2.2.2.2.2.2.2.2.2.2 j j1
    have r1' : u 12 j = nI (g j) := r1
    have r2' : u 13 j = nI (g (5 + j)) := r2
    simp only [Option.bind_some, z10, z00, if_true, if_false, j3, j4]
    unfold d_F_alter_32 d_F_alter_61 d_F_alter_61b d_M_alter_31 d_M_becomes
    rcases prt a2 with ⟨i, i1, i2, i3, i4⟩ | ⟨i3, i4⟩
    · simp only [Option.bind_some, z10, z00, if_true, if_false, i3, i4]
      rcases (show i = 0 ∨ i = 1 by omega) with q | q
      · subst q
        subst i2
        rcases gd0 a3 3 (by omega) with ⟨m, m1, m2, m3, m4⟩ | ⟨m3, m4⟩
        · have m4' : d_P_in a3.toInt64 (0 : Int64) (3 : Int64) = some 1 := m4
          have m3' : d_P_outside a3 0 3 = some 0 := m3
          simp only [Option.bind_some, z10, z00, if_true, if_false, ← k_0, m3', m4', qb_gt (show j < 5 by omega) (show 5 < 2147483648 by omega), qb_cl (show j < 2147483648 by omega), r1', show (5 : Int32) * 0 + nI j = nI j by rw [k_5, k_0, pk_mul, nI_add, Nat.mul_zero, Nat.zero_add], qb_gt (show j < 123 by omega) (show 123 < 2147483648 by omega), dl, hs j (by omega)]
          refine ⟨_, _, _, rfl, rfl, ?_⟩
          subst m2
          refine Rel.now (g := sp g j m) hR (fun c h1 h2 => pw_n _ _ _ (by omega)) (fun c hc => pw_n _ _ _ (by omega)) (fun i hi => by rw [pw_s, up_n (by omega)]) h3 ?_ (fun i hi => ?_) (sSet_inv I (by omega)) (by rw [sp_n _ _ (by omega)]; exact h19) (by rw [sp_n _ _ (by omega), sp_n _ _ (by omega)]; exact h20)
          · refine (ec.k hN j1 m).cg (fun i hi => ?_)
            show pw u 12 j (nI m) (11 + i) = pw (sh u 11) 1 j (nI m) i
            by_cases q : i = 1
            · subst q; rw [pw_s, pw_s]; rfl
            · rw [pw_n _ _ _ (by omega), pw_n _ _ _ q]; rfl
          · rw [pw_s]
            unfold upd sp
            split
            · rfl
            · exact hs i hi
        · have m4' : d_P_in a3.toInt64 (0 : Int64) (3 : Int64) = some 0 := m4
          have m3' : d_P_outside a3 0 3 = some 1 := m3
          simp only [Option.bind_some, z10, z00, if_true, if_false, ← k_0, m3', m4']
          exact ⟨_, _, _, rfl, rfl, h⟩
      · subst q
        subst i2
        rcases gd0 a3 99 (by omega) with ⟨m, m1, m2, m3, m4⟩ | ⟨m3, m4⟩
        · have m4' : d_P_in a3.toInt64 (0 : Int64) (99 : Int64) = some 1 := m4
          have m3' : d_P_outside a3 0 99 = some 0 := m3
          simp only [Option.bind_some, z10, z00, if_true, if_false, ← k_1, m3', m4', qb_gt (show j < 5 by omega) (show 5 < 2147483648 by omega), qb_cl (show j < 2147483648 by omega), r2', show (5 : Int32) * 1 + nI j = nI (5 + j) by rw [k_5, k_1, pk_mul, nI_add, Nat.mul_one], qb_gt (show 5 + j < 123 by omega) (show 123 < 2147483648 by omega), qb_cl (show 5 + j < 2147483648 by omega), dl, hs (5 + j) (by omega)]
          refine ⟨_, _, _, rfl, rfl, ?_⟩
          subst m2
          refine Rel.now (g := sp g (5 + j) m) hR (fun c h1 h2 => pw_n _ _ _ (by omega)) (fun c hc => pw_n _ _ _ (by omega)) (fun i hi => by rw [pw_s, up_n (by omega)]) h3 ?_ (fun i hi => ?_) (sSet_inv I (by omega)) (by rw [sp_n _ _ (by omega)]; exact h19) (by rw [sp_n _ _ (by omega), sp_n _ _ (by omega)]; exact h20)
          · refine (ec.w hN j1 m).cg (fun i hi => ?_)
            show pw u 13 j (nI m) (11 + i) = pw (sh u 11) 2 j (nI m) i
            by_cases q : i = 2
            · subst q; rw [pw_s, pw_s]; rfl
            · rw [pw_n _ _ _ (by omega), pw_n _ _ _ q]; rfl
          · rw [pw_s]
            unfold upd sp
            split
            · rfl
            · exact hs i hi
        · have m4' : d_P_in a3.toInt64 (0 : Int64) (99 : Int64) = some 0 := m4
          have m3' : d_P_outside a3 0 99 = some 1 := m3
          simp only [Option.bind_some, z10, z00, if_true, if_false, ← k_1, m3', m4']
          exact ⟨_, _, _, rfl, rfl, h⟩
    · simp only [Option.bind_some, z10, z00, if_true, if_false, i3, i4]
      exact ⟨_, _, _, rfl, rfl, h⟩
  · simp only [Option.bind_some, z10, z00, if_true, if_false, j3, j4]
    exact ⟨_, _, _, rfl, rfl, h⟩
/-- a field of the city now and its place in the row -/
theorem now_f {u v : Nat → Nat → Int32} {N : Nat} {g : Nat → Nat} (h3 : v 0 3 = nI N) (ec : EC (sh u 11) N g 0 0) (hs : ∀ i, i < 22 → v 1 i = nI (g i)) (h19 : g 19 ≤ 999) (h20 : g 20 ≤ 20 * g 19) (hR : RR N u v) {f k x : Nat} (hk : 15 ≤ k ∧ k ≤ 18) (I : sInv N (sp g k x)) (e : EC (pw (sh u 11) 0 f (nI x)) N (sp g k x) 0 0) : Rel (pw u 11 f (nI x)) (pw v 1 k (nI x)) := by
  refine Rel.now (g := sp g k x) hR (fun c h1 h2 => pw_n _ _ _ (by omega)) (fun c hc => pw_n _ _ _ (by omega)) (fun i hi => by rw [pw_s, up_n (by omega)]) h3 ?_ (fun i hi => ?_) I (by rw [sp_n _ _ (by omega)]; exact h19) (by rw [sp_n _ _ (by omega), sp_n _ _ (by omega)]; exact h20)
  · refine e.cg (fun i hi => ?_)
    show pw u 11 f (nI x) (11 + i) = pw (sh u 11) 0 f (nI x) i
    by_cases q : i = 0
    · subst q; rw [pw_s, pw_s]; rfl
    · rw [pw_n _ _ _ (by omega), pw_n _ _ _ q]; rfl
  · rw [pw_s]
    unfold upd sp
    split
    · rfl
    · exact hs i hi
theorem p_set (u v : Nat → Nat → Int32) (a1 a2 : Int32) (h : Rel u v) : ∃ (r : Int32) (u2 : Nat → Nat → Int32) (v2 : Nat → Nat → Int32), d_F_set u a1 a2 = some (r, u2) ∧ d_M_set v a1 a2 = some (r, v2) ∧ Rel u2 v2 := by
  obtain ⟨N, g, h3, ⟨ec, hs, I, h19, h20⟩, hR⟩ := id h
  have hN := I.1
  obtain ⟨c4, c5, c6, c7, c8, c9, c10, c11, -, -, -⟩ := id ec
  have c5' : u 11 5 = nI (g 15) := c5
  have c6' : u 11 6 = nI (g 16) := c6
  have c7' : u 11 7 = nI (g 17) := c7
  unfold d_F_set d_F_set_37 d_F_set_71 d_M_set d_M_set_51 d_M_set_52 d_M_becomes
  by_cases q1 : a1 = 1
  · subst q1
    rw [if_pos rfl, if_pos rfl, if_neg (show ¬ (1 : Int32) = 2 by decide), if_neg (show ¬ (1 : Int32) = 3 by decide), show (15 : Int32) + 1 - 1 = nI 15 from rfl]
    rcases hs_F ec.1 hN h3 a2 with ⟨j, j1, j2, j3, j4⟩ | ⟨j3, j4⟩
    · subst j2
      simp only [Option.bind_some, z10, z00, if_true, if_false, j3, j4, qb_gt (show 15 < 123 by omega) (show 123 < 2147483648 by omega), qb_cl (show 15 < 2147483648 by omega), dl, c5', hs 15 (by omega)]
      exact ⟨_, _, _, rfl, rfl, now_f h3 ec hs h19 h20 hR (by omega) (sSet_inv I (by omega)) (ec.f5 hN j)⟩
    · simp only [Option.bind_some, z10, z00, if_true, if_false, j3, j4]
      exact ⟨_, _, _, rfl, rfl, h⟩
  rw [if_neg q1, if_neg q1]
  by_cases q2 : a1 = 2
  · subst q2
    rw [if_pos rfl, if_pos rfl, if_neg (show ¬ (2 : Int32) = 3 by decide), show (15 : Int32) + 2 - 1 = nI 16 from rfl]
    rcases gd0 a2 20 (by omega) with ⟨m, m1, m2, m3, m4⟩ | ⟨m3, m4⟩
    · have m4' : d_P_in a2.toInt64 (0 : Int64) (20 : Int64) = some 1 := m4
      have m3' : d_P_outside a2 0 20 = some 0 := m3
      simp only [Option.bind_some, z10, z00, if_true, if_false, m3', m4', qb_gt (show 16 < 123 by omega) (show 123 < 2147483648 by omega), qb_cl (show 16 < 2147483648 by omega), dl, c6', hs 16 (by omega)]
      subst m2
      exact ⟨_, _, _, rfl, rfl, now_f h3 ec hs h19 h20 hR (by omega) (sSet_inv I (by omega)) (ec.f6 hN m)⟩
    · have m4' : d_P_in a2.toInt64 (0 : Int64) (20 : Int64) = some 0 := m4
      have m3' : d_P_outside a2 0 20 = some 1 := m3
      simp only [Option.bind_some, z10, z00, if_true, if_false, m3', m4']
      exact ⟨_, _, _, rfl, rfl, h⟩
  rw [if_neg q2, if_neg q2]
  by_cases q3 : a1 = 3
  · subst q3
    rw [if_pos rfl, if_pos rfl, show (15 : Int32) + 3 - 1 = nI 17 from rfl]
    rcases gd0 a2 9 (by omega) with ⟨m, m1, m2, m3, m4⟩ | ⟨m3, m4⟩
    · have m4' : d_P_in a2.toInt64 (0 : Int64) (9 : Int64) = some 1 := m4
      have m3' : d_P_outside a2 0 9 = some 0 := m3
      simp only [Option.bind_some, z10, z00, if_true, if_false, m3', m4', qb_gt (show 17 < 123 by omega) (show 123 < 2147483648 by omega), qb_cl (show 17 < 2147483648 by omega), dl, c7', hs 17 (by omega)]
      subst m2
      exact ⟨_, _, _, rfl, rfl, now_f h3 ec hs h19 h20 hR (by omega) (sSet_inv I (by omega)) (ec.f7 hN m)⟩
    · have m4' : d_P_in a2.toInt64 (0 : Int64) (9 : Int64) = some 0 := m4
      have m3' : d_P_outside a2 0 9 = some 1 := m3
      simp only [Option.bind_some, z10, z00, if_true, if_false, m3', m4']
      exact ⟨_, _, _, rfl, rfl, h⟩
  rw [if_neg q3, if_neg q3]
  simp only [Option.bind_some, z10, z00, if_true, if_false, eq_self]
  exact ⟨_, _, _, rfl, rfl, h⟩
theorem rn0 : ∀ r, r < 128 → ∀ d, d < 7 → nI r &&& (((1 : Int32) <<< (nI d &&& 31)) ^^^ (-1 : Int32)) = nI (r &&& (127 ^^^ 2 ^ d)) ∧ r &&& (127 ^^^ 2 ^ d) < 128 := by decide +kernel
theorem rn1 : ∀ r, r < 128 → ∀ d, d < 7 → (nI r &&& (((1 : Int32) <<< (nI d &&& 31)) ^^^ (-1 : Int32))) ||| ((1 : Int32) <<< (nI d &&& 31)) = nI (r ||| 2 ^ d) ∧ nI r ||| ((1 : Int32) <<< (nI d &&& 31)) = nI (r ||| 2 ^ d) ∧ r ||| 2 ^ d < 128 := by decide +kernel
theorem p_rain (u v : Nat → Nat → Int32) (a1 a2 : Int32) (h : Rel u v) (hb : a2 = 0 ∨ a2 = 1) : ∃ (r : Int32) (u2 : Nat → Nat → Int32) (v2 : Nat → Nat → Int32), d_F_rain u a1 a2 = some (r, u2) ∧ d_M_rain v a1 a2 = some (r, v2) ∧ Rel u2 v2 := by
  obtain ⟨N, g, h3, ⟨ec, hs, I, h19, h20⟩, hR⟩ := id h
  have hN := I.1
  have c8' : u 11 8 = nI (g 18) := ec.2.2.2.2.1
  have hr := I.2.2.2.2.2.1
  unfold d_F_rain d_M_rain d_M_rain_47
  rcases gd0 a1 6 (by omega) with ⟨m, m1, m2, m3, m4⟩ | ⟨m3, m4⟩
  · subst m2
    have m4' : d_P_in (nI m).toInt64 (0 : Int64) (6 : Int64) = some 1 := m4
    have m3' : d_P_outside (nI m) 0 6 = some 0 := m3
    simp only [Option.bind_some, z10, z00, if_true, if_false, m3', m4', dl, c8', show (18 : Int32) = nI 18 from rfl, qb_cl (show 18 < 2147483648 by omega), hs 18 (by omega), qb_gt (show 18 < 123 by omega) (show 123 < 2147483648 by omega)]
    rcases hb with q | q
    · subst q
      rw [if_pos rfl, if_pos rfl, (rn0 _ hr m (by omega)).1]
      exact ⟨_, _, _, rfl, rfl, now_f h3 ec hs h19 h20 hR (by omega) (sSet_inv I (by have := (rn0 _ hr m (by omega)).2; omega)) (ec.f8 hN _)⟩
    · subst q
      rw [if_neg (by decide), if_neg (by decide), (rn1 _ hr m (by omega)).1, (rn1 _ hr m (by omega)).2.1]
      exact ⟨_, _, _, rfl, rfl, now_f h3 ec hs h19 h20 hR (by omega) (sSet_inv I (by have := (rn1 _ hr m (by omega)).2.2; omega)) (ec.f8 hN _)⟩
  · have m4' : d_P_in a1.toInt64 (0 : Int64) (6 : Int64) = some 0 := m4
    have m3' : d_P_outside a1 0 6 = some 1 := m3
    simp only [Option.bind_some, z10, z00, if_true, if_false, m3', m4']
    exact ⟨_, _, _, rfl, rfl, h⟩
