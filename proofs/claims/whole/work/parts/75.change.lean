/-! PURE: the one to be changed, rain, values -/
theorem one_bit : ∀ h, h < 5 → ∀ i, i < 5 → (2 ^ h / 2 ^ i % 2 = 1 ↔ i = h) := by decide +kernel
theorem shl1 : ∀ h, h < 8 → (1 : Int32) <<< (nI h &&& 31) = nI (2 ^ h) ∧ (0 : Int32) <<< (nI h &&& 31) = 0 ∧ 2 ^ h < 2147483648 := by decide +kernel
theorem sIn_one {N h k : Nat} {g : Nat → Nat} (hN : N ≤ 5) (hh : h < N) : sIn N (2 ^ h) k g = sp g h k := by
  funext i
  unfold sIn sp
  by_cases q : i = h
  · subst q
    rw [if_pos ⟨hh, (one_bit i (by omega) i (by omega)).mpr rfl⟩, if_pos rfl]
  · rw [if_neg q, if_neg (fun z => q ((one_bit h (by omega) i (by omega)).mp z.2))]
theorem change_in {u v : Nat → Nat → Int32} {N n h : Nat} {G : Nat → Nat} (h3 : v 0 3 = nI N) (ec : EC (sh u 11) N G 0 0) (hs : ∀ i, i < 22 → v 1 i = nI (G i)) (I : sInv N G) (h19 : G 19 ≤ 999) (hn : n ≤ 20) (hh : h < N) (a2 : Int32) (kF kM : (Nat → Nat → Int32) → Int32 → Int32 → Int32 → Int32 → Int32 → Option (Int32 × (Nat → Nat → Int32))) (hk : ∀ (l : Nat) (x4 : Int32) t s, l ≤ 1000 → AgF u t → AgM v s → ∃ r t' s', kF t (nI n) a2 (nI l) x4 (nI (h + 1)) = some (r, t') ∧ kM s (nI n) a2 (nI l) x4 (nI (h + 1)) = some (r, s') ∧ AgF u t' ∧ AgM v s') : ∀ (f k l : Nat) (x4 : Int32) (t s : Nat → Nat → Int32), AgF u t → AgM v s → l ≤ 1000 → k ≤ 4 → 4 - k < f → ∃ r t' s', d_F_change_49 kF f t (nI n) a2 (nI l) x4 (nI h) (nI k) = some (r, t') ∧ d_M_change_50 kM f s (nI n) a2 (nI l) x4 (nI h) (nI k) = some (r, s') ∧ AgF u t' ∧ AgM v s' := by
  intro f
  induction f with
  | zero => intro k l x4 t s _ _ _ _ hf; omega
  | succ f ih =>
    intro k l x4 t s hF hM hl hk4 hf
    have hN := I.1
    rw [d_F_change_49, d_M_change_50, k_4]
    by_cases hc : 4 ≤ k
    · rw [if_pos ((qb_leI (by omega) (by omega)).mpr hc), if_pos ((qb_leI (by omega) (by omega)).mpr hc)]
      simp only [dl, k_1, nI_add]
      exact hk l x4 t s hl hF hM
    · have hc' : ¬ nI 4 ≤ nI k := fun z => hc ((qb_leI (by omega) (by omega)).mp z)
      rw [if_neg hc', if_neg hc', (shl1 h (by omega)).1]
      obtain ⟨t1, e1, e2⟩ := F_play (m := 2 ^ h) (x := k) (n := n) ec I h19 (shl1 h (by omega)).2.2 (by omega) (by omega) hF
      rw [sIn_one hN hh] at e2
      have el := e2.lossN (G := G) (by rw [sp_n _ _ (by omega), sT_lt (by omega)]) (by rw [sp_n _ _ (by omega), sT_lt (by omega)])
      obtain ⟨s1, k1, k2⟩ := M_start h3 hs hM
      have kp : TM v N (sp (sT G) h k) (pw s1 2 h (nI k)) := k2.go (k2.1.put _ _) (okM.put (by omega))
      have I2 : sInv N (sp (sT G) h k) := sSet_inv (sT_inv I) (by omega)
      obtain ⟨s2, l1, l2⟩ := M_lossOf (n := n) kp I2 (by rw [sp_n _ _ (by omega), sT_lt (by omega)]; omega) (by omega)
      have hL : sLs N n (sp (sT G) h k) ≤ 420 := by have := sLs_le (n := n) I2; omega
      unfold d_F_change_90 d_M_change_97
      have ez : (0 : Int32) + nI h = nI h := Int32.zero_add _
      simp only [Option.bind_some, z10, z00, if_true, if_false, e1, el, k1, ez, qb_gt (show h < 41 by omega) (show 41 < 2147483648 by omega), qb_cl (show h < 2147483648 by omega), dl, l1, k_1, nI_add, qb_leI (show l < 2147483648 by omega) (show sLs N n (sp (sT G) h k) < 2147483648 by omega), qp_less (show sLs N n (sp (sT G) h k) < 2147483648 by omega) (show l < 2147483648 by omega)]
      by_cases hq : l ≤ sLs N n (sp (sT G) h k)
      · simp only [if_pos hq, Nat.min_eq_right hq]
        exact ih (k + 1) l x4 t1 s2 e2.2.2 l2.2 hl (by omega) (by omega)
      · simp only [if_neg hq, Nat.min_eq_left (show sLs N n (sp (sT G) h k) ≤ l by omega)]
        exact ih (k + 1) _ _ t1 s2 e2.2.2 l2.2 (by omega) (by omega) (by omega)
theorem change_lp {u v : Nat → Nat → Int32} {N n : Nat} {G : Nat → Nat} (h3 : v 0 3 = nI N) (ec : EC (sh u 11) N G 0 0) (hs : ∀ i, i < 22 → v 1 i = nI (G i)) (I : sInv N G) (h19 : G 19 ≤ 999) (hn : n ≤ 20) (a2 : Int32) : ∀ (f h l : Nat) (x4 : Int32) (t s : Nat → Nat → Int32), AgF u t → AgM v s → l ≤ 1000 → h ≤ N → N - h < f → ∃ r t' s', d_F_change_34 f t (nI n) a2 (nI l) x4 (nI h) = some (r, t') ∧ d_M_change_38 f s (nI n) a2 (nI l) x4 (nI h) = some (r, s') ∧ AgF u t' ∧ AgM v s' := by
  intro f
  induction f with
  | zero => intro h l x4 t s _ _ _ _ hf; omega
  | succ f ih =>
    intro h l x4 t s hF hM hl hh hf
    have hN := I.1
    have e4 : t 11 4 = nI N := by rw [hF 11 (by omega) (by omega)]; exact ec.1
    have e3 : s 0 3 = nI N := by rw [hM 0 (by omega) (by omega) (by omega)]; exact h3
    rw [d_F_change_34, d_M_change_38, e4, e3]
    by_cases hc : N ≤ h
    · rw [if_pos ((qb_leI (by omega) (by omega)).mpr hc), if_pos ((qb_leI (by omega) (by omega)).mpr hc)]
      by_cases q : x4 = (-4 : Int32)
      · rw [if_pos q, if_pos q]; exact ⟨_, _, _, rfl, rfl, hF, hM⟩
      · rw [if_neg q, if_neg q]
        by_cases q2 : a2 = 0
        · rw [if_pos q2, if_pos q2]; exact ⟨_, _, _, rfl, rfl, hF, hM⟩
        · rw [if_neg q2, if_neg q2]; exact ⟨_, _, _, rfl, rfl, hF, hM⟩
    · have hc' : ¬ nI N ≤ nI h := fun z => hc ((qb_leI (by omega) (by omega)).mp z)
      rw [if_neg hc', if_neg hc']
      exact change_in h3 ec hs I h19 hn (show h < N by omega) a2 _ _ (fun l x4 t s hl h1 h2 => ih (h + 1) l x4 t s h1 h2 hl (by omega) (by omega)) FU 0 l x4 t s hF hM hl (by omega) (by show 4 - 0 < 10000; omega)
theorem p_change (u v : Nat → Nat → Int32) (a1 a2 : Int32) (h : Rel u v) : ∃ (r : Int32) (u2 : Nat → Nat → Int32) (v2 : Nat → Nat → Int32), d_F_change u a1 a2 = some (r, u2) ∧ d_M_change v a1 a2 = some (r, v2) ∧ Rel u2 v2 := by
  obtain ⟨N, g, h3, ⟨ec, hs, I, h19, h20⟩, hR⟩ := id h
  have hN := I.1
  unfold d_F_change d_M_change
  rcases gd0 a1 20 (by omega) with ⟨n, n1, n2, n3, n4⟩ | ⟨n3, n4⟩
  · subst n2
    have n4' : d_P_in (nI n).toInt64 (0 : Int64) (20 : Int64) = some 1 := n4
    have n3' : d_P_outside (nI n) 0 20 = some 0 := n3
    rcases prt a2 with ⟨i, i1, i2, i3, i4⟩ | ⟨i3, i4⟩
    · obtain ⟨t1, e1, e2⟩ := F_asItIs (n := n) ec I h19 (by omega) AgF.rf
      obtain ⟨s1, s2, k1, k2, k4⟩ := M_asItIs (n := n) h3 hs I h19 (by omega) AgM.rf
      have hL : sLs N n (sT g) ≤ 420 := by have := sLs_le (n := n) (sT_inv I); omega
      simp only [Option.bind_some, z10, z00, if_true, if_false, n3', n4', i3, i4, e1, k1, k2]
      obtain ⟨r, t', s', b1, b2, b3, b4⟩ := change_lp h3 ec hs I h19 n1 a2 FU 0 _ (-4) t1 s2 e2 k4 (show sLs N n (sT g) ≤ 1000 by omega) (by omega) (by show N - 0 < 10000; omega)
      exact ⟨r, t', s', b1, b2, h.ag b3 b4⟩
    · simp only [Option.bind_some, z10, z00, if_true, if_false, n3', n4', i3, i4]
      exact ⟨_, _, _, rfl, rfl, h⟩
  · have n4' : d_P_in a1.toInt64 (0 : Int64) (20 : Int64) = some 0 := n4
    have n3' : d_P_outside a1 0 20 = some 1 := n3
    simp only [Option.bind_some, z10, z00, if_true, if_false, n3', n4']
    exact ⟨_, _, _, rfl, rfl, h⟩
theorem pray_lp {u v : Nat → Nat → Int32} {N n l : Nat} {G : Nat → Nat} (h3 : v 0 3 = nI N) (ec : EC (sh u 11) N G 0 0) (hs : ∀ i, i < 22 → v 1 i = nI (G i)) (I : sInv N G) (h19 : G 19 ≤ 999) (hn : n ≤ 20) (hl : l ≤ 1000) : ∀ (f d : Nat) (x3 : Int32) (t s : Nat → Nat → Int32), AgF u t → AgM v s → d ≤ 7 → 7 - d < f → ∃ r t' s', d_F_pray_23 f t (nI n) (nI l) x3 (nI d) = some (r, t') ∧ d_M_pray_29 f s (nI n) (nI l) x3 (nI d) = some (r, s') ∧ AgF u t' ∧ AgM v s' := by
  intro f
  induction f with
  | zero => intro d x3 t s _ _ _ hf; omega
  | succ f ih =>
    intro d x3 t s hF hM hd hf
    have hN := I.1
    rw [d_F_pray_23, d_M_pray_29, k_7]
    by_cases hc : 7 ≤ d
    · rw [if_pos ((qb_leI (by omega) (by omega)).mpr hc), if_pos ((qb_leI (by omega) (by omega)).mpr hc)]
      exact ⟨_, _, _, rfl, rfl, hF, hM⟩
    · have hc' : ¬ nI 7 ≤ nI d := fun z => hc ((qb_leI (by omega) (by omega)).mp z)
      have hr := I.2.2.2.2.2.1
      obtain ⟨r1, r2, r3⟩ := rn1 (G 18) hr d (by omega)
      rw [if_neg hc', if_neg hc']
      obtain ⟨t1, e1, e2⟩ := F_start hN ec hF
      obtain ⟨s1, k1, k2⟩ := M_start h3 hs hM
      have e8 : t1 16 8 = nI (G 18) := by
        have : sh t1 16 0 8 = nI (sT G 18) := e2.1.2.2.2.2.1
        rw [sT_lt (by omega)] at this
        exact this
      have k8 : s1 2 18 = nI (G 18) := by rw [k2.1.2 18 (by omega), sT_lt (by omega)]
      have eF : TF u N (sp (sT G) 18 (G 18 ||| 2 ^ d)) (G 20) (G 21) (pw t1 16 8 (nI (G 18 ||| 2 ^ d))) := by
        refine ⟨(e2.1.f8 hN _).cg (fun i hi => ?_), (e2.2.1.f (r := 0) (k := 8) (y := nI (G 18 ||| 2 ^ d)) (by omega) (by omega)).cg ?_, fun c c1 c2 => ?_⟩
        · show pw t1 16 8 _ (16 + i) = pw (sh t1 16) 0 8 _ i
          by_cases q : i = 0
          · subst q; rw [pw_s, pw_s]; rfl
          · rw [pw_n _ _ _ (by omega), pw_n _ _ _ q]; rfl
        · show pw t1 16 8 _ (16 + 4) = pw (sh t1 16) 0 8 _ 4
          rw [pw_n _ _ _ (by omega), pw_n _ _ _ (by omega)]; rfl
        · rw [pw_n _ _ _ (by omega)]; exact e2.2.2 c c1 c2
      have eM : TM v N (sp (sT G) 18 (G 18 ||| 2 ^ d)) (pw s1 2 18 (nI (G 18 ||| 2 ^ d))) := k2.go (k2.1.put _ _) (okM.put (by omega))
      have I2 : sInv N (sp (sT G) 18 (G 18 ||| 2 ^ d)) := sSet_inv (sT_inv I) (by omega)
      have h192 : sp (sT G) 18 (G 18 ||| 2 ^ d) 19 ≤ 1000 := by rw [sp_n _ _ (by omega), sT_lt (by omega)]; omega
      obtain ⟨c, f1, f2, f3, f4⟩ := eF.nights (n := n) I2 h192 (by omega)
      obtain ⟨s2, l1, l2⟩ := M_lossOf (n := n) eM I2 h192 (by omega)
      have el := f2.lossN (G := G) (by rw [sp_n _ _ (by omega), sT_lt (by omega)]) (by rw [sp_n _ _ (by omega), sT_lt (by omega)])
      have hL : sLs N n (sp (sT G) 18 (G 18 ||| 2 ^ d)) ≤ 420 := by have := sLs_le (n := n) I2; omega
      have eo : x3 ||| ((0 : Int32) <<< (nI d &&& 31)) = x3 := by rw [(shl1 d (by omega)).2.1, Int32.or_zero]
      unfold d_F_pray_76 d_M_pray_69 d_P_flag
      simp only [Option.bind_some, z10, z00, if_true, if_false, e1, k1, dl, e8, show (18 : Int32).toNatClampNeg = 18 from rfl, k8, show nI (G 18) ||| (nI 1 <<< (nI d &&& 31)) = nI (G 18 ||| 2 ^ d) from r2, show (nI 1 = (0 : Int32)) = False from z10, f1, el, l1, qb_leI (show l < 2147483648 by omega) (show sLs N n (sp (sT G) 18 (G 18 ||| 2 ^ d)) < 2147483648 by omega), eo, k_1, nI_add]
      by_cases hq : l ≤ sLs N n (sp (sT G) 18 (G 18 ||| 2 ^ d))
      · simp only [if_pos hq]
        exact ih (d + 1) x3 _ s2 f2.2.2 l2.2 (by omega) (by omega)
      · simp only [if_neg hq]
        exact ih (d + 1) _ _ s2 f2.2.2 l2.2 (by omega) (by omega)
theorem p_pray (u v : Nat → Nat → Int32) (a1 : Int32) (h : Rel u v) : ∃ (r : Int32) (u2 : Nat → Nat → Int32) (v2 : Nat → Nat → Int32), d_F_pray u a1 = some (r, u2) ∧ d_M_pray v a1 = some (r, v2) ∧ Rel u2 v2 := by
  obtain ⟨N, g, h3, ⟨ec, hs, I, h19, h20⟩, hR⟩ := id h
  have hN := I.1
  unfold d_F_pray d_M_pray
  rcases gd0 a1 20 (by omega) with ⟨n, n1, n2, n3, n4⟩ | ⟨n3, n4⟩
  · subst n2
    have n4' : d_P_in (nI n).toInt64 (0 : Int64) (20 : Int64) = some 1 := n4
    have n3' : d_P_outside (nI n) 0 20 = some 0 := n3
    obtain ⟨t1, e1, e2⟩ := F_asItIs (n := n) ec I h19 (by omega) AgF.rf
    obtain ⟨s1, s2, k1, k2, k4⟩ := M_asItIs (n := n) h3 hs I h19 (by omega) AgM.rf
    have hL : sLs N n (sT g) ≤ 420 := by have := sLs_le (n := n) (sT_inv I); omega
    simp only [Option.bind_some, z10, z00, if_true, if_false, n3', n4', e1, k1, k2]
    obtain ⟨r, t', s', b1, b2, b3, b4⟩ := pray_lp (l := sLs N n (sT g)) h3 ec hs I h19 n1 (by omega) FU 0 0 t1 s2 e2 k4 (by omega) (by show 7 - 0 < 10000; omega)
    exact ⟨r, t', s', b1, b2, h.ag b3 b4⟩
  · have n4' : d_P_in a1.toInt64 (0 : Int64) (20 : Int64) = some 0 := n4
    have n3' : d_P_outside a1 0 20 = some 1 := n3
    simp only [Option.bind_some, z10, z00, if_true, if_false, n3', n4']
    exact ⟨_, _, _, rfl, rfl, h⟩
theorem M_valueOf {v t : Nat → Nat → Int32} {N m n : Nat} {G : Nat → Nat} (h3 : v 0 3 = nI N) (hs : ∀ i, i < 22 → v 1 i = nI (G i)) (I : sInv N G) (h19 : G 19 ≤ 999) (hm : m < 2147483648) (hn : n ≤ 60) (ha : AgM v t) : ∃ t', d_M_valueOf t (nI m) (nI n) = some (nI (sLs N n (sT G)) - nI (sLs N n (sIn N m 3 (sT G))), t') ∧ AgM v t' := by
  have hN := I.1
  obtain ⟨s1, s2, k1, k2, k4⟩ := M_asItIs (n := n) h3 hs I h19 hn ha
  obtain ⟨s3, l1, l2⟩ := M_startsWithCooks (m := m) hN hm h3 hs k4
  obtain ⟨s4, o1, o2⟩ := M_lossOf (n := n) l2 (sIn_inv (sT_inv I) (by omega)) (by rw [sIn_n (by omega), sT_lt (by omega)]; omega) hn
  unfold d_M_valueOf
  rw [k1, Option.bind_some, k2, Option.bind_some, l1, Option.bind_some, o1, Option.bind_some]
  exact ⟨s4, rfl, o2.2⟩
theorem F_playLoss {u t : Nat → Nat → Int32} {N m x n : Nat} {G : Nat → Nat} (h : EC (sh u 11) N G 0 0) (I : sInv N G) (h19 : G 19 ≤ 999) (hm : m < 2147483648) (hx : x ≤ 3) (hn : n ≤ 60) (ha : AgF u t) : ∃ t', d_F_playWith t (nI m) (nI x) (nI n) = some t' ∧ d_C_loss (sh t' 16) = some (nI (sLs N n (sIn N m x (sT G)))) ∧ t' 16 10 = nI (sNights N n (sIn N m x (sT G)) 20 - G 20) ∧ AgF u t' := by
  have hN := I.1
  obtain ⟨t', e1, e2⟩ := F_play (m := m) (x := x) (n := n) h I h19 hm hx hn ha
  exact ⟨t', e1, e2.lossN (G := G) (by rw [sIn_n (by omega), sT_lt (by omega)]) (by rw [sIn_n (by omega), sT_lt (by omega)]), e2.1.2.2.2.2.2.2.1, e2.2.2⟩
theorem p_value (u v : Nat → Nat → Int32) (a1 a2 : Int32) (h : Rel u v) : ∃ (r : Int32) (u2 : Nat → Nat → Int32) (v2 : Nat → Nat → Int32), d_F_value u a1 a2 = some (r, u2) ∧ d_M_value v a1 a2 = some (r, v2) ∧ Rel u2 v2 := by
  obtain ⟨N, g, h3, ⟨ec, hs, I, h19, h20⟩, hR⟩ := id h
  have hN := I.1
  have p2 := pow2 N hN
  have e4 : u 11 4 = nI N := ec.1
  unfold d_F_value d_M_value
  have ep : nI (2 ^ N) - 1 = nI (2 ^ N - 1) := by rw [k_1, pk_sub p2.2.1]
  rw [e4, h3, p2.2.2, ep]
  rcases gd0 a1 (2 ^ N - 1) (by omega) with ⟨m, m1, m2, m3, m4⟩ | ⟨m3, m4⟩
  · subst m2
    have m4' : d_P_in (nI m).toInt64 (0 : Int64) (nI (2 ^ N - 1)).toInt64 = some 1 := m4
    rcases gd0 a2 20 (by omega) with ⟨n, n1, n2, n3, n4⟩ | ⟨n3, n4⟩
    · subst n2
      have n4' : d_P_in (nI n).toInt64 (0 : Int64) (20 : Int64) = some 1 := n4
      have n3' : d_P_outside (nI n) 0 20 = some 0 := n3
      obtain ⟨t1, e1, e2⟩ := F_asItIs (n := n) ec I h19 (by omega) AgF.rf
      obtain ⟨t2, f1, f2, f3, f4⟩ := F_playLoss (m := m) (x := 3) (n := n) ec I h19 (by omega) (by omega) (by omega) e2
      have f1' : d_F_playWith t1 (nI m) 3 (nI n) = some t2 := f1
      obtain ⟨s2, k1, k2⟩ := M_valueOf (m := m) (n := n) h3 hs I h19 (by omega) (by omega) AgM.rf
      simp only [Option.bind_some, z10, z00, if_true, if_false, m3, m4', n3', n4', e1, f1', f2, k1]
      refine ⟨_, _, _, rfl, ?_, h.ag f4 k2⟩
      rw [Int32.sub_eq_add_neg (1000 + nI (sLs N n (sT g))), Int32.add_assoc, ← Int32.sub_eq_add_neg]
    · have n4' : d_P_in a2.toInt64 (0 : Int64) (20 : Int64) = some 0 := n4
      have n3' : d_P_outside a2 0 20 = some 1 := n3
      simp only [Option.bind_some, z10, z00, if_true, if_false, m3, m4', n3', n4']
      exact ⟨_, _, _, rfl, rfl, h⟩
  · have m4' : d_P_in a1.toInt64 (0 : Int64) (nI (2 ^ N - 1)).toInt64 = some 0 := m4
    simp only [Option.bind_some, z10, z00, if_true, if_false, m3, m4']
    exact ⟨_, _, _, rfl, rfl, h⟩
