/-! PURE: nights by a seed -/
theorem ushr16 (x : Int32) : ∃ y, y < 32768 ∧ (x.toUInt32 >>> ((16 : Int32).toUInt32 &&& Int32.toUInt32 31)).toInt32 &&& (32767 : Int32) = nI y ∧ (x >>> ((16 : Int32) &&& 31)) &&& (32767 : Int32) = nI y := by
  have e : (x.toUInt32 >>> ((16 : Int32).toUInt32 &&& Int32.toUInt32 31)).toInt32 &&& (32767 : Int32) = (x >>> ((16 : Int32) &&& 31)) &&& (32767 : Int32) := by
    apply Int32.toBitVec_inj.mp
    show (x.toBitVec >>> (16 : Nat)) &&& 32767#32 = (x.toBitVec.sshiftRight 16) &&& 32767#32
    apply BitVec.eq_of_getLsbD_eq
    intro i hi
    rw [BitVec.getLsbD_and, BitVec.getLsbD_and, BitVec.getLsbD_ushiftRight, BitVec.getLsbD_sshiftRight]
    by_cases h : i < 15
    · simp [hi, show 16 + i < 32 by omega, show ¬ 32 ≤ i by omega]
    · have : ∀ i, i < 32 → ¬ i < 15 → (32767#32).getLsbD i = false := by decide
      rw [this i hi h, Bool.and_false, Bool.and_false]
  refine ⟨((x >>> ((16 : Int32) &&& 31)).toBitVec.toNat) % 2 ^ 15, Nat.mod_lt _ (by decide), ?_, ?_⟩
  · rw [e]; exact pk_and _ 15 (by decide)
  · exact pk_and _ 15 (by decide)
theorem C_putKind {c : Nat → Nat → Int32} {N h x b q : Nat} {g : Nat → Nat} (hN : N ≤ 5) (ec : EC c N g b q) (hh : h < N) : d_C_putKind c (nI h) (nI x) = some (pw c 1 h (nI x)) := by
  unfold d_C_putKind
  simp only [Option.bind_some, z10, z00, if_true, if_false, C_has ec.1 hN (show h < 2147483648 by omega), hh, qb_gt (show h < 5 by omega) (show 5 < 2147483648 by omega), qb_cl (show h < 2147483648 by omega)]
theorem dlE {α β : Type} (e : α) (k : α → β) : dl e k = k e := rfl
theorem drift_lp {u v : Nat → Nat → Int32} {N n m : Nat} {G : Nat → Nat} (hN : N ≤ 5) (hN0 : 0 < N) (hs : v 1 20 = nI (G 20)) (hn : n ≤ 60) (hm : m ≤ 1) : ∀ (f k : Nat) (x4 : Int32) (g : Nat → Nat) (t s : Nat → Nat → Int32), TF u N g (G 20) (G 21) t → TM v N g s → sInv N g → k ≤ n → n - k < f → ∃ r t' s', d_F_drift_44 f t (nI n) (nI m) x4 (nI k) = some (r, t') ∧ d_M_drift_41 f s (nI n) (nI m) x4 (nI k) = some (r, s') ∧ AgF u t' ∧ AgM v s' := by
  intro f
  induction f with
  | zero => intro k x3 g t s _ _ _ _ hf; omega
  | succ f ih =>
    intro k x4 g t s hF hM I hk hf
    have m1 : s 1 = v 1 := hM.2 1 (by omega) (by omega) (by omega)
    rw [d_F_drift_44, d_M_drift_41]
    generalize x4 * (1103515245 : Int32) + (12345 : Int32) = w
    obtain ⟨c4, c5, c6, c7, c8, c9, c10, c11, cb, cq, -⟩ := id hF.1
    have c10' : t 16 10 = nI (g 20 - G 20) := c10
    have c5' : t 16 5 = nI (g 15) := c5
    by_cases hc : n ≤ k
    · have hc' : nI n ≤ nI k := (qb_leI (by omega) (by omega)).mpr hc
      have w5 := M_allOf (o := 5) hN (by omega) hM.1
      simp only [Option.bind_some, z10, z00, if_true, if_false, hc', c10', m1, hs, show (20 : Int32).toNatClampNeg = 20 from rfl, hM.1.2 20 (by omega), pk_sub cb, C_allWorth hN hF.1, k_5, w5]
      by_cases q : nI m = 0
      · simp only [if_pos q]; exact ⟨_, _, _, rfl, rfl, hF.2.2, hM.2⟩
      · simp only [if_neg q]; exact ⟨_, _, _, rfl, rfl, hF.2.2, hM.2⟩
    · have hc' : ¬ nI n ≤ nI k := fun z => hc ((qb_leI (by omega) (by omega)).mp z)
      have ha := I.2.2.1 hN0
      rw [if_neg hc', if_neg hc']
      obtain ⟨y, y1, y2, y3⟩ := ushr16 w
      rw [dlE, dlE, dlE, dlE, y2, y3]
      unfold d_F_drift_109 d_M_drift_104
      have r8 : nI y - nI y / nI 8 * nI 8 = nI (y % 8) := qb_rem (by omega) (by omega) (by omega)
      have r4 : nI y / nI 8 - nI y / nI 8 / nI 4 * nI 4 = nI (y / 8 % 4) := by rw [pk_div (by omega) (by omega) (by omega), qb_rem (by omega) (by omega) (by omega)]
      have ez : nI 0 + nI (g 15) = nI (g 15) := by rw [nI_add, Nat.zero_add]
      simp only [k_8, k_2, k_1, k_4, k_0, r8, r4, dl, nI_add, show (15 : Int32).toNatClampNeg = 15 from rfl, hM.1.2 15 (by omega), c5', Nat.zero_add, qb_gt (show g 15 < 41 by omega) (show 41 < 2147483648 by omega), qb_cl (show g 15 < 2147483648 by omega), if_true, qb_ltI (show y % 8 < 2147483648 by omega) (show 2 < 2147483648 by omega), qb_leI (show y % 8 < 2147483648 by omega) (show 1 < 2147483648 by omega)]
      by_cases hy : y % 8 < 2
      · simp only [if_pos hy, if_pos (show y % 8 ≤ 1 by omega)]
        exact ih (k + 1) _ g t s hF hM I (by omega) (by omega)
      · simp only [if_neg hy, if_neg (show ¬ y % 8 ≤ 1 by omega)]
        rw [C_putKind hN hF.1 ha, Option.bind_some]
        have eF : TF u N (sp g (g 15) (y / 8 % 4)) (G 20) (G 21) (pt t 16 5 (pw (sh t 16) 1 (g 15) (nI (y / 8 % 4)))) := hF.go (hF.1.k hN ha _) (fun hB => hB.f (by omega) (by omega))
        have eM : TM v N (sp g (g 15) (y / 8 % 4)) (pw s 2 (g 15) (nI (y / 8 % 4))) := hM.go (hM.1.put _ _) (okM.put (by omega))
        have eI : sInv N (sp g (g 15) (y / 8 % 4)) := sSet_inv I (by omega)
        obtain ⟨c, f1, f2, f3⟩ := C_ask eF.1 eI hN0
        obtain ⟨s2, l1, l2, l3⟩ := M_asks eM.1 eI hN0
        rw [f1, l1, Option.bind_some, Option.bind_some]
        exact ih (k + 1) _ _ _ _ (eF.go f2 f3) (eM.go l2 l3) (sAsk_inv hN0 eI) (by omega) (by omega)
theorem p_drift (u v : Nat → Nat → Int32) (a1 a2 a3 : Int32) (h : Rel u v) : ∃ (r : Int32) (u2 : Nat → Nat → Int32) (v2 : Nat → Nat → Int32), d_F_drift u a1 a2 a3 = some (r, u2) ∧ d_M_drift v a1 a2 a3 = some (r, v2) ∧ Rel u2 v2 := by
  obtain ⟨N, g, h3, ⟨ec, hs, I, h19, h20⟩, hR⟩ := id h
  have hN := I.1
  unfold d_F_drift d_M_drift
  rcases gd1 a2 60 (by omega) with ⟨n, n0, n1, n2, n3, n4⟩ | ⟨n3, n4⟩
  · subst n2
    have n4' : d_P_in (nI n).toInt64 (1 : Int64) (60 : Int64) = some 1 := n4
    have n3' : d_P_outside (nI n) 1 60 = some 0 := n3
    rcases prt a3 with ⟨i, i1, i2, i3, i4⟩ | ⟨i3, i4⟩
    · subst i2
      have e4 : u 11 4 = nI N := ec.1
      have hN0 : nI N = (0 : Int32) ↔ N = 0 := qb_eqI (b := 0) (by omega) (by omega)
      simp only [Option.bind_some, z10, z00, if_true, if_false, n3', n4', i3, i4, e4, h3, hN0]
      by_cases hz : N = 0
      · simp only [if_pos hz]
        have n4'' : d_P_in (nI n).toInt64 (1 : Int64) (60 : Int64) = some 1 := n4
        exact ⟨_, _, _, rfl, rfl, h⟩
      · simp only [if_neg hz]
        obtain ⟨t1, e1, e2⟩ := F_start hN ec AgF.rf
        obtain ⟨s1, k1, k2⟩ := M_start h3 hs AgM.rf
        simp only [Option.bind_some, z10, z00, if_true, if_false, e1, k1]
        obtain ⟨r, t', s', b1, b2, b3, b4⟩ := drift_lp (n := n) hN (by omega) (hs 20 (by omega)) n1 i1 FU 0 a1 _ _ _ e2 k2 (sT_inv I) (by omega) (by show n - 0 < 10000; omega)
        exact ⟨r, t', s', b1, b2, h.ag b3 b4⟩
    · simp only [Option.bind_some, z10, z00, if_true, if_false, n3', n4', i3, i4]
      exact ⟨_, _, _, rfl, rfl, h⟩
  · have n4' : d_P_in a2.toInt64 (1 : Int64) (60 : Int64) = some 0 := n4
    have n3' : d_P_outside a2 1 60 = some 1 := n3
    simp only [Option.bind_some, z10, z00, if_true, if_false, n3', n4']
    exact ⟨_, _, _, rfl, rfl, h⟩
