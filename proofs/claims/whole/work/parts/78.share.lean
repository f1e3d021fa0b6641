/-! PURE: fractions, shares, odds -/
theorem lc0 {a : Nat} (h : a < 9223372036854775808) : (lg_cmp (lN a) (0 : Int64) = 0 ↔ a = 0) ∧ (lN a = 0 ↔ a = 0) := by
  have e : lN a = (0 : Int64) ↔ a = 0 := pk_lEQ (b := 0) (by omega) (by omega)
  exact ⟨(qp_cmp _ _).2.2.1.trans e, e⟩
theorem gc_step {a b : Nat} : Nat.gcd b (a % b) = Nat.gcd a b := by rw [Nat.gcd_comm b, ← Nat.gcd_rec, Nat.gcd_comm]
theorem half {b r j : Nat} (h0 : 0 < r) (hr : r < b) (hb : b < 2 ^ (j + 1)) : b % r < 2 ^ j := by
  have h1 : b % r < r := Nat.mod_lt _ h0
  have h2 : b % r + r ≤ b := by
    have e := Nat.div_add_mod b r
    have hd : 1 ≤ b / r := (Nat.one_le_div_iff h0).mpr (by omega)
    have : r * 1 ≤ r * (b / r) := Nat.mul_le_mul_left r hd
    omega
  rw [Nat.pow_succ] at hb
  omega
theorem cD : ∀ (j a b k f : Nat), a < 9223372036854775808 → b < 9223372036854775808 → b < 2 ^ j → k + 2 * j ≤ 127 → 2 * j < f → d_P_commonDivisor_9 f (lN a) (lN b) (nI k) = some (lN (Nat.gcd a b)) := by
  intro j
  induction j with
  | zero =>
    intro a b k f ha hb2 hb hk hf
    obtain ⟨f, rfl⟩ : ∃ f', f = f' + 1 := ⟨f - 1, by omega⟩
    have : b = 0 := by rw [Nat.pow_zero] at hb; omega
    subst this
    rw [d_P_commonDivisor_9, if_neg (fun z => by have := (qb_leI (a := 128) (by omega) (by omega)).mp z; omega), if_pos ((lc0 (by omega)).1.mpr rfl), Nat.gcd_zero_right]
  | succ j ih =>
    intro a b k f ha hb2 hb hk hf
    obtain ⟨f, rfl⟩ : ∃ f', f = f' + 1 + 1 := ⟨f - 2, by omega⟩
    rw [d_P_commonDivisor_9, if_neg (fun z => by have := (qb_leI (a := 128) (by omega) (by omega)).mp z; omega)]
    by_cases hb0 : b = 0
    · subst hb0
      rw [if_pos ((lc0 (by omega)).1.mpr rfl), Nat.gcd_zero_right]
    · rw [if_neg (fun z => hb0 ((lc0 hb2).1.mp z)), if_neg (fun z => hb0 ((lc0 hb2).2.mp z)), pk_lRem (by omega) (by omega) (by omega)]
      simp only [dl, k_1, nI_add]
      have hr : a % b < b := Nat.mod_lt _ (by omega)
      rw [d_P_commonDivisor_9, if_neg (fun z => by have := (qb_leI (a := 128) (by omega) (by omega)).mp z; omega)]
      by_cases hr0 : a % b = 0
      · rw [hr0, if_pos ((lc0 (by omega)).1.mpr rfl), ← gc_step, hr0, Nat.gcd_zero_right]
      · rw [if_neg (fun z => hr0 ((lc0 (by omega)).1.mp z)), if_neg (fun z => hr0 ((lc0 (by omega)).2.mp z)), pk_lRem (by omega) (by omega) (by omega)]
        simp only [dl, k_1, nI_add]
        have hh := half (by omega) hr hb
        have hr2 : b % (a % b) < a % b := Nat.mod_lt _ (by omega)
        rw [ih (a % b) (b % (a % b)) (k + 1 + 1) f (by omega) (by omega) hh (by omega) (by omega), gc_step, gc_step]
theorem cM : ∀ (j a b f : Nat), a < 9223372036854775808 → b < 9223372036854775808 → b < 2 ^ j → 2 * j < f → d_P_common_17 f (lN a) (lN b) = some (lN (Nat.gcd a b)) := by
  intro j
  induction j with
  | zero =>
    intro a b f ha hb2 hb hf
    obtain ⟨f, rfl⟩ : ∃ f', f = f' + 1 := ⟨f - 1, by omega⟩
    have : b = 0 := by rw [Nat.pow_zero] at hb; omega
    subst this
    rw [d_P_common_17, if_pos ((lc0 (by omega)).1.mpr rfl), Nat.gcd_zero_right]
  | succ j ih =>
    intro a b f ha hb2 hb hf
    obtain ⟨f, rfl⟩ : ∃ f', f = f' + 1 + 1 := ⟨f - 2, by omega⟩
    rw [d_P_common_17]
    by_cases hb0 : b = 0
    · subst hb0
      rw [if_pos ((lc0 (by omega)).1.mpr rfl), Nat.gcd_zero_right]
    · rw [if_neg (fun z => hb0 ((lc0 hb2).1.mp z)), if_neg (fun z => hb0 ((lc0 hb2).2.mp z)), pk_lRem (by omega) (by omega) (by omega)]
      simp only [dl]
      have hr : a % b < b := Nat.mod_lt _ (by omega)
      rw [d_P_common_17]
      by_cases hr0 : a % b = 0
      · rw [hr0, if_pos ((lc0 (by omega)).1.mpr rfl), ← gc_step, hr0, Nat.gcd_zero_right]
      · rw [if_neg (fun z => hr0 ((lc0 (by omega)).1.mp z)), if_neg (fun z => hr0 ((lc0 (by omega)).2.mp z)), pk_lRem (by omega) (by omega) (by omega)]
        simp only [dl]
        have hh := half (by omega) hr hb
        have hr2 : b % (a % b) < a % b := Nat.mod_lt _ (by omega)
        rw [ih (a % b) (b % (a % b)) f (by omega) (by omega) hh (by omega), gc_step, gc_step]
theorem frac {z : Int} {b : Nat} (h1 : -1099511627776 < z) (h2 : z < 1099511627776) (hb : 0 < b) (hb2 : b < 1099511627776) (w : Int32) : ∃ r, d_P_partOfFraction (Int64.ofInt z) (lN b) w = some r ∧ d_P_told (Int64.ofInt z) (lN b) w = some r := by
  have t : (Int64.ofInt z).toInt = z := Int64.toInt_ofInt_of_le (by omega) (by omega)
  have hc : 0 ≤ lg_cmp (Int64.ofInt z) (0 : Int64) ↔ 0 ≤ z := by
    rw [(qp_cmp _ _).2.2.2, Int64.le_iff_toInt_le, t]
    exact Iff.rfl
  have core : ∀ a : Nat, a < 1099511627776 → ∃ r, ((d_P_commonDivisor (lN a) (lN b)).bind fun zr3 => if (lg_cmp zr3 (0 : Int64)) = 0 then (some (0 : Int64)) else (if w = 0 then (if zr3 = 0 then none else some (Int64.ofInt z / zr3)) else (if zr3 = 0 then none else some (lN b / zr3)))) = some r ∧ ((d_P_common_15 (lN b) (lN a)).bind fun zr1 => if w = 0 then (if zr1 = 0 then none else some (Int64.ofInt z / zr1)) else (if zr1 = 0 then none else some (lN b / zr1))) = some r := fun a ha => by
    have g0 : 0 < Nat.gcd a b := Nat.gcd_pos_of_pos_right _ hb
    have g1 : Nat.gcd a b ≤ b := Nat.gcd_le_right _ hb
    unfold d_P_commonDivisor d_P_common_15
    have c1 : d_P_commonDivisor_9 FU (lN a) (lN b) 0 = some (lN (Nat.gcd a b)) := cD 40 a b 0 FU (by omega) (by omega) (by omega) (by omega) (by show 2 * 40 < 10000; omega)
    have c2 : d_P_common_17 FU (lN b) (lN a) = some (lN (Nat.gcd a b)) := by rw [cM 40 b a FU (by omega) (by omega) (by omega) (by show 2 * 40 < 10000; omega), Nat.gcd_comm]
    have n1 : ¬ lg_cmp (lN (Nat.gcd a b)) (0 : Int64) = 0 := fun q => by have := (lc0 (by omega)).1.mp q; omega
    have n2 : ¬ lN (Nat.gcd a b) = 0 := fun q => by have := (lc0 (by omega)).2.mp q; omega
    rw [c1, c2, Option.bind_some, Option.bind_some, if_neg n1]
    by_cases q : w = 0
    · simp only [if_pos q, if_neg n2]; exact ⟨_, rfl, rfl⟩
    · simp only [if_neg q, if_neg n2]; exact ⟨_, rfl, rfl⟩
  unfold d_P_partOfFraction d_P_told d_P_abs d_P_common
  by_cases h0 : 0 ≤ z
  · have e : Int64.ofInt z = lN z.toNat := by
      have := @Int64.ofInt_eq_ofNat z.toNat
      rw [Int.toNat_of_nonneg h0] at this
      exact this
    obtain ⟨r, c1, c2⟩ := core z.toNat (by omega)
    rw [if_pos (hc.mpr h0), if_pos (hc.mpr h0), Option.bind_some]
    refine ⟨r, ?_, ?_⟩
    · rw [← c1, e]
    · rw [← c2, e]
  · have e : -Int64.ofInt z = lN (-z).toNat := by
      have := @Int64.ofInt_eq_ofNat (-z).toNat
      rw [Int.toNat_of_nonneg (by omega), Int64.ofInt_neg] at this
      exact this
    obtain ⟨r, c1, c2⟩ := core (-z).toNat (by omega)
    rw [if_neg (fun q => h0 (hc.mp q)), if_neg (fun q => h0 (hc.mp q)), Option.bind_some, e]
    exact ⟨r, c1, c2⟩
def fac : Nat → Nat
  | 0 => 1
  | n + 1 => (n + 1) * fac n
theorem facs : ∀ k, k < 6 → d_P_factorial (nI k) = some (lN (fac k)) ∧ d_P_orders (nI k) = some (lN (fac k)) ∧ 0 < fac k ∧ fac k ≤ 120 := by decide +kernel
theorem rest1 : ∀ N, N < 6 → ∀ S, S < 32 → ∀ h, h < 5 → N ≤ h ∨ 2 ^ N ≤ S ∨ S / 2 ^ h % 2 = 1 ∨ (bc S + 1 ≤ N) := by decide +kernel
theorem rest2 : ∀ N, N < 6 → ∀ b, b < 6 → N < b + 1 ∨ fac b * fac (N - 1 - b) ≤ 24 := by decide +kernel
theorem rest3 : ∀ S, S < 32 → ∀ h, h < 5 → nI S ||| ((1 : Int32) <<< (nI h &&& 31)) = nI (S ||| 2 ^ h) ∧ S ||| 2 ^ h < 32 := by decide +kernel
theorem share_lp {u v : Nat → Nat → Int32} {N n h : Nat} {G : Nat → Nat} (h3 : v 0 3 = nI N) (ec : EC (sh u 11) N G 0 0) (hs : ∀ i, i < 22 → v 1 i = nI (G i)) (I : sInv N G) (h19 : G 19 ≤ 999) (hn : n ≤ 20) (hh : h < N) (a3 : Int32) : ∀ (f S : Nat) (z : Int) (t s : Nat → Nat → Int32), AgF u t → AgM v s → S ≤ 2 ^ N → 2 ^ N - S < f → -(20000 * S : Int) ≤ z → z ≤ 20000 * S → ∃ r t' s', d_F_share_40 f t (nI h) (nI n) a3 (Int64.ofInt z) (nI S) = some (r, t') ∧ d_M_share_37 f s (nI h) (nI n) a3 (Int64.ofInt z) (nI S) = some (r, s') ∧ AgF u t' ∧ AgM v s' := by
  intro f
  induction f with
  | zero => intro S z t s _ _ _ hf; omega
  | succ f ih =>
    intro S z t s hF hM hS hf hz1 hz2
    have hN := I.1
    have p2 := pow2 N hN
    have e4 : t 11 4 = nI N := by rw [hF 11 (by omega) (by omega)]; exact ec.1
    have e3 : s 0 3 = nI N := by rw [hM 0 (by omega) (by omega) (by omega)]; exact h3
    rw [d_F_share_40, d_M_share_37, e4, e3, p2.2.2]
    by_cases hc : 2 ^ N ≤ S
    · rw [if_pos ((qb_leI (by omega) (by omega)).mpr hc), if_pos ((qb_leI (by omega) (by omega)).mpr hc)]
      obtain ⟨r, c1, c2⟩ := frac (z := z) (b := fac N) (by omega) (by omega) (facs N (by omega)).2.2.1 (by have := (facs N (by omega)).2.2.2; omega) a3
      simp only [Option.bind_some, z10, z00, if_true, if_false, (facs N (by omega)).1, (facs N (by omega)).2.1, c1, c2]
      exact ⟨_, _, _, rfl, rfl, hF, hM⟩
    · have hc' : ¬ nI (2 ^ N) ≤ nI S := fun z => hc ((qb_leI (by omega) (by omega)).mp z)
      rw [if_neg hc', if_neg hc', qb_bit (by omega) (by omega)]
      unfold d_F_share_133 d_M_share_108
      have hb0 : nI (S / 2 ^ h % 2) = (0 : Int32) ↔ S / 2 ^ h % 2 = 0 := qb_eqI (b := 0) (by omega) (by omega)
      simp only [hb0, dl]
      by_cases hb : S / 2 ^ h % 2 = 0
      · simp only [if_pos hb]
        obtain ⟨b1, b2, b3⟩ := bcs S (by omega)
        have rs : bc S + 1 ≤ N ∧ fac (bc S) * fac (N - 1 - bc S) ≤ 24 ∧ nI S ||| ((1 : Int32) <<< (nI h &&& 31)) = nI (S ||| 2 ^ h) ∧ S ||| 2 ^ h < 32 := by
          rcases rest1 N (by omega) S (by omega) h (by omega) with q | q | q | q
          · omega
          · omega
          · omega
          · rcases rest2 N (by omega) (bc S) (by omega) with q2 | q2
            · omega
            · exact ⟨q, q2, rest3 S (by omega) h (by omega)⟩
        obtain ⟨r1, r2, r3, r4⟩ := rs
        obtain ⟨t1, f1, f2, -, f4⟩ := F_playLoss (m := S) (x := 3) (n := n) ec I h19 (by omega) (by omega) (by omega) hF
        obtain ⟨t2, g1, g2, -, g4⟩ := F_playLoss (m := S ||| 2 ^ h) (x := 3) (n := n) ec I h19 (by omega) (by omega) (by omega) f4
        have f1' : d_F_playWith t (nI S) 3 (nI n) = some t1 := f1
        have g1' : d_F_playWith t1 (nI (S ||| 2 ^ h)) 3 (nI n) = some t2 := g1
        obtain ⟨s1, k1, k2⟩ := M_valueOf (m := S ||| 2 ^ h) (n := n) h3 hs I h19 (by omega) (by omega) hM
        obtain ⟨s2, l1, l2⟩ := M_valueOf (m := S) (n := n) h3 hs I h19 (by omega) (by omega) k2
        have e32 : s2 0 3 = nI N := by rw [l2 0 (by omega) (by omega) (by omega)]; exact h3
        have en : nI N - 1 - nI (bc S) = nI (N - 1 - bc S) := by rw [k_1, pk_sub (by omega), pk_sub (by omega)]
        rw [b1, b2, Option.bind_some, Option.bind_some, en, f1', Option.bind_some, f2, Option.bind_some, r3, g1', Option.bind_some, g2, Option.bind_some, k1, Option.bind_some, l1, Option.bind_some, (facs (bc S) (by omega)).1, (facs (bc S) (by omega)).2.1, (facs (N - 1 - bc S) (by omega)).1]
        simp only [Option.bind_some, e32, en, (facs (N - 1 - bc S) (by omega)).2.1]
        have hLa : sLs N n (sT G) ≤ 420 := by have := sLs_le (n := n) (sT_inv I); omega
        have hL1 : sLs N n (sIn N S 3 (sT G)) ≤ 420 := by have := sLs_le (n := n) (sIn_inv (m := S) (sT_inv I) (show 3 ≤ 3 by omega)); omega
        have hL2 : sLs N n (sIn N (S ||| 2 ^ h) 3 (sT G)) ≤ 420 := by have := sLs_le (n := n) (sIn_inv (m := S ||| 2 ^ h) (sT_inv I) (show 3 ≤ 3 by omega)); omega
        generalize sLs N n (sT G) = A at hLa k1 l1 ⊢
        generalize sLs N n (sIn N S 3 (sT G)) = B at hL1 ⊢
        generalize sLs N n (sIn N (S ||| 2 ^ h) 3 (sT G)) = C at hL2 ⊢
        have ed : (nI A - nI C) - (nI A - nI B) = nI B - nI C := by
          apply Int32.toBitVec_inj.mp
          show (nI A).toBitVec - (nI C).toBitVec - ((nI A).toBitVec - (nI B).toBitVec) = (nI B).toBitVec - (nI C).toBitVec
          generalize (nI A).toBitVec = x
          generalize (nI B).toBitVec = y
          generalize (nI C).toBitVec = z
          rw [BitVec.sub_eq_add_neg (x - z), BitVec.sub_eq_add_neg x y, BitVec.neg_add, BitVec.sub_eq_add_neg (-x) (-y), BitVec.neg_neg, BitVec.sub_eq_add_neg x z, BitVec.sub_eq_add_neg y z]
          rw [← BitVec.add_assoc, BitVec.add_assoc x, BitVec.add_comm (-z) (-x), ← BitVec.add_assoc x, BitVec.add_right_neg, BitVec.zero_add, BitVec.add_comm]
        rw [ed]
        have ex : (nI B - nI C).toInt64 = Int64.ofInt ((B : Int) - C) := by
          rw [← Int64.ofInt_int32ToInt, pk_sub_toInt (by omega) (by omega)]
        have el : ∀ k, lN k = Int64.ofInt (k : Int) := fun k => (Int64.ofInt_eq_ofNat).symm
        rw [ex, el, el, ← Int64.ofInt_mul, ← Int64.ofInt_mul, ← Int64.ofInt_add, k_1, nI_add]
        refine ih (S + 1) _ t2 s2 g4 l2 (by omega) (by omega) ?_ ?_
        · have hp : ((B : Int) - C) * (fac (bc S) : Int) * (fac (N - 1 - bc S) : Int) = ((B : Int) - C) * ((fac (bc S) * fac (N - 1 - bc S) : Nat) : Int) := by rw [Int.mul_assoc]; rfl
          rw [hp]
          generalize fac (bc S) * fac (N - 1 - bc S) = P at r2
          have : -(420 * 24 : Int) ≤ ((B : Int) - C) * (P : Int) := by
            have h1 : -((420 : Int)) ≤ (B : Int) - C := by omega
            have h2 := Int.mul_le_mul_of_nonneg_right h1 (show (0 : Int) ≤ P by omega)
            omega
          omega
        · have hp : ((B : Int) - C) * (fac (bc S) : Int) * (fac (N - 1 - bc S) : Int) = ((B : Int) - C) * ((fac (bc S) * fac (N - 1 - bc S) : Nat) : Int) := by rw [Int.mul_assoc]; rfl
          rw [hp]
          generalize fac (bc S) * fac (N - 1 - bc S) = P at r2
          have : ((B : Int) - C) * (P : Int) ≤ (420 * 24 : Int) := by
            have h1 : (B : Int) - C ≤ 420 := by omega
            have h2 := Int.mul_le_mul_of_nonneg_right h1 (show (0 : Int) ≤ P by omega)
            omega
          omega
      · simp only [if_neg hb, k_1, nI_add]
        exact ih (S + 1) z t s hF hM (by omega) (by omega) (by omega) (by omega)
theorem p_share (u v : Nat → Nat → Int32) (a1 a2 a3 : Int32) (h : Rel u v) : ∃ (r : Int64) (u2 : Nat → Nat → Int32) (v2 : Nat → Nat → Int32), d_F_share u a1 a2 a3 = some (r, u2) ∧ d_M_share v a1 a2 a3 = some (r, v2) ∧ Rel u2 v2 := by
  obtain ⟨N, g, h3, ⟨ec, hs, I, h19, h20⟩, hR⟩ := id h
  have hN := I.1
  have p2 := pow2 N hN
  unfold d_F_share d_M_share
  rcases hs_F ec.1 hN h3 a1 with ⟨j, j1, j2, j3, j4⟩ | ⟨j3, j4⟩
  · subst j2
    rcases gd0 a2 20 (by omega) with ⟨n, n1, n2, n3, n4⟩ | ⟨n3, n4⟩
    · subst n2
      have n4' : d_P_in (nI n).toInt64 (0 : Int64) (20 : Int64) = some 1 := n4
      have n3' : d_P_outside (nI n) 0 20 = some 0 := n3
      rcases prt a3 with ⟨i, i1, i2, i3, i4⟩ | ⟨i3, i4⟩
      · simp only [Option.bind_some, z10, z00, if_true, if_false, j3, j4, n3', n4', i3, i4]
        obtain ⟨r, t', s', b1, b2, b3, b4⟩ := share_lp h3 ec hs I h19 n1 j1 a3 FU 0 0 u v AgF.rf AgM.rf (by omega) (by show 2 ^ N - 0 < 10000; omega) (by omega) (by omega)
        exact ⟨r, t', s', b1, b2, h.ag b3 b4⟩
      · simp only [Option.bind_some, z10, z00, if_true, if_false, j3, j4, n3', n4', i3, i4]
        exact ⟨_, _, _, rfl, rfl, h⟩
    · have n4' : d_P_in a2.toInt64 (0 : Int64) (20 : Int64) = some 0 := n4
      have n3' : d_P_outside a2 0 20 = some 1 := n3
      simp only [Option.bind_some, z10, z00, if_true, if_false, j3, j4, n3', n4']
      exact ⟨_, _, _, rfl, rfl, h⟩
  · simp only [Option.bind_some, z10, z00, if_true, if_false, j3, j4]
    exact ⟨_, _, _, rfl, rfl, h⟩
