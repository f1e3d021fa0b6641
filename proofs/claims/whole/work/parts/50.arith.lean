/-! PURE: numbers -/
theorem qb_le (a b : Int32) : a ≤ b ↔ a.toInt ≤ b.toInt := Int32.le_iff_toInt_le
theorem qb_lt (a b : Int32) : a < b ↔ a.toInt < b.toInt := Int32.lt_iff_toInt_lt
theorem qb_eq (a b : Int32) : a = b ↔ a.toInt = b.toInt := Int32.toInt_inj.symm
theorem qb_cl {a : Nat} (h : a < 2147483648) : (nI a).toNatClampNeg = a := nI_clamp (by omega)
theorem qb_gi {a n : Nat} (ha : a < 2147483648) : gi (nI a) n = decide (a < n) := by
  unfold gi
  rw [qb_cl ha]
  have h : ¬ nI a < 0 := nI_pos (by omega)
  by_cases hn : n ≤ a
  · simp [h, hn]
  · simp [h, hn]
    omega
theorem qb_gt {a n : Nat} (ha : a < n) (hn : n < 2147483648) : gi (nI a) n = true := by
  rw [qb_gi (by omega)]
  simpa using ha
theorem qb_leI {a b : Nat} (ha : a < 2147483648) (hb : b < 2147483648) : nI a ≤ nI b ↔ a ≤ b := nI_leI (by omega) (by omega)
theorem qb_ltI {a b : Nat} (ha : a < 2147483648) (hb : b < 2147483648) : nI a < nI b ↔ a < b := nI_ltI (by omega) (by omega)
theorem qb_eqI {a b : Nat} (ha : a < 2147483648) (hb : b < 2147483648) : nI a = nI b ↔ a = b := nI_eq (by omega) (by omega)
theorem qb_rem {a d : Nat} (ha : a < 2147483648) (h0 : 0 < d) (hd : d < 2147483648) : nI a - nI a / nI d * nI d = nI (a % d) := pk_rem (by omega) h0 (by omega)
theorem qb_sl : ∀ n, n < 32 → ((nI n &&& 31).toBitVec.smod 32).toNat = n := by decide
theorem qb_shr {r k : Nat} (hr : r < 2147483648) (hk : k < 32) : nI r >>> (nI k &&& 31) = nI (r / 2 ^ k) := pk_shrN (by omega) _ k (qb_sl k hk)
theorem qb_bit {r k : Nat} (hr : r < 2147483648) (hk : k < 32) : (nI r >>> (nI k &&& 31)) &&& (1 : Int32) = nI (r / 2 ^ k % 2) := by
  rw [qb_shr hr hk]
  have h : r / 2 ^ k ≤ r := Nat.div_le_self _ _
  exact pk_andN (by omega) 1 (by decide)
theorem qb_shl {r k : Nat} (hk : k < 32) (h : r * 2 ^ k < 4294967296) : nI r <<< (nI k &&& 31) = nI (r * 2 ^ k) := pk_shlN _ k (qb_sl k hk) (by omega)
/-- a number is in a range, or not -/
theorem qb_rng (a : Int32) {n : Nat} (hn : n < 2147483648) : (∃ j, j ≤ n ∧ a = nI j) ∨ ¬ ((0 : Int32) ≤ a ∧ a ≤ nI n) := by
  by_cases h : (0 : Int32) ≤ a ∧ a ≤ nI n
  · left
    obtain ⟨j, h1, h2⟩ := nI_of (x := a) (Int32.not_lt.mpr h.1)
    subst h2
    exact ⟨j, (qb_leI (by omega) hn).mp h.2, rfl⟩
  · exact Or.inr h
theorem qb_rng1 (a : Int32) {n : Nat} (hn : n < 2147483648) : (∃ j, 1 ≤ j ∧ j ≤ n ∧ a = nI j) ∨ ¬ ((1 : Int32) ≤ a ∧ a ≤ nI n) := by
  by_cases h : (1 : Int32) ≤ a ∧ a ≤ nI n
  · left
    have h0 : ¬ a < 0 := by
      have h1 := h.1
      rw [qb_le] at h1
      rw [qb_lt]
      have e1 : (1 : Int32).toInt = 1 := rfl
      have e0 : (0 : Int32).toInt = 0 := rfl
      omega
    obtain ⟨j, h1, h2⟩ := nI_of (x := a) h0
    subst h2
    exact ⟨j, (qb_leI (a := 1) (by omega) (by omega)).mp h.1, (qb_leI (by omega) hn).mp h.2, rfl⟩
  · exact Or.inr h
theorem qp_out (a lo hi : Int32) : d_P_outside a lo hi = some (if lo ≤ a ∧ a ≤ hi then 0 else 1) := by
  unfold d_P_outside d_P_outside_10
  by_cases h1 : a < lo
  · rw [if_pos h1, if_neg (fun h => (Int32.not_lt.mpr h.1) h1)]
  · rw [if_neg h1]
    have h2 : lo ≤ a := Int32.not_lt.mp h1
    by_cases h3 : a ≤ hi
    · rw [if_pos h3, if_pos ⟨h2, h3⟩]
    · rw [if_neg h3, if_neg (fun h => h3 h.2)]
theorem qp_cmp (x y : Int64) : (lg_cmp x y < 0 ↔ x < y) ∧ (0 < lg_cmp x y ↔ y < x) ∧ (lg_cmp x y = 0 ↔ x = y) ∧ (0 ≤ lg_cmp x y ↔ y ≤ x) := by
  unfold lg_cmp
  simp only [gt_iff_lt, Int64.lt_iff_toInt_lt, Int64.le_iff_toInt_le, ← Int64.toInt_inj]
  by_cases h1 : y.toInt < x.toInt
  · rw [if_pos h1]
    refine ⟨⟨fun h => absurd h (by decide), fun h => by omega⟩, ⟨fun _ => h1, fun _ => by decide⟩, ⟨fun h => absurd h (by decide), fun h => by omega⟩, ⟨fun _ => by omega, fun _ => by decide⟩⟩
  · rw [if_neg h1]
    by_cases h2 : x.toInt = y.toInt
    · rw [if_pos h2]
      refine ⟨⟨fun h => absurd h (by decide), fun h => by omega⟩, ⟨fun h => absurd h (by decide), fun h => by omega⟩, ⟨fun _ => h2, fun _ => rfl⟩, ⟨fun _ => by omega, fun _ => by decide⟩⟩
    · rw [if_neg h2]
      refine ⟨⟨fun _ => by omega, fun _ => by decide⟩, ⟨fun h => absurd h (by decide), fun h => by omega⟩, ⟨fun h => absurd h (by decide), fun h => by omega⟩, ⟨fun h => absurd h (by decide), fun h => by omega⟩⟩
theorem qp_in (a lo hi : Int32) : d_P_in a.toInt64 lo.toInt64 hi.toInt64 = some (if lo ≤ a ∧ a ≤ hi then 1 else 0) := by
  unfold d_P_in
  have w : ∀ x y : Int32, x.toInt64 < y.toInt64 ↔ x < y := fun x y => by rw [Int64.lt_iff_toInt_lt, Int32.lt_iff_toInt_lt, Int32.toInt_toInt64, Int32.toInt_toInt64]
  by_cases h1 : a < lo
  · rw [if_pos ((qp_cmp _ _).1.mpr ((w _ _).mpr h1)), if_neg (fun h => (Int32.not_lt.mpr h.1) h1)]
  · rw [if_neg (fun h => h1 ((w _ _).mp ((qp_cmp _ _).1.mp h)))]
    have h2 : lo ≤ a := Int32.not_lt.mp h1
    by_cases h3 : hi < a
    · rw [if_pos ((qp_cmp _ _).2.1.mpr ((w _ _).mpr h3)), if_neg (fun h => (Int32.not_lt.mpr h.2) h3)]
    · rw [if_neg (fun h => h3 ((w _ _).mp ((qp_cmp _ _).2.1.mp h))), if_pos ⟨h2, Int32.not_lt.mp h3⟩]
theorem qp_min {a b : Nat} (ha : a < 2147483648) (hb : b < 2147483648) : d_P_min (nI a) (nI b) = some (nI (min a b)) := by
  unfold d_P_min
  by_cases h : b < a
  · rw [if_pos ((qb_ltI hb ha).mpr h), Nat.min_eq_right (by omega)]
  · rw [if_neg (fun q => h ((qb_ltI hb ha).mp q)), Nat.min_eq_left (by omega)]
theorem qp_less {a b : Nat} (ha : a < 2147483648) (hb : b < 2147483648) : d_P_lesser (nI a) (nI b) = some (nI (min a b)) := by
  unfold d_P_lesser
  by_cases h : b ≤ a
  · rw [if_pos ((qb_leI hb ha).mpr h), Nat.min_eq_right h]
  · rw [if_neg (fun q => h ((qb_leI hb ha).mp q)), Nat.min_eq_left (by omega)]
theorem qp_max {a b : Nat} (ha : a < 1073741824) (hb : b < 1073741824) : d_P_max (nI a - nI b) 0 = some (nI (a - b)) := by
  unfold d_P_max
  have e := pk_sub_toInt (a := a) (b := b) (by omega) (by omega)
  by_cases h : a < b
  · rw [if_pos (by rw [qb_lt, e]; show (a : Int) - b < 0; omega), Nat.sub_eq_zero_of_le (by omega)]
    rfl
  · rw [if_neg (by rw [qb_lt, e]; show ¬ (a : Int) - b < 0; omega), pk_sub (by omega)]
theorem qm_pos (x : Int32) : narrow .int (.int x) = .int x := rfl
theorem k_0 : (0 : Int32) = nI 0 := rfl
theorem k_1 : (1 : Int32) = nI 1 := rfl
theorem k_2 : (2 : Int32) = nI 2 := rfl
theorem k_3 : (3 : Int32) = nI 3 := rfl
theorem k_4 : (4 : Int32) = nI 4 := rfl
theorem k_5 : (5 : Int32) = nI 5 := rfl
theorem k_6 : (6 : Int32) = nI 6 := rfl
theorem k_7 : (7 : Int32) = nI 7 := rfl
theorem k_8 : (8 : Int32) = nI 8 := rfl
theorem k_9 : (9 : Int32) = nI 9 := rfl
theorem k_10 : (10 : Int32) = nI 10 := rfl
theorem k_15 : (15 : Int32) = nI 15 := rfl
theorem k_16 : (16 : Int32) = nI 16 := rfl
theorem k_17 : (17 : Int32) = nI 17 := rfl
theorem k_18 : (18 : Int32) = nI 18 := rfl
theorem k_19 : (19 : Int32) = nI 19 := rfl
theorem k_20 : (20 : Int32) = nI 20 := rfl
theorem k_21 : (21 : Int32) = nI 21 := rfl
theorem k_22 : (22 : Int32) = nI 22 := rfl
theorem k_23 : (23 : Int32) = nI 23 := rfl
theorem k_24 : (24 : Int32) = nI 24 := rfl
theorem k_25 : (25 : Int32) = nI 25 := rfl
theorem k_30 : (30 : Int32) = nI 30 := rfl
theorem k_40 : (40 : Int32) = nI 40 := rfl
theorem k_41 : (41 : Int32) = nI 41 := rfl
theorem k_60 : (60 : Int32) = nI 60 := rfl
theorem k_63 : (63 : Int32) = nI 63 := rfl
theorem k_97 : (97 : Int32) = nI 97 := rfl
theorem k_99 : (99 : Int32) = nI 99 := rfl
theorem k_100 : (100 : Int32) = nI 100 := rfl
theorem k_127 : (127 : Int32) = nI 127 := rfl
theorem k_160 : (160 : Int32) = nI 160 := rfl
theorem k_255 : (255 : Int32) = nI 255 := rfl
theorem k_999 : (999 : Int32) = nI 999 := rfl
theorem k_1000 : (1000 : Int32) = nI 1000 := rfl
theorem qb_bit1 {r k : Nat} (hr : r < 2147483648) (hk : k < 32) : (nI r >>> (nI k &&& 31)) &&& nI 1 = nI (r / 2 ^ k % 2) := qb_bit hr hk
theorem qp_max0 {a b : Nat} (ha : a < 1073741824) (hb : b < 1073741824) : d_P_max (nI a - nI b) (nI 0) = some (nI (a - b)) := qp_max ha hb
theorem pw_s (u : Nat → Nat → Int32) (c j : Nat) (x : Int32) : pw u c j x c = upd (u c) j x := va_up_self _ _ _
theorem pw_n (u : Nat → Nat → Int32) {c d : Nat} (j : Nat) (x : Int32) (h : d ≠ c) : pw u c j x d = u d := va_up_ne _ _ h
theorem pr_s (u : Nat → Nat → Int32) (c : Nat) (f : Nat → Int32) : pr u c f c = f := va_up_self _ _ _
theorem pr_n (u : Nat → Nat → Int32) {c d : Nat} (f : Nat → Int32) (h : d ≠ c) : pr u c f d = u d := va_up_ne _ _ h
theorem up_s {f : Nat → Int32} {k : Nat} {x : Int32} : upd f k x k = x := pk_us
theorem up_n {f : Nat → Int32} {k j : Nat} {x : Int32} (h : j ≠ k) : upd f k x j = f j := pk_un h
