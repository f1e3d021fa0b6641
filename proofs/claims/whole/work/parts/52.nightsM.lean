/-! PURE: the reference's nights -/
theorem sNx_mod {N a : Nat} (h : a < N) : (a + 1) % N = sNx N a := by
  unfold sNx
  split
  · exact Nat.mod_eq_of_lt (by assumption)
  · have : a + 1 = N := by omega
    rw [this, Nat.mod_self]
theorem M_asks {v : Nat → Nat → Int32} {N : Nat} {g : Nat → Nat} (h : EM v N g) (I : sInv N g) (hN : 0 < N) : ∃ v2, d_M_asks v = some v2 ∧ EM v2 N (sAsk N g) ∧ okM v v2 := by
  obtain ⟨i1, i0, i2, i3, i4, i5, i6, i7⟩ := id I
  have ha := i2 hN
  have hnx := sNx_lt (h := g 15) hN
  have a15 := h.2 15 (by omega)
  have a16 := h.2 16 (by omega)
  have a17 := h.2 17 (by omega)
  have ak := h.2 (g 15) (by omega)
  have aw := h.2 (5 + g 15) (by omega)
  have c15 : (nI 15).toNatClampNeg = 15 := rfl
  have c16 : (nI 16).toNatClampNeg = 16 := rfl
  have c17 : (nI 17).toNatClampNeg = 17 := rfl
  have ca : (nI (g 15)).toNatClampNeg = g 15 := qb_cl (by omega)
  have cw : (nI (5 + g 15)).toNatClampNeg = 5 + g 15 := qb_cl (by omega)
  have ga : gi (nI (g 15)) 41 = true := qb_gt (by omega) (by omega)
  have gw' : gi (nI (5 + g 15)) 41 = true := qb_gt (by omega) (by omega)
  have hk3 := i7 (g 15) (by omega)
  have hw9 := i6 (g 15) (by omega)
  have n0 : ¬ nI N = nI 0 := fun q => by have := (qb_eqI (by omega) (by omega)).mp q; omega
  have ek : ∀ j, j < 4 → (nI (g (g 15)) = nI j ↔ g (g 15) = j) := fun j hj => qb_eqI (by omega) (by omega)
  have hrem : nI (g 15 + 1) - nI (g 15 + 1) / nI N * nI N = nI (sNx N (g 15)) := by rw [qb_rem (by omega) hN (by omega), sNx_mod ha]
  have g17 : gi (nI 17) 41 = true := rfl
  unfold d_M_asks d_M_asks_153 d_M_asks_149 d_M_asks_174
  simp only [k_15, k_16, k_17, k_20, k_9, k_5, k_3, k_2, k_1, k_0, c15, c16, c17, dl, h.1, a15, a16, a17, nI_add, Nat.zero_add, hrem, ga, ca, ak, if_true, if_neg n0, g17, pw_s, up_s]
  unfold sAsk
  by_cases c1 : g (g 15) = 1
  · rw [if_pos ((ek 1 (by omega)).mpr c1), if_pos c1, qp_less (by omega) (by omega), Option.bind_some]
    have hw1 : sp g 17 (min 9 (g 17 + 1)) (5 + sNx N (g 15)) ≤ 99 := by rw [sp_n _ _ (by omega)]; exact i6 _ (by omega)
    obtain ⟨v2, e1, e2, e3⟩ := M_burns (h.put 17 (min 9 (g 17 + 1))) (k := sNx N (g 15)) (x := min 9 (g 17 + 1)) (by omega) (by omega) hw1
    rw [e1, Option.bind_some]
    exact ⟨_, rfl, e2.put 15 _, (okM.put (by omega)).tr (e3.tr (okM.put (by omega)))⟩
  · rw [if_neg (fun q => c1 ((ek 1 (by omega)).mp q)), if_neg c1]
    by_cases c2 : g (g 15) = 2
    · rw [if_pos ((ek 2 (by omega)).mpr c2), if_pos c2]
      obtain ⟨v2, e1, e2, e3⟩ := M_burns h (k := g 15) (x := g 16) (by omega) i3 hw9
      rw [e1, Option.bind_some]
      simp only [pk_sub (Nat.min_le_left (g 16) (g (5 + g 15)))]
      exact ⟨_, rfl, (e2.put 16 _).put 15 _, e3.tr ((okM.put (by omega)).tr (okM.put (by omega)))⟩
    · rw [if_neg (fun q => c2 ((ek 2 (by omega)).mp q)), if_neg c2]
      by_cases c3 : g (g 15) = 3
      · rw [if_pos ((ek 3 (by omega)).mpr c3), if_pos gw', cw, aw]
        by_cases c4 : 0 < g (5 + g 15)
        · rw [if_neg (fun q => by have := (qb_leI (by omega) (by omega)).mp q; omega), if_pos ⟨c3, c4⟩]
          obtain ⟨v2, e1, e2, e3⟩ := M_gives h (k := g 15) (x := 1) (by omega) (by omega) hw9 i3
          rw [e1, Option.bind_some]
          have b17 : v2 2 17 = nI (g 17) := by
            rw [e2.2 17 (by omega)]
            unfold sGive
            rw [sp_n _ _ (by omega), sp_n _ _ (by omega), sp_n _ _ (by omega), sp_n _ _ (by omega)]
          rw [b17]
          by_cases c5 : g 17 ≤ 0
          · rw [if_pos ((qb_leI (by omega) (by omega)).mpr c5), show g 17 - 1 = 0 by omega]
            exact ⟨_, rfl, (e2.put 17 _).put 15 _, e3.tr ((okM.put (by omega)).tr (okM.put (by omega)))⟩
          · rw [if_neg (fun q => c5 ((qb_leI (by omega) (by omega)).mp q)), pk_sub (by omega)]
            exact ⟨_, rfl, (e2.put 17 _).put 15 _, e3.tr ((okM.put (by omega)).tr (okM.put (by omega)))⟩
        · rw [if_pos ((qb_leI (by omega) (by omega)).mpr (by omega)), if_neg (fun q => c4 q.2), qp_less (by omega) (by omega), Option.bind_some]
          exact ⟨_, rfl, (h.put 16 _).put 15 _, (okM.put (by omega)).tr (okM.put (by omega))⟩
      · rw [if_neg (fun q => c3 ((ek 3 (by omega)).mp q)), if_neg (fun q => c3 q.1), qp_less (by omega) (by omega), Option.bind_some]
        exact ⟨_, rfl, (h.put 16 _).put 15 _, (okM.put (by omega)).tr (okM.put (by omega))⟩
theorem sAsk_18 {N : Nat} {g : Nat → Nat} (hN : 0 < N) (I : sInv N g) : sAsk N g 18 = g 18 ∧ sAsk N g 19 = g 19 := by
  have h1 := I.2.2.1 hN
  have h0 := I.1
  have hx := sNx_lt (h := g 15) hN
  have b : ∀ (g : Nat → Nat) (h x j : Nat), h < 5 → j = 18 ∨ j = 19 → sBurn g h x j = g j := fun g h x j hh hj => by
    unfold sBurn
    rw [sp_n _ _ (by omega), sp_n _ _ (by omega), sp_n _ _ (by omega), sp_n _ _ (by omega)]
  have e : ∀ (g : Nat → Nat) (h x j : Nat), h < 5 → j = 18 ∨ j = 19 → sGive g h x j = g j := fun g h x j hh hj => by
    unfold sGive
    rw [sp_n _ _ (by omega), sp_n _ _ (by omega), sp_n _ _ (by omega), sp_n _ _ (by omega)]
  unfold sAsk
  constructor
  · split
    · rw [sp_n _ _ (by omega), b _ _ _ _ (by omega) (by omega), sp_n _ _ (by omega)]
    · split
      · rw [sp_n _ _ (by omega), sp_n _ _ (by omega), b _ _ _ _ (by omega) (by omega)]
      · split
        · rw [sp_n _ _ (by omega), sp_n _ _ (by omega), e _ _ _ _ (by omega) (by omega)]
        · rw [sp_n _ _ (by omega), sp_n _ _ (by omega)]
  · split
    · rw [sp_n _ _ (by omega), b _ _ _ _ (by omega) (by omega), sp_n _ _ (by omega)]
    · split
      · rw [sp_n _ _ (by omega), sp_n _ _ (by omega), b _ _ _ _ (by omega) (by omega)]
      · split
        · rw [sp_n _ _ (by omega), sp_n _ _ (by omega), e _ _ _ _ (by omega) (by omega)]
        · rw [sp_n _ _ (by omega), sp_n _ _ (by omega)]
theorem M_night {v : Nat → Nat → Int32} {N : Nat} {g : Nat → Nat} (h : EM v N g) (I : sInv N g) (h19 : g 19 < 2000) : ∃ v2, d_M_nightGoes v = some v2 ∧ EM v2 N (sNight N g) ∧ okM v v2 := by
  obtain ⟨i1, i0, i2, i3, i4, i5, i6, i7⟩ := id I
  have a18 := h.2 18 (by omega)
  have a19 := h.2 19 (by omega)
  have c18 : (nI 18).toNatClampNeg = 18 := rfl
  have c19 : (nI 19).toNatClampNeg = 19 := rfl
  have hb : nI (g 18) >>> (nI (g 19) - nI (g 19) / nI 7 * nI 7 &&& 31) &&& nI 1 = nI (g 18 / 2 ^ (g 19 % 7) % 2) := by
    rw [qb_rem (by omega) (by omega) (by omega)]
    exact qb_bit1 (by omega) (by omega)
  unfold d_M_nightGoes d_M_nightGoes_34
  simp only [k_0, k_1, k_7, k_18, k_19, c18, c19, dl, h.1, a18, a19, hb, nI_add]
  unfold sNight
  by_cases hN : 0 < N
  · rw [if_neg (fun q => by have := (qb_leI (by omega) (by omega)).mp q; omega)]
    by_cases hr : g 18 / 2 ^ (g 19 % 7) % 2 = 0
    · rw [if_pos ((qb_eqI (by omega) (by omega)).mpr hr), if_pos ⟨hN, hr⟩]
      obtain ⟨v2, e1, e2, e3⟩ := M_asks h I hN
      rw [e1, Option.bind_some]
      have b19 : v2 2 19 = nI (g 19) := by rw [e2.2 19 (by omega), (sAsk_18 hN I).2]
      rw [b19, nI_add]
      exact ⟨_, rfl, e2.put 19 _, e3.tr (okM.put (by omega))⟩
    · rw [if_neg (fun q => hr ((qb_eqI (by omega) (by omega)).mp q)), if_neg (fun q => hr q.2)]
      exact ⟨_, rfl, h.put 19 _, okM.put (by omega)⟩
  · rw [if_pos ((qb_leI (by omega) (by omega)).mpr (by omega)), if_neg (fun q => hN q.1)]
    exact ⟨_, rfl, h.put 19 _, okM.put (by omega)⟩
theorem sNight_19 {N : Nat} {g : Nat → Nat} : sNight N g 19 = g 19 + 1 := by
  unfold sNight
  split <;> exact sp_s _ _ _
theorem sNights_19 {N : Nat} : ∀ (n : Nat) (g : Nat → Nat), sNights N n g 19 = g 19 + n
  | 0, _ => rfl
  | n + 1, g => by rw [sNights, sNights_19 n, sNight_19]; omega
theorem M_nights_2 {N : Nat} : ∀ (f n k : Nat) (v : Nat → Nat → Int32) (g : Nat → Nat), EM v N g → sInv N g → g 19 + (n - k) < 2000 → k ≤ n → n - k < f → n < 10000 → ∃ v2, d_M_nightsGo_2 f v (nI n) (nI k) = some v2 ∧ EM v2 N (sNights N (n - k) g) ∧ okM v v2 := by
  intro f
  induction f with
  | zero => intro n k v g h I h19 hk hf; omega
  | succ f ih =>
    intro n k v g h I h19 hk hf hn
    rw [d_M_nightsGo_2]
    by_cases hc : n ≤ k
    · rw [if_pos ((qb_leI (by omega) (by omega)).mpr hc), show n - k = 0 by omega]
      exact ⟨v, rfl, h, okM.rf⟩
    · rw [if_neg (fun q => hc ((qb_leI (by omega) (by omega)).mp q))]
      obtain ⟨v2, e1, e2, e3⟩ := M_night h I (by omega)
      rw [e1, Option.bind_some]
      simp only [dl, k_1, nI_add]
      obtain ⟨v3, f1, f2, f3⟩ := ih n (k + 1) v2 (sNight N g) e2 (sNight_inv I) (by rw [sNight_19]; omega) (by omega) (by omega) hn
      refine ⟨v3, f1, ?_, e3.tr f3⟩
      rw [show n - k = (n - (k + 1)) + 1 by omega]
      exact f2
theorem M_nights {N n : Nat} {v : Nat → Nat → Int32} {g : Nat → Nat} (h : EM v N g) (I : sInv N g) (h19 : g 19 ≤ 1000) (hn : n ≤ 60) : ∃ v2, d_M_nightsGo v (nI n) = some v2 ∧ EM v2 N (sNights N n g) ∧ okM v v2 := M_nights_2 FU n 0 v g h I (by omega) (by omega) (by show n - 0 < 10000; omega) (by omega)
