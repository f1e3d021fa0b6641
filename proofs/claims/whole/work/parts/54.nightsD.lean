/-! PURE: the city's nights -/
theorem C_ask {c : Nat → Nat → Int32} {N : Nat} {g : Nat → Nat} {b q : Nat} (h : EC c N g b q) (I : sInv N g) (hN : 0 < N) : ∃ c2, d_C_ask c = some c2 ∧ EC c2 N (sAsk N g) b q ∧ (EB c N g → EB c2 N (sAsk N g)) := by
  obtain ⟨i1, i0, i2, i3, i4, i5, i6, i7⟩ := id I
  have ha := i2 hN
  have hnx := sNx_lt (h := g 15) hN
  have h4 := h.1
  have h5 := h.2.1
  have h6 := h.2.2.1
  have h7 := h.2.2.2.1
  have hr := h.2.2.2.2.2.2.2.2.2.2 (g 15) ha
  have hk3 := i7 (g 15) (by omega)
  have hw9 := i6 (g 15) (by omega)
  have g5 : gi (nI (g 15)) 5 = true := qb_gt (by omega) (by omega)
  have ca : (nI (g 15)).toNatClampNeg = g 15 := qb_cl (by omega)
  have ek : ∀ j, j < 4 → (nI (g (g 15)) = nI j ↔ g (g 15) = j) := fun j hj => qb_eqI (by omega) (by omega)
  have ew : nI (g (5 + g 15)) = nI 0 ↔ g (5 + g 15) = 0 := qb_eqI (by omega) (by omega)
  have e1 : d_C_ask c = d_C_ask_35 c (nI (sNx N (g 15))) := by
    unfold d_C_ask
    rw [h5, C_has h4 (by omega) (by omega), if_pos ha, Option.bind_some, if_neg (by decide), h4]
    simp only [k_1, k_0, nI_add]
    unfold sNx
    by_cases hc : g 15 + 1 < N
    · rw [if_neg (fun z => by have := (qb_leI (by omega) (by omega)).mp z; omega), if_pos hc]
    · rw [if_pos ((qb_leI (by omega) (by omega)).mpr (by omega)), if_neg hc]
  have e2 : d_C_ask_35 c (nI (sNx N (g 15))) = d_C_ask_74 c (nI (sNx N (g 15))) (nI (if g (g 15) = 3 ∧ g (5 + g 15) = 0 then 0 else g (g 15))) := by
    unfold d_C_ask_35 d_C_ask_65
    simp only [k_3, k_0, h5, g5, ca, if_true, hr.1, hr.2.1]
    by_cases c3 : g (g 15) = 3
    · rw [if_pos ((ek 3 (by omega)).mpr c3)]
      by_cases c0 : g (5 + g 15) = 0
      · rw [if_pos (ew.mpr c0), if_pos ⟨c3, c0⟩]
      · rw [if_neg (fun z => c0 (ew.mp z)), if_neg (fun z => c0 z.2)]
    · rw [if_neg (fun z => c3 ((ek 3 (by omega)).mp z)), if_neg (fun z => c3 z.1)]
  rw [e1, e2]
  have b0 : nI 0 = nI 1 ↔ False := by decide
  unfold sAsk d_C_ask_74 d_C_ask_197
  by_cases c1 : g (g 15) = 1
  · have ez : (if g (g 15) = 3 ∧ g (5 + g 15) = 0 then 0 else g (g 15)) = 1 := by rw [if_neg (fun z => by omega), c1]
    rw [ez, if_pos c1, if_pos (show nI 1 = (1 : Int32) from rfl)]
    simp only [k_1, k_9, h7, nI_add]
    rw [qp_min (by omega) (by omega), Option.bind_some, Nat.min_comm (g 17 + 1) 9]
    have hw1 : sp g 17 (min 9 (g 17 + 1)) (5 + sNx N (g 15)) ≤ 99 := by rw [sp_n _ _ (by omega)]; exact i6 _ (by omega)
    obtain ⟨c2, f1, f2, f3⟩ := C_burn i1 (h.f7 i1 (min 9 (g 17 + 1))) (k := sNx N (g 15)) (x := min 9 (g 17 + 1)) hnx (by omega) hw1
    rw [f1, Option.bind_some]
    exact ⟨_, rfl, f2.f5 i1 _, fun hB => (f3 (hB.f (by omega) (by omega))).f (by omega) (by omega)⟩
  · rw [if_neg c1]
    by_cases c2 : g (g 15) = 2
    · have ez : (if g (g 15) = 3 ∧ g (5 + g 15) = 0 then 0 else g (g 15)) = 2 := by rw [if_neg (fun z => by omega), c2]
      rw [ez, if_pos c2, if_neg (show ¬ nI 2 = (1 : Int32) by decide), if_pos (show nI 2 = (2 : Int32) from rfl)]
      simp only [h5, h6]
      obtain ⟨c2', f1, f2, f3⟩ := C_burn i1 h (k := g 15) (x := g 16) ha i3 hw9
      rw [f1, Option.bind_some]
      simp only [dl, pk_sub (Nat.min_le_left (g 16) (g (5 + g 15)))]
      exact ⟨_, rfl, (f2.f6 i1 _).f5 i1 _, fun hB => ((f3 hB).f (by omega) (by omega)).f (by omega) (by omega)⟩
    · rw [if_neg c2]
      by_cases c3 : g (g 15) = 3 ∧ 0 < g (5 + g 15)
      · have ez : (if g (g 15) = 3 ∧ g (5 + g 15) = 0 then 0 else g (g 15)) = 3 := by rw [if_neg (fun z => by omega), c3.1]
        rw [ez, if_pos c3, if_neg (show ¬ nI 3 = (1 : Int32) by decide), if_neg (show ¬ nI 3 = (2 : Int32) by decide), if_pos (show nI 3 = (3 : Int32) from rfl)]
        simp only [k_1, k_0, h5]
        obtain ⟨c2', f1, f2, f3⟩ := C_give i1 h (k := g 15) (x := 1) ha (by omega) hw9 i3
        rw [f1, Option.bind_some]
        have b17 : c2' 0 7 = nI (g 17) := by
          rw [f2.2.2.2.1]
          unfold sGive
          rw [sp_n _ _ (by omega), sp_n _ _ (by omega), sp_n _ _ (by omega), sp_n _ _ (by omega)]
        rw [b17, qp_max0 (by omega) (by omega), Option.bind_some]
        exact ⟨_, rfl, (f2.f7 i1 _).f5 i1 _, fun hB => ((f3 hB).f (by omega) (by omega)).f (by omega) (by omega)⟩
      · rw [if_neg c3]
        have ez : (if g (g 15) = 3 ∧ g (5 + g 15) = 0 then 0 else g (g 15)) = 0 := by
          split
          · rfl
          · omega
        rw [ez, if_neg (show ¬ nI 0 = (1 : Int32) by decide), if_neg (show ¬ nI 0 = (2 : Int32) by decide), if_neg (show ¬ nI 0 = (3 : Int32) by decide)]
        simp only [k_1, k_20, h6, nI_add]
        rw [qp_min (by omega) (by omega), Option.bind_some, Nat.min_comm (g 16 + 1) 20]
        exact ⟨_, rfl, (h.f6 i1 _).f5 i1 _, fun hB => (hB.f (by omega) (by omega)).f (by omega) (by omega)⟩
theorem C_night {c : Nat → Nat → Int32} {N : Nat} {g : Nat → Nat} {b q : Nat} (h : EC c N g b q) (I : sInv N g) (h19 : g 19 < 2000) : ∃ c2, d_C_passNight c = some c2 ∧ EC c2 N (sNight N g) b q ∧ (EB c N g → EB c2 N (sNight N g)) := by
  obtain ⟨i1, i0, i2, i3, i4, i5, i6, i7⟩ := id I
  have h8 := h.2.2.2.2.1
  have h9 := h.2.2.2.2.2.1
  have hb : nI (g 18) >>> (nI (g 19) - nI (g 19) / nI 7 * nI 7 &&& 31) &&& nI 1 = nI (g 18 / 2 ^ (g 19 % 7) % 2) := by
    rw [qb_rem (by omega) (by omega) (by omega)]
    exact qb_bit1 (by omega) (by omega)
  unfold d_C_passNight d_C_passNight_21
  simp only [k_0, k_1, k_7, dl, h8, h9, hb, nI_add]
  unfold sNight
  by_cases hr : g 18 / 2 ^ (g 19 % 7) % 2 = 0
  · rw [if_pos ((qb_eqI (by omega) (by omega)).mpr hr)]
    by_cases hN : 0 < N
    · rw [if_pos ⟨hN, hr⟩]
      obtain ⟨c2, e1, e2, e3⟩ := C_ask h I hN
      rw [e1, Option.bind_some]
      have b19 : c2 0 9 = nI (g 19) := by rw [e2.2.2.2.2.2.1, (sAsk_18 hN I).2]
      rw [b19, nI_add]
      exact ⟨_, rfl, e2.f9 i1 _, fun hB => (e3 hB).f (by omega) (by omega)⟩
    · rw [if_neg (fun z => hN z.1)]
      have e0 : d_C_ask c = some c := by
        unfold d_C_ask
        rw [h.2.1, C_has h.1 (by omega) (by rw [i0 (by omega)]; omega), if_neg (by omega), Option.bind_some, if_pos rfl]
      rw [e0, Option.bind_some, h9, nI_add]
      exact ⟨_, rfl, h.f9 i1 _, fun hB => hB.f (by omega) (by omega)⟩
  · rw [if_neg (fun z => hr ((qb_eqI (by omega) (by omega)).mp z)), if_neg (fun z => hr z.2)]
    exact ⟨_, rfl, h.f9 i1 _, fun hB => hB.f (by omega) (by omega)⟩
theorem C_nights_2 {N : Nat} {b q : Nat} : ∀ (f n k : Nat) (c : Nat → Nat → Int32) (g : Nat → Nat), EC c N g b q → sInv N g → g 19 + (n - k) < 2000 → k ≤ n → n - k < f → n < 10000 → ∃ c2, d_C_passNights_2 f c (nI n) (nI k) = some c2 ∧ EC c2 N (sNights N (n - k) g) b q ∧ (EB c N g → EB c2 N (sNights N (n - k) g)) := by
  intro f
  induction f with
  | zero => intro n k c g h I h19 hk hf; omega
  | succ f ih =>
    intro n k c g h I h19 hk hf hn
    rw [d_C_passNights_2]
    by_cases hc : n ≤ k
    · rw [if_pos ((qb_leI (by omega) (by omega)).mpr hc), show n - k = 0 by omega]
      exact ⟨c, rfl, h, fun hB => hB⟩
    · rw [if_neg (fun z => hc ((qb_leI (by omega) (by omega)).mp z))]
      obtain ⟨c2, e1, e2, e3⟩ := C_night h I (by omega)
      rw [e1, Option.bind_some]
      simp only [dl, k_1, nI_add]
      obtain ⟨c3, f1, f2, f3⟩ := ih n (k + 1) c2 (sNight N g) e2 (sNight_inv I) (by rw [sNight_19]; omega) (by omega) (by omega) hn
      refine ⟨c3, f1, ?_, ?_⟩
      · rw [show n - k = (n - (k + 1)) + 1 by omega]
        exact f2
      · rw [show n - k = (n - (k + 1)) + 1 by omega]
        exact fun hB => f3 (e3 hB)
theorem C_nights {N n : Nat} {b q : Nat} {c : Nat → Nat → Int32} {g : Nat → Nat} (h : EC c N g b q) (I : sInv N g) (h19 : g 19 ≤ 1000) (hn : n ≤ 60) : ∃ c2, d_C_passNights c (nI n) = some c2 ∧ EC c2 N (sNights N n g) b q ∧ (EB c N g → EB c2 N (sNights N n g)) := C_nights_2 FU n 0 c g h I (by omega) (by omega) (by show n - 0 < 10000; omega) (by omega)
