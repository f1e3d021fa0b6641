/-! PURE: what a night is, in plain numbers. g: 0-4 kinds, 5-9 worth, 10-14 lost, 15 at, 16 hunger, 17 temper, 18 rain, 19 night, 20 burnt, 21 given, 22-26 burnt of each -/
def sp (g : Nat → Nat) (k x : Nat) : Nat → Nat := fun j => if j = k then x else g j
theorem sp_s (g : Nat → Nat) (k x : Nat) : sp g k x k = x := if_pos rfl
theorem sp_n (g : Nat → Nat) {k j : Nat} (x : Nat) (h : j ≠ k) : sp g k x j = g j := if_neg h
def sNx (N h : Nat) : Nat := if h + 1 < N then h + 1 else 0
def sBurn (g : Nat → Nat) (h x : Nat) : Nat → Nat := sp (sp (sp (sp g (5 + h) (g (5 + h) - min x (g (5 + h)))) (10 + h) (g (10 + h) + min x (g (5 + h)))) 20 (g 20 + min x (g (5 + h)))) (22 + h) (g (22 + h) + min x (g (5 + h)))
def sGive (g : Nat → Nat) (h x : Nat) : Nat → Nat := sp (sp (sp (sp g (5 + h) (g (5 + h) - x)) (10 + h) (g (10 + h) + x)) 21 (g 21 + x)) 16 (g 16 - x)
def sAsk (N : Nat) (g : Nat → Nat) : Nat → Nat :=
  if g (g 15) = 1 then sp (sBurn (sp g 17 (min 9 (g 17 + 1))) (sNx N (g 15)) (min 9 (g 17 + 1))) 15 (sNx N (g 15))
  else if g (g 15) = 2 then sp (sp (sBurn g (g 15) (g 16)) 16 (g 16 - min (g 16) (g (5 + g 15)))) 15 (sNx N (g 15))
  else if g (g 15) = 3 ∧ 0 < g (5 + g 15) then sp (sp (sGive g (g 15) 1) 17 (g 17 - 1)) 15 (sNx N (g 15))
  else sp (sp g 16 (min 20 (g 16 + 1))) 15 (sNx N (g 15))
def sNight (N : Nat) (g : Nat → Nat) : Nat → Nat := if 0 < N ∧ g 18 / 2 ^ (g 19 % 7) % 2 = 0 then sp (sAsk N g) 19 (g 19 + 1) else sp g 19 (g 19 + 1)
def sNights (N : Nat) : Nat → (Nat → Nat) → (Nat → Nat)
  | 0, g => g
  | n + 1, g => sNights N n (sNight N g)
def sInv (N : Nat) (g : Nat → Nat) : Prop := N ≤ 5 ∧ (N = 0 → g 15 = 0) ∧ (0 < N → g 15 < N) ∧ g 16 ≤ 20 ∧ g 17 ≤ 9 ∧ g 18 < 128 ∧ (∀ h, h < 5 → g (5 + h) ≤ 99) ∧ (∀ h, h < 5 → g h ≤ 3)
theorem sNx_lt {N h : Nat} (hN : 0 < N) : sNx N h < N := by
  unfold sNx
  split <;> omega
theorem sBurn_inv {N : Nat} {g : Nat → Nat} {h x : Nat} (hh : h < 5) (I : sInv N g) : sInv N (sBurn g h x) := by
  obtain ⟨i1, i0, i2, i3, i4, i5, i6, i7⟩ := I
  have e : ∀ j, j < 20 → j ≠ 10 + h → j ≠ 5 + h → sBurn g h x j = g j := fun j h1 h2 h3 => by
    unfold sBurn
    rw [sp_n _ _ (by omega), sp_n _ _ (by omega), sp_n _ _ h2, sp_n _ _ h3]
  refine ⟨i1, ?_, ?_, ?_, ?_, ?_, fun k hk => ?_, fun k hk => ?_⟩
  · rw [e 15 (by omega) (by omega) (by omega)]; exact i0
  · rw [e 15 (by omega) (by omega) (by omega)]; exact i2
  · rw [e 16 (by omega) (by omega) (by omega)]; exact i3
  · rw [e 17 (by omega) (by omega) (by omega)]; exact i4
  · rw [e 18 (by omega) (by omega) (by omega)]; exact i5
  · by_cases hkh : k = h
    · subst hkh
      unfold sBurn
      rw [sp_n _ _ (by omega), sp_n _ _ (by omega), sp_n _ _ (by omega), sp_s]
      have := i6 k hk
      omega
    · rw [e (5 + k) (by omega) (by omega) (by omega)]; exact i6 k hk
  · rw [e k (by omega) (by omega) (by omega)]; exact i7 k hk
theorem sSet_inv {N : Nat} {g : Nat → Nat} {k x : Nat} (I : sInv N g) (h : (k = 15 ∧ x < N) ∨ (k = 16 ∧ x ≤ 20) ∨ (k = 17 ∧ x ≤ 9) ∨ k = 19 ∨ k = 20 ∨ k = 21 ∨ (k = 18 ∧ x < 128) ∨ (10 ≤ k ∧ k < 15) ∨ (5 ≤ k ∧ k < 10 ∧ x ≤ 99) ∨ (k < 5 ∧ x ≤ 3)) : sInv N (sp g k x) := by
  obtain ⟨i1, i0, i2, i3, i4, i5, i6, i7⟩ := I
  have e : ∀ j, sp g k x j = if j = k then x else g j := fun _ => rfl
  refine ⟨i1, ?_, ?_, ?_, ?_, ?_, fun j hj => ?_, fun j hj => ?_⟩
  · intro hN; have := i0 hN; rw [e]; split <;> omega
  · intro hN; have := i2 hN; rw [e]; split <;> omega
  · rw [e]; split <;> omega
  · rw [e]; split <;> omega
  · rw [e]; split <;> omega
  · have := i6 j hj; rw [e]; split <;> omega
  · have := i7 j hj; rw [e]; split <;> omega
theorem sGive_inv {N : Nat} {g : Nat → Nat} {h x : Nat} (hh : h < 5) (I : sInv N g) : sInv N (sGive g h x) := by
  have h6 := I.2.2.2.2.2.2.1 h hh
  have h3 := I.2.2.2.1
  unfold sGive
  refine sSet_inv (sSet_inv (sSet_inv (sSet_inv I ?_) ?_) ?_) ?_ <;> omega
theorem sAsk_inv {N : Nat} {g : Nat → Nat} (hN : 0 < N) (I : sInv N g) : sInv N (sAsk N g) := by
  have hx := sNx_lt (h := g 15) hN
  have h0 := I.1
  have h1 := I.2.2.1 hN
  have h3 := I.2.2.2.1
  have h4 := I.2.2.2.2.1
  unfold sAsk
  split
  · exact sSet_inv (sBurn_inv (by omega) (sSet_inv I (by omega))) (by omega)
  · split
    · exact sSet_inv (sSet_inv (sBurn_inv (by omega) I) (by omega)) (by omega)
    · split
      · exact sSet_inv (sSet_inv (sGive_inv (by omega) I) (by omega)) (by omega)
      · exact sSet_inv (sSet_inv I (by omega)) (by omega)
theorem sNight_inv {N : Nat} {g : Nat → Nat} (I : sInv N g) : sInv N (sNight N g) := by
  unfold sNight
  split
  · rename_i h
    exact sSet_inv (sAsk_inv h.1 I) (by omega)
  · exact sSet_inv I (by omega)
theorem sNights_inv {N : Nat} : ∀ (n : Nat) (g : Nat → Nat), sInv N g → sInv N (sNights N n g)
  | 0, _, I => I
  | n + 1, g, I => sNights_inv n _ (sNight_inv I)
/-! the reference's row 'now' -/
def EM (v : Nat → Nat → Int32) (N : Nat) (g : Nat → Nat) : Prop := v 0 3 = nI N ∧ ∀ i, i < 22 → v 2 i = nI (g i)
def okM (v v2 : Nat → Nat → Int32) : Prop := (∀ c, c ≠ 2 → v2 c = v c) ∧ ∀ i, 22 ≤ i → v2 2 i = v 2 i
theorem okM.rf {v : Nat → Nat → Int32} : okM v v := ⟨fun _ _ => rfl, fun _ _ => rfl⟩
theorem okM.tr {a b c : Nat → Nat → Int32} (h : okM a b) (k : okM b c) : okM a c := ⟨fun i hi => (k.1 i hi).trans (h.1 i hi), fun i hi => (k.2 i hi).trans (h.2 i hi)⟩
theorem EM.put {v : Nat → Nat → Int32} {N : Nat} {g : Nat → Nat} (h : EM v N g) (k x : Nat) : EM (pw v 2 k (nI x)) N (sp g k x) := by
  refine ⟨by rw [pw_n _ _ _ (by omega)]; exact h.1, fun i hi => ?_⟩
  rw [pw_s]
  unfold upd sp
  split
  · rfl
  · exact h.2 i hi
theorem EM.skip {v : Nat → Nat → Int32} {N : Nat} {g : Nat → Nat} (h : EM v N g) {k : Nat} (x : Nat) (hk : 22 ≤ k) : EM v N (sp g k x) := ⟨h.1, fun i hi => by rw [sp_n _ _ (by omega)]; exact h.2 i hi⟩
theorem okM.put {v : Nat → Nat → Int32} {k : Nat} {x : Int32} (hk : k < 22) : okM v (pw v 2 k x) := ⟨fun c hc => pw_n _ _ _ hc, fun i hi => by rw [pw_s, up_n (by omega)]⟩
theorem M_burns {v : Nat → Nat → Int32} {N : Nat} {g : Nat → Nat} (h : EM v N g) {k x : Nat} (hk : k < 5) (hx : x ≤ 20) (hw : g (5 + k) ≤ 99) : ∃ v2, d_M_burns v (nI k) (nI x) = some (nI (min x (g (5 + k))), v2) ∧ EM v2 N (sBurn g k x) ∧ okM v v2 := by
  have a1 := h.2 (5 + k) (by omega)
  have a2 := h.2 (10 + k) (by omega)
  have a3 := h.2 20 (by omega)
  have g5 : gi (nI (5 + k)) 41 = true := qb_gt (by omega) (by omega)
  have g10 : gi (nI (10 + k)) 41 = true := qb_gt (by omega) (by omega)
  have c5 : (nI (5 + k)).toNatClampNeg = 5 + k := qb_cl (by omega)
  have c10 : (nI (10 + k)).toNatClampNeg = 10 + k := qb_cl (by omega)
  have c20 : (nI 20).toNatClampNeg = 20 := rfl
  refine ⟨pw (pw (pw v 2 (5 + k) (nI (g (5 + k) - min x (g (5 + k))))) 2 (10 + k) (nI (g (10 + k) + min x (g (5 + k))))) 2 20 (nI (g 20 + min x (g (5 + k)))), ?_, (((h.put _ _).put _ _).put _ _).skip _ (by omega), (okM.put (by omega)).tr ((okM.put (by omega)).tr (okM.put (by omega)))⟩
  unfold d_M_burns
  simp only [k_5, k_10, k_20, nI_add, g5, g10, c5, c10, c20, if_true, dl, a1, qp_less (show x < 2147483648 by omega) (show g (5 + k) < 2147483648 by omega), Option.bind_some, pw_s]
  rw [up_n (show 10 + k ≠ 5 + k by omega), a2, up_n (show (20 : Nat) ≠ 10 + k by omega), up_n (show (20 : Nat) ≠ 5 + k by omega), a3, nI_add, nI_add, pk_sub (Nat.min_le_right _ _)]
theorem M_gives {v : Nat → Nat → Int32} {N : Nat} {g : Nat → Nat} (h : EM v N g) {k x : Nat} (hk : k < 5) (hx : x ≤ g (5 + k)) (hw : g (5 + k) ≤ 99) (hh : g 16 ≤ 20) : ∃ v2, d_M_gives v (nI k) (nI x) = some v2 ∧ EM v2 N (sGive g k x) ∧ okM v v2 := by
  have a1 := h.2 (5 + k) (by omega)
  have a2 := h.2 (10 + k) (by omega)
  have a3 := h.2 21 (by omega)
  have a4 := h.2 16 (by omega)
  have g5 : gi (nI (5 + k)) 41 = true := qb_gt (by omega) (by omega)
  have g10 : gi (nI (10 + k)) 41 = true := qb_gt (by omega) (by omega)
  have c5 : (nI (5 + k)).toNatClampNeg = 5 + k := qb_cl (by omega)
  have c10 : (nI (10 + k)).toNatClampNeg = 10 + k := qb_cl (by omega)
  have c21 : (nI 21).toNatClampNeg = 21 := rfl
  have c16 : (nI 16).toNatClampNeg = 16 := rfl
  refine ⟨pw (pw (pw (pw v 2 (5 + k) (nI (g (5 + k) - x))) 2 (10 + k) (nI (g (10 + k) + x))) 2 21 (nI (g 21 + x))) 2 16 (nI (g 16 - x)), ?_, (((h.put _ _).put _ _).put _ _).put _ _, (okM.put (by omega)).tr ((okM.put (by omega)).tr ((okM.put (by omega)).tr (okM.put (by omega))))⟩
  unfold d_M_gives
  simp only [k_5, k_10, k_21, k_16, k_0, nI_add, g5, g10, c5, c10, c21, c16, if_true, dl, a1, pw_s, pk_sub hx]
  rw [up_n (show 10 + k ≠ 5 + k by omega), a2, up_n (show (21 : Nat) ≠ 10 + k by omega), up_n (show (21 : Nat) ≠ 5 + k by omega), a3, up_n (show (16 : Nat) ≠ 21 by omega), up_n (show (16 : Nat) ≠ 10 + k by omega), up_n (show (16 : Nat) ≠ 5 + k by omega), a4, nI_add, nI_add]
  by_cases hc : g 16 ≤ x
  · rw [if_pos ((qb_leI (by omega) (by omega)).mpr hc), Nat.sub_eq_zero_of_le hc]
  · rw [if_neg (fun q => hc ((qb_leI (by omega) (by omega)).mp q)), pk_sub (by omega)]
