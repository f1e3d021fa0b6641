/-! PURE: the class's city; b, q: what its own counts of burnt and given began behind -/
def EC (c : Nat → Nat → Int32) (N : Nat) (g : Nat → Nat) (b q : Nat) : Prop := c 0 4 = nI N ∧ c 0 5 = nI (g 15) ∧ c 0 6 = nI (g 16) ∧ c 0 7 = nI (g 17) ∧ c 0 8 = nI (g 18) ∧ c 0 9 = nI (g 19) ∧ c 0 10 = nI (g 20 - b) ∧ c 0 11 = nI (g 21 - q) ∧ b ≤ g 20 ∧ q ≤ g 21 ∧ ∀ h, h < N → c 1 h = nI (g h) ∧ c 2 h = nI (g (5 + h)) ∧ c 3 h = nI (g (10 + h))
def EB (c : Nat → Nat → Int32) (N : Nat) (g : Nat → Nat) : Prop := ∀ h, h < N → c 4 h = nI (g (22 + h))
theorem EC.f5 {c : Nat → Nat → Int32} {N : Nat} {g : Nat → Nat} {b q : Nat} (hN : N ≤ 5) (h : EC c N g b q) (x : Nat) : EC (pw c 0 5 (nI x)) N (sp g 15 x) b q := by
  obtain ⟨h4, h5, h6, h7, h8, h9, h10, h11, hb, hq, hr⟩ := h
  refine ⟨?_, ?_, ?_, ?_, ?_, ?_, ?_, ?_, ?_, ?_, fun j hj => ⟨?_, ?_, ?_⟩⟩
  · rw [pw_s, up_n (by omega)]; exact h4
  · rw [pw_s, up_s, sp_s]
  · rw [pw_s, up_n (by omega), sp_n _ _ (by omega)]; exact h6
  · rw [pw_s, up_n (by omega), sp_n _ _ (by omega)]; exact h7
  · rw [pw_s, up_n (by omega), sp_n _ _ (by omega)]; exact h8
  · rw [pw_s, up_n (by omega), sp_n _ _ (by omega)]; exact h9
  · rw [pw_s, up_n (by omega), sp_n _ _ (by omega)]; exact h10
  · rw [pw_s, up_n (by omega), sp_n _ _ (by omega)]; exact h11
  · rw [sp_n _ _ (by omega)]; exact hb
  · rw [sp_n _ _ (by omega)]; exact hq
  · rw [pw_n _ _ _ (by omega), sp_n _ _ (by omega)]; exact (hr j hj).1
  · rw [pw_n _ _ _ (by omega), sp_n _ _ (by omega)]; exact (hr j hj).2.1
  · rw [pw_n _ _ _ (by omega), sp_n _ _ (by omega)]; exact (hr j hj).2.2
theorem EC.f6 {c : Nat → Nat → Int32} {N : Nat} {g : Nat → Nat} {b q : Nat} (hN : N ≤ 5) (h : EC c N g b q) (x : Nat) : EC (pw c 0 6 (nI x)) N (sp g 16 x) b q := by
  obtain ⟨h4, h5, h6, h7, h8, h9, h10, h11, hb, hq, hr⟩ := h
  refine ⟨?_, ?_, ?_, ?_, ?_, ?_, ?_, ?_, ?_, ?_, fun j hj => ⟨?_, ?_, ?_⟩⟩
  · rw [pw_s, up_n (by omega)]; exact h4
  · rw [pw_s, up_n (by omega), sp_n _ _ (by omega)]; exact h5
  · rw [pw_s, up_s, sp_s]
  · rw [pw_s, up_n (by omega), sp_n _ _ (by omega)]; exact h7
  · rw [pw_s, up_n (by omega), sp_n _ _ (by omega)]; exact h8
  · rw [pw_s, up_n (by omega), sp_n _ _ (by omega)]; exact h9
  · rw [pw_s, up_n (by omega), sp_n _ _ (by omega)]; exact h10
  · rw [pw_s, up_n (by omega), sp_n _ _ (by omega)]; exact h11
  · rw [sp_n _ _ (by omega)]; exact hb
  · rw [sp_n _ _ (by omega)]; exact hq
  · rw [pw_n _ _ _ (by omega), sp_n _ _ (by omega)]; exact (hr j hj).1
  · rw [pw_n _ _ _ (by omega), sp_n _ _ (by omega)]; exact (hr j hj).2.1
  · rw [pw_n _ _ _ (by omega), sp_n _ _ (by omega)]; exact (hr j hj).2.2
theorem EC.f7 {c : Nat → Nat → Int32} {N : Nat} {g : Nat → Nat} {b q : Nat} (hN : N ≤ 5) (h : EC c N g b q) (x : Nat) : EC (pw c 0 7 (nI x)) N (sp g 17 x) b q := by
  obtain ⟨h4, h5, h6, h7, h8, h9, h10, h11, hb, hq, hr⟩ := h
  refine ⟨?_, ?_, ?_, ?_, ?_, ?_, ?_, ?_, ?_, ?_, fun j hj => ⟨?_, ?_, ?_⟩⟩
  · rw [pw_s, up_n (by omega)]; exact h4
  · rw [pw_s, up_n (by omega), sp_n _ _ (by omega)]; exact h5
  · rw [pw_s, up_n (by omega), sp_n _ _ (by omega)]; exact h6
  · rw [pw_s, up_s, sp_s]
  · rw [pw_s, up_n (by omega), sp_n _ _ (by omega)]; exact h8
  · rw [pw_s, up_n (by omega), sp_n _ _ (by omega)]; exact h9
  · rw [pw_s, up_n (by omega), sp_n _ _ (by omega)]; exact h10
  · rw [pw_s, up_n (by omega), sp_n _ _ (by omega)]; exact h11
  · rw [sp_n _ _ (by omega)]; exact hb
  · rw [sp_n _ _ (by omega)]; exact hq
  · rw [pw_n _ _ _ (by omega), sp_n _ _ (by omega)]; exact (hr j hj).1
  · rw [pw_n _ _ _ (by omega), sp_n _ _ (by omega)]; exact (hr j hj).2.1
  · rw [pw_n _ _ _ (by omega), sp_n _ _ (by omega)]; exact (hr j hj).2.2
theorem EC.f8 {c : Nat → Nat → Int32} {N : Nat} {g : Nat → Nat} {b q : Nat} (hN : N ≤ 5) (h : EC c N g b q) (x : Nat) : EC (pw c 0 8 (nI x)) N (sp g 18 x) b q := by
  obtain ⟨h4, h5, h6, h7, h8, h9, h10, h11, hb, hq, hr⟩ := h
  refine ⟨?_, ?_, ?_, ?_, ?_, ?_, ?_, ?_, ?_, ?_, fun j hj => ⟨?_, ?_, ?_⟩⟩
  · rw [pw_s, up_n (by omega)]; exact h4
  · rw [pw_s, up_n (by omega), sp_n _ _ (by omega)]; exact h5
  · rw [pw_s, up_n (by omega), sp_n _ _ (by omega)]; exact h6
  · rw [pw_s, up_n (by omega), sp_n _ _ (by omega)]; exact h7
  · rw [pw_s, up_s, sp_s]
  · rw [pw_s, up_n (by omega), sp_n _ _ (by omega)]; exact h9
  · rw [pw_s, up_n (by omega), sp_n _ _ (by omega)]; exact h10
  · rw [pw_s, up_n (by omega), sp_n _ _ (by omega)]; exact h11
  · rw [sp_n _ _ (by omega)]; exact hb
  · rw [sp_n _ _ (by omega)]; exact hq
  · rw [pw_n _ _ _ (by omega), sp_n _ _ (by omega)]; exact (hr j hj).1
  · rw [pw_n _ _ _ (by omega), sp_n _ _ (by omega)]; exact (hr j hj).2.1
  · rw [pw_n _ _ _ (by omega), sp_n _ _ (by omega)]; exact (hr j hj).2.2
theorem EC.f9 {c : Nat → Nat → Int32} {N : Nat} {g : Nat → Nat} {b q : Nat} (hN : N ≤ 5) (h : EC c N g b q) (x : Nat) : EC (pw c 0 9 (nI x)) N (sp g 19 x) b q := by
  obtain ⟨h4, h5, h6, h7, h8, h9, h10, h11, hb, hq, hr⟩ := h
  refine ⟨?_, ?_, ?_, ?_, ?_, ?_, ?_, ?_, ?_, ?_, fun j hj => ⟨?_, ?_, ?_⟩⟩
  · rw [pw_s, up_n (by omega)]; exact h4
  · rw [pw_s, up_n (by omega), sp_n _ _ (by omega)]; exact h5
  · rw [pw_s, up_n (by omega), sp_n _ _ (by omega)]; exact h6
  · rw [pw_s, up_n (by omega), sp_n _ _ (by omega)]; exact h7
  · rw [pw_s, up_n (by omega), sp_n _ _ (by omega)]; exact h8
  · rw [pw_s, up_s, sp_s]
  · rw [pw_s, up_n (by omega), sp_n _ _ (by omega)]; exact h10
  · rw [pw_s, up_n (by omega), sp_n _ _ (by omega)]; exact h11
  · rw [sp_n _ _ (by omega)]; exact hb
  · rw [sp_n _ _ (by omega)]; exact hq
  · rw [pw_n _ _ _ (by omega), sp_n _ _ (by omega)]; exact (hr j hj).1
  · rw [pw_n _ _ _ (by omega), sp_n _ _ (by omega)]; exact (hr j hj).2.1
  · rw [pw_n _ _ _ (by omega), sp_n _ _ (by omega)]; exact (hr j hj).2.2
theorem EC.f10 {c : Nat → Nat → Int32} {N : Nat} {g : Nat → Nat} {b q : Nat} (hN : N ≤ 5) (h : EC c N g b q) (x : Nat) (hy : b ≤ x) : EC (pw c 0 10 (nI (x - b))) N (sp g 20 x) b q := by
  obtain ⟨h4, h5, h6, h7, h8, h9, h10, h11, hb, hq, hr⟩ := h
  refine ⟨?_, ?_, ?_, ?_, ?_, ?_, ?_, ?_, ?_, ?_, fun j hj => ⟨?_, ?_, ?_⟩⟩
  · rw [pw_s, up_n (by omega)]; exact h4
  · rw [pw_s, up_n (by omega), sp_n _ _ (by omega)]; exact h5
  · rw [pw_s, up_n (by omega), sp_n _ _ (by omega)]; exact h6
  · rw [pw_s, up_n (by omega), sp_n _ _ (by omega)]; exact h7
  · rw [pw_s, up_n (by omega), sp_n _ _ (by omega)]; exact h8
  · rw [pw_s, up_n (by omega), sp_n _ _ (by omega)]; exact h9
  · rw [pw_s, up_s, sp_s]
  · rw [pw_s, up_n (by omega), sp_n _ _ (by omega)]; exact h11
  · rw [sp_s]; exact hy
  · rw [sp_n _ _ (by omega)]; exact hq
  · rw [pw_n _ _ _ (by omega), sp_n _ _ (by omega)]; exact (hr j hj).1
  · rw [pw_n _ _ _ (by omega), sp_n _ _ (by omega)]; exact (hr j hj).2.1
  · rw [pw_n _ _ _ (by omega), sp_n _ _ (by omega)]; exact (hr j hj).2.2
theorem EC.f11 {c : Nat → Nat → Int32} {N : Nat} {g : Nat → Nat} {b q : Nat} (hN : N ≤ 5) (h : EC c N g b q) (x : Nat) (hy : q ≤ x) : EC (pw c 0 11 (nI (x - q))) N (sp g 21 x) b q := by
  obtain ⟨h4, h5, h6, h7, h8, h9, h10, h11, hb, hq, hr⟩ := h
  refine ⟨?_, ?_, ?_, ?_, ?_, ?_, ?_, ?_, ?_, ?_, fun j hj => ⟨?_, ?_, ?_⟩⟩
  · rw [pw_s, up_n (by omega)]; exact h4
  · rw [pw_s, up_n (by omega), sp_n _ _ (by omega)]; exact h5
  · rw [pw_s, up_n (by omega), sp_n _ _ (by omega)]; exact h6
  · rw [pw_s, up_n (by omega), sp_n _ _ (by omega)]; exact h7
  · rw [pw_s, up_n (by omega), sp_n _ _ (by omega)]; exact h8
  · rw [pw_s, up_n (by omega), sp_n _ _ (by omega)]; exact h9
  · rw [pw_s, up_n (by omega), sp_n _ _ (by omega)]; exact h10
  · rw [pw_s, up_s, sp_s]
  · rw [sp_n _ _ (by omega)]; exact hb
  · rw [sp_s]; exact hy
  · rw [pw_n _ _ _ (by omega), sp_n _ _ (by omega)]; exact (hr j hj).1
  · rw [pw_n _ _ _ (by omega), sp_n _ _ (by omega)]; exact (hr j hj).2.1
  · rw [pw_n _ _ _ (by omega), sp_n _ _ (by omega)]; exact (hr j hj).2.2
theorem EC.k {c : Nat → Nat → Int32} {N : Nat} {g : Nat → Nat} {b q k : Nat} (hN : N ≤ 5) (hk : k < N) (h : EC c N g b q) (x : Nat) : EC (pw c 1 k (nI x)) N (sp g k x) b q := by
  obtain ⟨h4, h5, h6, h7, h8, h9, h10, h11, hb, hq, hr⟩ := h
  refine ⟨?_, ?_, ?_, ?_, ?_, ?_, ?_, ?_, ?_, ?_, fun j hj => ⟨?_, ?_, ?_⟩⟩
  · rw [pw_n _ _ _ (by omega)]; exact h4
  · rw [pw_n _ _ _ (by omega), sp_n _ _ (by omega)]; exact h5
  · rw [pw_n _ _ _ (by omega), sp_n _ _ (by omega)]; exact h6
  · rw [pw_n _ _ _ (by omega), sp_n _ _ (by omega)]; exact h7
  · rw [pw_n _ _ _ (by omega), sp_n _ _ (by omega)]; exact h8
  · rw [pw_n _ _ _ (by omega), sp_n _ _ (by omega)]; exact h9
  · rw [pw_n _ _ _ (by omega), sp_n _ _ (by omega)]; exact h10
  · rw [pw_n _ _ _ (by omega), sp_n _ _ (by omega)]; exact h11
  · rw [sp_n _ _ (by omega)]; exact hb
  · rw [sp_n _ _ (by omega)]; exact hq
  · rw [pw_s]
    by_cases e : j = k
    · subst e; rw [up_s, sp_s]
    · rw [up_n e, sp_n _ _ (by omega)]; exact (hr j hj).1
  · rw [pw_n _ _ _ (by omega), sp_n _ _ (by omega)]; exact (hr j hj).2.1
  · rw [pw_n _ _ _ (by omega), sp_n _ _ (by omega)]; exact (hr j hj).2.2
theorem EC.w {c : Nat → Nat → Int32} {N : Nat} {g : Nat → Nat} {b q k : Nat} (hN : N ≤ 5) (hk : k < N) (h : EC c N g b q) (x : Nat) : EC (pw c 2 k (nI x)) N (sp g (5 + k) x) b q := by
  obtain ⟨h4, h5, h6, h7, h8, h9, h10, h11, hb, hq, hr⟩ := h
  refine ⟨?_, ?_, ?_, ?_, ?_, ?_, ?_, ?_, ?_, ?_, fun j hj => ⟨?_, ?_, ?_⟩⟩
  · rw [pw_n _ _ _ (by omega)]; exact h4
  · rw [pw_n _ _ _ (by omega), sp_n _ _ (by omega)]; exact h5
  · rw [pw_n _ _ _ (by omega), sp_n _ _ (by omega)]; exact h6
  · rw [pw_n _ _ _ (by omega), sp_n _ _ (by omega)]; exact h7
  · rw [pw_n _ _ _ (by omega), sp_n _ _ (by omega)]; exact h8
  · rw [pw_n _ _ _ (by omega), sp_n _ _ (by omega)]; exact h9
  · rw [pw_n _ _ _ (by omega), sp_n _ _ (by omega)]; exact h10
  · rw [pw_n _ _ _ (by omega), sp_n _ _ (by omega)]; exact h11
  · rw [sp_n _ _ (by omega)]; exact hb
  · rw [sp_n _ _ (by omega)]; exact hq
  · rw [pw_n _ _ _ (by omega), sp_n _ _ (by omega)]; exact (hr j hj).1
  · rw [pw_s]
    by_cases e : j = k
    · subst e; rw [up_s, sp_s]
    · rw [up_n e, sp_n _ _ (by omega)]; exact (hr j hj).2.1
  · rw [pw_n _ _ _ (by omega), sp_n _ _ (by omega)]; exact (hr j hj).2.2
theorem EC.l {c : Nat → Nat → Int32} {N : Nat} {g : Nat → Nat} {b q k : Nat} (hN : N ≤ 5) (hk : k < N) (h : EC c N g b q) (x : Nat) : EC (pw c 3 k (nI x)) N (sp g (10 + k) x) b q := by
  obtain ⟨h4, h5, h6, h7, h8, h9, h10, h11, hb, hq, hr⟩ := h
  refine ⟨?_, ?_, ?_, ?_, ?_, ?_, ?_, ?_, ?_, ?_, fun j hj => ⟨?_, ?_, ?_⟩⟩
  · rw [pw_n _ _ _ (by omega)]; exact h4
  · rw [pw_n _ _ _ (by omega), sp_n _ _ (by omega)]; exact h5
  · rw [pw_n _ _ _ (by omega), sp_n _ _ (by omega)]; exact h6
  · rw [pw_n _ _ _ (by omega), sp_n _ _ (by omega)]; exact h7
  · rw [pw_n _ _ _ (by omega), sp_n _ _ (by omega)]; exact h8
  · rw [pw_n _ _ _ (by omega), sp_n _ _ (by omega)]; exact h9
  · rw [pw_n _ _ _ (by omega), sp_n _ _ (by omega)]; exact h10
  · rw [pw_n _ _ _ (by omega), sp_n _ _ (by omega)]; exact h11
  · rw [sp_n _ _ (by omega)]; exact hb
  · rw [sp_n _ _ (by omega)]; exact hq
  · rw [pw_n _ _ _ (by omega), sp_n _ _ (by omega)]; exact (hr j hj).1
  · rw [pw_n _ _ _ (by omega), sp_n _ _ (by omega)]; exact (hr j hj).2.1
  · rw [pw_s]
    by_cases e : j = k
    · subst e; rw [up_s, sp_s]
    · rw [up_n e, sp_n _ _ (by omega)]; exact (hr j hj).2.2
theorem EC.r4 {c : Nat → Nat → Int32} {N : Nat} {g : Nat → Nat} {b q k : Nat} (h : EC c N g b q) (x : Int32) : EC (pw c 4 k x) N g b q := by
  obtain ⟨h4, h5, h6, h7, h8, h9, h10, h11, hb, hq, hr⟩ := h
  have e : ∀ r, r ≠ 4 → pw c 4 k x r = c r := fun r hr => pw_n _ _ _ hr
  unfold EC
  rw [e 0 (by omega), e 1 (by omega), e 2 (by omega), e 3 (by omega)]
  exact ⟨h4, h5, h6, h7, h8, h9, h10, h11, hb, hq, hr⟩
theorem EC.skip {c : Nat → Nat → Int32} {N : Nat} {g : Nat → Nat} {b q k : Nat} (hN : N ≤ 5) (h : EC c N g b q) (x : Nat) (hk : 22 ≤ k) : EC c N (sp g k x) b q := by
  obtain ⟨h4, h5, h6, h7, h8, h9, h10, h11, hb, hq, hr⟩ := h
  have e : ∀ r, r < 22 → sp g k x r = g r := fun r hr => sp_n _ _ (by omega)
  refine ⟨h4, ?_, ?_, ?_, ?_, ?_, ?_, ?_, ?_, ?_, fun j hj => ?_⟩
  · rw [e 15 (by omega)]; exact h5
  · rw [e 16 (by omega)]; exact h6
  · rw [e 17 (by omega)]; exact h7
  · rw [e 18 (by omega)]; exact h8
  · rw [e 19 (by omega)]; exact h9
  · rw [e 20 (by omega)]; exact h10
  · rw [e 21 (by omega)]; exact h11
  · rw [e 20 (by omega)]; exact hb
  · rw [e 21 (by omega)]; exact hq
  · rw [e j (by omega), e (5 + j) (by omega), e (10 + j) (by omega)]; exact hr j hj
theorem EB.f {c : Nat → Nat → Int32} {N : Nat} {g : Nat → Nat} (h : EB c N g) {r k i x : Nat} {y : Int32} (hr : r ≠ 4) (hi : i < 22) : EB (pw c r k y) N (sp g i x) := fun j hj => by rw [pw_n _ _ _ (Ne.symm hr), sp_n _ _ (by omega)]; exact h j hj
theorem C_has {c : Nat → Nat → Int32} {N : Nat} (h4 : c 0 4 = nI N) {k : Nat} (hN : N ≤ 5) (hk : k < 2147483648) : d_C_has c (nI k) = some (if k < N then 1 else 0) := by
  unfold d_C_has
  rw [if_neg (nI_pos (by omega)), h4]
  by_cases h : k < N
  · rw [if_neg (fun q => by have := (qb_leI (by omega) (by omega)).mp q; omega), if_pos h]
  · rw [if_pos ((qb_leI (by omega) (by omega)).mpr (by omega)), if_neg h]
theorem C_burn {c : Nat → Nat → Int32} {N : Nat} {g : Nat → Nat} {b q : Nat} (hN : N ≤ 5) (h : EC c N g b q) {k x : Nat} (hk : k < N) (hx : x ≤ 20) (hw : g (5 + k) ≤ 99) : ∃ c2, d_C_burn c (nI k) (nI x) = some (nI (min x (g (5 + k))), c2) ∧ EC c2 N (sBurn g k x) b q ∧ (EB c N g → EB c2 N (sBurn g k x)) := by
  have hr := h.2.2.2.2.2.2.2.2.2.2 k hk
  have h10 := h.2.2.2.2.2.2.1
  have hb := h.2.2.2.2.2.2.2.2.1
  have g5 : gi (nI k) 5 = true := qb_gt (by omega) (by omega)
  have ck : (nI k).toNatClampNeg = k := qb_cl (by omega)
  refine ⟨pw (pw (pw (pw c 2 k (nI (g (5 + k) - min x (g (5 + k))))) 3 k (nI (g (10 + k) + min x (g (5 + k))))) 4 k (c 4 k + nI (min x (g (5 + k))))) 0 10 (nI (g 20 + min x (g (5 + k)) - b)), ?_, ?_, ?_⟩
  · unfold d_C_burn
    simp only [g5, ck, if_true, dl, hr.2.1, hr.2.2, h10, qp_min (show x < 2147483648 by omega) (show g (5 + k) < 2147483648 by omega), Option.bind_some, nI_add, pk_sub (Nat.min_le_right x (g (5 + k)))]
    rw [show g 20 - b + min x (g (5 + k)) = g 20 + min x (g (5 + k)) - b by omega]
  · have e1 := (h.w hN hk (g (5 + k) - min x (g (5 + k)))).l hN hk (g (10 + k) + min x (g (5 + k)))
    exact ((e1.r4 (k := k) (c 4 k + nI (min x (g (5 + k))))).f10 hN (g 20 + min x (g (5 + k))) (by omega)).skip hN (k := 22 + k) _ (by omega)
  · intro hB j hj
    unfold sBurn
    rw [pw_n _ _ _ (by omega), pw_s, pw_n _ _ _ (by omega), pw_n _ _ _ (by omega)]
    by_cases e : j = k
    · subst e
      rw [up_s, sp_s, hB j hj, nI_add]
    · rw [up_n e, sp_n _ _ (by omega), sp_n _ _ (by omega), sp_n _ _ (by omega), sp_n _ _ (by omega)]
      exact hB j hj
theorem C_give {c : Nat → Nat → Int32} {N : Nat} {g : Nat → Nat} {b q : Nat} (hN : N ≤ 5) (h : EC c N g b q) {k x : Nat} (hk : k < N) (hx : x ≤ g (5 + k)) (hw : g (5 + k) ≤ 99) (hh : g 16 ≤ 20) : ∃ c2, d_C_give c (nI k) (nI x) = some c2 ∧ EC c2 N (sGive g k x) b q ∧ (EB c N g → EB c2 N (sGive g k x)) := by
  have hr := h.2.2.2.2.2.2.2.2.2.2 k hk
  have h6 := h.2.2.1
  have h11 := h.2.2.2.2.2.2.2.1
  have hq := h.2.2.2.2.2.2.2.2.2.1
  have g5 : gi (nI k) 5 = true := qb_gt (by omega) (by omega)
  have ck : (nI k).toNatClampNeg = k := qb_cl (by omega)
  refine ⟨pw (pw (pw (pw c 2 k (nI (g (5 + k) - x))) 3 k (nI (g (10 + k) + x))) 0 11 (nI (g 21 + x - q))) 0 6 (nI (g 16 - x)), ?_, ?_, ?_⟩
  · unfold d_C_give
    simp only [k_0, g5, ck, if_true, dl, hr.2.1, hr.2.2, h6, h11, qp_max0 (show g 16 < 1073741824 by omega) (show x < 1073741824 by omega), Option.bind_some, nI_add, pk_sub hx]
    rw [show g 21 - q + x = g 21 + x - q by omega]
  · have e1 := (h.w hN hk (g (5 + k) - x)).l hN hk (g (10 + k) + x)
    exact (e1.f11 hN (g 21 + x) (by omega)).f6 hN (g 16 - x)
  · intro hB
    exact (((hB.f (by omega) (by omega)).f (by omega) (by omega)).f (by omega) (by omega)).f (by omega) (by omega)
