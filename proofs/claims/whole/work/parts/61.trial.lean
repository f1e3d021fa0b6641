/-! PURE: trials -/
def sT (g : Nat → Nat) : Nat → Nat := fun i => if 22 ≤ i then 0 else g i
theorem sT_lt {g : Nat → Nat} {i : Nat} (h : i < 22) : sT g i = g i := if_neg (by omega)
theorem sInv.cg {N : Nat} {g g' : Nat → Nat} (I : sInv N g) (e : ∀ i, i < 22 → g' i = g i) : sInv N g' := by
  obtain ⟨i1, i0, i2, i3, i4, i5, i6, i7⟩ := I
  refine ⟨i1, ?_, ?_, ?_, ?_, ?_, fun h hh => ?_, fun h hh => ?_⟩
  · rw [e 15 (by omega)]; exact i0
  · rw [e 15 (by omega)]; exact i2
  · rw [e 16 (by omega)]; exact i3
  · rw [e 17 (by omega)]; exact i4
  · rw [e 18 (by omega)]; exact i5
  · rw [e _ (by omega)]; exact i6 h hh
  · rw [e _ (by omega)]; exact i7 h hh
theorem sT_inv {N : Nat} {g : Nat → Nat} (I : sInv N g) : sInv N (sT g) := I.cg (fun i hi => sT_lt hi)
/-- a city taken over -/
theorem CC_like (c d : Nat → Nat → Int32) : ∃ z, d_CC_becomeLike (sj c d 5) = some z ∧ (∀ i, z (5 + i) = d i) ∧ (∀ j, 4 ≤ j → j ≤ 11 → z 0 j = d 0 j) ∧ (∀ j, j < 5 → z 1 j = d 1 j ∧ z 2 j = d 2 j ∧ z 3 j = d 3 j) := by
  refine ⟨_, rfl, fun i => ?_, fun j h1 h2 => ?_, fun j hj => ⟨?_, ?_, ?_⟩⟩
  · repeat rw [pw_n _ _ _ (by omega)]
    repeat rw [pr_n _ _ (by omega)]
    show (if 5 + i < 5 then _ else d (5 + i - 5)) = d i
    rw [if_neg (by omega), show 5 + i - 5 = i by omega]
  · simp only [dl, pw_s]
    have e : ∀ j, sj c d 5 5 j = d 0 j := fun j => rfl
    simp only [e]
    by_cases q11 : j = 11
    · subst q11; rw [up_s]
    rw [up_n q11]
    by_cases q10 : j = 10
    · subst q10; rw [up_s]
    rw [up_n q10]
    by_cases q9 : j = 9
    · subst q9; rw [up_s]
    rw [up_n q9]
    by_cases q8 : j = 8
    · subst q8; rw [up_s]
    rw [up_n q8]
    by_cases q7 : j = 7
    · subst q7; rw [up_s]
    rw [up_n q7]
    by_cases q6 : j = 6
    · subst q6; rw [up_s]
    rw [up_n q6]
    by_cases q5 : j = 5
    · subst q5; rw [up_s]
    rw [up_n q5]
    by_cases q4 : j = 4
    · subst q4; rw [up_s]
    omega
  · repeat rw [pw_n _ _ _ (by omega)]
    rw [pr_n _ _ (by omega), pr_n _ _ (by omega), pr_s]
    unfold va_cpy
    rw [if_pos (by omega)]
    show d 1 (0 + (j - 0)) = _
    rw [show 0 + (j - 0) = j by omega]
  · repeat rw [pw_n _ _ _ (by omega)]
    rw [pr_n _ _ (by omega), pr_s]
    unfold va_cpy
    rw [if_pos (by omega)]
    show d 2 (0 + (j - 0)) = _
    rw [show 0 + (j - 0) = j by omega]
  · repeat rw [pw_n _ _ _ (by omega)]
    rw [pr_s]
    unfold va_cpy
    rw [if_pos (by omega)]
    show d 3 (0 + (j - 0)) = _
    rw [show 0 + (j - 0) = j by omega]
theorem EC.like {z d : Nat → Nat → Int32} {N : Nat} {g : Nat → Nat} {b q : Nat} (hN : N ≤ 5) (h : EC d N g b q) (e0 : ∀ j, 4 ≤ j → j ≤ 11 → z 0 j = d 0 j) (e1 : ∀ j, j < 5 → z 1 j = d 1 j ∧ z 2 j = d 2 j ∧ z 3 j = d 3 j) : EC z N g b q := by
  obtain ⟨h4, h5, h6, h7, h8, h9, h10, h11, hb, hq, hr⟩ := h
  refine ⟨?_, ?_, ?_, ?_, ?_, ?_, ?_, ?_, hb, hq, fun j hj => ?_⟩
  · rw [e0 4 (by omega) (by omega)]; exact h4
  · rw [e0 5 (by omega) (by omega)]; exact h5
  · rw [e0 6 (by omega) (by omega)]; exact h6
  · rw [e0 7 (by omega) (by omega)]; exact h7
  · rw [e0 8 (by omega) (by omega)]; exact h8
  · rw [e0 9 (by omega) (by omega)]; exact h9
  · rw [e0 10 (by omega) (by omega)]; exact h10
  · rw [e0 11 (by omega) (by omega)]; exact h11
  · rw [(e1 j (by omega)).1, (e1 j (by omega)).2.1, (e1 j (by omega)).2.2]; exact hr j hj
theorem pt_in {u w : Nat → Nat → Int32} {b n i : Nat} (h : i < n) : sh (pt u b n w) b i = w i := by
  unfold sh pt
  rw [if_pos (by omega), show b + i - b = i by omega]
theorem pt_at {u w : Nat → Nat → Int32} {b n j : Nat} (h : b ≤ j) (h2 : j < b + n) : pt u b n w j = w (j - b) := if_pos ⟨h, h2⟩
theorem pt_out {u w : Nat → Nat → Int32} {b n j : Nat} (h : j < b ∨ b + n ≤ j) : pt u b n w j = u j := if_neg (by omega)
theorem A5_fill (u : Nat → Nat → Int32) (x : Int32) : d_A5_fill u x = some (pw (pw (pw (pw (pw u 0 0 x) 0 1 x) 0 2 x) 0 3 x) 0 4 x) := rfl
/-- the trial state of the class, above the state u -/
def TF (u : Nat → Nat → Int32) (N : Nat) (g : Nat → Nat) (b q : Nat) (t : Nat → Nat → Int32) : Prop := EC (sh t 16) N g b q ∧ EB (sh t 16) N g ∧ AgF u t
theorem TF.go {u t : Nat → Nat → Int32} {N : Nat} {g g2 : Nat → Nat} {b q : Nat} (h : TF u N g b q t) {c2 : Nat → Nat → Int32} (h1 : EC c2 N g2 b q) (h2 : EB (sh t 16) N g → EB c2 N g2) : TF u N g2 b q (pt t 16 5 c2) := ⟨h1.cg (fun i hi => pt_in (by omega)), (h2 h.2.1).cg (pt_in (by omega)), h.2.2.pt c2⟩
theorem F_start {u t : Nat → Nat → Int32} {N : Nat} {G : Nat → Nat} (hN : N ≤ 5) (h : EC (sh u 11) N G 0 0) (ha : AgF u t) : ∃ t', d_F_startTrial t = some t' ∧ TF u N (sT G) (G 20) (G 21) t' := by
  have h' : EC (sh t 11) N G 0 0 := h.cg (fun i hi => ha (11 + i) (by omega) (by omega))
  obtain ⟨z, z1, z2, z3, z4⟩ := CC_like (sh t 16) (sh t 11)
  have k11 : AgF u (pt (pt t 16 5 z) 11 5 (sh z 5)) := fun i h1 h2 => by
    by_cases q : 11 ≤ i ∧ i < 16
    · rw [pt_at q.1 (by omega)]
      show z (5 + (i - 11)) = _
      rw [z2]
      show t (11 + (i - 11)) = _
      rw [show 11 + (i - 11) = i by omega]
      exact ha i h1 h2
    · rw [pt_out (by omega), pt_out (by omega)]
      exact ha i h1 h2
  have ez : EC z N G 0 0 := h'.like hN z3 z4
  have e16 : ∀ i, i < 5 → sh (pt (pt t 16 5 z) 11 5 (sh z 5)) 16 i = z i := fun i hi => by
    show pt (pt t 16 5 z) 11 5 (sh z 5) (16 + i) = z i
    rw [pt_out (by omega), pt_at (by omega) (by omega), show 16 + i - 16 = i by omega]
  unfold d_F_startTrial
  rw [z1, Option.bind_some]
  unfold d_C_forgetLoss
  rw [A5_fill, Option.bind_some, Option.bind_some]
  refine ⟨_, rfl, ?_, ?_, k11.pt _⟩
  · obtain ⟨h4, h5, h6, h7, h8, h9, h10, h11, hb, hq, hr⟩ := ez
    have E : ∀ (x : Nat → Nat → Int32) (i : Nat), i < 4 → sh (pt (pt (pt t 16 5 z) 11 5 (sh z 5)) 16 5 (pt (pw (pw (sh (pt (pt t 16 5 z) 11 5 (sh z 5)) 16) 0 10 0) 0 11 0) 4 1 x)) 16 i = pw (pw z 0 10 0) 0 11 0 i := fun x i hi => by
      rw [pt_in (by omega), pt_out (by omega)]
      by_cases q : i = 0
      · subst q
        rw [pw_s, pw_s, pw_s, pw_s, e16 0 (by omega)]
      · rw [pw_n _ _ _ q, pw_n _ _ _ q, pw_n _ _ _ q, pw_n _ _ _ q, e16 i (by omega)]
    refine EC.cg ?_ (E _)
    refine ⟨?_, ?_, ?_, ?_, ?_, ?_, ?_, ?_, by rw [sT_lt (by omega)]; omega, by rw [sT_lt (by omega)]; omega, fun j hj => ?_⟩
    · rw [pw_s, pw_s, up_n (by omega), up_n (by omega)]; exact h4
    · rw [pw_s, pw_s, up_n (by omega), up_n (by omega), sT_lt (by omega)]; exact h5
    · rw [pw_s, pw_s, up_n (by omega), up_n (by omega), sT_lt (by omega)]; exact h6
    · rw [pw_s, pw_s, up_n (by omega), up_n (by omega), sT_lt (by omega)]; exact h7
    · rw [pw_s, pw_s, up_n (by omega), up_n (by omega), sT_lt (by omega)]; exact h8
    · rw [pw_s, pw_s, up_n (by omega), up_n (by omega), sT_lt (by omega)]; exact h9
    · rw [pw_s, pw_s, up_n (by omega), up_s, sT_lt (by omega), Nat.sub_self]; rfl
    · rw [pw_s, up_s, sT_lt (by omega), Nat.sub_self]; rfl
    · rw [pw_n _ _ _ (by omega), pw_n _ _ _ (by omega), pw_n _ _ _ (by omega), pw_n _ _ _ (by omega), pw_n _ _ _ (by omega), pw_n _ _ _ (by omega), sT_lt (by omega), sT_lt (by omega), sT_lt (by omega)]
      exact hr j hj
  · intro j hj
    rw [pt_in (by omega), pt_at (by omega) (by omega)]
    have : sT G (22 + j) = 0 := if_pos (by omega)
    rw [this]
    simp only [Nat.sub_self, pw_s]
    unfold upd
    rcases (show j = 0 ∨ j = 1 ∨ j = 2 ∨ j = 3 ∨ j = 4 by omega) with q | q | q | q | q <;> subst q <;> rfl
/-- the trial state of the reference, above the state v -/
def TM (v : Nat → Nat → Int32) (N : Nat) (g : Nat → Nat) (t : Nat → Nat → Int32) : Prop := EM t N g ∧ AgM v t
theorem TM.go {v t t2 : Nat → Nat → Int32} {N : Nat} {g g2 : Nat → Nat} (h : TM v N g t) (h1 : EM t2 N g2) (h2 : okM t t2) : TM v N g2 t2 := ⟨h1, h.2.tr h2.ag⟩
theorem M_starts_2 (v : Nat → Nat → Int32) : ∀ (f k : Nat) (t : Nat → Nat → Int32), AgM v t → (∀ i, i < k → t 2 i = v 1 i) → k ≤ 41 → 41 - k < f → ∃ t', d_M_starts_2 f t (nI k) = some t' ∧ AgM v t' ∧ (∀ i, i < 41 → t' 2 i = v 1 i) := by
  intro f
  induction f with
  | zero => intro k t _ _ _ hf; omega
  | succ f ih =>
    intro k t ha hk h41 hf
    rw [d_M_starts_2, k_41]
    by_cases hc : 41 ≤ k
    · rw [if_pos ((qb_leI (by omega) (by omega)).mpr hc)]
      exact ⟨t, rfl, ha, fun i hi => hk i (by omega)⟩
    · rw [if_neg (fun z => hc ((qb_leI (by omega) (by omega)).mp z)), qb_gt (by omega) (by omega), qb_gt (by omega) (by omega), if_pos rfl, if_pos rfl, qb_cl (by omega)]
      simp only [dl, k_1, nI_add]
      refine ih (k + 1) _ (fun c h1 h2 h3 => by rw [pw_n _ _ _ h1]; exact ha c h1 h2 h3) (fun i hi => ?_) (by omega) (by omega)
      rw [pw_s]
      by_cases q : i = k
      · subst q
        rw [up_s, ha 1 (by omega) (by omega) (by omega)]
      · rw [up_n q]
        exact hk i (by omega)
theorem M_start {v t : Nat → Nat → Int32} {N : Nat} {G : Nat → Nat} (h3 : v 0 3 = nI N) (hs : ∀ i, i < 22 → v 1 i = nI (G i)) (ha : AgM v t) : ∃ t', d_M_starts t = some t' ∧ TM v N (sT G) t' := by
  obtain ⟨t', e1, e2, e3⟩ := M_starts_2 v FU 0 t ha (fun i hi => by omega) (by omega) (by show 41 - 0 < 10000; omega)
  refine ⟨t', e1, ⟨?_, fun i hi => ?_⟩, e2⟩
  · rw [e2 0 (by omega) (by omega) (by omega)]; exact h3
  · rw [e3 i (by omega), hs i hi, sT_lt hi]
/-- how much goes in nights -/
theorem sNight_mono {N : Nat} {g : Nat → Nat} (I : sInv N g) : g 20 ≤ sNight N g 20 ∧ sNight N g 20 ≤ g 20 + 20 ∧ g 21 ≤ sNight N g 21 ∧ sNight N g 21 ≤ g 21 + 1 ∧ ∀ h, h < 5 → g (22 + h) ≤ sNight N g (22 + h) ∧ sNight N g (22 + h) ≤ g (22 + h) + 20 := by
  unfold sNight
  split
  · rename_i hN
    have h1 := I.2.2.1 hN.1
    have h0 := I.1
    have hx := sNx_lt (h := g 15) hN.1
    have h3 := I.2.2.2.1
    have eb : ∀ (g : Nat → Nat) (k x : Nat), k < 5 → sBurn g k x 20 = g 20 + min x (g (5 + k)) ∧ sBurn g k x 21 = g 21 ∧ ∀ h, h < 5 → sBurn g k x (22 + h) = if h = k then g (22 + h) + min x (g (5 + h)) else g (22 + h) := fun g k x hk => by
      unfold sBurn
      refine ⟨?_, ?_, fun h hh => ?_⟩
      · rw [sp_n _ _ (by omega), sp_s]
      · rw [sp_n _ _ (by omega), sp_n _ _ (by omega), sp_n _ _ (by omega), sp_n _ _ (by omega)]
      · by_cases q : h = k
        · subst q; rw [sp_s, if_pos rfl]
        · rw [sp_n _ _ (by omega), sp_n _ _ (by omega), sp_n _ _ (by omega), sp_n _ _ (by omega), if_neg q]
    have eg : ∀ (g : Nat → Nat) (k x : Nat), k < 5 → sGive g k x 20 = g 20 ∧ sGive g k x 21 = g 21 + x ∧ ∀ h, h < 5 → sGive g k x (22 + h) = g (22 + h) := fun g k x hk => by
      unfold sGive
      refine ⟨?_, ?_, fun h hh => ?_⟩
      · rw [sp_n _ _ (by omega), sp_n _ _ (by omega), sp_n _ _ (by omega), sp_n _ _ (by omega)]
      · rw [sp_n _ _ (by omega), sp_s]
      · rw [sp_n _ _ (by omega), sp_n _ _ (by omega), sp_n _ _ (by omega), sp_n _ _ (by omega)]
    rw [sp_n _ _ (by omega), sp_n _ _ (by omega)]
    unfold sAsk
    split
    · obtain ⟨b1, b2, b3⟩ := eb (sp g 17 (min 9 (g 17 + 1))) (sNx N (g 15)) (min 9 (g 17 + 1)) (by omega)
      rw [sp_n _ _ (by omega), sp_n _ _ (by omega), b1, b2, show sp g 17 (min 9 (g 17 + 1)) 20 = g 20 from sp_n _ _ (by omega), show sp g 17 (min 9 (g 17 + 1)) 21 = g 21 from sp_n _ _ (by omega)]
      refine ⟨by omega, by omega, by omega, by omega, fun h hh => ?_⟩
      rw [sp_n _ _ (by omega), sp_n _ _ (by omega), b3 h hh, sp_n _ _ (by omega)]
      split <;> omega
    · split
      · obtain ⟨b1, b2, b3⟩ := eb g (g 15) (g 16) (by omega)
        rw [sp_n _ _ (by omega), sp_n _ _ (by omega), sp_n _ _ (by omega), sp_n _ _ (by omega), b1, b2]
        refine ⟨by omega, by omega, by omega, by omega, fun h hh => ?_⟩
        rw [sp_n _ _ (by omega), sp_n _ _ (by omega), sp_n _ _ (by omega), b3 h hh]
        split <;> omega
      · split
        · obtain ⟨b1, b2, b3⟩ := eg g (g 15) 1 (by omega)
          rw [sp_n _ _ (by omega), sp_n _ _ (by omega), sp_n _ _ (by omega), sp_n _ _ (by omega), b1, b2]
          refine ⟨by omega, by omega, by omega, by omega, fun h hh => ?_⟩
          rw [sp_n _ _ (by omega), sp_n _ _ (by omega), sp_n _ _ (by omega), b3 h hh]
          omega
        · rw [sp_n _ _ (by omega), sp_n _ _ (by omega), sp_n _ _ (by omega), sp_n _ _ (by omega)]
          refine ⟨by omega, by omega, by omega, by omega, fun h hh => ?_⟩
          rw [sp_n _ _ (by omega), sp_n _ _ (by omega), sp_n _ _ (by omega)]
          omega
  · rw [sp_n _ _ (by omega), sp_n _ _ (by omega)]
    refine ⟨by omega, by omega, by omega, by omega, fun h hh => ?_⟩
    rw [sp_n _ _ (by omega)]
    omega
theorem sNights_mono {N : Nat} : ∀ (n : Nat) (g : Nat → Nat), sInv N g → g 20 ≤ sNights N n g 20 ∧ sNights N n g 20 ≤ g 20 + 20 * n ∧ g 21 ≤ sNights N n g 21 ∧ sNights N n g 21 ≤ g 21 + n ∧ ∀ h, h < 5 → g (22 + h) ≤ sNights N n g (22 + h) ∧ sNights N n g (22 + h) ≤ g (22 + h) + 20 * n := by
  intro n
  induction n with
  | zero => intro g _; exact ⟨Nat.le_refl _, Nat.le_refl _, Nat.le_refl _, Nat.le_refl _, fun h _ => ⟨Nat.le_refl _, Nat.le_refl _⟩⟩
  | succ n ih =>
    intro g I
    have a := ih (sNight N g) (sNight_inv I)
    have b := sNight_mono I
    rw [sNights]
    refine ⟨by omega, by omega, by omega, by omega, fun h hh => ?_⟩
    have c := a.2.2.2.2 h hh
    have d := b.2.2.2.2 h hh
    omega
theorem sNights_succ {N : Nat} : ∀ (n : Nat) (g : Nat → Nat), sNights N (n + 1) g = sNight N (sNights N n g) := by
  intro n
  induction n with
  | zero => intro g; rfl
  | succ n ih => intro g; rw [sNights, ih]; rfl
