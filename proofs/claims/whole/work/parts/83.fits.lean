/-! PURE: who said what -/
theorem sNight_kind {N : Nat} {g : Nat → Nat} (I : sInv N g) {i : Nat} (hi : i < 5) : sNight N g i = g i := by
  unfold sNight
  split
  · rename_i hN
    have h1 := I.2.2.1 hN.1
    have h0 := I.1
    have hx := sNx_lt (h := g 15) hN.1
    have eb : ∀ (g : Nat → Nat) (k x : Nat), k < 5 → sBurn g k x i = g i := fun g k x hk => by
      unfold sBurn
      rw [sp_n _ _ (by omega), sp_n _ _ (by omega), sp_n _ _ (by omega), sp_n _ _ (by omega)]
    have eg : ∀ (g : Nat → Nat) (k x : Nat), k < 5 → sGive g k x i = g i := fun g k x hk => by
      unfold sGive
      rw [sp_n _ _ (by omega), sp_n _ _ (by omega), sp_n _ _ (by omega), sp_n _ _ (by omega)]
    rw [sp_n _ _ (by omega)]
    unfold sAsk
    split
    · rw [sp_n _ _ (by omega), eb _ _ _ (by omega), sp_n _ _ (by omega)]
    · split
      · rw [sp_n _ _ (by omega), sp_n _ _ (by omega), eb _ _ _ (by omega)]
      · split
        · rw [sp_n _ _ (by omega), sp_n _ _ (by omega), eg _ _ _ (by omega)]
        · rw [sp_n _ _ (by omega), sp_n _ _ (by omega)]
  · rw [sp_n _ _ (by omega)]
theorem sNights_kind {N : Nat} : ∀ (n : Nat) (g : Nat → Nat), sInv N g → ∀ i, i < 5 → sNights N n g i = g i := by
  intro n
  induction n with
  | zero => intro g _ i _; rfl
  | succ n ih => intro g I i hi; rw [sNights, ih _ (sNight_inv I) i hi, sNight_kind I hi]
/-- worth of house h behind k nights, by the kinds of number m -/
def sW (N : Nat) (G : Nat → Nat) (m h k : Nat) : Nat := sNights N k (sK N m (sT G)) (5 + h)
theorem sW_le {N m h k : Nat} {G : Nat → Nat} (I : sInv N G) (hh : h < 5) : sW N G m h k ≤ 99 := (sNights_inv k _ (sK_inv (m := m) (sT_inv I))).2.2.2.2.2.2.1 h hh
theorem TF.w55 {u t : Nat → Nat → Int32} {N b q : Nat} {g : Nat → Nat} (h : TF u N g b q t) {d : Nat} (hd : d = 55 ∨ d = 56) (j : Nat) (x : Int32) : TF u N g b q (pw t d j x) := ⟨h.1.cg (fun i hi => pw_n _ _ _ (by omega)), h.2.1.cg (pw_n _ _ _ (by omega)), fun c c1 c2 => by rw [pw_n _ _ _ (by omega)]; exact h.2.2 c c1 c2⟩
theorem slot_ {h k : Nat} (hk : 1 ≤ k) : d_P_slot (nI h) (nI k) = some (nI (9 * h + k - 1)) := by
  unfold d_P_slot
  rw [k_9, k_1, pk_mul, nI_add, pk_sub (by omega), Nat.mul_comm]
theorem F_try_in {u : Nat → Nat → Int32} {N m k b q : Nat} {G g : Nat → Nat} (hN : N ≤ 5) (hk : 1 ≤ k) (hk9 : k ≤ 9) (hg : ∀ h, h < N → g (5 + h) = sW N G m h k) (kF : (Nat → Nat → Int32) → Int32 → Int32 → Option (Nat → Nat → Int32)) (x2 : Int32) : ∀ (f h : Nat) (t : Nat → Nat → Int32), TF u N g b q t → (∀ h' k', h' < N → 1 ≤ k' → (k' < k ∨ (k' = k ∧ h' < h)) → t 55 (9 * h' + k' - 1) = nI (sW N G m h' k')) → h ≤ N → N - h < f → ∃ t', d_F_tryKinds_35 kF f t x2 (nI k) (nI h) = kF t' x2 (nI (k + 1)) ∧ TF u N g b q t' ∧ (∀ h' k', h' < N → 1 ≤ k' → k' < k + 1 → t' 55 (9 * h' + k' - 1) = nI (sW N G m h' k')) ∧ t' 56 = t 56 := by
  intro f
  induction f with
  | zero => intro h t _ _ _ hf; omega
  | succ f ih =>
    intro h t hF hw hh hf
    have e4 : t 16 4 = nI N := hF.1.1
    rw [d_F_tryKinds_35, e4]
    by_cases hc : N ≤ h
    · rw [if_pos ((qb_leI (by omega) (by omega)).mpr hc)]
      simp only [dl, k_1, nI_add]
      exact ⟨t, rfl, hF, fun h' k' h1 h2 h3 => hw h' k' h1 h2 (by omega), rfl⟩
    · rw [if_neg (fun z => hc ((qb_leI (by omega) (by omega)).mp z)), slot_ hk, Option.bind_some, qb_gt (show h < 5 by omega) (by omega), qb_gt (show 9 * h + k - 1 < 45 by omega) (by omega), if_pos rfl, if_pos rfl, qb_cl (show h < 2147483648 by omega), qb_cl (show 9 * h + k - 1 < 2147483648 by omega)]
      have e18 : t 18 h = nI (g (5 + h)) := (hF.1.2.2.2.2.2.2.2.2.2.2 h (by omega)).2.1
      simp only [dl, k_1, nI_add, e18]
      obtain ⟨t', a1, a2, a3, a4⟩ := ih (h + 1) (pw t 55 (9 * h + k - 1) (nI (g (5 + h)))) (hF.w55 (Or.inl rfl) _ _) (fun h' k' h1 h2 h3 => by
        rw [pw_s]
        by_cases q : h' = h ∧ k' = k
        · rw [q.1, q.2, up_s, hg h (by omega)]
        · rw [up_n (by omega)]
          exact hw h' k' h1 h2 (by omega)) (by omega) (by omega)
      exact ⟨t', a1, a2, a3, by rw [a4, pw_n _ _ _ (by omega)]⟩
theorem F_try_lp {u : Nat → Nat → Int32} {N m x b q : Nat} {G : Nat → Nat} (I : sInv N G) (h19 : G 19 ≤ 999) (hx : x ≤ 9) : ∀ (f k : Nat) (t : Nat → Nat → Int32), TF u N (sNights N (k - 1) (sK N m (sT G))) b q t → (∀ h' k', h' < N → 1 ≤ k' → k' < k → t 55 (9 * h' + k' - 1) = nI (sW N G m h' k')) → 1 ≤ k → k ≤ 10 → 10 - k < f → ∃ t', d_F_tryKinds_14 f t (nI x) (nI k) = some t' ∧ AgF u t' ∧ (∀ h' k', h' < N → 1 ≤ k' → k' ≤ x → t' 55 (9 * h' + k' - 1) = nI (sW N G m h' k')) ∧ t' 56 = t 56 := by
  intro f
  induction f with
  | zero => intro k t _ _ _ _ hf; omega
  | succ f ih =>
    intro k t hF hw hk hk10 hf
    have hN := I.1
    rw [d_F_tryKinds_14]
    by_cases hc : x < k
    · rw [if_pos ((qb_ltI (by omega) (by omega)).mpr hc)]
      exact ⟨t, rfl, hF.2.2, fun h' k' h1 h2 h3 => hw h' k' h1 h2 (by omega), rfl⟩
    · have h9 : ¬ (9 : Int32) < nI k := fun z => by have := (qb_ltI (a := 9) (by omega) (by omega)).mp z; omega
      rw [if_neg (fun z => hc ((qb_ltI (by omega) (by omega)).mp z)), if_neg h9]
      have Ik := sNights_inv (k - 1) _ (sK_inv (m := m) (sT_inv I))
      obtain ⟨c, f1, f2, f3⟩ := hF.night Ik (by rw [sNights_19, sK_n (by omega), sT_lt (by omega)]; omega)
      rw [f1, Option.bind_some]
      have es : sNight N (sNights N (k - 1) (sK N m (sT G))) = sNights N k (sK N m (sT G)) := by rw [← sNights_succ, show k - 1 + 1 = k by omega]
      rw [es] at f2
      obtain ⟨t1, a1, a2, a3, a4⟩ := F_try_in (m := m) (G := G) hN hk (by omega) (fun h hh => rfl) (d_F_tryKinds_14 f) (nI x) FU 0 (pt t 16 5 c) f2 (fun h' k' h1 h2 h3 => by rw [pt_out (by omega)]; exact hw h' k' h1 h2 (by omega)) (by omega) (by show N - 0 < 10000; omega)
      have a1' : d_F_tryKinds_35 (d_F_tryKinds_14 f) FU (pt t 16 5 c) (nI x) (nI k) 0 = d_F_tryKinds_14 f t1 (nI x) (nI (k + 1)) := a1
      rw [a1']
      obtain ⟨t2, b1, b2, b3, b4⟩ := ih (k + 1) t1 (by rw [show k + 1 - 1 = k by omega]; exact a2) a3 (by omega) (by omega) (by omega)
      exact ⟨t2, b1, b2, b3, by rw [b4, a4, pt_out (by omega)]⟩
theorem F_try {u t : Nat → Nat → Int32} {N m x : Nat} {G : Nat → Nat} (ec : EC (sh u 11) N G 0 0) (I : sInv N G) (h19 : G 19 ≤ 999) (hm : m < 2147483648) (hx : x ≤ 9) (ha : AgF u t) : ∃ t', d_F_tryKinds t (nI m) (nI x) = some t' ∧ AgF u t' ∧ (∀ h' k', h' < N → 1 ≤ k' → k' ≤ x → t' 55 (9 * h' + k' - 1) = nI (sW N G m h' k')) ∧ t' 56 = t 56 := by
  have hN := I.1
  obtain ⟨t1, e1, e2⟩ := F_start hN ec ha
  have k56 : t1 56 = t 56 := by
    have e1' := e1
    unfold d_F_startTrial at e1'
    obtain ⟨z, z1, z2, z3, z4⟩ := CC_like (sh t 16) (sh t 11)
    rw [z1, Option.bind_some] at e1'
    unfold d_C_forgetLoss at e1'
    rw [A5_fill, Option.bind_some, Option.bind_some] at e1'
    rw [← Option.some.inj e1', pt_out (by omega), pt_out (by omega), pt_out (by omega)]
  unfold d_F_tryKinds
  rw [e1, Option.bind_some]
  obtain ⟨c2, f1, f2, f3⟩ := C_putKinds hN hm e2.1
  rw [f1, Option.bind_some]
  obtain ⟨t2, b1, b2, b3, b4⟩ := F_try_lp (x := x) (m := m) I h19 hx FU 1 (pt t1 16 5 c2) (e2.go f2 f3) (fun h' k' h1 h2 h3 => by omega) (by omega) (by omega) (by show 10 - 1 < 10000; omega)
  exact ⟨t2, b1, b2, b3, by rw [b4, pt_out (by omega), k56]⟩
/-! the reference's fit -/
theorem TM.w78 {v t : Nat → Nat → Int32} {N : Nat} {g : Nat → Nat} (h : TM v N g t) {d : Nat} (hd : d = 7 ∨ d = 8) (j : Nat) (x : Int32) : TM v N g (pw t d j x) := ⟨⟨by rw [pw_n _ _ _ (by omega)]; exact h.1.1, fun i hi => by rw [pw_n _ _ _ (by omega)]; exact h.1.2 i hi⟩, fun c c2 c7 c8 => by rw [pw_n _ _ _ (by omega)]; exact h.2 c c2 c7 c8⟩
theorem M_fit_in {v : Nat → Nat → Int32} {N m k : Nat} {G g : Nat → Nat} (hN : N ≤ 5) (hk : 1 ≤ k) (hk9 : k ≤ 9) (hg : ∀ h, h < N → g (5 + h) = sW N G m h k) (kM : (Nat → Nat → Int32) → Int32 → Int32 → Option (Int32 × (Nat → Nat → Int32))) (x2 : Int32) : ∀ (f h : Nat) (t : Nat → Nat → Int32), TM v N g t → (∀ h' k', h' < N → 1 ≤ k' → (k' < k ∨ (k' = k ∧ h' < h)) → t 7 (10 * h' + k') = nI (sW N G m h' k')) → h ≤ N → N - h < f → ∃ t', d_M_isFit_22 kM f t x2 (nI k) (nI h) = kM t' x2 (nI (k + 1)) ∧ TM v N g t' ∧ (∀ h' k', h' < N → 1 ≤ k' → k' < k + 1 → t' 7 (10 * h' + k') = nI (sW N G m h' k')) ∧ t' 8 = t 8 := by
  intro f
  induction f with
  | zero => intro h t _ _ _ hf; omega
  | succ f ih =>
    intro h t hM hw hh hf
    rw [d_M_isFit_22, hM.1.1]
    by_cases hc : N ≤ h
    · rw [if_pos ((qb_leI (by omega) (by omega)).mpr hc)]
      simp only [dl, k_1, nI_add]
      exact ⟨t, rfl, hM, fun h' k' h1 h2 h3 => hw h' k' h1 h2 (by omega), rfl⟩
    · rw [if_neg (fun z => hc ((qb_leI (by omega) (by omega)).mp z)), k_5, k_10, pk_mul, nI_add, nI_add, qb_gt (show 5 + h < 41 by omega) (by omega), qb_gt (show 10 * h + k < 50 by omega) (by omega), if_pos rfl, if_pos rfl, qb_cl (show 5 + h < 2147483648 by omega), qb_cl (show 10 * h + k < 2147483648 by omega)]
      simp only [dl, k_1, nI_add, hM.1.2 (5 + h) (by omega)]
      obtain ⟨t', a1, a2, a3, a4⟩ := ih (h + 1) (pw t 7 (10 * h + k) (nI (g (5 + h)))) (hM.w78 (Or.inl rfl) _ _) (fun h' k' h1 h2 h3 => by
        rw [pw_s]
        by_cases q : h' = h ∧ k' = k
        · rw [q.1, q.2, up_s, hg h (by omega)]
        · rw [up_n (by omega)]
          exact hw h' k' h1 h2 (by omega)) (by omega) (by omega)
      exact ⟨t', a1, a2, a3, by rw [a4, pw_n _ _ _ (by omega)]⟩
theorem M_fit_lp {v : Nat → Nat → Int32} {N m : Nat} {G : Nat → Nat} (I : sInv N G) (h19 : G 19 ≤ 999) : ∀ (f k : Nat) (t : Nat → Nat → Int32), TM v N (sNights N (k - 1) (sK N m (sT G))) t → (∀ h' k', h' < N → 1 ≤ k' → k' < k → t 7 (10 * h' + k') = nI (sW N G m h' k')) → 1 ≤ k → k ≤ 10 → 10 - k < f → ∃ t', d_M_isFit_9 f t 1 (nI k) = d_M_isFit_66 FU t' 1 0 ∧ TM v N (sNights N 9 (sK N m (sT G))) t' ∧ (∀ h' k', h' < N → 1 ≤ k' → k' ≤ 9 → t' 7 (10 * h' + k') = nI (sW N G m h' k')) ∧ t' 8 = t 8 := by
  intro f
  induction f with
  | zero => intro k t _ _ _ _ hf; omega
  | succ f ih =>
    intro k t hM hw hk hk10 hf
    have hN := I.1
    have h9 : (9 : Int32) < nI k ↔ 9 < k := qb_ltI (a := 9) (by omega) (by omega)
    rw [d_M_isFit_9]
    by_cases hc : 9 < k
    · rw [if_pos (h9.mpr hc)]
      rw [show k - 1 = 9 by omega] at hM
      exact ⟨t, rfl, hM, fun h' k' h1 h2 h3 => hw h' k' h1 h2 (by omega), rfl⟩
    · rw [if_neg (fun z => hc (h9.mp z))]
      have Ik := sNights_inv (k - 1) _ (sK_inv (m := m) (sT_inv I))
      obtain ⟨s2, l1, l2, l3⟩ := M_night hM.1 Ik (by rw [sNights_19, sK_n (by omega), sT_lt (by omega)]; omega)
      rw [l1, Option.bind_some]
      have f2 := hM.go l2 l3
      have es : sNight N (sNights N (k - 1) (sK N m (sT G))) = sNights N k (sK N m (sT G)) := by rw [← sNights_succ, show k - 1 + 1 = k by omega]
      rw [es] at f2
      obtain ⟨t1, a1, a2, a3, a4⟩ := M_fit_in (m := m) (G := G) hN hk (by omega) (fun h hh => rfl) (d_M_isFit_9 f) 1 FU 0 s2 f2 (fun h' k' h1 h2 h3 => by rw [l3.1 7 (by omega)]; exact hw h' k' h1 h2 (by omega)) (by omega) (by show N - 0 < 10000; omega)
      have a1' : d_M_isFit_22 (d_M_isFit_9 f) FU s2 1 (nI k) 0 = d_M_isFit_9 f t1 1 (nI (k + 1)) := a1
      rw [a1']
      obtain ⟨t2, b1, b2, b3, b4⟩ := ih (k + 1) t1 (by rw [show k + 1 - 1 = k by omega]; exact a2) a3 (by omega) (by omega) (by omega)
      exact ⟨t2, b1, b2, b3, by rw [b4, a4, l3.1 8 (by omega)]⟩
/-- what fits: what was seen, as numbers -/
abbrev fitP (N : Nat) (G : Nat → Nat) (p q r : Nat → Nat) (m z : Nat) : Prop := ∀ i, i < z → sW N G m (p i) (q i) = r i
theorem F_agree {t : Nat → Nat → Int32} {N m x z : Nat} {G : Nat → Nat} {p q r : Nat → Nat} (I : sInv N G) (hz : z ≤ 6) (hx : x ≤ 9) (z2 : t 21 3 = nI z) (z4 : ∀ i, i < z → p i < N ∧ 1 ≤ q i ∧ q i ≤ x ∧ r i ≤ 99 ∧ t 22 i = nI (p i) ∧ t 23 i = nI (q i) ∧ t 24 i = nI (r i)) (hw : ∀ h' k', h' < N → 1 ≤ k' → k' ≤ x → t 55 (9 * h' + k' - 1) = nI (sW N G m h' k')) : ∀ (f k : Nat), (∀ i, i < k → sW N G m (p i) (q i) = r i) → k ≤ z → z - k < f → d_GL_agreesWith_2 f (sj (sh t 21) (sh t 55) 4) (nI k) = some (if fitP N G p q r m z then 1 else 0) := by
  intro f
  induction f with
  | zero => intro k _ _ hf; omega
  | succ f ih =>
    intro k hk hkz hf
    have hN := I.1
    have c0 : sj (sh t 21) (sh t 55) 4 0 3 = nI z := z2
    rw [d_GL_agreesWith_2, c0]
    by_cases hc : z ≤ k
    · rw [if_pos ((qb_leI (by omega) (by omega)).mpr hc), if_pos (fun i hi => hk i (by omega))]
    · obtain ⟨y1, y2, y3, y4, y5, y6, y7⟩ := z4 k (by omega)
      have hwk := hw (p k) (q k) y1 y2 y3
      have c1 : sj (sh t 21) (sh t 55) 4 1 k = nI (p k) := y5
      have c2 : sj (sh t 21) (sh t 55) 4 2 k = nI (q k) := y6
      have c3 : sj (sh t 21) (sh t 55) 4 3 k = nI (r k) := y7
      have c4 : sj (sh t 21) (sh t 55) 4 4 (9 * p k + q k - 1) = nI (sW N G m (p k) (q k)) := hwk
      have wl := sW_le (m := m) (k := q k) I (show p k < 5 by omega)
      rw [if_neg (fun z => hc ((qb_leI (by omega) (by omega)).mp z)), qb_gt (show k < 6 by omega) (by omega), if_pos rfl, if_pos rfl, qb_cl (show k < 2147483648 by omega), c1, c2, slot_ y2, Option.bind_some, qb_gt (show 9 * p k + q k - 1 < 45 by omega) (by omega), if_pos rfl, if_pos rfl, qb_cl (show 9 * p k + q k - 1 < 2147483648 by omega), c3, c4]
      by_cases hq : sW N G m (p k) (q k) = r k
      · rw [if_pos (by rw [hq])]
        simp only [dl, k_1, nI_add]
        exact ih (k + 1) (fun i hi => by
          by_cases qi : i = k
          · subst qi; exact hq
          · exact hk i (by omega)) (by omega) (by omega)
      · rw [if_neg (fun z => hq ((qb_eqI (by omega) (by omega)).mp z)), if_neg (fun z => hq (z k (by omega)))]
theorem M_agree {s : Nat → Nat → Int32} {N m z : Nat} {G : Nat → Nat} {p q r : Nat → Nat} (I : sInv N G) (hz : z ≤ 6) (z2 : s 1 22 = nI z) (z4 : ∀ i, i < z → p i < N ∧ 1 ≤ q i ∧ q i ≤ 9 ∧ r i ≤ 99 ∧ s 1 (23 + 3 * i) = nI (p i) ∧ s 1 (24 + 3 * i) = nI (q i) ∧ s 1 (25 + 3 * i) = nI (r i)) (hw : ∀ h' k', h' < N → 1 ≤ k' → k' ≤ 9 → s 7 (10 * h' + k') = nI (sW N G m h' k')) : ∀ (f k : Nat) (b : Int32), ((b = 1 ∧ ∀ i, i < k → sW N G m (p i) (q i) = r i) ∨ (b = 0 ∧ ¬ fitP N G p q r m z)) → k ≤ z → z - k < f → d_M_isFit_66 f s b (nI k) = some (if fitP N G p q r m z then 1 else 0, s) := by
  intro f
  induction f with
  | zero => intro k b _ _ hf; omega
  | succ f ih =>
    intro k b hb hkz hf
    have hN := I.1
    rw [d_M_isFit_66, show (22 : Int32).toNatClampNeg = 22 from rfl, z2]
    by_cases hc : z ≤ k
    · rw [if_pos ((qb_leI (by omega) (by omega)).mpr hc)]
      rcases hb with ⟨b1, b2⟩ | ⟨b1, b2⟩
      · subst b1
        rw [if_pos (Or.inr rfl), if_pos (fun i hi => b2 i (by omega))]
      · subst b1
        rw [if_pos (Or.inl rfl), if_neg b2]
    · obtain ⟨y1, y2, y3, y4, y5, y6, y7⟩ := z4 k (by omega)
      have hwk := hw (p k) (q k) y1 y2 y3
      have wl := sW_le (m := m) (k := q k) I (show p k < 5 by omega)
      unfold d_M_isFit_130 d_M_isFit_131
      rw [if_neg (fun z => hc ((qb_leI (by omega) (by omega)).mp z))]
      have e1 : (23 : Int32) + 3 * nI k = nI (23 + 3 * k) := by rw [k_23, k_3, pk_mul, nI_add]
      have e2 : nI (23 + 3 * k) + (1 : Int32) = nI (24 + 3 * k) := by rw [k_1, nI_add, show 23 + 3 * k + 1 = 24 + 3 * k by omega]
      have e3 : nI (23 + 3 * k) + (2 : Int32) = nI (25 + 3 * k) := by rw [k_2, nI_add, show 23 + 3 * k + 2 = 25 + 3 * k by omega]
      have e4 : (10 : Int32) * nI (p k) + nI (q k) = nI (10 * p k + q k) := by rw [k_10, pk_mul, nI_add]
      have e5 : nI k + (1 : Int32) = nI (k + 1) := nI_add k 1
      simp only [dl, e1, e2, e3, e4, e5, qb_gt (show 23 + 3 * k < 123 by omega) (show 123 < 2147483648 by omega), qb_cl (show 23 + 3 * k < 2147483648 by omega), qb_gt (show 24 + 3 * k < 123 by omega) (show 123 < 2147483648 by omega), qb_cl (show 24 + 3 * k < 2147483648 by omega), qb_gt (show 25 + 3 * k < 123 by omega) (show 123 < 2147483648 by omega), qb_cl (show 25 + 3 * k < 2147483648 by omega), if_true, y5, y6, y7, qb_gt (show 10 * p k + q k < 50 by omega) (show 50 < 2147483648 by omega), qb_cl (show 10 * p k + q k < 2147483648 by omega), hwk, qb_eqI (show sW N G m (p k) (q k) < 2147483648 by omega) (show r k < 2147483648 by omega)]
      rcases hb with ⟨b1, b2⟩ | ⟨b1, b2⟩
      · subst b1
        rw [if_neg (by decide)]
        by_cases hq : sW N G m (p k) (q k) = r k
        · rw [if_pos hq]
          exact ih (k + 1) 1 (Or.inl ⟨rfl, fun i hi => by
            by_cases qi : i = k
            · subst qi; exact hq
            · exact b2 i (by omega)⟩) (by omega) (by omega)
        · rw [if_neg hq]
          exact ih (k + 1) 0 (Or.inr ⟨rfl, fun z => hq (z k (by omega))⟩) (by omega) (by omega)
      · subst b1
        rw [if_pos rfl]
        exact ih (k + 1) 0 (Or.inr ⟨rfl, b2⟩) (by omega) (by omega)
theorem M_isFit {v s : Nat → Nat → Int32} {N m z : Nat} {G : Nat → Nat} {p q r : Nat → Nat} (h3 : v 0 3 = nI N) (hs : ∀ i, i < 22 → v 1 i = nI (G i)) (I : sInv N G) (h19 : G 19 ≤ 999) (hm : m < 2147483648) (hz : z ≤ 6) (z2 : v 1 22 = nI z) (z4 : ∀ i, i < z → p i < N ∧ 1 ≤ q i ∧ q i ≤ 9 ∧ r i ≤ 99 ∧ v 1 (23 + 3 * i) = nI (p i) ∧ v 1 (24 + 3 * i) = nI (q i) ∧ v 1 (25 + 3 * i) = nI (r i)) (ha : AgM v s) : ∃ s', d_M_isFit s (nI m) = some (if fitP N G p q r m z then 1 else 0, s') ∧ AgM v s' ∧ (∀ h' k', h' < N → 1 ≤ k' → k' ≤ 9 → s' 7 (10 * h' + k') = nI (sW N G m h' k')) ∧ (∀ h, h < N → s' 2 h = nI (m / 2 ^ (2 * (N - 1 - h)) % 4)) ∧ s' 8 = s 8 := by
  have hN := I.1
  obtain ⟨t1, e1, e2⟩ := M_startsBy (m := m) hN hm h3 hs ha
  have k8 : t1 8 = s 8 := by
    have e1' := e1
    unfold d_M_startsBy at e1'
    obtain ⟨t0, f0, f1⟩ := M_start h3 hs ha
    have s8 : t0 8 = s 8 := by
      have : ∀ (f k : Nat) (t : Nat → Nat → Int32) t', d_M_starts_2 f t (nI k) = some t' → k ≤ 41 → t' 8 = t 8 := by
        intro f
        induction f with
        | zero => intro k t t' h _; rw [d_M_starts_2] at h; cases h
        | succ f ih =>
          intro k t t' h hk
          rw [d_M_starts_2, k_41] at h
          by_cases hc : 41 ≤ k
          · rw [if_pos ((qb_leI (by omega) (by omega)).mpr hc)] at h
            rw [← Option.some.inj h]
          · rw [if_neg (fun z => hc ((qb_leI (by omega) (by omega)).mp z)), qb_gt (by omega) (by omega), qb_gt (by omega) (by omega), if_pos rfl, if_pos rfl] at h
            simp only [dl, k_1, nI_add] at h
            rw [ih (k + 1) _ _ h (by omega), pw_n _ _ _ (by omega)]
      exact this FU 0 s t0 f0 (by omega)
    rw [f0, Option.bind_some, f1.1.1] at e1'
    simp only [dl] at e1'
    obtain ⟨t2, g1, g2, g3⟩ := M_startsBy_13 (m := m) (g := sT G) hN hm FU N t0 (f1.1.cgg (fun i _ => by rw [if_neg (by omega)])) (by omega) (by show N < 10000; omega)
    rw [Nat.sub_self, Nat.mul_zero, Nat.pow_zero, Nat.div_one] at g1
    rw [g1] at e1'
    rw [← Option.some.inj e1', g3.1 8 (by omega), s8]
  obtain ⟨t2, a1, a2, a3, a4⟩ := M_fit_lp (m := m) I h19 FU 1 t1 e2 (fun h' k' h1 h2 h3 => by omega) (by omega) (by omega) (by show 10 - 1 < 10000; omega)
  have a1' : d_M_isFit_9 FU t1 1 1 = d_M_isFit_66 FU t2 1 0 := a1
  have r1 : t2 1 = v 1 := a2.2 1 (by omega) (by omega) (by omega)
  unfold d_M_isFit
  rw [e1, Option.bind_some, a1']
  have w := M_agree (s := t2) (m := m) (G := G) (p := p) (q := q) (r := r) I hz (by rw [r1]; exact z2) (fun i hi => by rw [r1]; exact z4 i hi) a3 FU 0 1 (Or.inl ⟨rfl, fun i hi => by omega⟩) (by omega) (by show z - 0 < 10000; omega)
  refine ⟨t2, w, a2.2, a3, fun h hh => ?_, by rw [a4, k8]⟩
  rw [a2.1.2 h (by omega), sNights_kind 9 _ (sK_inv (sT_inv I)) h (by omega)]
  unfold sK
  rw [if_pos hh]
theorem G_most {c : Nat → Nat → Int32} {z : Nat} {q : Nat → Nat} (hz : z ≤ 6) (h3 : c 0 3 = nI z) (hq : ∀ i, i < z → q i ≤ 9 ∧ c 2 i = nI (q i)) : ∀ (f k x : Nat), x ≤ 9 → (∀ i, i < k → q i ≤ x) → k ≤ z → z - k < f → ∃ y, y ≤ 9 ∧ (∀ i, i < z → q i ≤ y) ∧ d_G_mostNights_4 f c (nI x) (nI k) = some (nI y) := by
  intro f
  induction f with
  | zero => intro k x _ _ _ hf; omega
  | succ f ih =>
    intro k x hx hk hkz hf
    rw [d_G_mostNights_4, h3]
    by_cases hc : z ≤ k
    · rw [if_pos ((qb_leI (by omega) (by omega)).mpr hc)]
      exact ⟨x, hx, fun i hi => hk i (by omega), rfl⟩
    · obtain ⟨y1, y2⟩ := hq k (by omega)
      rw [if_neg (fun z => hc ((qb_leI (by omega) (by omega)).mp z)), qb_gt (show k < 6 by omega) (by omega), if_pos rfl, qb_cl (show k < 2147483648 by omega), y2]
      unfold d_P_max
      by_cases hl : x < q k
      · rw [if_pos ((qb_ltI (by omega) (by omega)).mpr hl), Option.bind_some]
        simp only [dl, k_1, nI_add]
        exact ih (k + 1) (q k) y1 (fun i hi => by
          by_cases qi : i = k
          · subst qi; exact Nat.le_refl _
          · have := hk i (by omega); omega) (by omega) (by omega)
      · rw [if_neg (fun z => hl ((qb_ltI (by omega) (by omega)).mp z)), Option.bind_some]
        simp only [dl, k_1, nI_add]
        exact ih (k + 1) x hx (fun i hi => by
          by_cases qi : i = k
          · subst qi; omega
          · exact hk i (by omega)) (by omega) (by omega)
theorem shlk : ∀ j, j < 4 → (nI (2 ^ j)) = (1 : Int32) <<< (nI j &&& 31) := by decide +kernel
theorem fits_lp {u v : Nat → Nat → Int32} {N x z : Nat} {G : Nat → Nat} {p q r : Nat → Nat} (h3 : v 0 3 = nI N) (ec : EC (sh u 11) N G 0 0) (hs : ∀ i, i < 22 → v 1 i = nI (G i)) (I : sInv N G) (h19 : G 19 ≤ 999) (hz : z ≤ 6) (hx : x ≤ 9) (u2 : u 21 3 = nI z) (v2 : v 1 22 = nI z) (z4 : ∀ i, i < z → p i < N ∧ 1 ≤ q i ∧ q i ≤ 9 ∧ r i ≤ 99 ∧ u 22 i = nI (p i) ∧ u 23 i = nI (q i) ∧ u 24 i = nI (r i) ∧ v 1 (23 + 3 * i) = nI (p i) ∧ v 1 (24 + 3 * i) = nI (q i) ∧ v 1 (25 + 3 * i) = nI (r i)) (hqx : ∀ i, i < z → q i ≤ x) (a1 a2 : Int32) (ha : (a1 = 0 ∨ a1 = 1) ∨ ∃ j, j < N ∧ a1 = nI (10 + j) ∧ a2 = nI j) (hb : a2 = a1 - 10) : ∀ (f m c : Nat) (x5 x6 y6 : Int32) (t s : Nat → Nat → Int32), AgF u t → AgM v s → m ≤ 2 ^ (2 * N) → 2 ^ (2 * N) - m < f → c ≤ m → ((c = 0 ∧ x5 = -4) ∨ (0 < c ∧ ∃ j, j < 2000 ∧ x5 = nI j)) → ((a1 = 0 ∨ a1 = 1) ∨ x6 = y6) → ∃ r t' s', d_F_fits_57 f t a1 a2 (nI (2 ^ (2 * N))) (nI c) x5 x6 (nI x) (nI m) = some (r, t') ∧ d_M_fits_31 f s a1 (nI c) x5 y6 (nI m) = some (r, s') ∧ AgF u t' ∧ AgM v s' := by
  intro f
  induction f with
  | zero => intro m c x5 x6 y6 t s _ _ _ hf; omega
  | succ f ih =>
    intro m c x5 x6 y6 t s hF hM hm hf hcm h5 h6
    have hf1 : ¬ 2 ^ (2 * N) ≤ m → 2 ^ (2 * N) - (m + 1) < f := by
      clear h5 h6 ih
      intro hq
      omega
    have hN := I.1
    have p4 := pow4 N hN
    have e3 : s 0 3 = nI N := by rw [hM 0 (by omega) (by omega) (by omega)]; exact h3
    rw [d_F_fits_57, d_M_fits_31]
    unfold d_M_numbers
    rw [e3, k_2, pk_mul, p4.2.2, Option.bind_some]
    by_cases hc : 2 ^ (2 * N) ≤ m
    · rw [if_pos ((qb_leI (by omega) (by omega)).mpr hc), if_pos ((qb_leI (by omega) (by omega)).mpr hc)]
      by_cases q0 : a1 = 0
      · rw [if_pos q0, if_pos q0]; exact ⟨_, _, _, rfl, rfl, hF, hM⟩
      · rw [if_neg q0, if_neg q0]
        by_cases q1 : a1 = 1
        · rw [if_pos q1, if_pos q1]; exact ⟨_, _, _, rfl, rfl, hF, hM⟩
        · rw [if_neg q1, if_neg q1]
          rcases h6 with h6 | h6
          · rcases h6 with h6 | h6
            · exact absurd h6 q0
            · exact absurd h6 q1
          · rw [h6]; exact ⟨_, _, _, rfl, rfl, hF, hM⟩
    · have hc' : ¬ nI (2 ^ (2 * N)) ≤ nI m := fun z => hc ((qb_leI (by omega) (by omega)).mp z)
      rw [if_neg hc', if_neg hc']
      obtain ⟨t1, a1', a2', a3, -⟩ := F_try (m := m) (x := x) ec I h19 (by omega) hx hF
      have fg := F_agree (t := t1) (m := m) (x := x) (z := z) (p := p) (q := q) (r := r) I hz hx (by rw [a2' 21 (by omega) (by omega)]; exact u2) (fun i hi => by
        obtain ⟨w1, w2, w3, w4, w5, w6, w7, -⟩ := z4 i hi
        rw [a2' 22 (by omega) (by omega), a2' 23 (by omega) (by omega), a2' 24 (by omega) (by omega)]
        exact ⟨w1, w2, hqx i hi, w4, w5, w6, w7⟩) a3 FU 0 (fun i hi => by omega) (by omega) (by show z - 0 < 10000; omega)
      have fg' : d_GL_agreesWith (sj (sh t1 21) (sh t1 55) 4) = some (if fitP N G p q r m z then 1 else 0) := fg
      obtain ⟨s1, b1, b2, b3, b4, -⟩ := M_isFit (m := m) (z := z) (p := p) (q := q) (r := r) h3 hs I h19 (by omega) hz v2 (fun i hi => by
        obtain ⟨w1, w2, w3, w4, w5, w6, w7, w8⟩ := z4 i hi
        exact ⟨w1, w2, w3, w4, w8⟩) hM
      rw [a1', Option.bind_some, fg', Option.bind_some, b1, Option.bind_some]
      unfold d_F_fits_121 d_M_fits_91
      have em : nI m + (1 : Int32) = nI (m + 1) := nI_add m 1
      have ecc : nI c + (1 : Int32) = nI (c + 1) := nI_add c 1
      by_cases hfit : fitP N G p q r m z
      · simp only [if_pos hfit, z10, if_false, dl, ecc]
        have hx5 : (x5 = (-4 : Int32) ↔ c = 0) := by
          rcases h5 with ⟨q1, q2⟩ | ⟨q1, j, q2, q3⟩
          · exact ⟨fun _ => q1, fun _ => q2⟩
          · constructor
            · intro q
              exfalso
              rw [q3, ← Int32.toInt_inj, nI_toInt (by omega)] at q
              have : (-4 : Int32).toInt = -4 := by decide
              omega
            · intro q; omega
        have hc0 : nI c = (0 : Int32) ↔ c = 0 := qb_eqI (b := 0) (by omega) (by omega)
        simp only [hx5, hc0]
        have e4 : sh t1 11 0 4 = nI N := by rw [show sh t1 11 0 = sh u 11 0 from a2' 11 (by omega) (by omega)]; exact ec.1
        unfold d_F_fits_102 d_M_fits_59 d_M_fits_85 d_F_fits_121 d_M_fits_91
        have key : ∀ y : Int32, ((0 < c + 1) ∧ ∃ j, j < 2000 ∧ y = nI j) → ∃ r t' s', ((d_C_kindBy (sh t1 11) (nI m) a2).bind fun zr23 => dl (x6 ||| ((1 : Int32) <<< (zr23 &&& 31))) fun zy25 => dl (nI m + (1 : Int32)) fun zy18 => d_F_fits_57 f t1 a1 a2 (nI (2 ^ (2 * N))) (nI (c + 1)) y zy25 (nI x) zy18) = some (r, t') ∧ (if (10 : Int32) ≤ a1 then (if gi (((0 : Int32) + a1) - (10 : Int32)) 41 = true then dl (y6 ||| ((1 : Int32) <<< ((s1 2 (((0 : Int32) + a1) - (10 : Int32)).toNatClampNeg) &&& 31))) fun zy17 => dl (nI c + (1 : Int32)) fun zy19 => dl (nI m + (1 : Int32)) fun zy12 => d_M_fits_31 f s1 a1 zy19 y zy17 zy12 else none) else dl (y6 ||| (0 : Int32)) fun zy17 => dl (nI c + (1 : Int32)) fun zy19 => dl (nI m + (1 : Int32)) fun zy12 => d_M_fits_31 f s1 a1 zy19 y zy17 zy12) = some (r, s') ∧ AgF u t' ∧ AgM v s' := fun y hy => by
          simp only [dl, em, ecc]
          rcases ha with ha | ⟨j, j1, j2, j3⟩
          · have n10 : ¬ (10 : Int32) ≤ a1 := by rcases ha with q | q <;> subst q <;> decide
            have hk0 : d_C_has (sh t1 11) a2 = some 0 := by
              unfold d_C_has
              rw [hb]
              rcases ha with q | q <;> subst q <;> rfl
            rw [C_kindBy0 hN e4 _ _ hk0, Option.bind_some, if_neg n10]
            exact ih (m + 1) (c + 1) y _ _ t1 s1 a2' b2 (by omega) (hf1 hc) (by omega) (Or.inr hy) (Or.inl ha)
          · have p10 : (10 : Int32) ≤ a1 := by rw [j2]; exact (qb_leI (a := 10) (by omega) (by omega)).mpr (by omega)
            have ej : ((0 : Int32) + a1) - 10 = nI j := by rw [Int32.zero_add, ← hb, j3]
            rw [j3, C_kindBy hN e4 j1 (by omega), Option.bind_some, if_pos p10, ej, qb_gt (show j < 41 by omega) (by omega), if_pos rfl, qb_cl (show j < 2147483648 by omega), b4 j j1, ← j3]
            have ex6 : x6 = y6 := by
              rcases h6 with h6 | h6
              · exfalso
                rcases h6 with q | q <;> rw [q] at p10 <;> revert p10 <;> decide
              · exact h6
            rw [ex6]
            exact ih (m + 1) (c + 1) y _ _ t1 s1 a2' b2 (by omega) (hf1 hc) (by omega) (Or.inr hy) (Or.inr rfl)
        by_cases hcz : c = 0
        · simp only [if_pos hcz]
          exact key (nI m) ⟨by omega, m, by omega, rfl⟩
        · simp only [if_neg hcz]
          rcases h5 with ⟨q1, q2⟩ | ⟨q1, j, q2, q3⟩
          · omega
          · exact key x5 ⟨by omega, j, q2, q3⟩
      · simp only [if_neg hfit, z00, if_true, dl, em]
        exact ih (m + 1) c x5 x6 y6 t1 s1 a2' b2 (by omega) (hf1 hc) (by omega) h5 h6
theorem p_fits (u v : Nat → Nat → Int32) (a1 : Int32) (h : Rel u v) : ∃ (r : Int32) (u2 : Nat → Nat → Int32) (v2 : Nat → Nat → Int32), d_F_fits u a1 = some (r, u2) ∧ d_M_fits v a1 = some (r, v2) ∧ Rel u2 v2 := by
  obtain ⟨N, g, h3, ⟨ec, hs, I, h19, h20⟩, hR⟩ := id h
  have hN := I.1
  have p4 := pow4 N hN
  obtain ⟨z, p, q, r, z1, z2, z3, z4⟩ := hR.sn
  obtain ⟨x, x1, x2, x3⟩ := G_most (c := sh u 21) (q := q) z1 z2 (fun i hi => ⟨(z4 i hi).2.2.1, (z4 i hi).2.2.2.2.2.1⟩) FU 0 0 (by omega) (fun i hi => by omega) (by omega) (by show z - 0 < 10000; omega)
  have x3' : d_G_mostNights (sh u 21) = some (nI x) := x3
  have e4' : sh u 11 0 4 = nI N := ec.1
  have core : ((a1 = 0 ∨ a1 = 1) ∨ ∃ j, j < N ∧ a1 = nI (10 + j) ∧ a1 - 10 = nI j) → ∃ (r : Int32) (u2 : Nat → Nat → Int32) (v2 : Nat → Nat → Int32), d_F_fits_27 u a1 (a1 - 10) = some (r, u2) ∧ d_M_fits_20 v a1 = some (r, v2) ∧ Rel u2 v2 := fun ha => by
    unfold d_F_fits_27 d_M_fits_20 d_C_allKinds
    rw [e4', k_2, pk_mul, p4.2.2, Option.bind_some, x3', Option.bind_some]
    obtain ⟨r', t', s', b1, b2, b3, b4⟩ := fits_lp (x := x) (p := p) (q := q) (r := r) h3 ec hs I h19 z1 x1 z2 z3 z4 x2 a1 (a1 - 10) ha rfl FU 0 0 (-4) 0 0 u v AgF.rf AgM.rf (by omega) (by show 2 ^ (2 * N) - 0 < 10000; omega) (by omega) (Or.inl ⟨rfl, rfl⟩) (Or.inr rfl)
    exact ⟨r', t', s', b1, b2, h.ag b3 b4⟩
  unfold d_F_fits d_M_fits
  simp only [dl]
  rcases prt a1 with ⟨i, i1, i2, i3, i4⟩ | ⟨i3, i4⟩
  · simp only [Option.bind_some, z10, z00, if_true, if_false, i3, i4]
    refine core (Or.inl ?_)
    rcases (show i = 0 ∨ i = 1 by omega) with q | q
    · subst q; exact Or.inl i2
    · subst q; exact Or.inr i2
  · rcases hs_F ec.1 hN h3 (a1 - 10) with ⟨j, j1, j2, j3, j4⟩ | ⟨j3, j4⟩
    · simp only [Option.bind_some, z10, z00, if_true, if_false, i3, i4, j3, j4]
      refine core (Or.inr ⟨j, j1, ?_, j2⟩)
      have : a1 = (a1 - 10) + 10 := by rw [Int32.sub_add_cancel]
      rw [this, j2, k_10, nI_add, Nat.add_comm]
    · simp only [Option.bind_some, z10, z00, if_true, if_false, i3, i4, j3, j4]
      exact ⟨_, _, _, rfl, rfl, h⟩
