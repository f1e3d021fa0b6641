/-! PURE: what appeases -/
theorem sNight_lost {N : Nat} {g : Nat → Nat} (I : sInv N g) {h : Nat} (hh : h < 5) : g (10 + h) ≤ sNight N g (10 + h) ∧ sNight N g (10 + h) - g (10 + h) = (sNight N g (22 + h) - g (22 + h)) + (if g 15 = h then sNight N g 21 - g 21 else 0) := by
  unfold sNight
  split
  · rename_i hN
    have h1 := I.2.2.1 hN.1
    have h0 := I.1
    have hx := sNx_lt (h := g 15) hN.1
    have eb : ∀ (g : Nat → Nat) (k x : Nat), k < 5 → sBurn g k x 21 = g 21 ∧ sBurn g k x (10 + h) = (if h = k then g (10 + h) + min x (g (5 + h)) else g (10 + h)) ∧ sBurn g k x (22 + h) = if h = k then g (22 + h) + min x (g (5 + h)) else g (22 + h) := fun g k x hk => by
      unfold sBurn
      refine ⟨?_, ?_, ?_⟩
      · rw [sp_n _ _ (by omega), sp_n _ _ (by omega), sp_n _ _ (by omega), sp_n _ _ (by omega)]
      · by_cases q : h = k
        · subst q; rw [sp_n _ _ (by omega), sp_n _ _ (by omega), sp_s, if_pos rfl]
        · rw [sp_n _ _ (by omega), sp_n _ _ (by omega), sp_n _ _ (by omega), sp_n _ _ (by omega), if_neg q]
      · by_cases q : h = k
        · subst q; rw [sp_s, if_pos rfl]
        · rw [sp_n _ _ (by omega), sp_n _ _ (by omega), sp_n _ _ (by omega), sp_n _ _ (by omega), if_neg q]
    have eg : ∀ (g : Nat → Nat) (k x : Nat), k < 5 → sGive g k x 21 = g 21 + x ∧ sGive g k x (10 + h) = (if h = k then g (10 + h) + x else g (10 + h)) ∧ sGive g k x (22 + h) = g (22 + h) := fun g k x hk => by
      unfold sGive
      refine ⟨?_, ?_, ?_⟩
      · rw [sp_n _ _ (by omega), sp_s]
      · by_cases q : h = k
        · subst q; rw [sp_n _ _ (by omega), sp_n _ _ (by omega), sp_s, if_pos rfl]
        · rw [sp_n _ _ (by omega), sp_n _ _ (by omega), sp_n _ _ (by omega), sp_n _ _ (by omega), if_neg q]
      · rw [sp_n _ _ (by omega), sp_n _ _ (by omega), sp_n _ _ (by omega), sp_n _ _ (by omega)]
    rw [sp_n (sAsk N g) _ (show 10 + h ≠ 19 by omega), sp_n (sAsk N g) _ (show 22 + h ≠ 19 by omega), sp_n (sAsk N g) _ (show 21 ≠ 19 by omega)]
    unfold sAsk
    split
    · obtain ⟨b1, b2, b3⟩ := eb (sp g 17 (min 9 (g 17 + 1))) (sNx N (g 15)) (min 9 (g 17 + 1)) (by omega)
      rw [sp_n _ _ (show 10 + h ≠ 15 by omega), sp_n _ _ (show 22 + h ≠ 15 by omega), sp_n _ _ (show 21 ≠ 15 by omega), b1, b2, b3, sp_n _ _ (show 10 + h ≠ 17 by omega), sp_n _ _ (show 22 + h ≠ 17 by omega), sp_n _ _ (show 21 ≠ 17 by omega)]
      generalize sp g 17 (min 9 (g 17 + 1)) (5 + h) = z
      split <;> split <;> omega
    · split
      · obtain ⟨b1, b2, b3⟩ := eb g (g 15) (g 16) (by omega)
        rw [sp_n _ _ (show 10 + h ≠ 15 by omega), sp_n _ _ (show 22 + h ≠ 15 by omega), sp_n _ _ (show 21 ≠ 15 by omega), sp_n _ _ (show 10 + h ≠ 16 by omega), sp_n _ _ (show 22 + h ≠ 16 by omega), sp_n _ _ (show 21 ≠ 16 by omega), b1, b2, b3]
        split <;> split <;> omega
      · split
        · obtain ⟨b1, b2, b3⟩ := eg g (g 15) 1 (by omega)
          rw [sp_n _ _ (show 10 + h ≠ 15 by omega), sp_n _ _ (show 22 + h ≠ 15 by omega), sp_n _ _ (show 21 ≠ 15 by omega), sp_n _ _ (show 10 + h ≠ 17 by omega), sp_n _ _ (show 22 + h ≠ 17 by omega), sp_n _ _ (show 21 ≠ 17 by omega), b1, b2, b3]
          split <;> split <;> omega
        · rw [sp_n _ _ (show 10 + h ≠ 15 by omega), sp_n _ _ (show 22 + h ≠ 15 by omega), sp_n _ _ (show 21 ≠ 15 by omega), sp_n _ _ (show 10 + h ≠ 16 by omega), sp_n _ _ (show 22 + h ≠ 16 by omega), sp_n _ _ (show 21 ≠ 16 by omega)]
          split <;> omega
  · rw [sp_n _ _ (show 10 + h ≠ 19 by omega), sp_n _ _ (show 22 + h ≠ 19 by omega), sp_n _ _ (show 21 ≠ 19 by omega)]
    split <;> omega
theorem M_app_in {v : Nat → Nat → Int32} {N n h much : Nat} (hN : N ≤ 5) (hh : h < N) (hn : n ≤ 20) (kM : (Nat → Nat → Int32) → Int32 → Int32 → Int32 → Option (Int32 × (Nat → Nat → Int32))) : ∀ (f k x : Nat) (g : Nat → Nat) (s : Nat → Nat → Int32), TM v N g s → sInv N g → g 19 + (n - k) ≤ 1100 → k ≤ n → n - k < f → x + 20 * (n - k) ≤ 100000 → ∃ s', AgM v s' ∧ d_M_appease_58 kM f s (nI h) (nI n) (nI much) (nI x) (nI k) = if x + (sNights N (n - k) g (22 + h) - g (22 + h)) = 0 then some (nI much, s') else kM s' (nI h) (nI n) (nI (much + 1)) := by
  intro f
  induction f with
  | zero => intro k x g s _ _ _ _ hf; omega
  | succ f ih =>
    intro k x g s hM I h19 hk hf hx
    rw [d_M_appease_58]
    by_cases hc : n ≤ k
    · have hx0 : nI x = (0 : Int32) ↔ x = 0 := qb_eqI (b := 0) (by omega) (by omega)
      rw [if_pos ((qb_leI (by omega) (by omega)).mpr hc), show n - k = 0 by omega]
      simp only [dl, hx0, k_1, nI_add, sNights, Nat.sub_self, Nat.add_zero]
      exact ⟨s, hM.2, rfl⟩
    · have hc' : ¬ nI n ≤ nI k := fun z => hc ((qb_leI (by omega) (by omega)).mp z)
      obtain ⟨s2, l1, l2⟩ := hM.night I (by omega)
      have lo := sNight_lost I (show h < 5 by omega)
      have mo := sNight_mono I
      have mh := mo.2.2.2.2 h (by omega)
      rw [if_neg hc']
      have i1 := I.1
      have i2 := I.2.2.1 (by omega)
      unfold d_M_appease_131
      simp only [dl, k_10, nI_add, qb_gt (show 10 + h < 41 by omega) (show 41 < 2147483648 by omega), qb_cl (show 10 + h < 2147483648 by omega), if_true, show (21 : Int32).toNatClampNeg = 21 from rfl, show (15 : Int32).toNatClampNeg = 15 from rfl, hM.1.2 (10 + h) (by omega), hM.1.2 21 (by omega), hM.1.2 15 (by omega), l1, Option.bind_some, l2.1.2 (10 + h) (by omega), l2.1.2 21 (by omega), pk_sub lo.1, pk_sub mo.2.2.1, k_1, k_0, qb_eqI (show g 15 < 2147483648 by omega) (show h < 2147483648 by omega)]
      have key : ∀ B, B = (if g 15 = h then sNight N g 21 - g 21 else 0) → nI x + (nI (sNight N g (10 + h) - g (10 + h)) - nI B) = nI (x + (sNight N g (22 + h) - g (22 + h))) := fun B hB => by
        rw [pk_sub (by omega), nI_add, lo.2, ← hB, Nat.add_sub_cancel]
      obtain ⟨s', w1, w2⟩ := ih (k + 1) (x + (sNight N g (22 + h) - g (22 + h))) _ s2 l2 (sNight_inv I) (by rw [sNight_19]; omega) (by omega) (by omega) (by omega)
      have mn := (sNights_mono (n - (k + 1)) _ (sNight_inv I)).2.2.2.2 h (by omega)
      refine ⟨s', w1, ?_⟩
      rw [show n - k = (n - (k + 1)) + 1 by omega, sNights]
      rw [show x + (sNight N g (22 + h) - g (22 + h)) + (sNights N (n - (k + 1)) (sNight N g) (22 + h) - sNight N g (22 + h)) = x + (sNights N (n - (k + 1)) (sNight N g) (22 + h) - g (22 + h)) by omega] at w2
      by_cases q : g 15 = h
      · rw [if_pos q, key _ (by rw [if_pos q])]
        exact w2
      · rw [if_neg q, key 0 (by rw [if_neg q])]
        exact w2
theorem C_ga {c : Nat → Nat → Int32} {N b q h x : Nat} {g : Nat → Nat} (hN : N ≤ 5) (ec : EC c N g b q) (I : sInv N g) (hh : h < N) (h1 : 1 ≤ x) (h20 : x ≤ 20) (hx : x ≤ g (5 + h)) : ∃ r c2, d_C_giveAhead c (nI h) (nI x) = some (r, c2) ∧ EC c2 N (sGive g h x) b q ∧ (EB c N g → EB c2 N (sGive g h x)) := by
  obtain ⟨r1, r2, r3⟩ := ec.2.2.2.2.2.2.2.2.2.2 h hh
  have hw := I.2.2.2.2.2.2.1 h (by omega)
  obtain ⟨c2, f1, f2, f3⟩ := C_give hN ec hh hx hw I.2.2.2.1
  have o : d_P_outside (nI x) 1 20 = some 0 := by
    have := qp_out (nI x) 1 20
    rw [if_pos ⟨(qb_leI (a := 1) (by omega) (by omega)).mpr h1, (qb_leI (b := 20) (by omega) (by omega)).mpr h20⟩] at this
    exact this
  have hle : nI x ≤ nI (g (5 + h)) := (qb_leI (by omega) (by omega)).mpr hx
  unfold d_C_giveAhead
  simp only [Option.bind_some, z10, z00, if_true, if_false, C_has ec.1 hN (show h < 2147483648 by omega), hh, o, qb_gt (show h < 5 by omega) (show 5 < 2147483648 by omega), qb_cl (show h < 2147483648 by omega), r2, hle, f1]
  exact ⟨_, _, rfl, f2, f3⟩
theorem sGive_0 {g : Nat → Nat} {h : Nat} : sGive g h 0 = g := by
  funext i
  unfold sGive
  have e : ∀ (g : Nat → Nat) (k i : Nat), sp g k (g k) i = g i := fun g k i => by
    unfold sp
    split
    · rename_i q; rw [q]
    · rfl
  have e1 : sp g (5 + h) (g (5 + h) - 0) = g := funext (fun i => e g _ i)
  have e2 : sp g (10 + h) (g (10 + h) + 0) = g := funext (fun i => e g _ i)
  have e3 : sp g 21 (g 21 + 0) = g := funext (fun i => e g _ i)
  have e4 : sp g 16 (g 16 - 0) = g := funext (fun i => e g _ i)
  rw [e1, e2, e3, e4]
theorem app_lp {u v : Nat → Nat → Int32} {N n h : Nat} {G : Nat → Nat} (h3 : v 0 3 = nI N) (ec : EC (sh u 11) N G 0 0) (hs : ∀ i, i < 22 → v 1 i = nI (G i)) (I : sInv N G) (h19 : G 19 ≤ 999) (hn : n ≤ 20) (hh : h < N) : ∀ (f m : Nat) (t s : Nat → Nat → Int32), AgF u t → AgM v s → m ≤ 21 → 21 - m < f → ∃ r t' s', d_F_appease_25 f t (nI h) (nI n) (nI m) = some (r, t') ∧ d_M_appease_24 f s (nI h) (nI n) (nI m) = some (r, s') ∧ AgF u t' ∧ AgM v s' := by
  intro f
  induction f with
  | zero => intro m t s _ _ _ hf; omega
  | succ f ih =>
    intro m t s hF hM hm hf
    have hN := I.1
    rw [d_F_appease_25, d_M_appease_24, k_20]
    by_cases hc : 20 < m
    · rw [if_pos ((qb_ltI (by omega) (by omega)).mpr hc), if_pos ((qb_ltI (by omega) (by omega)).mpr hc)]
      exact ⟨_, _, _, rfl, rfl, hF, hM⟩
    · have hc' : ¬ nI 20 < nI m := fun z => hc ((qb_ltI (by omega) (by omega)).mp z)
      have hw := I.2.2.2.2.2.2.1 h (by omega)
      have hw1 : t 13 h = nI (G (5 + h)) := by rw [hF 13 (by omega) (by omega)]; exact (ec.2.2.2.2.2.2.2.2.2.2 h hh).2.1
      have hw2 : s 1 (5 + h) = nI (G (5 + h)) := by rw [hM 1 (by omega) (by omega) (by omega)]; exact hs _ (by omega)
      rw [if_neg hc', if_neg hc']
      simp only [Option.bind_some, z10, z00, if_true, if_false, k_5, nI_add, qb_gt (show h < 5 by omega) (show 5 < 2147483648 by omega), qb_cl (show h < 2147483648 by omega), qb_gt (show 5 + h < 123 by omega) (show 123 < 2147483648 by omega), qb_cl (show 5 + h < 2147483648 by omega), hw1, hw2, qb_ltI (show G (5 + h) < 2147483648 by omega) (show m < 2147483648 by omega)]
      by_cases hq : G (5 + h) < m
      · simp only [if_pos hq]
        exact ⟨_, _, _, rfl, rfl, hF, hM⟩
      · simp only [if_neg hq]
        obtain ⟨t1, e1, e2⟩ := F_start hN ec hF
        obtain ⟨s1, k1, k2⟩ := M_start h3 hs hM
        obtain ⟨s2, l1, l2, l3⟩ := M_gives (k := h) (x := m) k2.1 (by omega) (by rw [sT_lt (by omega)]; omega) (by rw [sT_lt (by omega)]; omega) (by rw [sT_lt (by omega)]; exact I.2.2.2.1)
        have I2 : sInv N (sGive (sT G) h m) := sGive_inv (by omega) (sT_inv I)
        have sk := sGive_keep (g := sT G) (x := m) (show h < 5 by omega)
        rw [sT_lt (by omega), sT_lt (by omega)] at sk
        have z22 : sGive (sT G) h m (22 + h) = 0 := by
          unfold sGive
          rw [sp_n _ _ (by omega), sp_n _ _ (by omega), sp_n _ _ (by omega), sp_n _ _ (by omega)]
          exact if_pos (by omega)
        obtain ⟨s3, o1, o2⟩ := M_app_in (much := m) hN hh hn (d_M_appease_24 f) FU 0 0 _ s2 (k2.go l2 l3) I2 (by rw [sk.1]; omega) (by omega) (by show n - 0 < 10000; omega) (by omega)
        have o2' : d_M_appease_58 (d_M_appease_24 f) FU s2 (nI h) (nI n) (nI m) 0 0 = _ := o2
        rw [z22, Nat.sub_zero, Nat.sub_zero, Nat.zero_add] at o2'
        rw [k1, Option.bind_some, l1, Option.bind_some, o2', e1, Option.bind_some]
        have hle0 : nI m ≤ (0 : Int32) ↔ m ≤ 0 := qb_leI (b := 0) (by omega) (by omega)
        have fin : ∀ t2, TF u N (sGive (sT G) h m) (G 20) (G 21) t2 → ∃ r t' s', d_F_appease_62 (d_F_appease_25 f) t2 (nI h) (nI n) (nI m) = some (r, t') ∧ (if sNights N n (sGive (sT G) h m) (22 + h) = 0 then some (nI m, s3) else d_M_appease_24 f s3 (nI h) (nI n) (nI (m + 1))) = some (r, s') ∧ AgF u t' ∧ AgM v s' := fun t2 ht2 => by
          obtain ⟨c, f1, f2, f3, f4⟩ := ht2.nights (n := n) I2 (by rw [sk.1]; omega) (by omega)
          have mo := (sNights_mono n _ I2).2.2.2.2 h (by omega)
          have hz : nI (sNights N n (sGive (sT G) h m) (22 + h)) = (0 : Int32) ↔ sNights N n (sGive (sT G) h m) (22 + h) = 0 := qb_eqI (b := 0) (by omega) (by omega)
          unfold d_F_appease_62
          simp only [Option.bind_some, z10, z00, if_true, if_false, f1, qb_gt (show h < 5 by omega) (show 5 < 2147483648 by omega), qb_cl (show h < 2147483648 by omega), f4 h hh, hz, dl, k_1, nI_add]
          by_cases hqq : sNights N n (sGive (sT G) h m) (22 + h) = 0
          · simp only [if_pos hqq]
            exact ⟨_, _, _, rfl, rfl, f2.2.2, o1⟩
          · simp only [if_neg hqq]
            exact ih (m + 1) _ s3 f2.2.2 o1 (by omega) (by omega)
        by_cases hm0 : m ≤ 0
        · have : m = 0 := by omega
          subst this
          rw [if_pos (hle0.mpr hm0)]
          exact fin t1 (by rw [sGive_0]; exact e2)
        · rw [if_neg (fun z => hm0 (hle0.mp z))]
          obtain ⟨r, c2, g1, g2, g3⟩ := C_ga (x := m) hN e2.1 (sT_inv I) hh (by omega) (by omega) (by rw [sT_lt (by omega)]; omega)
          rw [g1, Option.bind_some]
          exact fin _ (e2.go g2 g3)
theorem p_appease (u v : Nat → Nat → Int32) (a1 a2 : Int32) (h : Rel u v) : ∃ (r : Int32) (u2 : Nat → Nat → Int32) (v2 : Nat → Nat → Int32), d_F_appease u a1 a2 = some (r, u2) ∧ d_M_appease v a1 a2 = some (r, v2) ∧ Rel u2 v2 := by
  obtain ⟨N, g, h3, ⟨ec, hs, I, h19, h20⟩, hR⟩ := id h
  have hN := I.1
  unfold d_F_appease d_M_appease
  rcases hs_F ec.1 hN h3 a1 with ⟨j, j1, j2, j3, j4⟩ | ⟨j3, j4⟩
  · subst j2
    rcases gd0 a2 20 (by omega) with ⟨n, n1, n2, n3, n4⟩ | ⟨n3, n4⟩
    · subst n2
      have n4' : d_P_in (nI n).toInt64 (0 : Int64) (20 : Int64) = some 1 := n4
      have n3' : d_P_outside (nI n) 0 20 = some 0 := n3
      simp only [Option.bind_some, z10, z00, if_true, if_false, j3, j4, n3', n4']
      obtain ⟨r, t', s', b1, b2, b3, b4⟩ := app_lp h3 ec hs I h19 n1 j1 FU 0 u v AgF.rf AgM.rf (by omega) (by show 21 - 0 < 10000; omega)
      exact ⟨r, t', s', b1, b2, h.ag b3 b4⟩
    · have n4' : d_P_in a2.toInt64 (0 : Int64) (20 : Int64) = some 0 := n4
      have n3' : d_P_outside a2 0 20 = some 1 := n3
      simp only [Option.bind_some, z10, z00, if_true, if_false, j3, j4, n3', n4']
      exact ⟨_, _, _, rfl, rfl, h⟩
  · simp only [Option.bind_some, z10, z00, if_true, if_false, j3, j4]
    exact ⟨_, _, _, rfl, rfl, h⟩
