/-! PURE: where to look next -/
theorem dlE2 {α β : Type} (e : α) (k : α → β) : dl e k = k e := rfl
/-- two tallies say the same -/
def TL (N : Nat) (t s : Nat → Nat → Int32) : Prop := ∀ h k w, h < N → 1 ≤ k → k ≤ 9 → w ≤ 99 → t 56 ((9 * h + k - 1) * 100 + w) = s 8 (100 * (10 * h + k) + w)
theorem A4500_fill_ : ∀ (f j : Nat) (t : Nat → Nat → Int32), (∀ i, i < j → t 0 i = 0) → j ≤ 4500 → 4500 - j < f → ∃ t', d_A4500_fill_5 f t 0 (nI j) (nI 4500) = some t' ∧ ∀ i, i < 4500 → t' 0 i = 0 := by
  intro f
  induction f with
  | zero => intro j t _ _ hf; omega
  | succ f ih =>
    intro j t h hj hf
    rw [d_A4500_fill_5]
    by_cases hc : 4500 ≤ j
    · rw [if_pos ((qb_leI (by omega) (by omega)).mpr hc)]
      exact ⟨t, rfl, fun i hi => h i (by omega)⟩
    · rw [if_neg (fun z => hc ((qb_leI (by omega) (by omega)).mp z)), qb_gt (by omega) (by omega), if_pos rfl, qb_cl (by omega), dlE2, k_1, nI_add]
      refine ih (j + 1) _ (fun i hi => ?_) (by omega) (by omega)
      rw [pw_s]
      by_cases q : i = j
      · rw [q, up_s]
      · rw [up_n q]; exact h i (by omega)
theorem M_zero (x1 x2 x3 : Int32) : ∀ (f j : Nat) (t : Nat → Nat → Int32), (∀ i, i < j → t 8 i = 0) → j ≤ 5000 → 5000 - j < f → ∃ t', d_M_look_17 f t x1 x2 x3 (nI j) = d_M_look_42 FU t' x1 x2 x3 0 ∧ (∀ c, c ≠ 8 → t' c = t c) ∧ ∀ i, i < 5000 → t' 8 i = 0 := by
  intro f
  induction f with
  | zero => intro j t _ _ hf; omega
  | succ f ih =>
    intro j t h hj hf
    rw [d_M_look_17, show (5000 : Int32) = nI 5000 from rfl]
    by_cases hc : 5000 ≤ j
    · rw [if_pos ((qb_leI (by omega) (by omega)).mpr hc)]
      exact ⟨t, rfl, fun _ _ => rfl, fun i hi => h i (by omega)⟩
    · rw [if_neg (fun z => hc ((qb_leI (by omega) (by omega)).mp z)), qb_gt (by omega) (by omega), if_pos rfl, qb_cl (by omega), dlE2, dlE2, k_1, nI_add]
      obtain ⟨t', a1, a2, a3⟩ := ih (j + 1) (pw t 8 j 0) (fun i hi => by
        rw [pw_s]
        by_cases q : i = j
        · rw [q, up_s]
        · rw [up_n q]; exact h i (by omega)) (by omega) (by omega)
      exact ⟨t', a1, fun c hc => by rw [a2 c hc, pw_n _ _ _ hc], a3⟩
theorem F_inc {n : Nat} {W : Nat → Nat} (hn : n ≤ 45) (hW : ∀ i, i < n → W i ≤ 99) (kF : (Nat → Nat → Int32) → Int32 → Int32 → Int32 → Int32 → Option (Int32 × (Nat → Nat → Int32))) (x1 x3 x4 : Int32) : ∀ (f j : Nat) (t : Nat → Nat → Int32), (∀ i, i < n → t 55 i = nI (W i)) → j ≤ n → n - j < f → ∃ t', d_F_tallyFitting_66 kF f t x1 (nI n) x3 x4 (nI j) = kF t' x1 (nI n) x3 (x4 + 1) ∧ (∀ c, c ≠ 56 → t' c = t c) ∧ ∀ i w, w ≤ 99 → t' 56 (i * 100 + w) = if j ≤ i ∧ i < n ∧ w = W i then t 56 (i * 100 + w) + 1 else t 56 (i * 100 + w) := by
  intro f
  induction f with
  | zero => intro j t _ _ hf; omega
  | succ f ih =>
    intro j t h hj hf
    rw [d_F_tallyFitting_66]
    by_cases hc : n ≤ j
    · rw [if_pos ((qb_leI (by omega) (by omega)).mpr hc)]
      refine ⟨t, rfl, fun _ _ => rfl, fun i w _ => ?_⟩
      rw [if_neg (by omega)]
    · have hWj := hW j (by omega)
      rw [if_neg (fun z => hc ((qb_leI (by omega) (by omega)).mp z)), qb_gt (show j < 45 by omega) (by omega), if_pos rfl, qb_cl (show j < 2147483648 by omega), h j (by omega), k_100, pk_mul, nI_add, qb_gt (show j * 100 + W j < 4500 by omega) (by omega), if_pos rfl, if_pos rfl, qb_cl (show j * 100 + W j < 2147483648 by omega), dlE2, dlE2, show nI j + (1 : Int32) = nI (j + 1) from nI_add j 1]
      obtain ⟨t', a1, a2, a3⟩ := ih (j + 1) (pw t 56 (j * 100 + W j) (t 56 (j * 100 + W j) + 1)) (fun i hi => by rw [pw_n _ _ _ (by omega)]; exact h i hi) (by omega) (by omega)
      refine ⟨t', a1, fun c hc => by rw [a2 c hc, pw_n _ _ _ hc], fun i w hw => ?_⟩
      rw [a3 i w hw, pw_s]
      by_cases q : i = j
      · subst q
        rw [if_neg (by omega)]
        by_cases q2 : w = W i
        · rw [if_pos ⟨by omega, by omega, q2⟩, q2, up_s]
        · rw [if_neg (by omega), up_n (by omega)]
      · rw [up_n (by omega)]
        by_cases q2 : j + 1 ≤ i ∧ i < n ∧ w = W i
        · rw [if_pos q2, if_pos ⟨by omega, q2.2⟩]
        · rw [if_neg q2, if_neg (by omega)]
theorem M_inc_in {h : Nat} {W : Nat → Nat} (hh : h < 5) (hW : ∀ k, 1 ≤ k → k ≤ 9 → W k ≤ 99) (k42 : (Nat → Nat → Int32) → Int32 → Int32 → Int32 → Int32 → Option (Int32 × (Nat → Nat → Int32))) (k66 : (Nat → Nat → Int32) → Int32 → Int32 → Int32 → Int32 → Int32 → Option (Int32 × (Nat → Nat → Int32))) (x1 x2 x3 x4 : Int32) : ∀ (f k : Nat) (s : Nat → Nat → Int32), (∀ k, 1 ≤ k → k ≤ 9 → s 7 (10 * h + k) = nI (W k)) → 1 ≤ k → k ≤ 10 → 10 - k < f → ∃ s', d_M_look_78 k42 k66 f s x1 x2 x3 x4 (nI h) (nI k) = k66 s' x1 x2 x3 x4 (nI (h + 1)) ∧ (∀ c, c ≠ 8 → s' c = s c) ∧ ∀ h' k' w, 1 ≤ k' → k' ≤ 9 → w ≤ 99 → s' 8 (100 * (10 * h' + k') + w) = if h' = h ∧ k ≤ k' ∧ w = W k' then s 8 (100 * (10 * h' + k') + w) + 1 else s 8 (100 * (10 * h' + k') + w) := by
  intro f
  induction f with
  | zero => intro k s _ _ _ hf; omega
  | succ f ih =>
    intro k s hs hk hk2 hf
    rw [d_M_look_78, k_9]
    by_cases hc : 9 < k
    · rw [if_pos ((qb_ltI (by omega) (by omega)).mpr hc), dlE2, k_1, nI_add]
      refine ⟨s, rfl, fun _ _ => rfl, fun h' k' w _ _ _ => ?_⟩
      rw [if_neg (by omega)]
    · have hWk := hW k hk (by omega)
      have e1 : (10 : Int32) * nI h + nI k = nI (10 * h + k) := by rw [k_10, pk_mul, nI_add]
      rw [if_neg (fun z => hc ((qb_ltI (by omega) (by omega)).mp z)), e1, qb_gt (show 10 * h + k < 50 by omega) (by omega), if_pos rfl, qb_cl (show 10 * h + k < 2147483648 by omega), hs k hk (by omega), k_100, pk_mul, nI_add, qb_gt (show 100 * (10 * h + k) + W k < 5000 by omega) (by omega), if_pos rfl, if_pos rfl, qb_cl (show 100 * (10 * h + k) + W k < 2147483648 by omega), dlE2, dlE2, dlE2, show nI k + (1 : Int32) = nI (k + 1) from nI_add k 1]
      obtain ⟨t', a1, a2, a3⟩ := ih (k + 1) (pw s 8 (100 * (10 * h + k) + W k) (s 8 (100 * (10 * h + k) + W k) + 1)) (fun i h1 h2 => by rw [pw_n _ _ _ (by omega)]; exact hs i h1 h2) (by omega) (by omega) (by omega)
      refine ⟨t', a1, fun c hc => by rw [a2 c hc, pw_n _ _ _ hc], fun h' k' w h1 h2 hw => ?_⟩
      rw [a3 h' k' w h1 h2 hw, pw_s]
      by_cases q : h' = h ∧ k' = k
      · obtain ⟨q1, q2⟩ := q
        subst q1; subst q2
        rw [if_neg (by omega)]
        by_cases q2 : w = W k'
        · rw [if_pos ⟨rfl, by omega, q2⟩, q2, up_s]
        · rw [if_neg (by omega), up_n (by omega)]
      · rw [up_n (by omega)]
        by_cases q2 : h' = h ∧ k + 1 ≤ k' ∧ w = W k'
        · rw [if_pos q2, if_pos ⟨q2.1, by omega, q2.2.2⟩]
        · rw [if_neg q2, if_neg (by omega)]
theorem M_inc {N : Nat} {W : Nat → Nat → Nat} (hN : N ≤ 5) (hW : ∀ h k, h < N → W h k ≤ 99) (k42 : (Nat → Nat → Int32) → Int32 → Int32 → Int32 → Int32 → Option (Int32 × (Nat → Nat → Int32))) (x1 x2 x3 x4 : Int32) : ∀ (f h : Nat) (s : Nat → Nat → Int32), s 0 3 = nI N → (∀ h k, h < N → 1 ≤ k → k ≤ 9 → s 7 (10 * h + k) = nI (W h k)) → h ≤ N → N - h < f → ∃ s', d_M_look_66 k42 f s x1 x2 x3 x4 (nI h) = k42 s' x1 x2 x3 (x4 + 1) ∧ (∀ c, c ≠ 8 → s' c = s c) ∧ ∀ h' k' w, 1 ≤ k' → k' ≤ 9 → w ≤ 99 → s' 8 (100 * (10 * h' + k') + w) = if h ≤ h' ∧ h' < N ∧ w = W h' k' then s 8 (100 * (10 * h' + k') + w) + 1 else s 8 (100 * (10 * h' + k') + w) := by
  intro f
  induction f with
  | zero => intro k s _ _ _ hf; omega
  | succ f ih =>
    intro h s s3 hs hh hf
    rw [d_M_look_66, s3]
    by_cases hc : N ≤ h
    · rw [if_pos ((qb_leI (by omega) (by omega)).mpr hc)]
      refine ⟨s, rfl, fun _ _ => rfl, fun h' k' w _ _ _ => ?_⟩
      rw [if_neg (by omega)]
    · rw [if_neg (fun z => hc ((qb_leI (by omega) (by omega)).mp z))]
      obtain ⟨s1, a1, a2, a3⟩ := M_inc_in (h := h) (W := W h) (by omega) (fun k _ _ => hW h k (by omega)) k42 (d_M_look_66 k42 f) x1 x2 x3 x4 FU 1 s (fun k h1 h2 => hs h k (by omega) h1 h2) (by omega) (by omega) (by show 10 - 1 < 10000; omega)
      have a1' : d_M_look_78 k42 (d_M_look_66 k42 f) FU s x1 x2 x3 x4 (nI h) 1 = d_M_look_66 k42 f s1 x1 x2 x3 x4 (nI (h + 1)) := a1
      rw [a1']
      obtain ⟨s2, b1, b2, b3⟩ := ih (h + 1) s1 (by rw [a2 0 (by omega)]; exact s3) (fun h k h0 h1 h2 => by rw [a2 7 (by omega)]; exact hs h k h0 h1 h2) (by omega) (by omega)
      refine ⟨s2, b1, fun c hc => by rw [b2 c hc, a2 c hc], fun h' k' w h1 h2 hw => ?_⟩
      rw [b3 h' k' w h1 h2 hw, a3 h' k' w h1 h2 hw]
      by_cases q : h' = h
      · subst q
        rw [if_neg (by omega)]
        by_cases q2 : w = W h' k'
        · rw [if_pos ⟨rfl, h1, q2⟩, if_pos ⟨by omega, by omega, q2⟩]
        · rw [if_neg (fun z => q2 z.2.2), if_neg (fun z => q2 z.2.2)]
      · rw [if_neg (fun z : h' = h ∧ 1 ≤ k' ∧ w = W h k' => q z.1)]
        by_cases q2 : h + 1 ≤ h' ∧ h' < N ∧ w = W h' k'
        · rw [if_pos q2, if_pos ⟨by omega, q2.2⟩]
        · rw [if_neg q2, if_neg (fun z => q2 ⟨by omega, z.2⟩)]
theorem look_tally {u v : Nat → Nat → Int32} {N z : Nat} {G : Nat → Nat} {p q r : Nat → Nat} (h3 : v 0 3 = nI N) (ec : EC (sh u 11) N G 0 0) (hs : ∀ i, i < 22 → v 1 i = nI (G i)) (I : sInv N G) (h19 : G 19 ≤ 999) (hz : z ≤ 6) (u2 : u 21 3 = nI z) (v2 : v 1 22 = nI z) (z4 : ∀ i, i < z → p i < N ∧ 1 ≤ q i ∧ q i ≤ 9 ∧ r i ≤ 99 ∧ u 22 i = nI (p i) ∧ u 23 i = nI (q i) ∧ u 24 i = nI (r i) ∧ v 1 (23 + 3 * i) = nI (p i) ∧ v 1 (24 + 3 * i) = nI (q i) ∧ v 1 (25 + 3 * i) = nI (r i)) (a1 x : Int32) : ∀ (f m : Nat) (c : Int32) (t s : Nat → Nat → Int32), AgF u t → AgM v s → TL N t s → m ≤ 2 ^ (2 * N) → 2 ^ (2 * N) - m < f → ∃ c' t' s', d_F_tallyFitting_32 f t (nI (2 ^ (2 * N))) (nI (N * 9)) c (nI m) = some (c', t') ∧ d_M_look_42 f s a1 c x (nI m) = d_M_look_140 FU s' a1 c' x 0 ∧ AgF u t' ∧ AgM v s' ∧ TL N t' s' := by
  intro f
  induction f with
  | zero => intro m c t s _ _ _ _ hf; omega
  | succ f ih =>
    intro m c t s hF hM hT hm hf
    have hN := I.1
    have p4 := pow4 N hN
    have e3 : s 0 3 = nI N := by rw [hM 0 (by omega) (by omega) (by omega)]; exact h3
    rw [d_F_tallyFitting_32, d_M_look_42]
    unfold d_M_numbers
    rw [e3, k_2, pk_mul, p4.2.2, Option.bind_some]
    by_cases hc : 2 ^ (2 * N) ≤ m
    · rw [if_pos ((qb_leI (by omega) (by omega)).mpr hc), if_pos ((qb_leI (by omega) (by omega)).mpr hc)]
      exact ⟨c, t, s, rfl, rfl, hF, hM, hT⟩
    · have hc' : ¬ nI (2 ^ (2 * N)) ≤ nI m := fun z => hc ((qb_leI (by omega) (by omega)).mp z)
      rw [if_neg hc', if_neg hc']
      obtain ⟨t1, a1', a2', a3, a4⟩ := F_try (m := m) (x := 9) ec I h19 (by omega) (by omega) hF
      have a1'' : d_F_tryKinds t (nI m) 9 = some t1 := a1'
      have fg := F_agree (t := t1) (m := m) (x := 9) (z := z) (p := p) (q := q) (r := r) I hz (by omega) (by rw [a2' 21 (by omega) (by omega)]; exact u2) (fun i hi => by
        obtain ⟨w1, w2, w3, w4, w5, w6, w7, -⟩ := z4 i hi
        rw [a2' 22 (by omega) (by omega), a2' 23 (by omega) (by omega), a2' 24 (by omega) (by omega)]
        exact ⟨w1, w2, w3, w4, w5, w6, w7⟩) a3 FU 0 (fun i hi => by omega) (by omega) (by show z - 0 < 10000; omega)
      have fg' : d_GL_agreesWith (sj (sh t1 21) (sh t1 55) 4) = some (if fitP N G p q r m z then 1 else 0) := fg
      obtain ⟨s1, b1, b2, b3, b4, b5⟩ := M_isFit (m := m) (z := z) (p := p) (q := q) (r := r) h3 hs I h19 (by omega) hz v2 (fun i hi => by
        obtain ⟨w1, w2, w3, w4, w5, w6, w7, w8⟩ := z4 i hi
        exact ⟨w1, w2, w3, w4, w8⟩) hM
      rw [a1'', Option.bind_some, fg', Option.bind_some, b1, Option.bind_some]
      have em : nI m + (1 : Int32) = nI (m + 1) := nI_add m 1
      have hT1 : TL N t1 s1 := fun h k w h1 h2 h3 h4 => by rw [a4, b5]; exact hT h k w h1 h2 h3 h4
      by_cases hfit : fitP N G p q r m z
      · simp only [if_pos hfit, z10, if_false]
        rw [dlE2, dlE2]
        obtain ⟨t2, c1, c2, c3⟩ := F_inc (n := N * 9) (W := fun i => sW N G m (i / 9) (i % 9 + 1)) (by omega) (fun i hi => sW_le I (by omega)) (d_F_tallyFitting_32 f) (nI (2 ^ (2 * N))) (c + 1) (nI m) FU 0 t1 (fun i hi => by
          have := a3 (i / 9) (i % 9 + 1) (by omega) (by omega) (by omega)
          rw [show 9 * (i / 9) + (i % 9 + 1) - 1 = i by omega] at this
          exact this) (by omega) (by show N * 9 - 0 < 10000; omega)
        obtain ⟨s2, d1, d2, d3⟩ := M_inc (N := N) (W := fun h k => sW N G m h k) hN (fun h k hh => sW_le I (by omega)) (d_M_look_42 f) a1 (c + 1) x (nI m) FU 0 s1 (by rw [b2 0 (by omega) (by omega) (by omega)]; exact h3) b3 (by omega) (by show N - 0 < 10000; omega)
        have c1' : d_F_tallyFitting_66 (d_F_tallyFitting_32 f) FU t1 (nI (2 ^ (2 * N))) (nI (N * 9)) (c + 1) (nI m) 0 = d_F_tallyFitting_32 f t2 (nI (2 ^ (2 * N))) (nI (N * 9)) (c + 1) (nI m + 1) := c1
        have d1' : d_M_look_66 (d_M_look_42 f) FU s1 a1 (c + 1) x (nI m) 0 = d_M_look_42 f s2 a1 (c + 1) x (nI m + 1) := d1
        rw [c1', d1', em]
        refine ih (m + 1) (c + 1) t2 s2 (fun i i1 i2 => by rw [c2 i (by omega)]; exact a2' i i1 i2) (fun i i1 i2 i3 => by rw [d2 i i3]; exact b2 i i1 i2 i3) (fun h k w h1 h2 h4 h5 => ?_) (by omega) (by omega)
        rw [c3 _ _ h5, d3 _ _ _ h2 h4 h5, hT1 h k w h1 h2 h4 h5]
        have e : (9 * h + k - 1) / 9 = h := by omega
        have e' : (9 * h + k - 1) % 9 + 1 = k := by omega
        simp only [e, e']
        by_cases qq : w = sW N G m h k
        · rw [if_pos ⟨by omega, by omega, qq⟩, if_pos ⟨by omega, by omega, qq⟩]
        · rw [if_neg (fun z => qq z.2.2), if_neg (fun z => qq z.2.2)]
      · simp only [if_neg hfit, z00, if_true]
        unfold d_F_tallyFitting_100 d_M_look_131
        rw [dlE2, dlE2, em]
        exact ih (m + 1) c t1 s1 a2' b2 hT1 (by omega) (by omega)
def mxr (row : Nat → Int32) : Nat → Nat → Int32 → Int32
  | 0, _, x => x
  | c + 1, j, x => mxr row c (j + 1) (if x < row j then row j else x)
theorem mxr_c {row row' : Nat → Int32} : ∀ (c j : Nat) (x : Int32), (∀ i, j ≤ i → i < j + c → row i = row' i) → mxr row c j x = mxr row' c j x := by
  intro c
  induction c with
  | zero => intro j x _; rfl
  | succ c ih => intro j x h; rw [mxr, mxr, h j (by omega) (by omega)]; exact ih _ _ (fun i h1 h2 => h i (by omega) (by omega))
theorem F_row {u : Nat → Nat → Int32} {s : Nat} (hs : s < 45) : ∀ (f j : Nat) (x : Int32), j ≤ 100 → 100 - j < f → d_F_mostInRow_10 f u (nI (s * 100)) x (nI j) = some (mxr (fun i => u 56 (s * 100 + i)) (100 - j) j x) := by
  intro f
  induction f with
  | zero => intro j x _ hf; omega
  | succ f ih =>
    intro j x hj hf
    rw [d_F_mostInRow_10, k_99]
    by_cases hc : 99 < j
    · rw [if_pos ((qb_ltI (by omega) (by omega)).mpr hc), show 100 - j = 0 by omega]; rfl
    · rw [if_neg (fun z => hc ((qb_ltI (by omega) (by omega)).mp z)), nI_add, qb_gt (show s * 100 + j < 4500 by omega) (by omega), if_pos rfl, qb_cl (show s * 100 + j < 2147483648 by omega), show 100 - j = (100 - (j + 1)) + 1 by omega, mxr]
      unfold d_P_max
      by_cases hq : x < u 56 (s * 100 + j)
      · rw [if_pos hq, Option.bind_some, dlE2, k_1, nI_add, if_pos hq]
        exact ih (j + 1) _ (by omega) (by omega)
      · rw [if_neg hq, Option.bind_some, dlE2, k_1, nI_add, if_neg hq]
        exact ih (j + 1) _ (by omega) (by omega)
theorem M_row {v : Nat → Nat → Int32} {h k : Nat} (hh : h < 5) (hk : k ≤ 9) (k140 : (Nat → Nat → Int32) → Int32 → Int32 → Int32 → Int32 → Option (Int32 × (Nat → Nat → Int32))) (k152 : (Nat → Nat → Int32) → Int32 → Int32 → Int32 → Int32 → Int32 → Option (Int32 × (Nat → Nat → Int32))) (x1 x2 x3 : Int32) : ∀ (f j : Nat) (x : Int32), j ≤ 100 → 100 - j < f → d_M_look_165 k140 k152 f v x1 x2 x3 (nI h) (nI k) x (nI j) = if x2 ≤ mxr (fun i => v 8 (100 * (10 * h + k) + i)) (100 - j) j x then k152 v x1 x2 x3 (nI h) (nI (k + 1)) else k152 v x1 (mxr (fun i => v 8 (100 * (10 * h + k) + i)) (100 - j) j x) (nI (10 * h + k)) (nI h) (nI (k + 1)) := by
  intro f
  induction f with
  | zero => intro j x _ hf; omega
  | succ f ih =>
    intro j x hj hf
    have e1 : (10 : Int32) * nI h + nI k = nI (10 * h + k) := by rw [k_10, pk_mul, nI_add]
    rw [d_M_look_165, k_99, e1]
    by_cases hc : 99 < j
    · rw [if_pos ((qb_ltI (by omega) (by omega)).mpr hc), show 100 - j = 0 by omega, mxr]
      unfold d_M_look_233 d_P_lesser
      by_cases hq : x2 ≤ x
      · rw [if_pos hq, if_pos hq, if_pos hq, Option.bind_some, dlE2, k_1, nI_add]
      · rw [if_neg hq, if_neg hq, if_neg hq, Option.bind_some, dlE2, k_1, nI_add]
    · rw [if_neg (fun z => hc ((qb_ltI (by omega) (by omega)).mp z)), k_100, pk_mul, nI_add, qb_gt (show 100 * (10 * h + k) + j < 5000 by omega) (by omega), if_pos rfl, qb_cl (show 100 * (10 * h + k) + j < 2147483648 by omega), show 100 - j = (100 - (j + 1)) + 1 by omega, mxr, dlE2]
      unfold d_M_look_207
      rw [dlE2, dlE2, k_1, nI_add]
      by_cases hq : x < v 8 (100 * (10 * h + k) + j)
      · rw [if_neg (Int32.not_le.mpr hq), if_pos hq]
        exact ih (j + 1) _ (by omega) (by omega)
      · rw [if_pos (Int32.not_lt.mp hq), if_neg hq]
        exact ih (j + 1) _ (by omega) (by omega)
theorem look_k {t s : Nat → Nat → Int32} {N h : Nat} (hT : TL N t s) (hN : N ≤ 5) (hh : h < N) (kF kM : (Nat → Nat → Int32) → Int32 → Int32 → Int32 → Int32 → Option (Int32 × (Nat → Nat → Int32))) (x1 : Int32) : ∀ (f k : Nat) (x2 x3 : Int32), 1 ≤ k → k ≤ 10 → 10 - k < f → ∃ y2 y3, d_F_look_37 kF f t x1 x2 x3 (nI h) (nI k) = kF t x1 y2 y3 (nI (h + 1)) ∧ d_M_look_152 kM f s x1 x2 x3 (nI h) (nI k) = kM s x1 y2 y3 (nI (h + 1)) := by
  intro f
  induction f with
  | zero => intro k x2 x3 _ _ hf; omega
  | succ f ih =>
    intro k x2 x3 hk hk2 hf
    rw [d_F_look_37, d_M_look_152, k_9]
    by_cases hc : 9 < k
    · rw [if_pos ((qb_ltI (by omega) (by omega)).mpr hc), if_pos ((qb_ltI (by omega) (by omega)).mpr hc), dlE2, dlE2, k_1, nI_add]
      exact ⟨x2, x3, rfl, rfl⟩
    · have hc' : ¬ nI 9 < nI k := fun z => hc ((qb_ltI (by omega) (by omega)).mp z)
      rw [if_neg hc', if_neg hc', slot_ hk, Option.bind_some]
      have a := F_row (u := t) (s := 9 * h + k - 1) (by omega) FU 0 0 (by omega) (by show 100 - 0 < 10000; omega)
      have b := M_row (v := s) (h := h) (k := k) (by omega) (by omega) kM (d_M_look_152 kM f) x1 x2 x3 FU 0 0 (by omega) (by show 100 - 0 < 10000; omega)
      have a' : d_F_mostInRow t (nI (9 * h + k - 1)) = some (mxr (fun i => t 56 ((9 * h + k - 1) * 100 + i)) (100 - 0) 0 0) := by
        unfold d_F_mostInRow
        rw [dlE2, k_100, pk_mul]
        exact a
      have b' : d_M_look_165 kM (d_M_look_152 kM f) FU s x1 x2 x3 (nI h) (nI k) 0 0 = _ := b
      have em : mxr (fun i => t 56 ((9 * h + k - 1) * 100 + i)) (100 - 0) 0 0 = mxr (fun i => s 8 (100 * (10 * h + k) + i)) (100 - 0) 0 0 := mxr_c _ _ _ (fun i _ hi => hT h k i hh hk (by omega) (by omega))
      have e1 : (10 : Int32) * nI h + nI k = nI (10 * h + k) := by rw [k_10, pk_mul, nI_add]
      rw [a', Option.bind_some, b', em, e1]
      unfold d_F_look_75
      by_cases hq : x2 ≤ mxr (fun i => s 8 (100 * (10 * h + k) + i)) (100 - 0) 0 0
      · rw [if_pos hq, if_pos hq, dlE2, show nI k + (1 : Int32) = nI (k + 1) from nI_add k 1]
        exact ih (k + 1) _ _ (by omega) (by omega) (by omega)
      · rw [if_neg hq, if_neg hq, dlE2, dlE2, show nI k + (1 : Int32) = nI (k + 1) from nI_add k 1]
        exact ih (k + 1) _ _ (by omega) (by omega) (by omega)
theorem look_h {t s : Nat → Nat → Int32} {N : Nat} (hT : TL N t s) (hN : N ≤ 5) (e4 : t 11 4 = nI N) (e3 : s 0 3 = nI N) (x1 : Int32) : ∀ (f h : Nat) (x2 x3 : Int32), h ≤ N → N - h < f → ∃ r, d_F_look_22 f t x1 x2 x3 (nI h) = some (r, t) ∧ d_M_look_140 f s x1 x2 x3 (nI h) = some (r, s) := by
  intro f
  induction f with
  | zero => intro h x2 x3 _ hf; omega
  | succ f ih =>
    intro h x2 x3 hh hf
    rw [d_F_look_22, d_M_look_140, e4, e3]
    by_cases hc : N ≤ h
    · rw [if_pos ((qb_leI (by omega) (by omega)).mpr hc), if_pos ((qb_leI (by omega) (by omega)).mpr hc)]
      by_cases q : x3 = -4
      · rw [if_pos q, if_pos q]; exact ⟨_, rfl, rfl⟩
      · rw [if_neg q, if_neg q]
        by_cases q1 : x1 = 0
        · rw [if_pos q1, if_pos q1]; exact ⟨_, rfl, rfl⟩
        · rw [if_neg q1, if_neg q1]; exact ⟨_, rfl, rfl⟩
    · have hc' : ¬ nI N ≤ nI h := fun z => hc ((qb_leI (by omega) (by omega)).mp z)
      rw [if_neg hc', if_neg hc']
      obtain ⟨y2, y3, a, b⟩ := look_k (h := h) hT hN (by omega) (d_F_look_22 f) (d_M_look_140 f) x1 FU 1 x2 x3 (by omega) (by omega) (by show 10 - 1 < 10000; omega)
      have a' : d_F_look_37 (d_F_look_22 f) FU t x1 x2 x3 (nI h) 1 = _ := a
      have b' : d_M_look_152 (d_M_look_140 f) FU s x1 x2 x3 (nI h) 1 = _ := b
      rw [a', b']
      exact ih (h + 1) y2 y3 (by omega) (by omega)
theorem p_look (u v : Nat → Nat → Int32) (a1 : Int32) (h : Rel u v) : ∃ (r : Int32) (u2 : Nat → Nat → Int32) (v2 : Nat → Nat → Int32), d_F_look u a1 = some (r, u2) ∧ d_M_look v a1 = some (r, v2) ∧ Rel u2 v2 := by
  obtain ⟨N, g, h3, ⟨ec, hs, I, h19, h20⟩, hR⟩ := id h
  have hN := I.1
  have p4 := pow4 N hN
  obtain ⟨z, p, q, r, z1, z2, z3, z4⟩ := hR.sn
  unfold d_F_look d_M_look
  rcases prt a1 with ⟨i, i1, i2, i3, i4⟩ | ⟨i3, i4⟩
  · rw [i3, i4, Option.bind_some, Option.bind_some, if_pos rfl, if_neg (by decide)]
    obtain ⟨t1, a1', a2⟩ := A4500_fill_ FU 0 (sh u 56) (fun i hi => by omega) (by omega) (by show 4500 - 0 < 10000; omega)
    have a1'' : d_A4500_fill (sh u 56) 0 = some t1 := a1'
    obtain ⟨s1, b1, b2, b3⟩ := M_zero a1 0 (-4) FU 0 v (fun i hi => by omega) (by omega) (by show 5000 - 0 < 10000; omega)
    have b1' : d_M_look_17 FU v a1 0 (-4) 0 = _ := b1
    have hF : AgF u (pt u 56 1 t1) := fun c h1 h2 => pt_out (by omega)
    have hM : AgM v s1 := fun c h1 h2 h3 => b2 c h3
    have hT : TL N (pt u 56 1 t1) s1 := fun h k w h1 h2 h3 h4 => by
      rw [pt_at (by omega) (by omega), b3 _ (by omega), Nat.sub_self, a2 _ (by omega)]
    obtain ⟨c', t', s', d1, d2, d3, d4, d5⟩ := look_tally (p := p) (q := q) (r := r) h3 ec hs I h19 z1 z2 z3 z4 a1 (-4) FU 0 0 _ _ hF hM hT (by omega) (by show 2 ^ (2 * N) - 0 < 10000; omega)
    have e4' : sh (pt u 56 1 t1) 11 0 4 = nI N := by
      show pt u 56 1 t1 11 4 = nI N
      rw [pt_out (by omega)]; exact ec.1
    have e4 : u 11 4 = nI N := ec.1
    have ft : d_F_tallyFitting u = some (c', t') := by
      unfold d_F_tallyFitting d_C_allKinds
      rw [a1'', Option.bind_some, e4', k_2, pk_mul, p4.2.2, Option.bind_some, dlE2, e4, k_9, pk_mul]
      exact d1
    have d2' : d_M_look_42 FU s1 a1 0 (-4) 0 = d_M_look_140 FU s' a1 c' (-4) 0 := d2
    obtain ⟨r', w1, w2⟩ := look_h d5 hN (by rw [d3 11 (by omega) (by omega)]; exact e4) (by rw [d4 0 (by omega) (by omega) (by omega)]; exact h3) a1 FU 0 c' (-4) (by omega) (by show N - 0 < 10000; omega)
    rw [ft, Option.bind_some, b1', d2']
    exact ⟨r', t', s', w1, w2, h.ag d3 d4⟩
  · rw [i3, i4, Option.bind_some, Option.bind_some, if_neg (by decide), if_pos rfl]
    exact ⟨_, _, _, rfl, rfl, h⟩
