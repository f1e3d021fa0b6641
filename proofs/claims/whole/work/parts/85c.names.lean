/-! PURE: names of lines -/
def W4 (b : Nat → Nat) (s e : Nat) (c0 c1 c2 c3 : Int32) : Prop := e = s + 4 ∧ nI (b s) = c0 ∧ nI (b (s + 1)) = c1 ∧ nI (b (s + 2)) = c2 ∧ nI (b (s + 3)) = c3
def W5 (b : Nat → Nat) (s e : Nat) (c0 c1 c2 c3 c4 : Int32) : Prop := e = s + 5 ∧ nI (b s) = c0 ∧ nI (b (s + 1)) = c1 ∧ nI (b (s + 2)) = c2 ∧ nI (b (s + 3)) = c3 ∧ nI (b (s + 4)) = c4
def W6 (b : Nat → Nat) (s e : Nat) (c0 c1 c2 c3 c4 c5 : Int32) : Prop := e = s + 6 ∧ nI (b s) = c0 ∧ nI (b (s + 1)) = c1 ∧ nI (b (s + 2)) = c2 ∧ nI (b (s + 3)) = c3 ∧ nI (b (s + 4)) = c4 ∧ nI (b (s + 5)) = c5
/-- a line's number by its name -/
def LN (b : Nat → Nat) (s e L : Nat) : Prop :=
  (W6 b s e 112 111 108 105 116 101 ∧ L = 0) ∨ (¬ W6 b s e 112 111 108 105 116 101 ∧
  ((W4 b s e 114 117 100 101 ∧ L = 1) ∨ (¬ W4 b s e 114 117 100 101 ∧
  ((W4 b s e 100 101 97 102 ∧ L = 2) ∨ (¬ W4 b s e 100 101 97 102 ∧
  ((W4 b s e 99 111 111 107 ∧ L = 3) ∨ (¬ W4 b s e 99 111 111 107 ∧
  ((W4 b s e 102 105 114 101 ∧ L = 4) ∨ (¬ W4 b s e 102 105 114 101 ∧
  ((W4 b s e 114 97 105 110 ∧ L = 5) ∨ (¬ W4 b s e 114 97 105 110 ∧
  ((W5 b s e 111 102 102 101 114 ∧ L = 6) ∨ (¬ W5 b s e 111 102 102 101 114 ∧ L = 7)))))))))))))
theorem LN_ex (b : Nat → Nat) (s e : Nat) : ∃ L, L ≤ 7 ∧ LN b s e L := by
  unfold LN
  by_cases q0 : W6 b s e 112 111 108 105 116 101
  · exact ⟨0, by omega, Or.inl ⟨q0, rfl⟩⟩
  by_cases q1 : W4 b s e 114 117 100 101
  · exact ⟨1, by omega, Or.inr ⟨q0, Or.inl ⟨q1, rfl⟩⟩⟩
  by_cases q2 : W4 b s e 100 101 97 102
  · exact ⟨2, by omega, Or.inr ⟨q0, Or.inr ⟨q1, Or.inl ⟨q2, rfl⟩⟩⟩⟩
  by_cases q3 : W4 b s e 99 111 111 107
  · exact ⟨3, by omega, Or.inr ⟨q0, Or.inr ⟨q1, Or.inr ⟨q2, Or.inl ⟨q3, rfl⟩⟩⟩⟩⟩
  by_cases q4 : W4 b s e 102 105 114 101
  · exact ⟨4, by omega, Or.inr ⟨q0, Or.inr ⟨q1, Or.inr ⟨q2, Or.inr ⟨q3, Or.inl ⟨q4, rfl⟩⟩⟩⟩⟩⟩
  by_cases q5 : W4 b s e 114 97 105 110
  · exact ⟨5, by omega, Or.inr ⟨q0, Or.inr ⟨q1, Or.inr ⟨q2, Or.inr ⟨q3, Or.inr ⟨q4, Or.inl ⟨q5, rfl⟩⟩⟩⟩⟩⟩⟩
  by_cases q6 : W5 b s e 111 102 102 101 114
  · exact ⟨6, by omega, Or.inr ⟨q0, Or.inr ⟨q1, Or.inr ⟨q2, Or.inr ⟨q3, Or.inr ⟨q4, Or.inr ⟨q5, Or.inl ⟨q6, rfl⟩⟩⟩⟩⟩⟩⟩⟩
  · exact ⟨7, by omega, Or.inr ⟨q0, Or.inr ⟨q1, Or.inr ⟨q2, Or.inr ⟨q3, Or.inr ⟨q4, Or.inr ⟨q5, Or.inr ⟨q6, rfl⟩⟩⟩⟩⟩⟩⟩⟩
theorem T_nm {b : Nat → Nat} {t s e k n : Nat} {c : Nat → Nat → Int32} (B : BT b t) (h : TP b t c) (h1 : c 0 1 = nI e) (h3 : c 0 3 = nI s) (het : e ≤ t) (hk : ab_len.getD k 0 = n) (hn : n ≤ 6) (he : e = s + n) : ∀ (f j : Nat), j ≤ n → n - j < f → ((∀ i, j ≤ i → i < n → nI (b (s + i)) = ab_ch k i) → d_T_nameIs_23 k f c (nI (s + j)) = some 1) ∧ ((¬ ∀ i, j ≤ i → i < n → nI (b (s + i)) = ab_ch k i) → d_T_nameIs_23 k f c (nI (s + j)) = some 0) := by
  have h160 := B.1
  intro f
  induction f with
  | zero => intro j _ hf; omega
  | succ f ih =>
    intro j hj hf
    rw [d_T_nameIs_23, h1, h3, hk]
    by_cases hc : e ≤ s + j
    · rw [if_pos ((qb_leI (by omega) (by omega)).mpr hc)]
      exact ⟨fun _ => rfl, fun z => absurd (fun i h1 h2 => by omega) z⟩
    · rw [if_neg (fun z => hc ((qb_leI (by omega) (by omega)).mp z)), qb_gt (show s + j < 160 by omega) (by omega), if_pos rfl, pk_sub (by omega), show s + j - s = j by omega, qb_gt (show j < n by omega) (by omega), if_pos rfl, qb_cl (show s + j < 2147483648 by omega), qb_cl (show j < 2147483648 by omega), h.2 _ (by omega)]
      by_cases q : nI (b (s + j)) = ab_ch k j
      · rw [if_pos q]
        simp only [dl]
        rw [show nI (s + j) + (1 : Int32) = nI (s + (j + 1)) from nI_add (s + j) 1]
        obtain ⟨a1, a2⟩ := ih (j + 1) (by omega) (by omega)
        refine ⟨fun z => a1 (fun i h1 h2 => z i (by omega) h2), fun z => a2 (fun y => z (fun i h1 h2 => ?_))⟩
        by_cases qi : i = j
        · subst qi; exact q
        · exact y i (by omega) h2
      · rw [if_neg q]
        exact ⟨fun z => absurd (z j (Nat.le_refl _) (by omega)) q, fun _ => rfl⟩
theorem T_name {b : Nat → Nat} {t s e k n : Nat} {c : Nat → Nat → Int32} (B : BT b t) (h : TP b t c) (h1 : c 0 1 = nI e) (h3 : c 0 3 = nI s) (hse : s ≤ e) (het : e ≤ t) (hk : ab_len.getD k 0 = n) (hn : n ≤ 6) {W : Prop} (hW : W ↔ (e = s + n ∧ ∀ i, i < n → nI (b (s + i)) = ab_ch k i)) : (W → d_T_nameIs c k = some 1) ∧ (¬ W → d_T_nameIs c k = some 0) := by
  have h160 := B.1
  unfold d_T_nameIs
  simp only [dl]
  rw [h1, h3, hk, pk_sub hse]
  have hI : (nI (e - s) = Int32.ofNat n) ↔ e - s = n := qb_eqI (by omega) (by omega)
  by_cases q : e - s = n
  · rw [if_pos (hI.mpr q)]
    have a := T_nm B h h1 h3 het hk hn (by omega) FU 0 (by omega) (by show n - 0 < 10000; omega)
    exact ⟨fun w => a.1 (fun i _ hi => (hW.mp w).2 i hi), fun w => a.2 (fun y => w (hW.mpr ⟨by omega, fun i hi => y i (by omega) hi⟩))⟩
  · rw [if_neg (fun z => q (hI.mp z))]
    exact ⟨fun w => by have := (hW.mp w).1; omega, fun _ => rfl⟩
theorem W4_i {b : Nat → Nat} {s e k : Nat} {c0 c1 c2 c3 : Int32} (h0 : ab_ch k 0 = c0) (h1 : ab_ch k 1 = c1) (h2 : ab_ch k 2 = c2) (h3 : ab_ch k 3 = c3) : W4 b s e c0 c1 c2 c3 ↔ (e = s + 4 ∧ ∀ i, i < 4 → nI (b (s + i)) = ab_ch k i) := by
  subst h0; subst h1; subst h2; subst h3
  unfold W4
  refine ⟨fun ⟨a, b0, b1, b2, b3⟩ => ⟨a, fun i hi => ?_⟩, fun ⟨a, z⟩ => ⟨a, z 0 (by omega), z 1 (by omega), z 2 (by omega), z 3 (by omega)⟩⟩
  rcases (show i = 0 ∨ i = 1 ∨ i = 2 ∨ i = 3 by omega) with q | q | q | q <;> subst q
  · exact b0
  · exact b1
  · exact b2
  · exact b3
theorem W5_i {b : Nat → Nat} {s e k : Nat} {c0 c1 c2 c3 c4 : Int32} (h0 : ab_ch k 0 = c0) (h1 : ab_ch k 1 = c1) (h2 : ab_ch k 2 = c2) (h3 : ab_ch k 3 = c3) (h4 : ab_ch k 4 = c4) : W5 b s e c0 c1 c2 c3 c4 ↔ (e = s + 5 ∧ ∀ i, i < 5 → nI (b (s + i)) = ab_ch k i) := by
  subst h0; subst h1; subst h2; subst h3; subst h4
  unfold W5
  refine ⟨fun ⟨a, b0, b1, b2, b3, b4⟩ => ⟨a, fun i hi => ?_⟩, fun ⟨a, z⟩ => ⟨a, z 0 (by omega), z 1 (by omega), z 2 (by omega), z 3 (by omega), z 4 (by omega)⟩⟩
  rcases (show i = 0 ∨ i = 1 ∨ i = 2 ∨ i = 3 ∨ i = 4 by omega) with q | q | q | q | q <;> subst q
  · exact b0
  · exact b1
  · exact b2
  · exact b3
  · exact b4
theorem W6_i {b : Nat → Nat} {s e k : Nat} {c0 c1 c2 c3 c4 c5 : Int32} (h0 : ab_ch k 0 = c0) (h1 : ab_ch k 1 = c1) (h2 : ab_ch k 2 = c2) (h3 : ab_ch k 3 = c3) (h4 : ab_ch k 4 = c4) (h5 : ab_ch k 5 = c5) : W6 b s e c0 c1 c2 c3 c4 c5 ↔ (e = s + 6 ∧ ∀ i, i < 6 → nI (b (s + i)) = ab_ch k i) := by
  subst h0; subst h1; subst h2; subst h3; subst h4; subst h5
  unfold W6
  refine ⟨fun ⟨a, b0, b1, b2, b3, b4, b5⟩ => ⟨a, fun i hi => ?_⟩, fun ⟨a, z⟩ => ⟨a, z 0 (by omega), z 1 (by omega), z 2 (by omega), z 3 (by omega), z 4 (by omega), z 5 (by omega)⟩⟩
  rcases (show i = 0 ∨ i = 1 ∨ i = 2 ∨ i = 3 ∨ i = 4 ∨ i = 5 by omega) with q | q | q | q | q | q <;> subst q
  · exact b0
  · exact b1
  · exact b2
  · exact b3
  · exact b4
  · exact b5
theorem R_line {b : Nat → Nat} {t s e L : Nat} {r : Nat → Nat → Int32} (B : BT b t) (h : TP b t (sh r 1)) (h1 : r 1 1 = nI e) (h3 : r 1 3 = nI s) (hse : s ≤ e) (het : e ≤ t) (hL : LN b s e L) : d_R_lineByName r = some (nI L) := by
  have n0 := T_name (k := 0) (n := 6) (W := W6 b s e 112 111 108 105 116 101) B h h1 h3 hse het rfl (by omega) (W6_i (b := b) (s := s) (e := e) (k := 0) rfl rfl rfl rfl rfl rfl)
  have n1 := T_name (k := 1) (n := 4) (W := W4 b s e 114 117 100 101) B h h1 h3 hse het rfl (by omega) (W4_i (b := b) (s := s) (e := e) (k := 1) rfl rfl rfl rfl)
  have n2 := T_name (k := 2) (n := 4) (W := W4 b s e 100 101 97 102) B h h1 h3 hse het rfl (by omega) (W4_i (b := b) (s := s) (e := e) (k := 2) rfl rfl rfl rfl)
  have n3 := T_name (k := 3) (n := 4) (W := W4 b s e 99 111 111 107) B h h1 h3 hse het rfl (by omega) (W4_i (b := b) (s := s) (e := e) (k := 3) rfl rfl rfl rfl)
  have n4 := T_name (k := 4) (n := 4) (W := W4 b s e 102 105 114 101) B h h1 h3 hse het rfl (by omega) (W4_i (b := b) (s := s) (e := e) (k := 4) rfl rfl rfl rfl)
  have n5 := T_name (k := 5) (n := 4) (W := W4 b s e 114 97 105 110) B h h1 h3 hse het rfl (by omega) (W4_i (b := b) (s := s) (e := e) (k := 5) rfl rfl rfl rfl)
  have n6 := T_name (k := 6) (n := 5) (W := W5 b s e 111 102 102 101 114) B h h1 h3 hse het rfl (by omega) (W5_i (b := b) (s := s) (e := e) (k := 6) rfl rfl rfl rfl rfl)
  unfold d_R_lineByName
  rcases hL with ⟨q, l⟩ | ⟨q, hL⟩
  · rw [n0.1 q, l]; rfl
  rw [n0.2 q, Option.bind_some, if_pos rfl]
  rcases hL with ⟨q, l⟩ | ⟨q, hL⟩
  · rw [n1.1 q, l]; rfl
  rw [n1.2 q, Option.bind_some, if_pos rfl]
  rcases hL with ⟨q, l⟩ | ⟨q, hL⟩
  · rw [n2.1 q, l]; rfl
  rw [n2.2 q, Option.bind_some, if_pos rfl]
  rcases hL with ⟨q, l⟩ | ⟨q, hL⟩
  · rw [n3.1 q, l]; rfl
  rw [n3.2 q, Option.bind_some, if_pos rfl]
  rcases hL with ⟨q, l⟩ | ⟨q, hL⟩
  · rw [n4.1 q, l]; rfl
  rw [n4.2 q, Option.bind_some, if_pos rfl]
  rcases hL with ⟨q, l⟩ | ⟨q, hL⟩
  · rw [n5.1 q, l]; rfl
  rw [n5.2 q, Option.bind_some, if_pos rfl]
  rcases hL with ⟨q, l⟩ | ⟨q, l⟩
  · rw [n6.1 q, l]; rfl
  rw [n6.2 q, l]
  rfl
theorem M_is_ {b : Nat → Nat} {t s e n : Nat} {v : Nat → Nat → Int32} (B : BT b t) (h : MP b t v) (h12 : v 0 12 = nI e) (h13 : v 0 13 = nI s) (hse : s ≤ e) (het : e ≤ t) (hn : 3 ≤ n) (hn2 : n ≤ 6) (c0 c1 c2 : Int32) : ((e = s + n ∧ nI (b s) = c0 ∧ nI (b (s + 1)) = c1 ∧ nI (b (s + 2)) = c2) → d_M_is v (nI n) c0 c1 c2 = some 1) ∧ (¬ (e = s + n ∧ nI (b s) = c0 ∧ nI (b (s + 1)) = c1 ∧ nI (b (s + 2)) = c2) → d_M_is v (nI n) c0 c1 c2 = some 0) := by
  have h160 := B.1
  unfold d_M_is
  rw [h12, h13, pk_sub hse]
  have hI : (nI (e - s) = nI n) ↔ e - s = n := qb_eqI (by omega) (by omega)
  by_cases q : e - s = n
  · rw [if_pos (hI.mpr q), M_byte B h s (by omega), if_pos (show s < t by omega), Option.bind_some, show nI s + (1 : Int32) = nI (s + 1) from nI_add s 1, show nI s + (2 : Int32) = nI (s + 2) from nI_add s 2, M_byte B h (s + 1) (by omega), if_pos (show s + 1 < t by omega), Option.bind_some, M_byte B h (s + 2) (by omega), if_pos (show s + 2 < t by omega), Option.bind_some]
    by_cases q0 : nI (b s) = c0
    · rw [if_pos q0]
      by_cases q1 : nI (b (s + 1)) = c1
      · rw [if_pos q1]
        by_cases q2 : nI (b (s + 2)) = c2
        · rw [if_pos q2]
          exact ⟨fun _ => rfl, fun z => absurd ⟨by omega, q0, q1, q2⟩ z⟩
        · rw [if_neg q2]
          exact ⟨fun z => absurd z.2.2.2 q2, fun _ => rfl⟩
      · rw [if_neg q1]
        exact ⟨fun z => absurd z.2.2.1 q1, fun _ => rfl⟩
    · rw [if_neg q0]
      exact ⟨fun z => absurd z.2.1 q0, fun _ => rfl⟩
  · rw [if_neg (fun z => q (hI.mp z))]
    exact ⟨fun z => by omega, fun _ => rfl⟩
theorem M_e4 {b : Nat → Nat} {t s : Nat} {v : Nat → Nat → Int32} (B : BT b t) (h : MP b t v) (h13 : v 0 13 = nI s) (hs : s + 3 < t) (c3 : Int32) : (nI (b (s + 3)) = c3 → d_M_ends v c3 0 0 = some 1) ∧ (¬ nI (b (s + 3)) = c3 → d_M_ends v c3 0 0 = some 0) := by
  have h160 := B.1
  unfold d_M_ends d_M_ends_32 d_M_ends_50
  rw [h13, show nI s + (3 : Int32) = nI (s + 3) from nI_add s 3, M_byte B h (s + 3) (by omega), if_pos hs, Option.bind_some]
  exact ⟨fun z => by rw [if_pos z, if_pos rfl, if_pos rfl], fun z => by rw [if_neg z]⟩
theorem M_e5 {b : Nat → Nat} {t s : Nat} {v : Nat → Nat → Int32} (B : BT b t) (h : MP b t v) (h13 : v 0 13 = nI s) (hs : s + 4 < t) (c3 c4 : Int32) (n4 : ¬ c4 = 0) : ((nI (b (s + 3)) = c3 ∧ nI (b (s + 4)) = c4) → d_M_ends v c3 c4 0 = some 1) ∧ (¬ (nI (b (s + 3)) = c3 ∧ nI (b (s + 4)) = c4) → d_M_ends v c3 c4 0 = some 0) := by
  have h160 := B.1
  unfold d_M_ends d_M_ends_32 d_M_ends_50
  rw [h13, show nI s + (3 : Int32) = nI (s + 3) from nI_add s 3, show nI s + (4 : Int32) = nI (s + 4) from nI_add s 4, M_byte B h (s + 3) (by omega), if_pos (show s + 3 < t by omega), Option.bind_some, if_neg n4, M_byte B h (s + 4) (by omega), if_pos (show s + 4 < t by omega), Option.bind_some]
  refine ⟨fun z => by rw [if_pos z.1, if_pos z.2, if_pos rfl], fun z => ?_⟩
  by_cases q : nI (b (s + 3)) = c3
  · rw [if_pos q, if_neg (fun y => z ⟨q, y⟩)]
  · rw [if_neg q]
theorem M_e6 {b : Nat → Nat} {t s : Nat} {v : Nat → Nat → Int32} (B : BT b t) (h : MP b t v) (h13 : v 0 13 = nI s) (hs : s + 5 < t) (c3 c4 c5 : Int32) (n4 : ¬ c4 = 0) (n5 : ¬ c5 = 0) : ((nI (b (s + 3)) = c3 ∧ nI (b (s + 4)) = c4 ∧ nI (b (s + 5)) = c5) → d_M_ends v c3 c4 c5 = some 1) ∧ (¬ (nI (b (s + 3)) = c3 ∧ nI (b (s + 4)) = c4 ∧ nI (b (s + 5)) = c5) → d_M_ends v c3 c4 c5 = some 0) := by
  have h160 := B.1
  unfold d_M_ends d_M_ends_32 d_M_ends_50
  rw [h13, show nI s + (3 : Int32) = nI (s + 3) from nI_add s 3, show nI s + (4 : Int32) = nI (s + 4) from nI_add s 4, show nI s + (5 : Int32) = nI (s + 5) from nI_add s 5, M_byte B h (s + 3) (by omega), if_pos (show s + 3 < t by omega), Option.bind_some, if_neg n4, M_byte B h (s + 4) (by omega), if_pos (show s + 4 < t by omega), Option.bind_some, if_neg n5, M_byte B h (s + 5) (by omega), if_pos (show s + 5 < t by omega), Option.bind_some]
  refine ⟨fun z => by rw [if_pos z.1, if_pos z.2.1, if_pos z.2.2], fun z => ?_⟩
  by_cases q : nI (b (s + 3)) = c3
  · rw [if_pos q]
    by_cases q2 : nI (b (s + 4)) = c4
    · rw [if_pos q2, if_neg (fun y => z ⟨q, q2, y⟩)]
    · rw [if_neg q2]
  · rw [if_neg q]
theorem M_w4 {b : Nat → Nat} {t s e : Nat} {v : Nat → Nat → Int32} (B : BT b t) (h : MP b t v) (h12 : v 0 12 = nI e) (h13 : v 0 13 = nI s) (hse : s ≤ e) (het : e ≤ t) (c0 c1 c2 c3 : Int32) (X : Option Int32) (y : Int32) : (W4 b s e c0 c1 c2 c3 → ((d_M_is v 4 c0 c1 c2).bind fun z => if z = 0 then X else ((d_M_ends v c3 0 0).bind fun w => if w = 0 then X else some y)) = some y) ∧ (¬ W4 b s e c0 c1 c2 c3 → ((d_M_is v 4 c0 c1 c2).bind fun z => if z = 0 then X else ((d_M_ends v c3 0 0).bind fun w => if w = 0 then X else some y)) = X) := by
  have a := M_is_ (n := 4) B h h12 h13 hse het (by omega) (by omega) c0 c1 c2
  have a1 : (e = s + 4 ∧ nI (b s) = c0 ∧ nI (b (s + 1)) = c1 ∧ nI (b (s + 2)) = c2) → d_M_is v 4 c0 c1 c2 = some 1 := a.1
  have a2 : ¬ (e = s + 4 ∧ nI (b s) = c0 ∧ nI (b (s + 1)) = c1 ∧ nI (b (s + 2)) = c2) → d_M_is v 4 c0 c1 c2 = some 0 := a.2
  unfold W4
  by_cases q : e = s + 4 ∧ nI (b s) = c0 ∧ nI (b (s + 1)) = c1 ∧ nI (b (s + 2)) = c2
  · have d := M_e4 B h h13 (by omega) c3
    rw [a1 q, Option.bind_some, if_neg (by decide)]
    refine ⟨fun z => by rw [d.1 z.2.2.2.2]; rfl, fun z => ?_⟩
    rw [d.2 (fun y => z ⟨q.1, q.2.1, q.2.2.1, q.2.2.2, y⟩)]
    rfl
  · rw [a2 q, Option.bind_some, if_pos rfl]
    exact ⟨fun z => absurd ⟨z.1, z.2.1, z.2.2.1, z.2.2.2.1⟩ q, fun _ => rfl⟩
theorem M_w5 {b : Nat → Nat} {t s e : Nat} {v : Nat → Nat → Int32} (B : BT b t) (h : MP b t v) (h12 : v 0 12 = nI e) (h13 : v 0 13 = nI s) (hse : s ≤ e) (het : e ≤ t) (c0 c1 c2 c3 c4 : Int32) (n4 : ¬ c4 = 0) (X : Option Int32) (y : Int32) : (W5 b s e c0 c1 c2 c3 c4 → ((d_M_is v 5 c0 c1 c2).bind fun z => if z = 0 then X else ((d_M_ends v c3 c4 0).bind fun w => if w = 0 then X else some y)) = some y) ∧ (¬ W5 b s e c0 c1 c2 c3 c4 → ((d_M_is v 5 c0 c1 c2).bind fun z => if z = 0 then X else ((d_M_ends v c3 c4 0).bind fun w => if w = 0 then X else some y)) = X) := by
  have a := M_is_ (n := 5) B h h12 h13 hse het (by omega) (by omega) c0 c1 c2
  have a1 : (e = s + 5 ∧ nI (b s) = c0 ∧ nI (b (s + 1)) = c1 ∧ nI (b (s + 2)) = c2) → d_M_is v 5 c0 c1 c2 = some 1 := a.1
  have a2 : ¬ (e = s + 5 ∧ nI (b s) = c0 ∧ nI (b (s + 1)) = c1 ∧ nI (b (s + 2)) = c2) → d_M_is v 5 c0 c1 c2 = some 0 := a.2
  unfold W5
  by_cases q : e = s + 5 ∧ nI (b s) = c0 ∧ nI (b (s + 1)) = c1 ∧ nI (b (s + 2)) = c2
  · have d := M_e5 B h h13 (by omega) c3 c4 n4
    rw [a1 q, Option.bind_some, if_neg (by decide)]
    refine ⟨fun z => by rw [d.1 z.2.2.2.2]; rfl, fun z => ?_⟩
    rw [d.2 (fun y => z ⟨q.1, q.2.1, q.2.2.1, q.2.2.2, y⟩)]
    rfl
  · rw [a2 q, Option.bind_some, if_pos rfl]
    exact ⟨fun z => absurd ⟨z.1, z.2.1, z.2.2.1, z.2.2.2.1⟩ q, fun _ => rfl⟩
theorem M_w6 {b : Nat → Nat} {t s e : Nat} {v : Nat → Nat → Int32} (B : BT b t) (h : MP b t v) (h12 : v 0 12 = nI e) (h13 : v 0 13 = nI s) (hse : s ≤ e) (het : e ≤ t) (c0 c1 c2 c3 c4 c5 : Int32) (n4 : ¬ c4 = 0) (n5 : ¬ c5 = 0) (X : Option Int32) (y : Int32) : (W6 b s e c0 c1 c2 c3 c4 c5 → ((d_M_is v 6 c0 c1 c2).bind fun z => if z = 0 then X else ((d_M_ends v c3 c4 c5).bind fun w => if w = 0 then X else some y)) = some y) ∧ (¬ W6 b s e c0 c1 c2 c3 c4 c5 → ((d_M_is v 6 c0 c1 c2).bind fun z => if z = 0 then X else ((d_M_ends v c3 c4 c5).bind fun w => if w = 0 then X else some y)) = X) := by
  have a := M_is_ (n := 6) B h h12 h13 hse het (by omega) (by omega) c0 c1 c2
  have a1 : (e = s + 6 ∧ nI (b s) = c0 ∧ nI (b (s + 1)) = c1 ∧ nI (b (s + 2)) = c2) → d_M_is v 6 c0 c1 c2 = some 1 := a.1
  have a2 : ¬ (e = s + 6 ∧ nI (b s) = c0 ∧ nI (b (s + 1)) = c1 ∧ nI (b (s + 2)) = c2) → d_M_is v 6 c0 c1 c2 = some 0 := a.2
  unfold W6
  by_cases q : e = s + 6 ∧ nI (b s) = c0 ∧ nI (b (s + 1)) = c1 ∧ nI (b (s + 2)) = c2
  · have d := M_e6 B h h13 (by omega) c3 c4 c5 n4 n5
    rw [a1 q, Option.bind_some, if_neg (by decide)]
    refine ⟨fun z => by rw [d.1 z.2.2.2.2]; rfl, fun z => ?_⟩
    rw [d.2 (fun y => z ⟨q.1, q.2.1, q.2.2.1, q.2.2.2, y⟩)]
    rfl
  · rw [a2 q, Option.bind_some, if_pos rfl]
    exact ⟨fun z => absurd ⟨z.1, z.2.1, z.2.2.1, z.2.2.2.1⟩ q, fun _ => rfl⟩
theorem M_line {b : Nat → Nat} {t s e L : Nat} {v : Nat → Nat → Int32} (B : BT b t) (h : MP b t v) (h12 : v 0 12 = nI e) (h13 : v 0 13 = nI s) (hse : s ≤ e) (het : e ≤ t) (hL : LN b s e L) : d_M_lineNow v = some (if L = 7 then -4 else nI L) := by
  have n0 := M_w6 B h h12 h13 hse het 112 111 108 105 116 101 (by decide) (by decide) (d_M_lineNow_30 v) 0
  have n1 := M_w4 B h h12 h13 hse het 114 117 100 101 (d_M_lineNow_57 v) 1
  have n2 := M_w4 B h h12 h13 hse het 100 101 97 102 (d_M_lineNow_84 v) 2
  have n3 := M_w4 B h h12 h13 hse het 99 111 111 107 (d_M_lineNow_111 v) 3
  have n4 := M_w4 B h h12 h13 hse het 102 105 114 101 (d_M_lineNow_138 v) 4
  have n5 := M_w4 B h h12 h13 hse het 114 97 105 110 (d_M_lineNow_167 v) 5
  have n6 := M_w5 B h h12 h13 hse het 111 102 102 101 114 (by decide) (some (-4)) 6
  unfold d_M_lineNow
  rcases hL with ⟨q, l⟩ | ⟨q, hL⟩
  · rw [n0.1 q, l]; rfl
  rw [n0.2 q]
  unfold d_M_lineNow_30
  rcases hL with ⟨q, l⟩ | ⟨q, hL⟩
  · rw [n1.1 q, l]; rfl
  rw [n1.2 q]
  unfold d_M_lineNow_57
  rcases hL with ⟨q, l⟩ | ⟨q, hL⟩
  · rw [n2.1 q, l]; rfl
  rw [n2.2 q]
  unfold d_M_lineNow_84
  rcases hL with ⟨q, l⟩ | ⟨q, hL⟩
  · rw [n3.1 q, l]; rfl
  rw [n3.2 q]
  unfold d_M_lineNow_111
  rcases hL with ⟨q, l⟩ | ⟨q, hL⟩
  · rw [n4.1 q, l]; rfl
  rw [n4.2 q]
  unfold d_M_lineNow_138
  rcases hL with ⟨q, l⟩ | ⟨q, hL⟩
  · rw [n5.1 q, l]; rfl
  rw [n5.2 q]
  unfold d_M_lineNow_167
  rcases hL with ⟨q, l⟩ | ⟨q, l⟩
  · rw [n6.1 q, l]; rfl
  rw [n6.2 q, l]
  rfl
