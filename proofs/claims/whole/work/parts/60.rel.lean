/-! PURE: how the two states belong together -/
theorem z10 : ((1 : Int32) = 0) = False := eq_false (by decide)
theorem z00 : ((0 : Int32) = 0) = True := eq_self _
theorem gd (a lo hi : Int32) : (lo ≤ a ∧ a ≤ hi ∧ d_P_outside a lo hi = some 0 ∧ d_P_in a.toInt64 lo.toInt64 hi.toInt64 = some 1) ∨ (¬ (lo ≤ a ∧ a ≤ hi) ∧ d_P_outside a lo hi = some 1 ∧ d_P_in a.toInt64 lo.toInt64 hi.toInt64 = some 0) := by
  rw [qp_out, qp_in]
  by_cases h : lo ≤ a ∧ a ≤ hi
  · exact Or.inl ⟨h.1, h.2, by rw [if_pos h], by rw [if_pos h]⟩
  · exact Or.inr ⟨h, by rw [if_neg h], by rw [if_neg h]⟩
theorem gd0 (a : Int32) (n : Nat) (hn : n < 2147483648) : (∃ j, j ≤ n ∧ a = nI j ∧ d_P_outside a 0 (nI n) = some 0 ∧ d_P_in a.toInt64 (0 : Int32).toInt64 (nI n).toInt64 = some 1) ∨ (d_P_outside a 0 (nI n) = some 1 ∧ d_P_in a.toInt64 (0 : Int32).toInt64 (nI n).toInt64 = some 0) := by
  rcases gd a 0 (nI n) with ⟨h1, h2, h3, h4⟩ | ⟨h1, h2, h3⟩
  · rcases qb_rng a hn with ⟨j, hj, e⟩ | h
    · exact Or.inl ⟨j, hj, e, h3, h4⟩
    · exact absurd ⟨h1, h2⟩ h
  · exact Or.inr ⟨h2, h3⟩
theorem gd1 (a : Int32) (n : Nat) (hn : n < 2147483648) : (∃ j, 1 ≤ j ∧ j ≤ n ∧ a = nI j ∧ d_P_outside a 1 (nI n) = some 0 ∧ d_P_in a.toInt64 (1 : Int32).toInt64 (nI n).toInt64 = some 1) ∨ (d_P_outside a 1 (nI n) = some 1 ∧ d_P_in a.toInt64 (1 : Int32).toInt64 (nI n).toInt64 = some 0) := by
  rcases gd a 1 (nI n) with ⟨h1, h2, h3, h4⟩ | ⟨h1, h2, h3⟩
  · rcases qb_rng1 a hn with ⟨j, hj, hk, e⟩ | h
    · exact Or.inl ⟨j, hj, hk, e, h3, h4⟩
    · exact absurd ⟨h1, h2⟩ h
  · exact Or.inr ⟨h2, h3⟩
/-- houses, rows, seen -/
def CR (c : Nat → Nat → Int32) (s : Nat → Int32) (N : Nat) (g : Nat → Nat) : Prop := EC c N g 0 0 ∧ (∀ i, i < 22 → s i = nI (g i)) ∧ sInv N g ∧ g 19 ≤ 999 ∧ g 20 ≤ 20 * g 19
def SR (c : Nat → Nat → Int32) (s : Nat → Int32) (N : Nat) : Prop := ∃ (z : Nat) (p q r : Nat → Nat), z ≤ 6 ∧ c 0 3 = nI z ∧ s 22 = nI z ∧ ∀ i, i < z → p i < N ∧ 1 ≤ q i ∧ q i ≤ 9 ∧ r i ≤ 99 ∧ c 1 i = nI (p i) ∧ c 2 i = nI (q i) ∧ c 3 i = nI (r i) ∧ s (23 + 3 * i) = nI (p i) ∧ s (24 + 3 * i) = nI (q i) ∧ s (25 + 3 * i) = nI (r i)
def IR (b : Int32) (c d : Nat → Nat → Int32) (e : Int32) (s : Nat → Int32) (N : Nat) : Prop := (b = 0 ∧ e = 0) ∨ (b = 1 ∧ e = 1 ∧ (∃ g, CR c s N g) ∧ SR d s N)
def TR (n : Int32) (x : Nat → Int32) (m : Int32) (y : Nat → Int32) : Prop := ∃ (t : Nat) (b : Nat → Nat), t ≤ 160 ∧ n = nI t ∧ m = nI t ∧ ∀ i, i < t → b i ≤ 127 ∧ x i = nI (b i) ∧ y i = nI (b i)
def HR (c : Nat → Nat → Int32) (l z : Int32) (y : Nat → Int32) : Prop := (c 0 1 = 0 ∧ l = -4) ∨ (c 0 1 = 1 ∧ ∃ L Z : Nat, L ≤ 2 ∧ Z ≤ 40 ∧ c 0 2 = nI L ∧ l = nI L ∧ c 0 3 = nI Z ∧ z = nI Z ∧ ∀ i, i < 40 → c 1 i = y i)
def so (s : Nat → Int32) (o : Nat) : Nat → Int32 := fun i => s (o + i)
def RR (N : Nat) (u v : Nat → Nat → Int32) : Prop := (SR (sh u 21) (v 1) N) ∧ (IR (u 26 2) (sh u 27) (sh u 32) (v 3 0) (so (v 1) 41) N) ∧ (IR (u 36 2) (sh u 37) (sh u 42) (v 3 1) (so (v 1) 82) N) ∧ (TR (u 2 2) (u 3) (v 0 11) (v 6)) ∧ (u 0 8 = v 0 16) ∧ (u 0 9 = v 0 26) ∧ (HR (sh u 47) (v 9 0) (v 10 0) (so (v 11) 0)) ∧ (HR (sh u 49) (v 9 1) (v 10 1) (so (v 11) 40)) ∧ (HR (sh u 51) (v 9 2) (v 10 2) (so (v 11) 80)) ∧ (HR (sh u 53) (v 9 3) (v 10 3) (so (v 11) 120))
theorem RR.sn {N : Nat} {u v : Nat → Nat → Int32} (h : RR N u v) : SR (sh u 21) (v 1) N := h.1
theorem RR.i0 {N : Nat} {u v : Nat → Nat → Int32} (h : RR N u v) : IR (u 26 2) (sh u 27) (sh u 32) (v 3 0) (so (v 1) 41) N := h.2.1
theorem RR.i1 {N : Nat} {u v : Nat → Nat → Int32} (h : RR N u v) : IR (u 36 2) (sh u 37) (sh u 42) (v 3 1) (so (v 1) 82) N := h.2.2.1
theorem RR.tp {N : Nat} {u v : Nat → Nat → Int32} (h : RR N u v) : TR (u 2 2) (u 3) (v 0 11) (v 6) := h.2.2.2.1
theorem RR.fa {N : Nat} {u v : Nat → Nat → Int32} (h : RR N u v) : u 0 8 = v 0 16 := h.2.2.2.2.1
theorem RR.to {N : Nat} {u v : Nat → Nat → Int32} (h : RR N u v) : u 0 9 = v 0 26 := h.2.2.2.2.2.1
theorem RR.h0 {N : Nat} {u v : Nat → Nat → Int32} (h : RR N u v) : HR (sh u 47) (v 9 0) (v 10 0) (so (v 11) 0) := h.2.2.2.2.2.2.1
theorem RR.h1 {N : Nat} {u v : Nat → Nat → Int32} (h : RR N u v) : HR (sh u 49) (v 9 1) (v 10 1) (so (v 11) 40) := h.2.2.2.2.2.2.2.1
theorem RR.h2 {N : Nat} {u v : Nat → Nat → Int32} (h : RR N u v) : HR (sh u 51) (v 9 2) (v 10 2) (so (v 11) 80) := h.2.2.2.2.2.2.2.2.1
theorem RR.h3 {N : Nat} {u v : Nat → Nat → Int32} (h : RR N u v) : HR (sh u 53) (v 9 3) (v 10 3) (so (v 11) 120) := h.2.2.2.2.2.2.2.2.2
def Rel (u v : Nat → Nat → Int32) : Prop := ∃ N g, v 0 3 = nI N ∧ CR (sh u 11) (v 1) N g ∧ RR N u v
theorem EC.cg {c c' : Nat → Nat → Int32} {N : Nat} {g : Nat → Nat} {b q : Nat} (h : EC c N g b q) (e : ∀ i, i < 4 → c' i = c i) : EC c' N g b q := by
  unfold EC
  rw [e 0 (by omega), e 1 (by omega), e 2 (by omega), e 3 (by omega)]
  exact h
theorem EB.cg {c c' : Nat → Nat → Int32} {N : Nat} {g : Nat → Nat} (h : EB c N g) (e : c' 4 = c 4) : EB c' N g := by
  unfold EB
  rw [e]
  exact h
theorem CR.cg {c c' : Nat → Nat → Int32} {s s' : Nat → Int32} {N : Nat} {g : Nat → Nat} (h : CR c s N g) (e : ∀ i, i < 4 → c' i = c i) (e2 : ∀ i, i < 22 → s' i = s i) : CR c' s' N g := ⟨h.1.cg e, fun i hi => by rw [e2 i hi]; exact h.2.1 i hi, h.2.2⟩
theorem SR.cg {c c' : Nat → Nat → Int32} {s s' : Nat → Int32} {N : Nat} (h : SR c s N) (e : ∀ i, i < 4 → c' i = c i) (e2 : ∀ i, 22 ≤ i → i < 41 → s' i = s i) : SR c' s' N := by
  obtain ⟨z, p, q, r, h1, h2, h3, h4⟩ := h
  refine ⟨z, p, q, r, h1, ?_, ?_, fun i hi => ?_⟩
  · rw [e 0 (by omega)]; exact h2
  · rw [e2 22 (by omega) (by omega)]; exact h3
  · rw [e 1 (by omega), e 2 (by omega), e 3 (by omega), e2 _ (by omega) (by omega), e2 _ (by omega) (by omega), e2 _ (by omega) (by omega)]
    exact h4 i hi
theorem IR.cg {b b' : Int32} {c c' d d' : Nat → Nat → Int32} {e e' : Int32} {s s' : Nat → Int32} {N : Nat} (h : IR b c d e s N) (hb : b' = b) (hc : ∀ i, i < 4 → c' i = c i) (hd : ∀ i, i < 4 → d' i = d i) (he : e' = e) (hs : ∀ i, i < 41 → s' i = s i) : IR b' c' d' e' s' N := by
  subst hb; subst he
  rcases h with h | ⟨h1, h2, ⟨g, h3⟩, h4⟩
  · exact Or.inl h
  · exact Or.inr ⟨h1, h2, ⟨g, h3.cg hc (fun i hi => hs i (by omega))⟩, h4.cg hd (fun i _ hi => hs i hi)⟩
theorem HR.cg {c c' : Nat → Nat → Int32} {l l' z z' : Int32} {y y' : Nat → Int32} (h : HR c l z y) (hc : ∀ i, i < 2 → c' i = c i) (hl : l' = l) (hz : z' = z) (hy : ∀ i, i < 40 → y' i = y i) : HR c' l' z' y' := by
  subst hl; subst hz
  unfold HR
  rw [hc 0 (by omega), hc 1 (by omega)]
  rcases h with h | ⟨h1, L, Z, h2, h3, h4, h5, h6, h7, h8⟩
  · exact Or.inl h
  · exact Or.inr ⟨h1, L, Z, h2, h3, h4, h5, h6, h7, fun i hi => by rw [hy i hi]; exact h8 i hi⟩
/-- the rest stays where only the city now and what is for trial changes -/
theorem RR.ag {N : Nat} {u v u' v' : Nat → Nat → Int32} (h : RR N u v) (hu : ∀ c, c < 55 → (c < 11 ∨ 20 < c) → u' c = u c) (hv : ∀ c, c = 0 ∨ c = 3 ∨ c = 6 ∨ c = 9 ∨ c = 10 ∨ c = 11 → v' c = v c) (h1 : ∀ i, 22 ≤ i → v' 1 i = v 1 i) : RR N u' v' := by
  have s : ∀ b n : Nat, 20 < b → b + n ≤ 55 → ∀ i, i < n → sh u' b i = sh u b i := fun b n hb hn i hi => hu (b + i) (by omega) (by omega)
  refine ⟨h.sn.cg (s 21 4 (by omega) (by omega)) (fun i hi _ => h1 i hi), h.i0.cg (by rw [hu 26 (by omega) (by omega)]) (s 27 4 (by omega) (by omega)) (s 32 4 (by omega) (by omega)) (by rw [hv 3 (by omega)]) (fun i _ => h1 (41 + i) (by omega)), h.i1.cg (by rw [hu 36 (by omega) (by omega)]) (s 37 4 (by omega) (by omega)) (s 42 4 (by omega) (by omega)) (by rw [hv 3 (by omega)]) (fun i _ => h1 (82 + i) (by omega)), ?_, ?_, ?_, ?_, ?_, ?_, ?_⟩
  · rw [hu 2 (by omega) (by omega), hu 3 (by omega) (by omega), hv 0 (by omega), hv 6 (by omega)]; exact h.tp
  · rw [hu 0 (by omega) (by omega), hv 0 (by omega)]; exact h.fa
  · rw [hu 0 (by omega) (by omega), hv 0 (by omega)]; exact h.to
  · exact h.h0.cg (s 47 2 (by omega) (by omega)) (by rw [hv 9 (by omega)]) (by rw [hv 10 (by omega)]) (fun i _ => by unfold so; rw [hv 11 (by omega)])
  · exact h.h1.cg (s 49 2 (by omega) (by omega)) (by rw [hv 9 (by omega)]) (by rw [hv 10 (by omega)]) (fun i _ => by unfold so; rw [hv 11 (by omega)])
  · exact h.h2.cg (s 51 2 (by omega) (by omega)) (by rw [hv 9 (by omega)]) (by rw [hv 10 (by omega)]) (fun i _ => by unfold so; rw [hv 11 (by omega)])
  · exact h.h3.cg (s 53 2 (by omega) (by omega)) (by rw [hv 9 (by omega)]) (by rw [hv 10 (by omega)]) (fun i _ => by unfold so; rw [hv 11 (by omega)])
def AgF (u u' : Nat → Nat → Int32) : Prop := ∀ c, c < 55 → (c < 16 ∨ 20 < c) → u' c = u c
def AgM (v v' : Nat → Nat → Int32) : Prop := ∀ c, c ≠ 2 → c ≠ 7 → c ≠ 8 → v' c = v c
theorem AgF.rf {u : Nat → Nat → Int32} : AgF u u := fun _ _ _ => rfl
theorem AgM.rf {u : Nat → Nat → Int32} : AgM u u := fun _ _ _ _ => rfl
theorem AgF.tr {a b c : Nat → Nat → Int32} (h : AgF a b) (k : AgF b c) : AgF a c := fun i h1 h2 => (k i h1 h2).trans (h i h1 h2)
theorem AgM.tr {a b c : Nat → Nat → Int32} (h : AgM a b) (k : AgM b c) : AgM a c := fun i h1 h2 h3 => (k i h1 h2 h3).trans (h i h1 h2 h3)
theorem okM.ag {v v2 : Nat → Nat → Int32} (h : okM v v2) : AgM v v2 := fun c h1 _ _ => h.1 c h1
theorem AgF.pt {u t : Nat → Nat → Int32} (h : AgF u t) (c : Nat → Nat → Int32) : AgF u (pt t 16 5 c) := fun i h1 h2 => by
  refine Eq.trans (if_neg (c := 16 ≤ i ∧ i < 16 + 5) (by omega)) ?_
  exact h i h1 h2
theorem Rel.ag {u v u' v' : Nat → Nat → Int32} (h : Rel u v) (hu : AgF u u') (hv : AgM v v') : Rel u' v' := by
  obtain ⟨N, g, h1, h2, h3⟩ := h
  refine ⟨N, g, ?_, h2.cg (fun i hi => hu (11 + i) (by omega) (by omega)) (fun i _ => by rw [hv 1 (by omega) (by omega) (by omega)]), h3.ag (fun c h1 h2 => hu c h1 (by omega)) (fun c hc => hv c (by omega) (by omega) (by omega)) (fun i _ => by rw [hv 1 (by omega) (by omega) (by omega)])⟩
  rw [hv 0 (by omega) (by omega) (by omega)]
  exact h1
/-- a house, or none -/
theorem hs_F {c : Nat → Nat → Int32} {N : Nat} (h4 : c 0 4 = nI N) (hN : N ≤ 5) {v : Nat → Nat → Int32} (h3 : v 0 3 = nI N) (a : Int32) : (∃ j, j < N ∧ a = nI j ∧ d_C_has c a = some 1 ∧ d_M_isHouse v a = some 1) ∨ (d_C_has c a = some 0 ∧ d_M_isHouse v a = some 0) := by
  by_cases h0 : a < 0
  · right
    constructor
    · unfold d_C_has
      rw [if_pos h0]
    · unfold d_M_isHouse
      have := qp_in a 0 (v 0 3 - 1)
      rw [if_neg (fun q => (Int32.not_lt.mpr q.1) h0)] at this
      show (d_P_in a.toInt64 (0 : Int32).toInt64 _).bind _ = _
      rw [this]
      rfl
  · obtain ⟨j, hj, e⟩ := nI_of h0
    subst e
    by_cases hc : j < N
    · left
      refine ⟨j, hc, rfl, ?_, ?_⟩
      · rw [C_has h4 hN (by omega), if_pos hc]
      · unfold d_M_isHouse
        have := qp_in (nI j) 0 (v 0 3 - 1)
        rw [h3, k_1, pk_sub (by omega), if_pos ⟨Int32.not_lt.mp h0, (qb_leI (by omega) (by omega)).mpr (by omega)⟩] at this
        show (d_P_in (nI j).toInt64 (0 : Int32).toInt64 _).bind _ = _
        rw [h3, k_1, pk_sub (by omega), this]
        rfl
    · right
      refine ⟨?_, ?_⟩
      · rw [C_has h4 hN (by omega), if_neg hc]
      · unfold d_M_isHouse
        have := qp_in (nI j) 0 (v 0 3 - 1)
        rw [if_neg ?_] at this
        · show (d_P_in (nI j).toInt64 (0 : Int32).toInt64 _).bind _ = _
          rw [this]
          rfl
        · intro q
          have q2 := q.2
          rw [h3, qb_le, k_1, pk_sub_toInt (by omega) (by omega), nI_toInt (by omega)] at q2
          omega
/-- part 0 or 1 -/
theorem prt (a : Int32) : (∃ j, j ≤ 1 ∧ a = nI j ∧ d_P_outside a 0 1 = some 0 ∧ d_P_isPart a = some 1) ∨ (d_P_outside a 0 1 = some 1 ∧ d_P_isPart a = some 0) := by
  rcases gd0 a 1 (by omega) with ⟨j, h1, h2, h3, h4⟩ | ⟨h3, h4⟩
  · left
    refine ⟨j, h1, h2, h3, ?_⟩
    show (d_P_in a.toInt64 (0 : Int32).toInt64 (nI 1).toInt64).bind _ = _
    rw [h4]
    rfl
  · right
    refine ⟨h3, ?_⟩
    show (d_P_in a.toInt64 (0 : Int32).toInt64 (nI 1).toInt64).bind _ = _
    rw [h4]
    rfl
