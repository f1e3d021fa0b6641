/-! PURE: the fewest cooks -/
def bc (S : Nat) : Nat := S % 2 + S / 2 % 2 + S / 4 % 2 + S / 8 % 2 + S / 16 % 2
theorem bcs : ∀ S, S < 32 → d_P_bitCount (nI S) = some (nI (bc S)) ∧ d_P_bitsOf (nI S) = some (nI (bc S)) ∧ bc S ≤ 5 := by decide +kernel
theorem cut_set1 : ∀ S, S < 32 → ∀ E, E < 32 → (nI S &&& nI E = 0) ∨ ((S &&& (31 ^^^ E)) < S ∧ bc (S &&& (31 ^^^ E)) < bc S) := by decide +kernel
theorem cut_set2 : ∀ S, S < 32 → ∀ E, E < 32 → ∀ i, i < 5 → ((S &&& (31 ^^^ E)) / 2 ^ i % 2 = 1 ↔ (S / 2 ^ i % 2 = 1 ∧ ¬ E / 2 ^ i % 2 = 1)) := by decide +kernel
theorem cut_set (S : Nat) (hS : S < 32) (E : Nat) (hE : E < 32) (h : ¬ (nI S &&& nI E = 0)) : (S &&& (31 ^^^ E)) < S ∧ bc (S &&& (31 ^^^ E)) < bc S ∧ ∀ i, i < 5 → ((S &&& (31 ^^^ E)) / 2 ^ i % 2 = 1 ↔ (S / 2 ^ i % 2 = 1 ∧ ¬ E / 2 ^ i % 2 = 1)) := by
  rcases cut_set1 S hS E hE with q | q
  · exact absurd q h
  · exact ⟨q.1, q.2, cut_set2 S hS E hE⟩
theorem add_set1 : ∀ k, k < 5 → ∀ E, E < 32 → ∀ b, b < 2 → 2 ^ k ≤ E ∨ (nI E ||| (nI b <<< (nI k &&& 31)) = nI (E + b * 2 ^ k) ∧ E + b * 2 ^ k < 2 ^ (k + 1) ∧ ((E + b * 2 ^ k) / 2 ^ k % 2 = b)) := by decide +kernel
theorem add_set2 : ∀ k, k < 5 → ∀ E, E < 32 → ∀ b, b < 2 → ∀ i, i < 5 → i < k → (E + b * 2 ^ k) / 2 ^ i % 2 = E / 2 ^ i % 2 := by decide +kernel
theorem add_set (k : Nat) (hk : k < 5) (E : Nat) (hE : E < 32) (h : E < 2 ^ k) (b : Nat) (hb : b < 2) : nI E ||| (nI b <<< (nI k &&& 31)) = nI (E + b * 2 ^ k) ∧ E + b * 2 ^ k < 2 ^ (k + 1) ∧ ((E + b * 2 ^ k) / 2 ^ k % 2 = b) ∧ ∀ i, i < k → (E + b * 2 ^ k) / 2 ^ i % 2 = E / 2 ^ i % 2 := by
  rcases add_set1 k hk E hE b hb with q | q
  · omega
  · exact ⟨q.1, q.2.1, q.2.2, fun i hi => add_set2 k hk E hE b hb i (by omega) hi⟩
abbrev okS (N n : Nat) (G : Nat → Nat) (S : Nat) : Prop := sNights N n (sIn N S 3 (sT G)) 20 = G 20
theorem ok_cut {N n S E : Nat} {G : Nat → Nat} (hN : N ≤ 5) (hS : S < 32) (hE : E < 32) (hm : ∀ i, i < N → (E / 2 ^ i % 2 = 1 ↔ G i = 3)) (h : ¬ (nI S &&& nI E = 0)) : okS N n G S ↔ okS N n G (S &&& (31 ^^^ E)) := by
  have c := (cut_set S hS E hE h).2.2
  have e : sIn N S 3 (sT G) = sIn N (S &&& (31 ^^^ E)) 3 (sT G) := by
    funext i
    unfold sIn
    by_cases hi : i < N
    · have ci := c i (by omega)
      have mi := hm i hi
      by_cases q : S / 2 ^ i % 2 = 1
      · rw [if_pos ⟨hi, q⟩]
        by_cases q2 : E / 2 ^ i % 2 = 1
        · rw [if_neg (fun z => (ci.mp z.2).2 q2), sT_lt (by omega)]
          exact (mi.mp q2).symm
        · rw [if_pos ⟨hi, ci.mpr ⟨q, q2⟩⟩]
      · rw [if_neg (fun z => q z.2), if_neg (fun z => q (ci.mp z.2).1)]
    · rw [if_neg (fun z => hi z.1), if_neg (fun z => hi z.1)]
  unfold okS
  rw [e]
theorem cooks_lp {u v : Nat → Nat → Int32} {N n E : Nat} {G : Nat → Nat} (h3 : v 0 3 = nI N) (ec : EC (sh u 11) N G 0 0) (hs : ∀ i, i < 22 → v 1 i = nI (G i)) (I : sInv N G) (h19 : G 19 ≤ 999) (h20 : G 20 ≤ 20 * G 19) (hn : n ≤ 20) (hE : E < 32) (hm : ∀ i, i < N → (E / 2 ^ i % 2 = 1 ↔ G i = 3)) (a2 : Int32) : ∀ (f S x y : Nat) (l : Int32) (t s : Nat → Nat → Int32), AgF u t → AgM v s → S ≤ 2 ^ N → 2 ^ N - S < f → ((x = 6 ∧ y = 1000000 ∧ l = -4) ∨ (x = y ∧ x ≤ 5 ∧ ∃ j, j < 32 ∧ l = nI j)) → (∀ S', S' < S → okS N n G S' → x ≤ bc S') → ∃ r t' s', d_F_cooks_31 f t (nI n) a2 (nI x) l (nI S) = some (r, t') ∧ d_M_cooks_79 f s (nI n) a2 (nI E) (nI y) l (nI S) = some (r, s') ∧ AgF u t' ∧ AgM v s' := by
  intro f
  induction f with
  | zero => intro S x y l t s _ _ _ hf; omega
  | succ f ih =>
    intro S x y l t s hF hM hS hf hxy hinv
    have hN := I.1
    have p2 := pow2 N hN
    have e4 : t 11 4 = nI N := by rw [hF 11 (by omega) (by omega)]; exact ec.1
    have e3 : s 0 3 = nI N := by rw [hM 0 (by omega) (by omega) (by omega)]; exact h3
    rw [d_F_cooks_31, d_M_cooks_79, e4, e3, p2.2.2]
    by_cases hc : 2 ^ N ≤ S
    · rw [if_pos ((qb_leI (by omega) (by omega)).mpr hc), if_pos ((qb_leI (by omega) (by omega)).mpr hc)]
      rcases hxy with ⟨q1, q2, q3⟩ | ⟨q1, q2, j, q3, q4⟩
      · rw [if_pos q3, if_pos q3]; exact ⟨_, _, _, rfl, rfl, hF, hM⟩
      · have : ¬ l = (-4 : Int32) := by
          have d : ∀ j, j < 32 → ¬ nI j = (-4 : Int32) := by decide +kernel
          rw [q4]; exact d j q3
        rw [if_neg this, if_neg this, q1]
        by_cases q2 : a2 = 0
        · rw [if_pos q2, if_pos q2]; exact ⟨_, _, _, rfl, rfl, hF, hM⟩
        · rw [if_neg q2, if_neg q2]; exact ⟨_, _, _, rfl, rfl, hF, hM⟩
    · have hc' : ¬ nI (2 ^ N) ≤ nI S := fun z => hc ((qb_leI (by omega) (by omega)).mp z)
      obtain ⟨b1, b2, b3⟩ := bcs S (by omega)
      have bxy : (x ≤ bc S ↔ y ≤ bc S) := by
        rcases hxy with ⟨q1, q2, q3⟩ | ⟨q1, q2, j, q3, q4⟩
        · omega
        · omega
      have hxb : x ≤ 6 ∧ y ≤ 1000000 := by
        rcases hxy with ⟨q1, q2, q3⟩ | ⟨q1, q2, j, q3, q4⟩
        · omega
        · omega
      unfold d_F_cooks_79 d_M_cooks_173
      rw [if_neg hc', if_neg hc', b1, b2]
      simp only [Option.bind_some, z10, z00, if_true, if_false, dl, k_1, nI_add, qb_leI (show x < 2147483648 by omega) (show bc S < 2147483648 by omega), qb_leI (show y < 2147483648 by omega) (show bc S < 2147483648 by omega)]
      by_cases hb : x ≤ bc S
      · have hnext : ∀ S', S' < S + 1 → okS N n G S' → x ≤ bc S' := fun S' h1 h2 => by
          by_cases q : S' = S
          · subst q; exact hb
          · exact hinv S' (by omega) h2
        simp only [if_pos hb, if_pos (bxy.mp hb), ite_self]
        exact ih (S + 1) x y l t s hF hM (by omega) (by omega) hxy hnext
      · have hb' : ¬ y ≤ bc S := fun z => hb (bxy.mpr z)
        simp only [if_neg hb, if_neg hb']
        obtain ⟨t1, f1, f2, f3, f4⟩ := F_playLoss (m := S) (x := 3) (n := n) ec I h19 (by omega) (by omega) (by omega) hF
        have f1' : d_F_playWith t (nI S) 3 (nI n) = some t1 := f1
        have mo := sNights_mono n (sIn N S 3 (sT G)) (sIn_inv (sT_inv I) (by omega))
        rw [sIn_n (by omega), sT_lt (by omega)] at mo
        have hz : nI (sNights N n (sIn N S 3 (sT G)) 20 - G 20) = (0 : Int32) ↔ okS N n G S := by
          refine (qb_eqI (b := 0) (by omega) (by omega)).trans ?_
          unfold okS
          omega
        simp only [Option.bind_some, z10, z00, if_true, if_false, f1', f3, hz]
        by_cases hmask : nI S &&& nI E = 0
        · simp only [if_pos hmask]
          obtain ⟨s1, l1, l2⟩ := M_startsWithCooks (m := S) hN (by omega) h3 hs hM
          obtain ⟨s2, o1, o2, o3⟩ := M_nights (n := n) l2.1 (sIn_inv (sT_inv I) (by omega)) (by rw [sIn_n (by omega), sT_lt (by omega)]; omega) (by omega)
          have l3 := l2.go o2 o3
          have m1 : s2 1 = v 1 := l3.2 1 (by omega) (by omega) (by omega)
          have hz2 : nI (sNights N n (sIn N S 3 (sT G)) 20) = nI (G 20) ↔ okS N n G S := qb_eqI (by omega) (by omega)
          unfold d_M_cooks_140 d_M_cooks_154 d_M_cooks_171 d_M_cooks_173
          simp only [Option.bind_some, z10, z00, if_true, if_false, l1, o1, m1, show (20 : Int32).toNatClampNeg = 20 from rfl, hs 20 (by omega), o2.2 20 (by omega), hz2, b2, dl, k_1, nI_add, show (nI 1 = (0 : Int32)) = False from z10]
          by_cases hok : okS N n G S
          · simp only [if_pos hok]
            refine ih (S + 1) (bc S) (bc S) (nI S) t1 s2 f4 l3.2 (by omega) (by omega) (Or.inr ⟨rfl, b3, S, by omega, rfl⟩) (fun S' h1 h2 => ?_)
            by_cases q : S' = S
            · subst q; exact Nat.le_refl _
            · have := hinv S' (by omega) h2
              omega
          · simp only [if_neg hok]
            refine ih (S + 1) x y l t1 s2 f4 l3.2 (by omega) (by omega) hxy (fun S' h1 h2 => ?_)
            by_cases q : S' = S
            · subst q; exact absurd h2 hok
            · exact hinv S' (by omega) h2
        · have hnok : ¬ okS N n G S := fun hok => by
            have c := cut_set S (by omega) E hE hmask
            have := hinv _ c.1 ((ok_cut hN (by omega) hE hm hmask).mp hok)
            omega
          simp only [if_neg hmask, if_neg hnok]
          refine ih (S + 1) x y l t1 s f4 hM (by omega) (by omega) hxy (fun S' h1 h2 => ?_)
          by_cases q : S' = S
          · subst q; exact absurd h2 hnok
          · exact hinv S' (by omega) h2
theorem cooks_mask {u v : Nat → Nat → Int32} {N n : Nat} {G : Nat → Nat} (h3 : v 0 3 = nI N) (hs : ∀ i, i < 22 → v 1 i = nI (G i)) (I : sInv N G) (a2 : Int32) : ∀ (f k E : Nat), E < 2 ^ k → (∀ i, i < k → (E / 2 ^ i % 2 = 1 ↔ G i = 3)) → k ≤ N → N - k < f → ∃ E2, E2 < 2 ^ N ∧ (∀ i, i < N → (E2 / 2 ^ i % 2 = 1 ↔ G i = 3)) ∧ d_M_cooks_26 f v (nI n) a2 (nI E) (nI k) = d_M_cooks_79 FU v (nI n) a2 (nI E2) (1000000 : Int32) (-4 : Int32) (0 : Int32) := by
  intro f
  induction f with
  | zero => intro k E _ _ _ hf; omega
  | succ f ih =>
    intro k E hE hm hk hf
    have hN := I.1
    have p2 := pow2 N hN
    have hk2 := pow2 k (by omega)
    rw [d_M_cooks_26, h3]
    by_cases hc : N ≤ k
    · have : k = N := by omega
      subst this
      rw [if_pos ((qb_leI (by omega) (by omega)).mpr hc)]
      exact ⟨E, hE, hm, rfl⟩
    · have hc' : ¬ nI N ≤ nI k := fun z => hc ((qb_leI (by omega) (by omega)).mp z)
      have hk3 := I.2.2.2.2.2.2.2 k (by omega)
      have h3k : nI (G k) = (3 : Int32) ↔ G k = 3 := qb_eqI (b := 3) (by omega) (by omega)
      have ez : (0 : Int32) + nI k = nI k := Int32.zero_add _
      unfold d_M_cooks_54 d_P_flag
      rw [if_neg hc']
      simp only [Option.bind_some, z10, z00, if_true, if_false, ez, qb_gt (show k < 123 by omega) (show 123 < 2147483648 by omega), qb_cl (show k < 2147483648 by omega), hs k (by omega), h3k, dl, show nI k + (1 : Int32) = nI (k + 1) from nI_add k 1]
      by_cases q : G k = 3
      · have a := add_set k (by omega) E (by omega) hE 1 (by omega)
        have a1 : nI E ||| (1 : Int32) <<< (nI k &&& 31) = nI (E + 1 * 2 ^ k) := a.1
        simp only [if_pos q, a1]
        refine ih (k + 1) (E + 1 * 2 ^ k) a.2.1 (fun i hi => ?_) (by omega) (by omega)
        by_cases qi : i = k
        · subst qi; rw [a.2.2.1]; exact ⟨fun _ => q, fun _ => rfl⟩
        · rw [a.2.2.2 i (by omega)]; exact hm i (by omega)
      · have a := add_set k (by omega) E (by omega) hE 0 (by omega)
        have a1 : nI E ||| (0 : Int32) <<< (nI k &&& 31) = nI (E + 0 * 2 ^ k) := a.1
        simp only [if_neg q, a1]
        refine ih (k + 1) (E + 0 * 2 ^ k) a.2.1 (fun i hi => ?_) (by omega) (by omega)
        by_cases qi : i = k
        · subst qi; rw [a.2.2.1]; exact ⟨fun z => by omega, fun z => absurd z q⟩
        · rw [a.2.2.2 i (by omega)]; exact hm i (by omega)
theorem p_cooks (u v : Nat → Nat → Int32) (a1 a2 : Int32) (h : Rel u v) : ∃ (r : Int32) (u2 : Nat → Nat → Int32) (v2 : Nat → Nat → Int32), d_F_cooks u a1 a2 = some (r, u2) ∧ d_M_cooks v a1 a2 = some (r, v2) ∧ Rel u2 v2 := by
  obtain ⟨N, g, h3, ⟨ec, hs, I, h19, h20⟩, hR⟩ := id h
  have hN := I.1
  have p2 := pow2 N hN
  unfold d_F_cooks d_M_cooks
  rcases gd0 a1 20 (by omega) with ⟨n, n1, n2, n3, n4⟩ | ⟨n3, n4⟩
  · subst n2
    have n4' : d_P_in (nI n).toInt64 (0 : Int64) (20 : Int64) = some 1 := n4
    have n3' : d_P_outside (nI n) 0 20 = some 0 := n3
    rcases prt a2 with ⟨i, i1, i2, i3, i4⟩ | ⟨i3, i4⟩
    · simp only [Option.bind_some, z10, z00, if_true, if_false, n3', n4', i3, i4]
      obtain ⟨E, e1, e2, e3⟩ := cooks_mask (u := u) (n := n) h3 hs I a2 FU 0 0 (by omega) (fun i hi => by omega) (by omega) (by show N - 0 < 10000; omega)
      have e3' : d_M_cooks_26 FU v (nI n) a2 0 0 = d_M_cooks_79 FU v (nI n) a2 (nI E) (1000000 : Int32) (-4 : Int32) (0 : Int32) := e3
      rw [e3']
      obtain ⟨r, t', s', b1, b2, b3, b4⟩ := cooks_lp (E := E) h3 ec hs I h19 h20 n1 (by omega) e2 a2 FU 0 6 1000000 (-4) u v AgF.rf AgM.rf (by omega) (by show 2 ^ N - 0 < 10000; omega) (Or.inl ⟨rfl, rfl, rfl⟩) (fun S' hS' => by omega)
      exact ⟨r, t', s', b1, b2, h.ag b3 b4⟩
    · simp only [Option.bind_some, z10, z00, if_true, if_false, n3', n4', i3, i4]
      exact ⟨_, _, _, rfl, rfl, h⟩
  · have n4' : d_P_in a1.toInt64 (0 : Int64) (20 : Int64) = some 0 := n4
    have n3' : d_P_outside a1 0 20 = some 1 := n3
    simp only [Option.bind_some, z10, z00, if_true, if_false, n3', n4']
    exact ⟨_, _, _, rfl, rfl, h⟩
