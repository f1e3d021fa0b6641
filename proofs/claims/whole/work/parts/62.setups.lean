/-! PURE: kinds by a number, kinds in a set, losses -/
def sK (N m : Nat) (g : Nat → Nat) : Nat → Nat := fun i => if i < N then m / 2 ^ (2 * (N - 1 - i)) % 4 else g i
def sIn (N m k : Nat) (g : Nat → Nat) : Nat → Nat := fun i => if i < N ∧ m / 2 ^ i % 2 = 1 then k else g i
def sLs (N n : Nat) (g : Nat → Nat) : Nat := (sNights N n g 20 - g 20) + (sNights N n g 21 - g 21)
theorem sK_n {N m : Nat} {g : Nat → Nat} {i : Nat} (h : N ≤ i) : sK N m g i = g i := if_neg (by omega)
theorem sIn_n {N m k : Nat} {g : Nat → Nat} {i : Nat} (h : N ≤ i) : sIn N m k g i = g i := if_neg (by omega)
theorem sKind_inv {N : Nat} {g g' : Nat → Nat} (I : sInv N g) (e : ∀ i, 5 ≤ i → g' i = g i) (h3 : ∀ i, i < 5 → g' i ≤ 3) : sInv N g' := by
  obtain ⟨i1, i0, i2, i3, i4, i5, i6, i7⟩ := I
  refine ⟨i1, ?_, ?_, ?_, ?_, ?_, fun h hh => ?_, h3⟩
  · rw [e 15 (by omega)]; exact i0
  · rw [e 15 (by omega)]; exact i2
  · rw [e 16 (by omega)]; exact i3
  · rw [e 17 (by omega)]; exact i4
  · rw [e 18 (by omega)]; exact i5
  · rw [e _ (by omega)]; exact i6 h hh
theorem sK_inv {N m : Nat} {g : Nat → Nat} (I : sInv N g) : sInv N (sK N m g) := sKind_inv I (fun i hi => sK_n (by have := I.1; omega)) (fun i hi => by
  unfold sK
  have := I.2.2.2.2.2.2.2 i hi
  split <;> omega)
theorem sIn_inv {N m k : Nat} {g : Nat → Nat} (I : sInv N g) (hk : k ≤ 3) : sInv N (sIn N m k g) := sKind_inv I (fun i hi => sIn_n (by have := I.1; omega)) (fun i hi => by
  unfold sIn
  have := I.2.2.2.2.2.2.2 i hi
  split <;> omega)
theorem C_kindBy {c : Nat → Nat → Int32} {N m h : Nat} (hN : N ≤ 5) (h4 : c 0 4 = nI N) (hh : h < N) (hm : m < 2147483648) : d_C_kindBy c (nI m) (nI h) = some (nI (m / 2 ^ (2 * (N - 1 - h)) % 4)) := by
  unfold d_C_kindBy
  rw [C_has h4 hN (by omega), if_pos hh, Option.bind_some, if_neg (by decide), h4, k_1, pk_sub (by omega), pk_sub (by omega), k_2, pk_mul, qb_shr hm (by omega), k_3]
  have hd : m / 2 ^ (2 * (N - 1 - h)) ≤ m := Nat.div_le_self _ _
  rw [pk_andN (m := nI 3) (by omega) 2 (by decide)]
theorem C_kindBy0 {c : Nat → Nat → Int32} {N : Nat} (hN : N ≤ 5) (h4 : c 0 4 = nI N) (m a : Int32) (h : d_C_has c a = some 0) : d_C_kindBy c m a = some 0 := by
  unfold d_C_kindBy
  rw [h]
  rfl
theorem C_putKinds_2 {N m b q : Nat} {g : Nat → Nat} (hN : N ≤ 5) (hm : m < 2147483648) : ∀ (f k : Nat) (c : Nat → Nat → Int32), EC c N (fun i => if i < k then m / 2 ^ (2 * (N - 1 - i)) % 4 else g i) b q → k ≤ N → N - k < f → ∃ c2, d_C_putKinds_2 f c (nI m) (nI k) = some c2 ∧ EC c2 N (sK N m g) b q ∧ (EB c N g → EB c2 N (sK N m g)) := by
  intro f
  induction f with
  | zero => intro k c _ _ hf; omega
  | succ f ih =>
    intro k c h hk hf
    rw [d_C_putKinds_2, h.1]
    by_cases hc : N ≤ k
    · rw [if_pos ((qb_leI (by omega) (by omega)).mpr hc)]
      have : k = N := by omega
      subst this
      exact ⟨c, rfl, h, fun hB j hj => by rw [sK_n (by omega)]; exact hB j hj⟩
    · rw [if_neg (fun z => hc ((qb_leI (by omega) (by omega)).mp z)), C_kindBy hN h.1 (by omega) hm, Option.bind_some, qb_gt (by omega) (by omega), if_pos rfl, qb_cl (by omega)]
      simp only [dl, k_1, nI_add]
      obtain ⟨c2, e1, e2, e3⟩ := ih (k + 1) (pw c 1 k (nI (m / 2 ^ (2 * (N - 1 - k)) % 4))) (by
        have := h.k hN (show k < N by omega) (m / 2 ^ (2 * (N - 1 - k)) % 4)
        have e : sp (fun i => if i < k then m / 2 ^ (2 * (N - 1 - i)) % 4 else g i) k (m / 2 ^ (2 * (N - 1 - k)) % 4) = (fun i => if i < k + 1 then m / 2 ^ (2 * (N - 1 - i)) % 4 else g i) := by
          funext i
          simp only [sp]
          by_cases q : i = k
          · subst q; rw [if_pos rfl, if_pos (by omega)]
          · rw [if_neg q]
            by_cases q2 : i < k
            · rw [if_pos q2, if_pos (by omega)]
            · rw [if_neg q2, if_neg (by omega)]
        rw [e] at this
        exact this) (by omega) (by omega)
      exact ⟨c2, e1, e2, fun hB => e3 (fun j hj => by rw [pw_n _ _ _ (by omega)]; exact hB j hj)⟩
theorem C_putKinds {N m b q : Nat} {g : Nat → Nat} {c : Nat → Nat → Int32} (hN : N ≤ 5) (hm : m < 2147483648) (h : EC c N g b q) : ∃ c2, d_C_putKinds c (nI m) = some c2 ∧ EC c2 N (sK N m g) b q ∧ (EB c N g → EB c2 N (sK N m g)) := C_putKinds_2 hN hm FU 0 c (by
    have e : (fun i => if i < 0 then m / 2 ^ (2 * (N - 1 - i)) % 4 else g i) = g := by funext i; rw [if_neg (by omega)]
    rw [e]; exact h) (by omega) (by show N - 0 < 10000; omega)
theorem C_putKindIn_2 {N m x b q : Nat} {g : Nat → Nat} (hN : N ≤ 5) (hm : m < 2147483648) : ∀ (f k : Nat) (c : Nat → Nat → Int32), EC c N (fun i => if i < k ∧ m / 2 ^ i % 2 = 1 then x else g i) b q → k ≤ N → N - k < f → ∃ c2, d_C_putKindIn_2 f c (nI m) (nI x) (nI k) = some c2 ∧ EC c2 N (sIn N m x g) b q ∧ (EB c N g → EB c2 N (sIn N m x g)) := by
  intro f
  induction f with
  | zero => intro k c _ _ hf; omega
  | succ f ih =>
    intro k c h hk hf
    rw [d_C_putKindIn_2, h.1]
    by_cases hc : N ≤ k
    · rw [if_pos ((qb_leI (by omega) (by omega)).mpr hc)]
      have : k = N := by omega
      subst this
      exact ⟨c, rfl, h, fun hB j hj => by rw [sIn_n (by omega)]; exact hB j hj⟩
    · rw [if_neg (fun z => hc ((qb_leI (by omega) (by omega)).mp z)), qb_bit hm (by omega), k_1]
      unfold d_C_putKindIn_26
      simp only [dl, k_1, nI_add]
      by_cases hb : m / 2 ^ k % 2 = 1
      · rw [if_pos (by rw [hb]), qb_gt (by omega) (by omega), if_pos rfl, qb_cl (by omega)]
        obtain ⟨c2, e1, e2, e3⟩ := ih (k + 1) (pw c 1 k (nI x)) (by
          have := h.k hN (show k < N by omega) x
          have e : sp (fun i => if i < k ∧ m / 2 ^ i % 2 = 1 then x else g i) k x = (fun i => if i < k + 1 ∧ m / 2 ^ i % 2 = 1 then x else g i) := by
            funext i
            simp only [sp]
            by_cases q : i = k
            · subst q; rw [if_pos rfl, if_pos ⟨by omega, hb⟩]
            · rw [if_neg q]
              by_cases q2 : i < k ∧ m / 2 ^ i % 2 = 1
              · rw [if_pos q2, if_pos ⟨by omega, q2.2⟩]
              · rw [if_neg q2, if_neg (fun q3 => q2 ⟨by omega, q3.2⟩)]
          rw [e] at this
          exact this) (by omega) (by omega)
        exact ⟨c2, e1, e2, fun hB => e3 (fun j hj => by rw [pw_n _ _ _ (by omega)]; exact hB j hj)⟩
      · rw [if_neg (fun z => hb ((qb_eqI (by omega) (by omega)).mp z))]
        exact ih (k + 1) c (by
          have e : (fun i => if i < k ∧ m / 2 ^ i % 2 = 1 then x else g i) = (fun i => if i < k + 1 ∧ m / 2 ^ i % 2 = 1 then x else g i) := by
            funext i
            by_cases q2 : i < k ∧ m / 2 ^ i % 2 = 1
            · rw [if_pos q2, if_pos ⟨by omega, q2.2⟩]
            · rw [if_neg q2, if_neg (fun q3 => by
                by_cases q4 : i = k
                · subst q4; exact hb q3.2
                · exact q2 ⟨by omega, q3.2⟩)]
          rw [e] at h
          exact h) (by omega) (by omega)
theorem C_putKindIn {N m x b q : Nat} {g : Nat → Nat} {c : Nat → Nat → Int32} (hN : N ≤ 5) (hm : m < 2147483648) (h : EC c N g b q) : ∃ c2, d_C_putKindIn c (nI m) (nI x) = some c2 ∧ EC c2 N (sIn N m x g) b q ∧ (EB c N g → EB c2 N (sIn N m x g)) := C_putKindIn_2 hN hm FU 0 c (by
    have e : (fun i => if i < 0 ∧ m / 2 ^ i % 2 = 1 then x else g i) = g := by funext i; rw [if_neg (by omega)]
    rw [e]; exact h) (by omega) (by show N - 0 < 10000; omega)
theorem EM.cgg {v : Nat → Nat → Int32} {N : Nat} {g g' : Nat → Nat} (h : EM v N g) (e : ∀ i, i < 22 → g' i = g i) : EM v N g' := ⟨h.1, fun i hi => by rw [e i hi]; exact h.2 i hi⟩
theorem M_startsBy_13 {N m : Nat} {g : Nat → Nat} (hN : N ≤ 5) (hm : m < 2147483648) : ∀ (f k : Nat) (t : Nat → Nat → Int32), EM t N (fun i => if k ≤ i ∧ i < N then m / 2 ^ (2 * (N - 1 - i)) % 4 else g i) → k ≤ N → k < f → ∃ t', d_M_startsBy_13 f t (nI (m / 2 ^ (2 * (N - k)))) (nI k - 1) = some t' ∧ EM t' N (sK N m g) ∧ okM t t' := by
  intro f
  induction f with
  | zero => intro k c _ _ hf; omega
  | succ f ih =>
    intro k t h hk hf
    have hd : m / 2 ^ (2 * (N - k)) ≤ m := Nat.div_le_self _ _
    rw [d_M_startsBy_13]
    by_cases hc : k = 0
    · subst hc
      rw [if_pos (by decide)]
      refine ⟨t, rfl, ?_, okM.rf⟩
      refine h.cgg (fun i _ => ?_)
      unfold sK
      by_cases q : i < N
      · rw [if_pos q, if_pos ⟨by omega, q⟩]
      · rw [if_neg q, if_neg (fun z => q z.2)]
    · rw [k_1, pk_sub (by omega), if_neg (nI_pos (by omega)), k_0, nI_add, Nat.zero_add, qb_gt (by omega) (by omega), if_pos rfl, qb_cl (by omega), k_4, qb_rem (by omega) (by omega) (by omega), pk_div (by omega) (by omega) (by omega)]
      simp only [dl]
      have en : nI (k - 1) + (-nI 1) = nI (k - 1) - 1 := (Int32.sub_eq_add_neg _ _).symm
      rw [en]
      have ed : m / 2 ^ (2 * (N - k)) / 4 = m / 2 ^ (2 * (N - (k - 1))) := by
        rw [Nat.div_div_eq_div_mul, show 2 * (N - (k - 1)) = 2 * (N - k) + 2 by omega, Nat.pow_add]
      rw [ed]
      obtain ⟨t', e1, e2, e3⟩ := ih (k - 1) (pw t 2 (k - 1) (nI (m / 2 ^ (2 * (N - k)) % 4))) (by
        refine (h.put (k - 1) (m / 2 ^ (2 * (N - k)) % 4)).cgg (fun i _ => ?_)
        simp only [sp]
        by_cases q : i = k - 1
        · rw [if_pos q, if_pos (by omega), q, show N - 1 - (k - 1) = N - k by omega]
        · rw [if_neg q]
          by_cases q2 : k ≤ i ∧ i < N
          · rw [if_pos q2, if_pos (by omega)]
          · rw [if_neg q2, if_neg (by omega)]) (by omega) (by omega)
      exact ⟨t', e1, e2, (okM.put (by omega)).tr e3⟩
theorem M_startsBy {v t : Nat → Nat → Int32} {N m : Nat} {G : Nat → Nat} (hN : N ≤ 5) (hm : m < 2147483648) (h3 : v 0 3 = nI N) (hs : ∀ i, i < 22 → v 1 i = nI (G i)) (ha : AgM v t) : ∃ t', d_M_startsBy t (nI m) = some t' ∧ TM v N (sK N m (sT G)) t' := by
  obtain ⟨t1, e1, e2⟩ := M_start h3 hs ha
  unfold d_M_startsBy
  rw [e1, Option.bind_some, e2.1.1]
  simp only [dl]
  obtain ⟨t2, f1, f2, f3⟩ := M_startsBy_13 (m := m) (g := sT G) hN hm FU N t1 (e2.1.cgg (fun i _ => by rw [if_neg (by omega)])) (by omega) (by show N < 10000; omega)
  rw [Nat.sub_self, Nat.mul_zero, Nat.pow_zero, Nat.div_one] at f1
  exact ⟨t2, f1, e2.go f2 f3⟩
theorem pw_same {t : Nat → Nat → Int32} {N : Nat} {g : Nat → Nat} (h : EM t N g) {k : Nat} (hk : k < 22) : EM (pw t 2 k (t 2 k)) N g := by
  rw [h.2 k hk]
  refine (h.put k (g k)).cgg (fun i _ => ?_)
  simp only [sp]
  split
  · rename_i q; rw [q]
  · rfl
theorem M_startsWithCooks_6 {N m : Nat} {g : Nat → Nat} (hN : N ≤ 5) (hm : m < 2147483648) : ∀ (f k : Nat) (t : Nat → Nat → Int32), EM t N (fun i => if i < k ∧ m / 2 ^ i % 2 = 1 then 3 else g i) → k ≤ N → N - k < f → ∃ t', d_M_startsWithCooks_6 f t (nI m) (nI k) = some t' ∧ EM t' N (sIn N m 3 g) ∧ okM t t' := by
  intro f
  induction f with
  | zero => intro k c _ _ hf; omega
  | succ f ih =>
    intro k t h hk hf
    rw [d_M_startsWithCooks_6, h.1]
    by_cases hc : N ≤ k
    · rw [if_pos ((qb_leI (by omega) (by omega)).mpr hc)]
      have : k = N := by omega
      subst this
      exact ⟨t, rfl, h, okM.rf⟩
    · rw [if_neg (fun z => hc ((qb_leI (by omega) (by omega)).mp z)), qb_bit hm (by omega), k_1]
      unfold d_M_startsWithCooks_42
      simp only [dl, k_1, k_0, k_3, nI_add, Nat.zero_add]
      rw [qb_gt (by omega) (by omega), if_pos rfl, qb_cl (by omega)]
      by_cases hb : m / 2 ^ k % 2 = 1
      · rw [if_pos (by rw [hb])]
        obtain ⟨t', e1, e2, e3⟩ := ih (k + 1) (pw t 2 k (nI 3)) (by
          refine (h.put k 3).cgg (fun i _ => ?_)
          simp only [sp]
          by_cases q : i = k
          · subst q; rw [if_pos rfl, if_pos ⟨by omega, hb⟩]
          · rw [if_neg q]
            by_cases q2 : i < k ∧ m / 2 ^ i % 2 = 1
            · rw [if_pos q2, if_pos ⟨by omega, q2.2⟩]
            · rw [if_neg q2, if_neg (fun q3 => q2 ⟨by omega, q3.2⟩)]) (by omega) (by omega)
        exact ⟨t', e1, e2, (okM.put (by omega)).tr e3⟩
      · rw [if_neg (fun z => hb ((qb_eqI (by omega) (by omega)).mp z)), if_pos rfl, if_pos rfl]
        obtain ⟨t', e1, e2, e3⟩ := ih (k + 1) (pw t 2 k (t 2 k)) (by
          refine (pw_same h (by omega)).cgg (fun i _ => ?_)
          by_cases q2 : i < k ∧ m / 2 ^ i % 2 = 1
          · rw [if_pos q2, if_pos ⟨by omega, q2.2⟩]
          · rw [if_neg q2, if_neg (fun q3 => by
              by_cases q4 : i = k
              · subst q4; exact hb q3.2
              · exact q2 ⟨by omega, q3.2⟩)]) (by omega) (by omega)
        exact ⟨t', e1, e2, (okM.put (by omega)).tr e3⟩
theorem M_startsWithCooks {v t : Nat → Nat → Int32} {N m : Nat} {G : Nat → Nat} (hN : N ≤ 5) (hm : m < 2147483648) (h3 : v 0 3 = nI N) (hs : ∀ i, i < 22 → v 1 i = nI (G i)) (ha : AgM v t) : ∃ t', d_M_startsWithCooks t (nI m) = some t' ∧ TM v N (sIn N m 3 (sT G)) t' := by
  obtain ⟨t1, e1, e2⟩ := M_start h3 hs ha
  unfold d_M_startsWithCooks
  rw [e1, Option.bind_some]
  obtain ⟨t2, f1, f2, f3⟩ := M_startsWithCooks_6 (m := m) (g := sT G) hN hm FU 0 t1 (e2.1.cgg (fun i _ => by rw [if_neg (by omega)])) (by omega) (by show N - 0 < 10000; omega)
  exact ⟨t2, f1, e2.go f2 f3⟩
theorem M_lossOf {v t : Nat → Nat → Int32} {N n : Nat} {g : Nat → Nat} (h : TM v N g t) (I : sInv N g) (h19 : g 19 ≤ 1000) (hn : n ≤ 60) : ∃ t', d_M_lossOf t (nI n) = some (nI (sLs N n g), t') ∧ TM v N (sNights N n g) t' := by
  obtain ⟨t2, f1, f2, f3⟩ := M_nights h.1 I h19 hn
  have m1 := sNights_mono n g I
  unfold d_M_lossOf
  simp only [dl]
  rw [f1, Option.bind_some, show (20 : Int32).toNatClampNeg = 20 from rfl, show (21 : Int32).toNatClampNeg = 21 from rfl, h.1.2 20 (by omega), h.1.2 21 (by omega), f2.2 20 (by omega), f2.2 21 (by omega), nI_add, nI_add, pk_sub (by omega)]
  refine ⟨t2, ?_, h.go f2 f3⟩
  unfold sLs
  rw [show sNights N n g 20 + sNights N n g 21 - (g 20 + g 21) = sNights N n g 20 - g 20 + (sNights N n g 21 - g 21) by omega]
theorem TF.nights {u t : Nat → Nat → Int32} {N n b q : Nat} {g : Nat → Nat} (h : TF u N g b q t) (I : sInv N g) (h19 : g 19 ≤ 1000) (hn : n ≤ 60) : ∃ c, d_C_passNights (sh t 16) (nI n) = some c ∧ TF u N (sNights N n g) b q (pt t 16 5 c) ∧ EC c N (sNights N n g) b q ∧ EB c N (sNights N n g) := by
  obtain ⟨c, e1, e2, e3⟩ := C_nights h.1 I h19 hn
  exact ⟨c, e1, h.go e2 e3, e2, e3 h.2.1⟩
theorem TF.loss {u t : Nat → Nat → Int32} {N b q : Nat} {g : Nat → Nat} (h : TF u N g b q t) : d_C_loss (sh t 16) = some (nI (g 20 - b + (g 21 - q))) := by
  unfold d_C_loss
  rw [h.1.2.2.2.2.2.2.1, h.1.2.2.2.2.2.2.2.1, nI_add]
theorem F_play {u t : Nat → Nat → Int32} {N m x n : Nat} {G : Nat → Nat} (h : EC (sh u 11) N G 0 0) (I : sInv N G) (h19 : G 19 ≤ 999) (hm : m < 2147483648) (hx : x ≤ 3) (hn : n ≤ 60) (ha : AgF u t) : ∃ t', d_F_playWith t (nI m) (nI x) (nI n) = some t' ∧ TF u N (sNights N n (sIn N m x (sT G))) (G 20) (G 21) t' := by
  have hN := I.1
  obtain ⟨t1, e1, e2⟩ := F_start hN h ha
  unfold d_F_playWith
  rw [e1, Option.bind_some]
  obtain ⟨c2, f1, f2, f3⟩ := C_putKindIn (x := x) hN hm e2.1
  rw [f1, Option.bind_some]
  obtain ⟨c3, g1, g2, g3, g4⟩ := (e2.go f2 f3).nights (n := n) (sIn_inv (sT_inv I) hx) (by rw [sIn_n (by omega), sT_lt (by omega)]; omega) hn
  rw [g1, Option.bind_some]
  exact ⟨_, rfl, g2⟩
theorem TF.lossN {u t : Nat → Nat → Int32} {N n : Nat} {g G : Nat → Nat} (h : TF u N (sNights N n g) (G 20) (G 21) t) (e0 : g 20 = G 20) (e1 : g 21 = G 21) : d_C_loss (sh t 16) = some (nI (sLs N n g)) := by
  rw [h.loss]
  unfold sLs
  rw [e0, e1]
theorem F_asItIs {u t : Nat → Nat → Int32} {N n : Nat} {G : Nat → Nat} (h : EC (sh u 11) N G 0 0) (I : sInv N G) (h19 : G 19 ≤ 999) (hn : n ≤ 60) (ha : AgF u t) : ∃ t', d_F_lossAsItIs t (nI n) = some (nI (sLs N n (sT G)), t') ∧ AgF u t' := by
  obtain ⟨t1, e1, e2⟩ := F_start I.1 h ha
  unfold d_F_lossAsItIs
  rw [e1, Option.bind_some]
  obtain ⟨c3, g1, g2, g3, g4⟩ := e2.nights (n := n) (sT_inv I) (by rw [sT_lt (by omega)]; omega) hn
  rw [g1, Option.bind_some, g2.lossN rfl rfl, Option.bind_some]
  exact ⟨_, rfl, g2.2.2⟩
theorem F_byKinds {u t : Nat → Nat → Int32} {N m n : Nat} {G : Nat → Nat} (h : EC (sh u 11) N G 0 0) (I : sInv N G) (h19 : G 19 ≤ 999) (hm : m < 2147483648) (hn : n ≤ 60) (ha : AgF u t) : ∃ t', d_F_lossByKinds t (nI m) (nI n) = some (nI (sLs N n (sK N m (sT G))), t') ∧ AgF u t' := by
  have hN := I.1
  obtain ⟨t1, e1, e2⟩ := F_start I.1 h ha
  unfold d_F_lossByKinds
  rw [e1, Option.bind_some]
  obtain ⟨c2, f1, f2, f3⟩ := C_putKinds hN hm e2.1
  rw [f1, Option.bind_some]
  obtain ⟨c3, g1, g2, g3, g4⟩ := (e2.go f2 f3).nights (n := n) (sK_inv (sT_inv I)) (by rw [sK_n (by omega), sT_lt (by omega)]; omega) hn
  rw [g1, Option.bind_some, g2.lossN (by rw [sK_n (by omega)]; rfl) (by rw [sK_n (by omega)]; rfl), Option.bind_some]
  exact ⟨_, rfl, g2.2.2⟩
theorem M_byKinds {v t : Nat → Nat → Int32} {N m n : Nat} {G : Nat → Nat} (h3 : v 0 3 = nI N) (hs : ∀ i, i < 22 → v 1 i = nI (G i)) (I : sInv N G) (h19 : G 19 ≤ 999) (hm : m < 2147483648) (hn : n ≤ 60) (ha : AgM v t) : ∃ t1 t', d_M_startsBy t (nI m) = some t1 ∧ d_M_lossOf t1 (nI n) = some (nI (sLs N n (sK N m (sT G))), t') ∧ AgM v t' := by
  have hN := I.1
  obtain ⟨t1, e1, e2⟩ := M_startsBy hN hm h3 hs ha
  obtain ⟨t2, f1, f2⟩ := M_lossOf (n := n) e2 (sK_inv (sT_inv I)) (by rw [sK_n (by omega), sT_lt (by omega)]; omega) hn
  exact ⟨t1, t2, e1, f1, f2.2⟩
theorem M_asItIs {v t : Nat → Nat → Int32} {N n : Nat} {G : Nat → Nat} (h3 : v 0 3 = nI N) (hs : ∀ i, i < 22 → v 1 i = nI (G i)) (I : sInv N G) (h19 : G 19 ≤ 999) (hn : n ≤ 60) (ha : AgM v t) : ∃ t1 t', d_M_starts t = some t1 ∧ d_M_lossOf t1 (nI n) = some (nI (sLs N n (sT G)), t') ∧ AgM v t' := by
  obtain ⟨t1, e1, e2⟩ := M_start h3 hs ha
  obtain ⟨t2, f1, f2⟩ := M_lossOf (n := n) e2 (sT_inv I) (by rw [sT_lt (by omega)]; omega) hn
  exact ⟨t1, t2, e1, f1, f2.2⟩
theorem sLs_le {N n : Nat} {g : Nat → Nat} (I : sInv N g) : sLs N n g ≤ 21 * n := by
  have := sNights_mono n g I
  unfold sLs
  omega
