/-! PURE: who is out, by odds -/
theorem nI_l64 {a : Nat} (h : a < 2147483648) : (nI a).toInt64 = lN a := Int32.toInt64_ofNat' (by show (a : Int) ≤ 2147483647; omega)
def pO (x S : Nat) : Nat → Nat
  | 0 => 1
  | k + 1 => pO x S k * (if S / 2 ^ k % 2 = 1 then x else 10 - x)
def cB (S : Nat) : Nat → Nat
  | 0 => 0
  | k + 1 => cB S k + S / 2 ^ k % 2
theorem cB_le (S : Nat) : ∀ k, cB S k ≤ k := by
  intro k
  induction k with
  | zero => exact Nat.le_refl _
  | succ k ih => rw [cB]; omega
theorem pO_eq (x S : Nat) : ∀ k, pO x S k = x ^ cB S k * (10 - x) ^ (k - cB S k) := by
  intro k
  induction k with
  | zero => rfl
  | succ k ih =>
    have := cB_le S k
    rw [pO, cB, ih]
    by_cases q : S / 2 ^ k % 2 = 1
    · rw [if_pos q, q, show k + 1 - (cB S k + 1) = k - cB S k by omega, Nat.pow_succ, Nat.mul_assoc, Nat.mul_assoc, Nat.mul_comm x]
    · rw [if_neg q, show S / 2 ^ k % 2 = 0 by omega, Nat.add_zero, show k + 1 - cB S k = (k - cB S k) + 1 by omega, Nat.pow_succ, Nat.mul_assoc]
theorem pO_le {x : Nat} (hx : x ≤ 10) (S : Nat) : ∀ k, pO x S k ≤ 10 ^ k := by
  intro k
  induction k with
  | zero => exact Nat.le_refl _
  | succ k ih =>
    rw [pO, Nat.pow_succ]
    refine Nat.mul_le_mul ih ?_
    split <;> omega
theorem cB_bc : ∀ N, N < 6 → ∀ S, S < 32 → 2 ^ N ≤ S ∨ cB S N = bc S := by decide +kernel
theorem pows : ∀ a, a < 11 → ∀ e, e < 6 → d_P_power (nI a) (nI e) = some (lN (a ^ e)) := by decide +kernel
theorem ten : ∀ N, N < 6 → 10 ^ N ≤ 100000 ∧ 0 < 10 ^ N := by decide
def sS (w : Nat → Nat) : Nat → Nat
  | 0 => 0
  | k + 1 => sS w k + w k
theorem sS_le {w : Nat → Nat} {B : Nat} (h : ∀ k, w k ≤ B) : ∀ k, sS w k ≤ B * k := by
  intro k
  induction k with
  | zero => exact Nat.zero_le _
  | succ k ih => rw [sS, Nat.mul_succ]; have := h k; omega
def wL (N n x : Nat) (G : Nat → Nat) (S : Nat) : Nat := if sNights N n (sIn N S 2 (sT G)) 20 = G 20 then pO x S N else 0
def wM (N n x : Nat) (G : Nat → Nat) (S : Nat) : Nat := pO x S N * sLs N n (sIn N S 2 (sT G))
theorem F_odds {t : Nat → Nat → Int32} {N S x : Nat} (hN : N ≤ 5) (hx : x ≤ 10) (hS : S < 2 ^ N) (h4 : t 11 4 = nI N) : d_F_oddsOfOut t (nI S) (nI x) = some (lN (pO x S N)) := by
  have p2 := pow2 N hN
  obtain ⟨b1, b2, b3⟩ := bcs S (by omega)
  have hb : cB S N = bc S := by
    rcases cB_bc N (by omega) S (by omega) with q | q
    · omega
    · exact q
  have hle := cB_le S N
  rw [hb] at hle
  unfold d_F_oddsOfOut
  rw [b1, Option.bind_some, pows x (by omega) (bc S) (by omega), Option.bind_some, k_10, pk_sub hx, h4, pk_sub hle, pows (10 - x) (by omega) (N - bc S) (by omega), Option.bind_some, lN_mul, pO_eq, hb]
theorem F_luck_lp {u : Nat → Nat → Int32} {N n x : Nat} {G : Nat → Nat} (ec : EC (sh u 11) N G 0 0) (I : sInv N G) (h19 : G 19 ≤ 999) (hn : n ≤ 20) (hx : x ≤ 10) (a3 : Int32) : ∀ (f S : Nat) (t : Nat → Nat → Int32), AgF u t → S ≤ 2 ^ N → 2 ^ N - S < f → ∃ t', AgF u t' ∧ d_F_luck_39 f t (nI x) (nI n) a3 (lN (sS (wL N n x G) S)) (nI S) = (d_P_partOfFraction (lN (sS (wL N n x G) (2 ^ N))) (lN (10 ^ N)) a3).bind fun z => some (z, t') := by
  intro f
  induction f with
  | zero => intro S t _ _ hf; omega
  | succ f ih =>
    intro S t hF hS hf
    have hN := I.1
    have p2 := pow2 N hN
    have e4 : t 11 4 = nI N := by rw [hF 11 (by omega) (by omega)]; exact ec.1
    rw [d_F_luck_39, e4, p2.2.2]
    by_cases hc : 2 ^ N ≤ S
    · have : S = 2 ^ N := by omega
      rw [if_pos ((qb_leI (by omega) (by omega)).mpr hc), k_10, pows 10 (by omega) N (by omega), Option.bind_some, this]
      exact ⟨t, hF, rfl⟩
    · rw [if_neg (fun z => hc ((qb_leI (by omega) (by omega)).mp z))]
      obtain ⟨t1, f1, f2, f3, f4⟩ := F_playLoss (m := S) (x := 2) (n := n) ec I h19 (by omega) (by omega) (by omega) hF
      have f1' : d_F_playWith t (nI S) 2 (nI n) = some t1 := f1
      have mo := sNights_mono n (sIn N S 2 (sT G)) (sIn_inv (sT_inv I) (by omega))
      rw [sIn_n (by omega), sT_lt (by omega)] at mo
      have hz : t1 16 10 = (0 : Int32) ↔ sNights N n (sIn N S 2 (sT G)) 20 = G 20 := by
        rw [f3]
        refine (qb_eqI (b := 0) (by omega) (by omega)).trans ?_
        omega
      have e41 : t1 11 4 = nI N := by rw [f4 11 (by omega) (by omega)]; exact ec.1
      have w := ih (S + 1) t1 f4 (by omega) (by omega)
      unfold d_F_luck_79
      simp only [Option.bind_some, z10, z00, if_true, if_false, f1', hz, F_odds hN hx (show S < 2 ^ N by omega) e41, dl, k_1, nI_add, lN_add]
      rw [sS] at w
      unfold wL at w ⊢
      by_cases hq : sNights N n (sIn N S 2 (sT G)) 20 = G 20
      · simp only [if_pos hq] at w ⊢
        exact w
      · simp only [if_neg hq, Nat.add_zero] at w ⊢
        exact w
theorem F_mean_lp {u : Nat → Nat → Int32} {N n x : Nat} {G : Nat → Nat} (ec : EC (sh u 11) N G 0 0) (I : sInv N G) (h19 : G 19 ≤ 999) (hn : n ≤ 20) (hx : x ≤ 10) (a3 : Int32) : ∀ (f S : Nat) (t : Nat → Nat → Int32), AgF u t → S ≤ 2 ^ N → 2 ^ N - S < f → ∃ t', AgF u t' ∧ d_F_mean_39 f t (nI x) (nI n) a3 (lN (sS (wM N n x G) S)) (nI S) = (d_P_partOfFraction (lN (sS (wM N n x G) (2 ^ N))) (lN (10 ^ N)) a3).bind fun z => some (z, t') := by
  intro f
  induction f with
  | zero => intro S t _ _ hf; omega
  | succ f ih =>
    intro S t hF hS hf
    have hN := I.1
    have p2 := pow2 N hN
    have e4 : t 11 4 = nI N := by rw [hF 11 (by omega) (by omega)]; exact ec.1
    rw [d_F_mean_39, e4, p2.2.2]
    by_cases hc : 2 ^ N ≤ S
    · have : S = 2 ^ N := by omega
      rw [if_pos ((qb_leI (by omega) (by omega)).mpr hc), k_10, pows 10 (by omega) N (by omega), Option.bind_some, this]
      exact ⟨t, hF, rfl⟩
    · rw [if_neg (fun z => hc ((qb_leI (by omega) (by omega)).mp z))]
      obtain ⟨t1, f1, f2, f3, f4⟩ := F_playLoss (m := S) (x := 2) (n := n) ec I h19 (by omega) (by omega) (by omega) hF
      have f1' : d_F_playWith t (nI S) 2 (nI n) = some t1 := f1
      have hL : sLs N n (sIn N S 2 (sT G)) ≤ 420 := by have := sLs_le (n := n) (sIn_inv (m := S) (sT_inv I) (show 2 ≤ 3 by omega)); omega
      have w := ih (S + 1) t1 f4 (by omega) (by omega)
      simp only [Option.bind_some, z10, z00, if_true, if_false, f1', f2, F_odds hN hx (show S < 2 ^ N by omega) e4, dl, k_1, nI_add, nI_l64 (show sLs N n (sIn N S 2 (sT G)) < 2147483648 by omega), lN_mul, lN_add]
      exact w
theorem M_odds_in {v : Nat → Nat → Int32} {N n x S : Nat} {G : Nat → Nat} (h3 : v 0 3 = nI N) (hs : ∀ i, i < 22 → v 1 i = nI (G i)) (I : sInv N G) (h19 : G 19 ≤ 999) (h20 : G 20 ≤ 20 * G 19) (hn : n ≤ 20) (hx : x ≤ 10) (hS : S < 32) (kM : (Nat → Nat → Int32) → (Nat → Int64) → Int32 → Int32 → Int32 → Option ((Nat → Nat → Int32) × (Nat → Int64))) (w : Nat → Int64) : ∀ (f k : Nat) (s : Nat → Nat → Int32), TM v N (fun i => if i < k ∧ S / 2 ^ i % 2 = 1 then 2 else sT G i) s → k ≤ N → N - k < f → ∃ s', AgM v s' ∧ d_M_findOdds_65 kM f s w (nI x) (nI n) (nI S) (lN (pO x S k)) (nI k) = kM s' (pwl (pwl w 18 (w 18 + lN (wL N n x G S))) 19 (w 19 + lN (wM N n x G S))) (nI x) (nI n) (nI (S + 1)) := by
  intro f
  induction f with
  | zero => intro k s _ _ hf; omega
  | succ f ih =>
    intro k s hM hk hf
    have hN := I.1
    rw [d_M_findOdds_65, hM.1.1]
    by_cases hc : N ≤ k
    · have : k = N := by omega
      subst this
      rw [if_pos ((qb_leI (by omega) (by omega)).mpr hc)]
      have hM' : TM v k (sIn k S 2 (sT G)) s := hM
      have I2 := sIn_inv (m := S) (sT_inv I) (show 2 ≤ 3 by omega)
      obtain ⟨s2, l1, l2⟩ := M_lossOf (n := n) hM' I2 (by rw [sIn_n (by omega), sT_lt (by omega)]; omega) (by omega)
      have hL : sLs k n (sIn k S 2 (sT G)) ≤ 420 := by have := sLs_le (n := n) I2; omega
      have m1 : s2 1 = v 1 := l2.2 1 (by omega) (by omega) (by omega)
      have mo := sNights_mono n (sIn k S 2 (sT G)) I2
      rw [sIn_n (by omega), sT_lt (by omega)] at mo
      have hz2 : nI (sNights k n (sIn k S 2 (sT G)) 20) = nI (G 20) ↔ sNights k n (sIn k S 2 (sT G)) 20 = G 20 := qb_eqI (by omega) (by omega)
      unfold d_M_findOdds_179
      simp only [Option.bind_some, z10, z00, if_true, if_false, l1, m1, show (20 : Int32).toNatClampNeg = 20 from rfl, hs 20 (by omega), l2.1.2 20 (by omega), hz2, dl, k_1, nI_add, nI_l64 (show sLs k n (sIn k S 2 (sT G)) < 2147483648 by omega), lN_mul]
      refine ⟨s2, l2.2, ?_⟩
      unfold wL wM
      by_cases hq : sNights k n (sIn k S 2 (sT G)) 20 = G 20
      · simp only [if_pos hq]
      · simp only [if_neg hq]
        rfl
    · have hc' : ¬ nI N ≤ nI k := fun z => hc ((qb_leI (by omega) (by omega)).mp z)
      have ez : (0 : Int32) + nI k = nI k := Int32.zero_add _
      have h10 : (10 : Int32) - nI x = nI (10 - x) := by rw [k_10, pk_sub hx]
      have hb1 : nI (S / 2 ^ k % 2) = (1 : Int32) ↔ S / 2 ^ k % 2 = 1 := qb_eqI (b := 1) (by omega) (by omega)
      rw [if_neg hc', qb_bit (by omega) (by omega)]
      unfold d_M_findOdds_89 d_M_findOdds_108 d_M_findOdds_137
      simp only [Option.bind_some, z10, z00, if_true, if_false, hb1, dl, ez, h10, nI_l64 (show x < 2147483648 by omega), nI_l64 (show 10 - x < 2147483648 by omega), lN_mul, qb_gt (show k < 41 by omega) (show 41 < 2147483648 by omega), qb_cl (show k < 2147483648 by omega), show nI k + (1 : Int32) = nI (k + 1) from nI_add k 1]
      by_cases hq : S / 2 ^ k % 2 = 1
      · simp only [if_pos hq]
        have w' := ih (k + 1) (pw s 2 k 2) (by
          refine hM.go (g2 := (fun i => if i < k + 1 ∧ S / 2 ^ i % 2 = 1 then 2 else sT G i)) ?_ (okM.put (by omega))
          have := hM.1.put k 2
          refine (show EM (pw s 2 k 2) N _ from this).cgg (fun i _ => ?_)
          simp only [sp]
          by_cases q : i = k
          · subst q; rw [if_pos rfl, if_pos ⟨by omega, hq⟩]
          · rw [if_neg q]
            by_cases q2 : i < k ∧ S / 2 ^ i % 2 = 1
            · rw [if_pos q2, if_pos ⟨by omega, q2.2⟩]
            · rw [if_neg q2, if_neg (fun q3 => q2 ⟨by omega, q3.2⟩)]) (by omega) (by omega)
        rw [pO, if_pos hq] at w'
        exact w'
      · simp only [if_neg hq]
        have w' := ih (k + 1) (pw s 2 k (s 2 k)) (by
          refine hM.go (g2 := (fun i => if i < k + 1 ∧ S / 2 ^ i % 2 = 1 then 2 else sT G i)) ?_ (okM.put (by omega))
          refine (pw_same hM.1 (show k < 22 by omega)).cgg (fun i _ => ?_)
          by_cases q2 : i < k ∧ S / 2 ^ i % 2 = 1
          · rw [if_pos q2, if_pos ⟨by omega, q2.2⟩]
          · rw [if_neg q2, if_neg (fun q3 => by
              by_cases q4 : i = k
              · subst q4; exact hq q3.2
              · exact q2 ⟨by omega, q3.2⟩)]) (by omega) (by omega)
        rw [pO, if_neg hq] at w'
        exact w'
theorem pwl_s (w : Nat → Int64) (k : Nat) (x : Int64) : pwl w k x k = x := va_up_self _ _ _
theorem pwl_n (w : Nat → Int64) {k j : Nat} (x : Int64) (h : j ≠ k) : pwl w k x j = w j := va_up_ne _ _ h
theorem M_odds_45 {v : Nat → Nat → Int32} {N n x : Nat} {G : Nat → Nat} (h3 : v 0 3 = nI N) (hs : ∀ i, i < 22 → v 1 i = nI (G i)) (I : sInv N G) (h19 : G 19 ≤ 999) (h20 : G 20 ≤ 20 * G 19) (hn : n ≤ 20) (hx : x ≤ 10) : ∀ (f S : Nat) (s : Nat → Nat → Int32) (w : Nat → Int64), AgM v s → S ≤ 2 ^ N → 2 ^ N - S < f → w 18 = lN (sS (wL N n x G) S) → w 19 = lN (sS (wM N n x G) S) → w 20 = lN (10 ^ N) → ∃ s' w', AgM v s' ∧ d_M_findOdds_45 f s w (nI x) (nI n) (nI S) = some (s', w') ∧ w' 18 = lN (sS (wL N n x G) (2 ^ N)) ∧ w' 19 = lN (sS (wM N n x G) (2 ^ N)) ∧ w' 20 = lN (10 ^ N) := by
  intro f
  induction f with
  | zero => intro S s w _ _ hf; omega
  | succ f ih =>
    intro S s w hM hS hf w1 w2 w3
    have hN := I.1
    have p2 := pow2 N hN
    have e3 : s 0 3 = nI N := by rw [hM 0 (by omega) (by omega) (by omega)]; exact h3
    rw [d_M_findOdds_45, e3, p2.2.2]
    by_cases hc : 2 ^ N ≤ S
    · have : S = 2 ^ N := by omega
      rw [if_pos ((qb_leI (by omega) (by omega)).mpr hc)]
      rw [this] at w1 w2
      exact ⟨s, w, hM, rfl, w1, w2, w3⟩
    · rw [if_neg (fun z => hc ((qb_leI (by omega) (by omega)).mp z))]
      obtain ⟨s1, k1, k2⟩ := M_start h3 hs hM
      rw [k1, Option.bind_some]
      obtain ⟨s2, l1, l2⟩ := M_odds_in (S := S) h3 hs I h19 h20 hn hx (by omega) (d_M_findOdds_45 f) w FU 0 s1 (⟨k2.1.cgg (fun i _ => by rw [if_neg (by omega)]), k2.2⟩) (by omega) (by show N - 0 < 10000; omega)
      have l2' : d_M_findOdds_65 (d_M_findOdds_45 f) FU s1 w (nI x) (nI n) (nI S) (1 : Int64) (0 : Int32) = _ := l2
      rw [l2']
      refine ih (S + 1) s2 _ l1 (by omega) (by omega) ?_ ?_ ?_
      · rw [pwl_n _ _ (by omega), pwl_s, w1, lN_add]; rfl
      · rw [pwl_s, w2, lN_add]; rfl
      · rw [pwl_n _ _ (by omega), pwl_n _ _ (by omega)]; exact w3
theorem M_odds_17 {v : Nat → Nat → Int32} {N n x : Nat} {G : Nat → Nat} (h3 : v 0 3 = nI N) (hs : ∀ i, i < 22 → v 1 i = nI (G i)) (I : sInv N G) (h19 : G 19 ≤ 999) (h20 : G 20 ≤ 20 * G 19) (hn : n ≤ 20) (hx : x ≤ 10) : ∀ (f k : Nat) (w : Nat → Int64), k ≤ N → N - k < f → w 18 = lN 0 → w 19 = lN 0 → w 20 = lN (10 ^ k) → ∃ s' w', AgM v s' ∧ d_M_findOdds_17 f v w (nI x) (nI n) (nI k) = some (s', w') ∧ w' 18 = lN (sS (wL N n x G) (2 ^ N)) ∧ w' 19 = lN (sS (wM N n x G) (2 ^ N)) ∧ w' 20 = lN (10 ^ N) := by
  intro f
  induction f with
  | zero => intro k w _ hf; omega
  | succ f ih =>
    intro k w hk hf w1 w2 w3
    have hN := I.1
    have p2 := pow2 N hN
    rw [d_M_findOdds_17, h3]
    by_cases hc : N ≤ k
    · have : k = N := by omega
      subst this
      rw [if_pos ((qb_leI (by omega) (by omega)).mpr hc)]
      exact M_odds_45 h3 hs I h19 h20 hn hx FU 0 v w AgM.rf (by omega) (by show 2 ^ k - 0 < 10000; omega) w1 w2 w3
    · rw [if_neg (fun z => hc ((qb_leI (by omega) (by omega)).mp z))]
      have e10 : lN (10 ^ k) * (10 : Int64) = lN (10 ^ (k + 1)) := by rw [show (10 : Int64) = lN 10 from rfl, lN_mul, Nat.pow_succ]
      simp only [dl, k_1, nI_add]
      refine ih (k + 1) _ (by omega) (by omega) ?_ ?_ ?_
      · rw [pwl_n _ _ (by omega)]; exact w1
      · rw [pwl_n _ _ (by omega)]; exact w2
      · rw [pwl_s, w3, e10]
theorem fracN {a b : Nat} (h2 : a < 1099511627776) (hb : 0 < b) (hb2 : b < 1099511627776) (w : Int32) : ∃ r, d_P_partOfFraction (lN a) (lN b) w = some r ∧ d_P_told (lN a) (lN b) w = some r := by
  have := frac (z := (a : Int)) (b := b) (by omega) (by omega) hb hb2 w
  rw [Int64.ofInt_eq_ofNat] at this
  exact this
theorem wL_le {N n x : Nat} {G : Nat → Nat} (hx : x ≤ 10) (hN : N ≤ 5) (S : Nat) : wL N n x G S ≤ 100000 := by
  have := pO_le hx S N
  have := (ten N (by omega)).1
  unfold wL
  split <;> omega
theorem wM_le {N n x : Nat} {G : Nat → Nat} (hx : x ≤ 10) (I : sInv N G) (hn : n ≤ 20) (S : Nat) : wM N n x G S ≤ 100000 * 420 := by
  have h1 := pO_le hx S N
  have h2 := (ten N (by have := I.1; omega)).1
  have h3 := sLs_le (n := n) (sIn_inv (m := S) (sT_inv I) (show 2 ≤ 3 by omega))
  unfold wM
  exact Nat.mul_le_mul (by omega) (by omega)
theorem p_luck (u v : Nat → Nat → Int32) (w : Nat → Int64) (a1 a2 a3 : Int32) (h : Rel u v) : ∃ (r : Int64) (u2 : Nat → Nat → Int32) (v2 : Nat → Nat → Int32) (w2 : Nat → Int64), d_F_luck u a1 a2 a3 = some (r, u2) ∧ d_M_luck v w a1 a2 a3 = some (r, v2, w2) ∧ Rel u2 v2 := by
  obtain ⟨N, g, h3, ⟨ec, hs, I, h19, h20⟩, hR⟩ := id h
  have hN := I.1
  have p2 := pow2 N hN
  unfold d_F_luck d_M_luck
  rcases gd0 a1 10 (by omega) with ⟨x, x1, x2, x3, x4⟩ | ⟨x3, x4⟩
  · subst x2
    have x4' : d_P_in (nI x).toInt64 (0 : Int64) (10 : Int64) = some 1 := x4
    have x3' : d_P_outside (nI x) 0 10 = some 0 := x3
    rcases gd0 a2 20 (by omega) with ⟨n, n1, n2, n3, n4⟩ | ⟨n3, n4⟩
    · subst n2
      have n4' : d_P_in (nI n).toInt64 (0 : Int64) (20 : Int64) = some 1 := n4
      have n3' : d_P_outside (nI n) 0 20 = some 0 := n3
      rcases prt a3 with ⟨i, i1, i2, i3, i4⟩ | ⟨i3, i4⟩
      · simp only [Option.bind_some, z10, z00, if_true, if_false, x3', x4', n3', n4', i3, i4]
        obtain ⟨t', f1, f2⟩ := F_luck_lp ec I h19 n1 x1 a3 FU 0 u AgF.rf (by omega) (by show 2 ^ N - 0 < 10000; omega)
        have f2' : d_F_luck_39 FU u (nI x) (nI n) a3 (0 : Int64) (0 : Int32) = _ := f2
        obtain ⟨s', w', k1, k2, k3, k4, k5⟩ := M_odds_17 h3 hs I h19 h20 n1 x1 FU 0 (pwl (pwl (pwl w 18 (0 : Int64)) 19 (0 : Int64)) 20 (1 : Int64)) (by omega) (by show N - 0 < 10000; omega) (by rw [pwl_n _ _ (by omega), pwl_n _ _ (by omega), pwl_s]; rfl) (by rw [pwl_n _ _ (by omega), pwl_s]; rfl) (by rw [pwl_s]; rfl)
        have k2' : d_M_findOdds v w (nI x) (nI n) = some (s', w') := k2
        have hsum := sS_le (w := wL N n x g) (wL_le (n := n) (G := g) x1 hN) (2 ^ N)
        have h10 := ten N (by omega)
        obtain ⟨r, r1, r2⟩ := fracN (a := sS (wL N n x g) (2 ^ N)) (b := 10 ^ N) (by omega) h10.2 (by omega) a3
        rw [f2', r1, k2', Option.bind_some, Option.bind_some]
        dsimp only
        rw [k3, k5, r2]
        exact ⟨r, t', s', w', rfl, rfl, h.ag f1 k1⟩
      · simp only [Option.bind_some, z10, z00, if_true, if_false, x3', x4', n3', n4', i3, i4]
        exact ⟨_, _, _, _, rfl, rfl, h⟩
    · have n4' : d_P_in a2.toInt64 (0 : Int64) (20 : Int64) = some 0 := n4
      have n3' : d_P_outside a2 0 20 = some 1 := n3
      simp only [Option.bind_some, z10, z00, if_true, if_false, x3', x4', n3', n4']
      exact ⟨_, _, _, _, rfl, rfl, h⟩
  · have x4' : d_P_in a1.toInt64 (0 : Int64) (10 : Int64) = some 0 := x4
    have x3' : d_P_outside a1 0 10 = some 1 := x3
    simp only [Option.bind_some, z10, z00, if_true, if_false, x3', x4']
    exact ⟨_, _, _, _, rfl, rfl, h⟩
theorem p_mean (u v : Nat → Nat → Int32) (w : Nat → Int64) (a1 a2 a3 : Int32) (h : Rel u v) : ∃ (r : Int64) (u2 : Nat → Nat → Int32) (v2 : Nat → Nat → Int32) (w2 : Nat → Int64), d_F_mean u a1 a2 a3 = some (r, u2) ∧ d_M_mean v w a1 a2 a3 = some (r, v2, w2) ∧ Rel u2 v2 := by
  obtain ⟨N, g, h3, ⟨ec, hs, I, h19, h20⟩, hR⟩ := id h
  have hN := I.1
  have p2 := pow2 N hN
  unfold d_F_mean d_M_mean
  rcases gd0 a1 10 (by omega) with ⟨x, x1, x2, x3, x4⟩ | ⟨x3, x4⟩
  · subst x2
    have x4' : d_P_in (nI x).toInt64 (0 : Int64) (10 : Int64) = some 1 := x4
    have x3' : d_P_outside (nI x) 0 10 = some 0 := x3
    rcases gd0 a2 20 (by omega) with ⟨n, n1, n2, n3, n4⟩ | ⟨n3, n4⟩
    · subst n2
      have n4' : d_P_in (nI n).toInt64 (0 : Int64) (20 : Int64) = some 1 := n4
      have n3' : d_P_outside (nI n) 0 20 = some 0 := n3
      rcases prt a3 with ⟨i, i1, i2, i3, i4⟩ | ⟨i3, i4⟩
      · simp only [Option.bind_some, z10, z00, if_true, if_false, x3', x4', n3', n4', i3, i4]
        obtain ⟨t', f1, f2⟩ := F_mean_lp ec I h19 n1 x1 a3 FU 0 u AgF.rf (by omega) (by show 2 ^ N - 0 < 10000; omega)
        have f2' : d_F_mean_39 FU u (nI x) (nI n) a3 (0 : Int64) (0 : Int32) = _ := f2
        obtain ⟨s', w', k1, k2, k3, k4, k5⟩ := M_odds_17 h3 hs I h19 h20 n1 x1 FU 0 (pwl (pwl (pwl w 18 (0 : Int64)) 19 (0 : Int64)) 20 (1 : Int64)) (by omega) (by show N - 0 < 10000; omega) (by rw [pwl_n _ _ (by omega), pwl_n _ _ (by omega), pwl_s]; rfl) (by rw [pwl_n _ _ (by omega), pwl_s]; rfl) (by rw [pwl_s]; rfl)
        have k2' : d_M_findOdds v w (nI x) (nI n) = some (s', w') := k2
        have hsum := sS_le (w := wM N n x g) (wM_le (n := n) (G := g) x1 I n1) (2 ^ N)
        have h10 := ten N (by omega)
        obtain ⟨r, r1, r2⟩ := fracN (a := sS (wM N n x g) (2 ^ N)) (b := 10 ^ N) (by omega) h10.2 (by omega) a3
        rw [f2', r1, k2', Option.bind_some, Option.bind_some]
        dsimp only
        rw [k4, k5, r2]
        exact ⟨r, t', s', w', rfl, rfl, h.ag f1 k1⟩
      · simp only [Option.bind_some, z10, z00, if_true, if_false, x3', x4', n3', n4', i3, i4]
        exact ⟨_, _, _, _, rfl, rfl, h⟩
    · have n4' : d_P_in a2.toInt64 (0 : Int64) (20 : Int64) = some 0 := n4
      have n3' : d_P_outside a2 0 20 = some 1 := n3
      simp only [Option.bind_some, z10, z00, if_true, if_false, x3', x4', n3', n4']
      exact ⟨_, _, _, _, rfl, rfl, h⟩
  · have x4' : d_P_in a1.toInt64 (0 : Int64) (10 : Int64) = some 0 := x4
    have x3' : d_P_outside a1 0 10 = some 1 := x3
    simp only [Option.bind_some, z10, z00, if_true, if_false, x3', x4']
    exact ⟨_, _, _, _, rfl, rfl, h⟩
