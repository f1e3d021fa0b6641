/-! PURE: the end of a text: houses named, offers made, the draft kept -/
theorem C_gb {c : Nat → Nat → Int32} {N b q h x : Nat} {g : Nat → Nat} (hN : N ≤ 5) (ec : EC c N g b q) (I : sInv N g) (hh : h < N) (h1 : 1 ≤ x) (h20 : x ≤ 20) (hx : x ≤ g (5 + h)) : ∃ c2, d_C_giveAhead c (nI h) (nI x) = some (nI (g 16 - x), c2) ∧ EC c2 N (sGive g h x) b q := by
  obtain ⟨r1, r2, r3⟩ := ec.2.2.2.2.2.2.2.2.2.2 h hh
  have hw := I.2.2.2.2.2.2.1 h (by omega)
  obtain ⟨c2, f1, f2, f3⟩ := C_give hN ec hh hx hw I.2.2.2.1
  have o : d_P_outside (nI x) 1 20 = some 0 := by
    have := qp_out (nI x) 1 20
    rw [if_pos ⟨(qb_leI (a := 1) (by omega) (by omega)).mpr h1, (qb_leI (b := 20) (by omega) (by omega)).mpr h20⟩] at this
    exact this
  have hle : nI x ≤ nI (g (5 + h)) := (qb_leI (by omega) (by omega)).mpr hx
  unfold d_C_giveAhead
  simp only [Option.bind_some, z10, z00, if_true, if_false, C_has ec.1 hN (show h < 2147483648 by omega), hh, o, qb_gt (show h < 5 by omega) (show 5 < 2147483648 by omega), qb_cl (show h < 2147483648 by omega), r2, hle, f1]
  refine ⟨c2, ?_, f2⟩
  rw [f2.2.2.1]
  unfold sGive
  rw [sp_s]
theorem C_gn {c : Nat → Nat → Int32} {N b q h x : Nat} {g : Nat → Nat} (hN : N ≤ 5) (ec : EC c N g b q) (I : sInv N g) (hh : h < N) (h1 : 1 ≤ x) (h20 : x ≤ 20) (hx : g (5 + h) < x) : d_C_giveAhead c (nI h) (nI x) = some (-2, c) := by
  obtain ⟨r1, r2, r3⟩ := ec.2.2.2.2.2.2.2.2.2.2 h hh
  have hw := I.2.2.2.2.2.2.1 h (by omega)
  have o : d_P_outside (nI x) 1 20 = some 0 := by
    have := qp_out (nI x) 1 20
    rw [if_pos ⟨(qb_leI (a := 1) (by omega) (by omega)).mpr h1, (qb_leI (b := 20) (by omega) (by omega)).mpr h20⟩] at this
    exact this
  have hle : ¬ nI x ≤ nI (g (5 + h)) := fun z => by have := (qb_leI (by omega) (by omega)).mp z; omega
  unfold d_C_giveAhead
  simp only [Option.bind_some, z10, z00, if_true, if_false, C_has ec.1 hN (show h < 2147483648 by omega), hh, o, qb_gt (show h < 5 by omega) (show 5 < 2147483648 by omega), qb_cl (show h < 2147483648 by omega), r2, hle]
/-- houses that are named -/
theorem ch_F {r : Nat → Nat → Int32} {n o : Nat} {P : Nat → Nat} (h7 : ¬ r 0 7 = 0) (h34 : r 3 4 = nI n) (hn : n ≤ 5) (h4 : r 0 4 = nI o) (ho : o ≤ 4) (hP : ∀ i, i < o → r 8 i = nI (P i) ∧ P i < 5) : ∀ (f i : Nat), i ≤ o → o - i < f → d_R_checkHouses_39 f r (nI i) = some r := by
  intro f
  induction f with
  | zero => intro i _ hf; omega
  | succ f ih =>
    intro i hi hf
    rw [d_R_checkHouses_39, h4]
    by_cases hc : o ≤ i
    · rw [if_pos ((qb_leI (by omega) (by omega)).mpr hc)]
    · obtain ⟨p1, p2⟩ := hP i (by omega)
      rw [if_neg (fun z => hc ((qb_leI (by omega) (by omega)).mp z)), qb_gt (show i < 4 by omega) (by omega), if_pos rfl, qb_cl (by omega), p1, C_has (c := sh r 3) h34 hn (by omega), Option.bind_some]
      unfold d_R_checkHouses_76 d_R_fail
      simp only [dl, k_1, nI_add]
      rw [if_neg h7, Option.bind_some, ite_self]
      exact ih (i + 1) (by omega) (by omega)
theorem ch_R {r : Nat → Nat → Int32} {n o : Nat} {P : Nat → Nat} (h7 : r 0 7 = 0) (h34 : r 3 4 = nI n) (hn : n ≤ 5) (h4 : r 0 4 = nI o) (ho : o ≤ 4) (hP : ∀ i, i < o → r 8 i = nI (P i) ∧ P i < 5) : ∀ (f i : Nat), i ≤ o → o - i < f → ((∀ j, i ≤ j → j < o → P j < n) → d_R_checkHouses_39 f r (nI i) = some r) ∧ ((¬ ∀ j, i ≤ j → j < o → P j < n) → d_R_checkHouses_39 f r (nI i) = some (pw (pw r 0 7 6) 0 8 (r 1 2))) := by
  intro f
  induction f with
  | zero => intro i _ hf; omega
  | succ f ih =>
    intro i hi hf
    rw [d_R_checkHouses_39, h4]
    by_cases hc : o ≤ i
    · rw [if_pos ((qb_leI (by omega) (by omega)).mpr hc)]
      exact ⟨fun _ => rfl, fun z => absurd (fun j h1 h2 => by omega) z⟩
    · obtain ⟨p1, p2⟩ := hP i (by omega)
      rw [if_neg (fun z => hc ((qb_leI (by omega) (by omega)).mp z)), qb_gt (show i < 4 by omega) (by omega), if_pos rfl, qb_cl (by omega), p1, C_has (c := sh r 3) h34 hn (by omega), Option.bind_some]
      unfold d_R_checkHouses_76
      simp only [dl, k_1, nI_add]
      by_cases q : P i < n
      · rw [if_pos q, if_neg (by decide)]
        obtain ⟨a1, a2⟩ := ih (i + 1) (by omega) (by omega)
        refine ⟨fun z => a1 (fun j h1 h2 => z j (by omega) h2), fun z => a2 (fun y => z (fun j h1 h2 => ?_))⟩
        by_cases qj : j = i
        · subst qj; exact q
        · exact y j (by omega) h2
      · rw [if_neg q, if_pos rfl, R_fail_ h7, Option.bind_some]
        refine ⟨fun z => absurd (z i (Nat.le_refl _) (by omega)) q, fun _ => ?_⟩
        exact ch_F (r := pw (pw r 0 7 6) 0 8 (r 1 2)) (n := n) (o := o) (P := P) (by rw [w7]; decide) (by rw [pw_n _ _ _ (by omega), pw_n _ _ _ (by omega)]; exact h34) hn (by rw [w_n (by omega), w_n (by omega)]; exact h4) ho (fun j hj => by rw [pw_n _ _ _ (by omega), pw_n _ _ _ (by omega)]; exact hP j hj) f (i + 1) (by omega) (by omega)
theorem ch_ {r v : Nat → Nat → Int32} {n o : Nat} {g P Q : Nat → Nat} {H : Nat} (h7 : r 0 7 = 0) (D : DR r v n o g P Q H) : (H ≤ n → d_R_checkHouses r = some r) ∧ (n < H → d_R_checkHouses r = some (pw (pw r 0 7 6) 0 8 (r 1 2))) := by
  obtain ⟨d1, d2, d3, d4, d5, d6, d7, d8⟩ := D
  obtain ⟨o1, o2, o3, o4⟩ := d7
  obtain ⟨l1, l2, l3⟩ := d8
  have hP : ∀ i, i < o → r 8 i = nI (P i) ∧ P i < 5 := fun i hi => by
    obtain ⟨y1, y2, y3, y4, y5, y6, y7⟩ := o4 i hi
    exact ⟨y1, by omega⟩
  have h34 : r 3 4 = nI n := d1.1
  have h35 : r 3 5 = nI (g 15) := d1.2.1
  have cr := ch_R (n := n) (o := o) (P := P) h7 h34 d4 o1 o3 hP FU 0 (by omega) (by show o - 0 < 10000; omega)
  have c1 : (∀ j, 0 ≤ j → j < o → P j < n) → d_R_checkHouses_39 FU r 0 = some r := cr.1
  have c2 : (¬ ∀ j, 0 ≤ j → j < o → P j < n) → d_R_checkHouses_39 FU r 0 = some (pw (pw r 0 7 6) 0 8 (r 1 2)) := cr.2
  have cf : d_R_checkHouses_39 FU (pw (pw r 0 7 6) 0 8 (r 1 2)) 0 = some (pw (pw r 0 7 6) 0 8 (r 1 2)) := ch_F (r := pw (pw r 0 7 6) 0 8 (r 1 2)) (n := n) (o := o) (P := P) (by rw [w7]; decide) (by rw [pw_n _ _ _ (by omega), pw_n _ _ _ (by omega)]; exact h34) d4 (by rw [w_n (by omega), w_n (by omega)]; exact o1) o3 (fun j hj => by rw [pw_n _ _ _ (by omega), pw_n _ _ _ (by omega)]; exact hP j hj) FU 0 (by omega) (by show o - 0 < 10000; omega)
  unfold d_R_checkHouses d_R_checkHouses_37
  rcases d6 with ⟨f1, f2, f3⟩ | ⟨f1, f2, f3⟩
  · rw [if_pos f1]
    refine ⟨fun z => c1 (fun j _ hj => by have := (o4 j hj).2.2.2.2.2.2; omega), fun z => c2 (fun y => ?_)⟩
    rcases l3 with l3 | l3 | ⟨i, i1, i2⟩
    · omega
    · have := l3.1; rw [f1] at this; exact absurd this (by decide)
    · have := y i (by omega) i1; omega
  · rw [f1, if_neg (by decide), h35, C_has (c := sh r 3) h34 d4 (by omega), Option.bind_some]
    by_cases q : g 15 < n
    · rw [if_pos q, if_neg (by decide)]
      refine ⟨fun z => c1 (fun j _ hj => by have := (o4 j hj).2.2.2.2.2.2; omega), fun z => c2 (fun y => ?_)⟩
      rcases l3 with l3 | l3 | ⟨i, i1, i2⟩
      · omega
      · omega
      · have := y i (by omega) i1; omega
    · rw [if_neg q, if_pos rfl, R_fail_ h7, Option.bind_some, cf]
      exact ⟨fun z => by omega, fun _ => rfl⟩
/-- one offer, in the draft -/
def oD (z : Nat → Nat → Int32) (h : Nat) (x : Int32) : Nat → Nat → Int32 := pw (pw (pw (pw z 4 (5 + h) (z 4 (5 + h) - x)) 4 (10 + h) (z 4 (10 + h) + x)) 4 21 (z 4 21 + x)) 4 16 (if z 4 16 ≤ x then 0 else z 4 16 - x)
theorem oc48 {u z : Nat → Nat → Int32} {h : Nat} (k2 : (Nat → Nat → Int32) → Int32 → Option (Nat → Nat → Int32)) (x1 x3 s : Int32) (hh : h < 5) (hz : d_M_needs u s 7 = some z) : d_M_offersCome_48 k2 u x1 (nI h) x3 s = k2 (oD z h x3) (x1 + 1) := by
  have c21 : (21 : Int32).toNatClampNeg = 21 := rfl
  have c16 : (16 : Int32).toNatClampNeg = 16 := rfl
  have g16 : gi (16 : Int32) 41 = true := rfl
  unfold d_M_offersCome_48 d_M_offersCome_119
  rw [hz, Option.bind_some, k_5, nI_add, qb_gt (show 5 + h < 41 by omega) (by omega), if_pos rfl, if_pos rfl, k_10, nI_add, qb_gt (show 10 + h < 41 by omega) (by omega), qb_cl (show 5 + h < 2147483648 by omega), qb_cl (show 10 + h < 2147483648 by omega), dlE2, dlE2, if_pos rfl, if_pos rfl]
  unfold oD
  generalize e1 : pw z 4 (5 + h) (z 4 (5 + h) - x3) = A
  have e10 : A 4 (10 + h) = z 4 (10 + h) := by rw [← e1, pw_s, up_n (by omega)]
  have a21 : A 4 21 = z 4 21 := by rw [← e1, pw_s, up_n (by omega)]
  have a16 : A 4 16 = z 4 16 := by rw [← e1, pw_s, up_n (by omega)]
  rw [dlE2, dlE2, e10]
  generalize e2 : pw A 4 (10 + h) (z 4 (10 + h) + x3) = Bq
  have b21 : Bq 4 21 = z 4 21 := by rw [← e2, pw_s, up_n (by omega)]; exact a21
  have b16 : Bq 4 16 = z 4 16 := by rw [← e2, pw_s, up_n (by omega)]; exact a16
  rw [c21, c16, dlE2, b21, up_n (by omega), b16, g16]
  by_cases q : z 4 16 ≤ x3
  · rw [if_pos q, if_pos q, if_pos rfl, dlE2, dlE2]
  · rw [if_neg q, if_neg q, if_pos rfl, dlE2, dlE2]
theorem oD_n {z : Nat → Nat → Int32} {h : Nat} {x : Int32} {c : Nat} (hc : c ≠ 4) : oD z h x c = z c := by
  unfold oD
  rw [pw_n _ _ _ hc, pw_n _ _ _ hc, pw_n _ _ _ hc, pw_n _ _ _ hc]
theorem oD_g {z : Nat → Nat → Int32} {h x : Nat} {g : Nat → Nat} (hh : h < 5) (hx : x ≤ 20) (hx2 : x ≤ g (5 + h)) (h16 : g 16 ≤ 20) (h4 : ∀ i, i < 41 → z 4 i = nI (g i)) : ∀ i, i < 41 → oD z h (nI x) 4 i = nI (sGive g h x i) := by
  intro i hi
  have eif : (if z 4 16 ≤ nI x then (0 : Int32) else z 4 16 - nI x) = nI (g 16 - x) := by
    rw [h4 16 (by omega)]
    by_cases q : g 16 ≤ x
    · rw [if_pos ((qb_leI (by omega) (by omega)).mpr q), show g 16 - x = 0 by omega]; rfl
    · rw [if_neg (fun z => q ((qb_leI (by omega) (by omega)).mp z)), pk_sub (by omega)]
  unfold oD sGive
  rw [eif, pw_s]
  by_cases q16 : i = 16
  · rw [q16, up_s, sp_s]
  rw [up_n q16, sp_n _ _ q16, pw_s]
  by_cases q21 : i = 21
  · rw [q21, up_s, sp_s, h4 21 (by omega), nI_add]
  rw [up_n q21, sp_n _ _ q21, pw_s]
  by_cases q10 : i = 10 + h
  · rw [q10, up_s, sp_s, h4 _ (by omega), nI_add]
  rw [up_n q10, sp_n _ _ q10, pw_s]
  by_cases q5 : i = 5 + h
  · rw [q5, up_s, sp_s, h4 _ (by omega), pk_sub hx2]
  rw [up_n q5, sp_n _ _ q5]
  exact h4 i hi
theorem oc_F {o : Nat} {P : Nat → Nat} (ho : o ≤ 4) : ∀ (f i : Nat) (w : Nat → Nat → Int32), 0 < w 0 16 → w 0 7 = nI o → (∀ j, j < o → w 5 (2 * j) = nI (P j) ∧ P j < 5) → i ≤ o → o - i < f → ∃ w', d_M_offersCome_2 f w (nI i) = some w' ∧ ∀ c, c ≠ 4 → w' c = w c := by
  intro f
  induction f with
  | zero => intro i w _ _ _ _ hf; omega
  | succ f ih =>
    intro i w h16 h7 h5 hi hf
    rw [d_M_offersCome_2, h7]
    by_cases hc : o ≤ i
    · rw [if_pos ((qb_leI (by omega) (by omega)).mpr hc)]
      exact ⟨w, rfl, fun _ _ => rfl⟩
    · obtain ⟨p1, p2⟩ := h5 i (by omega)
      rw [if_neg (fun z => hc ((qb_leI (by omega) (by omega)).mp z)), k_2, pk_mul, qb_gt (show 2 * i < 8 by omega) (by omega), if_pos rfl, qb_cl (show 2 * i < 2147483648 by omega), p1, dlE2, show nI (2 * i) + (1 : Int32) = nI (2 * i + 1) from nI_add _ 1, qb_gt (show 2 * i + 1 < 8 by omega) (by omega), if_pos rfl, qb_cl (show 2 * i + 1 < 2147483648 by omega), dlE2]
      rw [oc48 _ _ _ _ p2 (needs_f h16 _ _), oc48 _ _ _ _ p2 (needs_f h16 _ _), k_5, nI_add, qb_gt (show 5 + P i < 41 by omega) (by omega), if_pos rfl, ite_self]
      obtain ⟨w', a1, a2⟩ := ih (i + 1) (oD w (P i) (w 5 (2 * i + 1))) (by rw [oD_n (by omega)]; exact h16) (by rw [oD_n (by omega)]; exact h7) (fun j hj => by rw [oD_n (by omega)]; exact h5 j hj) (by omega) (by omega)
      rw [show nI i + (1 : Int32) = nI (i + 1) from nI_add i 1]
      exact ⟨w', a1, fun c hc => by rw [a2 c hc, oD_n hc]⟩
/-- offers of a text are made -/
theorem mo_ {t n o : Nat} {P Q : Nat → Nat} (hn : n ≤ 5) (ho : o ≤ 4) : ∀ (f i : Nat) (g : Nat → Nat) (r v : Nat → Nat → Int32), r 0 7 = 0 → r 1 2 = nI t → v 0 16 = 0 → v 0 13 = nI t → r 0 4 = nI o → v 0 7 = nI o → (∀ j, j < o → r 8 j = nI (P j) ∧ r 9 j = nI (Q j) ∧ v 5 (2 * j) = nI (P j) ∧ v 5 (2 * j + 1) = nI (Q j) ∧ 1 ≤ Q j ∧ Q j ≤ 20 ∧ P j < n) → EC (sh r 3) n g 0 0 → (∀ j, j < 41 → v 4 j = nI (g j)) → sInv n g → g 19 = 0 → g 20 = 0 → g 22 = 0 → i ≤ o → o - i + 1 < f → (∃ r' v', d_R_makeOffers_2 f r (nI i) = some r' ∧ d_M_offersCome_2 f v (nI i) = some v' ∧ FLT r' v' ∧ ∀ c, c ≠ 0 → c ≠ 4 → v' c = v c) ∧ (∃ v', d_M_offersCome_2 f v (nI i) = some v' ∧ ∀ j, j ≠ 16 → j ≠ 17 → v' 0 j = v 0 j) ∨ (∃ r' v' g', d_R_makeOffers_2 f r (nI i) = some r' ∧ d_M_offersCome_2 f v (nI i) = some v' ∧ r' 0 = r 0 ∧ (∀ c, c ≠ 4 → v' c = v c) ∧ EC (sh r' 3) n g' 0 0 ∧ (∀ j, j < 41 → v' 4 j = nI (g' j)) ∧ sInv n g' ∧ g' 19 = 0 ∧ g' 20 = 0 ∧ g' 22 = 0) := by
  intro f
  induction f with
  | zero => intro i g r v _ _ _ _ _ _ _ _ _ _ _ _ _ _ hf; omega
  | succ f ih =>
    intro i g r v r7 r12 v16 v13 r4 v7 hj ec h4 I g19 g20 g22 hi hf
    rw [d_R_makeOffers_2, d_M_offersCome_2, r4, v7]
    by_cases hc : o ≤ i
    · rw [if_pos ((qb_leI (by omega) (by omega)).mpr hc), if_pos ((qb_leI (by omega) (by omega)).mpr hc)]
      exact Or.inr ⟨r, v, g, rfl, rfl, rfl, fun _ _ => rfl, ec, h4, I, g19, g20, g22⟩
    · obtain ⟨p1, p2, p3, p4, p5, p6, p7⟩ := hj i (by omega)
      have hc' : ¬ nI o ≤ nI i := fun z => hc ((qb_leI (by omega) (by omega)).mp z)
      rw [if_neg hc', if_neg hc', if_pos r7, qb_gt (show i < 4 by omega) (by omega), if_pos rfl, if_pos rfl, qb_cl (show i < 2147483648 by omega), p1, p2, k_2, pk_mul, qb_gt (show 2 * i < 8 by omega) (by omega), if_pos rfl, qb_cl (show 2 * i < 2147483648 by omega), p3, dlE2, show nI (2 * i) + (1 : Int32) = nI (2 * i + 1) from nI_add _ 1, qb_gt (show 2 * i + 1 < 8 by omega) (by omega), if_pos rfl, qb_cl (show 2 * i + 1 < 2147483648 by omega), p4, dlE2]
      have hw := I.2.2.2.2.2.2.1 (P i) (by omega)
      rw [k_5, nI_add, qb_gt (show 5 + P i < 41 by omega) (by omega), if_pos rfl, qb_cl (show 5 + P i < 2147483648 by omega), h4 _ (by omega)]
      have hI : (nI (g (5 + P i)) < nI (Q i)) ↔ g (5 + P i) < Q i := qb_ltI (by omega) (by omega)
      unfold d_R_makeOffers_52
      simp only [dl]
      rw [show nI i + (1 : Int32) = nI (i + 1) from nI_add i 1]
      by_cases q : g (5 + P i) < Q i
      · left
        rw [if_pos (hI.mpr q), C_gn hn ec I p7 p5 p6 q, Option.bind_some]
        have z7 : pt r 3 5 (sh r 3) 0 7 = 0 := by rw [pt_out (by omega)]; exact r7
        show (∃ r' v', (if (0 : Int32) ≤ -2 then _ else ((d_R_fail (pt r 3 5 (sh r 3)) 7 (r 1 2)).bind fun zr10 => d_R_makeOffers_2 f zr10 (nI (i + 1)))) = some r' ∧ _) ∧ _
        rw [if_neg (by decide), R_fail_ z7, Option.bind_some, oc48 _ _ _ _ (show P i < 5 by omega) (M_needs0 v16 7), show nI i + (1 : Int32) = nI (i + 1) from nI_add i 1]
        obtain ⟨w', a1, a2⟩ := oc_F (P := P) ho f (i + 1) (oD (pw (pw v 0 16 7) 0 17 (v 0 13)) (P i) (nI (Q i))) (by rw [oD_n (by omega), w16]; decide) (by rw [oD_n (by omega), w_n (by omega), w_n (by omega)]; exact v7) (fun j hj2 => by rw [oD_n (by omega), pw_n _ _ _ (by omega), pw_n _ _ _ (by omega)]; exact ⟨(hj j hj2).2.2.1, by have := (hj j hj2).2.2.2.2.2.2; omega⟩) (by omega) (by omega)
        have cs : d_R_makeOffers_2 f (pw (pw (pt r 3 5 (sh r 3)) 0 7 7) 0 8 (r 1 2)) (nI (i + 1)) = some (pw (pw (pt r 3 5 (sh r 3)) 0 7 7) 0 8 (r 1 2)) := by
          obtain ⟨f', rfl⟩ : ∃ f', f = f' + 1 := ⟨f - 1, by omega⟩
          rw [d_R_makeOffers_2, w7, if_neg (show ¬ (7 : Int32) = 0 by decide), ite_self]
        have e0 : w' 0 = pw (pw v 0 16 7) 0 17 (v 0 13) 0 := by rw [a2 0 (by omega), oD_n (by omega)]
        refine ⟨⟨_, w', cs, a1, FLT.mk (a := 7) (x := nI t) (by decide) w7 (by rw [w_s]; exact r12) (by rw [e0, w16]) (by rw [e0, w_s]; exact v13), fun c h1 h2 => by rw [a2 c h2, oD_n h2, pw_n _ _ _ h1, pw_n _ _ _ h1]⟩, w', a1, fun j j1 j2 => by rw [e0, w_n j2, w_n j1]⟩
      · rw [if_neg (fun z => q (hI.mp z))]
        obtain ⟨c2, f1, f2⟩ := C_gb hn ec I p7 p5 p6 (show Q i ≤ g (5 + P i) by omega)
        rw [f1, Option.bind_some, oc48 _ _ _ _ (show P i < 5 by omega) (M_needs1 v 7), show nI i + (1 : Int32) = nI (i + 1) from nI_add i 1]
        have hle : (0 : Int32) ≤ nI (g 16 - Q i) := Int32.not_lt.mp (nI_pos (by have := I.2.2.2.1; omega))
        show (∃ r' v', (if (0 : Int32) ≤ nI (g 16 - Q i) then d_R_makeOffers_2 f (pt r 3 5 c2) (nI (i + 1)) else _) = some r' ∧ _) ∧ _ ∨ (∃ r' v' g', (if (0 : Int32) ≤ nI (g 16 - Q i) then d_R_makeOffers_2 f (pt r 3 5 c2) (nI (i + 1)) else _) = some r' ∧ _)
        rw [if_pos hle]
        have sk := sGive_keep (g := g) (h := P i) (x := Q i) (by omega)
        have s22 : sGive g (P i) (Q i) 22 = g 22 := by
          unfold sGive
          rw [sp_n _ _ (by omega), sp_n _ _ (by omega), sp_n _ _ (by omega), sp_n _ _ (by omega)]
        have o0 : ∀ c, c < 3 ∨ 8 ≤ c → pt r 3 5 c2 c = r c := fun c hc => pt_out (by omega)
        rcases ih (i + 1) (sGive g (P i) (Q i)) (pt r 3 5 c2) (oD v (P i) (nI (Q i))) (by rw [o0 0 (by omega)]; exact r7) (by rw [o0 1 (by omega)]; exact r12) (by rw [oD_n (by omega)]; exact v16) (by rw [oD_n (by omega)]; exact v13) (by rw [o0 0 (by omega)]; exact r4) (by rw [oD_n (by omega)]; exact v7) (fun j hj2 => by rw [o0 8 (by omega), o0 9 (by omega), oD_n (by omega)]; exact hj j hj2) (f2.cg (fun i hi => pt_in (by omega))) (oD_g (by omega) p6 (by omega) I.2.2.2.1 h4) (sGive_inv (by omega) I) (by rw [sk.1]; exact g19) (by rw [sk.2]; exact g20) (by rw [s22]; exact g22) (by omega) (by omega) with ⟨⟨r', v', a1, a2, a3, a4⟩, v'', a5, a6⟩ | ⟨r', v', g', a1, a2, a3, a4, a5⟩
        · left
          exact ⟨⟨r', v', a1, a2, a3, fun c h1 h2 => by rw [a4 c h1 h2, oD_n h2]⟩, v'', a5, fun j j1 j2 => by rw [a6 j j1 j2, oD_n (by omega)]⟩
        · right
          exact ⟨r', v', g', a1, a2, by rw [a3, o0 0 (by omega)], fun c h1 => by rw [a4 c h1, oD_n h1], a5⟩
