/-! PURE: offers read from sheets -/
def tq (b : Bool) (l a : Nat) (z : Nat) (A : Int) : Int32 := if b then 1 else if l = a then (if 0 ≤ A ∧ A < z then 0 else 2) else 3
theorem wrap {x : Int32} {c Z : Nat} (hc : c ≤ 41) (hZ : Z ≤ 40) : ((0 ≤ (x + nI c).toInt ∧ (x + nI c).toInt < Z) ↔ (0 ≤ x.toInt + c ∧ x.toInt + c < Z)) ∧ ((0 ≤ x.toInt + c ∧ x.toInt + c < Z) → x + nI c = nI (x.toInt + c).toNat) := by
  have h1 := Int32.le_toInt x
  have h2 := Int32.toInt_lt x
  have e : (x + nI c).toInt = (x.toInt + c).bmod (2 ^ 32) := by rw [Int32.toInt_add, nI_toInt (by omega)]
  have e2 : (x + nI c).toInt = if x.toInt + c < 2147483648 then x.toInt + c else x.toInt + c - 4294967296 := by
    rw [e, Int.bmod_def]
    split <;> split <;> omega
  constructor
  · rw [e2]; split <;> omega
  · intro h
    apply Int32.toInt_inj.mp
    rw [e2, if_pos (by omega), nI_toInt (by omega)]
    omega
theorem S_tearAt {c : Nat → Nat → Int32} {l9 zz : Int32} {y : Nat → Int32} (h : HR c l9 zz y) : ∃ (b : Bool) (l Z : Nat), Z ≤ 40 ∧ l ≤ 2 ∧ (b = false → (∀ i, i < 40 → c 1 i = y i) ∧ l9 = nI l ∧ zz = nI Z) ∧ (l9 = -4 ↔ b = true) ∧ ∀ (a : Nat) (i : Int32), a ≤ 2 → d_S_tearAt c (nI a) i = some (tq b l a Z i.toInt) := by
  rcases h with ⟨x1, x2⟩ | ⟨x1, L, Z, x2, x3, x4, x5, x6, x7, x8⟩
  · refine ⟨true, 0, 0, by omega, by omega, (fun q => by cases q), ⟨fun _ => rfl, fun _ => x2⟩, fun a i _ => ?_⟩
    unfold d_S_tearAt tq
    rw [if_pos x1]
    rfl
  · refine ⟨false, L, Z, x3, x2, fun _ => ⟨x8, x5, x7⟩, ⟨fun q => ?_, fun q => by cases q⟩, fun a i ha => ?_⟩
    · exfalso
      rw [x5] at q
      revert q
      rcases (show L = 0 ∨ L = 1 ∨ L = 2 by omega) with q | q | q <;> subst q <;> decide
    · unfold d_S_tearAt tq
      rw [if_neg (by rw [x1]; decide), x4, x6]
      have el : nI L = nI a ↔ L = a := qb_eqI (by omega) (by omega)
      have eo := qp_out i 0 (nI Z - 1)
      have ec : ((0 : Int32) ≤ i ∧ i ≤ nI Z - 1) ↔ (0 ≤ i.toInt ∧ i.toInt < Z) := by
        rw [qb_le, qb_le, k_1, pk_sub_toInt (by omega) (by omega)]
        show (0 : Int) ≤ _ ∧ _ ↔ _
        omega
      simp only [el, eo, Option.bind_some, Bool.false_eq_true, if_false, ec]
      by_cases q : L = a
      · simp only [if_pos q]
        by_cases q2 : 0 ≤ i.toInt ∧ i.toInt < Z
        · simp only [if_pos q2, z00, if_true]
        · simp only [if_neg q2, z10, if_false]
      · simp only [if_neg q]
theorem tq_ne {b : Bool} {l a Z : Nat} {A : Int} : tq b l a Z A = 0 ↔ (b = false ∧ l = a ∧ 0 ≤ A ∧ A < Z) := by
  unfold tq
  cases b
  · simp only [Bool.false_eq_true, if_false, true_and]
    by_cases q : l = a
    · simp only [if_pos q]
      by_cases q2 : 0 ≤ A ∧ A < Z
      · simp only [if_pos q2, true_iff]
        exact ⟨q, q2⟩
      · simp only [if_neg q2]
        exact ⟨fun z => absurd z (by decide), fun z => absurd z.2 q2⟩
    · simp only [if_neg q]
      exact ⟨fun z => absurd z (by decide), fun z => absurd z.1 q⟩
  · simp only [if_true, Bool.true_eq_false, false_and, iff_false]
    decide
/-- the pair of cells, both ways -/
def tp (b : Bool) (l a Z : Nat) (A : Int) : Int32 := if tq b l a Z A = 0 then tq b l a Z (A + 1) else tq b l a Z A
theorem S_pair {c : Nat → Nat → Int32} {b : Bool} {l Z a d : Nat} (hZ : Z ≤ 40) (ha : a ≤ 2) (hd : d ≤ 40) (x : Int32) (h : ∀ (a : Nat) (i : Int32), a ≤ 2 → d_S_tearAt c (nI a) i = some (tq b l a Z i.toInt)) : d_S_tearOfPair c (nI a) (x + nI d) = some (tp b l a Z (x.toInt + d)) := by
  have w := wrap (x := x) (c := d) (Z := Z) (by omega) hZ
  have e0 : tq b l a Z (x + nI d).toInt = tq b l a Z (x.toInt + d) := by
    unfold tq
    simp only [w.1]
  unfold d_S_tearOfPair tp
  rw [h a _ ha, Option.bind_some, e0]
  by_cases q : tq b l a Z (x.toInt + d) = 0
  · rw [if_pos q, if_pos q]
    have q2 := tq_ne.mp q
    have e1 := w.2 ⟨q2.2.2.1, q2.2.2.2⟩
    rw [h a _ ha, Option.bind_some, e1, k_1, nI_add, nI_toInt (by omega)]
    have : (((x.toInt + d).toNat + 1 : Nat) : Int) = x.toInt + d + 1 := by omega
    rw [this]
  · rw [if_neg q, if_neg q]
theorem M_pair {s : Nat → Nat → Int32} {b : Bool} {l Z a k d : Nat} (hk : k < 4) (ha : a ≤ 2) (hZ : Z ≤ 40) (hd : d ≤ 20) (x : Int32) (h4 : s 9 k = -4 ↔ b = true) (hb : b = false → s 9 k = nI l ∧ s 10 k = nI Z) (hl : l ≤ 2) (kM : (Nat → Nat → Int32) → Int32 → Int32 → Int32 → Int32 → Int32 → Int32 → Int32 → Option (Int32 × (Nat → Nat → Int32))) (x4 x6 : Int32) : d_M_read_77 kM FU s (nI k) (nI a) x x4 0 x6 (nI d) 0 = d_M_read_164 kM s (nI k) (nI a) x x4 (tp b l a Z (x.toInt + 2 * d)) x6 (nI d) := by
  have h1 := Int32.le_toInt x
  have h2 := Int32.toInt_lt x
  have ez : ∀ e, e ≤ 1 → (x.toInt64 + ((2 : Int32) * nI d).toInt64) + (nI e).toInt64 = Int64.ofInt (x.toInt + 2 * d + e) := fun e he => by
    have el : ∀ k, lN k = Int64.ofInt (k : Int) := fun k => (Int64.ofInt_eq_ofNat).symm
    rw [k_2, pk_mul, nI_l64 (by omega), nI_l64 (by omega), ← Int64.ofInt_int32ToInt x, el, el, ← Int64.ofInt_add, ← Int64.ofInt_add]
    rfl
  have step : ∀ f e, e ≤ 1 → d_M_read_77 kM (f + 1) s (nI k) (nI a) x x4 0 x6 (nI d) (nI e) = d_M_read_77 kM f s (nI k) (nI a) x x4 (tq b l a Z (x.toInt + 2 * d + e)) x6 (nI d) (nI (e + 1)) := fun f e he => by
    have hle : (2 : Int32) ≤ nI e ↔ 2 ≤ e := qb_leI (a := 2) (by omega) (by omega)
    have ti : (Int64.ofInt (x.toInt + 2 * d + e)).toInt = x.toInt + 2 * d + e := Int64.toInt_ofInt_of_le (by omega) (by omega)
    rw [d_M_read_77, if_neg (fun z => by have := hle.mp z; omega), if_pos rfl, ez e he, qb_gt (show k < 4 by omega) (by omega), qb_cl (show k < 2147483648 by omega)]
    unfold d_M_read_151 d_M_read_156
    simp only [dl, if_true, k_1, nI_add]
    unfold tq
    cases b
    · obtain ⟨b1, b2⟩ := hb rfl
      have n4 : ¬ s 9 k = -nI 4 := fun q => by have := h4.mp q; cases this
      have c1 : lg_cmp (Int64.ofInt (x.toInt + 2 * d + e)) (0 : Int64) < 0 ↔ x.toInt + 2 * d + e < 0 := by
        rw [(qp_cmp _ _).1, Int64.lt_iff_toInt_lt, ti]; exact Iff.rfl
      have c2 : lg_cmp (Int64.ofInt (x.toInt + 2 * d + e)) (nI Z).toInt64 < 0 ↔ x.toInt + 2 * d + e < Z := by
        rw [(qp_cmp _ _).1, Int64.lt_iff_toInt_lt, ti, Int32.toInt_toInt64, nI_toInt (by omega)]
      have el : nI l = nI a ↔ l = a := qb_eqI (by omega) (by omega)
      have n4' : ¬ nI l = (-4 : Int32) := by rw [← b1]; exact n4
      simp only [b1, b2, el, c1, c2, if_neg n4', Bool.false_eq_true, if_false]
      by_cases q : l = a
      · simp only [if_pos q]
        by_cases q1 : x.toInt + 2 * d + e < 0
        · simp only [if_pos q1, if_neg (show ¬ (0 ≤ x.toInt + 2 * (d : Int) + e ∧ x.toInt + 2 * (d : Int) + e < Z) by omega)]
        · simp only [if_neg q1]
          by_cases q2 : x.toInt + 2 * d + e < Z
          · simp only [if_pos q2, if_pos (show (0 ≤ x.toInt + 2 * (d : Int) + e ∧ x.toInt + 2 * (d : Int) + e < Z) by omega)]
          · simp only [if_neg q2, if_neg (show ¬ (0 ≤ x.toInt + 2 * (d : Int) + e ∧ x.toInt + 2 * (d : Int) + e < Z) by omega)]
      · simp only [if_neg q]
    · have p4 := h4.mpr rfl
      simp only [if_pos p4, if_true]
      rfl
  have stop : ∀ f t e, ¬ t = 0 → e ≤ 1 → d_M_read_77 kM (f + 1) s (nI k) (nI a) x x4 t x6 (nI d) (nI e) = d_M_read_164 kM s (nI k) (nI a) x x4 t x6 (nI d) := fun f t e ht he => by
    have hle : (2 : Int32) ≤ nI e ↔ 2 ≤ e := qb_leI (a := 2) (by omega) (by omega)
    rw [d_M_read_77, if_neg (fun z => by have := hle.mp z; omega), if_neg ht]
  have last : ∀ f t, d_M_read_77 kM (f + 1) s (nI k) (nI a) x x4 t x6 (nI d) (nI 2) = d_M_read_164 kM s (nI k) (nI a) x x4 t x6 (nI d) := fun f t => by
    rw [d_M_read_77, if_pos (by decide)]
  have s0 := step 9999 0 (by omega)
  have s0' : d_M_read_77 kM FU s (nI k) (nI a) x x4 0 x6 (nI d) 0 = d_M_read_77 kM 9999 s (nI k) (nI a) x x4 (tq b l a Z (x.toInt + 2 * d + (0 : Nat))) x6 (nI d) (nI (0 + 1)) := s0
  rw [s0']
  have ez0 : x.toInt + 2 * (d : Int) + ((0 : Nat) : Int) = x.toInt + 2 * d := by omega
  rw [ez0]
  unfold tp
  by_cases q : tq b l a Z (x.toInt + 2 * d) = 0
  · rw [if_pos q, q]
    have s1 : d_M_read_77 kM 9999 s (nI k) (nI a) x x4 0 x6 (nI d) (nI (0 + 1)) = d_M_read_77 kM 9998 s (nI k) (nI a) x x4 (tq b l a Z (x.toInt + 2 * d + (1 : Nat))) x6 (nI d) (nI 2) := step 9998 1 (by omega)
    rw [s1]
    exact last 9997 _
  · rw [if_neg q]
    exact stop 9998 _ 1 q (by omega)
theorem M_read_26 {v : Nat → Nat → Int32} (x1 x2 x3 x4 : Int32) : ∀ (f j : Nat) (t : Nat → Nat → Int32), (∀ c, c ≠ 12 → t c = v c) → (∀ i, i < j → t 12 i = v 1 i) → j ≤ 41 → 41 - j < f → ∃ t', d_M_read_26 f t x1 x2 x3 x4 (nI j) = d_M_read_62 FU t' x1 x2 x3 x4 0 0 0 ∧ (∀ c, c ≠ 12 → t' c = v c) ∧ (∀ i, i < 41 → t' 12 i = v 1 i) := by
  intro f
  induction f with
  | zero => intro j t _ _ _ hf; omega
  | succ f ih =>
    intro j t h1 h2 hj hf
    rw [d_M_read_26, k_41]
    by_cases hc : 41 ≤ j
    · rw [if_pos ((qb_leI (by omega) (by omega)).mpr hc)]
      exact ⟨t, rfl, h1, fun i hi => h2 i (by omega)⟩
    · rw [if_neg (fun z => hc ((qb_leI (by omega) (by omega)).mp z)), qb_gt (by omega) (by omega), qb_gt (by omega) (by omega), if_pos rfl, if_pos rfl, qb_cl (by omega)]
      simp only [dl, k_1, nI_add]
      refine ih (j + 1) _ (fun c hc => by rw [pw_n _ _ _ hc]; exact h1 c hc) (fun i hi => ?_) (by omega) (by omega)
      rw [pw_s]
      by_cases q : i = j
      · subst q; rw [up_s, h1 1 (by omega)]
      · rw [up_n q]; exact h2 i (by omega)
theorem M_read_208 {v : Nat → Nat → Int32} (x7 : Int32) : ∀ (f j : Nat) (t : Nat → Nat → Int32), (∀ c, c ≠ 1 → t c = v c) → (∀ i, i < j → t 1 i = v 12 i) → (∀ i, 41 ≤ i → t 1 i = v 1 i) → j ≤ 41 → 41 - j < f → ∃ t', d_M_read_208 f t x7 (nI j) = some ((-20 : Int32) - x7, t') ∧ (∀ c, c ≠ 1 → t' c = v c) ∧ (∀ i, i < 41 → t' 1 i = v 12 i) ∧ (∀ i, 41 ≤ i → t' 1 i = v 1 i) := by
  intro f
  induction f with
  | zero => intro j t _ _ _ _ hf; omega
  | succ f ih =>
    intro j t h1 h2 h3 hj hf
    rw [d_M_read_208, k_41]
    by_cases hc : 41 ≤ j
    · rw [if_pos ((qb_leI (by omega) (by omega)).mpr hc)]
      exact ⟨t, rfl, h1, fun i hi => h2 i (by omega), h3⟩
    · rw [if_neg (fun z => hc ((qb_leI (by omega) (by omega)).mp z)), qb_gt (by omega) (by omega), qb_gt (by omega) (by omega), if_pos rfl, if_pos rfl, qb_cl (by omega)]
      simp only [dl, k_1, nI_add]
      refine ih (j + 1) _ (fun c hc => by rw [pw_n _ _ _ hc]; exact h1 c hc) (fun i hi => ?_) (fun i hi => ?_) (by omega) (by omega)
      · rw [pw_s]
        by_cases q : i = j
        · subst q; rw [up_s, h1 12 (by omega)]
        · rw [up_n q]; exact h2 i (by omega)
      · rw [pw_s, up_n (by omega)]; exact h3 i hi
/-- the reference while it reads -/
def RM (v : Nat → Nat → Int32) (N : Nat) (g : Nat → Nat) (s : Nat → Nat → Int32) : Prop := (∀ c, c ≠ 1 → c ≠ 2 → c ≠ 7 → c ≠ 8 → c ≠ 12 → s c = v c) ∧ (∀ i, i < 22 → s 1 i = nI (g i)) ∧ (∀ i, 22 ≤ i → s 1 i = v 1 i) ∧ (∀ i, i < 41 → s 12 i = v 1 i)
theorem RM.r {v : Nat → Nat → Int32} {N : Nat} {g : Nat → Nat} {s : Nat → Nat → Int32} (h : RM v N g s) : ∀ c, c ≠ 1 → c ≠ 2 → c ≠ 7 → c ≠ 8 → c ≠ 12 → s c = v c := h.1
theorem RM.a {v : Nat → Nat → Int32} {N : Nat} {g : Nat → Nat} {s : Nat → Nat → Int32} (h : RM v N g s) : ∀ i, i < 22 → s 1 i = nI (g i) := h.2.1
theorem RM.b {v : Nat → Nat → Int32} {N : Nat} {g : Nat → Nat} {s : Nat → Nat → Int32} (h : RM v N g s) : ∀ i, 22 ≤ i → s 1 i = v 1 i := h.2.2.1
theorem RM.k {v : Nat → Nat → Int32} {N : Nat} {g : Nat → Nat} {s : Nat → Nat → Int32} (h : RM v N g s) : ∀ i, i < 41 → s 12 i = v 1 i := h.2.2.2
theorem read_end {u v t s : Nat → Nat → Int32} {N : Nat} {G g : Nat → Nat} (h3 : v 0 3 = nI N) (hR : RR N u v) (I : sInv N g) (h19 : g 19 ≤ 999) (h20 : g 20 ≤ 20 * g 19) (hF : AgF u t) (ec : EC (sh t 16) N g 0 0) (hM : RM v N g s) (x y : Int32) : ∃ t', d_F_read_135 t x y = some (y, t') ∧ d_M_read_250 s x y = some (y, pw s 0 26 x) ∧ Rel t' (pw s 0 26 x) := by
  unfold d_F_read_135 d_M_read_250
  obtain ⟨z, z1, z2, z3, z4⟩ := CC_like (sh t 11) (sh t 16)
  rw [z1, Option.bind_some]
  refine ⟨_, rfl, rfl, N, g, ?_, ⟨?_, ?_, I, h19, h20⟩, ?_⟩
  · rw [pw_s, up_n (by omega), hM.r 0 (by omega) (by omega) (by omega) (by omega) (by omega)]; exact h3
  · refine (ec.like I.1 z3 z4).cg (fun i hi => ?_)
    show pw (pt (pt t 11 5 z) 16 5 (sh z 5)) 0 9 x (11 + i) = _
    rw [pw_n _ _ _ (by omega), pt_out (by omega), pt_at (by omega) (by omega), show 11 + i - 11 = i by omega]
  · intro i hi
    rw [pw_n _ _ _ (by omega)]; exact hM.a i hi
  · have ou : ∀ c, c < 55 → (c < 11 ∨ 20 < c) → pt (pt t 11 5 z) 16 5 (sh z 5) c = u c := fun c hc h2 => by
      rw [pt_out (by omega), pt_out (by omega)]; exact hF c hc (by omega)
    refine hR.ag2 (fun c h1 h2 => by rw [pw_n _ _ _ (by omega)]; exact ou c h1 (by omega)) (fun c hc => by rw [pw_n _ _ _ (by omega)]; exact hM.r c (by omega) (by omega) (by omega) (by omega) (by omega)) (fun i hi => by rw [pw_n _ _ _ (by omega)]; exact hM.b i hi) ?_ ?_ ?_
    · rw [pw_n _ _ _ (by omega), pw_n _ _ _ (by omega), ou 2 (by omega) (by omega), ou 3 (by omega) (by omega), pw_s, up_n (by omega), pw_n _ _ _ (by omega), hM.r 0 (by omega) (by omega) (by omega) (by omega) (by omega), hM.r 6 (by omega) (by omega) (by omega) (by omega) (by omega)]
      exact hR.tp
    · rw [pw_s, up_n (by omega), ou 0 (by omega) (by omega), pw_s, up_n (by omega), hM.r 0 (by omega) (by omega) (by omega) (by omega) (by omega)]
      exact hR.fa
    · rw [pw_s, up_s, pw_s, up_s]
theorem read_back {u v t s : Nat → Nat → Int32} {N : Nat} {G g : Nat → Nat} (h : Rel u v) (hF : AgF u t) (hM : RM v N g s) (x7 : Int32) : ∃ s', d_M_read_208 FU s x7 0 = some ((-20 : Int32) - x7, s') ∧ Rel t s' := by
  obtain ⟨N', g', e3, hC, hR⟩ := id h
  obtain ⟨s', s1, s2, s3, s4⟩ := M_read_208 (v := s) x7 FU 0 s (fun _ _ => rfl) (fun i hi => by omega) (fun _ _ => rfl) (by omega) (by show 41 - 0 < 10000; omega)
  refine ⟨s', s1, ?_⟩
  have e1 : ∀ i, s' 1 i = v 1 i := fun i => by
    by_cases q : i < 41
    · rw [s3 i q, hM.k i q]
    · rw [s4 i (by omega), hM.b i (by omega)]
  have er : ∀ c, c = 0 ∨ c = 3 ∨ c = 6 ∨ c = 9 ∨ c = 10 ∨ c = 11 → s' c = v c := fun c hc => by rw [s2 c (by omega), hM.r c (by omega) (by omega) (by omega) (by omega) (by omega)]
  refine ⟨N', g', by rw [er 0 (by omega)]; exact e3, hC.cg (fun i hi => hF (11 + i) (by omega) (by omega)) (fun i _ => e1 i), hR.ag (fun c h1 h2 => hF c h1 (by omega)) er (fun i _ => e1 i)⟩
theorem read_lp0 {u v : Nat → Nat → Int32} {N n l : Nat} {G : Nat → Nat} (h : Rel u v) (h3 : v 0 3 = nI N) (hR : RR N u v) (h19 : G 19 ≤ 999) (h20 : G 20 ≤ 20 * G 19) (hl : l ≤ 2) (hn : n ≤ 20) (x3 : Int32) : ∀ (f m : Nat) (g : Nat → Nat) (t s : Nat → Nat → Int32), AgF u t → EC (sh t 16) N g 0 0 → RM v N g s → sInv N g → g 19 = G 19 → g 20 = G 20 → m ≤ n → n - m + 1 < f → ∃ r t' s', d_F_read_59 f t (nI l) x3 (nI n) 0 (nI m) (nI m) = some (r, t') ∧ d_M_read_62 f s (nI 0) (nI l) x3 (nI n) 0 (nI m) (nI m) = some (r, s') ∧ Rel t' s' := by
  intro f
  induction f with
  | zero => intro m g t s _ _ _ _ _ _ _ hf; omega
  | succ f ih =>
    intro m g t s hF ec hM I e19 e20 hm hf
    have hN := I.1
    rw [d_F_read_59, d_M_read_62]
    by_cases hc : n ≤ m
    · rw [if_pos ((qb_leI (by omega) (by omega)).mpr hc), if_pos ((qb_leI (by omega) (by omega)).mpr hc)]
      obtain ⟨t', a1, a2, a3⟩ := read_end (G := G) h3 hR I (by omega) (by omega) hF ec hM 0 (nI m)
      exact ⟨_, t', _, a1, a2, a3⟩
    · have hc' : ¬ nI n ≤ nI m := fun z => hc ((qb_leI (by omega) (by omega)).mp z)
      rw [if_neg hc', if_neg hc', if_pos rfl, if_pos rfl]
      have sB : ∀ i, i < 2 → sh t 47 i = sh u 47 i := fun i hi => hF (47 + i) (by omega) (by omega)
      have r9 : s 9 = v 9 := hM.r 9 (by omega) (by omega) (by omega) (by omega) (by omega)
      have r10 : s 10 = v 10 := hM.r 10 (by omega) (by omega) (by omega) (by omega) (by omega)
      have r11 : s 11 = v 11 := hM.r 11 (by omega) (by omega) (by omega) (by omega) (by omega)
      have hH : HR (sh t 47) (s 9 0) (s 10 0) (so (s 11) 0) := hR.h0.cg sB (by rw [r9]) (by rw [r10]) (fun i _ => by unfold so; rw [r11])
      obtain ⟨b, L, Z, q1, q2, q3, q4, q5⟩ := S_tearAt hH
      have ex : x3 + (2 : Int32) * nI m = x3 + nI (2 * m) := by rw [k_2, pk_mul]
      have fp := S_pair (c := sh t 47) (a := l) (d := 2 * m) q1 hl (by omega) x3 q5
      have mp := M_pair (s := s) (b := b) (l := L) (Z := Z) (a := l) (k := 0) (d := m) (by omega) hl q1 (by omega) x3 q4 (fun hb => ⟨(q3 hb).2.1, (q3 hb).2.2⟩) q2 (d_M_read_62 f) (nI n) (nI m)
      rw [mp]
      simp only [dl, ex]
      rw [fp, Option.bind_some]
      have ec2 : x3.toInt + ((2 * m : Nat) : Int) = x3.toInt + 2 * (m : Int) := by omega
      rw [ec2]
      unfold d_M_read_164 d_F_read_129 d_M_read_244
      by_cases hz : tp b L l Z (x3.toInt + 2 * m) = 0
      · rw [hz, if_pos rfl, if_pos rfl]
        simp only [dl]
        have t0 : tq b L l Z (x3.toInt + 2 * m) = 0 := by
          apply Classical.byContradiction
          intro q
          have := hz
          unfold tp at this
          rw [if_neg q] at this
          exact q this
        have t1 : tq b L l Z (x3.toInt + 2 * m + 1) = 0 := by
          have := hz
          unfold tp at this
          rw [if_pos t0] at this
          exact this
        obtain ⟨b0, b1, b2, b3⟩ := tq_ne.mp t0
        obtain ⟨-, -, -, b4⟩ := tq_ne.mp t1
        have w := (wrap (x := x3) (c := 2 * m) (Z := Z) (by omega) q1).2 (by omega)
        obtain ⟨a, ha⟩ : ∃ a : Nat, (x3.toInt + ((2 * m : Nat) : Int)).toNat = a := ⟨_, rfl⟩
        rw [ha] at w
        have hc3 := (q3 b0).1
        have em : ((40 : Int32) * nI 0 + x3) + 2 * nI m = nI (0 + a) := by
          rw [Int32.add_assoc, ex, w, k_40, pk_mul, nI_add]
        have o : ∀ i, i < 40 → d_S_cellAt (sh t 47) (nI i) = some (s 11 (0 + i)) := fun i hi => by
          have o39 : d_P_outside (nI i) 0 39 = some 0 := by
            have := qp_out (nI i) 0 39
            rw [if_pos ⟨Int32.not_lt.mp (nI_pos (by omega)), (qb_leI (b := 39) (by omega) (by omega)).mpr (by omega)⟩] at this
            exact this
          unfold d_S_cellAt
          simp only [Option.bind_some, z10, z00, if_true, if_false, o39, qb_gt (show i < 40 by omega) (show 40 < 2147483648 by omega), qb_cl (show i < 2147483648 by omega)]
          rw [hc3 i hi]
          rfl
        have e1 : nI a + (1 : Int32) = nI (a + 1) := nI_add a 1
        have e2 : nI (0 + a) + (1 : Int32) = nI (0 + (a + 1)) := nI_add _ 1
        rw [w, e1, o a (by omega), Option.bind_some, o (a + 1) (by omega), Option.bind_some, em, e2, qb_gt (show 0 + a < 160 by omega) (by omega), qb_gt (show 0 + (a + 1) < 160 by omega) (by omega), if_pos rfl, if_pos rfl, qb_cl (show 0 + a < 2147483648 by omega), qb_cl (show 0 + (a + 1) < 2147483648 by omega)]
        have s3 : s 0 3 = nI N := by rw [hM.r 0 (by omega) (by omega) (by omega) (by omega) (by omega)]; exact h3
        rcases off2 s3 ec hM.a I (s 11 (0 + a)) (s 11 (0 + (a + 1))) with ⟨j, x, j1, xx1, xx2, xx3, -, -, ⟨c2, f1, f2⟩, v2, g1, g2, g3, g4⟩ | ⟨r, hr, f1, f2⟩
        · have hg16 := I.2.2.2.1
          have p0 : (0 : Int32) ≤ nI (g 16 - x) := Int32.not_lt.mp (nI_pos (by omega))
          simp only [Option.bind_some, z10, z00, if_true, if_false, f1, g1, p0, k_1, nI_add]
          have sk := sGive_keep (g := sT g) (x := x) (show j < 5 by omega)
          rw [sT_lt (by omega), sT_lt (by omega)] at sk
          refine ih (m + 1) (sGive (sT g) j x) _ v2 (hF.pt _) (f2.cg (fun i hi => pt_in (by omega))) ⟨fun c c1 c2 c7 c8 c12 => by rw [g2 c c1 c2 c7 c8]; exact hM.r c c1 c2 c7 c8 c12, g3, fun i hi => by rw [g4 i hi]; exact hM.b i hi, fun i hi => by rw [g2 12 (by omega) (by omega) (by omega) (by omega)]; exact hM.k i hi⟩ (sGive_inv (by omega) (sT_inv I)) (by rw [sk.1]; exact e19) (by rw [sk.2]; exact e20) (by omega) (by omega)
        · have n0 : ¬ (0 : Int32) ≤ r := by rcases hr with q | q <;> subst q <;> decide
          obtain ⟨s', s1, s2⟩ := read_back (G := G) (t := pt t 16 5 (sh t 16)) h (hF.pt _) hM (nI m)
          simp only [Option.bind_some, z10, z00, if_true, if_false, f1, f2, n0, s1]
          exact ⟨_, _, _, rfl, rfl, s2⟩
      · rw [if_neg hz, if_neg hz]
        obtain ⟨f', rfl⟩ : ∃ f', f = f' + 1 := ⟨f - 1, by omega⟩
        obtain ⟨t', a1, a2, a3⟩ := read_end (G := G) h3 hR I (by omega) (by omega) hF ec hM (tp b L l Z (x3.toInt + 2 * m)) (nI m)
        refine ⟨nI m, t', _, ?_, ?_, a3⟩
        · simp only [dl]
          rw [d_F_read_59, if_neg hz, ite_self]
          exact a1
        · simp only [dl]
          rw [d_M_read_62, if_neg hz, ite_self]
          exact a2
theorem readA0 (u v : Nat → Nat → Int32) {l n : Nat} (hl : l ≤ 2) (hn : n ≤ 20) (a3 : Int32) (h : Rel u v) : ∃ (r : Int32) (u2 v2 : Nat → Nat → Int32), (d_CC_becomeLike (sj (sh u 16) (sh u 11) 5)).bind (fun zr11 => d_F_read_59 FU (pt (pt u 16 5 zr11) 11 5 (sh zr11 5)) (nI l) a3 (nI n) (0 : Int32) (0 : Int32) (0 : Int32)) = some (r, u2) ∧ d_M_read_26 FU v (nI 0) (nI l) a3 (nI n) 0 = some (r, v2) ∧ Rel u2 v2 := by
  obtain ⟨N, g, h3, ⟨ec, hs, I, h19, h20⟩, hR⟩ := id h
  obtain ⟨z, z1, z2, z3, z4⟩ := CC_like (sh u 16) (sh u 11)
  rw [z1, Option.bind_some]
  obtain ⟨s, s1, s2, s3⟩ := M_read_26 (v := v) (nI 0) (nI l) a3 (nI n) FU 0 v (fun _ _ => rfl) (fun i hi => by omega) (by omega) (by show 41 - 0 < 10000; omega)
  have s1' : d_M_read_26 FU v (nI 0) (nI l) a3 (nI n) 0 = d_M_read_62 FU s (nI 0) (nI l) a3 (nI n) 0 0 0 := s1
  rw [s1']
  have hF : AgF u (pt (pt u 16 5 z) 11 5 (sh z 5)) := fun i h1 h2 => by
    by_cases q : 11 ≤ i ∧ i < 16
    · rw [pt_at q.1 (by omega)]
      show z (5 + (i - 11)) = _
      rw [z2]
      show u (11 + (i - 11)) = _
      rw [show 11 + (i - 11) = i by omega]
    · rw [pt_out (by omega), pt_out (by omega)]
  have ec2 : EC (sh (pt (pt u 16 5 z) 11 5 (sh z 5)) 16) N g 0 0 := (ec.like I.1 z3 z4).cg (fun i hi => by
    show pt (pt u 16 5 z) 11 5 (sh z 5) (16 + i) = z i
    rw [pt_out (by omega), pt_at (by omega) (by omega), show 16 + i - 16 = i by omega])
  exact read_lp0 (G := g) h h3 hR h19 h20 hl hn a3 FU 0 g _ s hF ec2 ⟨fun c _ _ _ _ c12 => s2 c c12, fun i hi => by rw [s2 1 (by omega)]; exact hs i hi, fun i _ => by rw [s2 1 (by omega)], s3⟩ I rfl rfl (by omega) (by show n - 0 + 1 < 10000; omega)
theorem read_lp1 {u v : Nat → Nat → Int32} {N n l : Nat} {G : Nat → Nat} (h : Rel u v) (h3 : v 0 3 = nI N) (hR : RR N u v) (h19 : G 19 ≤ 999) (h20 : G 20 ≤ 20 * G 19) (hl : l ≤ 2) (hn : n ≤ 20) (x3 : Int32) : ∀ (f m : Nat) (g : Nat → Nat) (t s : Nat → Nat → Int32), AgF u t → EC (sh t 16) N g 0 0 → RM v N g s → sInv N g → g 19 = G 19 → g 20 = G 20 → m ≤ n → n - m + 1 < f → ∃ r t' s', d_F_read_59b f t (nI l) x3 (nI n) 0 (nI m) (nI m) = some (r, t') ∧ d_M_read_62 f s (nI 1) (nI l) x3 (nI n) 0 (nI m) (nI m) = some (r, s') ∧ Rel t' s' := by
  intro f
  induction f with
  | zero => intro m g t s _ _ _ _ _ _ _ hf; omega
  | succ f ih =>
    intro m g t s hF ec hM I e19 e20 hm hf
    have hN := I.1
    rw [d_F_read_59b, d_M_read_62]
    by_cases hc : n ≤ m
    · rw [if_pos ((qb_leI (by omega) (by omega)).mpr hc), if_pos ((qb_leI (by omega) (by omega)).mpr hc)]
      obtain ⟨t', a1, a2, a3⟩ := read_end (G := G) h3 hR I (by omega) (by omega) hF ec hM 0 (nI m)
      exact ⟨_, t', _, a1, a2, a3⟩
    · have hc' : ¬ nI n ≤ nI m := fun z => hc ((qb_leI (by omega) (by omega)).mp z)
      rw [if_neg hc', if_neg hc', if_pos rfl, if_pos rfl]
      have sB : ∀ i, i < 2 → sh t 49 i = sh u 49 i := fun i hi => hF (49 + i) (by omega) (by omega)
      have r9 : s 9 = v 9 := hM.r 9 (by omega) (by omega) (by omega) (by omega) (by omega)
      have r10 : s 10 = v 10 := hM.r 10 (by omega) (by omega) (by omega) (by omega) (by omega)
      have r11 : s 11 = v 11 := hM.r 11 (by omega) (by omega) (by omega) (by omega) (by omega)
      have hH : HR (sh t 49) (s 9 1) (s 10 1) (so (s 11) 40) := hR.h1.cg sB (by rw [r9]) (by rw [r10]) (fun i _ => by unfold so; rw [r11])
      obtain ⟨b, L, Z, q1, q2, q3, q4, q5⟩ := S_tearAt hH
      have ex : x3 + (2 : Int32) * nI m = x3 + nI (2 * m) := by rw [k_2, pk_mul]
      have fp := S_pair (c := sh t 49) (a := l) (d := 2 * m) q1 hl (by omega) x3 q5
      have mp := M_pair (s := s) (b := b) (l := L) (Z := Z) (a := l) (k := 1) (d := m) (by omega) hl q1 (by omega) x3 q4 (fun hb => ⟨(q3 hb).2.1, (q3 hb).2.2⟩) q2 (d_M_read_62 f) (nI n) (nI m)
      rw [mp]
      simp only [dl, ex]
      rw [fp, Option.bind_some]
      have ec2 : x3.toInt + ((2 * m : Nat) : Int) = x3.toInt + 2 * (m : Int) := by omega
      rw [ec2]
      unfold d_M_read_164 d_F_read_129b d_M_read_244
      by_cases hz : tp b L l Z (x3.toInt + 2 * m) = 0
      · rw [hz, if_pos rfl, if_pos rfl]
        simp only [dl]
        have t0 : tq b L l Z (x3.toInt + 2 * m) = 0 := by
          apply Classical.byContradiction
          intro q
          have := hz
          unfold tp at this
          rw [if_neg q] at this
          exact q this
        have t1 : tq b L l Z (x3.toInt + 2 * m + 1) = 0 := by
          have := hz
          unfold tp at this
          rw [if_pos t0] at this
          exact this
        obtain ⟨b0, b1, b2, b3⟩ := tq_ne.mp t0
        obtain ⟨-, -, -, b4⟩ := tq_ne.mp t1
        have w := (wrap (x := x3) (c := 2 * m) (Z := Z) (by omega) q1).2 (by omega)
        obtain ⟨a, ha⟩ : ∃ a : Nat, (x3.toInt + ((2 * m : Nat) : Int)).toNat = a := ⟨_, rfl⟩
        rw [ha] at w
        have hc3 := (q3 b0).1
        have em : ((40 : Int32) * nI 1 + x3) + 2 * nI m = nI (40 + a) := by
          rw [Int32.add_assoc, ex, w, k_40, pk_mul, nI_add]
        have o : ∀ i, i < 40 → d_S_cellAt (sh t 49) (nI i) = some (s 11 (40 + i)) := fun i hi => by
          have o39 : d_P_outside (nI i) 0 39 = some 0 := by
            have := qp_out (nI i) 0 39
            rw [if_pos ⟨Int32.not_lt.mp (nI_pos (by omega)), (qb_leI (b := 39) (by omega) (by omega)).mpr (by omega)⟩] at this
            exact this
          unfold d_S_cellAt
          simp only [Option.bind_some, z10, z00, if_true, if_false, o39, qb_gt (show i < 40 by omega) (show 40 < 2147483648 by omega), qb_cl (show i < 2147483648 by omega)]
          rw [hc3 i hi]
          rfl
        have e1 : nI a + (1 : Int32) = nI (a + 1) := nI_add a 1
        have e2 : nI (40 + a) + (1 : Int32) = nI (40 + (a + 1)) := nI_add _ 1
        rw [w, e1, o a (by omega), Option.bind_some, o (a + 1) (by omega), Option.bind_some, em, e2, qb_gt (show 40 + a < 160 by omega) (by omega), qb_gt (show 40 + (a + 1) < 160 by omega) (by omega), if_pos rfl, if_pos rfl, qb_cl (show 40 + a < 2147483648 by omega), qb_cl (show 40 + (a + 1) < 2147483648 by omega)]
        have s3 : s 0 3 = nI N := by rw [hM.r 0 (by omega) (by omega) (by omega) (by omega) (by omega)]; exact h3
        rcases off2 s3 ec hM.a I (s 11 (40 + a)) (s 11 (40 + (a + 1))) with ⟨j, x, j1, xx1, xx2, xx3, -, -, ⟨c2, f1, f2⟩, v2, g1, g2, g3, g4⟩ | ⟨r, hr, f1, f2⟩
        · have hg16 := I.2.2.2.1
          have p0 : (0 : Int32) ≤ nI (g 16 - x) := Int32.not_lt.mp (nI_pos (by omega))
          simp only [Option.bind_some, z10, z00, if_true, if_false, f1, g1, p0, k_1, nI_add]
          have sk := sGive_keep (g := sT g) (x := x) (show j < 5 by omega)
          rw [sT_lt (by omega), sT_lt (by omega)] at sk
          refine ih (m + 1) (sGive (sT g) j x) _ v2 (hF.pt _) (f2.cg (fun i hi => pt_in (by omega))) ⟨fun c c1 c2 c7 c8 c12 => by rw [g2 c c1 c2 c7 c8]; exact hM.r c c1 c2 c7 c8 c12, g3, fun i hi => by rw [g4 i hi]; exact hM.b i hi, fun i hi => by rw [g2 12 (by omega) (by omega) (by omega) (by omega)]; exact hM.k i hi⟩ (sGive_inv (by omega) (sT_inv I)) (by rw [sk.1]; exact e19) (by rw [sk.2]; exact e20) (by omega) (by omega)
        · have n0 : ¬ (0 : Int32) ≤ r := by rcases hr with q | q <;> subst q <;> decide
          obtain ⟨s', s1, s2⟩ := read_back (G := G) (t := pt t 16 5 (sh t 16)) h (hF.pt _) hM (nI m)
          simp only [Option.bind_some, z10, z00, if_true, if_false, f1, f2, n0, s1]
          exact ⟨_, _, _, rfl, rfl, s2⟩
      · rw [if_neg hz, if_neg hz]
        obtain ⟨f', rfl⟩ : ∃ f', f = f' + 1 := ⟨f - 1, by omega⟩
        obtain ⟨t', a1, a2, a3⟩ := read_end (G := G) h3 hR I (by omega) (by omega) hF ec hM (tp b L l Z (x3.toInt + 2 * m)) (nI m)
        refine ⟨nI m, t', _, ?_, ?_, a3⟩
        · simp only [dl]
          rw [d_F_read_59b, if_neg hz, ite_self]
          exact a1
        · simp only [dl]
          rw [d_M_read_62, if_neg hz, ite_self]
          exact a2
theorem readA1 (u v : Nat → Nat → Int32) {l n : Nat} (hl : l ≤ 2) (hn : n ≤ 20) (a3 : Int32) (h : Rel u v) : ∃ (r : Int32) (u2 v2 : Nat → Nat → Int32), (d_CC_becomeLike (sj (sh u 16) (sh u 11) 5)).bind (fun zr11 => d_F_read_59b FU (pt (pt u 16 5 zr11) 11 5 (sh zr11 5)) (nI l) a3 (nI n) (0 : Int32) (0 : Int32) (0 : Int32)) = some (r, u2) ∧ d_M_read_26 FU v (nI 1) (nI l) a3 (nI n) 0 = some (r, v2) ∧ Rel u2 v2 := by
  obtain ⟨N, g, h3, ⟨ec, hs, I, h19, h20⟩, hR⟩ := id h
  obtain ⟨z, z1, z2, z3, z4⟩ := CC_like (sh u 16) (sh u 11)
  rw [z1, Option.bind_some]
  obtain ⟨s, s1, s2, s3⟩ := M_read_26 (v := v) (nI 1) (nI l) a3 (nI n) FU 0 v (fun _ _ => rfl) (fun i hi => by omega) (by omega) (by show 41 - 0 < 10000; omega)
  have s1' : d_M_read_26 FU v (nI 1) (nI l) a3 (nI n) 0 = d_M_read_62 FU s (nI 1) (nI l) a3 (nI n) 0 0 0 := s1
  rw [s1']
  have hF : AgF u (pt (pt u 16 5 z) 11 5 (sh z 5)) := fun i h1 h2 => by
    by_cases q : 11 ≤ i ∧ i < 16
    · rw [pt_at q.1 (by omega)]
      show z (5 + (i - 11)) = _
      rw [z2]
      show u (11 + (i - 11)) = _
      rw [show 11 + (i - 11) = i by omega]
    · rw [pt_out (by omega), pt_out (by omega)]
  have ec2 : EC (sh (pt (pt u 16 5 z) 11 5 (sh z 5)) 16) N g 0 0 := (ec.like I.1 z3 z4).cg (fun i hi => by
    show pt (pt u 16 5 z) 11 5 (sh z 5) (16 + i) = z i
    rw [pt_out (by omega), pt_at (by omega) (by omega), show 16 + i - 16 = i by omega])
  exact read_lp1 (G := g) h h3 hR h19 h20 hl hn a3 FU 0 g _ s hF ec2 ⟨fun c _ _ _ _ c12 => s2 c c12, fun i hi => by rw [s2 1 (by omega)]; exact hs i hi, fun i _ => by rw [s2 1 (by omega)], s3⟩ I rfl rfl (by omega) (by show n - 0 + 1 < 10000; omega)
theorem read_lp2 {u v : Nat → Nat → Int32} {N n l : Nat} {G : Nat → Nat} (h : Rel u v) (h3 : v 0 3 = nI N) (hR : RR N u v) (h19 : G 19 ≤ 999) (h20 : G 20 ≤ 20 * G 19) (hl : l ≤ 2) (hn : n ≤ 20) (x3 : Int32) : ∀ (f m : Nat) (g : Nat → Nat) (t s : Nat → Nat → Int32), AgF u t → EC (sh t 16) N g 0 0 → RM v N g s → sInv N g → g 19 = G 19 → g 20 = G 20 → m ≤ n → n - m + 1 < f → ∃ r t' s', d_F_read_59bb f t (nI l) x3 (nI n) 0 (nI m) (nI m) = some (r, t') ∧ d_M_read_62 f s (nI 2) (nI l) x3 (nI n) 0 (nI m) (nI m) = some (r, s') ∧ Rel t' s' := by
  intro f
  induction f with
  | zero => intro m g t s _ _ _ _ _ _ _ hf; omega
  | succ f ih =>
    intro m g t s hF ec hM I e19 e20 hm hf
    have hN := I.1
    rw [d_F_read_59bb, d_M_read_62]
    by_cases hc : n ≤ m
    · rw [if_pos ((qb_leI (by omega) (by omega)).mpr hc), if_pos ((qb_leI (by omega) (by omega)).mpr hc)]
      obtain ⟨t', a1, a2, a3⟩ := read_end (G := G) h3 hR I (by omega) (by omega) hF ec hM 0 (nI m)
      exact ⟨_, t', _, a1, a2, a3⟩
    · have hc' : ¬ nI n ≤ nI m := fun z => hc ((qb_leI (by omega) (by omega)).mp z)
      rw [if_neg hc', if_neg hc', if_pos rfl, if_pos rfl]
      have sB : ∀ i, i < 2 → sh t 51 i = sh u 51 i := fun i hi => hF (51 + i) (by omega) (by omega)
      have r9 : s 9 = v 9 := hM.r 9 (by omega) (by omega) (by omega) (by omega) (by omega)
      have r10 : s 10 = v 10 := hM.r 10 (by omega) (by omega) (by omega) (by omega) (by omega)
      have r11 : s 11 = v 11 := hM.r 11 (by omega) (by omega) (by omega) (by omega) (by omega)
      have hH : HR (sh t 51) (s 9 2) (s 10 2) (so (s 11) 80) := hR.h2.cg sB (by rw [r9]) (by rw [r10]) (fun i _ => by unfold so; rw [r11])
      obtain ⟨b, L, Z, q1, q2, q3, q4, q5⟩ := S_tearAt hH
      have ex : x3 + (2 : Int32) * nI m = x3 + nI (2 * m) := by rw [k_2, pk_mul]
      have fp := S_pair (c := sh t 51) (a := l) (d := 2 * m) q1 hl (by omega) x3 q5
      have mp := M_pair (s := s) (b := b) (l := L) (Z := Z) (a := l) (k := 2) (d := m) (by omega) hl q1 (by omega) x3 q4 (fun hb => ⟨(q3 hb).2.1, (q3 hb).2.2⟩) q2 (d_M_read_62 f) (nI n) (nI m)
      rw [mp]
      simp only [dl, ex]
      rw [fp, Option.bind_some]
      have ec2 : x3.toInt + ((2 * m : Nat) : Int) = x3.toInt + 2 * (m : Int) := by omega
      rw [ec2]
      unfold d_M_read_164 d_F_read_129bb d_M_read_244
      by_cases hz : tp b L l Z (x3.toInt + 2 * m) = 0
      · rw [hz, if_pos rfl, if_pos rfl]
        simp only [dl]
        have t0 : tq b L l Z (x3.toInt + 2 * m) = 0 := by
          apply Classical.byContradiction
          intro q
          have := hz
          unfold tp at this
          rw [if_neg q] at this
          exact q this
        have t1 : tq b L l Z (x3.toInt + 2 * m + 1) = 0 := by
          have := hz
          unfold tp at this
          rw [if_pos t0] at this
          exact this
        obtain ⟨b0, b1, b2, b3⟩ := tq_ne.mp t0
        obtain ⟨-, -, -, b4⟩ := tq_ne.mp t1
        have w := (wrap (x := x3) (c := 2 * m) (Z := Z) (by omega) q1).2 (by omega)
        obtain ⟨a, ha⟩ : ∃ a : Nat, (x3.toInt + ((2 * m : Nat) : Int)).toNat = a := ⟨_, rfl⟩
        rw [ha] at w
        have hc3 := (q3 b0).1
        have em : ((40 : Int32) * nI 2 + x3) + 2 * nI m = nI (80 + a) := by
          rw [Int32.add_assoc, ex, w, k_40, pk_mul, nI_add]
        have o : ∀ i, i < 40 → d_S_cellAt (sh t 51) (nI i) = some (s 11 (80 + i)) := fun i hi => by
          have o39 : d_P_outside (nI i) 0 39 = some 0 := by
            have := qp_out (nI i) 0 39
            rw [if_pos ⟨Int32.not_lt.mp (nI_pos (by omega)), (qb_leI (b := 39) (by omega) (by omega)).mpr (by omega)⟩] at this
            exact this
          unfold d_S_cellAt
          simp only [Option.bind_some, z10, z00, if_true, if_false, o39, qb_gt (show i < 40 by omega) (show 40 < 2147483648 by omega), qb_cl (show i < 2147483648 by omega)]
          rw [hc3 i hi]
          rfl
        have e1 : nI a + (1 : Int32) = nI (a + 1) := nI_add a 1
        have e2 : nI (80 + a) + (1 : Int32) = nI (80 + (a + 1)) := nI_add _ 1
        rw [w, e1, o a (by omega), Option.bind_some, o (a + 1) (by omega), Option.bind_some, em, e2, qb_gt (show 80 + a < 160 by omega) (by omega), qb_gt (show 80 + (a + 1) < 160 by omega) (by omega), if_pos rfl, if_pos rfl, qb_cl (show 80 + a < 2147483648 by omega), qb_cl (show 80 + (a + 1) < 2147483648 by omega)]
        have s3 : s 0 3 = nI N := by rw [hM.r 0 (by omega) (by omega) (by omega) (by omega) (by omega)]; exact h3
        rcases off2 s3 ec hM.a I (s 11 (80 + a)) (s 11 (80 + (a + 1))) with ⟨j, x, j1, xx1, xx2, xx3, -, -, ⟨c2, f1, f2⟩, v2, g1, g2, g3, g4⟩ | ⟨r, hr, f1, f2⟩
        · have hg16 := I.2.2.2.1
          have p0 : (0 : Int32) ≤ nI (g 16 - x) := Int32.not_lt.mp (nI_pos (by omega))
          simp only [Option.bind_some, z10, z00, if_true, if_false, f1, g1, p0, k_1, nI_add]
          have sk := sGive_keep (g := sT g) (x := x) (show j < 5 by omega)
          rw [sT_lt (by omega), sT_lt (by omega)] at sk
          refine ih (m + 1) (sGive (sT g) j x) _ v2 (hF.pt _) (f2.cg (fun i hi => pt_in (by omega))) ⟨fun c c1 c2 c7 c8 c12 => by rw [g2 c c1 c2 c7 c8]; exact hM.r c c1 c2 c7 c8 c12, g3, fun i hi => by rw [g4 i hi]; exact hM.b i hi, fun i hi => by rw [g2 12 (by omega) (by omega) (by omega) (by omega)]; exact hM.k i hi⟩ (sGive_inv (by omega) (sT_inv I)) (by rw [sk.1]; exact e19) (by rw [sk.2]; exact e20) (by omega) (by omega)
        · have n0 : ¬ (0 : Int32) ≤ r := by rcases hr with q | q <;> subst q <;> decide
          obtain ⟨s', s1, s2⟩ := read_back (G := G) (t := pt t 16 5 (sh t 16)) h (hF.pt _) hM (nI m)
          simp only [Option.bind_some, z10, z00, if_true, if_false, f1, f2, n0, s1]
          exact ⟨_, _, _, rfl, rfl, s2⟩
      · rw [if_neg hz, if_neg hz]
        obtain ⟨f', rfl⟩ : ∃ f', f = f' + 1 := ⟨f - 1, by omega⟩
        obtain ⟨t', a1, a2, a3⟩ := read_end (G := G) h3 hR I (by omega) (by omega) hF ec hM (tp b L l Z (x3.toInt + 2 * m)) (nI m)
        refine ⟨nI m, t', _, ?_, ?_, a3⟩
        · simp only [dl]
          rw [d_F_read_59bb, if_neg hz, ite_self]
          exact a1
        · simp only [dl]
          rw [d_M_read_62, if_neg hz, ite_self]
          exact a2
theorem readA2 (u v : Nat → Nat → Int32) {l n : Nat} (hl : l ≤ 2) (hn : n ≤ 20) (a3 : Int32) (h : Rel u v) : ∃ (r : Int32) (u2 v2 : Nat → Nat → Int32), (d_CC_becomeLike (sj (sh u 16) (sh u 11) 5)).bind (fun zr11 => d_F_read_59bb FU (pt (pt u 16 5 zr11) 11 5 (sh zr11 5)) (nI l) a3 (nI n) (0 : Int32) (0 : Int32) (0 : Int32)) = some (r, u2) ∧ d_M_read_26 FU v (nI 2) (nI l) a3 (nI n) 0 = some (r, v2) ∧ Rel u2 v2 := by
  obtain ⟨N, g, h3, ⟨ec, hs, I, h19, h20⟩, hR⟩ := id h
  obtain ⟨z, z1, z2, z3, z4⟩ := CC_like (sh u 16) (sh u 11)
  rw [z1, Option.bind_some]
  obtain ⟨s, s1, s2, s3⟩ := M_read_26 (v := v) (nI 2) (nI l) a3 (nI n) FU 0 v (fun _ _ => rfl) (fun i hi => by omega) (by omega) (by show 41 - 0 < 10000; omega)
  have s1' : d_M_read_26 FU v (nI 2) (nI l) a3 (nI n) 0 = d_M_read_62 FU s (nI 2) (nI l) a3 (nI n) 0 0 0 := s1
  rw [s1']
  have hF : AgF u (pt (pt u 16 5 z) 11 5 (sh z 5)) := fun i h1 h2 => by
    by_cases q : 11 ≤ i ∧ i < 16
    · rw [pt_at q.1 (by omega)]
      show z (5 + (i - 11)) = _
      rw [z2]
      show u (11 + (i - 11)) = _
      rw [show 11 + (i - 11) = i by omega]
    · rw [pt_out (by omega), pt_out (by omega)]
  have ec2 : EC (sh (pt (pt u 16 5 z) 11 5 (sh z 5)) 16) N g 0 0 := (ec.like I.1 z3 z4).cg (fun i hi => by
    show pt (pt u 16 5 z) 11 5 (sh z 5) (16 + i) = z i
    rw [pt_out (by omega), pt_at (by omega) (by omega), show 16 + i - 16 = i by omega])
  exact read_lp2 (G := g) h h3 hR h19 h20 hl hn a3 FU 0 g _ s hF ec2 ⟨fun c _ _ _ _ c12 => s2 c c12, fun i hi => by rw [s2 1 (by omega)]; exact hs i hi, fun i _ => by rw [s2 1 (by omega)], s3⟩ I rfl rfl (by omega) (by show n - 0 + 1 < 10000; omega)
theorem read_lp3 {u v : Nat → Nat → Int32} {N n l : Nat} {G : Nat → Nat} (h : Rel u v) (h3 : v 0 3 = nI N) (hR : RR N u v) (h19 : G 19 ≤ 999) (h20 : G 20 ≤ 20 * G 19) (hl : l ≤ 2) (hn : n ≤ 20) (x3 : Int32) : ∀ (f m : Nat) (g : Nat → Nat) (t s : Nat → Nat → Int32), AgF u t → EC (sh t 16) N g 0 0 → RM v N g s → sInv N g → g 19 = G 19 → g 20 = G 20 → m ≤ n → n - m + 1 < f → ∃ r t' s', d_F_read_59bbb f t (nI l) x3 (nI n) 0 (nI m) (nI m) = some (r, t') ∧ d_M_read_62 f s (nI 3) (nI l) x3 (nI n) 0 (nI m) (nI m) = some (r, s') ∧ Rel t' s' := by
  intro f
  induction f with
  | zero => intro m g t s _ _ _ _ _ _ _ hf; omega
  | succ f ih =>
    intro m g t s hF ec hM I e19 e20 hm hf
    have hN := I.1
    rw [d_F_read_59bbb, d_M_read_62]
    by_cases hc : n ≤ m
    · rw [if_pos ((qb_leI (by omega) (by omega)).mpr hc), if_pos ((qb_leI (by omega) (by omega)).mpr hc)]
      obtain ⟨t', a1, a2, a3⟩ := read_end (G := G) h3 hR I (by omega) (by omega) hF ec hM 0 (nI m)
      exact ⟨_, t', _, a1, a2, a3⟩
    · have hc' : ¬ nI n ≤ nI m := fun z => hc ((qb_leI (by omega) (by omega)).mp z)
      rw [if_neg hc', if_neg hc', if_pos rfl, if_pos rfl]
      have sB : ∀ i, i < 2 → sh t 53 i = sh u 53 i := fun i hi => hF (53 + i) (by omega) (by omega)
      have r9 : s 9 = v 9 := hM.r 9 (by omega) (by omega) (by omega) (by omega) (by omega)
      have r10 : s 10 = v 10 := hM.r 10 (by omega) (by omega) (by omega) (by omega) (by omega)
      have r11 : s 11 = v 11 := hM.r 11 (by omega) (by omega) (by omega) (by omega) (by omega)
      have hH : HR (sh t 53) (s 9 3) (s 10 3) (so (s 11) 120) := hR.h3.cg sB (by rw [r9]) (by rw [r10]) (fun i _ => by unfold so; rw [r11])
      obtain ⟨b, L, Z, q1, q2, q3, q4, q5⟩ := S_tearAt hH
      have ex : x3 + (2 : Int32) * nI m = x3 + nI (2 * m) := by rw [k_2, pk_mul]
      have fp := S_pair (c := sh t 53) (a := l) (d := 2 * m) q1 hl (by omega) x3 q5
      have mp := M_pair (s := s) (b := b) (l := L) (Z := Z) (a := l) (k := 3) (d := m) (by omega) hl q1 (by omega) x3 q4 (fun hb => ⟨(q3 hb).2.1, (q3 hb).2.2⟩) q2 (d_M_read_62 f) (nI n) (nI m)
      rw [mp]
      simp only [dl, ex]
      rw [fp, Option.bind_some]
      have ec2 : x3.toInt + ((2 * m : Nat) : Int) = x3.toInt + 2 * (m : Int) := by omega
      rw [ec2]
      unfold d_M_read_164 d_F_read_129bbb d_M_read_244
      by_cases hz : tp b L l Z (x3.toInt + 2 * m) = 0
      · rw [hz, if_pos rfl, if_pos rfl]
        simp only [dl]
        have t0 : tq b L l Z (x3.toInt + 2 * m) = 0 := by
          apply Classical.byContradiction
          intro q
          have := hz
          unfold tp at this
          rw [if_neg q] at this
          exact q this
        have t1 : tq b L l Z (x3.toInt + 2 * m + 1) = 0 := by
          have := hz
          unfold tp at this
          rw [if_pos t0] at this
          exact this
        obtain ⟨b0, b1, b2, b3⟩ := tq_ne.mp t0
        obtain ⟨-, -, -, b4⟩ := tq_ne.mp t1
        have w := (wrap (x := x3) (c := 2 * m) (Z := Z) (by omega) q1).2 (by omega)
        obtain ⟨a, ha⟩ : ∃ a : Nat, (x3.toInt + ((2 * m : Nat) : Int)).toNat = a := ⟨_, rfl⟩
        rw [ha] at w
        have hc3 := (q3 b0).1
        have em : ((40 : Int32) * nI 3 + x3) + 2 * nI m = nI (120 + a) := by
          rw [Int32.add_assoc, ex, w, k_40, pk_mul, nI_add]
        have o : ∀ i, i < 40 → d_S_cellAt (sh t 53) (nI i) = some (s 11 (120 + i)) := fun i hi => by
          have o39 : d_P_outside (nI i) 0 39 = some 0 := by
            have := qp_out (nI i) 0 39
            rw [if_pos ⟨Int32.not_lt.mp (nI_pos (by omega)), (qb_leI (b := 39) (by omega) (by omega)).mpr (by omega)⟩] at this
            exact this
          unfold d_S_cellAt
          simp only [Option.bind_some, z10, z00, if_true, if_false, o39, qb_gt (show i < 40 by omega) (show 40 < 2147483648 by omega), qb_cl (show i < 2147483648 by omega)]
          rw [hc3 i hi]
          rfl
        have e1 : nI a + (1 : Int32) = nI (a + 1) := nI_add a 1
        have e2 : nI (120 + a) + (1 : Int32) = nI (120 + (a + 1)) := nI_add _ 1
        rw [w, e1, o a (by omega), Option.bind_some, o (a + 1) (by omega), Option.bind_some, em, e2, qb_gt (show 120 + a < 160 by omega) (by omega), qb_gt (show 120 + (a + 1) < 160 by omega) (by omega), if_pos rfl, if_pos rfl, qb_cl (show 120 + a < 2147483648 by omega), qb_cl (show 120 + (a + 1) < 2147483648 by omega)]
        have s3 : s 0 3 = nI N := by rw [hM.r 0 (by omega) (by omega) (by omega) (by omega) (by omega)]; exact h3
        rcases off2 s3 ec hM.a I (s 11 (120 + a)) (s 11 (120 + (a + 1))) with ⟨j, x, j1, xx1, xx2, xx3, -, -, ⟨c2, f1, f2⟩, v2, g1, g2, g3, g4⟩ | ⟨r, hr, f1, f2⟩
        · have hg16 := I.2.2.2.1
          have p0 : (0 : Int32) ≤ nI (g 16 - x) := Int32.not_lt.mp (nI_pos (by omega))
          simp only [Option.bind_some, z10, z00, if_true, if_false, f1, g1, p0, k_1, nI_add]
          have sk := sGive_keep (g := sT g) (x := x) (show j < 5 by omega)
          rw [sT_lt (by omega), sT_lt (by omega)] at sk
          refine ih (m + 1) (sGive (sT g) j x) _ v2 (hF.pt _) (f2.cg (fun i hi => pt_in (by omega))) ⟨fun c c1 c2 c7 c8 c12 => by rw [g2 c c1 c2 c7 c8]; exact hM.r c c1 c2 c7 c8 c12, g3, fun i hi => by rw [g4 i hi]; exact hM.b i hi, fun i hi => by rw [g2 12 (by omega) (by omega) (by omega) (by omega)]; exact hM.k i hi⟩ (sGive_inv (by omega) (sT_inv I)) (by rw [sk.1]; exact e19) (by rw [sk.2]; exact e20) (by omega) (by omega)
        · have n0 : ¬ (0 : Int32) ≤ r := by rcases hr with q | q <;> subst q <;> decide
          obtain ⟨s', s1, s2⟩ := read_back (G := G) (t := pt t 16 5 (sh t 16)) h (hF.pt _) hM (nI m)
          simp only [Option.bind_some, z10, z00, if_true, if_false, f1, f2, n0, s1]
          exact ⟨_, _, _, rfl, rfl, s2⟩
      · rw [if_neg hz, if_neg hz]
        obtain ⟨f', rfl⟩ : ∃ f', f = f' + 1 := ⟨f - 1, by omega⟩
        obtain ⟨t', a1, a2, a3⟩ := read_end (G := G) h3 hR I (by omega) (by omega) hF ec hM (tp b L l Z (x3.toInt + 2 * m)) (nI m)
        refine ⟨nI m, t', _, ?_, ?_, a3⟩
        · simp only [dl]
          rw [d_F_read_59bbb, if_neg hz, ite_self]
          exact a1
        · simp only [dl]
          rw [d_M_read_62, if_neg hz, ite_self]
          exact a2
theorem readA3 (u v : Nat → Nat → Int32) {l n : Nat} (hl : l ≤ 2) (hn : n ≤ 20) (a3 : Int32) (h : Rel u v) : ∃ (r : Int32) (u2 v2 : Nat → Nat → Int32), (d_CC_becomeLike (sj (sh u 16) (sh u 11) 5)).bind (fun zr11 => d_F_read_59bbb FU (pt (pt u 16 5 zr11) 11 5 (sh zr11 5)) (nI l) a3 (nI n) (0 : Int32) (0 : Int32) (0 : Int32)) = some (r, u2) ∧ d_M_read_26 FU v (nI 3) (nI l) a3 (nI n) 0 = some (r, v2) ∧ Rel u2 v2 := by
  obtain ⟨N, g, h3, ⟨ec, hs, I, h19, h20⟩, hR⟩ := id h
  obtain ⟨z, z1, z2, z3, z4⟩ := CC_like (sh u 16) (sh u 11)
  rw [z1, Option.bind_some]
  obtain ⟨s, s1, s2, s3⟩ := M_read_26 (v := v) (nI 3) (nI l) a3 (nI n) FU 0 v (fun _ _ => rfl) (fun i hi => by omega) (by omega) (by show 41 - 0 < 10000; omega)
  have s1' : d_M_read_26 FU v (nI 3) (nI l) a3 (nI n) 0 = d_M_read_62 FU s (nI 3) (nI l) a3 (nI n) 0 0 0 := s1
  rw [s1']
  have hF : AgF u (pt (pt u 16 5 z) 11 5 (sh z 5)) := fun i h1 h2 => by
    by_cases q : 11 ≤ i ∧ i < 16
    · rw [pt_at q.1 (by omega)]
      show z (5 + (i - 11)) = _
      rw [z2]
      show u (11 + (i - 11)) = _
      rw [show 11 + (i - 11) = i by omega]
    · rw [pt_out (by omega), pt_out (by omega)]
  have ec2 : EC (sh (pt (pt u 16 5 z) 11 5 (sh z 5)) 16) N g 0 0 := (ec.like I.1 z3 z4).cg (fun i hi => by
    show pt (pt u 16 5 z) 11 5 (sh z 5) (16 + i) = z i
    rw [pt_out (by omega), pt_at (by omega) (by omega), show 16 + i - 16 = i by omega])
  exact read_lp3 (G := g) h h3 hR h19 h20 hl hn a3 FU 0 g _ s hF ec2 ⟨fun c _ _ _ _ c12 => s2 c c12, fun i hi => by rw [s2 1 (by omega)]; exact hs i hi, fun i _ => by rw [s2 1 (by omega)], s3⟩ I rfl rfl (by omega) (by show n - 0 + 1 < 10000; omega)
theorem p_read (u v : Nat → Nat → Int32) (a1 a2 a3 a4 : Int32) (h : Rel u v) : ∃ (r : Int32) (u2 : Nat → Nat → Int32) (v2 : Nat → Nat → Int32), d_F_read u a1 a2 a3 a4 = some (r, u2) ∧ d_M_read v a1 a2 a3 a4 = some (r, v2) ∧ Rel u2 v2 := by
  unfold d_F_read d_M_read
  rcases isSh a1 a2 with ⟨k, l, k1, l1, k2, l2, o1, o2, o3⟩ | ⟨q | ⟨q1, q2⟩, o3⟩
  · subst k2
    subst l2
    rcases gd0 a4 20 (by omega) with ⟨n, n1, n2, n3, n4⟩ | ⟨n3, n4⟩
    · subst n2
      have n4' : d_P_in (nI n).toInt64 (0 : Int64) (20 : Int64) = some 1 := n4
      have n3' : d_P_outside (nI n) 0 20 = some 0 := n3
      simp only [Option.bind_some, z10, z00, if_true, if_false, o1, o2, o3, n3', n4']
      rcases (show k = 0 ∨ k = 1 ∨ k = 2 ∨ k = 3 by omega) with q | q | q | q
      · subst q
        rw [if_pos (show nI 0 = (0 : Int32) from rfl)]
        exact readA0 u v l1 n1 a3 h
      · subst q
        rw [if_neg (show ¬ nI 1 = (0 : Int32) by decide), if_pos (show nI 1 = (1 : Int32) from rfl)]
        exact readA1 u v l1 n1 a3 h
      · subst q
        rw [if_neg (show ¬ nI 2 = (0 : Int32) by decide), if_neg (show ¬ nI 2 = (1 : Int32) by decide), if_pos (show nI 2 = (2 : Int32) from rfl)]
        exact readA2 u v l1 n1 a3 h
      · subst q
        rw [if_neg (show ¬ nI 3 = (0 : Int32) by decide), if_neg (show ¬ nI 3 = (1 : Int32) by decide), if_neg (show ¬ nI 3 = (2 : Int32) by decide), if_pos (show nI 3 = (3 : Int32) from rfl)]
        exact readA3 u v l1 n1 a3 h
    · have n4' : d_P_in a4.toInt64 (0 : Int64) (20 : Int64) = some 0 := n4
      have n3' : d_P_outside a4 0 20 = some 1 := n3
      simp only [Option.bind_some, z10, z00, if_true, if_false, o1, o2, o3, n3', n4']
      exact ⟨_, _, _, rfl, rfl, h⟩
  · simp only [Option.bind_some, z10, z00, if_true, if_false, q, o3]
    exact ⟨_, _, _, rfl, rfl, h⟩
  · simp only [Option.bind_some, z10, z00, if_true, if_false, q1, q2, o3]
    exact ⟨_, _, _, rfl, rfl, h⟩
