/-! PURE: tokens -/
def adv (P : Nat → Bool) : Nat → Nat → Nat
  | 0, p => p
  | c + 1, p => if P p = true then adv P c (p + 1) else p
theorem adv_le (P : Nat → Bool) : ∀ c p, p ≤ adv P c p ∧ adv P c p ≤ p + c := by
  intro c
  induction c with
  | zero => intro p; exact ⟨Nat.le_refl _, Nat.le_refl _⟩
  | succ c ih =>
    intro p
    rw [adv]
    split
    · have := ih (p + 1); omega
    · omega
theorem adv_st (P : Nat → Bool) : ∀ c p, adv P c p < p + c → P (adv P c p) = false := by
  intro c
  induction c with
  | zero => intro p h; rw [adv] at h; omega
  | succ c ih =>
    intro p h
    rw [adv] at h ⊢
    split at h
    · rename_i q
      rw [if_pos q]
      exact ih (p + 1) (by omega)
    · rename_i q
      rw [if_neg q]
      exact Bool.eq_false_iff.mpr q
def isL (x : Nat) : Bool := decide (97 ≤ x ∧ x ≤ 122)
def isD (x : Nat) : Bool := decide (48 ≤ x ∧ x ≤ 57)
def sg (x : Nat) : Nat := if x = 32 then 5 else if x = 59 then 3 else if isL x = true then 1 else if isD x = true then 2 else 4
theorem sg_le (x : Nat) : sg x ≤ 5 := by unfold sg; split <;> (try omega); split <;> (try omega); split <;> (try omega); split <;> omega
theorem sg_5 (x : Nat) : sg x = 5 ↔ x = 32 := by
  unfold sg
  split
  · rename_i h; exact ⟨fun _ => h, fun _ => rfl⟩
  · rename_i h
    refine ⟨fun q => ?_, fun q => absurd q h⟩
    exfalso
    revert q
    split <;> (try omega)
    split <;> (try omega)
    split <;> omega
theorem sg_1 (x : Nat) : sg x = 1 ↔ isL x = true := by
  unfold sg isL
  simp only [decide_eq_true_eq]
  split
  · omega
  · split
    · omega
    · split
      · rename_i h; exact ⟨fun _ => h, fun _ => rfl⟩
      · rename_i h
        refine ⟨fun q => ?_, fun q => absurd q h⟩
        exfalso
        revert q
        split <;> omega
theorem sg_2 (x : Nat) : sg x = 2 ↔ isD x = true := by
  unfold sg isL isD
  simp only [decide_eq_true_eq]
  split
  · omega
  · split
    · omega
    · split
      · omega
      · split
        · rename_i h; exact ⟨fun _ => h, fun _ => rfl⟩
        · rename_i h; exact ⟨fun q => by omega, fun q => absurd q h⟩
def tS (b : Nat → Nat) (t p : Nat) : Nat := adv (fun i => decide (b i = 32)) (t - p) p
def tL (b : Nat → Nat) (t s : Nat) : Nat := adv (fun i => isL (b i)) (t - (s + 1)) (s + 1)
def tD (b : Nat → Nat) (t s : Nat) : Nat := adv (fun i => isD (b i)) (t - (s + 1)) (s + 1)
def tE (b : Nat → Nat) (t s : Nat) : Nat := if t ≤ s then s else if isL (b s) = true then tL b t s else if isD (b s) = true then tD b t s else s + 1
def tK (b : Nat → Nat) (t s : Nat) : Nat := if t ≤ s then 0 else if isL (b s) = true then 1 else if isD (b s) = true then (if tD b t s - s ≤ 2 then 2 else 4) else if b s = 59 then 3 else 4
def tV (b : Nat → Nat) (t s : Nat) : Nat := if tE b t s - s = 1 then b s - 48 else 10 * (b s - 48) + (b (s + 1) - 48)
theorem tS_le {b : Nat → Nat} {t p : Nat} (h : p ≤ t) : p ≤ tS b t p ∧ tS b t p ≤ t := by
  have := adv_le (fun i => decide (b i = 32)) (t - p) p
  unfold tS
  omega
theorem tS_32 {b : Nat → Nat} {t p : Nat} (h : p ≤ t) (h2 : tS b t p < t) : b (tS b t p) ≠ 32 := by
  have := adv_st (fun i => decide (b i = 32)) (t - p) p (by show tS b t p < _; omega)
  exact of_decide_eq_false this
theorem tE_le {b : Nat → Nat} {t s : Nat} (h : s ≤ t) : s ≤ tE b t s ∧ tE b t s ≤ t ∧ (s < t → s < tE b t s) := by
  unfold tE
  have h1 := adv_le (fun i => isL (b i)) (t - (s + 1)) (s + 1)
  have h2 := adv_le (fun i => isD (b i)) (t - (s + 1)) (s + 1)
  split
  · omega
  · split
    · unfold tL; omega
    · split
      · unfold tD; omega
      · omega
theorem tK_0 {b : Nat → Nat} {t s : Nat} : tK b t s = 0 ↔ t ≤ s := by
  unfold tK
  split
  · rename_i h; exact ⟨fun _ => h, fun _ => rfl⟩
  · rename_i h
    refine ⟨fun q => ?_, fun q => absurd q h⟩
    exfalso
    revert q
    split <;> (try omega)
    split
    · split <;> omega
    · split <;> omega
theorem tK_le {b : Nat → Nat} {t s : Nat} : tK b t s ≤ 4 := by
  unfold tK
  split <;> (try omega)
  split <;> (try omega)
  split
  · split <;> omega
  · split <;> omega
/-- a tape, as the class has it -/
def TP (b : Nat → Nat) (t : Nat) (c : Nat → Nat → Int32) : Prop := c 0 2 = nI t ∧ ∀ i, i < t → c 1 i = nI (b i)
def MP (b : Nat → Nat) (t : Nat) (v : Nat → Nat → Int32) : Prop := v 0 11 = nI t ∧ ∀ i, i < t → v 6 i = nI (b i)
def BT (b : Nat → Nat) (t : Nat) : Prop := t ≤ 160 ∧ ∀ i, i < t → b i ≤ 127
/-- only the places of a tape move -/
def TO (c c' : Nat → Nat → Int32) : Prop := c' 1 = c 1 ∧ c' 0 2 = c 0 2
theorem TO.rf {c : Nat → Nat → Int32} : TO c c := ⟨rfl, rfl⟩
theorem TO.tr {a b c : Nat → Nat → Int32} (h : TO a b) (k : TO b c) : TO a c := ⟨k.1.trans h.1, k.2.trans h.2⟩
theorem TO.w {c : Nat → Nat → Int32} {j : Nat} {x : Int32} (h : j ≠ 2) : TO c (pw c 0 j x) := ⟨pw_n _ _ _ (by omega), by rw [pw_s, up_n (by omega)]⟩
theorem TP.to {b : Nat → Nat} {t : Nat} {c c' : Nat → Nat → Int32} (h : TP b t c) (k : TO c c') : TP b t c' := ⟨by rw [k.2]; exact h.1, by rw [k.1]; exact h.2⟩
theorem T_sign {b : Nat → Nat} {t s : Nat} {c : Nat → Nat → Int32} (B : BT b t) (h : TP b t c) (hs : s < t) : d_T_signAt c (nI s) = some (nI (sg (b s))) := by
  have h127 := B.2 s hs
  have h160 := B.1
  unfold d_T_signAt d_T_signAt_51
  rw [if_neg (nI_pos (by omega)), h.1, if_pos ((qb_ltI (by omega) (by omega)).mpr hs), qb_gt (show s < 160 by omega) (by omega), if_pos rfl, qb_cl (by omega), h.2 s hs]
  simp only [dl]
  have e32 : (nI (b s) = (32 : Int32)) ↔ b s = 32 := qb_eqI (b := 32) (by omega) (by omega)
  have e59 : (nI (b s) = (59 : Int32)) ↔ b s = 59 := qb_eqI (b := 59) (by omega) (by omega)
  have e97 : (nI (b s) < (97 : Int32)) ↔ b s < 97 := qb_ltI (b := 97) (by omega) (by omega)
  have e122 : ((122 : Int32) < nI (b s)) ↔ 122 < b s := qb_ltI (a := 122) (by omega) (by omega)
  have e48 : (nI (b s) < (48 : Int32)) ↔ b s < 48 := qb_ltI (b := 48) (by omega) (by omega)
  have e57 : ((57 : Int32) < nI (b s)) ↔ 57 < b s := qb_ltI (a := 57) (by omega) (by omega)
  simp only [e32, e59, e97, e122, e48, e57]
  unfold sg isL isD
  simp only [decide_eq_true_eq]
  by_cases q1 : b s = 32
  · rw [if_pos q1, if_pos q1]; rfl
  rw [if_neg q1, if_neg q1]
  by_cases q2 : b s = 59
  · rw [if_pos q2, if_pos q2]; rfl
  rw [if_neg q2, if_neg q2]
  by_cases q3 : 97 ≤ b s ∧ b s ≤ 122
  · rw [if_pos q3, if_neg (by omega), if_neg (by omega)]; rfl
  rw [if_neg q3]
  have e51 : (if b s < 48 then some (4 : Int32) else if 57 < b s then some 4 else some 2) = some (nI (if 48 ≤ b s ∧ b s ≤ 57 then 2 else 4)) := by
    by_cases q4 : 48 ≤ b s ∧ b s ≤ 57
    · rw [if_pos q4, if_neg (by omega), if_neg (by omega)]; rfl
    · rw [if_neg q4]
      by_cases q5 : b s < 48
      · rw [if_pos q5]; rfl
      · rw [if_neg q5, if_pos (by omega)]; rfl
  rw [e51]
  by_cases q6 : b s < 97
  · rw [if_pos q6]
  · rw [if_neg q6, if_pos (by omega)]
theorem T_run {b : Nat → Nat} {t k : Nat} {P : Nat → Bool} (B : BT b t) (hk : k ≤ 5) (hP : ∀ i, sg (b i) = k ↔ P i = true) : ∀ (f p : Nat) (c : Nat → Nat → Int32), TP b t c → c 0 1 = nI p → p ≤ t → t - p < f → ∃ c', d_T_takeToken_79 f c (nI k) = d_T_takeToken_115 c' (nI k) ∧ TO c c' ∧ c' 0 1 = nI (adv P (t - p) p) ∧ c' 0 3 = c 0 3 := by
  have h160 := B.1
  intro f
  induction f with
  | zero => intro p c _ _ _ hf; omega
  | succ f ih =>
    intro p c h h1 hp hf
    rw [d_T_takeToken_79, h.1, h1]
    by_cases hc : t ≤ p
    · rw [if_pos ((qb_leI (by omega) (by omega)).mpr hc), show t - p = 0 by omega]
      exact ⟨c, rfl, TO.rf, h1, rfl⟩
    · rw [if_neg (fun z => hc ((qb_leI (by omega) (by omega)).mp z)), T_sign B h (by omega), Option.bind_some, show t - p = (t - (p + 1)) + 1 by omega, adv]
      have hl := sg_le (b p)
      by_cases q : sg (b p) = k
      · rw [if_pos (by rw [q]), if_pos ((hP p).mp q)]
        simp only [dl, k_1, nI_add]
        obtain ⟨c', a1, a2, a3, a4⟩ := ih (p + 1) (pw c 0 1 (nI (p + 1))) (h.to (TO.w (by omega))) (by rw [pw_s, up_s]) (by omega) (by omega)
        exact ⟨c', a1, (TO.w (by omega)).tr a2, a3, by rw [a4, pw_s, up_n (by omega)]⟩
      · rw [if_neg (fun z => q ((qb_eqI (by omega) (by omega)).mp z)), if_neg (fun z => q ((hP p).mpr z))]
        exact ⟨c, rfl, TO.rf, h1, rfl⟩
theorem T_36 {b : Nat → Nat} {t s : Nat} {c : Nat → Nat → Int32} (B : BT b t) (h : TP b t c) (h1 : c 0 1 = nI s) (hs : s ≤ t) (h32 : s < t → b s ≠ 32) : ∃ c', d_T_takeToken_36 c = some (nI (tK b t s), c') ∧ TO c c' ∧ c' 0 1 = nI (tE b t s) ∧ c' 0 3 = nI s := by
  have h160 := B.1
  unfold d_T_takeToken_36
  simp only [dl]
  rw [h1]
  unfold tK tE
  by_cases hc : t ≤ s
  · have e : d_T_signAt (pw c 0 3 (nI s)) (nI s) = some 0 := by
      unfold d_T_signAt
      rw [if_neg (nI_pos (by omega)), pw_s, up_n (by omega), h.1, if_neg (fun z => by have := (qb_ltI (by omega) (by omega)).mp z; omega)]
    rw [e, Option.bind_some, if_pos rfl, if_pos hc, if_pos hc]
    exact ⟨_, rfl, TO.w (by omega), by rw [pw_s, up_n (by omega)]; exact h1, by rw [pw_s, up_s]⟩
  · have h3 : TP b t (pw c 0 3 (nI s)) := h.to (TO.w (by omega))
    rw [T_sign B h3 (by omega), Option.bind_some, if_neg hc, if_neg hc]
    have n0 : ∀ j : Nat, 0 < j → j ≤ 5 → ¬ nI j = (0 : Int32) := fun j h1 h2 q => by have := (qb_eqI (b := 0) (show j < 2147483648 by omega) (by omega)).mp q; omega
    have e1 : nI s + (1 : Int32) = nI (s + 1) := nI_add s 1
    rw [e1]
    have h4 : TP b t (pw (pw c 0 3 (nI s)) 0 1 (nI (s + 1))) := h3.to (TO.w (by omega))
    have o4 : TO c (pw (pw c 0 3 (nI s)) 0 1 (nI (s + 1))) := (TO.w (by omega)).tr (TO.w (by omega))
    have f1 : pw (pw c 0 3 (nI s)) 0 1 (nI (s + 1)) 0 1 = nI (s + 1) := by rw [pw_s, up_s]
    have f3 : pw (pw c 0 3 (nI s)) 0 1 (nI (s + 1)) 0 3 = nI s := by rw [pw_s, up_n (by omega), pw_s, up_s]
    by_cases q1 : isL (b s) = true
    · have g1 := (sg_1 (b s)).mpr q1
      rw [g1, if_neg (n0 1 (by omega) (by omega)), if_pos (show nI 1 = (1 : Int32) from rfl), if_pos q1, if_pos q1]
      obtain ⟨c', a1, a2, a3, a4⟩ := T_run (k := 1) (P := fun i => isL (b i)) B (by omega) (fun i => sg_1 (b i)) FU (s + 1) _ h4 f1 (by omega) (by show t - (s + 1) < 10000; omega)
      rw [a1]
      unfold d_T_takeToken_115
      rw [if_neg (by decide)]
      exact ⟨c', rfl, o4.tr a2, a3, by rw [a4, f3]⟩
    · rw [if_neg q1, if_neg q1]
      by_cases q2 : isD (b s) = true
      · have g2 := (sg_2 (b s)).mpr q2
        rw [g2, if_neg (n0 2 (by omega) (by omega)), if_neg (by decide), if_pos (show nI 2 = (2 : Int32) from rfl), if_pos q2, if_pos q2]
        obtain ⟨c', a1, a2, a3, a4⟩ := T_run (k := 2) (P := fun i => isD (b i)) B (by omega) (fun i => sg_2 (b i)) FU (s + 1) _ h4 f1 (by omega) (by show t - (s + 1) < 10000; omega)
        have a3' : c' 0 1 = nI (tD b t s) := a3
        have le := adv_le (fun i => isD (b i)) (t - (s + 1)) (s + 1)
        have le' : s + 1 ≤ tD b t s ∧ tD b t s ≤ s + 1 + (t - (s + 1)) := le
        rw [a1]
        unfold d_T_takeToken_115
        rw [if_pos (show nI 2 = (2 : Int32) from rfl), a3', a4, f3, pk_sub (by omega)]
        by_cases q3 : tD b t s - s ≤ 2
        · rw [if_pos q3, if_pos (show nI (tD b t s - s) ≤ (2 : Int32) from (qb_leI (b := 2) (by omega) (by omega)).mpr q3)]
          exact ⟨c', rfl, o4.tr a2, a3', by rw [a4, f3]⟩
        · rw [if_neg q3, if_neg (show ¬ nI (tD b t s - s) ≤ (2 : Int32) from fun z => q3 ((qb_leI (b := 2) (by omega) (by omega)).mp z))]
          exact ⟨c', rfl, o4.tr a2, a3', by rw [a4, f3]⟩
      · have g0 : sg (b s) = if b s = 59 then 3 else 4 := by
          unfold sg
          rw [if_neg (h32 (by omega)), if_neg q1, if_neg q2]
        rw [if_neg q2, if_neg q2, g0]
        unfold d_T_takeToken_115
        by_cases q3 : b s = 59
        · rw [if_pos q3, if_neg (n0 3 (by omega) (by omega)), if_neg (by decide), if_neg (by decide), if_neg (by decide)]
          exact ⟨_, rfl, o4, f1, f3⟩
        · rw [if_neg q3, if_neg (n0 4 (by omega) (by omega)), if_neg (by decide), if_neg (by decide), if_neg (by decide)]
          exact ⟨_, rfl, o4, f1, f3⟩
theorem T_0 {b : Nat → Nat} {t : Nat} (B : BT b t) : ∀ (f p : Nat) (c : Nat → Nat → Int32), TP b t c → c 0 1 = nI p → p ≤ t → t - p < f → ∃ c', d_T_takeToken_0 f c = some (nI (tK b t (tS b t p)), c') ∧ TO c c' ∧ c' 0 1 = nI (tE b t (tS b t p)) ∧ c' 0 3 = nI (tS b t p) := by
  have h160 := B.1
  intro f
  induction f with
  | zero => intro p c _ _ _ hf; omega
  | succ f ih =>
    intro p c h h1 hp hf
    rw [d_T_takeToken_0, h.1, h1]
    by_cases hc : t ≤ p
    · have e : tS b t p = p := by unfold tS; rw [show t - p = 0 by omega]; rfl
      rw [if_pos ((qb_leI (by omega) (by omega)).mpr hc), e]
      exact T_36 B h h1 hp (fun q => by omega)
    · rw [if_neg (fun z => hc ((qb_leI (by omega) (by omega)).mp z)), T_sign B h (by omega), Option.bind_some]
      have hl := sg_le (b p)
      have es : tS b t p = if b p = 32 then tS b t (p + 1) else p := by
        unfold tS
        rw [show t - p = (t - (p + 1)) + 1 by omega, adv]
        simp only [decide_eq_true_eq]
      by_cases q : b p = 32
      · rw [if_pos (by rw [(sg_5 (b p)).mpr q]; rfl), es, if_pos q]
        simp only [dl, k_1, nI_add]
        obtain ⟨c', a1, a2, a3, a4⟩ := ih (p + 1) (pw c 0 1 (nI (p + 1))) (h.to (TO.w (by omega))) (by rw [pw_s, up_s]) (by omega) (by omega)
        exact ⟨c', a1, (TO.w (by omega)).tr a2, a3, a4⟩
      · rw [if_neg (show ¬ nI (sg (b p)) = (5 : Int32) from fun z => q ((sg_5 (b p)).mp ((qb_eqI (b := 5) (by omega) (by omega)).mp z))), es, if_neg q]
        exact T_36 B h h1 hp (fun _ => q)
theorem T_tok {b : Nat → Nat} {t p : Nat} {c : Nat → Nat → Int32} (B : BT b t) (h : TP b t c) (h1 : c 0 1 = nI p) (hp : p ≤ t) : ∃ c', d_T_takeToken c = some (nI (tK b t (tS b t p)), c') ∧ TO c c' ∧ c' 0 1 = nI (tE b t (tS b t p)) ∧ c' 0 3 = nI (tS b t p) := by
  have h160 := B.1
  unfold d_T_takeToken
  rw [h.1, h1]
  by_cases hc : t ≤ p
  · have e : tS b t p = p := by unfold tS; rw [show t - p = 0 by omega]; rfl
    rw [if_pos ((qb_leI (by omega) (by omega)).mpr hc), e]
    exact T_36 B h h1 hp (fun q => by omega)
  · rw [if_neg (fun z => hc ((qb_leI (by omega) (by omega)).mp z)), T_sign B h (by omega), Option.bind_some]
    have hl := sg_le (b p)
    have es : tS b t p = if b p = 32 then tS b t (p + 1) else p := by
      unfold tS
      rw [show t - p = (t - (p + 1)) + 1 by omega, adv]
      simp only [decide_eq_true_eq]
    by_cases q : b p = 32
    · rw [if_pos (by rw [(sg_5 (b p)).mpr q]; rfl), es, if_pos q]
      simp only [dl, k_1, nI_add]
      obtain ⟨c', a1, a2, a3, a4⟩ := T_0 B FU (p + 1) (pw c 0 1 (nI (p + 1))) (h.to (TO.w (by omega))) (by rw [pw_s, up_s]) (by omega) (by show t - (p + 1) < 10000; omega)
      exact ⟨c', a1, (TO.w (by omega)).tr a2, a3, a4⟩
    · rw [if_neg (show ¬ nI (sg (b p)) = (5 : Int32) from fun z => q ((sg_5 (b p)).mp ((qb_eqI (b := 5) (by omega) (by omega)).mp z))), es, if_neg q]
      exact T_36 B h h1 hp (fun _ => q)
/-- the number that a token is -/
theorem T_num {b : Nat → Nat} {t s : Nat} {c : Nat → Nat → Int32} (B : BT b t) (h : TP b t c) (hs : s < t) (hk : tK b t s = 2) (h1 : c 0 1 = nI (tE b t s)) (h3 : c 0 3 = nI s) : d_T_number c = some (nI (tV b t s)) ∧ tV b t s ≤ 99 ∧ isD (b s) = true := by
  have h160 := B.1
  have hd : isD (b s) = true ∧ tD b t s - s ≤ 2 := by
    unfold tK at hk
    rw [if_neg (by omega)] at hk
    split at hk
    · omega
    · split at hk
      · rename_i q
        split at hk
        · exact ⟨q, by assumption⟩
        · omega
      · split at hk <;> omega
  have nl : ¬ isL (b s) = true := by
    have := hd.1
    unfold isD at this
    unfold isL
    simp only [decide_eq_true_eq] at *
    omega
  have ee : tE b t s = tD b t s := by
    unfold tE
    rw [if_neg (by omega), if_neg nl, if_pos hd.1]
  have le : s + 1 ≤ tD b t s ∧ tD b t s ≤ s + 1 + (t - (s + 1)) := adv_le (fun i => isD (b i)) (t - (s + 1)) (s + 1)
  have d0 : 48 ≤ b s ∧ b s ≤ 57 := of_decide_eq_true hd.1
  unfold d_T_number
  simp only [dl]
  rw [h3]
  have st : ∀ (f x q : Nat), q < t → 48 ≤ b q → b q ≤ 127 → q < tE b t s → x ≤ 9 → d_T_number_7 (f + 1) c (nI x) (nI q) = d_T_number_7 f c (nI (10 * x + b q - 48)) (nI (q + 1)) := fun f x q h4 h5 h6 h7 h8 => by
    rw [d_T_number_7, h1, if_neg (fun z => by have := (qb_leI (by omega) (by omega)).mp z; omega), qb_gt (show q < 160 by omega) (by omega), if_pos rfl, qb_cl (by omega), h.2 q h4]
    simp only [dl, k_1, nI_add, k_10, pk_mul]
    rw [show (48 : Int32) = nI 48 from rfl, pk_sub (by omega)]
  have en : ∀ (f x : Nat), d_T_number_7 (f + 1) c (nI x) (nI (tE b t s)) = some (nI x) := fun f x => by
    rw [d_T_number_7, h1, if_pos ((qb_leI (by omega) (by omega)).mpr (Nat.le_refl _))]
  have s1 := st 9999 0 s hs d0.1 (by omega) (by omega) (by omega)
  have s1' : d_T_number_7 FU c 0 (nI s) = d_T_number_7 9999 c (nI (10 * 0 + b s - 48)) (nI (s + 1)) := s1
  rw [s1']
  unfold tV
  by_cases q : tE b t s - s = 1
  · rw [if_pos q, show s + 1 = tE b t s by omega, en 9998]
    exact ⟨by rw [show 10 * 0 + b s - 48 = b s - 48 by omega], by omega, hd.1⟩
  · have d1 : 48 ≤ b (s + 1) ∧ b (s + 1) ≤ 57 := by
      have : tD b t s = adv (fun i => isD (b i)) (t - (s + 1)) (s + 1) := rfl
      rw [show t - (s + 1) = (t - (s + 2)) + 1 by omega, adv] at this
      split at this
      · rename_i q2; exact of_decide_eq_true q2
      · omega
    rw [if_neg q, st 9998 _ (s + 1) (by omega) d1.1 (by omega) (by omega) (by omega), show s + 1 + 1 = tE b t s by omega, en 9997]
    exact ⟨by rw [show 10 * (10 * 0 + b s - 48) + b (s + 1) - 48 = 10 * (b s - 48) + (b (s + 1) - 48) by omega], by omega, hd.1⟩
