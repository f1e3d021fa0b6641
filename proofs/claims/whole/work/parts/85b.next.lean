/-! PURE: tokens, by the reference -/
theorem M_byte {b : Nat → Nat} {t : Nat} {v : Nat → Nat → Int32} (B : BT b t) (h : MP b t v) (i : Nat) (hi : i < 1000) : d_M_byteAt v (nI i) = some (if i < t then nI (b i) else -1) := by
  have h160 := B.1
  unfold d_M_byteAt
  rw [h.1]
  by_cases hc : t ≤ i
  · rw [if_pos ((qb_leI (by omega) (by omega)).mpr hc), if_neg (by omega)]
  · rw [if_neg (fun z => hc ((qb_leI (by omega) (by omega)).mp z)), qb_gt (show i < 160 by omega) (by omega), if_pos rfl, qb_cl (by omega), if_pos (by omega), h.2 i (by omega)]
theorem in_L {x : Nat} (hx : x ≤ 127) : d_P_in (nI x).toInt64 (97 : Int64) (122 : Int64) = some (if isL x = true then 1 else 0) := by
  have := qp_in (nI x) 97 122
  have e : ((97 : Int32) ≤ nI x ∧ nI x ≤ (122 : Int32)) ↔ isL x = true := by
    unfold isL
    rw [decide_eq_true_eq, show (97 : Int32) = nI 97 from rfl, show (122 : Int32) = nI 122 from rfl, qb_leI (by omega) (by omega), qb_leI (by omega) (by omega)]
  simp only [e] at this
  exact this
theorem in_D {x : Nat} (hx : x ≤ 127) : d_P_in (nI x).toInt64 (48 : Int64) (57 : Int64) = some (if isD x = true then 1 else 0) := by
  have := qp_in (nI x) 48 57
  have e : ((48 : Int32) ≤ nI x ∧ nI x ≤ (57 : Int32)) ↔ isD x = true := by
    unfold isD
    rw [decide_eq_true_eq, show (48 : Int32) = nI 48 from rfl, show (57 : Int32) = nI 57 from rfl, qb_leI (by omega) (by omega), qb_leI (by omega) (by omega)]
  simp only [e] at this
  exact this
theorem in_L1 : d_P_in (-1 : Int32).toInt64 (97 : Int64) (122 : Int64) = some 0 := by
  have := qp_in (-1) 97 122
  rw [if_neg (by decide)] at this
  exact this
theorem in_D1 : d_P_in (-1 : Int32).toInt64 (48 : Int64) (57 : Int64) = some 0 := by
  have := qp_in (-1) 48 57
  rw [if_neg (by decide)] at this
  exact this
/-- only what is read of tokens moves -/
def MO (v v' : Nat → Nat → Int32) : Prop := (∀ c, c ≠ 0 → v' c = v c) ∧ ∀ j, j < 12 ∨ 17 < j → v' 0 j = v 0 j
theorem MO.rf {v : Nat → Nat → Int32} : MO v v := ⟨fun _ _ => rfl, fun _ _ => rfl⟩
theorem MO.tr {a b c : Nat → Nat → Int32} (h : MO a b) (k : MO b c) : MO a c := ⟨fun i hi => (k.1 i hi).trans (h.1 i hi), fun j hj => (k.2 j hj).trans (h.2 j hj)⟩
theorem MO.w {v : Nat → Nat → Int32} {j : Nat} {x : Int32} (h : 12 ≤ j) (h2 : j ≤ 17) : MO v (pw v 0 j x) := ⟨fun c hc => pw_n _ _ _ hc, fun i hi => by rw [pw_s, up_n (by omega)]⟩
theorem MP.mo {b : Nat → Nat} {t : Nat} {v v' : Nat → Nat → Int32} (h : MP b t v) (k : MO v v') : MP b t v' := ⟨by rw [k.2 11 (by omega)]; exact h.1, by rw [k.1 6 (by omega)]; exact h.2⟩
theorem w_s {v : Nat → Nat → Int32} {j : Nat} {x : Int32} : pw v 0 j x 0 j = x := by rw [pw_s, up_s]
theorem w_n {v : Nat → Nat → Int32} {j i : Nat} {x : Int32} (h : i ≠ j) : pw v 0 j x 0 i = v 0 i := by rw [pw_s, up_n h]
theorem M_82 {b : Nat → Nat} {t : Nat} (B : BT b t) : ∀ (f p : Nat) (v : Nat → Nat → Int32), MP b t v → v 0 12 = nI p → p ≤ t → t - p < f → ∃ v', d_M_next_82 f v = some v' ∧ MO v v' ∧ v' 0 12 = nI (adv (fun i => isL (b i)) (t - p) p) ∧ ∀ j, j ≠ 12 → v' 0 j = v 0 j := by
  have h160 := B.1
  intro f
  induction f with
  | zero => intro p v _ _ _ hf; omega
  | succ f ih =>
    intro p v h h1 hp hf
    rw [d_M_next_82, h1, M_byte B h p (by omega), Option.bind_some]
    by_cases hc : p < t
    · have h127 := B.2 p hc
      rw [if_pos hc, in_L h127, Option.bind_some, show t - p = (t - (p + 1)) + 1 by omega, adv]
      by_cases q : isL (b p) = true
      · rw [if_pos q, if_pos q, if_neg (by decide)]
        simp only [dl, k_1, nI_add]
        obtain ⟨v', a1, a2, a3, a4⟩ := ih (p + 1) (pw v 0 12 (nI (p + 1))) (h.mo (MO.w (by omega) (by omega))) w_s (by omega) (by omega)
        exact ⟨v', a1, (MO.w (by omega) (by omega)).tr a2, a3, fun j hj => by rw [a4 j hj, w_n hj]⟩
      · rw [if_neg q, if_neg q, if_pos rfl]
        exact ⟨v, rfl, MO.rf, h1, fun _ _ => rfl⟩
    · rw [if_neg hc, in_L1, Option.bind_some, if_pos rfl, show t - p = 0 by omega]
      exact ⟨v, rfl, MO.rf, h1, fun _ _ => rfl⟩
theorem M_needs1 (v : Nat → Nat → Int32) (x : Int32) : d_M_needs v 1 x = some v := rfl
theorem M_needs0 {v : Nat → Nat → Int32} (h : v 0 16 = 0) (x : Int32) : d_M_needs v 0 x = some (pw (pw v 0 16 x) 0 17 (v 0 13)) := by
  unfold d_M_needs
  rw [if_pos rfl, if_pos h]
  rfl
theorem M_140 {b : Nat → Nat} {t s : Nat} (B : BT b t) (hs : s < t) : ∀ (f p x : Nat) (v : Nat → Nat → Int32), MP b t v → v 0 12 = nI p → v 0 13 = nI s → v 0 15 = nI x → v 0 16 = 0 → s ≤ p → p ≤ t → t - p < f → x ≤ 99 → (p - s ≤ 1 → x ≤ 9) → (p - s = 0 → x = 0) → (p - s = 1 → x = b s - 48) → (2 ≤ p - s → x = 10 * (b s - 48) + (b (s + 1) - 48)) → ∃ v' y, d_M_next_140 f v = some v' ∧ MO v v' ∧ v' 0 12 = nI (adv (fun i => isD (b i)) (t - p) p) ∧ v' 0 13 = nI s ∧ v' 0 14 = v 0 14 ∧ v' 0 15 = nI y ∧ (adv (fun i => isD (b i)) (t - p) p - s = 1 → y = b s - 48) ∧ (2 ≤ adv (fun i => isD (b i)) (t - p) p - s → y = 10 * (b s - 48) + (b (s + 1) - 48)) ∧ (adv (fun i => isD (b i)) (t - p) p - s ≤ 2 → v' 0 16 = 0) ∧ (2 < adv (fun i => isD (b i)) (t - p) p - s → v' 0 16 = 1 ∧ v' 0 17 = nI s) := by
  have h160 := B.1
  have fin : ∀ (p x : Nat) (v : Nat → Nat → Int32), v 0 12 = nI p → v 0 13 = nI s → v 0 15 = nI x → v 0 16 = 0 → s ≤ p → p ≤ t → (p - s = 1 → x = b s - 48) → (2 ≤ p - s → x = 10 * (b s - 48) + (b (s + 1) - 48)) → ∃ v' y, (if (2 : Int32) < nI p - nI s then d_M_next_236 v 0 else d_M_next_236 v 1) = some v' ∧ MO v v' ∧ v' 0 12 = nI p ∧ v' 0 13 = nI s ∧ v' 0 14 = v 0 14 ∧ v' 0 15 = nI y ∧ (p - s = 1 → y = b s - 48) ∧ (2 ≤ p - s → y = 10 * (b s - 48) + (b (s + 1) - 48)) ∧ (p - s ≤ 2 → v' 0 16 = 0) ∧ (2 < p - s → v' 0 16 = 1 ∧ v' 0 17 = nI s) := by
    intro p x v h1 h2 h3 h4 h5 h6 h7 h8
    have hI : ((2 : Int32) < nI p - nI s) ↔ 2 < p - s := by rw [pk_sub (by omega)]; exact qb_ltI (a := 2) (by omega) (by omega)
    unfold d_M_next_236
    by_cases q : 2 < p - s
    · rw [if_pos (hI.mpr q), M_needs0 h4, Option.bind_some]
      refine ⟨_, x, rfl, (MO.w (by omega) (by omega)).tr (MO.w (by omega) (by omega)), ?_, ?_, ?_, ?_, h7, h8, fun z => by omega, fun _ => ⟨?_, ?_⟩⟩
      · rw [w_n (by omega), w_n (by omega)]; exact h1
      · rw [w_n (by omega), w_n (by omega)]; exact h2
      · rw [w_n (by omega), w_n (by omega)]
      · rw [w_n (by omega), w_n (by omega)]; exact h3
      · rw [w_n (by omega), w_s]
      · rw [w_s]; exact h2
    · rw [if_neg (fun z => q (hI.mp z)), M_needs1, Option.bind_some]
      exact ⟨v, x, rfl, MO.rf, h1, h2, rfl, h3, h7, h8, fun _ => h4, fun z => absurd z q⟩
  intro f
  induction f with
  | zero => intro p x v _ _ _ _ _ _ _ hf; omega
  | succ f ih =>
    intro p x v h h1 h2 h3 h4 hsp hp hf hx i9 i0 i1 i2
    rw [d_M_next_140, h1, h2, M_byte B h p (by omega), Option.bind_some]
    by_cases hc : p < t
    · have h127 := B.2 p hc
      rw [if_pos hc, in_D h127, Option.bind_some, show t - p = (t - (p + 1)) + 1 by omega, adv]
      by_cases q : isD (b p) = true
      · have d0 : 48 ≤ b p ∧ b p ≤ 57 := of_decide_eq_true q
        rw [if_pos q, if_pos q, if_neg (by decide), Option.bind_some]
        unfold d_M_next_201
        simp only [dl]
        rw [h1, h3, show nI p + (1 : Int32) = nI (p + 1) from nI_add p 1]
        have hI : ((2 : Int32) ≤ nI p - nI s) ↔ 2 ≤ p - s := by rw [pk_sub (by omega)]; exact qb_leI (a := 2) (by omega) (by omega)
        by_cases q2 : 2 ≤ p - s
        · rw [if_pos (hI.mpr q2)]
          obtain ⟨v', y, a1, a2, a3, a4, a5, a6, a7⟩ := ih (p + 1) x (pw (pw v 0 15 (nI x)) 0 12 (nI (p + 1))) (h.mo ((MO.w (by omega) (by omega)).tr (MO.w (by omega) (by omega)))) w_s (by rw [w_n (by omega), w_n (by omega)]; exact h2) (by rw [w_n (by omega), w_s]) (by rw [w_n (by omega), w_n (by omega)]; exact h4) (by omega) (by omega) (by omega) hx (fun z => by omega) (fun z => by omega) (fun z => by omega) (fun _ => i2 q2)
          exact ⟨v', y, a1, ((MO.w (by omega) (by omega)).tr (MO.w (by omega) (by omega))).tr a2, a3, a4, by rw [a5, w_n (by omega), w_n (by omega)], a6, a7⟩
        · rw [if_neg (fun z => q2 (hI.mp z))]
          have hx9 : x ≤ 9 := i9 (by omega)
          have ex : (10 : Int32) * nI x + nI (b p) - 48 = nI (10 * x + b p - 48) := by rw [k_10, pk_mul, nI_add, show (48 : Int32) = nI 48 from rfl, pk_sub (by omega)]
          rw [ex]
          obtain ⟨v', y, a1, a2, a3, a4, a5, a6, a7⟩ := ih (p + 1) (10 * x + b p - 48) (pw (pw v 0 15 (nI (10 * x + b p - 48))) 0 12 (nI (p + 1))) (h.mo ((MO.w (by omega) (by omega)).tr (MO.w (by omega) (by omega)))) w_s (by rw [w_n (by omega), w_n (by omega)]; exact h2) (by rw [w_n (by omega), w_s]) (by rw [w_n (by omega), w_n (by omega)]; exact h4) (by omega) (by omega) (by omega) (by omega) (fun z => by
            have z1 := i0 (by omega)
            omega) (fun z => by omega) (fun z => by
            have z1 := i0 (by omega)
            rw [show s = p by omega, z1]
            omega) (fun z => by
            have z1 := i1 (by omega)
            rw [z1, show s + 1 = p by omega]
            omega)
          exact ⟨v', y, a1, ((MO.w (by omega) (by omega)).tr (MO.w (by omega) (by omega))).tr a2, a3, a4, by rw [a5, w_n (by omega), w_n (by omega)], a6, a7⟩
      · rw [if_neg q, if_neg q, if_pos rfl]
        exact fin p x v h1 h2 h3 h4 hsp hp i1 i2
    · rw [if_neg hc, in_D1, Option.bind_some, if_pos rfl, show t - p = 0 by omega]
      exact fin p x v h1 h2 h3 h4 hsp hp i1 i2
/-- the token that begins at s is looked at -/
def TKN (b : Nat → Nat) (t s : Nat) (v : Nat → Nat → Int32) : Prop := v 0 12 = nI (tE b t s) ∧ v 0 13 = nI s ∧ (tK b t s = 4 → v 0 16 = 1 ∧ v 0 17 = nI s) ∧ (tK b t s ≠ 4 → v 0 16 = 0 ∧ v 0 14 = nI (tK b t s) ∧ (tK b t s = 2 → v 0 15 = nI (tV b t s)))
theorem M_8 {b : Nat → Nat} {t : Nat} (B : BT b t) : ∀ (f p : Nat) (v : Nat → Nat → Int32), MP b t v → v 0 12 = nI p → v 0 16 = 0 → p ≤ t → t - p < f → ∃ v', d_M_next_8 f v = some v' ∧ MO v v' ∧ TKN b t (tS b t p) v' := by
  have h160 := B.1
  intro f
  induction f with
  | zero => intro p v _ _ _ _ hf; omega
  | succ f ih =>
    intro p v h h1 h4 hp hf
    rw [d_M_next_8, h1, M_byte B h p (by omega), Option.bind_some]
    simp only [dl]
    by_cases hc : p < t
    · have h127 := B.2 p hc
      have es : tS b t p = if b p = 32 then tS b t (p + 1) else p := by
        unfold tS
        rw [show t - p = (t - (p + 1)) + 1 by omega, adv]
        simp only [decide_eq_true_eq]
      rw [if_pos hc, es]
      have e32 : (nI (b p) = (32 : Int32)) ↔ b p = 32 := qb_eqI (b := 32) (by omega) (by omega)
      by_cases q : b p = 32
      · rw [if_pos (e32.mpr q), if_pos q, show nI p + (1 : Int32) = nI (p + 1) from nI_add p 1]
        obtain ⟨v', a1, a2, a3⟩ := ih (p + 1) (pw v 0 12 (nI (p + 1))) (h.mo (MO.w (by omega) (by omega))) w_s (by rw [w_n (by omega)]; exact h4) (by omega) (by omega)
        exact ⟨v', a1, (MO.w (by omega) (by omega)).tr a2, a3⟩
      · have hp' : MP b t (pw v 0 13 (nI p)) := h.mo (MO.w (by omega) (by omega))
        rw [if_neg (fun z => q (e32.mp z)), if_neg q, M_byte B hp' p (by omega), Option.bind_some, if_pos hc, if_pos (Int32.not_lt.mp (nI_pos (by omega))), in_L h127, Option.bind_some]
        unfold TKN tK tE
        rw [if_neg (show ¬ t ≤ p by omega), if_neg (show ¬ t ≤ p by omega)]
        by_cases q1 : isL (b p) = true
        · rw [if_pos q1, if_neg (by decide), if_pos q1, if_pos q1]
          have st : ∀ (f : Nat) (v : Nat → Nat → Int32), MP b t v → v 0 12 = nI p → d_M_next_82 (f + 1) v = d_M_next_82 f (pw v 0 12 (nI (p + 1))) := fun f v h h1 => by
            rw [d_M_next_82, h1, M_byte B h p (by omega), Option.bind_some, if_pos hc, in_L h127, Option.bind_some, if_pos q1, if_neg (by decide)]
            simp only [dl, k_1, nI_add]
          have st' := st 9999 (pw (pw v 0 13 (nI p)) 0 14 1) (hp'.mo (MO.w (by omega) (by omega))) (by rw [w_n (by omega), w_n (by omega)]; exact h1)
          have st2 : d_M_next_82 FU (pw (pw v 0 13 (nI p)) 0 14 1) = _ := st'
          rw [st2]
          obtain ⟨v', a1, a2, a3, a4⟩ := M_82 B 9999 (p + 1) (pw (pw (pw v 0 13 (nI p)) 0 14 1) 0 12 (nI (p + 1))) ((hp'.mo (MO.w (by omega) (by omega))).mo (MO.w (by omega) (by omega))) w_s (by omega) (by omega)
          refine ⟨v', a1, (((MO.w (by omega) (by omega)).tr (MO.w (by omega) (by omega))).tr (MO.w (by omega) (by omega))).tr a2, a3, ?_, fun z => by omega, fun _ => ⟨?_, ?_, fun z => by omega⟩⟩
          · rw [a4 13 (by omega), w_n (by omega), w_n (by omega), w_s]
          · rw [a4 16 (by omega), w_n (by omega), w_n (by omega), w_n (by omega)]; exact h4
          · rw [a4 14 (by omega), w_n (by omega), w_s]; rfl
        · rw [if_neg q1, if_pos rfl, in_D h127, Option.bind_some, if_neg q1, if_neg q1]
          by_cases q2 : isD (b p) = true
          · have d0 : 48 ≤ b p ∧ b p ≤ 57 := of_decide_eq_true q2
            rw [if_pos q2, if_neg (by decide), if_pos q2, if_pos q2]
            obtain ⟨v', y, a1, a2, a3, a4, a5, a6, a7, a8, a9, a10⟩ := M_140 (s := p) B hc FU p 0 (pw (pw (pw v 0 13 (nI p)) 0 14 2) 0 15 0) ((hp'.mo (MO.w (by omega) (by omega))).mo (MO.w (by omega) (by omega))) (by rw [w_n (by omega), w_n (by omega), w_n (by omega)]; exact h1) (by rw [w_n (by omega), w_n (by omega), w_s]) w_s (by rw [w_n (by omega), w_n (by omega), w_n (by omega)]; exact h4) (Nat.le_refl _) hp (by show t - p < 10000; omega) (by omega) (fun _ => by omega) (fun _ => rfl) (fun z => by omega) (fun z => by omega)
            have ea : adv (fun i => isD (b i)) (t - p) p = tD b t p := by
              rw [show t - p = (t - (p + 1)) + 1 by omega, adv, if_pos q2]
              rfl
            rw [ea] at a3 a7 a8 a9 a10
            have le : p + 1 ≤ tD b t p ∧ tD b t p ≤ p + 1 + (t - (p + 1)) := adv_le (fun i => isD (b i)) (t - (p + 1)) (p + 1)
            refine ⟨v', a1, (((MO.w (by omega) (by omega)).tr (MO.w (by omega) (by omega))).tr (MO.w (by omega) (by omega))).tr a2, a3, a4, ?_, ?_⟩
            · intro z
              by_cases q3 : tD b t p - p ≤ 2
              · rw [if_pos q3] at z; omega
              · exact a10 (by omega)
            · intro z
              by_cases q3 : tD b t p - p ≤ 2
              · rw [if_pos q3]
                refine ⟨a9 q3, ?_, fun _ => ?_⟩
                · rw [a5, w_n (by omega), w_s]; rfl
                · have ee : tE b t p = tD b t p := by
                    unfold tE
                    rw [if_neg (by omega), if_neg q1, if_pos q2]
                  rw [a6]
                  unfold tV
                  rw [ee]
                  by_cases q4 : tD b t p - p = 1
                  · rw [if_pos q4, a7 q4]
                  · rw [if_neg q4, a8 (by omega)]
              · rw [if_neg q3] at z; omega
          · rw [if_neg q2, if_pos rfl, if_neg q2, if_neg q2]
            have e59 : (nI (b p) = (59 : Int32)) ↔ b p = 59 := qb_eqI (b := 59) (by omega) (by omega)
            unfold d_M_next_260
            by_cases q3 : b p = 59
            · rw [if_pos (e59.mpr q3), if_pos q3, M_needs1, Option.bind_some]
              simp only [dl]
              refine ⟨_, rfl, ((MO.w (by omega) (by omega)).tr (MO.w (by omega) (by omega))).tr (MO.w (by omega) (by omega)), ?_, ?_, fun z => by omega, fun _ => ⟨?_, ?_, fun z => by omega⟩⟩
              · rw [w_s, w_n (by omega), w_n (by omega), h1]; exact nI_add p 1
              · rw [w_n (by omega), w_n (by omega), w_s]
              · rw [w_n (by omega), w_n (by omega), w_n (by omega)]; exact h4
              · rw [w_n (by omega), w_s]; rfl
            · rw [if_neg (fun z => q3 (e59.mp z)), if_neg q3, M_needs0 (by rw [w_n (by omega), w_n (by omega)]; exact h4), Option.bind_some]
              simp only [dl]
              refine ⟨_, rfl, ((((MO.w (by omega) (by omega)).tr (MO.w (by omega) (by omega))).tr (MO.w (by omega) (by omega))).tr (MO.w (by omega) (by omega))).tr (MO.w (by omega) (by omega)), ?_, ?_, fun _ => ⟨?_, ?_⟩, fun z => by omega⟩
              · rw [w_s, w_n (by omega), w_n (by omega), w_n (by omega), w_n (by omega), h1]; exact nI_add p 1
              · rw [w_n (by omega), w_n (by omega), w_n (by omega), w_n (by omega), w_s]
              · rw [w_n (by omega), w_n (by omega), w_s]
              · rw [w_n (by omega), w_s, w_n (by omega), w_s]
    · have e : tS b t p = p := by unfold tS; rw [show t - p = 0 by omega]; rfl
      have hp' : MP b t (pw v 0 13 (nI p)) := h.mo (MO.w (by omega) (by omega))
      rw [if_neg hc, if_neg (by decide), M_byte B hp' p (by omega), Option.bind_some, if_neg hc, if_neg (by decide), e]
      unfold TKN tK tE
      rw [if_pos (show t ≤ p by omega), if_pos (show t ≤ p by omega)]
      refine ⟨_, rfl, (MO.w (by omega) (by omega)).tr (MO.w (by omega) (by omega)), ?_, ?_, fun z => by omega, fun _ => ⟨?_, w_s, fun z => by omega⟩⟩
      · rw [w_n (by omega), w_n (by omega)]; exact h1
      · rw [w_n (by omega), w_s]
      · rw [w_n (by omega), w_n (by omega)]; exact h4
theorem M_next_ {b : Nat → Nat} {t p : Nat} {v : Nat → Nat → Int32} (B : BT b t) (h : MP b t v) (h1 : v 0 12 = nI p) (h4 : v 0 16 = 0) (hp : p ≤ t) : ∃ v', d_M_next v = some v' ∧ MO v v' ∧ TKN b t (tS b t p) v' := by
  have h160 := B.1
  unfold d_M_next
  rw [h4, if_pos (by decide)]
  exact M_8 B FU p v h h1 h4 hp (by show t - p < 10000; omega)
theorem M_next_f {v : Nat → Nat → Int32} (h : 0 < v 0 16) : d_M_next v = some v := by
  unfold d_M_next
  rw [if_neg (Int32.not_le.mpr h)]
