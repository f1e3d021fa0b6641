/-! PURE: numbers and stops of a line -/
def FLT (r v : Nat → Nat → Int32) : Prop := ∃ a p : Int32, 0 < a ∧ r 0 7 = a ∧ r 0 8 = p ∧ v 0 16 = a ∧ v 0 17 = p
def RO (r r' : Nat → Nat → Int32) : Prop := (∀ c, c ≠ 0 → c ≠ 1 → r' c = r c) ∧ (∀ j, j ≠ 7 → j ≠ 8 → r' 0 j = r 0 j) ∧ r' 1 2 = r 1 2
theorem RO.rf {r : Nat → Nat → Int32} : RO r r := ⟨fun _ _ _ => rfl, fun _ _ _ => rfl, rfl⟩
theorem RO.tr {a b c : Nat → Nat → Int32} (h : RO a b) (k : RO b c) : RO a c := ⟨fun i h1 h2 => (k.1 i h1 h2).trans (h.1 i h1 h2), fun j h1 h2 => (k.2.1 j h1 h2).trans (h.2.1 j h1 h2), k.2.2.trans h.2.2⟩
theorem RO.tp {b : Nat → Nat} {t : Nat} {r r' : Nat → Nat → Int32} (h : RO r r') (k : TP b t (sh r 1)) : TP b t (sh r' 1) := ⟨by show r' 1 2 = _; rw [h.2.2]; exact k.1, fun i hi => by show r' 2 i = _; rw [h.1 2 (by omega) (by omega)]; exact k.2 i hi⟩
theorem RO.fl (r : Nat → Nat → Int32) (a x : Int32) : RO r (pw (pw r 0 7 a) 0 8 x) := ⟨fun c h1 h2 => by rw [pw_n _ _ _ h1, pw_n _ _ _ h1], fun j h1 h2 => by rw [w_n h2, w_n h1], by rw [pw_n _ _ _ (by omega), pw_n _ _ _ (by omega)]⟩
theorem R_fail_ {r : Nat → Nat → Int32} (h : r 0 7 = 0) (a x : Int32) : d_R_fail r a x = some (pw (pw r 0 7 a) 0 8 x) := by
  unfold d_R_fail
  rw [if_pos h]
theorem R_tok {b : Nat → Nat} {t p : Nat} {r : Nat → Nat → Int32} (B : BT b t) (hT : TP b t (sh r 1)) (h1 : r 1 1 = nI p) (hp : p ≤ t) : ∃ c', d_T_takeToken (sh r 1) = some (nI (tK b t (tS b t p)), c') ∧ RO r (pt r 1 2 c') ∧ pt r 1 2 c' 0 = r 0 ∧ pt r 1 2 c' 1 1 = nI (tE b t (tS b t p)) ∧ pt r 1 2 c' 1 3 = nI (tS b t p) ∧ c' 0 3 = nI (tS b t p) ∧ TP b t (sh (pt r 1 2 c') 1) := by
  obtain ⟨c', a1, a2, a3, a4⟩ := T_tok B hT h1 hp
  have ro : RO r (pt r 1 2 c') := by
    refine ⟨fun c h1 h2 => ?_, fun j _ _ => by rw [pt_out (by omega)], ?_⟩
    · by_cases q : c = 2
      · subst q
        rw [pt_at (by omega) (by omega)]
        exact a2.1
      · rw [pt_out (by omega)]
    · rw [pt_at (by omega) (by omega)]
      exact a2.2
  refine ⟨c', a1, ro, pt_out (by omega), ?_, ?_, a4, ro.tp hT⟩
  · rw [pt_at (by omega) (by omega)]; exact a3
  · rw [pt_at (by omega) (by omega)]; exact a4
theorem FLT.mk {r v : Nat → Nat → Int32} {a x : Int32} (ha : 0 < a) (h1 : r 0 7 = a) (h2 : r 0 8 = x) (h3 : v 0 16 = a) (h4 : v 0 17 = x) : FLT r v := ⟨a, x, ha, h1, h2, h3, h4⟩
theorem refuse {r : Nat → Nat → Int32} {k s : Nat} (h7 : r 0 7 = 0) (h3 : r 1 3 = nI s) (hk : k ≤ 4) : d_R_refuseToken r (nI k) = some (pw (pw r 0 7 (if k = 4 then 1 else 2)) 0 8 (nI s)) := by
  unfold d_R_refuseToken d_R_refuseToken_11
  have hI : (nI k = (4 : Int32)) ↔ k = 4 := qb_eqI (b := 4) (by omega) (by omega)
  by_cases q : k = 4
  · rw [if_pos (hI.mpr q), if_pos q, R_fail_ h7, Option.bind_some, h3]
  · rw [if_neg (fun z => q (hI.mp z)), if_neg q, R_fail_ h7, Option.bind_some, h3]
theorem w7 {r : Nat → Nat → Int32} {a x : Int32} : pw (pw r 0 7 a) 0 8 x 0 7 = a := by rw [w_n (by omega), w_s]
theorem w16 {v : Nat → Nat → Int32} {a x : Int32} : pw (pw v 0 16 a) 0 17 x 0 16 = a := by rw [w_n (by omega), w_s]
theorem mo16 {v : Nat → Nat → Int32} {a x : Int32} : MO v (pw (pw v 0 16 a) 0 17 x) := (MO.w (by omega) (by omega)).tr (MO.w (by omega) (by omega))
/-- a number is wanted -/
theorem look_ {b : Nat → Nat} {t p : Nat} {r v : Nat → Nat → Int32} (B : BT b t) (hT : TP b t (sh r 1)) (h7 : r 0 7 = 0) (h1 : r 1 1 = nI p) (hp : p ≤ t) (hk : TKN b t (tS b t p) v) {lo hi : Nat} (hlo : lo ≤ 99) (hhi : hi ≤ 99) : (∃ x y r' v', d_R_takeNumber r (nI lo) (nI hi) = some (x, r') ∧ d_M_looked v (nI lo) (nI hi) = some (y, v') ∧ FLT r' v' ∧ RO r r' ∧ MO v v') ∨ (∃ n r', lo ≤ n ∧ n ≤ hi ∧ d_R_takeNumber r (nI lo) (nI hi) = some (nI n, r') ∧ d_M_looked v (nI lo) (nI hi) = some (nI n, v) ∧ r' 0 = r 0 ∧ RO r r' ∧ v 0 16 = 0 ∧ v 0 13 = nI (tS b t p) ∧ v 0 12 = nI (tE b t (tS b t p)) ∧ r' 1 1 = nI (tE b t (tS b t p)) ∧ r' 1 3 = nI (tS b t p) ∧ p ≤ tE b t (tS b t p) ∧ tE b t (tS b t p) ≤ t) := by
  have h160 := B.1
  obtain ⟨c', a1, a2, a3, a4, a5, a6, a7⟩ := R_tok B hT h1 hp
  obtain ⟨k12, k13, k4, kn⟩ := hk
  have sl := tS_le (b := b) hp
  have el := tE_le (b := b) sl.2
  have kl := tK_le (b := b) (t := t) (s := tS b t p)
  have z7 : pt r 1 2 c' 0 7 = 0 := by rw [a3]; exact h7
  unfold d_R_takeNumber
  rw [if_pos h7, a1, Option.bind_some]
  have hI2 : (nI (tK b t (tS b t p)) = (2 : Int32)) ↔ tK b t (tS b t p) = 2 := qb_eqI (b := 2) (by omega) (by omega)
  by_cases q4 : tK b t (tS b t p) = 4
  · left
    obtain ⟨m1, m2⟩ := k4 q4
    have hl : d_M_looked v (nI lo) (nI hi) = some (0, v) := by
      unfold d_M_looked d_M_looked_25 d_M_looked_49
      rw [m1, if_neg (by decide), if_neg (by decide), if_neg (by decide)]
    rw [if_neg (fun z => by have := hI2.mp z; omega), refuse z7 a5 kl, Option.bind_some, if_pos q4]
    exact ⟨_, _, _, _, rfl, hl, FLT.mk (a := 1) (by decide) w7 w_s m1 m2, a2.tr (RO.fl _ _ _), MO.rf⟩
  · obtain ⟨m1, m2, m3⟩ := kn q4
    by_cases q2 : tK b t (tS b t p) = 2
    · have hlt : tS b t p < t := by
        have := (not_congr (tK_0 (b := b) (t := t) (s := tS b t p))).mp (by omega)
        omega
      obtain ⟨e1, e2, e3⟩ := T_num (c := sh (pt r 1 2 c') 1) B a7 hlt q2 a4 a5
      rw [if_pos (hI2.mpr q2), e1, Option.bind_some, qp_out, Option.bind_some]
      have hl : ∀ X, d_M_looked_21 v (nI lo) (nI hi) 1 = X → d_M_looked v (nI lo) (nI hi) = X := fun X hX => by
        unfold d_M_looked
        rw [if_pos m1, if_pos (by rw [m2]; exact hI2.mpr q2)]
        exact hX
      have hc' : (nI lo ≤ nI (tV b t (tS b t p)) ∧ nI (tV b t (tS b t p)) ≤ nI hi) ↔ (lo ≤ tV b t (tS b t p) ∧ tV b t (tS b t p) ≤ hi) := by rw [qb_leI (by omega) (by omega), qb_leI (by omega) (by omega)]
      by_cases q3 : nI lo ≤ nI (tV b t (tS b t p)) ∧ nI (tV b t (tS b t p)) ≤ nI hi
      · right
        refine ⟨tV b t (tS b t p), pt r 1 2 c', (hc'.mp q3).1, (hc'.mp q3).2, ?_, ?_, a3, a2, m1, k13, k12, a4, a5, by omega, el.2.1⟩
        · rw [if_pos q3, if_pos rfl]
        · apply hl
          unfold d_M_looked_21 d_M_looked_25 d_M_looked_49
          rw [M_needs1, Option.bind_some, if_pos m1, m3 q2, qp_in, if_pos q3, Option.bind_some, M_needs1, Option.bind_some, if_pos m1, m3 q2]
      · left
        have a6' : ((nI (tK b t (tS b t p)), c') : Int32 × (Nat → Nat → Int32)).2 0 3 = nI (tS b t p) := a6
        rw [if_neg q3, if_neg (by decide), R_fail_ z7, Option.bind_some, a6']
        refine ⟨_, 0, _, pw (pw v 0 16 3) 0 17 (nI (tS b t p)), rfl, ?_, FLT.mk (a := 3) (by decide) w7 w_s w16 ?_, a2.tr (RO.fl _ _ _), mo16⟩
        · apply hl
          unfold d_M_looked_21 d_M_looked_25 d_M_looked_49
          rw [M_needs1, Option.bind_some, if_pos m1, m3 q2, qp_in, if_neg q3, Option.bind_some, M_needs0 m1, Option.bind_some, w16, if_neg (by decide), k13]
        · rw [w_s]
    · left
      rw [if_neg (fun z => q2 (hI2.mp z)), refuse z7 a5 kl, Option.bind_some, if_neg q4]
      have hl : d_M_looked v (nI lo) (nI hi) = some (0, pw (pw v 0 16 2) 0 17 (nI (tS b t p))) := by
        unfold d_M_looked
        rw [if_pos m1, if_neg (by rw [m2]; exact fun z => q2 (hI2.mp z))]
        unfold d_M_looked_21 d_M_looked_25 d_M_looked_49
        rw [M_needs0 m1, Option.bind_some, w16, if_neg (by decide), if_neg (by decide), k13]
      exact ⟨_, _, _, _, rfl, hl, FLT.mk (a := 2) (by decide) w7 w_s w16 w_s, a2.tr (RO.fl _ _ _), mo16⟩
theorem num_f {r v : Nat → Nat → Int32} (h : FLT r v) (x y : Int32) : d_R_takeNumber r x y = some (x, r) ∧ d_M_looked v x y = some (0, v) ∧ d_M_readNumber v x y = some (0, v) := by
  obtain ⟨a, p, h0, h1, h2, h3, h4⟩ := h
  have n0 : ¬ a = 0 := fun z => by rw [z] at h0; revert h0; decide
  have hl : d_M_looked v x y = some (0, v) := by
    unfold d_M_looked d_M_looked_25 d_M_looked_49
    rw [h3, if_neg n0, if_neg n0, if_neg n0]
  refine ⟨?_, hl, ?_⟩
  · unfold d_R_takeNumber
    rw [h1, if_neg n0]
  · unfold d_M_readNumber
    rw [hl, Option.bind_some]
    show (d_M_next v).bind _ = _
    rw [M_next_f (by rw [h3]; exact h0), Option.bind_some]
theorem num_ {b : Nat → Nat} {t p : Nat} {r v : Nat → Nat → Int32} (B : BT b t) (hT : TP b t (sh r 1)) (hM : MP b t v) (h7 : r 0 7 = 0) (h1 : r 1 1 = nI p) (hp : p ≤ t) (hk : TKN b t (tS b t p) v) {lo hi : Nat} (hlo : lo ≤ 99) (hhi : hi ≤ 99) : (∃ x y r' v', d_R_takeNumber r (nI lo) (nI hi) = some (x, r') ∧ d_M_readNumber v (nI lo) (nI hi) = some (y, v') ∧ FLT r' v' ∧ RO r r' ∧ MO v v') ∨ (∃ n r' v' e, lo ≤ n ∧ n ≤ hi ∧ d_R_takeNumber r (nI lo) (nI hi) = some (nI n, r') ∧ d_M_readNumber v (nI lo) (nI hi) = some (nI n, v') ∧ r' 0 = r 0 ∧ RO r r' ∧ MO v v' ∧ v 0 16 = 0 ∧ r' 1 1 = nI e ∧ p ≤ e ∧ e ≤ t ∧ TKN b t (tS b t e) v') := by
  rcases look_ B hT h7 h1 hp hk hlo hhi with ⟨x, y, r', v', a1, a2, a3, a4, a5⟩ | ⟨n, r', a1, a2, a3, a4, a5, a6, a7, a8, a9, a10, a11, a12, a13⟩
  · left
    refine ⟨x, y, r', v', a1, ?_, a3, a4, a5⟩
    obtain ⟨a, p, h0, h1, h2, h3, h4⟩ := a3
    unfold d_M_readNumber
    rw [a2, Option.bind_some]
    show (d_M_next v').bind _ = _
    rw [M_next_f (by rw [h3]; exact h0), Option.bind_some]
  · right
    obtain ⟨v', b1, b2, b3⟩ := M_next_ B hM a9 a7 a13
    refine ⟨n, r', v', _, a1, a2, a3, ?_, a5, a6, b2, a7, a10, a12, a13, b3⟩
    unfold d_M_readNumber
    rw [a4, Option.bind_some]
    show (d_M_next v).bind _ = _
    rw [b1, Option.bind_some]
/-- a stop is wanted -/
theorem stop_ {b : Nat → Nat} {t p : Nat} {r v : Nat → Nat → Int32} (B : BT b t) (hT : TP b t (sh r 1)) (hM : MP b t v) (h7 : r 0 7 = 0) (h1 : r 1 1 = nI p) (hp : p ≤ t) (hk : TKN b t (tS b t p) v) : (∃ r' v', d_R_takeLine_82 r = some r' ∧ (if (v 0 16) = 0 then (if (v 0 14) = (3 : Int32) then (d_M_readLine_160 v (1 : Int32)) else (d_M_readLine_160 v (0 : Int32))) else (d_M_readLine_164 v)) = some v' ∧ FLT r' v' ∧ RO r r' ∧ MO v v') ∨ (∃ r' v' e, d_R_takeLine_82 r = some r' ∧ (if (v 0 16) = 0 then (if (v 0 14) = (3 : Int32) then (d_M_readLine_160 v (1 : Int32)) else (d_M_readLine_160 v (0 : Int32))) else (d_M_readLine_164 v)) = some v' ∧ r' 0 = r 0 ∧ RO r r' ∧ MO v v' ∧ r' 1 1 = nI e ∧ p ≤ e ∧ e ≤ t ∧ TKN b t (tS b t e) v') := by
  have h160 := B.1
  obtain ⟨c', a1, a2, a3, a4, a5, a6, a7⟩ := R_tok B hT h1 hp
  obtain ⟨k12, k13, k4, kn⟩ := hk
  have sl := tS_le (b := b) hp
  have el := tE_le (b := b) sl.2
  have kl := tK_le (b := b) (t := t) (s := tS b t p)
  have z7 : pt r 1 2 c' 0 7 = 0 := by rw [a3]; exact h7
  unfold d_R_takeLine_82 d_R_takeStop
  rw [if_pos h7, a1, Option.bind_some]
  have hI3 : (nI (tK b t (tS b t p)) = (3 : Int32)) ↔ tK b t (tS b t p) = 3 := qb_eqI (b := 3) (by omega) (by omega)
  by_cases q4 : tK b t (tS b t p) = 4
  · left
    obtain ⟨m1, m2⟩ := k4 q4
    rw [if_neg (fun z => by have := hI3.mp z; omega), refuse z7 a5 kl, if_pos q4, m1, if_neg (by decide)]
    unfold d_M_readLine_164
    rw [M_next_f (by rw [m1]; decide)]
    exact ⟨_, _, rfl, rfl, FLT.mk (a := 1) (by decide) w7 w_s m1 m2, a2.tr (RO.fl _ _ _), MO.rf⟩
  · obtain ⟨m1, m2, m3⟩ := kn q4
    rw [m1, if_pos rfl, m2]
    unfold d_M_readLine_160 d_M_readLine_164
    by_cases q3 : tK b t (tS b t p) = 3
    · right
      obtain ⟨v', b1, b2, b3⟩ := M_next_ B hM k12 m1 el.2.1
      rw [if_pos (hI3.mpr q3), if_pos (hI3.mpr q3), M_needs1]
      simp only [Option.bind_some, b1]
      exact ⟨_, v', _, rfl, rfl, a3, a2, b2, a4, by omega, el.2.1, b3⟩
    · left
      rw [if_neg (fun z => q3 (hI3.mp z)), if_neg (fun z => q3 (hI3.mp z)), refuse z7 a5 kl, if_neg q4, M_needs0 m1]
      simp only [Option.bind_some]
      rw [M_next_f (by rw [w16]; decide)]
      exact ⟨_, _, rfl, rfl, FLT.mk (a := 2) (by decide) w7 w_s w16 (by rw [w_s]; exact k13), a2.tr (RO.fl _ _ _), mo16⟩
theorem stop_f {r v : Nat → Nat → Int32} (h : FLT r v) : d_R_takeLine_82 r = some r ∧ (if (v 0 16) = 0 then (if (v 0 14) = (3 : Int32) then (d_M_readLine_160 v (1 : Int32)) else (d_M_readLine_160 v (0 : Int32))) else (d_M_readLine_164 v)) = some v := by
  obtain ⟨a, p, h0, h1, h2, h3, h4⟩ := h
  have n0 : ¬ a = 0 := fun z => by rw [z] at h0; revert h0; decide
  unfold d_R_takeLine_82 d_M_readLine_164
  rw [h1, if_neg n0, h3, if_neg n0, M_next_f (by rw [h3]; exact h0)]
  exact ⟨rfl, rfl⟩
