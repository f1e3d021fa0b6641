set_option maxRecDepth 100000 in
set_option maxHeartbeats 4000000 in
/-- the classes as the tables have them -/
theorem st_K {s : State} {args : Array Value} (hts : ∀ w ∈ lw_tbl, w.before args s = true) : ∃ (dC : Nat → ClassId) (dI : Nat → Nat → Nat) (ac : Nat → ClassId), va_K (dC, dI) vwCl (ab_ty ac) s := by
  have htg : ∀ w ∈ gw, w.before args s = true := fun w hw => hts w (List.mem_filter.mp hw).1
  have h0 : ∀ k : Nat, ∃ z : ClassId × (Nat → Nat), ∀ q : vw_C, vwCl[k]? = some q → u_Kn s q.1 q.2.1 q.2.2 z.1 z.2 := by
    intro k
    match k with
    | 0 =>
      obtain ⟨c, iS, h⟩ := u_known (C := RX0) (T := TX0) (N := 12) (n := 12) htg inw_X0 (htg _ (tw1 55 rfl rfl))
      exact ⟨(c, iS), fun q hq => by cases hq; exact h⟩
    | 1 =>
      obtain ⟨c, iS, h⟩ := u_known (C := RX1) (T := TX1) (N := 3) (n := 3) htg inw_X1 (htg _ (tw1 172 rfl rfl))
      exact ⟨(c, iS), fun q hq => by cases hq; exact h⟩
    | 2 =>
      obtain ⟨c, iS, h⟩ := u_known (C := RX2) (T := TX2) (N := 4) (n := 4) htg inw_X2 (htg _ (tw1 195 rfl rfl))
      exact ⟨(c, iS), fun q hq => by cases hq; exact h⟩
    | 3 =>
      obtain ⟨c, iS, h⟩ := u_known (C := RX3) (T := TX3) (N := 4) (n := 4) htg inw_X3 (htg _ (tw1 151 rfl rfl))
      exact ⟨(c, iS), fun q hq => by cases hq; exact h⟩
    | 4 =>
      obtain ⟨c, iS, h⟩ := u_known (C := RX4) (T := TX4) (N := 4) (n := 4) htg inw_X4 (htg _ (tw1 32 rfl rfl))
      exact ⟨(c, iS), fun q hq => by cases hq; exact h⟩
    | 5 =>
      obtain ⟨c, iS, h⟩ := u_known (C := RX5) (T := TX5) (N := 9) (n := 9) htg inw_X5 (htg _ (tw1 26 rfl rfl))
      exact ⟨(c, iS), fun q hq => by cases hq; exact h⟩
    | 6 =>
      obtain ⟨c, iS, h⟩ := u_known (C := RX6) (T := TX6) (N := 10) (n := 10) htg inw_X6 (htg _ (tw1 18 rfl rfl))
      exact ⟨(c, iS), fun q hq => by cases hq; exact h⟩
    | 7 =>
      obtain ⟨c, iS, h⟩ := u_known (C := RX7) (T := TX7) (N := 28) (n := 28) htg inw_X7 (htg _ (tw4 6 rfl rfl))
      exact ⟨(c, iS), fun q hq => by cases hq; exact h⟩
    | k + 8 => exact ⟨(0, fun _ => 0), fun q hq => by simp [vwCl] at hq⟩
  obtain ⟨z, hz⟩ := Classical.axiomOfChoice h0
  obtain ⟨c0, k0, p0, a1, a2, a3⟩ := Cond.arrayClass_spec (hts _ (tq1 114 rfl) : (Cond.arrayClass .int).before args s = true)
  obtain ⟨c1, k1, p1, b1, b2, b3⟩ := Cond.arrayClass_spec (hts _ (tq1 53 rfl) : (Cond.arrayClass .byte).before args s = true)
  obtain ⟨c2, k2, p2, d1, d2, d3⟩ := Cond.arrayClass_spec (hts _ (tq4 104 rfl) : (Cond.arrayClass .boolean).before args s = true)
  obtain ⟨p3, c3, k3, e1, -, e2, e3, e4⟩ := Cond.arrayOver_spec (hts _ (tq1 171 rfl) : (Cond.arrayOver (.object RX1)).before args s = true)
  obtain ⟨p4, c4, k4, f1, -, f2, f3, f4⟩ := Cond.arrayOver_spec (hts _ (tq1 194 rfl) : (Cond.arrayOver (.object RX2)).before args s = true)
  refine ⟨fun k => (z k).1, fun k => (z k).2, fun t => if t = 0 then c0 else if t = 1 then c1 else if t = 2 then c2 else if t = 3 then c3 else c4, fun k q hq => hz k q hq, ?_⟩
  intro k q hk
  match k, hk with
  | 0, hk => cases hk; exact ⟨fun _ _ => ⟨fun _ h => (by cases h), k0, a2, p0, a3⟩, a1⟩
  | 1, hk => cases hk; exact ⟨fun _ _ => ⟨fun _ h => (by cases h), k1, b2, p1, b3⟩, b1⟩
  | 2, hk => cases hk; exact ⟨fun _ _ => ⟨fun _ h => (by cases h), k2, d2, p2, d3⟩, d1⟩
  | 3, hk => cases hk; exact ⟨fun _ _ => ⟨fun _ h => (by cases h), k3, e2, p3, e3⟩, k3, p3, e2, e3, e1, e4⟩
  | 4, hk => cases hk; exact ⟨fun _ _ => ⟨fun _ h => (by cases h), k4, f2, p4, f3⟩, k4, p4, f2, f3, f1, f4⟩
  | k + 5, hk => simp [ab_ty] at hk
def st_tm (i : Nat) : Term := .string RX5 (ab_str.getD i (0, "")).1
set_option maxRecDepth 100000 in
set_option maxHeartbeats 4000000 in
/-- the texts -/
theorem st_S {s : State} {args : Array Value} {A : Nat → Prop} (hgv : (Jvm.Cond.and given_1 narrow_1).before args s = true) (hA : ∀ a : Nat, a < s.heap.size → ¬ A a) : ∃ adK adV : Nat → Nat, vk_S 7 ab_len ab_byt adK adV A s s.heap ∧ ∀ i : Nat, i < 7 → (st_tm i).eval args s none [] s = some (.ref (adK i)) := by
  have hs := flat_of_before _ hgv
  refine vk_Sof (tm := st_tm) (by decide) ?_ ?_ ?_ ?_ ?_ ?_ hA
  · intro i hi
    match i, hi with
    | 0, _ => exact hs _ (by decide +kernel)
    | 1, _ => exact hs _ (by decide +kernel)
    | 2, _ => exact hs _ (by decide +kernel)
    | 3, _ => exact hs _ (by decide +kernel)
    | 4, _ => exact hs _ (by decide +kernel)
    | 5, _ => exact hs _ (by decide +kernel)
    | 6, _ => exact hs _ (by decide +kernel)
    | i + 7, h => exact absurd h (by omega)
  · intro i hi
    match i, hi with
    | 0, _ => exact hs _ (by decide +kernel)
    | 1, _ => exact hs _ (by decide +kernel)
    | 2, _ => exact hs _ (by decide +kernel)
    | 3, _ => exact hs _ (by decide +kernel)
    | 4, _ => exact hs _ (by decide +kernel)
    | 5, _ => exact hs _ (by decide +kernel)
    | 6, _ => exact hs _ (by decide +kernel)
    | i + 7, h => exact absurd h (by omega)
  · intro i hi
    match i, hi with
    | 0, _ => exact hs _ (by decide +kernel)
    | 1, _ => exact hs _ (by decide +kernel)
    | 2, _ => exact hs _ (by decide +kernel)
    | 3, _ => exact hs _ (by decide +kernel)
    | 4, _ => exact hs _ (by decide +kernel)
    | 5, _ => exact hs _ (by decide +kernel)
    | 6, _ => exact hs _ (by decide +kernel)
    | i + 7, h => exact absurd h (by omega)
  · intro i hi
    match i, hi with
    | 0, _ => exact hs _ (by decide +kernel)
    | 1, _ => exact hs _ (by decide +kernel)
    | 2, _ => exact hs _ (by decide +kernel)
    | 3, _ => exact hs _ (by decide +kernel)
    | 4, _ => exact hs _ (by decide +kernel)
    | 5, _ => exact hs _ (by decide +kernel)
    | 6, _ => exact hs _ (by decide +kernel)
    | i + 7, h => exact absurd h (by omega)
  · intro i hi j hj
    match i, hi with
    | 0, _ =>
      match j, hj with
      | 0, _ => exact hs _ (by decide +kernel)
      | 1, _ => exact hs _ (by decide +kernel)
      | 2, _ => exact hs _ (by decide +kernel)
      | 3, _ => exact hs _ (by decide +kernel)
      | 4, _ => exact hs _ (by decide +kernel)
      | 5, _ => exact hs _ (by decide +kernel)
      | j + 6, h => exact absurd h (show ¬ j + 6 < 6 by omega)
    | 1, _ =>
      match j, hj with
      | 0, _ => exact hs _ (by decide +kernel)
      | 1, _ => exact hs _ (by decide +kernel)
      | 2, _ => exact hs _ (by decide +kernel)
      | 3, _ => exact hs _ (by decide +kernel)
      | j + 4, h => exact absurd h (show ¬ j + 4 < 4 by omega)
    | 2, _ =>
      match j, hj with
      | 0, _ => exact hs _ (by decide +kernel)
      | 1, _ => exact hs _ (by decide +kernel)
      | 2, _ => exact hs _ (by decide +kernel)
      | 3, _ => exact hs _ (by decide +kernel)
      | j + 4, h => exact absurd h (show ¬ j + 4 < 4 by omega)
    | 3, _ =>
      match j, hj with
      | 0, _ => exact hs _ (by decide +kernel)
      | 1, _ => exact hs _ (by decide +kernel)
      | 2, _ => exact hs _ (by decide +kernel)
      | 3, _ => exact hs _ (by decide +kernel)
      | j + 4, h => exact absurd h (show ¬ j + 4 < 4 by omega)
    | 4, _ =>
      match j, hj with
      | 0, _ => exact hs _ (by decide +kernel)
      | 1, _ => exact hs _ (by decide +kernel)
      | 2, _ => exact hs _ (by decide +kernel)
      | 3, _ => exact hs _ (by decide +kernel)
      | j + 4, h => exact absurd h (show ¬ j + 4 < 4 by omega)
    | 5, _ =>
      match j, hj with
      | 0, _ => exact hs _ (by decide +kernel)
      | 1, _ => exact hs _ (by decide +kernel)
      | 2, _ => exact hs _ (by decide +kernel)
      | 3, _ => exact hs _ (by decide +kernel)
      | j + 4, h => exact absurd h (show ¬ j + 4 < 4 by omega)
    | 6, _ =>
      match j, hj with
      | 0, _ => exact hs _ (by decide +kernel)
      | 1, _ => exact hs _ (by decide +kernel)
      | 2, _ => exact hs _ (by decide +kernel)
      | 3, _ => exact hs _ (by decide +kernel)
      | 4, _ => exact hs _ (by decide +kernel)
      | j + 5, h => exact absurd h (show ¬ j + 5 < 5 by omega)
    | i + 7, h => exact absurd h (by omega)
  · intro i j hi hj hij
    match i, j, hi, hj, hij with
    | 0, 0, _, _, h => exact absurd rfl h
    | 0, 1, _, _, _ => exact Or.inl (hs _ (by decide +kernel))
    | 0, 2, _, _, _ => exact Or.inl (hs _ (by decide +kernel))
    | 0, 3, _, _, _ => exact Or.inl (hs _ (by decide +kernel))
    | 0, 4, _, _, _ => exact Or.inl (hs _ (by decide +kernel))
    | 0, 5, _, _, _ => exact Or.inl (hs _ (by decide +kernel))
    | 0, 6, _, _, _ => exact Or.inl (hs _ (by decide +kernel))
    | 1, 0, _, _, _ => exact Or.inr (hs _ (by decide +kernel))
    | 1, 1, _, _, h => exact absurd rfl h
    | 1, 2, _, _, _ => exact Or.inl (hs _ (by decide +kernel))
    | 1, 3, _, _, _ => exact Or.inl (hs _ (by decide +kernel))
    | 1, 4, _, _, _ => exact Or.inl (hs _ (by decide +kernel))
    | 1, 5, _, _, _ => exact Or.inl (hs _ (by decide +kernel))
    | 1, 6, _, _, _ => exact Or.inl (hs _ (by decide +kernel))
    | 2, 0, _, _, _ => exact Or.inr (hs _ (by decide +kernel))
    | 2, 1, _, _, _ => exact Or.inr (hs _ (by decide +kernel))
    | 2, 2, _, _, h => exact absurd rfl h
    | 2, 3, _, _, _ => exact Or.inl (hs _ (by decide +kernel))
    | 2, 4, _, _, _ => exact Or.inl (hs _ (by decide +kernel))
    | 2, 5, _, _, _ => exact Or.inl (hs _ (by decide +kernel))
    | 2, 6, _, _, _ => exact Or.inl (hs _ (by decide +kernel))
    | 3, 0, _, _, _ => exact Or.inr (hs _ (by decide +kernel))
    | 3, 1, _, _, _ => exact Or.inr (hs _ (by decide +kernel))
    | 3, 2, _, _, _ => exact Or.inr (hs _ (by decide +kernel))
    | 3, 3, _, _, h => exact absurd rfl h
    | 3, 4, _, _, _ => exact Or.inl (hs _ (by decide +kernel))
    | 3, 5, _, _, _ => exact Or.inl (hs _ (by decide +kernel))
    | 3, 6, _, _, _ => exact Or.inl (hs _ (by decide +kernel))
    | 4, 0, _, _, _ => exact Or.inr (hs _ (by decide +kernel))
    | 4, 1, _, _, _ => exact Or.inr (hs _ (by decide +kernel))
    | 4, 2, _, _, _ => exact Or.inr (hs _ (by decide +kernel))
    | 4, 3, _, _, _ => exact Or.inr (hs _ (by decide +kernel))
    | 4, 4, _, _, h => exact absurd rfl h
    | 4, 5, _, _, _ => exact Or.inl (hs _ (by decide +kernel))
    | 4, 6, _, _, _ => exact Or.inl (hs _ (by decide +kernel))
    | 5, 0, _, _, _ => exact Or.inr (hs _ (by decide +kernel))
    | 5, 1, _, _, _ => exact Or.inr (hs _ (by decide +kernel))
    | 5, 2, _, _, _ => exact Or.inr (hs _ (by decide +kernel))
    | 5, 3, _, _, _ => exact Or.inr (hs _ (by decide +kernel))
    | 5, 4, _, _, _ => exact Or.inr (hs _ (by decide +kernel))
    | 5, 5, _, _, h => exact absurd rfl h
    | 5, 6, _, _, _ => exact Or.inl (hs _ (by decide +kernel))
    | 6, 0, _, _, _ => exact Or.inr (hs _ (by decide +kernel))
    | 6, 1, _, _, _ => exact Or.inr (hs _ (by decide +kernel))
    | 6, 2, _, _, _ => exact Or.inr (hs _ (by decide +kernel))
    | 6, 3, _, _, _ => exact Or.inr (hs _ (by decide +kernel))
    | 6, 4, _, _, _ => exact Or.inr (hs _ (by decide +kernel))
    | 6, 5, _, _, _ => exact Or.inr (hs _ (by decide +kernel))
    | 6, 6, _, _, h => exact absurd rfl h
    | i + 7, j, h, _, _ => exact absurd h (by omega)
    | i, j + 7, _, h, _ => exact absurd h (by omega)
set_option maxRecDepth 100000 in
set_option maxHeartbeats 4000000 in
/-- what nobody writes, at the start -/
theorem st_X {s : State} {b : Nat} {A : Nat → Prop} (hts : ∀ w ∈ lw_tbl, w.before #[Value.ref b] s = true) (hgv : (Jvm.Cond.and given_1 narrow_1).before #[Value.ref b] s = true) (hA : ∀ a : Nat, a < s.heap.size → ¬ A a) : ∃ sk : Nat → Option Nat, sk 16 = some b ∧ SX sk A s s.heap := by
  have hs := flat_of_before _ hgv
  obtain ⟨adK, adV, hS, hE⟩ := st_S (A := A) hgv hA
  obtain ⟨t, ht, hT⟩ := va_Tof (tm := .static RX6 "FACTORIAL" "[I") (ty := .int) (N := 6) (f := fun j => .int (ab_fac j)) (A := A) (by decide) (hs _ (by decide +kernel)) (va_eqt (hs _ (by decide +kernel))) (fun j hj => by
    match j, hj with
    | 0, _ => exact va_eqt (hs _ (by decide +kernel))
    | 1, _ => exact va_eqt (hs _ (by decide +kernel))
    | 2, _ => exact va_eqt (hs _ (by decide +kernel))
    | 3, _ => exact va_eqt (hs _ (by decide +kernel))
    | 4, _ => exact va_eqt (hs _ (by decide +kernel))
    | 5, _ => exact va_eqt (hs _ (by decide +kernel))
    | j + 6, h => exact absurd h (by omega)) hA
  have hZ := va_Zref (A := A) (hts _ (tq3 99 rfl)) (hts _ (tq1 1 rfl)) ht hA
  have hC : va_Z "java/lang/String" "COMPACT_STRINGS" "Z" (.int 1) A s s.heap := va_Zof (hts _ (tq2 68 rfl)) (hts _ (tq1 9 rfl)) (va_eqi (hs _ (by decide +kernel))) hA
  have hP : va_Zq "jdk/internal/util/Preconditions" "SIOOBE_FORMATTER" "Ljava/util/function/BiFunction;" A s s.heap := va_Zqof (hts _ (tq2 84 rfl)) (hts _ (tq1 11 rfl)) (hs _ (by decide +kernel)) hA
  obtain ⟨q, hq⟩ : ∃ q : Option Nat, va_Z "jdk/internal/util/Preconditions" "SIOOBE_FORMATTER" "Ljava/util/function/BiFunction;" (va_rf q) A s s.heap := by
    rcases hP with h | ⟨t, h⟩
    · exact ⟨none, h⟩
    · exact ⟨some t, h⟩
  refine ⟨fun k => if k < 7 then some (adK k) else if k = 7 then some t else if k < 15 then some (adV (k - 8)) else if k = 15 then q else some b, rfl, fun w hw hn => ?_, ⟨adK, adV, fun i hi => ⟨?_, ?_, vk_R.of ?_ (hE i hi)⟩, hS⟩, hC, ⟨t, rfl, hZ, hT⟩, hq, hts _ (tq1 171 rfl), hts _ (tq1 194 rfl)⟩
  · cases w <;> first | (simp [ab_isN] at hn; done) | exact va_Nw.of rfl (hts _ hw)
  · show (if i < 7 then some (adK i) else _) = _
    rw [if_pos hi]
  · show (if 8 + i < 7 then _ else if 8 + i = 7 then _ else if 8 + i < 15 then some (adV (8 + i - 8)) else _) = _
    rw [if_neg (by omega), if_neg (by omega), if_pos (by omega), Nat.add_sub_cancel_left]
  · match i, hi with
    | 0, _ => exact hts _ (tq2 54 rfl)
    | 1, _ => exact hts _ (tq2 107 rfl)
    | 2, _ => exact hts _ (tq2 108 rfl)
    | 3, _ => exact hts _ (tq2 109 rfl)
    | 4, _ => exact hts _ (tq2 110 rfl)
    | 5, _ => exact hts _ (tq2 111 rfl)
    | 6, _ => exact hts _ (tq2 112 rfl)
    | i + 7, h => exact absurd h (by omega)
set_option maxRecDepth 100000 in
set_option maxHeartbeats 4000000 in
theorem start_open {p : Program} {e : Env} {s : State} {m : MethodId} {below : List Frame} {meth : Method} {c : Code} (l : Launch) {b L : Nat} {xs : Nat → Int32} (hL : L ≤ 320) (C0 : lw_At p s m meth c b L xs) {Rl : (Nat → Nat → Int32) → (Nat → Nat → Int32) → Prop}
    (E_feed : ∀ (u v : Nat → Nat → Int32) (a1 : Int32), Rl u v → ∃ (r : Int32) (u2 : Nat → Nat → Int32) (v2 : Nat → Nat → Int32), d_F_feed u a1 = some (r, u2) ∧ d_M_feed v a1 = some (r, v2) ∧ Rl u2 v2)
    (E_end : ∀ (u v : Nat → Nat → Int32) (a1 : Int32), Rl u v → ∃ (r : Int32) (u2 : Nat → Nat → Int32) (v2 : Nat → Nat → Int32), d_F_end u a1 = some (r, u2) ∧ d_M_end v a1 = some (r, v2) ∧ Rl u2 v2)
    (E_text : ∀ (u v : Nat → Nat → Int32), Rl u v → ∃ (r : Int32) (u2 : Nat → Nat → Int32) (v2 : Nat → Nat → Int32), d_F_text u = some (r, u2) ∧ d_M_text v = some (r, v2) ∧ Rl u2 v2)
    (E_fault : ∀ (u v : Nat → Nat → Int32), Rl u v → ∃ (r : Int32), d_F_fault u = some r ∧ d_M_fault v = some r ∧ Rl u v)
    (E_rule : ∀ (u v : Nat → Nat → Int32) (a1 : Int32), Rl u v → ∃ (r : Int32) (v2 : Nat → Nat → Int32), d_F_rule u a1 = some r ∧ d_M_rule v a1 = some (r, v2) ∧ Rl u v2)
    (E_house : ∀ (u v : Nat → Nat → Int32) (a1 a2 : Int32), Rl u v → ∃ (r : Int32), d_F_house u a1 a2 = some r ∧ d_M_house v a1 a2 = some r ∧ Rl u v)
    (E_alter : ∀ (u v : Nat → Nat → Int32) (a1 a2 a3 : Int32), Rl u v → ∃ (r : Int32) (u2 : Nat → Nat → Int32) (v2 : Nat → Nat → Int32), d_F_alter u a1 a2 a3 = some (r, u2) ∧ d_M_alter v a1 a2 a3 = some (r, v2) ∧ Rl u2 v2)
    (E_set : ∀ (u v : Nat → Nat → Int32) (a1 a2 : Int32), Rl u v → ∃ (r : Int32) (u2 : Nat → Nat → Int32) (v2 : Nat → Nat → Int32), d_F_set u a1 a2 = some (r, u2) ∧ d_M_set v a1 a2 = some (r, v2) ∧ Rl u2 v2)
    (E_rain : ∀ (u v : Nat → Nat → Int32) (a1 a2 : Int32), Rl u v → (a2 = 0 ∨ a2 = 1) → ∃ (r : Int32) (u2 : Nat → Nat → Int32) (v2 : Nat → Nat → Int32), d_F_rain u a1 a2 = some (r, u2) ∧ d_M_rain v a1 a2 = some (r, v2) ∧ Rl u2 v2)
    (E_offer : ∀ (u v : Nat → Nat → Int32) (a1 a2 : Int32), Rl u v → ∃ (r : Int32) (u2 : Nat → Nat → Int32) (v2 : Nat → Nat → Int32), d_F_offer u a1 a2 = some (r, u2) ∧ d_M_offer v a1 a2 = some (r, v2) ∧ Rl u2 v2)
    (E_go : ∀ (u v : Nat → Nat → Int32) (a1 : Int32), Rl u v → ∃ (r : Int32) (u2 : Nat → Nat → Int32) (v2 : Nat → Nat → Int32), d_F_go u a1 = some (r, u2) ∧ d_M_go v a1 = some (r, v2) ∧ Rl u2 v2)
    (E_runs : ∀ (u v : Nat → Nat → Int32) (a1 a2 : Int32), Rl u v → ∃ (r : Int32) (u2 : Nat → Nat → Int32) (v2 : Nat → Nat → Int32), d_F_runs u a1 a2 = some (r, u2) ∧ d_M_runs v a1 a2 = some (r, v2) ∧ Rl u2 v2)
    (E_ahead : ∀ (u v : Nat → Nat → Int32) (a1 a2 : Int32), Rl u v → ∃ (r : Int32) (u2 : Nat → Nat → Int32) (v2 : Nat → Nat → Int32), d_F_ahead u a1 a2 = some (r, u2) ∧ d_M_ahead v a1 a2 = some (r, v2) ∧ Rl u2 v2)
    (E_bare : ∀ (u v : Nat → Nat → Int32) (a1 : Int32), Rl u v → ∃ (r : Int32) (u2 : Nat → Nat → Int32) (v2 : Nat → Nat → Int32), d_F_bare u a1 = some (r, u2) ∧ d_M_bare v a1 = some (r, v2) ∧ Rl u2 v2)
    (E_best : ∀ (u v : Nat → Nat → Int32) (a1 a2 : Int32), Rl u v → ∃ (r : Int32) (u2 : Nat → Nat → Int32) (v2 : Nat → Nat → Int32), d_F_best u a1 a2 = some (r, u2) ∧ d_M_best v a1 a2 = some (r, v2) ∧ Rl u2 v2)
    (E_change : ∀ (u v : Nat → Nat → Int32) (a1 a2 : Int32), Rl u v → ∃ (r : Int32) (u2 : Nat → Nat → Int32) (v2 : Nat → Nat → Int32), d_F_change u a1 a2 = some (r, u2) ∧ d_M_change v a1 a2 = some (r, v2) ∧ Rl u2 v2)
    (E_cooks : ∀ (u v : Nat → Nat → Int32) (a1 a2 : Int32), Rl u v → ∃ (r : Int32) (u2 : Nat → Nat → Int32) (v2 : Nat → Nat → Int32), d_F_cooks u a1 a2 = some (r, u2) ∧ d_M_cooks v a1 a2 = some (r, v2) ∧ Rl u2 v2)
    (E_appease : ∀ (u v : Nat → Nat → Int32) (a1 a2 : Int32), Rl u v → ∃ (r : Int32) (u2 : Nat → Nat → Int32) (v2 : Nat → Nat → Int32), d_F_appease u a1 a2 = some (r, u2) ∧ d_M_appease v a1 a2 = some (r, v2) ∧ Rl u2 v2)
    (E_pray : ∀ (u v : Nat → Nat → Int32) (a1 : Int32), Rl u v → ∃ (r : Int32) (u2 : Nat → Nat → Int32) (v2 : Nat → Nat → Int32), d_F_pray u a1 = some (r, u2) ∧ d_M_pray v a1 = some (r, v2) ∧ Rl u2 v2)
    (E_value : ∀ (u v : Nat → Nat → Int32) (a1 a2 : Int32), Rl u v → ∃ (r : Int32) (u2 : Nat → Nat → Int32) (v2 : Nat → Nat → Int32), d_F_value u a1 a2 = some (r, u2) ∧ d_M_value v a1 a2 = some (r, v2) ∧ Rl u2 v2)
    (E_share : ∀ (u v : Nat → Nat → Int32) (a1 a2 a3 : Int32), Rl u v → ∃ (r : Int64) (u2 : Nat → Nat → Int32) (v2 : Nat → Nat → Int32), d_F_share u a1 a2 a3 = some (r, u2) ∧ d_M_share v a1 a2 a3 = some (r, v2) ∧ Rl u2 v2)
    (E_luck : ∀ (u v : Nat → Nat → Int32) (w : Nat → Int64) (a1 a2 a3 : Int32), Rl u v → ∃ (r : Int64) (u2 : Nat → Nat → Int32) (v2 : Nat → Nat → Int32) (w2 : Nat → Int64), d_F_luck u a1 a2 a3 = some (r, u2) ∧ d_M_luck v w a1 a2 a3 = some (r, v2, w2) ∧ Rl u2 v2)
    (E_mean : ∀ (u v : Nat → Nat → Int32) (w : Nat → Int64) (a1 a2 a3 : Int32), Rl u v → ∃ (r : Int64) (u2 : Nat → Nat → Int32) (v2 : Nat → Nat → Int32) (w2 : Nat → Int64), d_F_mean u a1 a2 a3 = some (r, u2) ∧ d_M_mean v w a1 a2 a3 = some (r, v2, w2) ∧ Rl u2 v2)
    (E_see : ∀ (u v : Nat → Nat → Int32) (a1 a2 a3 : Int32), Rl u v → ∃ (r : Int32) (u2 : Nat → Nat → Int32) (v2 : Nat → Nat → Int32), d_F_see u a1 a2 a3 = some (r, u2) ∧ d_M_see v a1 a2 a3 = some (r, v2) ∧ Rl u2 v2)
    (E_forget : ∀ (u v : Nat → Nat → Int32) (a1 : Int32), Rl u v → ∃ (r : Int32) (u2 : Nat → Nat → Int32) (v2 : Nat → Nat → Int32), d_F_forget u a1 = some (r, u2) ∧ d_M_forget v a1 = some (r, v2) ∧ Rl u2 v2)
    (E_fits : ∀ (u v : Nat → Nat → Int32) (a1 : Int32), Rl u v → ∃ (r : Int32) (u2 : Nat → Nat → Int32) (v2 : Nat → Nat → Int32), d_F_fits u a1 = some (r, u2) ∧ d_M_fits v a1 = some (r, v2) ∧ Rl u2 v2)
    (E_look : ∀ (u v : Nat → Nat → Int32) (a1 : Int32), Rl u v → ∃ (r : Int32) (u2 : Nat → Nat → Int32) (v2 : Nat → Nat → Int32), d_F_look u a1 = some (r, u2) ∧ d_M_look v a1 = some (r, v2) ∧ Rl u2 v2)
    (E_drift : ∀ (u v : Nat → Nat → Int32) (a1 a2 a3 : Int32), Rl u v → ∃ (r : Int32) (u2 : Nat → Nat → Int32) (v2 : Nat → Nat → Int32), d_F_drift u a1 a2 a3 = some (r, u2) ∧ d_M_drift v a1 a2 a3 = some (r, v2) ∧ Rl u2 v2)
    (E_keep : ∀ (u v : Nat → Nat → Int32) (a1 : Int32), Rl u v → ∃ (r : Int32) (u2 : Nat → Nat → Int32) (v2 : Nat → Nat → Int32), d_F_keep u a1 = some (r, u2) ∧ d_M_keep v a1 = some (r, v2) ∧ Rl u2 v2)
    (E_back : ∀ (u v : Nat → Nat → Int32) (a1 : Int32), Rl u v → ∃ (r : Int32) (u2 : Nat → Nat → Int32) (v2 : Nat → Nat → Int32), d_F_back u a1 = some (r, u2) ∧ d_M_back v a1 = some (r, v2) ∧ Rl u2 v2)
    (E_sheet : ∀ (u v : Nat → Nat → Int32) (a1 a2 a3 : Int32), Rl u v → ∃ (r : Int32) (u2 : Nat → Nat → Int32) (v2 : Nat → Nat → Int32), d_F_sheet u a1 a2 a3 = some (r, u2) ∧ d_M_sheet v a1 a2 a3 = some (r, v2) ∧ Rl u2 v2)
    (E_lay : ∀ (u v : Nat → Nat → Int32) (a1 a2 a3 : Int32), Rl u v → ∃ (r : Int32) (u2 : Nat → Nat → Int32) (v2 : Nat → Nat → Int32), d_F_lay u a1 a2 a3 = some (r, u2) ∧ d_M_lay v a1 a2 a3 = some (r, v2) ∧ Rl u2 v2)
    (E_read : ∀ (u v : Nat → Nat → Int32) (a1 a2 a3 a4 : Int32), Rl u v → ∃ (r : Int32) (u2 : Nat → Nat → Int32) (v2 : Nat → Nat → Int32), d_F_read u a1 a2 a3 a4 = some (r, u2) ∧ d_M_read v a1 a2 a3 a4 = some (r, v2) ∧ Rl u2 v2)
    (E_torn : ∀ (u v : Nat → Nat → Int32), Rl u v → ∃ (r : Int32), d_F_torn u = some r ∧ d_M_torn v = some r ∧ Rl u v)
    (E_count : ∀ (u v : Nat → Nat → Int32) (a1 : Int32), Rl u v → ∃ (r : Int32) (v2 : Nat → Nat → Int32), d_F_count u a1 = some r ∧ d_M_count v a1 = some (r, v2) ∧ Rl u v2)
    {r1 r2 : Nat → Nat → Int32} (h1 : d_M_firstDraft ui_M = some r1) (h2 : d_M_keepDraft r1 = some r2) (hR : Rl ui_F r2) : W p l e room_1 s m #[Value.ref b] below meth c s.heap [] 0 0 (lw_Z below #[Value.ref b] s) (entryFrame m ([Value.ref b] : List Value).toArray 4) := by
  obtain ⟨hx, hb, hr, hml, hown, hts, hX, hbl, hlocks, hgv⟩ := C0
  obtain ⟨dC, dI, ac, hK⟩ := st_K hts
  obtain ⟨sk, hsk, hSX⟩ := st_X (A := fun q : Nat => s.heap.size ≤ q) hts hgv (fun a ha => by show ¬ s.heap.size ≤ a; omega)
  have hV := law_entry (nm := meth.name) (xs := xs) hL E_feed E_end E_text E_fault E_rule E_house E_alter E_set E_rain E_offer E_go E_runs E_ahead E_bare E_best E_change E_cooks E_appease E_pray E_value E_share E_luck E_mean E_see E_forget E_fits E_look E_drift E_keep E_back E_sheet E_lay E_read E_torn E_count h1 h2 hR
  have hl := lv_entry ([Value.ref b]) (n := 4) (Nat.le_of_ble_eq_true rfl)
  rw [lg_entry_eq]
  have e1 : xv (fun _ => 0) sk (.retAddr 16) = .ref b := by show va_rf (sk 16) = _; rw [hsk]; rfl
  refine hV p l e s m #[Value.ref b] below meth c dC dI ac sk (fun q : Nat => s.heap.size ≤ q) (fun _ => 0) 0 (lw_Z below #[Value.ref b] s) ⟨⟨hx, hb, hr, hml, hown, fun w hw => hts w (List.mem_filter.mp hw).1, hlocks, rfl⟩, fun _ h => h, hSX, hK, ?_, ⟨b, hsk, hX, hbl, Nat.not_le.mpr hbl⟩⟩ (fun _ => 0) s.heap [] _ ⟨⟨Nat.le_refl _, fun _ h => absurd h (Nat.not_lt_zero _), fun _ => rfl⟩, fun k q h => by simp [xw] at h, ⟨fun i j x y h => by simp [xw] at h, fun k q h => by simp [xw] at h⟩, va_S.rf, ?_⟩
  · intro ad H locs ls v ins h pcr hv hret hdec N
    rcases hret with ⟨r1, hv2, -⟩ | ⟨ty, x, -, hv2, rfl, -⟩ | ⟨-, x, hv2, -⟩ | ⟨t, x, -, hv2, -⟩
    · rw [hv] at hv2; cases hv2
    · rw [hv] at hv2
      have hx1 : x = 1 := by cases hv2; rfl
      rw [hv]
      exact va_forget (fun q hq => N.2.2.2.1.2.2 q hq) (lw_ret hx hb hr hlocks hdec)
    · rw [hv] at hv2; cases hv2
    · rw [hv] at hv2; cases hv2
  · show lv_has _ 4 [(0, xv (fun _ => 0) sk (.retAddr 16))]
    rw [e1]
    exact hl
