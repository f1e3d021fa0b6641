/-! PURE: a whole line -/
theorem needs_f {w : Nat → Nat → Int32} (h : 0 < w 0 16) (a x : Int32) : d_M_needs w a x = some w := by
  have n : ¬ w 0 16 = 0 := fun z => by rw [z] at h; revert h; decide
  unfold d_M_needs
  rw [if_neg n, ite_self]
theorem bad119 {w : Nat → Nat → Int32} (h : 0 < w 0 16) (x : Int32) {f : Int32} (hf : f = 0 ∨ f = 1) : d_M_readLine_119 w x f = some (pw w 0 6 f) := by
  unfold d_M_readLine_119
  rw [if_pos hf, M_next_f (by rw [w_n (by omega)]; exact h), Option.bind_some, if_neg (Int32.not_le.mpr (by rw [w_n (by omega)]; exact h))]
theorem bad97 {w : Nat → Nat → Int32} (h : 0 < w 0 16) (x s : Int32) : ∃ f, d_M_readLine_97 w x s = some (pw w 0 6 f) := by
  unfold d_M_readLine_97 d_M_readLine_114
  rw [needs_f h, Option.bind_some, bad119 h x (Or.inr rfl), bad119 h x (Or.inl rfl)]
  by_cases q : w 0 6 = 0
  · rw [if_pos q]
    by_cases q2 : x = 4
    · rw [if_pos q2]; exact ⟨_, rfl⟩
    · rw [if_neg q2]; exact ⟨_, rfl⟩
  · rw [if_neg q]; exact ⟨_, rfl⟩
theorem bad75 {w : Nat → Nat → Int32} (h : 0 < w 0 16) (x s : Int32) : ∃ f, d_M_readLine_75 w x s = some (pw w 0 6 f) := by
  unfold d_M_readLine_75 d_M_readLine_92
  rw [needs_f h, Option.bind_some]
  by_cases q : x = 4
  · rw [if_pos q]
    by_cases q2 : w 0 6 = 0
    · rw [if_pos q2]; exact bad97 h x 1
    · rw [if_neg q2]; exact bad97 h x 0
  · rw [if_neg q]; exact bad97 h x 1
theorem ok75 {v : Nat → Nat → Int32} {x : Int32} (hx : ¬ x = 4) (h6 : v 0 6 = 0 ∨ v 0 6 = 1) : d_M_readLine_75 v x 1 = d_M_readLine_119 v x (v 0 6) := by
  unfold d_M_readLine_75 d_M_readLine_92 d_M_readLine_97 d_M_readLine_114
  rw [M_needs1, Option.bind_some, if_neg hx, M_needs1, Option.bind_some, if_neg hx]
  rcases h6 with q | q
  · rw [q, if_pos rfl]
  · rw [q, if_neg (by decide)]
theorem k4_ {b : Nat → Nat} {t p : Nat} {r v : Nat → Nat → Int32} (B : BT b t) (hT : TP b t (sh r 1)) (h7 : r 0 7 = 0) (h1 : r 1 1 = nI p) (hp : p ≤ t) (hk : TKN b t (tS b t p) v) (k4 : tK b t (tS b t p) = 4) {lo hi : Nat} (hlo : lo ≤ 99) (hhi : hi ≤ 99) : ∃ x r1, d_R_takeNumber r (nI lo) (nI hi) = some (x, r1) ∧ FLT r1 v ∧ RO r r1 := by
  obtain ⟨m1, m2⟩ := hk.2.2.1 k4
  have hl : d_M_looked v (nI lo) (nI hi) = some (0, v) := by
    unfold d_M_looked d_M_looked_25 d_M_looked_49
    rw [m1, if_neg (by decide), if_neg (by decide), if_neg (by decide)]
  rcases look_ B hT h7 h1 hp hk hlo hhi with ⟨x, y, r', v', a1, a2, a3, a4, a5⟩ | ⟨n, r', a1, a2, a3, a4, a5, a6, a7, a8⟩
  · rw [hl] at a2
    have e := (Prod.mk.inj (Option.some.inj a2)).2
    rw [← e] at a3
    exact ⟨x, r', a1, a3, a4⟩
  · rw [m1] at a7
    exact absurd a7 (by decide)
theorem comb {b : Nat → Nat} {t e : Nat} {r v : Nat → Nat → Int32} {f x : Int32} {X : Option (Nat → Nat → Int32)} (B : BT b t) (hM : MP b t v) (h16 : v 0 16 = 0) (h12 : v 0 12 = nI e) (he : e ≤ t) (hf : f = 0 ∨ f = 1) (h4 : ∀ v1, TKN b t (tS b t e) v1 → tK b t (tS b t e) = 4 → ∃ r', X = some r' ∧ FLT r' v1) (hX : ∀ v1, MO (pw v 0 6 f) v1 → TKN b t (tS b t e) v1 → LR b t e r v (X.bind d_R_takeLine_82) ((d_M_readLineOf v1 x).bind stp)) : LR b t e r v (X.bind d_R_takeLine_82) (d_M_readLine_119 v x f) := by
  obtain ⟨v1, n1, n2, n3⟩ := M_next_ (p := e) B (hM.mf (MF.w (j := 6) (x := f) (by omega) (by omega) (by omega))) (by rw [w_n (by omega)]; exact h12) (by rw [w_n (by omega)]; exact h16) he
  have e119 : d_M_readLine_119 v x f = if v1 0 16 ≤ 0 then (d_M_readLineOf v1 x).bind stp else some v1 := by
    unfold d_M_readLine_119
    rw [if_pos hf, n1, Option.bind_some]
    rfl
  rw [e119]
  by_cases q : tK b t (tS b t e) = 4
  · obtain ⟨r', x1, x2⟩ := h4 v1 n3 q
    obtain ⟨m1, m2⟩ := n3.2.2.1 q
    rw [x1, Option.bind_some, (stop_f x2).1, m1, if_neg (by decide)]
    exact Or.inl ⟨r', v1, rfl, rfl, x2, (MF.w (by omega) (by omega) (by omega)).tr n2.mf⟩
  · obtain ⟨m1, m2⟩ := n3.2.2.2 q
    rw [m1, if_pos (by decide)]
    exact hX v1 n2 n3
theorem line_7 {b : Nat → Nat} {t e s k : Nat} {r v : Nat → Nat → Int32} (h7 : r 0 7 = 0) (h13 : r 1 3 = nI s) (v16 : v 0 16 = 0) (v13 : v 0 13 = nI s) (hk : k ≤ 3) : LR b t e r v (d_R_takeLine_14 r (nI k) 7) (d_M_readLine_17 v (-4)) := by
  left
  unfold d_R_takeLine_14 d_M_readLine_17 d_M_readLine_30
  rw [if_neg (by decide), if_neg (by decide), if_neg (by decide), if_pos rfl, refuse h7 h13 (by omega), if_neg (show ¬ k = 4 by omega), if_pos rfl, M_needs0 v16, Option.bind_some, Option.bind_some, if_neg (by decide), if_neg (by decide)]
  have hp : 0 < pw (pw v 0 16 2) 0 17 (v 0 13) 0 16 := by rw [w16]; decide
  have fl : FLT (pw (pw r 0 7 2) 0 8 (nI s)) (pw (pw v 0 16 2) 0 17 (v 0 13)) := FLT.mk (a := 2) (x := nI s) (by decide) w7 w_s w16 (by rw [w_s]; exact v13)
  have fin : ∀ f, FLT (pw (pw r 0 7 2) 0 8 (nI s)) (pw (pw (pw v 0 16 2) 0 17 (v 0 13)) 0 6 f) := fun f => fl.cg rfl rfl (w_n (by omega)) (w_n (by omega))
  have mf : ∀ f, MF v (pw (pw (pw v 0 16 2) 0 17 (v 0 13)) 0 6 f) := fun f => mo16.mf.tr (MF.w (by omega) (by omega) (by omega))
  obtain ⟨f1, e1⟩ := bad75 hp (-4) 0
  obtain ⟨f2, e2⟩ := bad75 hp (-4) 1
  unfold d_M_readLine_70
  rw [e1, e2, (stop_f fl).1]
  by_cases q : (5 : Int32) ≤ pw (pw v 0 16 2) 0 17 (v 0 13) 0 5
  · rw [if_pos q]; exact ⟨_, _, rfl, rfl, fin _, mf _⟩
  · rw [if_neg q]; exact ⟨_, _, rfl, rfl, fin _, mf _⟩
/-- a fault before the line's numbers -/
theorem line_b {b : Nat → Nat} {t e s : Nat} {r v : Nat → Nat → Int32} (h7 : r 0 7 = 0) (h13 : r 1 3 = nI s) (v16 : v 0 16 = 0) (v13 : v 0 13 = nI s) (c : Int32) (hc : 0 < c) {Y : Option (Nat → Nat → Int32)} (hY : ∃ f, Y = some (pw (pw (pw v 0 16 c) 0 17 (v 0 13)) 0 6 f)) : LR b t e r v (((d_R_fail r c (r 1 3)).bind fun z => some z).bind d_R_takeLine_82) Y := by
  left
  obtain ⟨f, hY⟩ := hY
  have fl : FLT (pw (pw r 0 7 c) 0 8 (r 1 3)) (pw (pw (pw v 0 16 c) 0 17 (v 0 13)) 0 6 f) := FLT.mk (a := c) (x := nI s) hc w7 (by rw [w_s]; exact h13) (by rw [w_n (by omega), w16]) (by rw [w_n (by omega), w_s]; exact v13)
  rw [R_fail_ h7, Option.bind_some, Option.bind_some, (stop_f fl).1]
  exact ⟨_, _, rfl, hY, fl, mo16.mf.tr (MF.w (by omega) (by omega) (by omega))⟩
theorem line_L {b : Nat → Nat} {t e s k L : Nat} {r v : Nat → Nat → Int32} (B : BT b t) (hT : TP b t (sh r 1)) (hM : MP b t v) (h7 : r 0 7 = 0) (h11 : r 1 1 = nI e) (h13 : r 1 3 = nI s) (he : e ≤ t) (v16 : v 0 16 = 0) (v12 : v 0 12 = nI e) (v13 : v 0 13 = nI s) (hk : k ≤ 3) (D : DRx r v) (hL : L ≤ 7) : LR b t e r v (d_R_takeLine_14 r (nI k) (nI L)) (d_M_readLine_17 v (if L = 7 then -4 else nI L)) := by
  have h160 := B.1
  obtain ⟨n, o, g, P, Q, H, D⟩ := D
  have D0 := D
  obtain ⟨d1, d2, d3, d4, d5, d6, d7, d8⟩ := D
  have v6 : v 0 6 = 0 ∨ v 0 6 = 1 := by
    rcases d6 with q | q
    · exact Or.inl q.2.1
    · exact Or.inr q.2.1
  have e34 : r 3 4 = nI n := d1.1
  have bd : ∀ (c x s : Int32), 0 < c → ∃ f, d_M_readLine_75 (pw (pw v 0 16 c) 0 17 (v 0 13)) x s = some (pw (pw (pw v 0 16 c) 0 17 (v 0 13)) 0 6 f) := fun c x s hc => bad75 (by rw [w16]; exact hc) x s
  have Dv : ∀ v1, MO (pw v 0 6 (v 0 6)) v1 → DR r v1 n o g P Q H := fun v1 hm => D0.cg (fun _ _ _ => rfl) (fun _ _ => rfl) (fun c hc => by rw [hm.1 c hc, pw_n _ _ _ hc]) (fun j hj => by
    rw [hm.2 j (by omega)]
    by_cases q : j = 6
    · subst q; rw [w_s]
    · rw [w_n q])
  have Mv : ∀ (f : Int32) v1, MO (pw v 0 6 f) v1 → MF v v1 := fun f v1 hm => (MF.w (by omega) (by omega) (by omega)).tr hm.mf
  by_cases q7 : L = 7
  · subst q7
    rw [if_pos rfl]
    exact line_7 h7 h13 v16 v13 hk
  rw [if_neg q7]
  have nm4 : ¬ nI L = (-4 : Int32) := fun z => by
    rw [qb_eq, nI_toInt (by omega)] at z
    have : (-4 : Int32).toInt = -4 := by decide
    omega
  have r17 : d_M_readLine_17 v (nI L) = d_M_readLine_30 v (nI L) 1 := by
    unfold d_M_readLine_17
    rw [if_neg nm4]
  rw [r17]
  unfold d_R_takeLine_14 d_M_readLine_30
  rw [M_needs1, Option.bind_some]
  by_cases q4 : L = 4
  · subst q4
    show LR b t e r v ((d_R_takeFire r).bind d_R_takeLine_82) (d_M_readLine_70 v 4)
    unfold d_M_readLine_70
    by_cases qf : r 0 5 = 0
    · have w6 : v 0 6 = 0 := by
        rcases d6 with q | q
        · exact q.2.1
        · have := q.1; rw [qf] at this; exact absurd this (by decide)
      have e75 : d_M_readLine_75 v 4 1 = d_M_readLine_119 v 4 1 := by
        unfold d_M_readLine_75 d_M_readLine_92 d_M_readLine_97 d_M_readLine_114
        rw [M_needs1, Option.bind_some, if_pos rfl, if_pos w6, M_needs1, Option.bind_some, if_pos w6, if_pos rfl]
      rw [e75]
      refine comb B hM v16 v12 he (Or.inr rfl) (fun v1 hk1 k4 => ?_) (fun v1 hm hk1 => ?_)
      · obtain ⟨x, r1, y1, y2, y3⟩ := k4_ (r := pw r 0 5 1) B (hT.w (by omega) (by omega)) (by rw [w_n (by omega)]; exact h7) (by rw [pw_n _ _ _ (by omega)]; exact h11) he hk1 k4 (lo := 0) (hi := 4) (by omega) (by omega)
        exact cf_fire qf y1 y2
      · refine b_fire B hT (hM.mf (Mv _ _ hm)) h7 rfl h11 (Nat.le_refl _) he hk1 (D0.cg (fun _ _ _ => rfl) (fun _ _ => rfl) (fun c hc => by rw [pw_n _ _ _ hc, hm.1 c hc, pw_n _ _ _ hc]) (fun j hj => ?_)) qf (by rw [hm.2 6 (by omega), w_s]) (Mv _ _ hm)
        by_cases q : j = 6
        · subst q; rw [w_s, w6]
        · rw [w_n q, hm.2 j (by omega), w_n q]
    · have w6 : v 0 6 = 1 := by
        rcases d6 with q | q
        · exact absurd q.1 qf
        · exact q.2.1
      have ec : d_R_takeFire r = (d_R_fail r 4 (r 1 3)).bind fun z => some z := by
        unfold d_R_takeFire
        rw [if_neg qf]
      rw [ec]
      refine line_b h7 h13 v16 v13 4 (by decide) ?_
      unfold d_M_readLine_75
      rw [M_needs1, Option.bind_some, if_pos rfl, w6, if_neg (by decide)]
      obtain ⟨f, hf⟩ := bad97 (w := pw (pw v 0 16 4) 0 17 (v 0 13)) (by rw [w16]; decide) 4 1
      refine ⟨f, ?_⟩
      unfold d_M_readLine_97 at hf ⊢
      rw [M_needs1, Option.bind_some] at hf
      rw [M_needs0 v16, Option.bind_some]
      exact hf
  by_cases q5 : L = 5
  · subst q5
    show LR b t e r v ((d_R_takeRain r).bind d_R_takeLine_82) (d_M_readLine_75 v 5 1)
    rw [ok75 (by decide) v6]
    refine comb B hM v16 v12 he v6 (fun v1 hk1 k4 => ?_) (fun v1 hm hk1 => b_rain B hT (hM.mf (Mv _ _ hm)) h7 rfl h11 (Nat.le_refl _) he hk1 (Dv v1 hm) (Mv _ _ hm))
    obtain ⟨x, r1, y1, y2, y3⟩ := k4_ B hT h7 h11 he hk1 k4 (lo := 0) (hi := 6) (by omega) (by omega)
    exact cf_rain y1 y2
  by_cases q6 : L = 6
  · subst q6
    obtain ⟨o1, o2, o3, o4⟩ := d7
    show LR b t e r v ((d_R_takeOffer r).bind d_R_takeLine_82) (if (4 : Int32) ≤ v 0 7 then d_M_readLine_75 v 6 0 else d_M_readLine_75 v 6 1)
    by_cases qo : o < 4
    · rw [o2, if_neg (show ¬ (4 : Int32) ≤ nI o from fun z => by have := (qb_leI (a := 4) (by omega) (by omega)).mp z; omega), ok75 (by decide) v6]
      refine comb B hM v16 v12 he v6 (fun v1 hk1 k4 => ?_) (fun v1 hm hk1 => b_offer B hT (hM.mf (Mv _ _ hm)) h7 rfl h11 (Nat.le_refl _) he hk1 (Dv v1 hm) qo (Mv _ _ hm))
      obtain ⟨x, r1, y1, y2, y3⟩ := k4_ B hT h7 h11 he hk1 k4 (lo := 0) (hi := 4) (by omega) (by omega)
      exact cf_offer o1 qo y1 y3 y2
    · rw [o2, if_pos (show (4 : Int32) ≤ nI o from (qb_leI (a := 4) (by omega) (by omega)).mpr (by omega))]
      have ec : d_R_takeOffer r = (d_R_fail r 5 (r 1 3)).bind fun z => some z := by
        unfold d_R_takeOffer
        rw [o1, if_neg (show ¬ nI o < (4 : Int32) from fun z => qo ((qb_ltI (b := 4) (by omega) (by omega)).mp z))]
      rw [ec]
      refine line_b h7 h13 v16 v13 5 (by decide) ?_
      obtain ⟨f, hf⟩ := bd 5 6 1 (by decide)
      refine ⟨f, ?_⟩
      unfold d_M_readLine_75 at hf ⊢
      rw [M_needs1, Option.bind_some] at hf
      rw [M_needs0 v16, Option.bind_some]
      exact hf
  · have hL3 : L ≤ 3 := by omega
    have li : ∀ j : Nat, 4 ≤ j → j ≤ 7 → ¬ nI L = nI j := fun j h1 h2 z => by have := (qb_eqI (by omega) (by omega)).mp z; omega
    rw [if_neg (show ¬ nI L = (4 : Int32) from li 4 (by omega) (by omega)), if_neg (show ¬ nI L = (5 : Int32) from li 5 (by omega) (by omega)), if_neg (show ¬ nI L = (6 : Int32) from li 6 (by omega) (by omega)), if_neg (show ¬ nI L = (7 : Int32) from li 7 (by omega) (by omega)), if_neg (show ¬ nI L = (6 : Int32) from li 6 (by omega) (by omega)), if_neg (show ¬ (4 : Int32) ≤ nI L from fun z => by have := (qb_leI (a := 4) (by omega) (by omega)).mp z; omega)]
    show LR b t e r v ((d_R_takeHouse r (nI L)).bind d_R_takeLine_82) (if (5 : Int32) ≤ v 0 5 then d_M_readLine_75 v (nI L) 0 else d_M_readLine_75 v (nI L) 1)
    by_cases qn : n < 5
    · rw [d3, if_neg (show ¬ (5 : Int32) ≤ nI n from fun z => by have := (qb_leI (a := 5) (by omega) (by omega)).mp z; omega), ok75 (show ¬ nI L = (4 : Int32) from li 4 (by omega) (by omega)) v6]
      refine comb B hM v16 v12 he v6 (fun v1 hk1 k4 => ?_) (fun v1 hm hk1 => b_house B hT (hM.mf (Mv _ _ hm)) h7 rfl h11 (Nat.le_refl _) he hk1 (Dv v1 hm) qn hL3 (Mv _ _ hm))
      obtain ⟨x, r1, y1, y2, y3⟩ := k4_ B hT h7 h11 he hk1 k4 (lo := 0) (hi := 99) (by omega) (by omega)
      exact cf_house (nI L) e34 qn y1 y3 y2
    · rw [d3, if_pos (show (5 : Int32) ≤ nI n from (qb_leI (a := 5) (by omega) (by omega)).mpr (by omega))]
      have ec : d_R_takeHouse r (nI L) = (d_R_fail r 5 (r 1 3)).bind fun z => some z := by
        unfold d_R_takeHouse
        rw [e34, if_neg (show ¬ nI n < (5 : Int32) from fun z => qn ((qb_ltI (b := 5) (by omega) (by omega)).mp z))]
      rw [ec]
      refine line_b h7 h13 v16 v13 5 (by decide) ?_
      obtain ⟨f, hf⟩ := bd 5 (nI L) 1 (by decide)
      refine ⟨f, ?_⟩
      unfold d_M_readLine_75 at hf ⊢
      rw [M_needs1, Option.bind_some] at hf
      rw [M_needs0 v16, Option.bind_some]
      exact hf
theorem line_ {b : Nat → Nat} {t s : Nat} {r v : Nat → Nat → Int32} (B : BT b t) (hT : TP b t (sh r 1)) (hM : MP b t v) (hs : s ≤ t) (h7 : r 0 7 = 0) (h11 : r 1 1 = nI (tE b t s)) (h13 : r 1 3 = nI s) (hk : TKN b t s v) (k4 : tK b t s ≠ 4) (D : DRx r v) : LR b t (tE b t s) r v (d_R_takeLine r (nI (tK b t s))) (d_M_readLine v) := by
  have h160 := B.1
  have el := tE_le (b := b) hs
  have kl := tK_le (b := b) (t := t) (s := s)
  obtain ⟨v12, v13, -, kn⟩ := hk
  obtain ⟨v16, v14, -⟩ := kn k4
  unfold d_R_takeLine d_M_readLine
  rw [v14]
  have hI : (nI (tK b t s) = (1 : Int32)) ↔ tK b t s = 1 := qb_eqI (b := 1) (by omega) (by omega)
  by_cases q : tK b t s = 1
  · obtain ⟨L, l1, l2⟩ := LN_ex b s (tE b t s)
    rw [if_pos (hI.mpr q), if_pos (hI.mpr q), R_line B hT h11 h13 el.1 el.2.1 l2, M_line B hM v12 v13 el.1 el.2.1 l2, Option.bind_some, Option.bind_some]
    exact line_L B hT hM h7 h11 h13 el.2.1 v16 v12 v13 (by omega) D l1
  · rw [if_neg (fun z => q (hI.mp z)), if_neg (fun z => q (hI.mp z))]
    have := line_L (L := 7) B hT hM h7 h11 h13 el.2.1 v16 v12 v13 (show tK b t s ≤ 3 by omega) D (by omega)
    rw [if_pos rfl] at this
    exact this
