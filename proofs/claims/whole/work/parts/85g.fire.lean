/-! PURE: the lines of fire, rain, offers -/
theorem hn_ {H x : Nat} (hH : H ≤ 5) (hx : x ≤ 4) : (if nI x ≤ (if H = 0 then (-4 : Int32) else nI (H - 1)) then (if H = 0 then (-4 : Int32) else nI (H - 1)) else nI x) = (if max H (x + 1) = 0 then (-4 : Int32) else nI (max H (x + 1) - 1)) := by
  rw [if_neg (show ¬ max H (x + 1) = 0 by omega)]
  by_cases q : H = 0
  · rw [if_pos q, if_neg (fun z => by
      rw [qb_le, nI_toInt (by omega)] at z
      have : (-4 : Int32).toInt = -4 := by decide
      omega), show max H (x + 1) - 1 = x by omega]
  · rw [if_neg q]
    by_cases q2 : x ≤ H - 1
    · rw [if_pos ((qb_leI (by omega) (by omega)).mpr q2), show max H (x + 1) = H by omega]
    · rw [if_neg (fun z => q2 ((qb_leI (by omega) (by omega)).mp z)), show max H (x + 1) - 1 = x by omega]
theorem TP.w {b : Nat → Nat} {t : Nat} {r : Nat → Nat → Int32} (h : TP b t (sh r 1)) {c j : Nat} {x : Int32} (hc : c ≠ 1) (hc2 : c ≠ 2) : TP b t (sh (pw r c j x) 1) := ⟨by show pw r c j x 1 2 = _; rw [pw_n _ _ _ (by omega)]; exact h.1, fun i hi => by show pw r c j x 2 i = _; rw [pw_n _ _ _ (by omega)]; exact h.2 i hi⟩
theorem cf_fire {r r1 w : Nat → Nat → Int32} {x : Int32} (h5 : r 0 5 = 0) (e : d_R_takeNumber (pw r 0 5 1) 0 4 = some (x, r1)) (h : FLT r1 w) : ∃ r', d_R_takeFire r = some r' ∧ FLT r' w := by
  have f1 : FLT (pw r1 3 5 x) w := h.cg (by rw [pw_n _ _ _ (by omega)]) (by rw [pw_n _ _ _ (by omega)]) rfl rfl
  have f2 : FLT (pw (pw r1 3 5 x) 3 6 0) w := f1.cg (by rw [pw_n _ _ _ (by omega)]) (by rw [pw_n _ _ _ (by omega)]) rfl rfl
  have f3 : FLT (pw (pw (pw r1 3 5 x) 3 6 0) 3 7 0) w := f2.cg (by rw [pw_n _ _ _ (by omega)]) (by rw [pw_n _ _ _ (by omega)]) rfl rfl
  unfold d_R_takeFire
  rw [if_pos h5, e, Option.bind_some]
  show ∃ r', ((d_R_takeNumber (pw r1 3 5 x) 0 20).bind fun zr4 => (d_R_takeNumber (pw zr4.2 3 6 zr4.1) 0 9).bind fun zr6 => some (pw zr6.2 3 7 zr6.1)) = some r' ∧ _
  rw [(num_f f1 0 20).1, Option.bind_some]
  show ∃ r', ((d_R_takeNumber (pw (pw r1 3 5 x) 3 6 0) 0 9).bind fun zr6 => some (pw zr6.2 3 7 zr6.1)) = some r' ∧ _
  rw [(num_f f2 0 9).1, Option.bind_some]
  exact ⟨_, rfl, f3⟩
theorem b_fire {b : Nat → Nat} {t p0 p n o : Nat} {r v r0 v0 : Nat → Nat → Int32} {g P Q : Nat → Nat} {H : Nat} (B : BT b t) (hT : TP b t (sh r 1)) (hM : MP b t v) (h7 : r 0 7 = 0) (h6 : r 0 6 = r0 0 6) (h1 : r 1 1 = nI p) (hp0 : p0 ≤ p) (hp : p ≤ t) (hk : TKN b t (tS b t p) v) (D : DR r (pw v 0 6 0) n o g P Q H) (h5 : r 0 5 = 0) (v6 : v 0 6 = 1) (hm : MF v0 v) : LR b t p0 r0 v0 ((d_R_takeFire r).bind d_R_takeLine_82) ((d_M_readLineOf v 4).bind stp) := by
  have h160 := B.1
  obtain ⟨d1, d2, d3, d4, d5, d6, d7, d8⟩ := D
  have hv : d_M_readLineOf v 4 = ((d_M_readHouse v).bind fun zr2 => (d_M_readNumber (pw zr2.2 4 15 zr2.1) 0 20).bind fun zr4 => (d_M_readNumber (pw zr4.2 4 16 zr4.1) 0 9).bind fun zr6 => some (pw zr6.2 4 17 zr6.1)) := by
    unfold d_M_readLineOf
    rw [if_pos rfl]
    rfl
  have w1 : pw r 0 5 1 0 7 = 0 := by rw [w_n (by omega)]; exact h7
  have w2 : pw r 0 5 1 1 1 = nI p := by rw [pw_n _ _ _ (by omega)]; exact h1
  have hTs : TP b t (sh (pw r 0 5 1) 1) := hT.w (by omega) (by omega)
  rcases house_ B hTs hM w1 w2 hp hk with ⟨x, y, r1, v1, a1, a2, a3, a4, a5⟩ | ⟨x, r1, v1, e1, a1, a2, a3, a4, a5, a6, a7, a8, a9, a10, a11⟩
  · obtain ⟨r', c1, c2⟩ := cf_fire h5 a1 a3
    have g1 : FLT r1 (pw v1 4 15 y) := a3.cg rfl rfl (by rw [pw_n _ _ _ (by omega)]) (by rw [pw_n _ _ _ (by omega)])
    have g2 : FLT r1 (pw (pw v1 4 15 y) 4 16 0) := g1.cg rfl rfl (by rw [pw_n _ _ _ (by omega)]) (by rw [pw_n _ _ _ (by omega)])
    rw [c1, hv, a2, Option.bind_some, Option.bind_some]
    show LR b t p0 r0 v0 _ (((d_M_readNumber (pw v1 4 15 y) 0 20).bind fun zr4 => (d_M_readNumber (pw zr4.2 4 16 zr4.1) 0 9).bind fun zr6 => some (pw zr6.2 4 17 zr6.1)).bind stp)
    rw [(num_f g1 0 20).2.2, Option.bind_some]
    show LR b t p0 r0 v0 _ (((d_M_readNumber (pw (pw v1 4 15 y) 4 16 0) 0 9).bind fun zr6 => some (pw zr6.2 4 17 zr6.1)).bind stp)
    rw [(num_f g2 0 9).2.2, Option.bind_some, Option.bind_some]
    show LR b t p0 r0 v0 (d_R_takeLine_82 r') (stp (pw (pw (pw v1 4 15 y) 4 16 0) 4 17 0))
    exact end_f (c2.cg rfl rfl (by rw [pw_n _ _ _ (by omega), pw_n _ _ _ (by omega), pw_n _ _ _ (by omega)]) (by rw [pw_n _ _ _ (by omega), pw_n _ _ _ (by omega), pw_n _ _ _ (by omega)])) ((hm.tr a5.mf).tr ((MF.w4.tr MF.w4).tr MF.w4))
  · have hR1 : TP b t (sh (pw r1 3 5 (nI x)) 1) := (a5.tp hTs).w (by omega) (by omega)
    have hM1 : MP b t (pw v1 4 15 (nI x)) := (hM.mf a6.mf).mf MF.w4
    have hc : d_R_takeFire r = ((d_R_takeNumber (pw r1 3 5 (nI x)) 0 20).bind fun zr4 => (d_R_takeNumber (pw zr4.2 3 6 zr4.1) 0 9).bind fun zr6 => some (pw zr6.2 3 7 zr6.1)) := by
      unfold d_R_takeFire
      rw [if_pos h5, a2, Option.bind_some]
    have hv1 : d_M_readLineOf v 4 = ((d_M_readNumber (pw v1 4 15 (nI x)) 0 20).bind fun zr4 => (d_M_readNumber (pw zr4.2 4 16 zr4.1) 0 9).bind fun zr6 => some (pw zr6.2 4 17 zr6.1)) := by
      rw [hv, a3, Option.bind_some]
    rw [hc, hv1]
    have k1 : pw r1 3 5 (nI x) 0 7 = 0 := by rw [pw_n _ _ _ (by omega), a4]; exact w1
    have k2 : pw r1 3 5 (nI x) 1 1 = nI e1 := by rw [pw_n _ _ _ (by omega)]; exact a7
    rcases num_ B hR1 hM1 k1 k2 a9 (a10.cg (fun j _ _ => by rw [pw_n _ _ _ (by omega)])) (lo := 0) (hi := 20) (by omega) (by omega) with ⟨X, Y, r2, v2, b1, b2, b3, b4, b5⟩ | ⟨y, r2, v2, e2, b1, b2, b3, b4, b5, b6, b7, b8, b9, b10, b11, b12⟩
    · have b1' : d_R_takeNumber (pw r1 3 5 (nI x)) 0 20 = some (X, r2) := b1
      have b2' : d_M_readNumber (pw v1 4 15 (nI x)) 0 20 = some (Y, v2) := b2
      have g2 : FLT (pw r2 3 6 X) (pw v2 4 16 Y) := b3.cg (by rw [pw_n _ _ _ (by omega)]) (by rw [pw_n _ _ _ (by omega)]) (by rw [pw_n _ _ _ (by omega)]) (by rw [pw_n _ _ _ (by omega)])
      rw [b1', b2', Option.bind_some, Option.bind_some]
      show LR b t p0 r0 v0 (((d_R_takeNumber (pw r2 3 6 X) 0 9).bind fun zr6 => some (pw zr6.2 3 7 zr6.1)).bind d_R_takeLine_82) (((d_M_readNumber (pw v2 4 16 Y) 0 9).bind fun zr6 => some (pw zr6.2 4 17 zr6.1)).bind stp)
      rw [(num_f g2 0 9).1, (num_f g2 0 9).2.2, Option.bind_some, Option.bind_some, Option.bind_some, Option.bind_some]
      exact end_f (g2.cg (by rw [pw_n _ _ _ (by omega)]) (by rw [pw_n _ _ _ (by omega)]) (by rw [pw_n _ _ _ (by omega)]) (by rw [pw_n _ _ _ (by omega)])) ((((hm.tr a6.mf).tr MF.w4).tr b5.mf).tr (MF.w4.tr MF.w4))
    · have b3' : d_R_takeNumber (pw r1 3 5 (nI x)) 0 20 = some (nI y, r2) := b3
      have b4' : d_M_readNumber (pw v1 4 15 (nI x)) 0 20 = some (nI y, v2) := b4
      have b8' : v1 0 16 = 0 := by rw [pw_n _ _ _ (by omega)] at b8; exact b8
      rw [b3', b4', Option.bind_some, Option.bind_some]
      show LR b t p0 r0 v0 (((d_R_takeNumber (pw r2 3 6 (nI y)) 0 9).bind fun zr6 => some (pw zr6.2 3 7 zr6.1)).bind d_R_takeLine_82) (((d_M_readNumber (pw v2 4 16 (nI y)) 0 9).bind fun zr6 => some (pw zr6.2 4 17 zr6.1)).bind stp)
      have hR2 : TP b t (sh (pw r2 3 6 (nI y)) 1) := (b6.tp hR1).w (by omega) (by omega)
      have hM2 : MP b t (pw v2 4 16 (nI y)) := (hM1.mo b7).mf MF.w4
      have j1 : pw r2 3 6 (nI y) 0 7 = 0 := by rw [pw_n _ _ _ (by omega), b5]; exact k1
      have j2 : pw r2 3 6 (nI y) 1 1 = nI e2 := by rw [pw_n _ _ _ (by omega)]; exact b9
      rcases num_ B hR2 hM2 j1 j2 b11 (b12.cg (fun j _ _ => by rw [pw_n _ _ _ (by omega)])) (lo := 0) (hi := 9) (by omega) (by omega) with ⟨X, Y, r3, v3, c1, c2, c3, c4, c5⟩ | ⟨z, r3, v3, e3, c1, c2, c3, c4, c5, c6, c7, c8, c9, c10, c11, c12⟩
      · have c1' : d_R_takeNumber (pw r2 3 6 (nI y)) 0 9 = some (X, r3) := c1
        have c2' : d_M_readNumber (pw v2 4 16 (nI y)) 0 9 = some (Y, v3) := c2
        rw [c1', c2', Option.bind_some, Option.bind_some, Option.bind_some, Option.bind_some]
        exact end_f (c3.cg (by rw [pw_n _ _ _ (by omega)]) (by rw [pw_n _ _ _ (by omega)]) (by rw [pw_n _ _ _ (by omega)]) (by rw [pw_n _ _ _ (by omega)])) ((((((hm.tr a6.mf).tr MF.w4).tr b7.mf).tr MF.w4).tr c5.mf).tr MF.w4)
      · have c3' : d_R_takeNumber (pw r2 3 6 (nI y)) 0 9 = some (nI z, r3) := c3
        have c4' : d_M_readNumber (pw v2 4 16 (nI y)) 0 9 = some (nI z, v3) := c4
        rw [c3', c4', Option.bind_some, Option.bind_some, Option.bind_some, Option.bind_some]
        show LR b t p0 r0 v0 (d_R_takeLine_82 (pw r3 3 7 (nI z))) (stp (pw v3 4 17 (nI z)))
        have q0 : ∀ j, j ≠ 5 → r3 0 j = r 0 j := fun j hj => by rw [c5, pw_n _ _ _ (by omega), b5, pw_n _ _ _ (by omega), a4, w_n hj]
        have q05 : r3 0 5 = 1 := by rw [c5, pw_n _ _ _ (by omega), b5, pw_n _ _ _ (by omega), a4, w_s]
        have qc : ∀ c, c ≠ 0 → c ≠ 1 → c ≠ 3 → r3 c = r c := fun c h1 h2 h3 => by rw [c6.1 c h1 h2, pw_n _ _ _ h3, b6.1 c h1 h2, pw_n _ _ _ h3, a5.1 c h1 h2, pw_n _ _ _ h1]
        have q3 : r3 3 = upd (upd (r 3) 5 (nI x)) 6 (nI y) := by rw [c6.1 3 (by omega) (by omega), pw_s, b6.1 3 (by omega) (by omega), pw_s, a5.1 3 (by omega) (by omega), pw_n _ _ _ (by omega)]
        have t0 : ∀ j, j ≠ 9 → (j < 12 ∨ 17 < j) → v3 0 j = v 0 j := fun j h1 h2 => by rw [c7.2 j h2, pw_n _ _ _ (by omega), b7.2 j h2, pw_n _ _ _ (by omega), a6.2 j h1 h2]
        have t09 : v3 0 9 = v1 0 9 := by rw [c7.2 9 (by omega), pw_n _ _ _ (by omega), b7.2 9 (by omega), pw_n _ _ _ (by omega)]
        have tc : ∀ c, c ≠ 0 → c ≠ 4 → v3 c = v c := fun c h1 h2 => by rw [c7.1 c h1, pw_n _ _ _ h2, b7.1 c h1, pw_n _ _ _ h2, a6.1 c h1]
        have t4 : v3 4 = upd (upd (v 4) 15 (nI x)) 16 (nI y) := by rw [c7.1 4 (by omega), pw_s, b7.1 4 (by omega), pw_s, a6.1 4 (by omega)]
        have vz : ∀ c, c ≠ 0 → pw v 0 6 0 c = v c := fun c hc => pw_n _ _ _ hc
        refine end_g B (r1 := pw r3 3 7 (nI z)) ((c6.tp hR2).w (by omega) (by omega)) ((hM2.mo c7).mf MF.w4) ?_ ?_ (p := e3) ?_ (by omega) c11 (c12.cg (fun j _ _ => by rw [pw_n _ _ _ (by omega)])) ⟨n, o, sp (sp (sp g 15 x) 16 y) 17 z, P, Q, max H (x + 1), ?_, ?_, ?_, d4, ?_, ?_, ?_, ?_⟩ ((((((hm.tr a6.mf).tr MF.w4).tr b7.mf).tr MF.w4).tr c7.mf).tr MF.w4)
        · rw [pw_n _ _ _ (by omega), q0 7 (by omega)]; exact h7
        · rw [pw_n _ _ _ (by omega), q0 6 (by omega)]; exact h6
        · rw [pw_n _ _ _ (by omega)]; exact c9
        · refine (((d1.f5 d4 x).f6 d4 y).f7 d4 z).cg (fun i hi => ?_)
          by_cases qi : i = 0
          · subst qi
            show pw r3 3 7 (nI z) 3 = _
            rw [pw_s, q3, pw_s, pw_s, pw_s]
            rfl
          · show pw r3 3 7 (nI z) (3 + i) = _
            rw [pw_n _ _ _ (by omega), qc _ (by omega) (by omega) (by omega), pw_n _ _ _ qi, pw_n _ _ _ qi, pw_n _ _ _ qi]
            rfl
        · intro i hi
          rw [pw_s, t4]
          by_cases q17 : i = 17
          · rw [q17, up_s, sp_s]
          rw [up_n q17, sp_n _ _ q17]
          by_cases q16 : i = 16
          · rw [q16, up_s, sp_s]
          rw [up_n q16, sp_n _ _ q16]
          by_cases q15 : i = 15
          · rw [q15, up_s, sp_s]
          rw [up_n q15, sp_n _ _ q15]
          have := d2 i hi
          rw [vz 4 (by omega)] at this
          exact this
        · rw [pw_n _ _ _ (by omega), t0 5 (by omega) (by omega)]
          rw [w_n (by omega)] at d3
          exact d3
        · obtain ⟨f1, f2, f3, f4, f5, f6, f7⟩ := d5
          refine ⟨by rw [sp_n _ _ (by omega), sp_s]; omega, by rw [sp_s]; omega, by rw [sp_n _ _ (by omega), sp_n _ _ (by omega), sp_n _ _ (by omega)]; exact f3, fun h hh => by rw [sp_n _ _ (by omega), sp_n _ _ (by omega), sp_n _ _ (by omega)]; exact f4 h hh, fun h hh => by rw [sp_n _ _ (by omega), sp_n _ _ (by omega), sp_n _ _ (by omega)]; exact f5 h hh, fun h hh => by rw [sp_n _ _ (by omega), sp_n _ _ (by omega), sp_n _ _ (by omega)]; exact f6 h hh, fun i hi => by rw [sp_n _ _ (by omega), sp_n _ _ (by omega), sp_n _ _ (by omega)]; exact f7 i hi⟩
        · right
          rw [pw_n _ _ _ (by omega), q05, pw_n _ _ _ (by omega), t0 6 (by omega) (by omega), sp_n _ _ (by omega), sp_n _ _ (by omega), sp_s]
          exact ⟨rfl, v6, by omega⟩
        · obtain ⟨o1, o2, o3, o4⟩ := d7
          rw [w_n (by omega)] at o2
          rw [vz 5 (by omega)] at o4
          refine ⟨?_, ?_, o3, fun i hi => ?_⟩
          · rw [pw_n _ _ _ (by omega), q0 4 (by omega)]; exact o1
          · rw [pw_n _ _ _ (by omega), t0 7 (by omega) (by omega)]; exact o2
          · rw [pw_n _ _ _ (by omega), pw_n _ _ _ (by omega), pw_n _ _ _ (by omega), qc 8 (by omega) (by omega) (by omega), qc 9 (by omega) (by omega) (by omega), tc 5 (by omega) (by omega)]
            obtain ⟨y1, y2, y3, y4, y5, y6, y7⟩ := o4 i hi
            exact ⟨y1, y2, y3, y4, y5, y6, by omega⟩
        · obtain ⟨l1, l2, l3⟩ := d8
          rw [w_n (by omega)] at l2
          refine ⟨by omega, ?_, ?_⟩
          · rw [pw_n _ _ _ (by omega), t09, a11 b8', l2]
            exact hn_ l1 a1
          · rw [pw_n _ _ _ (by omega), q05, sp_n _ _ (by omega), sp_n _ _ (by omega), sp_s]
            by_cases q : H ≤ x + 1
            · exact Or.inr (Or.inl ⟨rfl, by omega⟩)
            · rcases l3 with l3 | l3 | ⟨i, i1, i2⟩
              · omega
              · have := l3.1
                rw [h5] at this
                exact absurd this (by decide)
              · exact Or.inr (Or.inr ⟨i, i1, by omega⟩)
