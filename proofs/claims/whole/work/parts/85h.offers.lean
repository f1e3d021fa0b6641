/-! PURE: the lines of rain and of offers -/
theorem bits_ : ∀ g, g < 128 → ∀ n, n < 7 → (((nI g &&& ((1 : Int32) <<< (nI n &&& 31))) = 0 ∧ ((nI g >>> (nI n &&& 31)) &&& (1 : Int32)) = 0 ∧ (nI g ||| ((1 : Int32) <<< (nI n &&& 31))) = nI (g + 2 ^ n) ∧ g + 2 ^ n < 128) ∨ (¬ (nI g &&& ((1 : Int32) <<< (nI n &&& 31))) = 0 ∧ ¬ ((nI g >>> (nI n &&& 31)) &&& (1 : Int32)) = 0)) := by decide +kernel
theorem cf_rain {r r1 w : Nat → Nat → Int32} {x : Int32} (e : d_R_takeNumber r 0 6 = some (x, r1)) (h : FLT r1 w) : ∃ r', d_R_takeRain r = some r' ∧ FLT r' w := by
  unfold d_R_takeRain d_R_takeRain_34
  rw [e, Option.bind_some]
  show ∃ r', (dl ((1 : Int32) <<< (x &&& 31)) fun zy3 => if ((r1 3 8) &&& zy3) = 0 then (dl ((r1 3 8) ||| zy3) fun zy6 => some (pw r1 3 8 zy6)) else ((d_R_fail r1 4 (r1 1 3)).bind fun zr8 => (dl ((zr8 3 8) ||| zy3) fun zy6 => some (pw zr8 3 8 zy6)))) = some r' ∧ _
  rw [fail_f h]
  simp only [dl, Option.bind_some, ite_self]
  exact ⟨_, rfl, h.cg (by rw [pw_n _ _ _ (by omega)]) (by rw [pw_n _ _ _ (by omega)]) rfl rfl⟩
theorem b_rain {b : Nat → Nat} {t p0 p n o : Nat} {r v r0 v0 : Nat → Nat → Int32} {g P Q : Nat → Nat} {H : Nat} (B : BT b t) (hT : TP b t (sh r 1)) (hM : MP b t v) (h7 : r 0 7 = 0) (h6 : r 0 6 = r0 0 6) (h1 : r 1 1 = nI p) (hp0 : p0 ≤ p) (hp : p ≤ t) (hk : TKN b t (tS b t p) v) (D : DR r v n o g P Q H) (hm : MF v0 v) : LR b t p0 r0 v0 ((d_R_takeRain r).bind d_R_takeLine_82) ((d_M_readLineOf v 5).bind stp) := by
  have h160 := B.1
  obtain ⟨d1, d2, d3, d4, d5, d6, d7, d8⟩ := D
  have hv : d_M_readLineOf v 5 = (d_M_readRain v) := by
    unfold d_M_readLineOf
    rw [if_neg (by decide), if_pos rfl]
    cases d_M_readRain v <;> rfl
  rcases look_ B hT h7 h1 hp hk (lo := 0) (hi := 6) (by omega) (by omega) with ⟨x, y, r1, v1, a1, a2, a3, a4, a5⟩ | ⟨m, r1, a1, a2, a3, a4, a5, a6, a7, a8, a9, a10, a11, a12, a13⟩
  · obtain ⟨r', c1, c2⟩ := cf_rain a1 a3
    have a2' : d_M_looked v 0 6 = some (y, v1) := a2
    have hv2 : d_M_readRain v = some v1 := by
      unfold d_M_readRain
      rw [a2', Option.bind_some]
      show (if v1 0 16 = 0 then _ else d_M_readRain_52 v1) = _
      rw [if_neg a3.n]
      unfold d_M_readRain_52
      rw [M_next_f a3.p, Option.bind_some]
    rw [c1, hv, hv2, Option.bind_some, Option.bind_some]
    exact end_f c2 (hm.tr a5.mf)
  · have a3' : d_R_takeNumber r 0 6 = some (nI m, r1) := a3
    have a4' : d_M_looked v 0 6 = some (nI m, v) := a4
    have e38 : r1 3 8 = nI (g 18) := by rw [a6.1 3 (by omega) (by omega)]; exact d1.2.2.2.2.1
    have e418 : v 4 18 = nI (g 18) := d2 18 (by omega)
    have hc : d_R_takeRain r = (if (nI (g 18) &&& ((1 : Int32) <<< (nI m &&& 31))) = 0 then some (pw r1 3 8 (nI (g 18) ||| ((1 : Int32) <<< (nI m &&& 31)))) else ((d_R_fail r1 4 (r1 1 3)).bind fun zr8 => some (pw zr8 3 8 ((zr8 3 8) ||| ((1 : Int32) <<< (nI m &&& 31)))))) := by
      unfold d_R_takeRain d_R_takeRain_34
      rw [a3', Option.bind_some]
      show (dl ((1 : Int32) <<< (nI m &&& 31)) fun zy3 => if ((r1 3 8) &&& zy3) = 0 then (dl ((r1 3 8) ||| zy3) fun zy6 => some (pw r1 3 8 zy6)) else ((d_R_fail r1 4 (r1 1 3)).bind fun zr8 => (dl ((zr8 3 8) ||| zy3) fun zy6 => some (pw zr8 3 8 zy6)))) = _
      simp only [dl, e38]
    have hv2 : d_M_readRain v = (if ((nI (g 18) >>> (nI m &&& 31)) &&& (1 : Int32)) = 0 then d_M_readRain_35 v (nI m) 1 else d_M_readRain_35 v (nI m) 0) := by
      unfold d_M_readRain
      rw [a4', Option.bind_some]
      show (if v 0 16 = 0 then (if (((v 4 18) >>> (nI m &&& 31)) &&& (1 : Int32)) = 0 then d_M_readRain_35 v (nI m) 1 else d_M_readRain_35 v (nI m) 0) else _) = _
      rw [if_pos a7, e418]
    rw [hc, hv, hv2]
    unfold d_M_readRain_35 d_M_readRain_52
    rcases bits_ (g 18) d5.2.2.1 m (by omega) with ⟨q1, q2, q3, q4⟩ | ⟨q1, q2⟩
    · rw [if_pos q1, if_pos q2, M_needs1, Option.bind_some, Option.bind_some]
      simp only [dl]
      have e418' : v 4 (18 : Int32).toNatClampNeg = nI (g 18) := e418
      rw [e418', q3]
      have hM1 : MP b t (pw v 4 18 (nI (g 18 + 2 ^ m))) := hM.mf MF.w4
      obtain ⟨v1, n1, n2, n3⟩ := M_next_ (p := tE b t (tS b t p)) B hM1 (by rw [pw_n _ _ _ (by omega)]; exact a9) (by rw [pw_n _ _ _ (by omega)]; exact a7) a13
      have n1' : d_M_next (pw v 4 (18 : Int32).toNatClampNeg (nI (g 18 + 2 ^ m))) = some v1 := n1
      rw [n1', Option.bind_some, Option.bind_some]
      refine end_g B (r1 := pw r1 3 8 (nI (g 18 + 2 ^ m))) ((a6.tp hT).w (by omega) (by omega)) (hM1.mo n2) ?_ ?_ (p := tE b t (tS b t p)) ?_ (by omega) a13 n3 ⟨n, o, sp g 18 (g 18 + 2 ^ m), P, Q, H, ?_, ?_, ?_, d4, ?_, ?_, ?_, ?_⟩ ((hm.tr MF.w4).tr n2.mf)
      · rw [pw_n _ _ _ (by omega), a5]; exact h7
      · rw [pw_n _ _ _ (by omega), a5]; exact h6
      · rw [pw_n _ _ _ (by omega)]; exact a10
      · refine (d1.f8 d4 (g 18 + 2 ^ m)).cg (fun i hi => ?_)
        by_cases qi : i = 0
        · subst qi
          show pw r1 3 8 _ 3 = _
          rw [pw_s, a6.1 3 (by omega) (by omega), pw_s]
          rfl
        · show pw r1 3 8 _ (3 + i) = _
          rw [pw_n _ _ _ (by omega), a6.1 _ (by omega) (by omega), pw_n _ _ _ qi]
          rfl
      · intro i hi
        rw [n2.1 4 (by omega), pw_s]
        by_cases q18 : i = 18
        · rw [q18, up_s, sp_s]
        rw [up_n q18, sp_n _ _ q18]
        exact d2 i hi
      · rw [n2.2 5 (by omega), pw_n _ _ _ (by omega)]; exact d3
      · obtain ⟨f1, f2, f3, f4, f5, f6, f7⟩ := d5
        refine ⟨by rw [sp_n _ _ (by omega)]; exact f1, by rw [sp_n _ _ (by omega)]; exact f2, by rw [sp_s]; exact q4, fun h hh => by rw [sp_n _ _ (by omega)]; exact f4 h hh, fun h hh => by rw [sp_n _ _ (by omega)]; exact f5 h hh, fun h hh => by rw [sp_n _ _ (by omega)]; exact f6 h hh, fun i hi => by rw [sp_n _ _ (by omega)]; exact f7 i hi⟩
      · unfold FRE
        rw [pw_n _ _ _ (by omega), a5, n2.2 6 (by omega), pw_n _ _ _ (by omega), sp_n _ _ (by omega)]
        exact d6
      · unfold OFF
        rw [pw_n _ _ _ (by omega), a5, pw_n _ _ _ (by omega), pw_n _ _ _ (by omega), a6.1 8 (by omega) (by omega), a6.1 9 (by omega) (by omega), n2.2 7 (by omega), pw_n _ _ _ (by omega), n2.1 5 (by omega), pw_n _ _ _ (by omega)]
        exact d7
      · unfold HNM
        rw [pw_n _ _ _ (by omega), a5, n2.2 9 (by omega), pw_n _ _ _ (by omega), sp_n _ _ (by omega)]
        exact d8
    · have z7 : r1 0 7 = 0 := by rw [a5]; exact h7
      rw [if_neg q1, if_neg q2, R_fail_ z7, M_needs0 a7]
      simp only [dl, Option.bind_some]
      rw [M_next_f (by rw [pw_n _ _ _ (by omega), w16]; decide), Option.bind_some, Option.bind_some]
      exact end_f (FLT.mk (a := 4) (x := nI (tS b t p)) (by decide) (by rw [pw_n _ _ _ (by omega), w7]) (by rw [pw_n _ _ _ (by omega), w_s]; exact a11) (by rw [pw_n _ _ _ (by omega), w16]) (by rw [pw_n _ _ _ (by omega), w_s]; exact a8)) ((hm.tr mo16.mf).tr MF.w4)
theorem cf_offer {r r1 w : Nat → Nat → Int32} {x : Int32} {o : Nat} (h4 : r 0 4 = nI o) (ho : o < 4) (e : d_R_takeNumber r 0 4 = some (x, r1)) (hr : RO r r1) (h : FLT r1 w) : ∃ r', d_R_takeOffer r = some r' ∧ FLT r' w := by
  have f1 : FLT (pw r1 8 o x) w := h.cg (by rw [pw_n _ _ _ (by omega)]) (by rw [pw_n _ _ _ (by omega)]) rfl rfl
  have e4 : r1 0 4 = nI o := by rw [hr.2.1 4 (by omega) (by omega)]; exact h4
  unfold d_R_takeOffer
  rw [h4, if_pos (show nI o < (4 : Int32) from (qb_ltI (b := 4) (by omega) (by omega)).mpr ho), e, Option.bind_some, qb_gt (show o < 4 by omega) (by omega), if_pos rfl, qb_cl (by omega)]
  show ∃ r', ((d_R_takeNumber (pw r1 8 o x) 1 20).bind fun zr5 => if gi (r1 0 4) 4 = true then dl ((zr5.2 0 4) + (1 : Int32)) fun zy8 => some (pw (pw zr5.2 9 (r1 0 4).toNatClampNeg zr5.1) 0 4 zy8) else none) = some r' ∧ _
  rw [(num_f f1 1 20).1, Option.bind_some, e4, qb_gt (show o < 4 by omega) (by omega), if_pos rfl]
  simp only [dl]
  exact ⟨_, rfl, f1.cg (by rw [w_n (by omega), pw_n _ _ _ (by omega)]) (by rw [w_n (by omega), pw_n _ _ _ (by omega)]) rfl rfl⟩
theorem b_offer {b : Nat → Nat} {t p0 p n o : Nat} {r v r0 v0 : Nat → Nat → Int32} {g P Q : Nat → Nat} {H : Nat} (B : BT b t) (hT : TP b t (sh r 1)) (hM : MP b t v) (h7 : r 0 7 = 0) (h6 : r 0 6 = r0 0 6) (h1 : r 1 1 = nI p) (hp0 : p0 ≤ p) (hp : p ≤ t) (hk : TKN b t (tS b t p) v) (D : DR r v n o g P Q H) (ho : o < 4) (hm : MF v0 v) : LR b t p0 r0 v0 ((d_R_takeOffer r).bind d_R_takeLine_82) ((d_M_readLineOf v 6).bind stp) := by
  have h160 := B.1
  obtain ⟨d1, d2, d3, d4, d5, d6, d7, d8⟩ := D
  obtain ⟨o1, o2, o3, o4⟩ := d7
  have e2o : (2 : Int32) * nI o = nI (2 * o) := by rw [k_2, pk_mul]
  have e2o1 : nI (2 * o) + (1 : Int32) = nI (2 * o + 1) := nI_add _ 1
  have hv : d_M_readLineOf v 6 = ((d_M_readHouse v).bind fun zr12 => dl (pw zr12.2 5 (2 * o) zr12.1) fun zu15 => (d_M_readNumber zu15 1 20).bind fun zr17 => if gi ((2 : Int32) * (zu15 0 7) + 1) 8 = true then dl (pw zr17.2 5 ((2 : Int32) * (zu15 0 7) + 1).toNatClampNeg zr17.1) fun zu20 => dl ((zu20 0 7) + (1 : Int32)) fun zy22 => some (pw zu20 0 7 zy22) else none) := by
    unfold d_M_readLineOf
    rw [if_neg (by decide), if_neg (by decide), if_pos rfl, o2, e2o, qb_gt (show 2 * o < 8 by omega) (by omega), qb_cl (by omega)]
    simp only [if_true]
  rcases house_ B hT hM h7 h1 hp hk with ⟨x, y, r1, v1, a1, a2, a3, a4, a5⟩ | ⟨x, r1, v1, e1, a1, a2, a3, a4, a5, a6, a7, a8, a9, a10, a11⟩
  · obtain ⟨r', c1, c2⟩ := cf_offer o1 ho a1 a4 a3
    have g1 : FLT r1 (pw v1 5 (2 * o) y) := a3.cg rfl rfl (by rw [pw_n _ _ _ (by omega)]) (by rw [pw_n _ _ _ (by omega)])
    have e7 : pw v1 5 (2 * o) y 0 7 = nI o := by rw [pw_n _ _ _ (by omega), a5.2 7 (by omega) (by omega)]; exact o2
    rw [c1, hv, a2, Option.bind_some, Option.bind_some]
    simp only [dl]
    rw [(num_f g1 1 20).2.2, Option.bind_some, e7, e2o, e2o1, qb_gt (show 2 * o + 1 < 8 by omega) (by omega), if_pos rfl, qb_cl (show 2 * o + 1 < 2147483648 by omega), Option.bind_some]
    dsimp only
    exact end_f (c2.cg rfl rfl (by rw [w_n (by omega), pw_n _ _ _ (by omega), pw_n _ _ _ (by omega)]) (by rw [w_n (by omega), pw_n _ _ _ (by omega), pw_n _ _ _ (by omega)])) ((hm.tr a5.mf).tr ((MF.w5.tr MF.w5).tr (MF.w (by omega) (by omega) (by omega))))
  · have e4 : r1 0 4 = nI o := by rw [a4]; exact o1
    have e7 : pw v1 5 (2 * o) (nI x) 0 7 = nI o := by rw [pw_n _ _ _ (by omega), a6.2 7 (by omega) (by omega)]; exact o2
    have hR1 : TP b t (sh (pw r1 8 o (nI x)) 1) := (a5.tp hT).w (by omega) (by omega)
    have hM1 : MP b t (pw v1 5 (2 * o) (nI x)) := (hM.mf a6.mf).mf MF.w5
    have k1 : pw r1 8 o (nI x) 0 7 = 0 := by rw [pw_n _ _ _ (by omega), a4]; exact h7
    have k2 : pw r1 8 o (nI x) 1 1 = nI e1 := by rw [pw_n _ _ _ (by omega)]; exact a7
    have hc : d_R_takeOffer r = ((d_R_takeNumber (pw r1 8 o (nI x)) 1 20).bind fun zr5 => dl ((zr5.2 0 4) + (1 : Int32)) fun zy8 => some (pw (pw zr5.2 9 o zr5.1) 0 4 zy8)) := by
      unfold d_R_takeOffer
      rw [o1, if_pos (show nI o < (4 : Int32) from (qb_ltI (b := 4) (by omega) (by omega)).mpr ho), a2, Option.bind_some, qb_gt (show o < 4 by omega) (by omega), if_pos rfl, qb_cl (by omega)]
      show ((d_R_takeNumber (pw r1 8 o (nI x)) 1 20).bind fun zr5 => if gi (r1 0 4) 4 = true then dl ((zr5.2 0 4) + (1 : Int32)) fun zy8 => some (pw (pw zr5.2 9 (r1 0 4).toNatClampNeg zr5.1) 0 4 zy8) else none) = _
      rw [e4, qb_gt (show o < 4 by omega) (by omega), qb_cl (by omega)]
      simp only [if_true]
    have hv1 : d_M_readLineOf v 6 = ((d_M_readNumber (pw v1 5 (2 * o) (nI x)) 1 20).bind fun zr17 => some (pw (pw zr17.2 5 (2 * o + 1) zr17.1) 0 7 ((pw zr17.2 5 (2 * o + 1) zr17.1) 0 7 + 1))) := by
      rw [hv, a3, Option.bind_some]
      simp only [dl]
      rw [e7, e2o, e2o1, qb_gt (show 2 * o + 1 < 8 by omega) (by omega), qb_cl (show 2 * o + 1 < 2147483648 by omega)]
      simp only [if_true]
    rw [hc, hv1]
    rcases num_ B hR1 hM1 k1 k2 a9 (a10.cg (fun j _ _ => by rw [pw_n _ _ _ (by omega)])) (lo := 1) (hi := 20) (by omega) (by omega) with ⟨X, Y, r2, v2, b1, b2, b3, b4, b5⟩ | ⟨y, r2, v2, e2, b1, b2, b3, b4, b5, b6, b7, b8, b9, b10, b11, b12⟩
    · have b1' : d_R_takeNumber (pw r1 8 o (nI x)) 1 20 = some (X, r2) := b1
      have b2' : d_M_readNumber (pw v1 5 (2 * o) (nI x)) 1 20 = some (Y, v2) := b2
      rw [b1', b2', Option.bind_some, Option.bind_some]
      simp only [dl, Option.bind_some]
      exact end_f (b3.cg (by rw [w_n (by omega), pw_n _ _ _ (by omega)]) (by rw [w_n (by omega), pw_n _ _ _ (by omega)]) (by rw [w_n (by omega), pw_n _ _ _ (by omega)]) (by rw [w_n (by omega), pw_n _ _ _ (by omega)])) ((((hm.tr a6.mf).tr MF.w5).tr b5.mf).tr (MF.w5.tr (MF.w (by omega) (by omega) (by omega))))
    · have b3' : d_R_takeNumber (pw r1 8 o (nI x)) 1 20 = some (nI y, r2) := b3
      have b4' : d_M_readNumber (pw v1 5 (2 * o) (nI x)) 1 20 = some (nI y, v2) := b4
      have b8' : v1 0 16 = 0 := by rw [pw_n _ _ _ (by omega)] at b8; exact b8
      have q04 : r2 0 4 = nI o := by rw [b5, pw_n _ _ _ (by omega)]; exact e4
      have q0 : ∀ j, r2 0 j = r 0 j := fun j => by rw [b5, pw_n _ _ _ (by omega), a4]
      have qc : ∀ c, c ≠ 0 → c ≠ 1 → c ≠ 8 → r2 c = r c := fun c h1 h2 h3 => by rw [b6.1 c h1 h2, pw_n _ _ _ h3, a5.1 c h1 h2]
      have q8 : r2 8 = upd (r 8) o (nI x) := by rw [b6.1 8 (by omega) (by omega), pw_s, a5.1 8 (by omega) (by omega)]
      have t0 : ∀ j, j ≠ 9 → (j < 12 ∨ 17 < j) → v2 0 j = v 0 j := fun j h1 h2 => by rw [b7.2 j h2, pw_n _ _ _ (by omega), a6.2 j h1 h2]
      have t09 : v2 0 9 = v1 0 9 := by rw [b7.2 9 (by omega), pw_n _ _ _ (by omega)]
      have tc : ∀ c, c ≠ 0 → c ≠ 5 → v2 c = v c := fun c h1 h2 => by rw [b7.1 c h1, pw_n _ _ _ h2, a6.1 c h1]
      have t5 : v2 5 = upd (v 5) (2 * o) (nI x) := by rw [b7.1 5 (by omega), pw_s, a6.1 5 (by omega)]
      have t07 : pw v2 5 (2 * o + 1) (nI y) 0 7 = nI o := by rw [pw_n _ _ _ (by omega), t0 7 (by omega) (by omega)]; exact o2
      rw [b3', b4', Option.bind_some, Option.bind_some]
      simp only [dl, Option.bind_some]
      rw [q04, t07, show nI o + (1 : Int32) = nI (o + 1) from nI_add o 1]
      refine end_g B (r1 := pw (pw r2 9 o (nI y)) 0 4 (nI (o + 1))) (((b6.tp hR1).w (by omega) (by omega)).w (by omega) (by omega)) (((hM1.mo b7).mf MF.w5).mf (MF.w (by omega) (by omega) (by omega))) ?_ ?_ (p := e2) ?_ (by omega) b11 (b12.cg (fun j _ _ => by rw [w_n (by omega), pw_n _ _ _ (by omega)])) ⟨n, o + 1, g, sp P o x, sp Q o y, max H (x + 1), ?_, ?_, ?_, d4, d5, ?_, ?_, ?_⟩ ((((hm.tr a6.mf).tr MF.w5).tr b7.mf).tr (MF.w5.tr (MF.w (by omega) (by omega) (by omega))))
      · rw [w_n (by omega), pw_n _ _ _ (by omega), q0]; exact h7
      · rw [w_n (by omega), pw_n _ _ _ (by omega), q0]; exact h6
      · rw [pw_n _ _ _ (by omega), pw_n _ _ _ (by omega)]; exact b9
      · refine d1.cg (fun i hi => ?_)
        show pw (pw r2 9 o (nI y)) 0 4 (nI (o + 1)) (3 + i) = _
        rw [pw_n _ _ _ (by omega), pw_n _ _ _ (by omega), qc _ (by omega) (by omega) (by omega)]
        rfl
      · intro i hi
        rw [pw_n _ _ _ (by omega), pw_n _ _ _ (by omega), tc 4 (by omega) (by omega)]
        exact d2 i hi
      · rw [w_n (by omega), pw_n _ _ _ (by omega), t0 5 (by omega) (by omega)]; exact d3
      · unfold FRE at d6 ⊢
        rw [w_n (by omega), pw_n _ _ _ (by omega), q0, w_n (by omega), pw_n _ _ _ (by omega), t0 6 (by omega) (by omega)]
        rcases d6 with d6 | ⟨y1, y2, y3⟩
        · exact Or.inl d6
        · exact Or.inr ⟨y1, y2, by omega⟩
      · refine ⟨w_s, w_s, by omega, fun i hi => ?_⟩
        rw [pw_n _ _ _ (by omega), pw_n _ _ _ (by omega), q8, pw_n _ _ _ (by omega), pw_s, qc 9 (by omega) (by omega) (by omega), pw_n _ _ _ (by omega), pw_s, t5]
        by_cases qi : i = o
        · subst qi
          rw [up_s, up_s, up_n (by omega), up_s, up_s, sp_s, sp_s]
          exact ⟨rfl, rfl, rfl, rfl, b1, b2, by omega⟩
        · rw [up_n qi, up_n qi, up_n (by omega), up_n (by omega), up_n (by omega), up_n (by omega), sp_n _ _ qi, sp_n _ _ qi]
          obtain ⟨y1, y2, y3, y4, y5, y6, y7⟩ := o4 i (by omega)
          exact ⟨y1, y2, y3, y4, y5, y6, by omega⟩
      · obtain ⟨l1, l2, l3⟩ := d8
        refine ⟨by omega, ?_, ?_⟩
        · rw [w_n (by omega), pw_n _ _ _ (by omega), t09, a11 b8', l2]
          exact hn_ l1 a1
        · rw [w_n (by omega), pw_n _ _ _ (by omega), q0]
          by_cases q : H ≤ x + 1
          · exact Or.inr (Or.inr ⟨o, by omega, by rw [sp_s]; omega⟩)
          · rcases l3 with l3 | l3 | ⟨i, i1, i2⟩
            · omega
            · exact Or.inr (Or.inl ⟨l3.1, by omega⟩)
            · exact Or.inr (Or.inr ⟨i, by omega, by rw [sp_n _ _ (by omega)]; omega⟩)
