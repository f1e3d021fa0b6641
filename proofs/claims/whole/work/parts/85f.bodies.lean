/-! PURE: the bodies of lines -/
theorem fail_f {r w : Nat → Nat → Int32} (h : FLT r w) (a x : Int32) : d_R_fail r a x = some r := by
  unfold d_R_fail
  rw [if_neg h.m]
/-- a house's line -/
theorem cf_house {r r1 w : Nat → Nat → Int32} {x : Int32} {n : Nat} (a : Int32) (h4 : r 3 4 = nI n) (hn : n < 5) (e : d_R_takeNumber r 0 99 = some (x, r1)) (hr : RO r r1) (h : FLT r1 w) : ∃ r', d_R_takeHouse r a = some r' ∧ FLT r' w := by
  unfold d_R_takeHouse
  rw [h4, if_pos (show nI n < (5 : Int32) from (qb_ltI (b := 5) (by omega) (by omega)).mpr hn), e, Option.bind_some]
  have e4 : sh r1 3 0 4 = nI n := by show r1 3 4 = _; rw [hr.1 3 (by omega) (by omega)]; exact h4
  show ∃ r', ((d_C_addHouse (sh r1 3) a x).bind fun zr4 => some (pt r1 3 5 zr4)) = some r' ∧ _
  rw [C_add e4 hn, Option.bind_some]
  exact ⟨_, rfl, h.cg (by rw [pt_out (by omega)]) (by rw [pt_out (by omega)]) rfl rfl⟩
theorem b_house {b : Nat → Nat} {t p0 p n o L : Nat} {r v r0 v0 : Nat → Nat → Int32} {g P Q : Nat → Nat} {H : Nat} (B : BT b t) (hT : TP b t (sh r 1)) (hM : MP b t v) (h7 : r 0 7 = 0) (h6 : r 0 6 = r0 0 6) (h1 : r 1 1 = nI p) (hp0 : p0 ≤ p) (hp : p ≤ t) (hk : TKN b t (tS b t p) v) (D : DR r v n o g P Q H) (hn : n < 5) (hL : L ≤ 3) (hm : MF v0 v) : LR b t p0 r0 v0 ((d_R_takeHouse r (nI L)).bind d_R_takeLine_82) ((d_M_readLineOf v (nI L)).bind stp) := by
  have h160 := B.1
  obtain ⟨d1, d2, d3, d4, d5, d6, d7, d8⟩ := D
  have e34 : r 3 4 = nI n := d1.1
  have hlit : ∀ j : Nat, 4 ≤ j → j ≤ 6 → ¬ nI L = nI j := fun j h1 h2 z => by have := (qb_eqI (by omega) (by omega)).mp z; omega
  have hv : d_M_readLineOf v (nI L) = ((d_M_readNumber (pw v 4 n (nI L)) 0 99).bind fun zr27 => some (pw (pw zr27.2 4 (5 + n) zr27.1) 0 5 (zr27.2 0 5 + 1))) := by
    unfold d_M_readLineOf
    rw [if_neg (show ¬ nI L = (4 : Int32) from hlit 4 (by omega) (by omega)), if_neg (show ¬ nI L = (5 : Int32) from hlit 5 (by omega) (by omega)), if_neg (show ¬ nI L = (6 : Int32) from hlit 6 (by omega) (by omega)), d3, Int32.zero_add, qb_gt (show n < 41 by omega) (by omega), if_pos rfl, qb_cl (show n < 2147483648 by omega)]
    simp only [dl]
    have e5 : pw v 4 n (nI L) 0 5 = nI n := by rw [pw_n _ _ _ (by omega)]; exact d3
    rw [e5, k_5, nI_add, qb_gt (show 5 + n < 41 by omega) (by omega), qb_cl (show 5 + n < 2147483648 by omega)]
    simp only [if_true, pw_n _ _ _ (show (0 : Nat) ≠ 4 by omega)]
  have hMw : MP b t (pw v 4 n (nI L)) := hM.mf MF.w4
  rcases num_ B hT hMw h7 h1 hp (hk.cg (fun j _ _ => by rw [pw_n _ _ _ (by omega)])) (lo := 0) (hi := 99) (by omega) (by omega) with ⟨x, y, r1, v1, a1, a2, a3, a4, a5⟩ | ⟨w, r1, v1, e, a1, a2, a3, a4, a5, a6, a7, a8, a9, a10, a11, a12⟩
  · obtain ⟨r', c1, c2⟩ := cf_house (nI L) e34 hn a1 a4 a3
    have a2' : d_M_readNumber (pw v 4 n (nI L)) 0 99 = some (y, v1) := a2
    rw [c1, hv, a2', Option.bind_some, Option.bind_some, Option.bind_some]
    exact end_f (c2.cg rfl rfl (by rw [w_n (by omega), pw_n _ _ _ (by omega)]) (by rw [w_n (by omega), pw_n _ _ _ (by omega)])) (((hm.tr MF.w4).tr a5.mf).tr (MF.w4.tr (MF.w (by omega) (by omega) (by omega))))
  · have a3' : d_R_takeNumber r 0 99 = some (nI w, r1) := a3
    have a4' : d_M_readNumber (pw v 4 n (nI L)) 0 99 = some (nI w, v1) := a4
    have e4 : sh r1 3 0 4 = nI n := by show r1 3 4 = _; rw [a6.1 3 (by omega) (by omega)]; exact e34
    have e5 : v1 0 5 = nI n := by rw [a7.2 5 (by omega), pw_n _ _ _ (by omega)]; exact d3
    have hc : d_R_takeHouse r (nI L) = some (pt r1 3 5 (pw (pw (pw (pw (sh r1 3) 1 n (nI L)) 2 n (nI w)) 3 n 0) 0 4 (nI (n + 1)))) := by
      unfold d_R_takeHouse
      rw [e34, if_pos (show nI n < (5 : Int32) from (qb_ltI (b := 5) (by omega) (by omega)).mpr hn), a3', Option.bind_some]
      show ((d_C_addHouse (sh r1 3) (nI L) (nI w)).bind fun zr4 => some (pt r1 3 5 zr4)) = _
      rw [C_add e4 hn, Option.bind_some]
    rw [hc, hv, a4', Option.bind_some, Option.bind_some, Option.bind_some]
    show LR b t p0 r0 v0 _ (stp (pw (pw v1 4 (5 + n) (nI w)) 0 5 (v1 0 5 + 1)))
    rw [e5, show nI n + (1 : Int32) = nI (n + 1) from nI_add n 1]
    have ec1 : EC (sh r1 3) n g 0 0 := d1.cg (fun i hi => a6.1 (3 + i) (by omega) (by omega))
    have bd10 := d5.2.2.2.2.2.1 n hn
    have o0 : ∀ c, c < 3 ∨ 8 ≤ c → pt r1 3 5 (pw (pw (pw (pw (sh r1 3) 1 n (nI L)) 2 n (nI w)) 3 n 0) 0 4 (nI (n + 1))) c = r1 c := fun c hc => pt_out (by omega)
    refine end_g B (r1 := pt r1 3 5 _) ⟨?_, fun i hi => ?_⟩ (((hMw.mo a7).mf MF.w4).mf (MF.w (by omega) (by omega) (by omega))) ?_ ?_ (p := e) ?_ (by omega) a11 (a12.cg (fun j _ _ => by rw [w_n (by omega), pw_n _ _ _ (by omega)])) ⟨n + 1, o, sp (sp g n L) (5 + n) w, P, Q, H, ?_, ?_, ?_, by omega, ?_, ?_, ?_, ?_⟩ (((hm.tr MF.w4).tr a7.mf).tr (MF.w4.tr (MF.w (by omega) (by omega) (by omega))))
    · show pt r1 3 5 _ 1 2 = _
      rw [o0 1 (by omega), a6.2.2]; exact hT.1
    · show pt r1 3 5 _ 2 i = _
      rw [o0 2 (by omega), a6.1 2 (by omega) (by omega)]; exact hT.2 i hi
    · rw [o0 0 (by omega), a5]; exact h7
    · rw [o0 0 (by omega), a5]; exact h6
    · rw [o0 1 (by omega)]; exact a9
    · exact (ec1.add hn L w bd10).cg (fun i hi => pt_in (by omega))
    · intro i hi
      rw [pw_n _ _ _ (by omega), pw_s]
      by_cases q : i = 5 + n
      · rw [q, up_s, sp_s]
      · rw [up_n q, sp_n _ _ q, a7.1 4 (by omega), pw_s]
        by_cases q2 : i = n
        · rw [q2, up_s, sp_s]
        · rw [up_n q2, sp_n _ _ q2]; exact d2 i hi
    · rw [w_s]
    · obtain ⟨b1, b2, b3, b4, b5, b6, b7⟩ := d5
      refine ⟨by rw [sp_n _ _ (by omega), sp_n _ _ (by omega)]; exact b1, by rw [sp_n _ _ (by omega), sp_n _ _ (by omega)]; exact b2, by rw [sp_n _ _ (by omega), sp_n _ _ (by omega)]; exact b3, fun h hh => ?_, fun h hh => ?_, fun h hh => by rw [sp_n _ _ (by omega), sp_n _ _ (by omega)]; exact b6 h hh, fun i hi => by rw [sp_n _ _ (by omega), sp_n _ _ (by omega)]; exact b7 i hi⟩
      · by_cases q : h = n
        · rw [q, sp_s]; omega
        · rw [sp_n _ _ (by omega), sp_n _ _ (by omega)]; exact b4 h hh
      · rw [sp_n _ _ (by omega)]
        by_cases q : h = n
        · rw [q, sp_s]; omega
        · rw [sp_n _ _ q]; exact b5 h hh
    · unfold FRE
      rw [o0 0 (by omega), a5, w_n (by omega), pw_n _ _ _ (by omega), a7.2 6 (by omega), pw_n _ _ _ (by omega), sp_n _ _ (by omega), sp_n _ _ (by omega)]
      exact d6
    · unfold OFF
      rw [o0 0 (by omega), a5, o0 8 (by omega), o0 9 (by omega), a6.1 8 (by omega) (by omega), a6.1 9 (by omega) (by omega), w_n (by omega), pw_n _ _ _ (by omega), a7.2 7 (by omega), pw_n _ _ _ (by omega), pw_n _ _ _ (by omega), pw_n _ _ _ (by omega), a7.1 5 (by omega), pw_n _ _ _ (by omega)]
      exact d7
    · unfold HNM
      rw [o0 0 (by omega), a5, w_n (by omega), pw_n _ _ _ (by omega), a7.2 9 (by omega), pw_n _ _ _ (by omega), sp_n _ _ (by omega), sp_n _ _ (by omega)]
      exact d8
