/-! PURE: a text -/
theorem kd_ (v : Nat → Nat → Int32) : ∀ (f k : Nat) (w : Nat → Nat → Int32), (∀ c, c ≠ 1 → w c = v c) → (∀ i, i < k → w 1 i = v 4 i) → (∀ i, k ≤ i → w 1 i = v 1 i) → k ≤ 41 → 41 - k < f → ∃ v', d_M_keepDraft_2 f w (nI k) = some v' ∧ (∀ i, i < 41 → v' 1 i = v 4 i) ∧ (∀ i, 41 ≤ i → v' 1 i = v 1 i) ∧ v' 0 3 = v 0 5 ∧ (∀ j, j ≠ 3 → v' 0 j = v 0 j) ∧ v' 3 0 = 0 ∧ v' 3 1 = 0 ∧ ∀ c, c ≠ 0 → c ≠ 1 → c ≠ 3 → v' c = v c := by
  intro f
  induction f with
  | zero => intro k w _ _ _ _ hf; omega
  | succ f ih =>
    intro k w h1 h2 h3 hk hf
    have z0 : (0 : Int32).toNatClampNeg = 0 := rfl
    have z1 : (1 : Int32).toNatClampNeg = 1 := rfl
    have zb : vp_nar .boolean (0 : Int32) = 0 := rfl
    rw [d_M_keepDraft_2, k_41]
    by_cases hc : 41 ≤ k
    · rw [if_pos ((qb_leI (by omega) (by omega)).mpr hc), dlE2, z0, z1, zb]
      refine ⟨_, rfl, fun i hi => ?_, fun i hi => ?_, ?_, fun j hj => ?_, ?_, ?_, fun c c1 c2 c3 => ?_⟩
      · rw [pw_n _ _ _ (by omega), pw_n _ _ _ (by omega), pw_n _ _ _ (by omega)]; exact h2 i (by omega)
      · rw [pw_n _ _ _ (by omega), pw_n _ _ _ (by omega), pw_n _ _ _ (by omega)]; exact h3 i (by omega)
      · rw [pw_n _ _ _ (by omega), pw_n _ _ _ (by omega), w_s, h1 0 (by omega)]
      · rw [pw_n _ _ _ (by omega), pw_n _ _ _ (by omega), w_n hj, h1 0 (by omega)]
      · rw [pw_s, up_n (by omega), pw_s, up_s]
      · rw [pw_s, up_s]
      · rw [pw_n _ _ _ c3, pw_n _ _ _ c3, pw_n _ _ _ c1]; exact h1 c c2
    · rw [if_neg (fun z => hc ((qb_leI (by omega) (by omega)).mp z)), qb_gt (show k < 41 by omega) (by omega), if_pos rfl, qb_gt (show k < 123 by omega) (by omega), if_pos rfl, qb_cl (by omega), dlE2, dlE2, dlE2, show nI k + (1 : Int32) = nI (k + 1) from nI_add k 1, h1 4 (by omega)]
      refine ih (k + 1) _ (fun c hc => by rw [pw_n _ _ _ hc]; exact h1 c hc) (fun i hi => ?_) (fun i hi => ?_) (by omega) (by omega)
      · rw [pw_s]
        by_cases q : i = k
        · rw [q, up_s]
        · rw [up_n q]; exact h2 i (by omega)
      · rw [pw_s, up_n (by omega)]; exact h3 i (by omega)
theorem M_kd (v : Nat → Nat → Int32) : ∃ v', d_M_keepDraft v = some v' ∧ (∀ i, i < 41 → v' 1 i = v 4 i) ∧ (∀ i, 41 ≤ i → v' 1 i = v 1 i) ∧ v' 0 3 = v 0 5 ∧ (∀ j, j ≠ 3 → v' 0 j = v 0 j) ∧ v' 3 0 = 0 ∧ v' 3 1 = 0 ∧ ∀ c, c ≠ 0 → c ≠ 1 → c ≠ 3 → v' c = v c := kd_ v FU 0 v (fun _ _ => rfl) (fun i hi => by omega) (fun _ _ => rfl) (by omega) (by show 41 - 0 < 10000; omega)
def dg (i : Nat) : Nat := if i = 16 then 3 else 0
theorem fd_ (v : Nat → Nat → Int32) : ∀ (f k : Nat) (w : Nat → Nat → Int32), (∀ c, c ≠ 4 → w c = v c) → (∀ i, i < k → w 4 i = 0) → k ≤ 41 → 41 - k < f → ∃ v', d_M_firstDraft_2 f w (nI k) = some v' ∧ (∀ i, i < 41 → v' 4 i = nI (dg i)) ∧ v' 0 5 = 0 ∧ v' 0 6 = 0 ∧ v' 0 7 = 0 ∧ v' 0 9 = -4 ∧ (∀ j, j ≠ 5 → j ≠ 6 → j ≠ 7 → j ≠ 9 → v' 0 j = v 0 j) ∧ ∀ c, c ≠ 0 → c ≠ 4 → v' c = v c := by
  intro f
  induction f with
  | zero => intro k w _ _ _ hf; omega
  | succ f ih =>
    intro k w h1 h2 hk hf
    have z16 : (16 : Int32).toNatClampNeg = 16 := rfl
    rw [d_M_firstDraft_2, k_41]
    by_cases hc : 41 ≤ k
    · rw [if_pos ((qb_leI (by omega) (by omega)).mpr hc), z16]
      refine ⟨_, rfl, fun i hi => ?_, ?_, ?_, ?_, ?_, fun j j1 j2 j3 j4 => ?_, fun c c1 c2 => ?_⟩
      · rw [pw_n _ _ _ (by omega), pw_n _ _ _ (by omega), pw_n _ _ _ (by omega), pw_n _ _ _ (by omega), pw_s]
        unfold dg
        by_cases q : i = 16
        · rw [q, up_s, if_pos rfl]; rfl
        · rw [up_n q, if_neg q, h2 i (by omega)]; rfl
      · rw [w_n (by omega), w_n (by omega), w_n (by omega), w_s]
      · rw [w_n (by omega), w_n (by omega), w_s]
      · rw [w_n (by omega), w_s]
      · rw [w_s]
      · rw [w_n j4, w_n j3, w_n j2, w_n j1, pw_n _ _ _ (by omega), h1 0 (by omega)]
      · rw [pw_n _ _ _ c1, pw_n _ _ _ c1, pw_n _ _ _ c1, pw_n _ _ _ c1, pw_n _ _ _ c2]; exact h1 c c2
    · rw [if_neg (fun z => hc ((qb_leI (by omega) (by omega)).mp z)), qb_gt (show k < 41 by omega) (by omega), if_pos rfl, qb_cl (by omega), dlE2, dlE2, show nI k + (1 : Int32) = nI (k + 1) from nI_add k 1]
      refine ih (k + 1) _ (fun c hc => by rw [pw_n _ _ _ hc]; exact h1 c hc) (fun i hi => ?_) (by omega) (by omega)
      rw [pw_s]
      by_cases q : i = k
      · rw [q, up_s]
      · rw [up_n q]; exact h2 i (by omega)
theorem M_fd (v : Nat → Nat → Int32) : ∃ v', d_M_firstDraft v = some v' ∧ (∀ i, i < 41 → v' 4 i = nI (dg i)) ∧ v' 0 5 = 0 ∧ v' 0 6 = 0 ∧ v' 0 7 = 0 ∧ v' 0 9 = -4 ∧ (∀ j, j ≠ 5 → j ≠ 6 → j ≠ 7 → j ≠ 9 → v' 0 j = v 0 j) ∧ ∀ c, c ≠ 0 → c ≠ 4 → v' c = v c := fd_ v FU 0 v (fun _ _ => rfl) (fun i hi => by omega) (by omega) (by show 41 - 0 < 10000; omega)
/-- what a text leaves -/
def XR (v r' : Nat → Nat → Int32) (Y : Option (Int32 × (Nat → Nat → Int32))) : Prop := (¬ r' 0 7 = 0 ∧ ∃ v', Y = some ((-10 : Int32) - r' 0 8, v') ∧ v' 0 16 = r' 0 7 ∧ v' 0 11 = 0 ∧ v' 0 3 = v 0 3 ∧ v' 0 26 = v 0 26 ∧ ∀ c, c ≠ 0 → c ≠ 4 → c ≠ 5 → v' c = v c) ∨ (r' 0 7 = 0 ∧ ∃ n g v', Y = some (r' 0 6, v') ∧ v' 0 16 = 0 ∧ v' 0 11 = 0 ∧ v' 0 3 = nI n ∧ v' 0 26 = v 0 26 ∧ v' 3 0 = 0 ∧ v' 3 1 = 0 ∧ v' 1 22 = 0 ∧ CR (sh r' 3) (v' 1) n g ∧ ∀ c, c ≠ 0 → c ≠ 1 → c ≠ 3 → c ≠ 4 → c ≠ 5 → v' c = v c)
theorem XR.mf {v v1 r' : Nat → Nat → Int32} {Y : Option (Int32 × (Nat → Nat → Int32))} (h : XR v1 r' Y) (m : MF v v1) : XR v r' Y := by
  rcases h with ⟨h1, v', h2, h3, h4, h5, h6, h7⟩ | ⟨h1, n, g, v', h2, h3, h4, h5, h6, h7, h8, h9, h10, h11⟩
  · exact Or.inl ⟨h1, v', h2, h3, h4, by rw [h5, m.2 3 (by omega)], by rw [h6, m.2 26 (by omega)], fun c c1 c2 c3 => by rw [h7 c c1 c2 c3, m.1 c c1 c2 c3]⟩
  · exact Or.inr ⟨h1, n, g, v', h2, h3, h4, h5, by rw [h6, m.2 26 (by omega)], h7, h8, h9, h10, fun c c1 c2 c3 c4 c5 => by rw [h11 c c1 c2 c3 c4 c5, m.1 c c1 c4 c5]⟩
theorem t84_f {r w : Nat → Nat → Int32} (h : FLT r w) (x : Int32) : d_M_text_84 w x = some ((-10 : Int32) - r 0 8, pw w 0 11 0) := by
  obtain ⟨a, p, h0, h1, h2, h3, h4⟩ := h
  unfold d_M_text_84
  rw [h3, if_neg (Int32.not_le.mpr h0), h4, h2]
theorem t44_f {r w : Nat → Nat → Int32} (h : FLT r w) (x : Int32) : d_M_text_44 w x = some ((-10 : Int32) - r 0 8, pw w 0 11 0) := by
  unfold d_M_text_44 d_M_text_73
  rw [if_neg h.n, if_neg h.n]
  exact t84_f h x
theorem XR.f {r w v : Nat → Nat → Int32} (h : FLT r w) (m : MF v w) : XR v r (some ((-10 : Int32) - r 0 8, pw w 0 11 0)) := by
  left
  refine ⟨h.m, _, rfl, ?_, w_s, by rw [w_n (by omega), m.2 3 (by omega)], by rw [w_n (by omega), m.2 26 (by omega)], fun c c1 c2 c3 => by rw [pw_n _ _ _ c1, m.1 c c1 c2 c3]⟩
  obtain ⟨a, p, h0, h1, h2, h3, h4⟩ := h
  rw [w_n (by omega), h3, h1]
theorem r98_f {r w : Nat → Nat → Int32} (h : FLT r w) : d_R_takeText_98 r = some r := by
  unfold d_R_takeText_98 d_R_takeText_109
  rw [if_neg h.m, if_neg h.m]
theorem r44_f {r w : Nat → Nat → Int32} (h : FLT r w) (f : Nat) (x y : Int32) : d_R_takeText_44 (f + 1) r x y = some r := by
  rw [d_R_takeText_44, if_neg h.m, r98_f h, ite_self]
/-- the end of the text -/
theorem tx_end {t m : Nat} {r v : Nat → Nat → Int32} (r7 : r 0 7 = 0) (r12 : r 1 2 = nI t) (v16 : v 0 16 = 0) (v13 : v 0 13 = nI t) (r6 : r 0 6 = nI m) (D : DRx r v) : ∃ r', d_R_takeText_98 r = some r' ∧ XR v r' (d_M_text_44 v (nI m)) := by
  obtain ⟨n, o, g, P, Q, H, D⟩ := D
  have ch := ch_ r7 D
  obtain ⟨d1, d2, d3, d4, d5, d6, d7, d8⟩ := D
  obtain ⟨o1, o2, o3, o4⟩ := d7
  obtain ⟨l1, l2, l3⟩ := d8
  have hle : (v 0 5 ≤ v 0 9) ↔ n < H := by
    rw [d3, l2]
    by_cases q : H = 0
    · rw [if_pos q]
      constructor
      · intro z
        rw [qb_le, nI_toInt (by omega)] at z
        have : (-4 : Int32).toInt = -4 := by decide
        omega
      · omega
    · rw [if_neg q, qb_leI (by omega) (by omega)]
      omega
  unfold d_R_takeText_98 d_M_text_44 d_M_text_68
  rw [if_pos r7, if_pos v16]
  by_cases q : n < H
  · have fl : FLT (pw (pw r 0 7 6) 0 8 (r 1 2)) (pw (pw v 0 16 6) 0 17 (v 0 13)) := FLT.mk (a := 6) (x := nI t) (by decide) w7 (by rw [w_s]; exact r12) w16 (by rw [w_s]; exact v13)
    rw [ch.2 q, Option.bind_some, if_pos (hle.mpr q), M_needs0 v16, Option.bind_some]
    unfold d_R_takeText_109 d_M_text_73
    rw [if_neg fl.m, if_neg fl.n, t84_f fl]
    exact ⟨_, rfl, XR.f fl mo16.mf⟩
  · rw [ch.1 (by omega), Option.bind_some, if_neg (fun z => q (hle.mp z)), M_needs1, Option.bind_some]
    unfold d_R_takeText_109 d_M_text_73 d_R_makeOffers d_M_offersCome
    rw [if_pos r7, if_pos v16]
    have I : sInv n g := by
      refine ⟨d4, fun z => ?_, fun z => ?_, d5.1, d5.2.1, d5.2.2.1, d5.2.2.2.1, d5.2.2.2.2.1⟩
      · rcases d6 with f | f
        · exact f.2.2
        · have := f.2.2; omega
      · rcases d6 with f | f
        · rw [f.2.2]; exact z
        · have := f.2.2; omega
    have z19 := d5.2.2.2.2.2.2 19 (by omega)
    have z20 := d5.2.2.2.2.2.2 20 (by omega)
    have z22 := d5.2.2.2.2.2.2 22 (by omega)
    rcases mo_ (t := t) (P := P) (Q := Q) d4 o3 FU 0 g r v r7 r12 v16 v13 o1 o2 (fun j hj => by
        obtain ⟨y1, y2, y3, y4, y5, y6, y7⟩ := o4 j hj
        exact ⟨y1, y2, y3, y4, y5, y6, by omega⟩) d1 d2 I z19 z20 z22 (by omega) (by show o - 0 + 1 < 10000; omega) with ⟨⟨r', v', a1, a2, a3, a4⟩, v'', a5, a6⟩ | ⟨r', v', g', a1, a2, a3, a4, a5, a6, a7, a8, a9, a10⟩
    · have a1' : d_R_makeOffers_2 FU r 0 = some r' := a1
      have a2' : d_M_offersCome_2 FU v 0 = some v' := a2
      rw [a2] at a5
      have ee := Option.some.inj a5
      rw [← ee] at a6
      rw [a1', Option.bind_some, a2', Option.bind_some, t84_f a3]
      exact ⟨_, rfl, XR.f a3 ⟨fun c c1 c2 _ => a4 c c1 c2, fun j hj => a6 j (by omega) (by omega)⟩⟩
    · have a1' : d_R_makeOffers_2 FU r 0 = some r' := a1
      have a2' : d_M_offersCome_2 FU v 0 = some v' := a2
      rw [a1', Option.bind_some, a2', Option.bind_some]
      unfold d_M_text_84
      rw [a4 0 (by omega), v16, if_pos (by decide)]
      obtain ⟨w, b1, b2, b3, b4, b5, b6, b7, b8⟩ := M_kd (pw v' 0 11 0)
      rw [b1, Option.bind_some]
      refine ⟨r', rfl, Or.inr ⟨by rw [a3]; exact r7, n, g', w, by rw [a3, r6], ?_, ?_, ?_, ?_, b6, b7, ?_, ⟨a5, fun i hi => ?_, a7, by omega, by omega⟩, fun c c1 c2 c3 c4 c5 => ?_⟩⟩
      · rw [b5 16 (by omega), w_n (by omega), a4 0 (by omega)]; exact v16
      · rw [b5 11 (by omega), w_s]
      · rw [b4, w_n (by omega), a4 0 (by omega)]; exact d3
      · rw [b5 26 (by omega), w_n (by omega), a4 0 (by omega)]
      · rw [b2 22 (by omega), pw_n _ _ _ (by omega), a6 22 (by omega), a10]; rfl
      · rw [b2 i (by omega), pw_n _ _ _ (by omega)]; exact a6 i (by omega)
      · rw [b8 c c1 c2 c3, pw_n _ _ _ c1]; exact a4 c c4
theorem tx_ {b : Nat → Nat} {t : Nat} (B : BT b t) : ∀ (f m s : Nat) (r v : Nat → Nat → Int32), TP b t (sh r 1) → MP b t v → r 0 7 = 0 → r 0 6 = nI m → s ≤ t → r 1 1 = nI (tE b t s) → r 1 3 = nI s → TKN b t s v → DRx r v → (tK b t s ≠ 0 → m + 1 ≤ tE b t s) → m ≤ 160 → 200 - m < f → ∃ r', d_R_takeText_44 f r (nI (tK b t s)) (nI m) = some r' ∧ XR v r' (d_M_text_20 f v (nI m)) := by
  have h160 := B.1
  intro f
  induction f with
  | zero => intro m s r v _ _ _ _ _ _ _ _ _ _ _ hf; omega
  | succ f ih =>
    intro m s r v hT hM r7 r6 hs r11 r13 hk D hm hm2 hf
    obtain ⟨f', rfl⟩ : ∃ f', f = f' + 1 := ⟨f - 1, by omega⟩
    have el := tE_le (b := b) hs
    have kl := tK_le (b := b) (t := t) (s := s)
    have r12 : r 1 2 = nI t := hT.1
    rw [d_R_takeText_44, d_M_text_20, if_pos r7]
    have h0 : (nI (tK b t s) = (0 : Int32)) ↔ tK b t s = 0 := qb_eqI (b := 0) (by omega) (by omega)
    by_cases q0 : tK b t s = 0
    · have hst := tK_0.mp q0
      obtain ⟨v16, v14, -⟩ := hk.2.2.2 (by omega)
      have v13 : v 0 13 = nI t := by rw [hk.2.1, show s = t by omega]
      rw [if_pos (h0.mpr q0), ite_self, if_pos v16, v14, if_pos (h0.mpr q0)]
      exact tx_end r7 r12 v16 v13 r6 D
    · have hmt := hm q0
      rw [if_neg (show ¬ (160 : Int32) ≤ nI m from fun z => by have := (qb_leI (a := 160) (by omega) (by omega)).mp z; omega), if_neg (fun z => q0 (h0.mp z))]
      have e1 : nI m + (1 : Int32) = nI (m + 1) := nI_add m 1
      unfold d_R_takeText_92
      simp only [dl, e1]
      by_cases q4 : tK b t s = 4
      · obtain ⟨m1, m2⟩ := hk.2.2.1 q4
        have fl : FLT (pw (pw r 0 7 1) 0 8 (nI s)) v := FLT.mk (a := 1) (x := nI s) (by decide) w7 w_s m1 m2
        have tl : d_R_takeLine r (nI (tK b t s)) = some (pw (pw r 0 7 1) 0 8 (nI s)) := by
          rw [q4]
          unfold d_R_takeLine d_R_takeLine_14
          rw [if_neg (by decide), if_neg (by decide), if_neg (by decide), if_neg (by decide), if_pos rfl, refuse r7 r13 (by omega), if_pos rfl, Option.bind_some, (stop_f fl).1]
        rw [tl, Option.bind_some, if_neg fl.m, r44_f fl, if_neg fl.n, t44_f fl]
        exact ⟨_, rfl, XR.f fl MF.rf⟩
      · obtain ⟨v16, v14, -⟩ := hk.2.2.2 q4
        rw [if_pos v16, v14, if_neg (fun z => q0 (h0.mp z))]
        rcases line_ B hT hM hs r7 r11 r13 hk q4 D with ⟨r1, v1, a1, a2, a3, a4⟩ | ⟨r1, v1, p, a1, a2, a3, a4, a5, a6, a7, a8, a9, a10, a11, a12⟩
        · rw [a1, a2, Option.bind_some, Option.bind_some, if_neg a3.m, r44_f a3, d_M_text_20, if_neg a3.n, t44_f a3]
          exact ⟨_, rfl, XR.f a3 a4⟩
        · rw [a1, a2, Option.bind_some, Option.bind_some, if_pos a7, a8, r6, e1]
          have hT1 : TP b t (sh (pw r1 0 6 (nI (m + 1))) 1) := a5.w (by omega) (by omega)
          obtain ⟨c', b1, b2, b3, b4, b5, b6, b7⟩ := R_tok B hT1 (by rw [pw_n _ _ _ (by omega)]; exact a9) a4
          rw [b1, Option.bind_some]
          have sl := tS_le (b := b) a4
          have el2 := tE_le (b := b) sl.2
          obtain ⟨n, o, g, P, Q, H, D1⟩ := a11
          obtain ⟨r', x1, x2⟩ := ih (m + 1) (tS b t p) (pt (pw r1 0 6 (nI (m + 1))) 1 2 c') v1 b7 a6 (by rw [b3, w_n (by omega)]; exact a7) (by rw [b3, w_s]) sl.2 b4 b5 a10 ⟨n, o, g, P, Q, H, D1.cg (fun c c1 c2 => by rw [b2.1 c c1 c2, pw_n _ _ _ c1]) (fun j hj => by rw [b3, w_n (by omega)]) (fun _ _ => rfl) (fun _ _ => rfl)⟩ (fun z => by
            have : tS b t p < t := by
              have := (not_congr (tK_0 (b := b) (t := t) (s := tS b t p))).mp z
              omega
            have := el2.2.2 this
            omega) (by omega) (by omega)
          exact ⟨r', x1, x2.mf a12⟩
