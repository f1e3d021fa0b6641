/-! PURE: the call of text -/
theorem tt_start (c0 : Nat → Nat → Int32) : ∃ X, d_R_takeText c0 = ((d_T_takeToken (sh X 1)).bind fun z => d_R_takeText_44 FU (pt X 1 2 z.2) z.1 0) ∧ X 1 1 = 0 ∧ X 1 2 = c0 1 2 ∧ X 2 = c0 2 ∧ X 0 4 = 0 ∧ X 0 5 = 0 ∧ X 0 6 = 0 ∧ X 0 7 = 0 ∧ X 3 4 = 0 ∧ X 3 5 = 0 ∧ X 3 6 = 3 ∧ X 3 7 = 0 ∧ X 3 8 = 0 ∧ X 3 9 = 0 ∧ X 3 10 = 0 ∧ X 3 11 = 0 := by
  unfold d_R_takeText
  have hr : d_T_rewind (sh c0 1) = some (pw (pw (sh c0 1) 0 1 0) 0 3 0) := rfl
  rw [hr, Option.bind_some]
  generalize hA : pt c0 1 2 (pw (pw (sh c0 1) 0 1 0) 0 3 0) = A
  have a11 : A 1 1 = 0 := by rw [← hA, pt_at (by omega) (by omega), Nat.sub_self, w_n (by omega), w_s]
  have a12 : A 1 2 = c0 1 2 := by rw [← hA, pt_at (by omega) (by omega), Nat.sub_self, w_n (by omega), w_n (by omega)]; rfl
  have a2 : A 2 = c0 2 := by rw [← hA, pt_at (by omega) (by omega), pw_n _ _ _ (by omega), pw_n _ _ _ (by omega)]; rfl
  have hc : ∃ C, d_C_clear (sh A 3) = some C ∧ C 0 4 = 0 ∧ C 0 5 = 0 ∧ C 0 6 = 3 ∧ C 0 7 = 0 ∧ C 0 8 = 0 ∧ C 0 9 = 0 ∧ C 0 10 = 0 ∧ C 0 11 = 0 := by
    refine ⟨_, rfl, ?_, ?_, ?_, ?_, ?_, ?_, ?_, ?_⟩
    · rw [w_n (by omega), w_n (by omega), w_n (by omega), w_n (by omega), w_n (by omega), w_n (by omega), w_n (by omega), w_s]
    · rw [w_n (by omega), w_n (by omega), w_n (by omega), w_n (by omega), w_n (by omega), w_n (by omega), w_s]
    · rw [w_n (by omega), w_n (by omega), w_n (by omega), w_n (by omega), w_n (by omega), w_s]
    · rw [w_n (by omega), w_n (by omega), w_n (by omega), w_n (by omega), w_s]
    · rw [w_n (by omega), w_n (by omega), w_n (by omega), w_s]
    · rw [w_n (by omega), w_n (by omega), w_s]
    · rw [w_n (by omega), w_s]
    · rw [w_s]
  obtain ⟨C, c1, c4, c5, c6, c7, c8, c9, c10, c11⟩ := hc
  rw [c1, Option.bind_some]
  generalize hE : pt A 3 5 C = E
  have e1 : E 1 = A 1 := by rw [← hE]; exact pt_out (by omega)
  have e2 : E 2 = A 2 := by rw [← hE]; exact pt_out (by omega)
  have e3 : E 3 = C 0 := by rw [← hE]; exact pt_at (by omega) (by omega)
  refine ⟨_, rfl, ?_, ?_, ?_, ?_, ?_, ?_, ?_, ?_, ?_, ?_, ?_, ?_, ?_, ?_, ?_⟩
  · rw [pw_n _ _ _ (by omega), pw_n _ _ _ (by omega), pw_n _ _ _ (by omega), pw_n _ _ _ (by omega), e1]; exact a11
  · rw [pw_n _ _ _ (by omega), pw_n _ _ _ (by omega), pw_n _ _ _ (by omega), pw_n _ _ _ (by omega), e1]; exact a12
  · rw [pw_n _ _ _ (by omega), pw_n _ _ _ (by omega), pw_n _ _ _ (by omega), pw_n _ _ _ (by omega), e2]; exact a2
  · rw [w_n (by omega), w_n (by omega), w_n (by omega), w_s]
  · rw [w_n (by omega), w_n (by omega), w_s]
  · rw [w_n (by omega), w_s]
  · rw [w_s]
  · rw [pw_n _ _ _ (by omega), pw_n _ _ _ (by omega), pw_n _ _ _ (by omega), pw_n _ _ _ (by omega), e3]; exact c4
  · rw [pw_n _ _ _ (by omega), pw_n _ _ _ (by omega), pw_n _ _ _ (by omega), pw_n _ _ _ (by omega), e3]; exact c5
  · rw [pw_n _ _ _ (by omega), pw_n _ _ _ (by omega), pw_n _ _ _ (by omega), pw_n _ _ _ (by omega), e3]; exact c6
  · rw [pw_n _ _ _ (by omega), pw_n _ _ _ (by omega), pw_n _ _ _ (by omega), pw_n _ _ _ (by omega), e3]; exact c7
  · rw [pw_n _ _ _ (by omega), pw_n _ _ _ (by omega), pw_n _ _ _ (by omega), pw_n _ _ _ (by omega), e3]; exact c8
  · rw [pw_n _ _ _ (by omega), pw_n _ _ _ (by omega), pw_n _ _ _ (by omega), pw_n _ _ _ (by omega), e3]; exact c9
  · rw [pw_n _ _ _ (by omega), pw_n _ _ _ (by omega), pw_n _ _ _ (by omega), pw_n _ _ _ (by omega), e3]; exact c10
  · rw [pw_n _ _ _ (by omega), pw_n _ _ _ (by omega), pw_n _ _ _ (by omega), pw_n _ _ _ (by omega), e3]; exact c11
theorem tx_all {b : Nat → Nat} {t : Nat} {c0 v : Nat → Nat → Int32} (B : BT b t) (h2 : c0 1 2 = nI t) (hb : ∀ i, i < t → c0 2 i = nI (b i)) (hM : MP b t v) : ∃ r', d_R_takeText c0 = some r' ∧ XR v r' (d_M_text v) := by
  have h160 := B.1
  obtain ⟨X, x0, x11, x12, x2, x04, x05, x06, x07, x34, x35, x36, x37, x38, x39, x310, x311⟩ := tt_start c0
  have hT : TP b t (sh X 1) := ⟨by show X 1 2 = _; rw [x12]; exact h2, fun i hi => by show X 2 i = _; rw [x2]; exact hb i hi⟩
  obtain ⟨c', b1, b2, b3, b4, b5, b6, b7⟩ := R_tok (p := 0) B hT x11 (by omega)
  have sl := tS_le (b := b) (t := t) (p := 0) (by omega)
  have el := tE_le (b := b) sl.2
  obtain ⟨w1, f1, f2, f3, f4, f5, f6, f7, f8⟩ := M_fd (pw (pw v 0 16 0) 0 12 0)
  have hM1 : MP b t w1 := ⟨by rw [f7 11 (by omega) (by omega) (by omega) (by omega), w_n (by omega), w_n (by omega)]; exact hM.1, fun i hi => by rw [f8 6 (by omega) (by omega), pw_n _ _ _ (by omega), pw_n _ _ _ (by omega)]; exact hM.2 i hi⟩
  obtain ⟨w2, n1, n2, n3⟩ := M_next_ (p := 0) B hM1 (by rw [f7 12 (by omega) (by omega) (by omega) (by omega), w_s]; rfl) (by rw [f7 16 (by omega) (by omega) (by omega) (by omega), w_n (by omega), w_s]) (by omega)
  have mf : MF v w2 := by
    refine ⟨fun c c1 c2 c3 => ?_, fun j hj => ?_⟩
    · rw [n2.1 c c1, f8 c c1 c2, pw_n _ _ _ c1, pw_n _ _ _ c1]
    · rw [n2.2 j (by omega), f7 j (by omega) (by omega) (by omega) (by omega), w_n (by omega), w_n (by omega)]
  have D : DR (pt X 1 2 c') w2 0 0 dg (fun _ => 0) (fun _ => 0) 0 := by
    have q3 : pt X 1 2 c' 3 = X 3 := b2.1 3 (by omega) (by omega)
    refine ⟨⟨?_, ?_, ?_, ?_, ?_, ?_, ?_, ?_, by omega, by omega, fun j hj => by omega⟩, fun i hi => ?_, ?_, by omega, ⟨by decide, by decide, by decide, fun h hh => ?_, fun h hh => ?_, fun h hh => ?_, fun i hi => ?_⟩, Or.inl ⟨?_, ?_, rfl⟩, ⟨?_, ?_, by omega, fun i hi => by omega⟩, ⟨by omega, ?_, Or.inl rfl⟩⟩
    · show pt X 1 2 c' 3 4 = _; rw [q3]; exact x34
    · show pt X 1 2 c' 3 5 = _; rw [q3]; exact x35
    · show pt X 1 2 c' 3 6 = _; rw [q3]; exact x36
    · show pt X 1 2 c' 3 7 = _; rw [q3]; exact x37
    · show pt X 1 2 c' 3 8 = _; rw [q3]; exact x38
    · show pt X 1 2 c' 3 9 = _; rw [q3]; exact x39
    · show pt X 1 2 c' 3 10 = _; rw [q3]; exact x310
    · show pt X 1 2 c' 3 11 = _; rw [q3]; exact x311
    · rw [n2.1 4 (by omega)]; exact f2 i hi
    · rw [n2.2 5 (by omega)]; exact f3
    · unfold dg; rw [if_neg (by omega)]; omega
    · unfold dg; rw [if_neg (by omega)]; omega
    · unfold dg; rw [if_neg (by omega)]
    · unfold dg; rw [if_neg (by omega)]
    · rw [b3]; exact x05
    · rw [n2.2 6 (by omega)]; exact f4
    · rw [b3]; exact x04
    · rw [n2.2 7 (by omega)]; exact f5
    · rw [n2.2 9 (by omega)]; exact f6
  obtain ⟨r', y1, y2⟩ := tx_ B FU 0 (tS b t 0) (pt X 1 2 c') w2 b7 (hM1.mo n2) (by rw [b3]; exact x07) (by rw [b3]; exact x06) sl.2 b4 b5 n3 ⟨0, 0, dg, _, _, 0, D⟩ (fun z => by
    have : tS b t 0 < t := by
      have := (not_congr (tK_0 (b := b) (t := t) (s := tS b t 0))).mp z
      omega
    have := el.2.2 this
    omega) (by omega) (by show 200 - 0 < 10000; omega)
  have y1' : d_R_takeText_44 FU (pt X 1 2 c') (nI (tK b t (tS b t 0))) 0 = some r' := y1
  refine ⟨r', ?_, ?_⟩
  · rw [x0, b1, Option.bind_some]
    exact y1'
  · have em : d_M_text v = d_M_text_20 FU w2 0 := by
      unfold d_M_text
      rw [f1, Option.bind_some, n1, Option.bind_some]
    rw [em]
    exact y2.mf mf
theorem p_text (u v : Nat → Nat → Int32) (h : Rel u v) : ∃ (r : Int32) (u2 : Nat → Nat → Int32) (v2 : Nat → Nat → Int32), d_F_text u = some (r, u2) ∧ d_M_text v = some (r, v2) ∧ Rel u2 v2 := by
  obtain ⟨N, g, h3, hC, hR⟩ := id h
  obtain ⟨t, b, t1, t2, t3, t4⟩ := hR.tp
  obtain ⟨r', a1, a2⟩ := tx_all (b := b) (t := t) (c0 := sh u 1) (v := v) ⟨t1, fun i hi => (t4 i hi).1⟩ t2 (fun i hi => (t4 i hi).2.1) ⟨t3, fun i hi => (t4 i hi).2.2⟩
  unfold d_F_text
  rw [a1, Option.bind_some, dlE2]
  generalize hU : pw (pw (pt u 1 10 r') 2 2 0) 0 8 (r' 0 7) = U
  have o0 : ∀ j, j ≠ 8 → U 0 j = u 0 j := fun j hj => by rw [← hU, w_n hj, pw_n _ _ _ (by omega), pt_out (by omega)]
  have o08 : U 0 8 = r' 0 7 := by rw [← hU, w_s]
  have oc : ∀ c, 11 ≤ c → U c = u c := fun c hc => by rw [← hU, pw_n _ _ _ (by omega), pw_n _ _ _ (by omega), pt_out (by omega)]
  have or : ∀ c, 3 ≤ c → c ≤ 10 → U c = r' (c - 1) := fun c c1 c2 => by rw [← hU, pw_n _ _ _ (by omega), pw_n _ _ _ (by omega), pt_at (by omega) (by omega)]
  have o1 : U 1 = r' 0 := by rw [← hU, pw_n _ _ _ (by omega), pw_n _ _ _ (by omega), pt_at (by omega) (by omega)]
  have o22 : U 2 2 = 0 := by rw [← hU, pw_n _ _ _ (by omega), pw_s, up_s]
  clear hU
  rcases a2 with ⟨f1, v', f2, f3, f4, f5, f6, f7⟩ | ⟨f1, n, g', v', f2, f3, f4, f5, f6, f7, f8, f9, ⟨ec, hs, I, h19, h20⟩, f11⟩
  · rw [if_neg f1, f2]
    refine ⟨_, _, _, rfl, rfl, N, g, by rw [f5]; exact h3, hC.cg (fun i hi => oc (11 + i) (by omega)) (fun i _ => by rw [f7 1 (by omega) (by omega) (by omega)]), ?_⟩
    refine hR.ag2 (fun c c1 c2 => oc c (by omega)) (fun c hc => f7 c (by omega) (by omega) (by omega)) (fun i _ => by rw [f7 1 (by omega) (by omega) (by omega)]) ?_ ?_ ?_
    · exact ⟨0, fun _ => 0, by omega, by rw [o22]; rfl, by rw [f4]; rfl, fun i hi => by omega⟩
    · rw [o08, f3]
    · rw [o0 9 (by omega), f6]; exact hR.to
  · rw [if_pos f1, f2]
    obtain ⟨z, z1, z2, z3, z4⟩ := CC_like (sh U 11) (sh U 4)
    rw [z1, Option.bind_some]
    have ez : EC z n g' 0 0 := EC.like (d := sh r' 3) I.1 ec (fun j j1 j2 => by rw [z3 j j1 j2]; show U 4 j = _; rw [or 4 (by omega) (by omega)]; rfl) (fun j hj => by
      rw [(z4 j hj).1, (z4 j hj).2.1, (z4 j hj).2.2]
      show U 5 j = _ ∧ U 6 j = _ ∧ U 7 j = _
      rw [or 5 (by omega) (by omega), or 6 (by omega) (by omega), or 7 (by omega) (by omega)]
      exact ⟨rfl, rfl, rfl⟩)
    generalize hV : pw (pt (pt U 11 5 z) 4 5 (sh z 5)) 21 3 0 = V
    have p0 : V 0 = U 0 := by rw [← hV, pw_n _ _ _ (by omega), pt_out (by omega), pt_out (by omega)]
    have p1 : V 1 = U 1 := by rw [← hV, pw_n _ _ _ (by omega), pt_out (by omega), pt_out (by omega)]
    have p2 : V 2 = U 2 := by rw [← hV, pw_n _ _ _ (by omega), pt_out (by omega), pt_out (by omega)]
    have pc : ∀ c, 22 ≤ c → V c = u c := fun c hc => by rw [← hV, pw_n _ _ _ (by omega), pt_out (by omega), pt_out (by omega), oc c (by omega)]
    have p11 : ∀ i, i < 5 → V (11 + i) = z i := fun i hi => by rw [← hV, pw_n _ _ _ (by omega), pt_out (by omega), pt_at (by omega) (by omega), show 11 + i - 11 = i by omega]
    have p21 : V 21 3 = 0 := by rw [← hV, pw_s, up_s]
    clear hV
    have lp : d_F_text_74 FU V 0 = some (V 1 6, pw (pw V 26 2 0) 36 2 0) := by
      have s1 : ∀ f, d_F_text_74 (f + 1) V 0 = d_F_text_74 f (pw V 26 2 0) 1 := fun f => by rw [d_F_text_74, if_neg (by decide), if_pos rfl, dlE2]; rfl
      have s2 : ∀ f (W : Nat → Nat → Int32), d_F_text_74 (f + 1) W 1 = d_F_text_74 f (pw W 36 2 0) 2 := fun f W => by rw [d_F_text_74, if_neg (by decide), if_neg (by decide), if_pos rfl, dlE2]; rfl
      have s3 : ∀ f (W : Nat → Nat → Int32), d_F_text_74 (f + 1) W 2 = some (W 1 6, W) := fun f W => by rw [d_F_text_74, if_pos (by decide)]
      have t1 : d_F_text_74 FU V 0 = d_F_text_74 9999 (pw V 26 2 0) 1 := s1 9999
      rw [t1, s2 9998, s3 9997, pw_n _ _ _ (by omega), pw_n _ _ _ (by omega)]
    rw [lp]
    have pc2 : ∀ c, 22 ≤ c → c ≠ 26 → c ≠ 36 → pw (pw V 26 2 0) 36 2 0 c = u c := fun c c1 c2 c3 => by rw [pw_n _ _ _ c3, pw_n _ _ _ c2]; exact pc c c1
    have pn : ∀ c, c ≠ 26 → c ≠ 36 → pw (pw V 26 2 0) 36 2 0 c = V c := fun c c2 c3 => by rw [pw_n _ _ _ c3, pw_n _ _ _ c2]
    have hh : ∀ b n : Nat, 47 ≤ b → b + n ≤ 55 → ∀ i, i < n → sh (pw (pw V 26 2 0) 36 2 0) b i = sh u b i := fun b n hb hn i hi => pc2 (b + i) (by omega) (by omega) (by omega)
    refine ⟨_, _, v', rfl, by rw [p1, o1], n, g', f5, ⟨ez.cg (fun i hi => ?_), hs, I, h19, h20⟩, ⟨0, fun _ => 0, fun _ => 0, fun _ => 0, by omega, ?_, by rw [f9]; rfl, fun i hi => by omega⟩, Or.inl ⟨?_, f7⟩, Or.inl ⟨?_, f8⟩, ⟨0, fun _ => 0, by omega, ?_, by rw [f4]; rfl, fun i hi => by omega⟩, ?_, ?_, ?_, ?_, ?_, ?_⟩
    · show pw (pw V 26 2 0) 36 2 0 (11 + i) = _
      rw [pn _ (by omega) (by omega)]; exact p11 i (by omega)
    · show pw (pw V 26 2 0) 36 2 0 21 3 = _
      rw [pn _ (by omega) (by omega)]; exact p21
    · rw [pw_n _ _ _ (by omega), pw_s, up_s]
    · rw [pw_s, up_s]
    · rw [pn _ (by omega) (by omega), p2, o22]; rfl
    · rw [pn _ (by omega) (by omega), p0, o08, f1, f3]
    · rw [pn _ (by omega) (by omega), p0, o0 9 (by omega), f6]; exact hR.to
    · exact hR.h0.cg (hh 47 2 (by omega) (by omega)) (by rw [f11 9 (by omega) (by omega) (by omega) (by omega) (by omega)]) (by rw [f11 10 (by omega) (by omega) (by omega) (by omega) (by omega)]) (fun i _ => by unfold so; rw [f11 11 (by omega) (by omega) (by omega) (by omega) (by omega)])
    · exact hR.h1.cg (hh 49 2 (by omega) (by omega)) (by rw [f11 9 (by omega) (by omega) (by omega) (by omega) (by omega)]) (by rw [f11 10 (by omega) (by omega) (by omega) (by omega) (by omega)]) (fun i _ => by unfold so; rw [f11 11 (by omega) (by omega) (by omega) (by omega) (by omega)])
    · exact hR.h2.cg (hh 51 2 (by omega) (by omega)) (by rw [f11 9 (by omega) (by omega) (by omega) (by omega) (by omega)]) (by rw [f11 10 (by omega) (by omega) (by omega) (by omega) (by omega)]) (fun i _ => by unfold so; rw [f11 11 (by omega) (by omega) (by omega) (by omega) (by omega)])
    · exact hR.h3.cg (hh 53 2 (by omega) (by omega)) (by rw [f11 9 (by omega) (by omega) (by omega) (by omega) (by omega)]) (by rw [f11 10 (by omega) (by omega) (by omega) (by omega) (by omega)]) (fun i _ => by unfold so; rw [f11 11 (by omega) (by omega) (by omega) (by omega) (by omega)])
