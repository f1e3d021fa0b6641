/-! PURE: a line -/
def MF (v v' : Nat → Nat → Int32) : Prop := (∀ c, c ≠ 0 → c ≠ 4 → c ≠ 5 → v' c = v c) ∧ ∀ j, j = 3 ∨ j = 11 ∨ j = 26 → v' 0 j = v 0 j
theorem MF.rf {v : Nat → Nat → Int32} : MF v v := ⟨fun _ _ _ _ => rfl, fun _ _ => rfl⟩
theorem MF.tr {a b c : Nat → Nat → Int32} (h : MF a b) (k : MF b c) : MF a c := ⟨fun i h1 h2 h3 => (k.1 i h1 h2 h3).trans (h.1 i h1 h2 h3), fun j hj => (k.2 j hj).trans (h.2 j hj)⟩
theorem MO.mf {v v' : Nat → Nat → Int32} (h : MO v v') : MF v v' := ⟨fun c h1 _ _ => h.1 c h1, fun j hj => h.2 j (by omega)⟩
theorem MF.w {v : Nat → Nat → Int32} {j : Nat} {x : Int32} (h : j ≠ 3) (h2 : j ≠ 11) (h3 : j ≠ 26) : MF v (pw v 0 j x) := ⟨fun c h1 _ _ => pw_n _ _ _ h1, fun i hi => w_n (by omega)⟩
theorem MF.w4 {v : Nat → Nat → Int32} {j : Nat} {x : Int32} : MF v (pw v 4 j x) := ⟨fun c _ h2 _ => pw_n _ _ _ h2, fun i hi => by rw [pw_n _ _ _ (by omega)]⟩
theorem MF.w5 {v : Nat → Nat → Int32} {j : Nat} {x : Int32} : MF v (pw v 5 j x) := ⟨fun c _ _ h2 => pw_n _ _ _ h2, fun i hi => by rw [pw_n _ _ _ (by omega)]⟩
theorem MP.mf {b : Nat → Nat} {t : Nat} {v v' : Nat → Nat → Int32} (h : MP b t v) (k : MF v v') : MP b t v' := ⟨by rw [k.2 11 (by omega)]; exact h.1, by rw [k.1 6 (by omega) (by omega) (by omega)]; exact h.2⟩
theorem TKN.cg {b : Nat → Nat} {t s : Nat} {v v' : Nat → Nat → Int32} (h : TKN b t s v) (e : ∀ j, 12 ≤ j → j ≤ 17 → v' 0 j = v 0 j) : TKN b t s v' := by
  unfold TKN
  rw [e 12 (by omega) (by omega), e 13 (by omega) (by omega), e 14 (by omega) (by omega), e 15 (by omega) (by omega), e 16 (by omega) (by omega), e 17 (by omega) (by omega)]
  exact h
theorem FLT.cg {r v r' v' : Nat → Nat → Int32} (h : FLT r v) (e1 : r' 0 7 = r 0 7) (e2 : r' 0 8 = r 0 8) (e3 : v' 0 16 = v 0 16) (e4 : v' 0 17 = v 0 17) : FLT r' v' := by
  obtain ⟨a, p, h0, h1, h2, h3, h4⟩ := h
  exact ⟨a, p, h0, e1.trans h1, e2.trans h2, e3.trans h3, e4.trans h4⟩
theorem FLT.p {r v : Nat → Nat → Int32} (h : FLT r v) : 0 < v 0 16 := by
  obtain ⟨a, p, h0, h1, h2, h3, h4⟩ := h
  rw [h3]; exact h0
theorem FLT.n {r v : Nat → Nat → Int32} (h : FLT r v) : ¬ v 0 16 = 0 := fun z => by have := h.p; rw [z] at this; revert this; decide
theorem FLT.m {r v : Nat → Nat → Int32} (h : FLT r v) : ¬ r 0 7 = 0 := by
  have := h.n
  obtain ⟨a, p, h0, h1, h2, h3, h4⟩ := h
  rw [h1, ← h3]; exact this
def MH (v v' : Nat → Nat → Int32) : Prop := (∀ c, c ≠ 0 → v' c = v c) ∧ ∀ j, j ≠ 9 → (j < 12 ∨ 17 < j) → v' 0 j = v 0 j
theorem MH.mf {v v' : Nat → Nat → Int32} (h : MH v v') : MF v v' := ⟨fun c h1 _ _ => h.1 c h1, fun j hj => h.2 j (by omega) (by omega)⟩
theorem house_ {b : Nat → Nat} {t p : Nat} {r v : Nat → Nat → Int32} (B : BT b t) (hT : TP b t (sh r 1)) (hM : MP b t v) (h7 : r 0 7 = 0) (h1 : r 1 1 = nI p) (hp : p ≤ t) (hk : TKN b t (tS b t p) v) : (∃ x y r' v', d_R_takeNumber r 0 4 = some (x, r') ∧ d_M_readHouse v = some (y, v') ∧ FLT r' v' ∧ RO r r' ∧ MH v v') ∨ (∃ n r' v' e, n ≤ 4 ∧ d_R_takeNumber r 0 4 = some (nI n, r') ∧ d_M_readHouse v = some (nI n, v') ∧ r' 0 = r 0 ∧ RO r r' ∧ MH v v' ∧ r' 1 1 = nI e ∧ p ≤ e ∧ e ≤ t ∧ TKN b t (tS b t e) v' ∧ (v' 0 16 = 0 → v' 0 9 = if nI n ≤ v 0 9 then v 0 9 else nI n)) := by
  have mh : ∀ {v'' : Nat → Nat → Int32} {x : Int32}, MO v v'' → MH v (pw v'' 0 9 x) := fun h => ⟨fun c hc => by rw [pw_n _ _ _ hc]; exact h.1 c hc, fun j h1 h2 => by rw [w_n h1]; exact h.2 j h2⟩
  rcases num_ B hT hM h7 h1 hp hk (lo := 0) (hi := 4) (by omega) (by omega) with ⟨x, y, r', v', a1, a2, a3, a4, a5⟩ | ⟨n, r', v', e, a1, a2, a3, a4, a5, a6, a7, a8, a9, a10, a11, a12⟩
  · left
    have a2' : d_M_readNumber v 0 4 = some (y, v') := a2
    refine ⟨x, y, r', pw v' 0 9 (v' 0 9), a1, ?_, a3.cg rfl rfl (w_n (by omega)) (w_n (by omega)), a4, mh a5⟩
    unfold d_M_readHouse d_M_readHouse_27
    rw [a2', Option.bind_some]
    show (if y ≤ v' 0 9 then dl (v' 0 9) fun zy4 => some (y, pw v' 0 9 zy4) else (if v' 0 16 = 0 then some (y, pw v' 0 9 y) else dl (v' 0 9) fun zy4 => some (y, pw v' 0 9 zy4))) = _
    simp only [dl]
    rw [if_neg a3.n, ite_self]
  · right
    have a4' : d_M_readNumber v 0 4 = some (nI n, v') := a4
    have e9 : v' 0 9 = v 0 9 := a7.2 9 (by omega)
    refine ⟨n, r', pw v' 0 9 (if nI n ≤ v 0 9 then v 0 9 else if v' 0 16 = 0 then nI n else v 0 9), e, a2, a3, ?_, a5, a6, mh a7, a9, a10, a11, a12.cg (fun j _ _ => w_n (by omega)), ?_⟩
    · unfold d_M_readHouse d_M_readHouse_27
      rw [a4', Option.bind_some]
      show (if nI n ≤ v' 0 9 then dl (v' 0 9) fun zy4 => some (nI n, pw v' 0 9 zy4) else (if v' 0 16 = 0 then some (nI n, pw v' 0 9 (nI n)) else dl (v' 0 9) fun zy4 => some (nI n, pw v' 0 9 zy4))) = _
      simp only [dl]
      rw [e9]
      by_cases q : nI n ≤ v 0 9
      · rw [if_pos q, if_pos q]
      · rw [if_neg q, if_neg q]
        by_cases q2 : v' 0 16 = 0
        · rw [if_pos q2, if_pos q2]
        · rw [if_neg q2, if_neg q2]
    · intro z
      rw [w_n (by omega)] at z
      rw [w_s]
      by_cases q : nI n ≤ v 0 9
      · rw [if_pos q, if_pos q]
      · rw [if_neg q, if_neg q, if_pos z]
/-- the draft, as both have it -/
def BD (g : Nat → Nat) : Prop := g 16 ≤ 20 ∧ g 17 ≤ 9 ∧ g 18 < 128 ∧ (∀ h, h < 5 → g (5 + h) ≤ 99) ∧ (∀ h, h < 5 → g h ≤ 3) ∧ (∀ h, h < 5 → g (10 + h) = 0) ∧ ∀ i, 19 ≤ i → g i = 0
def FRE (r v : Nat → Nat → Int32) (g : Nat → Nat) (H : Nat) : Prop := (r 0 5 = 0 ∧ v 0 6 = 0 ∧ g 15 = 0) ∨ (r 0 5 = 1 ∧ v 0 6 = 1 ∧ g 15 < H)
def OFF (r v : Nat → Nat → Int32) (o : Nat) (P Q : Nat → Nat) (H : Nat) : Prop := r 0 4 = nI o ∧ v 0 7 = nI o ∧ o ≤ 4 ∧ ∀ i, i < o → r 8 i = nI (P i) ∧ r 9 i = nI (Q i) ∧ v 5 (2 * i) = nI (P i) ∧ v 5 (2 * i + 1) = nI (Q i) ∧ 1 ≤ Q i ∧ Q i ≤ 20 ∧ P i < H
def HNM (r v : Nat → Nat → Int32) (o : Nat) (g P : Nat → Nat) (H : Nat) : Prop := H ≤ 5 ∧ v 0 9 = (if H = 0 then -4 else nI (H - 1)) ∧ (H = 0 ∨ (r 0 5 = 1 ∧ H = g 15 + 1) ∨ ∃ i, i < o ∧ H = P i + 1)
def DR (r v : Nat → Nat → Int32) (n o : Nat) (g P Q : Nat → Nat) (H : Nat) : Prop := EC (sh r 3) n g 0 0 ∧ (∀ i, i < 41 → v 4 i = nI (g i)) ∧ v 0 5 = nI n ∧ n ≤ 5 ∧ BD g ∧ FRE r v g H ∧ OFF r v o P Q H ∧ HNM r v o g P H
theorem DR.cg {r v r' v' : Nat → Nat → Int32} {n o : Nat} {g P Q : Nat → Nat} {H : Nat} (h : DR r v n o g P Q H) (h1 : ∀ c, c ≠ 0 → c ≠ 1 → r' c = r c) (h2 : ∀ j, j = 4 ∨ j = 5 → r' 0 j = r 0 j) (h3 : ∀ c, c ≠ 0 → v' c = v c) (h4 : ∀ j, j = 5 ∨ j = 6 ∨ j = 7 ∨ j = 9 → v' 0 j = v 0 j) : DR r' v' n o g P Q H := by
  obtain ⟨d1, d2, d3, d4, d5, d6, d7, d8⟩ := h
  refine ⟨d1.cg (fun i hi => h1 (3 + i) (by omega) (by omega)), ?_, ?_, d4, d5, ?_, ?_, ?_⟩
  · rw [h3 4 (by omega)]; exact d2
  · rw [h4 5 (by omega)]; exact d3
  · unfold FRE
    rw [h2 5 (by omega), h4 6 (by omega)]; exact d6
  · unfold OFF
    rw [h2 4 (by omega), h4 7 (by omega), h1 8 (by omega) (by omega), h1 9 (by omega) (by omega), h3 5 (by omega)]; exact d7
  · unfold HNM
    rw [h2 5 (by omega), h4 9 (by omega)]; exact d8
def DRx (r v : Nat → Nat → Int32) : Prop := ∃ n o g P Q H, DR r v n o g P Q H
/-- what a line leaves -/
def LR (b : Nat → Nat) (t p0 : Nat) (r v : Nat → Nat → Int32) (X Y : Option (Nat → Nat → Int32)) : Prop := (∃ r' v', X = some r' ∧ Y = some v' ∧ FLT r' v' ∧ MF v v') ∨ (∃ r' v' p, X = some r' ∧ Y = some v' ∧ p0 ≤ p ∧ p ≤ t ∧ TP b t (sh r' 1) ∧ MP b t v' ∧ r' 0 7 = 0 ∧ r' 0 6 = r 0 6 ∧ r' 1 1 = nI p ∧ TKN b t (tS b t p) v' ∧ DRx r' v' ∧ MF v v')
def stp (v : Nat → Nat → Int32) : Option (Nat → Nat → Int32) := if (v 0 16) = 0 then (if (v 0 14) = (3 : Int32) then (d_M_readLine_160 v (1 : Int32)) else (d_M_readLine_160 v (0 : Int32))) else (d_M_readLine_164 v)
theorem end_f {b : Nat → Nat} {t p0 : Nat} {r v r1 v1 : Nat → Nat → Int32} (h : FLT r1 v1) (hm : MF v v1) : LR b t p0 r v (d_R_takeLine_82 r1) (stp v1) := Or.inl ⟨r1, v1, (stop_f h).1, (stop_f h).2, h, hm⟩
theorem end_g {b : Nat → Nat} {t p0 p : Nat} {r v r1 v1 : Nat → Nat → Int32} (B : BT b t) (hT : TP b t (sh r1 1)) (hM : MP b t v1) (h7 : r1 0 7 = 0) (h6 : r1 0 6 = r 0 6) (h1 : r1 1 1 = nI p) (hp0 : p0 ≤ p) (hp : p ≤ t) (hk : TKN b t (tS b t p) v1) (hD : DRx r1 v1) (hm : MF v v1) : LR b t p0 r v (d_R_takeLine_82 r1) (stp v1) := by
  rcases stop_ B hT hM h7 h1 hp hk with ⟨r', v', a1, a2, a3, a4, a5⟩ | ⟨r', v', e, a1, a2, a3, a4, a5, a6, a7, a8, a9⟩
  · exact Or.inl ⟨r', v', a1, a2, a3, hm.tr a5.mf⟩
  · obtain ⟨n, o, g, P, Q, H, hD⟩ := hD
    exact Or.inr ⟨r', v', e, a1, a2, by omega, a8, a4.tp hT, hM.mo a5, by rw [a3]; exact h7, by rw [a3]; exact h6, a6, a9, ⟨n, o, g, P, Q, H, hD.cg a4.1 (fun j hj => a4.2.1 j (by omega) (by omega)) a5.1 (fun j hj => a5.2 j (by omega))⟩, hm.tr a5.mf⟩
theorem C_add {c : Nat → Nat → Int32} {n : Nat} (h4 : c 0 4 = nI n) (hn : n < 5) (a x : Int32) : d_C_addHouse c a x = some (pw (pw (pw (pw c 1 n a) 2 n x) 3 n 0) 0 4 (nI (n + 1))) := by
  unfold d_C_addHouse
  rw [h4, if_pos (show nI n < (5 : Int32) from (qb_ltI (b := 5) (by omega) (by omega)).mpr hn), qb_gt (show n < 5 by omega) (by omega), if_pos rfl, if_pos rfl, if_pos rfl, qb_cl (by omega)]
  simp only [dl, k_1, nI_add]
theorem EC.add {c : Nat → Nat → Int32} {n : Nat} {g : Nat → Nat} (h : EC c n g 0 0) (hn : n < 5) (L w : Nat) (h0 : g (10 + n) = 0) : EC (pw (pw (pw (pw c 1 n (nI L)) 2 n (nI w)) 3 n 0) 0 4 (nI (n + 1))) (n + 1) (sp (sp g n L) (5 + n) w) 0 0 := by
  obtain ⟨h4, h5, h6, h7, h8, h9, h10, h11, hb, hq, hr⟩ := h
  have e0 : ∀ j, j ≠ 4 → pw (pw (pw (pw c 1 n (nI L)) 2 n (nI w)) 3 n 0) 0 4 (nI (n + 1)) 0 j = c 0 j := fun j hj => by
    rw [w_n hj, pw_n _ _ _ (by omega), pw_n _ _ _ (by omega), pw_n _ _ _ (by omega)]
  have es : ∀ i, 10 ≤ i → sp (sp g n L) (5 + n) w i = g i := fun i hi => by rw [sp_n _ _ (by omega), sp_n _ _ (by omega)]
  refine ⟨w_s, ?_, ?_, ?_, ?_, ?_, ?_, ?_, by omega, by omega, fun j hj => ?_⟩
  · rw [e0 5 (by omega), es 15 (by omega)]; exact h5
  · rw [e0 6 (by omega), es 16 (by omega)]; exact h6
  · rw [e0 7 (by omega), es 17 (by omega)]; exact h7
  · rw [e0 8 (by omega), es 18 (by omega)]; exact h8
  · rw [e0 9 (by omega), es 19 (by omega)]; exact h9
  · rw [e0 10 (by omega), es 20 (by omega)]; exact h10
  · rw [e0 11 (by omega), es 21 (by omega)]; exact h11
  · rw [es (10 + j) (by omega), pw_n _ _ _ (by omega), pw_n _ _ _ (by omega), pw_n _ _ _ (by omega), pw_s, pw_n _ _ _ (by omega), pw_n _ _ _ (by omega), pw_s, pw_n _ _ _ (by omega), pw_n _ _ _ (by omega), pw_s, pw_n _ _ _ (by omega), pw_n _ _ _ (by omega)]
    by_cases q : j = n
    · subst q
      rw [up_s, up_s, up_s, sp_n _ _ (by omega), sp_s, sp_s, h0]
      exact ⟨rfl, rfl, rfl⟩
    · rw [up_n q, up_n q, up_n q, sp_n _ _ (by omega), sp_n _ _ (by omega), sp_n _ _ (by omega), sp_n _ _ (by omega)]
      exact hr j (by omega)
