/-! the JDK's own: length and charAt of the class's texts -/
theorem ms_coder (i : Nat) (hi : i < 7) : Mt yJ0_coder_7d493 cJ0_coder_7d493 1 (some .byte) (rm 0) [.retAddr i] [] (ab_eq (some (.int 0)) []) := by
  refine Mt.of (by decide +kernel) (fun _ _ _ => trivial) (Nat.le_of_ble_eq_true rfl) ?_
  refine v_getsC dJ0_coder_7d493_0 kg_J0_38 ?_
  refine v_if_eq (tgt := 13) dJ0_coder_7d493_3 (by decide) (fun c => absurd c (by decide)) (fun _ => ?_)
  refine v_sload_n dJ0_coder_7d493_6 rfl (Or.inl hi) ?_
  refine v_scod dJ0_coder_7d493_7 hi kg_J0_15 ?_
  refine v_goto (tgt := 14) dJ0_coder_7d493_10 (by decide) ?_
  exact v_iretE dJ0_coder_7d493_14 rfl rfl rfl rfl
theorem ms_isLatin1 (i : Nat) (hi : i < 7) : Mt yJ0_isLatin1_aae02 cJ0_isLatin1_aae02 1 (some .boolean) (rm 0) [.retAddr i] [] (ab_eq (some (.int 1)) []) := by
  refine Mt.of (by decide +kernel) (fun _ _ _ => trivial) (Nat.le_of_ble_eq_true rfl) ?_
  refine v_getsC dJ0_isLatin1_aae02_0 kg_J0_38 ?_
  refine v_if_eq (tgt := 17) dJ0_isLatin1_aae02_3 (by decide) (fun c => absurd c (by decide)) (fun _ => ?_)
  refine v_sload_n dJ0_isLatin1_aae02_6 rfl (Or.inl hi) ?_
  refine v_scod dJ0_isLatin1_aae02_7 hi kg_J0_15 ?_
  refine v_if_ne (tgt := 17) dJ0_isLatin1_aae02_10 (by decide) (fun c => absurd rfl c) (fun _ => ?_)
  refine v_iconst dJ0_isLatin1_aae02_13 ic_1 ?_
  refine v_goto (tgt := 18) dJ0_isLatin1_aae02_14 (by decide) ?_
  exact v_iretE dJ0_isLatin1_aae02_18 rfl rfl rfl rfl
theorem ms_length (i : Nat) (hi : i < 7) : Mt yJ0_length_8abf5 cJ0_length_8abf5 1 (some .int) (rm 1) [.retAddr i] [] (ab_eq (some (.int (Int32.ofNat (ab_len.getD i 0)))) []) := by
  refine Mt.of (by decide +kernel) (fun _ _ _ => trivial) (Nat.le_of_ble_eq_true rfl) ?_
  refine v_sload_n dJ0_length_8abf5_0 rfl (Or.inl hi) ?_
  refine v_sval dJ0_length_8abf5_1 hi kg_J0_9 ?_
  refine v_slen dJ0_length_8abf5_4 hi ?_
  refine v_sload_n dJ0_length_8abf5_5 rfl (Or.inl hi) ?_
  refine v_cT (st := [.int (Int32.ofNat (ab_len.getD i 0))]) (st2 := [.int 0, .int (Int32.ofNat (ab_len.getD i 0))]) dJ0_length_8abf5_6 mv_J0_335 (ms_coder i hi) (fun v hv => by cases hv) rfl rfl rfl hi rfl rfl (by decide) (by decide) rfl ?_
  refine v_ishr dJ0_length_8abf5_9 ?_
  exact v_iretE dJ0_length_8abf5_10 rfl rfl (by rw [sb_shr0]) rfl
theorem ms_check (k n : Int32) (h1 : ¬ k < 0) (h2 : k < n) : Mt yJ3_checkIndex_8e157 cJ3_checkIndex_8e157 3 (some .int) (rm 0) [.int k, .int n, .retAddr 15] [] (ab_eq (some (.int k)) []) := by
  refine Mt.of (by decide +kernel) (fun _ _ _ => trivial) (Nat.le_of_ble_eq_true rfl) ?_
  refine v_iload_n dJ3_checkIndex_8e157_0 rfl ?_
  refine v_if_lt (tgt := 9) dJ3_checkIndex_8e157_1 (by decide) (fun c => absurd c h1) (fun _ => ?_)
  refine v_iload_n dJ3_checkIndex_8e157_4 rfl ?_
  refine v_iload_n dJ3_checkIndex_8e157_5 rfl ?_
  refine v_icmp_lt (tgt := 16) dJ3_checkIndex_8e157_6 (by decide) (fun _ => ?_) (fun c => absurd h2 c)
  refine v_iload_n dJ3_checkIndex_8e157_16 rfl ?_
  exact v_iretE dJ3_checkIndex_8e157_17 rfl rfl rfl rfl
theorem ms_checkS (k n : Int32) (h1 : ¬ k < 0) (h2 : k < n) : Mt yJ0_checkIndex_df160 cJ0_checkIndex_df160 2 none (rm 1) [.int k, .int n] [] (ab_eq none []) := by
  refine Mt.of (by decide +kernel) (fun _ _ _ => trivial) (Nat.le_of_ble_eq_true rfl) ?_
  refine v_iload_n dJ0_checkIndex_df160_0 rfl ?_
  refine v_iload_n dJ0_checkIndex_df160_1 rfl ?_
  refine v_getsP dJ0_checkIndex_df160_2 kg_J0_1053 ?_
  refine v_cS (st := []) (st2 := [.int k]) (h2 := []) [] dJ0_checkIndex_df160_5 mz_J0_1059 (ms_check k n h1 h2) rfl rfl rfl rfl rfl rfl (by decide) (by decide) rfl rfl rfl ?_
  refine v_pop dJ0_checkIndex_df160_8 rfl ?_
  exact v_vretE dJ0_checkIndex_df160_9 rfl rfl rfl
theorem ch_255 (i j : Nat) : ab_ch i j &&& 255 = ab_ch i j := by
  have h : ∀ l ∈ ab_byt, ∀ b ∈ l, b &&& 255 = b := by decide
  unfold ab_ch
  rw [List.getD_eq_getElem?_getD, List.getD_eq_getElem?_getD]
  cases h1 : ab_byt[i]? with
  | none => simp
  | some l =>
    cases h2 : l[j]? with
    | none => simp [h2]
    | some b =>
      simp only [Option.getD_some, h2]
      exact h l (List.mem_of_getElem? h1) b (List.mem_of_getElem? h2)
theorem ab_len_small (i : Nat) (hi : i < 7) : ab_len.getD i 0 < 7 := by
  have h : ∀ i, i < 7 → ab_len.getD i 0 < 7 := by decide
  exact h i hi
theorem vp_len {k : Int32} {n : Nat} (hn : n < 2 ^ 31) (h : vp_in k n) : ¬ k < 0 ∧ k < Int32.ofNat n := by
  obtain ⟨j, hj, rfl⟩ := vp_in_of h hn
  exact ⟨nI_pos (by omega), nI_lt hj hn⟩
theorem ms_charL (i : Nat) (hi : i < 7) (k : Int32) (hk : vp_in k (ab_len.getD i 0)) : Mt yJ1_charAt_3b067 cJ1_charAt_3b067 2 (some .char) (rm 2) [.retAddr (8 + i), .int k] [] (ab_eq (some (.int (ab_ch i k.toNatClampNeg))) []) := by
  have hl := ab_len_small i hi
  obtain ⟨g1, g2⟩ := vp_len (by omega) hk
  have h8 : 8 + i < 7 ∨ (8 ≤ 8 + i ∧ 8 + i < 15) := Or.inr ⟨by omega, by omega⟩
  refine Mt.of (by decide +kernel) (fun _ _ _ => trivial) (Nat.le_of_ble_eq_true rfl) ?_
  refine v_iload_n dJ1_charAt_3b067_0 rfl ?_
  refine v_sload_n dJ1_charAt_3b067_1 rfl h8 ?_
  refine v_slen dJ1_charAt_3b067_2 hi ?_
  refine v_cS (st := []) (st2 := []) (h2 := []) [] dJ1_charAt_3b067_3 mz_J1_9 (ms_checkS k (Int32.ofNat (ab_len.getD i 0)) g1 g2) rfl rfl rfl rfl rfl rfl (by decide) (by decide) rfl rfl rfl ?_
  refine v_sload_n dJ1_charAt_3b067_6 rfl h8 ?_
  refine v_iload_n dJ1_charAt_3b067_7 rfl ?_
  refine v_sbald dJ1_charAt_3b067_8 hi hk ?_
  refine v_sipush dJ1_charAt_3b067_9 sp_255 ?_
  refine v_iand dJ1_charAt_3b067_12 ?_
  refine v_i2c dJ1_charAt_3b067_13 ?_
  have e : ((ab_ch i k.toNatClampNeg &&& 255).toUInt32 % 65536).toInt32 = ab_ch i k.toNatClampNeg := (sc_c2 _).trans (ch_255 _ _)
  exact v_iretE dJ1_charAt_3b067_14 rfl (by rw [sc_c2]; exact sc_nar _) (by rw [e]) rfl
theorem ms_charAt (i : Nat) (hi : i < 7) (k : Int32) (hk : vp_in k (ab_len.getD i 0)) : Mt yJ0_charAt_5068e cJ0_charAt_5068e 2 (some .char) (rm 4) [.retAddr i, .int k] [] (ab_eq (some (.int (ab_ch i k.toNatClampNeg))) []) := by
  refine Mt.of (by decide +kernel) (fun _ _ _ => trivial) (Nat.le_of_ble_eq_true rfl) ?_
  refine v_sload_n dJ0_charAt_5068e_0 rfl (Or.inl hi) ?_
  refine v_cT (st := []) (st2 := [.int 1]) dJ0_charAt_5068e_1 mv_J0_492 (ms_isLatin1 i hi) (fun v hv => by cases hv) rfl rfl rfl hi rfl rfl (by decide) (by decide) rfl ?_
  refine v_if_eq (tgt := 16) dJ0_charAt_5068e_4 (by decide) (fun c => absurd c (by decide)) (fun _ => ?_)
  refine v_sload_n dJ0_charAt_5068e_7 rfl (Or.inl hi) ?_
  refine v_sval dJ0_charAt_5068e_8 hi kg_J0_9 ?_
  refine v_iload_n dJ0_charAt_5068e_11 rfl ?_
  refine v_cS (st := []) (st2 := [.int (ab_ch i k.toNatClampNeg)]) (h2 := []) [] dJ0_charAt_5068e_12 mz_J0_495 (ms_charL i hi k hk) rfl rfl rfl rfl rfl rfl (by decide) (by decide) rfl rfl rfl ?_
  exact v_iretE dJ0_charAt_5068e_15 rfl (by rw [← ch_255]; exact sc_nar _) rfl rfl
section VSTRC
variable {own nm : String} {cc : ByteArray} {nL : Nat} {ret : Option FieldType} {Q : ab_Q} {mc ms pc : Nat} {L : List (Nat × Value)} {st : List Value} {h : ab_H} {d dy : Nat}
theorem v_cSlen {idx i : Nat} (hd : decode cc pc = .ok (.invokevirtual idx, 3)) (f : MV own idx yJ0_length_8abf5 cJ0_length_8abf5 1 (some .int) 0) (hi : i < 7) (hR : 1 + 1 ≤ d) (hcat : Nat.ble (st.map fun v => v.category).sum 8 = true) (kk : Vd own nm cc nL ret (rm d) Q mc ms 0 0 (pc + 3) L (.int (Int32.ofNat (ab_len.getD i 0)) :: st) h) : Vd own nm cc nL ret (rm d) Q mc ms 0 0 pc L (.retAddr i :: st) h :=
  v_cT hd f (ms_length i hi) (fun v hv => by cases hv) rfl rfl rfl hi rfl hcat hR (by decide) rfl kk
theorem v_cSchar {idx i : Nat} {k : Int32} (hd : decode cc pc = .ok (.invokevirtual idx, 3)) (f : MV own idx yJ0_charAt_5068e cJ0_charAt_5068e 2 (some .char) 1) (hi : i < 7) (hk : vp_in k (ab_len.getD i 0)) (hR : 4 + 1 ≤ d) (hcat : Nat.ble (st.map fun v => v.category).sum 8 = true) (kk : Vd own nm cc nL ret (rm d) Q mc ms 0 0 (pc + 3) L (.int (ab_ch i k.toNatClampNeg) :: st) h) : Vd own nm cc nL ret (rm d) Q mc ms 0 0 pc L (.int k :: .retAddr i :: st) h :=
  v_cT (As := [.int k]) hd f (ms_charAt i hi k hk) (fun v hv => by rw [List.mem_singleton.mp hv]; rfl) rfl rfl rfl hi rfl hcat hR (by decide) rfl kk
end VSTRC
