/-! the whole start -/
theorem whole_start {p : Program} {e : Env} {s : State} {m : MethodId} {below : List Frame} {meth : Method} {c : Code} (l : Launch) {b L : Nat} {xs : Nat → Int32} (hL : L ≤ 320) (C0 : lw_At p s m meth c b L xs) : W p l e room_1 s m #[Value.ref b] below meth c s.heap [] 0 0 (lw_Z below #[Value.ref b] s) (entryFrame m ([Value.ref b] : List Value).toArray 4) := by
  obtain ⟨r1, r2, h1, h2, hR⟩ := p_start
  exact start_open l hL C0 p_feed p_end p_text p_fault p_rule p_house p_alter p_set p_rain p_offer p_go p_runs p_ahead p_bare p_best p_change p_cooks p_appease p_pray p_value p_share p_luck p_mean p_see p_forget p_fits p_look p_drift p_keep p_back p_sheet p_lay p_read p_torn p_count h1 h2 hR
