theorem dX4_isRaised_0 : decode cX4_isRaised 0 = .ok (.aload_n 0, 1) := by decide +kernel
theorem dX4_isRaised_1 : decode cX4_isRaised 1 = .ok (.getfield 9, 3) := by decide +kernel
theorem dX4_isRaised_4 : decode cX4_isRaised 4 = .ok (.iconst 4, 1) := by decide +kernel
theorem dX4_isRaised_5 : decode cX4_isRaised 5 = .ok (.if_icmp .eq 15, 3) := by decide +kernel
theorem dX4_isRaised_8 : decode cX4_isRaised 8 = .ok (.aload_n 0, 1) := by decide +kernel
theorem dX4_isRaised_9 : decode cX4_isRaised 9 = .ok (.getfield 9, 3) := by decide +kernel
theorem dX4_isRaised_12 : decode cX4_isRaised 12 = .ok (.iconst 5, 1) := by decide +kernel
theorem dX4_isRaised_13 : decode cX4_isRaised 13 = .ok (.if_icmp .eq 7, 3) := by decide +kernel
theorem dX4_isRaised_16 : decode cX4_isRaised 16 = .ok (.iconst 1, 1) := by decide +kernel
theorem dX4_isRaised_17 : decode cX4_isRaised 17 = .ok (.goto 4, 3) := by decide +kernel
theorem dX4_isRaised_20 : decode cX4_isRaised 20 = .ok (.iconst 0, 1) := by decide +kernel
theorem dX4_isRaised_21 : decode cX4_isRaised 21 = .ok (.ireturn, 1) := by decide +kernel
def fn_X4_isRaised (N : Nat) (a0 : Option Nat) (h : ym_H) : Option (Int32 × ym_H) :=
  Option.bind (ym_gI h a0 4 0) fun v1 =>
  if v1 = 4 then
    some (0, h)
  else
    Option.bind (ym_gI h a0 4 0) fun v9 =>
    if v9 = 5 then
      some (0, h)
    else
      some (1, h)
set_option maxRecDepth 20000 in
set_option maxHeartbeats 4000000 in
theorem ok_X4_isRaised {D : ym_D} {b0 : Nat} {N : Nat} {a0 : Option Nat} {h h' : ym_H} {r : Int32} (hf : fn_X4_isRaised N a0 h = some (r, h')) : ym_M D b0 g_X4_isRaised 1 [va_rf a0] h (some (.int r)) h' := by
  unfold fn_X4_isRaised at hf
  refine ym_meth (lv := [(0, va_rf a0)]) (by decide) (by simp [lg_sl, ym_c1, ym_cI, ym_cL, g_X4_isRaised]) (by simp [lv_args, ym_c1, ym_cI, ym_cL]) ?_
  refine ym_aload_n (pc := 0) 0 dX4_isRaised_0 rfl rfl ?_
  obtain ⟨v1, e1, hf⟩ := Option.bind_eq_some_iff.mp hf
  refine ym_get (pc := 1) dX4_isRaised_1 rfl (by decide) iX4 (k := 0) (by decide) wd_338 (ym_gI_v e1) ?_
  refine ym_iconst (pc := 4) (v := 4) dX4_isRaised_4 (by decide) ?_
  by_cases c5 : v1 = 4
  · rw [if_pos c5] at hf
    refine ym_icmp_eq_y (pc := 5) (tgt := 20) dX4_isRaised_5 (by decide) c5 ?_
    refine ym_iconst (pc := 20) (v := 0) dX4_isRaised_20 (by decide) ?_
    cases hf
    exact ym_zret (pc := 21) dX4_isRaised_21 rfl rfl
  · rw [if_neg c5] at hf
    refine ym_icmp_eq_n (pc := 5) (tgt := 20) dX4_isRaised_5 (by decide) c5 ?_
    refine ym_aload_n (pc := 8) 0 dX4_isRaised_8 rfl rfl ?_
    obtain ⟨v9, e9, hf⟩ := Option.bind_eq_some_iff.mp hf
    refine ym_get (pc := 9) dX4_isRaised_9 rfl (by decide) iX4 (k := 0) (by decide) wd_338 (ym_gI_v e9) ?_
    refine ym_iconst (pc := 12) (v := 5) dX4_isRaised_12 (by decide) ?_
    by_cases c13 : v9 = 5
    · rw [if_pos c13] at hf
      refine ym_icmp_eq_y (pc := 13) (tgt := 20) dX4_isRaised_13 (by decide) c13 ?_
      refine ym_iconst (pc := 20) (v := 0) dX4_isRaised_20 (by decide) ?_
      cases hf
      exact ym_zret (pc := 21) dX4_isRaised_21 rfl rfl
    · rw [if_neg c13] at hf
      refine ym_icmp_eq_n (pc := 13) (tgt := 20) dX4_isRaised_13 (by decide) c13 ?_
      refine ym_iconst (pc := 16) (v := 1) dX4_isRaised_16 (by decide) ?_
      refine ym_goto (pc := 17) (tgt := 21) dX4_isRaised_17 (by decide) ?_
      cases hf
      exact ym_zret (pc := 21) dX4_isRaised_21 rfl rfl
theorem dX4_partNumber_0 : decode cX4_partNumber 0 = .ok (.aload_n 0, 1) := by decide +kernel
theorem dX4_partNumber_1 : decode cX4_partNumber 1 = .ok (.getfield 24, 3) := by decide +kernel
theorem dX4_partNumber_4 : decode cX4_partNumber 4 = .ok (.bipush 11, 2) := by decide +kernel
theorem dX4_partNumber_6 : decode cX4_partNumber 6 = .ok (.invokevirtual 47, 3) := by decide +kernel
theorem dX4_partNumber_9 : decode cX4_partNumber 9 = .ok (.iload_n 2, 1) := by decide +kernel
theorem dX4_partNumber_10 : decode cX4_partNumber 10 = .ok (.i2l, 1) := by decide +kernel
theorem dX4_partNumber_11 : decode cX4_partNumber 11 = .ok (.lcmp, 1) := by decide +kernel
theorem dX4_partNumber_12 : decode cX4_partNumber 12 = .ok (.ifCond .ne 15, 3) := by decide +kernel
theorem dX4_partNumber_15 : decode cX4_partNumber 15 = .ok (.aload_n 0, 1) := by decide +kernel
theorem dX4_partNumber_16 : decode cX4_partNumber 16 = .ok (.getfield 24, 3) := by decide +kernel
theorem dX4_partNumber_19 : decode cX4_partNumber 19 = .ok (.iload_n 1, 1) := by decide +kernel
theorem dX4_partNumber_20 : decode cX4_partNumber 20 = .ok (.invokevirtual 47, 3) := by decide +kernel
theorem dX4_partNumber_23 : decode cX4_partNumber 23 = .ok (.l2i, 1) := by decide +kernel
theorem dX4_partNumber_24 : decode cX4_partNumber 24 = .ok (.goto 4, 3) := by decide +kernel
theorem dX4_partNumber_27 : decode cX4_partNumber 27 = .ok (.iconst (-1), 1) := by decide +kernel
theorem dX4_partNumber_28 : decode cX4_partNumber 28 = .ok (.ireturn, 1) := by decide +kernel
theorem sc_X4_partNumber_X2_get : ym_site g_X4_partNumber g_X2_get 2 1 1 := ⟨by decide, by decide, wd_256, wd_78, by decide +kernel⟩
def fn_X4_partNumber (N : Nat) (a0 : Option Nat) (a1 : Int32) (a2 : Int32) (h : ym_H) : Option (Int32 × ym_H) :=
  Option.bind (ym_gR h a0 4 2) fun v1 =>
  Option.bind (ym_ob h v1 2) fun o6 =>
  Option.bind (fn_X2_get N v1 11 h) fun q6 =>
  if q6.1 = (Int32.toInt64 a2) then
    Option.bind (ym_gR q6.2 a0 4 2) fun v16 =>
    Option.bind (ym_ob q6.2 v16 2) fun o20 =>
    Option.bind (fn_X2_get N v16 a1 q6.2) fun q20 =>
    some ((Int64.toInt32 q20.1), q20.2)
  else
    some ((-1), q6.2)
set_option maxRecDepth 20000 in
set_option maxHeartbeats 4000000 in
theorem ok_X4_partNumber {D : ym_D} {b0 : Nat} {N : Nat} {a0 : Option Nat} {a1 : Int32} {a2 : Int32} {h h' : ym_H} {r : Int32} (hf : fn_X4_partNumber N a0 a1 a2 h = some (r, h')) : ym_M D b0 g_X4_partNumber 2 [va_rf a0, .int a1, .int a2] h (some (.int r)) h' := by
  unfold fn_X4_partNumber at hf
  refine ym_meth (lv := [(0, va_rf a0), (1, .int a1), (2, .int a2)]) (by decide) (by simp [lg_sl, ym_c1, ym_cI, ym_cL, g_X4_partNumber]) (by simp [lv_args, ym_c1, ym_cI, ym_cL]) ?_
  refine ym_aload_n (pc := 0) 0 dX4_partNumber_0 rfl rfl ?_
  obtain ⟨v1, e1, hf⟩ := Option.bind_eq_some_iff.mp hf
  refine ym_get (pc := 1) dX4_partNumber_1 rfl (by decide) iX4 (k := 2) (by decide) wd_344 (ym_gR_v e1) ?_
  refine ym_bipush (pc := 4) (v := 11) dX4_partNumber_4 (by decide) ?_
  obtain ⟨o6, f6, hf⟩ := Option.bind_eq_some_iff.mp hf
  obtain ⟨q6, e6, hf⟩ := Option.bind_eq_some_iff.mp hf
  refine ym_callV (pc := 6) (G2 := g_X2_get) (dep2 := 1) (As := [.int 11]) (st := []) (stk2 := [.long q6.1]) (r2 := (some (.long q6.1))) (h1 := q6.2) dX4_partNumber_6 (ok_X2_get e6) (sc_X4_partNumber_X2_get) wd_389 wd_254 wd_255 (ci := 2) (q0 := (RX2, TX2, 2)) rfl (by decide) rfl f6 rfl rfl (ym_st4 (Nat.le_of_ble_eq_true rfl)) rfl ?_
  refine ym_iload_n (pc := 9) 2 dX4_partNumber_9 rfl rfl ?_
  refine ym_i2l (pc := 10) dX4_partNumber_10 ?_
  by_cases c11 : q6.1 = (Int32.toInt64 a2)
  · rw [if_pos c11] at hf
    refine ym_lcmp_ne_y (pc := 11) (tgt := 27) dX4_partNumber_11 dX4_partNumber_12 (by decide) c11 ?_
    refine ym_aload_n (pc := 15) 0 dX4_partNumber_15 rfl rfl ?_
    obtain ⟨v16, e16, hf⟩ := Option.bind_eq_some_iff.mp hf
    refine ym_get (pc := 16) dX4_partNumber_16 rfl (by decide) iX4 (k := 2) (by decide) wd_344 (ym_gR_v e16) ?_
    refine ym_iload_n (pc := 19) 1 dX4_partNumber_19 rfl rfl ?_
    obtain ⟨o20, f20, hf⟩ := Option.bind_eq_some_iff.mp hf
    obtain ⟨q20, e20, hf⟩ := Option.bind_eq_some_iff.mp hf
    refine ym_callV (pc := 20) (G2 := g_X2_get) (dep2 := 1) (As := [.int a1]) (st := []) (stk2 := [.long q20.1]) (r2 := (some (.long q20.1))) (h1 := q20.2) dX4_partNumber_20 (ok_X2_get e20) (sc_X4_partNumber_X2_get) wd_389 wd_254 wd_255 (ci := 2) (q0 := (RX2, TX2, 2)) rfl (by decide) rfl f20 rfl rfl (ym_st4 (Nat.le_of_ble_eq_true rfl)) rfl ?_
    refine ym_l2i (pc := 23) dX4_partNumber_23 ?_
    refine ym_goto (pc := 24) (tgt := 28) dX4_partNumber_24 (by decide) ?_
    cases hf
    exact ym_iret (pc := 28) dX4_partNumber_28 rfl
  · rw [if_neg c11] at hf
    refine ym_lcmp_ne_n (pc := 11) (tgt := 27) dX4_partNumber_11 dX4_partNumber_12 (by decide) c11 ?_
    refine ym_iconst (pc := 27) (v := (-1)) dX4_partNumber_27 (by decide) ?_
    cases hf
    exact ym_iret (pc := 28) dX4_partNumber_28 rfl
theorem dX5_clear_0 : decode cX5_clear 0 = .ok (.aload_n 0, 1) := by decide +kernel
theorem dX5_clear_1 : decode cX5_clear 1 = .ok (.getfield 14, 3) := by decide +kernel
theorem dX5_clear_4 : decode cX5_clear 4 = .ok (.iconst 0, 1) := by decide +kernel
theorem dX5_clear_5 : decode cX5_clear 5 = .ok (.lconst 0, 1) := by decide +kernel
theorem dX5_clear_6 : decode cX5_clear 6 = .ok (.invokevirtual 32, 3) := by decide +kernel
theorem dX5_clear_9 : decode cX5_clear 9 = .ok (.return_, 1) := by decide +kernel
theorem sc_X5_clear_X2_put : ym_site g_X5_clear g_X2_put 5 4 2 := ⟨by decide, by decide, wd_284, wd_78, by decide +kernel⟩
def fn_X5_clear (N : Nat) (a0 : Option Nat) (h : ym_H) : Option (Unit × ym_H) :=
  Option.bind (ym_gR h a0 5 0) fun v1 =>
  Option.bind (ym_ob h v1 2) fun o6 =>
  Option.bind (fn_X2_put N v1 0 0 h) fun q6 =>
  some ((), q6.2)
set_option maxRecDepth 20000 in
set_option maxHeartbeats 4000000 in
theorem ok_X5_clear {D : ym_D} {b0 : Nat} {N : Nat} {a0 : Option Nat} {h h' : ym_H} {r : Unit} (hf : fn_X5_clear N a0 h = some (r, h')) : ym_M D b0 g_X5_clear 5 [va_rf a0] h none h' := by
  unfold fn_X5_clear at hf
  refine ym_meth (lv := [(0, va_rf a0)]) (by decide) (by simp [lg_sl, ym_c1, ym_cI, ym_cL, g_X5_clear]) (by simp [lv_args, ym_c1, ym_cI, ym_cL]) ?_
  refine ym_aload_n (pc := 0) 0 dX5_clear_0 rfl rfl ?_
  obtain ⟨v1, e1, hf⟩ := Option.bind_eq_some_iff.mp hf
  refine ym_get (pc := 1) dX5_clear_1 rfl (by decide) iX5 (k := 0) (by decide) wd_155 (ym_gR_v e1) ?_
  refine ym_iconst (pc := 4) (v := 0) dX5_clear_4 (by decide) ?_
  refine ym_lconst (pc := 5) (v := 0) dX5_clear_5 (by decide) ?_
  obtain ⟨o6, f6, hf⟩ := Option.bind_eq_some_iff.mp hf
  obtain ⟨q6, e6, hf⟩ := Option.bind_eq_some_iff.mp hf
  refine ym_callV (pc := 6) (G2 := g_X2_put) (dep2 := 4) (As := [.int 0, .long 0]) (st := []) (stk2 := []) (r2 := none) (h1 := q6.2) dX5_clear_6 (ok_X2_put e6) (sc_X5_clear_X2_put) wd_408 wd_282 wd_283 (ci := 2) (q0 := (RX2, TX2, 2)) rfl (by decide) rfl f6 rfl rfl (ym_st4 (Nat.le_of_ble_eq_true rfl)) rfl ?_
  cases hf
  exact ym_vret (pc := 9) dX5_clear_9 rfl
theorem dX4_renew_0 : decode cX4_renew 0 = .ok (.aload_n 0, 1) := by decide +kernel
theorem dX4_renew_1 : decode cX4_renew 1 = .ok (.getfield 24, 3) := by decide +kernel
theorem dX4_renew_4 : decode cX4_renew 4 = .ok (.iconst 0, 1) := by decide +kernel
theorem dX4_renew_5 : decode cX4_renew 5 = .ok (.lload_n 1, 1) := by decide +kernel
theorem dX4_renew_6 : decode cX4_renew 6 = .ok (.invokevirtual 86, 3) := by decide +kernel
theorem dX4_renew_9 : decode cX4_renew 9 = .ok (.iconst 2, 1) := by decide +kernel
theorem dX4_renew_10 : decode cX4_renew 10 = .ok (.istore_n 3, 1) := by decide +kernel
theorem dX4_renew_11 : decode cX4_renew 11 = .ok (.iload_n 3, 1) := by decide +kernel
theorem dX4_renew_12 : decode cX4_renew 12 = .ok (.bipush 10, 2) := by decide +kernel
theorem dX4_renew_14 : decode cX4_renew 14 = .ok (.if_icmp .gt 18, 3) := by decide +kernel
theorem dX4_renew_17 : decode cX4_renew 17 = .ok (.aload_n 0, 1) := by decide +kernel
theorem dX4_renew_18 : decode cX4_renew 18 = .ok (.getfield 24, 3) := by decide +kernel
theorem dX4_renew_21 : decode cX4_renew 21 = .ok (.iload_n 3, 1) := by decide +kernel
theorem dX4_renew_22 : decode cX4_renew 22 = .ok (.lconst 0, 1) := by decide +kernel
theorem dX4_renew_23 : decode cX4_renew 23 = .ok (.invokevirtual 86, 3) := by decide +kernel
theorem dX4_renew_26 : decode cX4_renew 26 = .ok (.iinc 3 1, 3) := by decide +kernel
theorem dX4_renew_29 : decode cX4_renew 29 = .ok (.goto (-18), 3) := by decide +kernel
theorem dX4_renew_32 : decode cX4_renew 32 = .ok (.aload_n 0, 1) := by decide +kernel
theorem dX4_renew_33 : decode cX4_renew 33 = .ok (.getfield 31, 3) := by decide +kernel
theorem dX4_renew_36 : decode cX4_renew 36 = .ok (.invokevirtual 115, 3) := by decide +kernel
theorem dX4_renew_39 : decode cX4_renew 39 = .ok (.aload_n 0, 1) := by decide +kernel
theorem dX4_renew_40 : decode cX4_renew 40 = .ok (.getfield 35, 3) := by decide +kernel
theorem dX4_renew_43 : decode cX4_renew 43 = .ok (.invokevirtual 115, 3) := by decide +kernel
theorem dX4_renew_46 : decode cX4_renew 46 = .ok (.return_, 1) := by decide +kernel
theorem sc_X4_renew_X2_put : ym_site g_X4_renew g_X2_put 6 4 2 := ⟨by decide, by decide, wd_284, wd_78, by decide +kernel⟩
def lb_X4_renew_11 (K : Option Nat → Int32 → ym_H → Option ((Unit) × ym_H)) (N : Nat) (w0 : Option Nat) (w3 : Int32) (h : ym_H) : Option ((Unit) × ym_H) :=
  if 10 < w3 then
    some ((), h)
  else
    Option.bind (ym_gR h w0 4 2) fun v18 =>
    Option.bind (ym_ob h v18 2) fun o23 =>
    Option.bind (fn_X2_put N v18 w3 0 h) fun q23 =>
    K w0 (w3 + 1) q23.2
set_option maxRecDepth 20000 in
set_option maxHeartbeats 4000000 in
theorem ol_X4_renew_11 {D : ym_D} {b0 : Nat} {K : Option Nat → Int32 → ym_H → Option ((Unit) × ym_H)} {N : Nat} {w0 : Option Nat} {w3 : Int32} {h h1 : ym_H} {x : (Unit)} (hKl : ∀ (u3 : Int32) (h h1 : ym_H) (x : (Unit)), K w0 u3 h = some (x, h1) → ∀ {r0 : Option Value} {h' : ym_H}, ym_Y D b0 g_X4_renew 6 32 [(0, va_rf w0)] [] h1 r0 h' → ym_Y D b0 g_X4_renew 6 11 [(0, va_rf w0), (3, .int u3)] [] h r0 h') (hf : lb_X4_renew_11 K N w0 w3 h = some (x, h1)) {r0 : Option Value} {h' : ym_H} (k : ym_Y D b0 g_X4_renew 6 32 [(0, va_rf w0)] [] h1 r0 h') : ym_Y D b0 g_X4_renew 6 11 [(0, va_rf w0), (3, .int w3)] [] h r0 h' := by
  unfold lb_X4_renew_11 at hf
  refine ym_iload_n (pc := 11) 1 dX4_renew_11 rfl rfl ?_
  refine ym_bipush (pc := 12) (v := 10) dX4_renew_12 (by decide) ?_
  by_cases c14 : 10 < w3
  · rw [if_pos c14] at hf
    refine ym_icmp_gt_y (pc := 14) (tgt := 32) dX4_renew_14 (by decide) c14 ?_
    cases hf
    exact ym_sub [0] rfl k
  · rw [if_neg c14] at hf
    refine ym_icmp_gt_n (pc := 14) (tgt := 32) dX4_renew_14 (by decide) c14 ?_
    refine ym_aload_n (pc := 17) 0 dX4_renew_17 rfl rfl ?_
    obtain ⟨v18, e18, hf⟩ := Option.bind_eq_some_iff.mp hf
    refine ym_get (pc := 18) dX4_renew_18 rfl (by decide) iX4 (k := 2) (by decide) wd_344 (ym_gR_v e18) ?_
    refine ym_iload_n (pc := 21) 1 dX4_renew_21 rfl rfl ?_
    refine ym_lconst (pc := 22) (v := 0) dX4_renew_22 (by decide) ?_
    obtain ⟨o23, f23, hf⟩ := Option.bind_eq_some_iff.mp hf
    obtain ⟨q23, e23, hf⟩ := Option.bind_eq_some_iff.mp hf
    refine ym_callV (pc := 23) (G2 := g_X2_put) (dep2 := 4) (As := [.int w3, .long 0]) (st := []) (stk2 := []) (r2 := none) (h1 := q23.2) dX4_renew_23 (ok_X2_put e23) (sc_X4_renew_X2_put) wd_593 wd_282 wd_283 (ci := 2) (q0 := (RX2, TX2, 2)) rfl (by decide) rfl f23 rfl rfl (ym_st4 (Nat.le_of_ble_eq_true rfl)) rfl ?_
    refine ym_iinc (pc := 26) (lv' := [(3, .int (w3 + 1)), (0, va_rf w0)]) (v := (w3 + 1)) 1 dX4_renew_26 rfl (by rw [show Int32.ofInt 1 = 1 by decide]) (by decide) ⟨trivial, trivial, trivial⟩ rfl ?_
    refine ym_goto (pc := 29) (tgt := 11) dX4_renew_29 (by decide) ?_
    exact ym_sub [1, 0] rfl (hKl _ _ _ _ hf k)
def lp_X4_renew_11 (N : Nat) : Nat → Option Nat → Int32 → ym_H → Option ((Unit) × ym_H)
  | 0, _, _, _ => none
  | n + 1, w0, w3, h => lb_X4_renew_11 (lp_X4_renew_11 N n) N w0 w3 h
set_option maxRecDepth 20000 in
set_option maxHeartbeats 4000000 in
theorem ok_lp_X4_renew_11 {D : ym_D} {b0 : Nat} {N : Nat} {w0 : Option Nat} : ∀ (n : Nat) (w3 : Int32) (h h1 : ym_H) (x : (Unit)), lp_X4_renew_11 N n w0 w3 h = some (x, h1) → ∀ {r0 : Option Value} {h' : ym_H}, ym_Y D b0 g_X4_renew 6 32 [(0, va_rf w0)] [] h1 r0 h' → ym_Y D b0 g_X4_renew 6 11 [(0, va_rf w0), (3, .int w3)] [] h r0 h' := by
  intro n
  induction n with
  | zero =>
    intro w3 h h1 x hf
    cases hf
  | succ n ih =>
    intro w3 h h1 x hf r0 h' k
    exact ol_X4_renew_11 (fun w3 h h1 x z r0 h' k => ih w3 h h1 x z k) hf k
theorem sc_X4_renew_X5_clear : ym_site g_X4_renew g_X5_clear 6 5 0 := ⟨by decide, by decide, wd_719, wd_81, by decide +kernel⟩
def fn_X4_renew (N : Nat) (a0 : Option Nat) (a1 : Int64) (h : ym_H) : Option (Unit × ym_H) :=
  Option.bind (ym_gR h a0 4 2) fun v1 =>
  Option.bind (ym_ob h v1 2) fun o6 =>
  Option.bind (fn_X2_put N v1 0 a1 h) fun q6 =>
  Option.bind (lp_X4_renew_11 N N a0 2 q6.2) fun q11 =>
  Option.bind (ym_gR q11.2 a0 4 3) fun v33 =>
  Option.bind (ym_ob q11.2 v33 5) fun o36 =>
  Option.bind (fn_X5_clear N v33 q11.2) fun q36 =>
  Option.bind (ym_gR q36.2 a0 4 4) fun v40 =>
  Option.bind (ym_ob q36.2 v40 5) fun o43 =>
  Option.bind (fn_X5_clear N v40 q36.2) fun q43 =>
  some ((), q43.2)
set_option maxRecDepth 20000 in
set_option maxHeartbeats 4000000 in
theorem ok_X4_renew {D : ym_D} {b0 : Nat} {N : Nat} {a0 : Option Nat} {a1 : Int64} {h h' : ym_H} {r : Unit} (hf : fn_X4_renew N a0 a1 h = some (r, h')) : ym_M D b0 g_X4_renew 6 [va_rf a0, .long a1] h none h' := by
  unfold fn_X4_renew at hf
  refine ym_meth (lv := [(0, va_rf a0), (1, .long a1)]) (by decide) (by simp [lg_sl, ym_c1, ym_cI, ym_cL, g_X4_renew]) (by simp [lv_args, ym_c1, ym_cI, ym_cL]) ?_
  refine ym_aload_n (pc := 0) 0 dX4_renew_0 rfl rfl ?_
  obtain ⟨v1, e1, hf⟩ := Option.bind_eq_some_iff.mp hf
  refine ym_get (pc := 1) dX4_renew_1 rfl (by decide) iX4 (k := 2) (by decide) wd_344 (ym_gR_v e1) ?_
  refine ym_iconst (pc := 4) (v := 0) dX4_renew_4 (by decide) ?_
  refine ym_lload_n (pc := 5) 1 dX4_renew_5 rfl rfl ?_
  obtain ⟨o6, f6, hf⟩ := Option.bind_eq_some_iff.mp hf
  obtain ⟨q6, e6, hf⟩ := Option.bind_eq_some_iff.mp hf
  refine ym_callV (pc := 6) (G2 := g_X2_put) (dep2 := 4) (As := [.int 0, .long a1]) (st := []) (stk2 := []) (r2 := none) (h1 := q6.2) dX4_renew_6 (ok_X2_put e6) (sc_X4_renew_X2_put) wd_593 wd_282 wd_283 (ci := 2) (q0 := (RX2, TX2, 2)) rfl (by decide) rfl f6 rfl rfl (ym_st4 (Nat.le_of_ble_eq_true rfl)) rfl ?_
  refine ym_iconst (pc := 9) (v := 2) dX4_renew_9 (by decide) ?_
  refine ym_sub (lv' := [(0, va_rf a0)]) [0] rfl ?_
  refine ym_istore_n (pc := 10) (lv' := [(3, .int 2), (0, va_rf a0)]) dX4_renew_10 rfl (by decide) ⟨trivial, trivial⟩ rfl ?_
  obtain ⟨q11, e11, hf⟩ := Option.bind_eq_some_iff.mp hf
  refine ym_sub (lv' := [(0, va_rf a0), (3, .int 2)]) [1, 0] rfl ?_
  refine ok_lp_X4_renew_11 N _ _ _ _ e11 ?_
  refine ym_aload_n (pc := 32) 0 dX4_renew_32 rfl rfl ?_
  obtain ⟨v33, e33, hf⟩ := Option.bind_eq_some_iff.mp hf
  refine ym_get (pc := 33) dX4_renew_33 rfl (by decide) iX4 (k := 3) (by decide) wd_347 (ym_gR_v e33) ?_
  obtain ⟨o36, f36, hf⟩ := Option.bind_eq_some_iff.mp hf
  obtain ⟨q36, e36, hf⟩ := Option.bind_eq_some_iff.mp hf
  refine ym_callV (pc := 36) (G2 := g_X5_clear) (dep2 := 5) (As := []) (st := []) (stk2 := []) (r2 := none) (h1 := q36.2) dX4_renew_36 (ok_X5_clear e36) (sc_X4_renew_X5_clear) wd_716 wd_717 wd_718 (ci := 5) (q0 := (RX5, TX5, 2)) rfl (by decide) rfl f36 rfl rfl (ym_st4 (Nat.le_of_ble_eq_true rfl)) rfl ?_
  refine ym_aload_n (pc := 39) 0 dX4_renew_39 rfl rfl ?_
  obtain ⟨v40, e40, hf⟩ := Option.bind_eq_some_iff.mp hf
  refine ym_get (pc := 40) dX4_renew_40 rfl (by decide) iX4 (k := 4) (by decide) wd_349 (ym_gR_v e40) ?_
  obtain ⟨o43, f43, hf⟩ := Option.bind_eq_some_iff.mp hf
  obtain ⟨q43, e43, hf⟩ := Option.bind_eq_some_iff.mp hf
  refine ym_callV (pc := 43) (G2 := g_X5_clear) (dep2 := 5) (As := []) (st := []) (stk2 := []) (r2 := none) (h1 := q43.2) dX4_renew_43 (ok_X5_clear e43) (sc_X4_renew_X5_clear) wd_716 wd_717 wd_718 (ci := 5) (q0 := (RX5, TX5, 2)) rfl (by decide) rfl f43 rfl rfl (ym_st4 (Nat.le_of_ble_eq_true rfl)) rfl ?_
  cases hf
  exact ym_vret (pc := 46) dX4_renew_46 rfl
theorem dX4_tellWinner_0 : decode cX4_tellWinner 0 = .ok (.iconst 0, 1) := by decide +kernel
theorem dX4_tellWinner_1 : decode cX4_tellWinner 1 = .ok (.istore_n 1, 1) := by decide +kernel
theorem dX4_tellWinner_2 : decode cX4_tellWinner 2 = .ok (.lconst 0, 1) := by decide +kernel
theorem dX4_tellWinner_3 : decode cX4_tellWinner 3 = .ok (.lstore_n 2, 1) := by decide +kernel
theorem dX4_tellWinner_4 : decode cX4_tellWinner 4 = .ok (.aload_n 0, 1) := by decide +kernel
theorem dX4_tellWinner_5 : decode cX4_tellWinner 5 = .ok (.getfield 31, 3) := by decide +kernel
theorem dX4_tellWinner_8 : decode cX4_tellWinner 8 = .ok (.invokevirtual 62, 3) := by decide +kernel
theorem dX4_tellWinner_11 : decode cX4_tellWinner 11 = .ok (.istore 4, 2) := by decide +kernel
theorem dX4_tellWinner_13 : decode cX4_tellWinner 13 = .ok (.iconst 1, 1) := by decide +kernel
theorem dX4_tellWinner_14 : decode cX4_tellWinner 14 = .ok (.istore 5, 2) := by decide +kernel
theorem dX4_tellWinner_16 : decode cX4_tellWinner 16 = .ok (.iload 5, 2) := by decide +kernel
theorem dX4_tellWinner_18 : decode cX4_tellWinner 18 = .ok (.iload 4, 2) := by decide +kernel
theorem dX4_tellWinner_20 : decode cX4_tellWinner 20 = .ok (.if_icmp .ge 57, 3) := by decide +kernel
theorem dX4_tellWinner_23 : decode cX4_tellWinner 23 = .ok (.aload_n 0, 1) := by decide +kernel
theorem dX4_tellWinner_24 : decode cX4_tellWinner 24 = .ok (.getfield 31, 3) := by decide +kernel
theorem dX4_tellWinner_27 : decode cX4_tellWinner 27 = .ok (.iload 5, 2) := by decide +kernel
theorem dX4_tellWinner_29 : decode cX4_tellWinner 29 = .ok (.iconst 1, 1) := by decide +kernel
theorem dX4_tellWinner_30 : decode cX4_tellWinner 30 = .ok (.invokevirtual 65, 3) := by decide +kernel
theorem dX4_tellWinner_33 : decode cX4_tellWinner 33 = .ok (.lstore 6, 2) := by decide +kernel
theorem dX4_tellWinner_35 : decode cX4_tellWinner 35 = .ok (.lload 6, 2) := by decide +kernel
theorem dX4_tellWinner_37 : decode cX4_tellWinner 37 = .ok (.aload_n 0, 1) := by decide +kernel
theorem dX4_tellWinner_38 : decode cX4_tellWinner 38 = .ok (.getfield 31, 3) := by decide +kernel
theorem dX4_tellWinner_41 : decode cX4_tellWinner 41 = .ok (.iload_n 1, 1) := by decide +kernel
theorem dX4_tellWinner_42 : decode cX4_tellWinner 42 = .ok (.iconst 1, 1) := by decide +kernel
theorem dX4_tellWinner_43 : decode cX4_tellWinner 43 = .ok (.invokevirtual 65, 3) := by decide +kernel
theorem dX4_tellWinner_46 : decode cX4_tellWinner 46 = .ok (.lcmp, 1) := by decide +kernel
theorem dX4_tellWinner_47 : decode cX4_tellWinner 47 = .ok (.ifCond .le 17, 3) := by decide +kernel
theorem dX4_tellWinner_50 : decode cX4_tellWinner 50 = .ok (.aload_n 0, 1) := by decide +kernel
theorem dX4_tellWinner_51 : decode cX4_tellWinner 51 = .ok (.getfield 31, 3) := by decide +kernel
theorem dX4_tellWinner_54 : decode cX4_tellWinner 54 = .ok (.iload_n 1, 1) := by decide +kernel
theorem dX4_tellWinner_55 : decode cX4_tellWinner 55 = .ok (.iconst 1, 1) := by decide +kernel
theorem dX4_tellWinner_56 : decode cX4_tellWinner 56 = .ok (.invokevirtual 65, 3) := by decide +kernel
theorem dX4_tellWinner_59 : decode cX4_tellWinner 59 = .ok (.lstore 6, 2) := by decide +kernel
theorem dX4_tellWinner_61 : decode cX4_tellWinner 61 = .ok (.iload 5, 2) := by decide +kernel
theorem dX4_tellWinner_63 : decode cX4_tellWinner 63 = .ok (.istore_n 1, 1) := by decide +kernel
theorem dX4_tellWinner_64 : decode cX4_tellWinner 64 = .ok (.lload_n 2, 1) := by decide +kernel
theorem dX4_tellWinner_65 : decode cX4_tellWinner 65 = .ok (.lload 6, 2) := by decide +kernel
theorem dX4_tellWinner_67 : decode cX4_tellWinner 67 = .ok (.invokestatic 88, 3) := by decide +kernel
theorem dX4_tellWinner_70 : decode cX4_tellWinner 70 = .ok (.lstore_n 2, 1) := by decide +kernel
theorem dX4_tellWinner_71 : decode cX4_tellWinner 71 = .ok (.iinc 5 1, 3) := by decide +kernel
theorem dX4_tellWinner_74 : decode cX4_tellWinner 74 = .ok (.goto (-58), 3) := by decide +kernel
theorem dX4_tellWinner_77 : decode cX4_tellWinner 77 = .ok (.aload_n 0, 1) := by decide +kernel
theorem dX4_tellWinner_78 : decode cX4_tellWinner 78 = .ok (.getfield 31, 3) := by decide +kernel
theorem dX4_tellWinner_81 : decode cX4_tellWinner 81 = .ok (.iload_n 1, 1) := by decide +kernel
theorem dX4_tellWinner_82 : decode cX4_tellWinner 82 = .ok (.iconst 1, 1) := by decide +kernel
theorem dX4_tellWinner_83 : decode cX4_tellWinner 83 = .ok (.invokevirtual 65, 3) := by decide +kernel
theorem dX4_tellWinner_86 : decode cX4_tellWinner 86 = .ok (.aload_n 0, 1) := by decide +kernel
theorem dX4_tellWinner_87 : decode cX4_tellWinner 87 = .ok (.getfield 15, 3) := by decide +kernel
theorem dX4_tellWinner_90 : decode cX4_tellWinner 90 = .ok (.lcmp, 1) := by decide +kernel
theorem dX4_tellWinner_91 : decode cX4_tellWinner 91 = .ok (.ifCond .lt 7, 3) := by decide +kernel
theorem dX4_tellWinner_94 : decode cX4_tellWinner 94 = .ok (.iconst 1, 1) := by decide +kernel
theorem dX4_tellWinner_95 : decode cX4_tellWinner 95 = .ok (.goto 4, 3) := by decide +kernel
theorem dX4_tellWinner_98 : decode cX4_tellWinner 98 = .ok (.iconst 0, 1) := by decide +kernel
theorem dX4_tellWinner_99 : decode cX4_tellWinner 99 = .ok (.istore 5, 2) := by decide +kernel
theorem dX4_tellWinner_101 : decode cX4_tellWinner 101 = .ok (.aload_n 0, 1) := by decide +kernel
theorem dX4_tellWinner_102 : decode cX4_tellWinner 102 = .ok (.getfield 24, 3) := by decide +kernel
theorem dX4_tellWinner_105 : decode cX4_tellWinner 105 = .ok (.iconst 4, 1) := by decide +kernel
theorem dX4_tellWinner_106 : decode cX4_tellWinner 106 = .ok (.lconst 1, 1) := by decide +kernel
theorem dX4_tellWinner_107 : decode cX4_tellWinner 107 = .ok (.invokevirtual 86, 3) := by decide +kernel
theorem dX4_tellWinner_110 : decode cX4_tellWinner 110 = .ok (.aload_n 0, 1) := by decide +kernel
theorem dX4_tellWinner_111 : decode cX4_tellWinner 111 = .ok (.getfield 24, 3) := by decide +kernel
theorem dX4_tellWinner_114 : decode cX4_tellWinner 114 = .ok (.iconst 5, 1) := by decide +kernel
theorem dX4_tellWinner_115 : decode cX4_tellWinner 115 = .ok (.iload 5, 2) := by decide +kernel
theorem dX4_tellWinner_117 : decode cX4_tellWinner 117 = .ok (.ifCond .eq 15, 3) := by decide +kernel
theorem dX4_tellWinner_120 : decode cX4_tellWinner 120 = .ok (.aload_n 0, 1) := by decide +kernel
theorem dX4_tellWinner_121 : decode cX4_tellWinner 121 = .ok (.getfield 31, 3) := by decide +kernel
theorem dX4_tellWinner_124 : decode cX4_tellWinner 124 = .ok (.iload_n 1, 1) := by decide +kernel
theorem dX4_tellWinner_125 : decode cX4_tellWinner 125 = .ok (.iconst 0, 1) := by decide +kernel
theorem dX4_tellWinner_126 : decode cX4_tellWinner 126 = .ok (.invokevirtual 65, 3) := by decide +kernel
theorem dX4_tellWinner_129 : decode cX4_tellWinner 129 = .ok (.goto 6, 3) := by decide +kernel
theorem dX4_tellWinner_132 : decode cX4_tellWinner 132 = .ok (.ldc2_w 45, 3) := by decide +kernel
theorem dX4_tellWinner_135 : decode cX4_tellWinner 135 = .ok (.invokevirtual 86, 3) := by decide +kernel
theorem dX4_tellWinner_138 : decode cX4_tellWinner 138 = .ok (.aload_n 0, 1) := by decide +kernel
theorem dX4_tellWinner_139 : decode cX4_tellWinner 139 = .ok (.getfield 24, 3) := by decide +kernel
theorem dX4_tellWinner_142 : decode cX4_tellWinner 142 = .ok (.bipush 6, 2) := by decide +kernel
theorem dX4_tellWinner_144 : decode cX4_tellWinner 144 = .ok (.iload 5, 2) := by decide +kernel
theorem dX4_tellWinner_146 : decode cX4_tellWinner 146 = .ok (.ifCond .eq 21, 3) := by decide +kernel
theorem dX4_tellWinner_149 : decode cX4_tellWinner 149 = .ok (.lload_n 2, 1) := by decide +kernel
theorem dX4_tellWinner_150 : decode cX4_tellWinner 150 = .ok (.aload_n 0, 1) := by decide +kernel
theorem dX4_tellWinner_151 : decode cX4_tellWinner 151 = .ok (.getfield 15, 3) := by decide +kernel
theorem dX4_tellWinner_154 : decode cX4_tellWinner 154 = .ok (.aload_n 0, 1) := by decide +kernel
theorem dX4_tellWinner_155 : decode cX4_tellWinner 155 = .ok (.invokevirtual 94, 3) := by decide +kernel
theorem dX4_tellWinner_158 : decode cX4_tellWinner 158 = .ok (.invokestatic 88, 3) := by decide +kernel
theorem dX4_tellWinner_161 : decode cX4_tellWinner 161 = .ok (.invokestatic 88, 3) := by decide +kernel
theorem dX4_tellWinner_164 : decode cX4_tellWinner 164 = .ok (.goto 4, 3) := by decide +kernel
theorem dX4_tellWinner_167 : decode cX4_tellWinner 167 = .ok (.lconst 0, 1) := by decide +kernel
theorem dX4_tellWinner_168 : decode cX4_tellWinner 168 = .ok (.invokevirtual 86, 3) := by decide +kernel
theorem dX4_tellWinner_171 : decode cX4_tellWinner 171 = .ok (.return_, 1) := by decide +kernel
theorem sc_X4_tellWinner_X5_rows : ym_site g_X4_tellWinner g_X5_rows 5 2 0 := ⟨by decide, by decide, wd_397, wd_81, by decide +kernel⟩
theorem sc_X4_tellWinner_X5_at : ym_site g_X4_tellWinner g_X5_at 5 2 2 := ⟨by decide, by decide, wd_402, wd_81, by decide +kernel⟩
def bl_X4_tellWinner_64_16 (K : Option Nat → Int32 → Int64 → Int32 → Int32 → ym_H → Option ((Int32 × Int64) × ym_H)) (N : Nat) (w0 : Option Nat) (w1 : Int32) (w2 : Int64) (w4 : Int32) (w5 : Int32) (w6 : Int64) (h : ym_H) : Option ((Int32 × Int64) × ym_H) :=
  K w0 w1 (if w6 < w2 then w2 else w6) w4 (w5 + 1) h
set_option maxRecDepth 20000 in
set_option maxHeartbeats 4000000 in
theorem ob_X4_tellWinner_64_16 {D : ym_D} {b0 : Nat} {K : Option Nat → Int32 → Int64 → Int32 → Int32 → ym_H → Option ((Int32 × Int64) × ym_H)} {N : Nat} {w0 : Option Nat} {w1 : Int32} {w2 : Int64} {w4 : Int32} {w5 : Int32} {w6 : Int64} {h h1 : ym_H} {x : (Int32 × Int64)} (hKl : ∀ (u1 : Int32) (u2 : Int64) (u4 : Int32) (u5 : Int32) (h h1 : ym_H) (x : (Int32 × Int64)), K w0 u1 u2 u4 u5 h = some (x, h1) → ∀ {r0 : Option Value} {h' : ym_H}, ym_Y D b0 g_X4_tellWinner 5 77 [(0, va_rf w0), (1, .int x.1), (2, .long x.2)] [] h1 r0 h' → ym_Y D b0 g_X4_tellWinner 5 16 [(0, va_rf w0), (1, .int u1), (2, .long u2), (4, .int u4), (5, .int u5)] [] h r0 h') (hf : bl_X4_tellWinner_64_16 K N w0 w1 w2 w4 w5 w6 h = some (x, h1)) {r0 : Option Value} {h' : ym_H} (k : ym_Y D b0 g_X4_tellWinner 5 77 [(0, va_rf w0), (1, .int x.1), (2, .long x.2)] [] h1 r0 h') : ym_Y D b0 g_X4_tellWinner 5 64 [(0, va_rf w0), (1, .int w1), (2, .long w2), (4, .int w4), (5, .int w5), (6, .long w6)] [] h r0 h' := by
  unfold bl_X4_tellWinner_64_16 at hf
  refine ym_lload_n (pc := 64) 2 dX4_tellWinner_64 rfl rfl ?_
  refine ym_lload (pc := 65) 5 dX4_tellWinner_65 rfl ?_
  refine ym_mmaxL (pc := 67) dX4_tellWinner_67 wd_615 wd_503 wd_79 wd_504 (by decide) (ym_st4 (Nat.le_of_ble_eq_true rfl)) ?_
  refine ym_sub (lv' := [(0, va_rf w0), (1, .int w1), (4, .int w4), (5, .int w5)]) [0, 1, 3, 4] rfl ?_
  refine ym_lstore_n (pc := 70) (lv' := [(2, .long (if w6 < w2 then w2 else w6)), (0, va_rf w0), (1, .int w1), (4, .int w4), (5, .int w5)]) dX4_tellWinner_70 rfl (by decide) ⟨trivial, rfl, trivial, trivial, trivial⟩ rfl ?_
  refine ym_iinc (pc := 71) (lv' := [(5, .int (w5 + 1)), (2, .long (if w6 < w2 then w2 else w6)), (0, va_rf w0), (1, .int w1), (4, .int w4)]) (v := (w5 + 1)) 4 dX4_tellWinner_71 rfl (by rw [show Int32.ofInt 1 = 1 by decide]) (by decide) ⟨trivial, trivial, trivial, rfl, trivial, trivial⟩ rfl ?_
  refine ym_goto (pc := 74) (tgt := 16) dX4_tellWinner_74 (by decide) ?_
  exact ym_sub [2, 3, 1, 4, 0] rfl (hKl _ _ _ _ _ _ _ hf k)
def lb_X4_tellWinner_16 (K : Option Nat → Int32 → Int64 → Int32 → Int32 → ym_H → Option ((Int32 × Int64) × ym_H)) (N : Nat) (w0 : Option Nat) (w1 : Int32) (w2 : Int64) (w4 : Int32) (w5 : Int32) (h : ym_H) : Option ((Int32 × Int64) × ym_H) :=
  if w4 ≤ w5 then
    some ((w1, w2), h)
  else
    Option.bind (ym_gR h w0 4 3) fun v24 =>
    Option.bind (ym_ob h v24 5) fun o30 =>
    Option.bind (fn_X5_at N v24 w5 1 h) fun q30 =>
    Option.bind (ym_gR q30.2 w0 4 3) fun v38 =>
    Option.bind (ym_ob q30.2 v38 5) fun o43 =>
    Option.bind (fn_X5_at N v38 w1 1 q30.2) fun q43 =>
    if q30.1 ≤ q43.1 then
      bl_X4_tellWinner_64_16 K N w0 w1 w2 w4 w5 q30.1 q43.2
    else
      Option.bind (ym_gR q43.2 w0 4 3) fun v51 =>
      Option.bind (ym_ob q43.2 v51 5) fun o56 =>
      Option.bind (fn_X5_at N v51 w1 1 q43.2) fun q56 =>
      bl_X4_tellWinner_64_16 K N w0 w5 w2 w4 w5 q56.1 q56.2
set_option maxRecDepth 20000 in
set_option maxHeartbeats 4000000 in
theorem ol_X4_tellWinner_16 {D : ym_D} {b0 : Nat} {K : Option Nat → Int32 → Int64 → Int32 → Int32 → ym_H → Option ((Int32 × Int64) × ym_H)} {N : Nat} {w0 : Option Nat} {w1 : Int32} {w2 : Int64} {w4 : Int32} {w5 : Int32} {h h1 : ym_H} {x : (Int32 × Int64)} (hKl : ∀ (u1 : Int32) (u2 : Int64) (u4 : Int32) (u5 : Int32) (h h1 : ym_H) (x : (Int32 × Int64)), K w0 u1 u2 u4 u5 h = some (x, h1) → ∀ {r0 : Option Value} {h' : ym_H}, ym_Y D b0 g_X4_tellWinner 5 77 [(0, va_rf w0), (1, .int x.1), (2, .long x.2)] [] h1 r0 h' → ym_Y D b0 g_X4_tellWinner 5 16 [(0, va_rf w0), (1, .int u1), (2, .long u2), (4, .int u4), (5, .int u5)] [] h r0 h') (hf : lb_X4_tellWinner_16 K N w0 w1 w2 w4 w5 h = some (x, h1)) {r0 : Option Value} {h' : ym_H} (k : ym_Y D b0 g_X4_tellWinner 5 77 [(0, va_rf w0), (1, .int x.1), (2, .long x.2)] [] h1 r0 h') : ym_Y D b0 g_X4_tellWinner 5 16 [(0, va_rf w0), (1, .int w1), (2, .long w2), (4, .int w4), (5, .int w5)] [] h r0 h' := by
  unfold lb_X4_tellWinner_16 at hf
  refine ym_iload (pc := 16) 4 dX4_tellWinner_16 rfl ?_
  refine ym_iload (pc := 18) 3 dX4_tellWinner_18 rfl ?_
  by_cases c20 : w4 ≤ w5
  · rw [if_pos c20] at hf
    refine ym_icmp_ge_y (pc := 20) (tgt := 77) dX4_tellWinner_20 (by decide) c20 ?_
    cases hf
    exact ym_sub [0, 1, 2] rfl k
  · rw [if_neg c20] at hf
    refine ym_icmp_ge_n (pc := 20) (tgt := 77) dX4_tellWinner_20 (by decide) c20 ?_
    refine ym_aload_n (pc := 23) 0 dX4_tellWinner_23 rfl rfl ?_
    obtain ⟨v24, e24, hf⟩ := Option.bind_eq_some_iff.mp hf
    refine ym_get (pc := 24) dX4_tellWinner_24 rfl (by decide) iX4 (k := 3) (by decide) wd_347 (ym_gR_v e24) ?_
    refine ym_iload (pc := 27) 4 dX4_tellWinner_27 rfl ?_
    refine ym_iconst (pc := 29) (v := 1) dX4_tellWinner_29 (by decide) ?_
    obtain ⟨o30, f30, hf⟩ := Option.bind_eq_some_iff.mp hf
    obtain ⟨q30, e30, hf⟩ := Option.bind_eq_some_iff.mp hf
    refine ym_callV (pc := 30) (G2 := g_X5_at) (dep2 := 2) (As := [.int w5, .int 1]) (st := []) (stk2 := [.long q30.1]) (r2 := (some (.long q30.1))) (h1 := q30.2) dX4_tellWinner_30 (ok_X5_at e30) (sc_X4_tellWinner_X5_at) wd_481 wd_400 wd_401 (ci := 5) (q0 := (RX5, TX5, 2)) rfl (by decide) rfl f30 rfl rfl (ym_st4 (Nat.le_of_ble_eq_true rfl)) rfl ?_
    refine ym_lstore (pc := 33) (lv' := [(6, .long q30.1), (0, va_rf w0), (1, .int w1), (2, .long w2), (4, .int w4), (5, .int w5)]) dX4_tellWinner_33 (by decide) ⟨trivial, trivial, trivial, trivial, rfl, trivial⟩ rfl ?_
    refine ym_lload (pc := 35) 0 dX4_tellWinner_35 rfl ?_
    refine ym_aload_n (pc := 37) 1 dX4_tellWinner_37 rfl rfl ?_
    obtain ⟨v38, e38, hf⟩ := Option.bind_eq_some_iff.mp hf
    refine ym_get (pc := 38) dX4_tellWinner_38 rfl (by decide) iX4 (k := 3) (by decide) wd_347 (ym_gR_v e38) ?_
    refine ym_iload_n (pc := 41) 2 dX4_tellWinner_41 rfl rfl ?_
    refine ym_iconst (pc := 42) (v := 1) dX4_tellWinner_42 (by decide) ?_
    obtain ⟨o43, f43, hf⟩ := Option.bind_eq_some_iff.mp hf
    obtain ⟨q43, e43, hf⟩ := Option.bind_eq_some_iff.mp hf
    refine ym_callV (pc := 43) (G2 := g_X5_at) (dep2 := 2) (As := [.int w1, .int 1]) (st := [.long q30.1]) (stk2 := [.long q43.1, .long q30.1]) (r2 := (some (.long q43.1))) (h1 := q43.2) dX4_tellWinner_43 (ok_X5_at e43) (sc_X4_tellWinner_X5_at) wd_481 wd_400 wd_401 (ci := 5) (q0 := (RX5, TX5, 2)) rfl (by decide) rfl f43 rfl rfl (ym_st4 (Nat.le_of_ble_eq_true rfl)) rfl ?_
    by_cases c46 : q30.1 ≤ q43.1
    · rw [if_pos c46] at hf
      refine ym_lcmp_le_y (pc := 46) (tgt := 64) dX4_tellWinner_46 dX4_tellWinner_47 (by decide) c46 ?_
      exact ym_sub [1, 2, 3, 4, 5, 0] rfl (ob_X4_tellWinner_64_16 hKl hf k)
    · rw [if_neg c46] at hf
      refine ym_lcmp_le_n (pc := 46) (tgt := 64) dX4_tellWinner_46 dX4_tellWinner_47 (by decide) c46 ?_
      refine ym_aload_n (pc := 50) 1 dX4_tellWinner_50 rfl rfl ?_
      obtain ⟨v51, e51, hf⟩ := Option.bind_eq_some_iff.mp hf
      refine ym_get (pc := 51) dX4_tellWinner_51 rfl (by decide) iX4 (k := 3) (by decide) wd_347 (ym_gR_v e51) ?_
      refine ym_iload_n (pc := 54) 2 dX4_tellWinner_54 rfl rfl ?_
      refine ym_iconst (pc := 55) (v := 1) dX4_tellWinner_55 (by decide) ?_
      obtain ⟨o56, f56, hf⟩ := Option.bind_eq_some_iff.mp hf
      obtain ⟨q56, e56, hf⟩ := Option.bind_eq_some_iff.mp hf
      refine ym_callV (pc := 56) (G2 := g_X5_at) (dep2 := 2) (As := [.int w1, .int 1]) (st := []) (stk2 := [.long q56.1]) (r2 := (some (.long q56.1))) (h1 := q56.2) dX4_tellWinner_56 (ok_X5_at e56) (sc_X4_tellWinner_X5_at) wd_481 wd_400 wd_401 (ci := 5) (q0 := (RX5, TX5, 2)) rfl (by decide) rfl f56 rfl rfl (ym_st4 (Nat.le_of_ble_eq_true rfl)) rfl ?_
      refine ym_sub (lv' := [(0, va_rf w0), (2, .long w2), (4, .int w4), (5, .int w5)]) [1, 3, 4, 5] rfl ?_
      refine ym_lstore (pc := 59) (lv' := [(6, .long q56.1), (0, va_rf w0), (2, .long w2), (4, .int w4), (5, .int w5)]) dX4_tellWinner_59 (by decide) ⟨trivial, trivial, trivial, rfl, trivial⟩ rfl ?_
      refine ym_iload (pc := 61) 4 dX4_tellWinner_61 rfl ?_
      refine ym_istore_n (pc := 63) (lv' := [(1, .int w5), (6, .long q56.1), (0, va_rf w0), (2, .long w2), (4, .int w4), (5, .int w5)]) dX4_tellWinner_63 rfl (by decide) ⟨trivial, ym_c1 w0, trivial, trivial, trivial, trivial⟩ rfl ?_
      exact ym_sub [2, 0, 3, 4, 5, 1] rfl (ob_X4_tellWinner_64_16 hKl hf k)
def lp_X4_tellWinner_16 (N : Nat) : Nat → Option Nat → Int32 → Int64 → Int32 → Int32 → ym_H → Option ((Int32 × Int64) × ym_H)
  | 0, _, _, _, _, _, _ => none
  | n + 1, w0, w1, w2, w4, w5, h => lb_X4_tellWinner_16 (lp_X4_tellWinner_16 N n) N w0 w1 w2 w4 w5 h
set_option maxRecDepth 20000 in
set_option maxHeartbeats 4000000 in
theorem ok_lp_X4_tellWinner_16 {D : ym_D} {b0 : Nat} {N : Nat} {w0 : Option Nat} : ∀ (n : Nat) (w1 : Int32) (w2 : Int64) (w4 : Int32) (w5 : Int32) (h h1 : ym_H) (x : (Int32 × Int64)), lp_X4_tellWinner_16 N n w0 w1 w2 w4 w5 h = some (x, h1) → ∀ {r0 : Option Value} {h' : ym_H}, ym_Y D b0 g_X4_tellWinner 5 77 [(0, va_rf w0), (1, .int x.1), (2, .long x.2)] [] h1 r0 h' → ym_Y D b0 g_X4_tellWinner 5 16 [(0, va_rf w0), (1, .int w1), (2, .long w2), (4, .int w4), (5, .int w5)] [] h r0 h' := by
  intro n
  induction n with
  | zero =>
    intro w1 w2 w4 w5 h h1 x hf
    cases hf
  | succ n ih =>
    intro w1 w2 w4 w5 h h1 x hf r0 h' k
    exact ol_X4_tellWinner_16 (fun w1 w2 w4 w5 h h1 x z r0 h' k => ih w1 w2 w4 w5 h h1 x z k) hf k
theorem sc_X4_tellWinner_X2_put : ym_site g_X4_tellWinner g_X2_put 5 4 2 := ⟨by decide, by decide, wd_284, wd_78, by decide +kernel⟩
def bl_X4_tellWinner_168 (N : Nat) (s0 : Int64) (s1 : Int32) (s2 : Option Nat) (h : ym_H) : Option (Unit × ym_H) :=
  Option.bind (ym_ob h s2 2) fun o168 =>
  Option.bind (fn_X2_put N s2 s1 s0 h) fun q168 =>
  some ((), q168.2)
set_option maxRecDepth 20000 in
set_option maxHeartbeats 4000000 in
theorem ob_X4_tellWinner_168 {D : ym_D} {b0 : Nat} {N : Nat} {s0 : Int64} {s1 : Int32} {s2 : Option Nat} {h h' : ym_H} {r : Unit} (hf : bl_X4_tellWinner_168 N s0 s1 s2 h = some (r, h')) : ym_Y D b0 g_X4_tellWinner 5 168 [] [.long s0, .int s1, va_rf s2] h none h' := by
  unfold bl_X4_tellWinner_168 at hf
  obtain ⟨o168, f168, hf⟩ := Option.bind_eq_some_iff.mp hf
  obtain ⟨q168, e168, hf⟩ := Option.bind_eq_some_iff.mp hf
  refine ym_callV (pc := 168) (G2 := g_X2_put) (dep2 := 4) (As := [.int s1, .long s0]) (st := []) (stk2 := []) (r2 := none) (h1 := q168.2) dX4_tellWinner_168 (ok_X2_put e168) (sc_X4_tellWinner_X2_put) wd_593 wd_282 wd_283 (ci := 2) (q0 := (RX2, TX2, 2)) rfl (by decide) rfl f168 rfl rfl (ym_st4 (Nat.le_of_ble_eq_true rfl)) rfl ?_
  cases hf
  exact ym_vret (pc := 171) dX4_tellWinner_171 rfl
theorem sc_X4_tellWinner_X4_startNow : ym_site g_X4_tellWinner g_X4_startNow 5 2 0 := ⟨by decide, by decide, wd_459, wd_87, by decide +kernel⟩
def bl_X4_tellWinner_135 (N : Nat) (w0 : Option Nat) (w2 : Int64) (w5 : Int32) (s0 : Int64) (s1 : Int32) (s2 : Option Nat) (h : ym_H) : Option (Unit × ym_H) :=
  Option.bind (ym_ob h s2 2) fun o135 =>
  Option.bind (fn_X2_put N s2 s1 s0 h) fun q135 =>
  Option.bind (ym_gR q135.2 w0 4 2) fun v139 =>
  if w5 = 0 then
    bl_X4_tellWinner_168 N 0 6 v139 q135.2
  else
    Option.bind (ym_gL q135.2 w0 4 1) fun v151 =>
    Option.bind (ym_ob q135.2 w0 4) fun o155 =>
    Option.bind (fn_X4_startNow N w0 q135.2) fun q155 =>
    bl_X4_tellWinner_168 N (if (if q155.1 < v151 then v151 else q155.1) < w2 then w2 else (if q155.1 < v151 then v151 else q155.1)) 6 v139 q155.2
set_option maxRecDepth 20000 in
set_option maxHeartbeats 4000000 in
theorem ob_X4_tellWinner_135 {D : ym_D} {b0 : Nat} {N : Nat} {w0 : Option Nat} {w2 : Int64} {w5 : Int32} {s0 : Int64} {s1 : Int32} {s2 : Option Nat} {h h' : ym_H} {r : Unit} (hf : bl_X4_tellWinner_135 N w0 w2 w5 s0 s1 s2 h = some (r, h')) : ym_Y D b0 g_X4_tellWinner 5 135 [(0, va_rf w0), (2, .long w2), (5, .int w5)] [.long s0, .int s1, va_rf s2] h none h' := by
  unfold bl_X4_tellWinner_135 at hf
  obtain ⟨o135, f135, hf⟩ := Option.bind_eq_some_iff.mp hf
  obtain ⟨q135, e135, hf⟩ := Option.bind_eq_some_iff.mp hf
  refine ym_callV (pc := 135) (G2 := g_X2_put) (dep2 := 4) (As := [.int s1, .long s0]) (st := []) (stk2 := []) (r2 := none) (h1 := q135.2) dX4_tellWinner_135 (ok_X2_put e135) (sc_X4_tellWinner_X2_put) wd_593 wd_282 wd_283 (ci := 2) (q0 := (RX2, TX2, 2)) rfl (by decide) rfl f135 rfl rfl (ym_st4 (Nat.le_of_ble_eq_true rfl)) rfl ?_
  refine ym_aload_n (pc := 138) 0 dX4_tellWinner_138 rfl rfl ?_
  obtain ⟨v139, e139, hf⟩ := Option.bind_eq_some_iff.mp hf
  refine ym_get (pc := 139) dX4_tellWinner_139 rfl (by decide) iX4 (k := 2) (by decide) wd_344 (ym_gR_v e139) ?_
  refine ym_bipush (pc := 142) (v := 6) dX4_tellWinner_142 (by decide) ?_
  refine ym_iload (pc := 144) 2 dX4_tellWinner_144 rfl ?_
  by_cases c146 : w5 = 0
  · rw [if_pos c146] at hf
    refine ym_if_eq_y (pc := 146) (tgt := 167) dX4_tellWinner_146 (by decide) c146 ?_
    refine ym_lconst (pc := 167) (v := 0) dX4_tellWinner_167 (by decide) ?_
    exact ym_sub [] rfl (ob_X4_tellWinner_168 hf)
  · rw [if_neg c146] at hf
    refine ym_if_eq_n (pc := 146) (tgt := 167) dX4_tellWinner_146 (by decide) c146 ?_
    refine ym_lload_n (pc := 149) 1 dX4_tellWinner_149 rfl rfl ?_
    refine ym_aload_n (pc := 150) 0 dX4_tellWinner_150 rfl rfl ?_
    obtain ⟨v151, e151, hf⟩ := Option.bind_eq_some_iff.mp hf
    refine ym_get (pc := 151) dX4_tellWinner_151 rfl (by decide) iX4 (k := 1) (by decide) wd_341 (ym_gL_v e151) ?_
    refine ym_aload_n (pc := 154) 0 dX4_tellWinner_154 rfl rfl ?_
    obtain ⟨o155, f155, hf⟩ := Option.bind_eq_some_iff.mp hf
    obtain ⟨q155, e155, hf⟩ := Option.bind_eq_some_iff.mp hf
    refine ym_callV (pc := 155) (G2 := g_X4_startNow) (dep2 := 2) (As := []) (st := [.long v151, .long w2, .int 6, va_rf v139]) (stk2 := [.long q155.1, .long v151, .long w2, .int 6, va_rf v139]) (r2 := (some (.long q155.1))) (h1 := q155.2) dX4_tellWinner_155 (ok_X4_startNow e155) (sc_X4_tellWinner_X4_startNow) wd_482 wd_457 wd_458 (ci := 4) (q0 := (RX4, TX4, 6)) rfl (by decide) rfl f155 rfl rfl (ym_st4 (Nat.le_of_ble_eq_true rfl)) rfl ?_
    refine ym_mmaxL (pc := 158) dX4_tellWinner_158 wd_615 wd_503 wd_79 wd_504 (by decide) (ym_st4 (Nat.le_of_ble_eq_true rfl)) ?_
    refine ym_mmaxL (pc := 161) dX4_tellWinner_161 wd_615 wd_503 wd_79 wd_504 (by decide) (ym_st4 (Nat.le_of_ble_eq_true rfl)) ?_
    refine ym_goto (pc := 164) (tgt := 168) dX4_tellWinner_164 (by decide) ?_
    exact ym_sub [] rfl (ob_X4_tellWinner_168 hf)
def bl_X4_tellWinner_99 (N : Nat) (w0 : Option Nat) (w1 : Int32) (w2 : Int64) (s0 : Int32) (h : ym_H) : Option (Unit × ym_H) :=
  Option.bind (ym_gR h w0 4 2) fun v102 =>
  Option.bind (ym_ob h v102 2) fun o107 =>
  Option.bind (fn_X2_put N v102 4 1 h) fun q107 =>
  Option.bind (ym_gR q107.2 w0 4 2) fun v111 =>
  if s0 = 0 then
    bl_X4_tellWinner_135 N w0 w2 s0 (-1) 5 v111 q107.2
  else
    Option.bind (ym_gR q107.2 w0 4 3) fun v121 =>
    Option.bind (ym_ob q107.2 v121 5) fun o126 =>
    Option.bind (fn_X5_at N v121 w1 0 q107.2) fun q126 =>
    bl_X4_tellWinner_135 N w0 w2 s0 q126.1 5 v111 q126.2
set_option maxRecDepth 20000 in
set_option maxHeartbeats 4000000 in
theorem ob_X4_tellWinner_99 {D : ym_D} {b0 : Nat} {N : Nat} {w0 : Option Nat} {w1 : Int32} {w2 : Int64} {s0 : Int32} {h h' : ym_H} {r : Unit} (hf : bl_X4_tellWinner_99 N w0 w1 w2 s0 h = some (r, h')) : ym_Y D b0 g_X4_tellWinner 5 99 [(0, va_rf w0), (1, .int w1), (2, .long w2)] [.int s0] h none h' := by
  unfold bl_X4_tellWinner_99 at hf
  refine ym_istore (pc := 99) (lv' := [(5, .int s0), (0, va_rf w0), (1, .int w1), (2, .long w2)]) dX4_tellWinner_99 (by decide) ⟨trivial, trivial, trivial, trivial⟩ rfl ?_
  refine ym_aload_n (pc := 101) 1 dX4_tellWinner_101 rfl rfl ?_
  obtain ⟨v102, e102, hf⟩ := Option.bind_eq_some_iff.mp hf
  refine ym_get (pc := 102) dX4_tellWinner_102 rfl (by decide) iX4 (k := 2) (by decide) wd_344 (ym_gR_v e102) ?_
  refine ym_iconst (pc := 105) (v := 4) dX4_tellWinner_105 (by decide) ?_
  refine ym_lconst (pc := 106) (v := 1) dX4_tellWinner_106 (by decide) ?_
  obtain ⟨o107, f107, hf⟩ := Option.bind_eq_some_iff.mp hf
  obtain ⟨q107, e107, hf⟩ := Option.bind_eq_some_iff.mp hf
  refine ym_callV (pc := 107) (G2 := g_X2_put) (dep2 := 4) (As := [.int 4, .long 1]) (st := []) (stk2 := []) (r2 := none) (h1 := q107.2) dX4_tellWinner_107 (ok_X2_put e107) (sc_X4_tellWinner_X2_put) wd_593 wd_282 wd_283 (ci := 2) (q0 := (RX2, TX2, 2)) rfl (by decide) rfl f107 rfl rfl (ym_st4 (Nat.le_of_ble_eq_true rfl)) rfl ?_
  refine ym_aload_n (pc := 110) 1 dX4_tellWinner_110 rfl rfl ?_
  obtain ⟨v111, e111, hf⟩ := Option.bind_eq_some_iff.mp hf
  refine ym_get (pc := 111) dX4_tellWinner_111 rfl (by decide) iX4 (k := 2) (by decide) wd_344 (ym_gR_v e111) ?_
  refine ym_iconst (pc := 114) (v := 5) dX4_tellWinner_114 (by decide) ?_
  refine ym_iload (pc := 115) 0 dX4_tellWinner_115 rfl ?_
  by_cases c117 : s0 = 0
  · rw [if_pos c117] at hf
    refine ym_if_eq_y (pc := 117) (tgt := 132) dX4_tellWinner_117 (by decide) c117 ?_
    refine ym_ldc2 (pc := 132) dX4_tellWinner_132 wd_337 ?_
    exact ym_sub [1, 3, 0] rfl (ob_X4_tellWinner_135 hf)
  · rw [if_neg c117] at hf
    refine ym_if_eq_n (pc := 117) (tgt := 132) dX4_tellWinner_117 (by decide) c117 ?_
    refine ym_aload_n (pc := 120) 1 dX4_tellWinner_120 rfl rfl ?_
    obtain ⟨v121, e121, hf⟩ := Option.bind_eq_some_iff.mp hf
    refine ym_get (pc := 121) dX4_tellWinner_121 rfl (by decide) iX4 (k := 3) (by decide) wd_347 (ym_gR_v e121) ?_
    refine ym_iload_n (pc := 124) 2 dX4_tellWinner_124 rfl rfl ?_
    refine ym_iconst (pc := 125) (v := 0) dX4_tellWinner_125 (by decide) ?_
    obtain ⟨o126, f126, hf⟩ := Option.bind_eq_some_iff.mp hf
    obtain ⟨q126, e126, hf⟩ := Option.bind_eq_some_iff.mp hf
    refine ym_callV (pc := 126) (G2 := g_X5_at) (dep2 := 2) (As := [.int w1, .int 0]) (st := [.int 5, va_rf v111]) (stk2 := [.long q126.1, .int 5, va_rf v111]) (r2 := (some (.long q126.1))) (h1 := q126.2) dX4_tellWinner_126 (ok_X5_at e126) (sc_X4_tellWinner_X5_at) wd_481 wd_400 wd_401 (ci := 5) (q0 := (RX5, TX5, 2)) rfl (by decide) rfl f126 rfl rfl (ym_st4 (Nat.le_of_ble_eq_true rfl)) rfl ?_
    refine ym_goto (pc := 129) (tgt := 135) dX4_tellWinner_129 (by decide) ?_
    exact ym_sub [1, 3, 0] rfl (ob_X4_tellWinner_135 hf)
def fn_X4_tellWinner (N : Nat) (a0 : Option Nat) (h : ym_H) : Option (Unit × ym_H) :=
  Option.bind (ym_gR h a0 4 3) fun v5 =>
  Option.bind (ym_ob h v5 5) fun o8 =>
  Option.bind (fn_X5_rows N v5 h) fun q8 =>
  Option.bind (lp_X4_tellWinner_16 N N a0 0 0 q8.1 1 q8.2) fun q16 =>
  Option.bind (ym_gR q16.2 a0 4 3) fun v78 =>
  Option.bind (ym_ob q16.2 v78 5) fun o83 =>
  Option.bind (fn_X5_at N v78 q16.1.1 1 q16.2) fun q83 =>
  Option.bind (ym_gL q83.2 a0 4 1) fun v87 =>
  if q83.1 < v87 then
    bl_X4_tellWinner_99 N a0 q16.1.1 q16.1.2 0 q83.2
  else
    bl_X4_tellWinner_99 N a0 q16.1.1 q16.1.2 1 q83.2
set_option maxRecDepth 20000 in
set_option maxHeartbeats 4000000 in
theorem ok_X4_tellWinner {D : ym_D} {b0 : Nat} {N : Nat} {a0 : Option Nat} {h h' : ym_H} {r : Unit} (hf : fn_X4_tellWinner N a0 h = some (r, h')) : ym_M D b0 g_X4_tellWinner 5 [va_rf a0] h none h' := by
  unfold fn_X4_tellWinner at hf
  refine ym_meth (lv := [(0, va_rf a0)]) (by decide) (by simp [lg_sl, ym_c1, ym_cI, ym_cL, g_X4_tellWinner]) (by simp [lv_args, ym_c1, ym_cI, ym_cL]) ?_
  refine ym_iconst (pc := 0) (v := 0) dX4_tellWinner_0 (by decide) ?_
  refine ym_istore_n (pc := 1) (lv' := [(1, .int 0), (0, va_rf a0)]) dX4_tellWinner_1 rfl (by decide) ⟨ym_c1 a0, trivial⟩ rfl ?_
  refine ym_lconst (pc := 2) (v := 0) dX4_tellWinner_2 (by decide) ?_
  refine ym_lstore_n (pc := 3) (lv' := [(2, .long 0), (1, .int 0), (0, va_rf a0)]) dX4_tellWinner_3 rfl (by decide) ⟨rfl, trivial, trivial⟩ rfl ?_
  refine ym_aload_n (pc := 4) 2 dX4_tellWinner_4 rfl rfl ?_
  obtain ⟨v5, e5, hf⟩ := Option.bind_eq_some_iff.mp hf
  refine ym_get (pc := 5) dX4_tellWinner_5 rfl (by decide) iX4 (k := 3) (by decide) wd_347 (ym_gR_v e5) ?_
  obtain ⟨o8, f8, hf⟩ := Option.bind_eq_some_iff.mp hf
  obtain ⟨q8, e8, hf⟩ := Option.bind_eq_some_iff.mp hf
  refine ym_callV (pc := 8) (G2 := g_X5_rows) (dep2 := 2) (As := []) (st := []) (stk2 := [.int q8.1]) (r2 := (some (.int q8.1))) (h1 := q8.2) dX4_tellWinner_8 (ok_X5_rows e8) (sc_X4_tellWinner_X5_rows) wd_472 wd_395 wd_396 (ci := 5) (q0 := (RX5, TX5, 2)) rfl (by decide) rfl f8 rfl rfl (ym_st4 (Nat.le_of_ble_eq_true rfl)) rfl ?_
  refine ym_istore (pc := 11) (lv' := [(4, .int q8.1), (2, .long 0), (1, .int 0), (0, va_rf a0)]) dX4_tellWinner_11 (by decide) ⟨trivial, trivial, trivial, trivial⟩ rfl ?_
  refine ym_iconst (pc := 13) (v := 1) dX4_tellWinner_13 (by decide) ?_
  refine ym_istore (pc := 14) (lv' := [(5, .int 1), (4, .int q8.1), (2, .long 0), (1, .int 0), (0, va_rf a0)]) dX4_tellWinner_14 (by decide) ⟨rfl, trivial, trivial, trivial, trivial⟩ rfl ?_
  obtain ⟨q16, e16, hf⟩ := Option.bind_eq_some_iff.mp hf
  refine ym_sub (lv' := [(0, va_rf a0), (1, .int 0), (2, .long 0), (4, .int q8.1), (5, .int 1)]) [4, 3, 2, 1, 0] rfl ?_
  refine ok_lp_X4_tellWinner_16 N _ _ _ _ _ _ _ e16 ?_
  refine ym_aload_n (pc := 77) 0 dX4_tellWinner_77 rfl rfl ?_
  obtain ⟨v78, e78, hf⟩ := Option.bind_eq_some_iff.mp hf
  refine ym_get (pc := 78) dX4_tellWinner_78 rfl (by decide) iX4 (k := 3) (by decide) wd_347 (ym_gR_v e78) ?_
  refine ym_iload_n (pc := 81) 1 dX4_tellWinner_81 rfl rfl ?_
  refine ym_iconst (pc := 82) (v := 1) dX4_tellWinner_82 (by decide) ?_
  obtain ⟨o83, f83, hf⟩ := Option.bind_eq_some_iff.mp hf
  obtain ⟨q83, e83, hf⟩ := Option.bind_eq_some_iff.mp hf
  refine ym_callV (pc := 83) (G2 := g_X5_at) (dep2 := 2) (As := [.int q16.1.1, .int 1]) (st := []) (stk2 := [.long q83.1]) (r2 := (some (.long q83.1))) (h1 := q83.2) dX4_tellWinner_83 (ok_X5_at e83) (sc_X4_tellWinner_X5_at) wd_481 wd_400 wd_401 (ci := 5) (q0 := (RX5, TX5, 2)) rfl (by decide) rfl f83 rfl rfl (ym_st4 (Nat.le_of_ble_eq_true rfl)) rfl ?_
  refine ym_aload_n (pc := 86) 0 dX4_tellWinner_86 rfl rfl ?_
  obtain ⟨v87, e87, hf⟩ := Option.bind_eq_some_iff.mp hf
  refine ym_get (pc := 87) dX4_tellWinner_87 rfl (by decide) iX4 (k := 1) (by decide) wd_341 (ym_gL_v e87) ?_
  by_cases c90 : q83.1 < v87
  · rw [if_pos c90] at hf
    refine ym_lcmp_lt_y (pc := 90) (tgt := 98) dX4_tellWinner_90 dX4_tellWinner_91 (by decide) c90 ?_
    refine ym_iconst (pc := 98) (v := 0) dX4_tellWinner_98 (by decide) ?_
    exact ym_sub [0, 1, 2] rfl (ob_X4_tellWinner_99 hf)
  · rw [if_neg c90] at hf
    refine ym_lcmp_lt_n (pc := 90) (tgt := 98) dX4_tellWinner_90 dX4_tellWinner_91 (by decide) c90 ?_
    refine ym_iconst (pc := 94) (v := 1) dX4_tellWinner_94 (by decide) ?_
    refine ym_goto (pc := 95) (tgt := 99) dX4_tellWinner_95 (by decide) ?_
    exact ym_sub [0, 1, 2] rfl (ob_X4_tellWinner_99 hf)
theorem dX4_whyNotOpen_0 : decode cX4_whyNotOpen 0 = .ok (.aload_n 0, 1) := by decide +kernel
theorem dX4_whyNotOpen_1 : decode cX4_whyNotOpen 1 = .ok (.invokevirtual 55, 3) := by decide +kernel
theorem dX4_whyNotOpen_4 : decode cX4_whyNotOpen 4 = .ok (.ifCond .eq 8, 3) := by decide +kernel
theorem dX4_whyNotOpen_7 : decode cX4_whyNotOpen 7 = .ok (.bipush 9, 2) := by decide +kernel
theorem dX4_whyNotOpen_9 : decode cX4_whyNotOpen 9 = .ok (.goto 5, 3) := by decide +kernel
theorem dX4_whyNotOpen_12 : decode cX4_whyNotOpen 12 = .ok (.bipush 6, 2) := by decide +kernel
theorem dX4_whyNotOpen_14 : decode cX4_whyNotOpen 14 = .ok (.ireturn, 1) := by decide +kernel
theorem sc_X4_whyNotOpen_X4_hasBook : ym_site g_X4_whyNotOpen g_X4_hasBook 4 3 0 := ⟨by decide, by decide, wd_547, wd_87, by decide +kernel⟩
def fn_X4_whyNotOpen (N : Nat) (a0 : Option Nat) (h : ym_H) : Option (Int32 × ym_H) :=
  Option.bind (ym_ob h a0 4) fun o1 =>
  Option.bind (fn_X4_hasBook N a0 h) fun q1 =>
  if q1.1 = 0 then
    some (6, q1.2)
  else
    some (9, q1.2)
set_option maxRecDepth 20000 in
set_option maxHeartbeats 4000000 in
theorem ok_X4_whyNotOpen {D : ym_D} {b0 : Nat} {N : Nat} {a0 : Option Nat} {h h' : ym_H} {r : Int32} (hf : fn_X4_whyNotOpen N a0 h = some (r, h')) : ym_M D b0 g_X4_whyNotOpen 4 [va_rf a0] h (some (.int r)) h' := by
  unfold fn_X4_whyNotOpen at hf
  refine ym_meth (lv := [(0, va_rf a0)]) (by decide) (by simp [lg_sl, ym_c1, ym_cI, ym_cL, g_X4_whyNotOpen]) (by simp [lv_args, ym_c1, ym_cI, ym_cL]) ?_
  refine ym_aload_n (pc := 0) 0 dX4_whyNotOpen_0 rfl rfl ?_
  obtain ⟨o1, f1, hf⟩ := Option.bind_eq_some_iff.mp hf
  obtain ⟨q1, e1, hf⟩ := Option.bind_eq_some_iff.mp hf
  refine ym_callV (pc := 1) (G2 := g_X4_hasBook) (dep2 := 3) (As := []) (st := []) (stk2 := [.int q1.1]) (r2 := (some (.int q1.1))) (h1 := q1.2) dX4_whyNotOpen_1 (ok_X4_hasBook e1) (sc_X4_whyNotOpen_X4_hasBook) wd_544 wd_545 wd_546 (ci := 4) (q0 := (RX4, TX4, 6)) rfl (by decide) rfl f1 rfl rfl (ym_st4 (Nat.le_of_ble_eq_true rfl)) rfl ?_
  by_cases c4 : q1.1 = 0
  · rw [if_pos c4] at hf
    refine ym_if_eq_y (pc := 4) (tgt := 12) dX4_whyNotOpen_4 (by decide) c4 ?_
    refine ym_bipush (pc := 12) (v := 6) dX4_whyNotOpen_12 (by decide) ?_
    cases hf
    exact ym_iret (pc := 14) dX4_whyNotOpen_14 rfl
  · rw [if_neg c4] at hf
    refine ym_if_eq_n (pc := 4) (tgt := 12) dX4_whyNotOpen_4 (by decide) c4 ?_
    refine ym_bipush (pc := 7) (v := 9) dX4_whyNotOpen_7 (by decide) ?_
    refine ym_goto (pc := 9) (tgt := 14) dX4_whyNotOpen_9 (by decide) ?_
    cases hf
    exact ym_iret (pc := 14) dX4_whyNotOpen_14 rfl
theorem dX4_writeLimit_0 : decode cX4_writeLimit 0 = .ok (.aload_n 0, 1) := by decide +kernel
theorem dX4_writeLimit_1 : decode cX4_writeLimit 1 = .ok (.getfield 35, 3) := by decide +kernel
theorem dX4_writeLimit_4 : decode cX4_writeLimit 4 = .ok (.invokevirtual 76, 3) := by decide +kernel
theorem dX4_writeLimit_7 : decode cX4_writeLimit 7 = .ok (.istore 5, 2) := by decide +kernel
theorem dX4_writeLimit_9 : decode cX4_writeLimit 9 = .ok (.aload_n 0, 1) := by decide +kernel
theorem dX4_writeLimit_10 : decode cX4_writeLimit 10 = .ok (.getfield 35, 3) := by decide +kernel
theorem dX4_writeLimit_13 : decode cX4_writeLimit 13 = .ok (.iload 5, 2) := by decide +kernel
theorem dX4_writeLimit_15 : decode cX4_writeLimit 15 = .ok (.iconst 0, 1) := by decide +kernel
theorem dX4_writeLimit_16 : decode cX4_writeLimit 16 = .ok (.iload_n 1, 1) := by decide +kernel
theorem dX4_writeLimit_17 : decode cX4_writeLimit 17 = .ok (.i2l, 1) := by decide +kernel
theorem dX4_writeLimit_18 : decode cX4_writeLimit 18 = .ok (.invokevirtual 79, 3) := by decide +kernel
theorem dX4_writeLimit_21 : decode cX4_writeLimit 21 = .ok (.aload_n 0, 1) := by decide +kernel
theorem dX4_writeLimit_22 : decode cX4_writeLimit 22 = .ok (.getfield 35, 3) := by decide +kernel
theorem dX4_writeLimit_25 : decode cX4_writeLimit 25 = .ok (.iload 5, 2) := by decide +kernel
theorem dX4_writeLimit_27 : decode cX4_writeLimit 27 = .ok (.iconst 1, 1) := by decide +kernel
theorem dX4_writeLimit_28 : decode cX4_writeLimit 28 = .ok (.lload_n 2, 1) := by decide +kernel
theorem dX4_writeLimit_29 : decode cX4_writeLimit 29 = .ok (.invokevirtual 79, 3) := by decide +kernel
theorem dX4_writeLimit_32 : decode cX4_writeLimit 32 = .ok (.aload_n 0, 1) := by decide +kernel
theorem dX4_writeLimit_33 : decode cX4_writeLimit 33 = .ok (.getfield 35, 3) := by decide +kernel
theorem dX4_writeLimit_36 : decode cX4_writeLimit 36 = .ok (.iload 5, 2) := by decide +kernel
theorem dX4_writeLimit_38 : decode cX4_writeLimit 38 = .ok (.iconst 2, 1) := by decide +kernel
theorem dX4_writeLimit_39 : decode cX4_writeLimit 39 = .ok (.iload 4, 2) := by decide +kernel
theorem dX4_writeLimit_41 : decode cX4_writeLimit 41 = .ok (.i2l, 1) := by decide +kernel
theorem dX4_writeLimit_42 : decode cX4_writeLimit 42 = .ok (.invokevirtual 79, 3) := by decide +kernel
theorem dX4_writeLimit_45 : decode cX4_writeLimit 45 = .ok (.return_, 1) := by decide +kernel
theorem sc_X4_writeLimit_X5_addRow : ym_site g_X4_writeLimit g_X5_addRow 6 5 0 := ⟨by decide, by decide, wd_407, wd_81, by decide +kernel⟩
theorem sc_X4_writeLimit_X5_put : ym_site g_X4_writeLimit g_X5_put 6 5 3 := ⟨by decide, by decide, wd_412, wd_81, by decide +kernel⟩
def fn_X4_writeLimit (N : Nat) (a0 : Option Nat) (a1 : Int32) (a2 : Int64) (a4 : Int32) (h : ym_H) : Option (Unit × ym_H) :=
  Option.bind (ym_gR h a0 4 4) fun v1 =>
  Option.bind (ym_ob h v1 5) fun o4 =>
  Option.bind (fn_X5_addRow N v1 h) fun q4 =>
  Option.bind (ym_gR q4.2 a0 4 4) fun v10 =>
  Option.bind (ym_ob q4.2 v10 5) fun o18 =>
  Option.bind (fn_X5_put N v10 q4.1 0 (Int32.toInt64 a1) q4.2) fun q18 =>
  Option.bind (ym_gR q18.2 a0 4 4) fun v22 =>
  Option.bind (ym_ob q18.2 v22 5) fun o29 =>
  Option.bind (fn_X5_put N v22 q4.1 1 a2 q18.2) fun q29 =>
  Option.bind (ym_gR q29.2 a0 4 4) fun v33 =>
  Option.bind (ym_ob q29.2 v33 5) fun o42 =>
  Option.bind (fn_X5_put N v33 q4.1 2 (Int32.toInt64 a4) q29.2) fun q42 =>
  some ((), q42.2)
set_option maxRecDepth 20000 in
set_option maxHeartbeats 4000000 in
theorem ok_X4_writeLimit {D : ym_D} {b0 : Nat} {N : Nat} {a0 : Option Nat} {a1 : Int32} {a2 : Int64} {a4 : Int32} {h h' : ym_H} {r : Unit} (hf : fn_X4_writeLimit N a0 a1 a2 a4 h = some (r, h')) : ym_M D b0 g_X4_writeLimit 6 [va_rf a0, .int a1, .long a2, .int a4] h none h' := by
  unfold fn_X4_writeLimit at hf
  refine ym_meth (lv := [(0, va_rf a0), (1, .int a1), (2, .long a2), (4, .int a4)]) (by decide) (by simp [lg_sl, ym_c1, ym_cI, ym_cL, g_X4_writeLimit]) (by simp [lv_args, ym_c1, ym_cI, ym_cL]) ?_
  refine ym_aload_n (pc := 0) 0 dX4_writeLimit_0 rfl rfl ?_
  obtain ⟨v1, e1, hf⟩ := Option.bind_eq_some_iff.mp hf
  refine ym_get (pc := 1) dX4_writeLimit_1 rfl (by decide) iX4 (k := 4) (by decide) wd_349 (ym_gR_v e1) ?_
  obtain ⟨o4, f4, hf⟩ := Option.bind_eq_some_iff.mp hf
  obtain ⟨q4, e4, hf⟩ := Option.bind_eq_some_iff.mp hf
  refine ym_callV (pc := 4) (G2 := g_X5_addRow) (dep2 := 5) (As := []) (st := []) (stk2 := [.int q4.1]) (r2 := (some (.int q4.1))) (h1 := q4.2) dX4_writeLimit_4 (ok_X5_addRow e4) (sc_X4_writeLimit_X5_addRow) wd_525 wd_405 wd_406 (ci := 5) (q0 := (RX5, TX5, 2)) rfl (by decide) rfl f4 rfl rfl (ym_st4 (Nat.le_of_ble_eq_true rfl)) rfl ?_
  refine ym_istore (pc := 7) (lv' := [(5, .int q4.1), (0, va_rf a0), (1, .int a1), (2, .long a2), (4, .int a4)]) dX4_writeLimit_7 (by decide) ⟨trivial, trivial, trivial, rfl, trivial⟩ rfl ?_
  refine ym_aload_n (pc := 9) 1 dX4_writeLimit_9 rfl rfl ?_
  obtain ⟨v10, e10, hf⟩ := Option.bind_eq_some_iff.mp hf
  refine ym_get (pc := 10) dX4_writeLimit_10 rfl (by decide) iX4 (k := 4) (by decide) wd_349 (ym_gR_v e10) ?_
  refine ym_iload (pc := 13) 0 dX4_writeLimit_13 rfl ?_
  refine ym_iconst (pc := 15) (v := 0) dX4_writeLimit_15 (by decide) ?_
  refine ym_iload_n (pc := 16) 2 dX4_writeLimit_16 rfl rfl ?_
  refine ym_i2l (pc := 17) dX4_writeLimit_17 ?_
  obtain ⟨o18, f18, hf⟩ := Option.bind_eq_some_iff.mp hf
  obtain ⟨q18, e18, hf⟩ := Option.bind_eq_some_iff.mp hf
  refine ym_callV (pc := 18) (G2 := g_X5_put) (dep2 := 5) (As := [.int q4.1, .int 0, .long (Int32.toInt64 a1)]) (st := []) (stk2 := []) (r2 := none) (h1 := q18.2) dX4_writeLimit_18 (ok_X5_put e18) (sc_X4_writeLimit_X5_put) wd_526 wd_410 wd_411 (ci := 5) (q0 := (RX5, TX5, 2)) rfl (by decide) rfl f18 rfl rfl (ym_st4 (Nat.le_of_ble_eq_true rfl)) rfl ?_
  refine ym_aload_n (pc := 21) 1 dX4_writeLimit_21 rfl rfl ?_
  obtain ⟨v22, e22, hf⟩ := Option.bind_eq_some_iff.mp hf
  refine ym_get (pc := 22) dX4_writeLimit_22 rfl (by decide) iX4 (k := 4) (by decide) wd_349 (ym_gR_v e22) ?_
  refine ym_iload (pc := 25) 0 dX4_writeLimit_25 rfl ?_
  refine ym_iconst (pc := 27) (v := 1) dX4_writeLimit_27 (by decide) ?_
  refine ym_lload_n (pc := 28) 3 dX4_writeLimit_28 rfl rfl ?_
  obtain ⟨o29, f29, hf⟩ := Option.bind_eq_some_iff.mp hf
  obtain ⟨q29, e29, hf⟩ := Option.bind_eq_some_iff.mp hf
  refine ym_callV (pc := 29) (G2 := g_X5_put) (dep2 := 5) (As := [.int q4.1, .int 1, .long a2]) (st := []) (stk2 := []) (r2 := none) (h1 := q29.2) dX4_writeLimit_29 (ok_X5_put e29) (sc_X4_writeLimit_X5_put) wd_526 wd_410 wd_411 (ci := 5) (q0 := (RX5, TX5, 2)) rfl (by decide) rfl f29 rfl rfl (ym_st4 (Nat.le_of_ble_eq_true rfl)) rfl ?_
  refine ym_aload_n (pc := 32) 1 dX4_writeLimit_32 rfl rfl ?_
  obtain ⟨v33, e33, hf⟩ := Option.bind_eq_some_iff.mp hf
  refine ym_get (pc := 33) dX4_writeLimit_33 rfl (by decide) iX4 (k := 4) (by decide) wd_349 (ym_gR_v e33) ?_
  refine ym_iload (pc := 36) 0 dX4_writeLimit_36 rfl ?_
  refine ym_iconst (pc := 38) (v := 2) dX4_writeLimit_38 (by decide) ?_
  refine ym_iload (pc := 39) 4 dX4_writeLimit_39 rfl ?_
  refine ym_i2l (pc := 41) dX4_writeLimit_41 ?_
  obtain ⟨o42, f42, hf⟩ := Option.bind_eq_some_iff.mp hf
  obtain ⟨q42, e42, hf⟩ := Option.bind_eq_some_iff.mp hf
  refine ym_callV (pc := 42) (G2 := g_X5_put) (dep2 := 5) (As := [.int q4.1, .int 2, .long (Int32.toInt64 a4)]) (st := []) (stk2 := []) (r2 := none) (h1 := q42.2) dX4_writeLimit_42 (ok_X5_put e42) (sc_X4_writeLimit_X5_put) wd_526 wd_410 wd_411 (ci := 5) (q0 := (RX5, TX5, 2)) rfl (by decide) rfl f42 rfl rfl (ym_st4 (Nat.le_of_ble_eq_true rfl)) rfl ?_
  cases hf
  exact ym_vret (pc := 45) dX4_writeLimit_45 rfl
theorem dX6_add_0 : decode cX6_add 0 = .ok (.aload_n 0, 1) := by decide +kernel
theorem dX6_add_1 : decode cX6_add 1 = .ok (.getfield 12, 3) := by decide +kernel
theorem dX6_add_4 : decode cX6_add 4 = .ok (.invokevirtual 26, 3) := by decide +kernel
theorem dX6_add_7 : decode cX6_add 7 = .ok (.istore 5, 2) := by decide +kernel
theorem dX6_add_9 : decode cX6_add 9 = .ok (.aload_n 0, 1) := by decide +kernel
theorem dX6_add_10 : decode cX6_add 10 = .ok (.getfield 12, 3) := by decide +kernel
theorem dX6_add_13 : decode cX6_add 13 = .ok (.iload 5, 2) := by decide +kernel
theorem dX6_add_15 : decode cX6_add 15 = .ok (.iconst 0, 1) := by decide +kernel
theorem dX6_add_16 : decode cX6_add 16 = .ok (.lload_n 1, 1) := by decide +kernel
theorem dX6_add_17 : decode cX6_add 17 = .ok (.invokevirtual 29, 3) := by decide +kernel
theorem dX6_add_20 : decode cX6_add 20 = .ok (.aload_n 0, 1) := by decide +kernel
theorem dX6_add_21 : decode cX6_add 21 = .ok (.getfield 12, 3) := by decide +kernel
theorem dX6_add_24 : decode cX6_add 24 = .ok (.iload 5, 2) := by decide +kernel
theorem dX6_add_26 : decode cX6_add 26 = .ok (.iconst 1, 1) := by decide +kernel
theorem dX6_add_27 : decode cX6_add 27 = .ok (.lload_n 3, 1) := by decide +kernel
theorem dX6_add_28 : decode cX6_add 28 = .ok (.invokevirtual 29, 3) := by decide +kernel
theorem dX6_add_31 : decode cX6_add 31 = .ok (.return_, 1) := by decide +kernel
theorem sc_X6_add_X5_addRow : ym_site g_X6_add g_X5_addRow 6 5 0 := ⟨by decide, by decide, wd_407, wd_81, by decide +kernel⟩
theorem sc_X6_add_X5_put : ym_site g_X6_add g_X5_put 6 5 3 := ⟨by decide, by decide, wd_412, wd_81, by decide +kernel⟩
def fn_X6_add (N : Nat) (a0 : Option Nat) (a1 : Int64) (a3 : Int64) (h : ym_H) : Option (Unit × ym_H) :=
  Option.bind (ym_gR h a0 6 0) fun v1 =>
  Option.bind (ym_ob h v1 5) fun o4 =>
  Option.bind (fn_X5_addRow N v1 h) fun q4 =>
  Option.bind (ym_gR q4.2 a0 6 0) fun v10 =>
  Option.bind (ym_ob q4.2 v10 5) fun o17 =>
  Option.bind (fn_X5_put N v10 q4.1 0 a1 q4.2) fun q17 =>
  Option.bind (ym_gR q17.2 a0 6 0) fun v21 =>
  Option.bind (ym_ob q17.2 v21 5) fun o28 =>
  Option.bind (fn_X5_put N v21 q4.1 1 a3 q17.2) fun q28 =>
  some ((), q28.2)
set_option maxRecDepth 20000 in
set_option maxHeartbeats 4000000 in
theorem ok_X6_add {D : ym_D} {b0 : Nat} {N : Nat} {a0 : Option Nat} {a1 : Int64} {a3 : Int64} {h h' : ym_H} {r : Unit} (hf : fn_X6_add N a0 a1 a3 h = some (r, h')) : ym_M D b0 g_X6_add 6 [va_rf a0, .long a1, .long a3] h none h' := by
  unfold fn_X6_add at hf
  refine ym_meth (lv := [(0, va_rf a0), (1, .long a1), (3, .long a3)]) (by decide) (by simp [lg_sl, ym_c1, ym_cI, ym_cL, g_X6_add]) (by simp [lv_args, ym_c1, ym_cI, ym_cL]) ?_
  refine ym_aload_n (pc := 0) 0 dX6_add_0 rfl rfl ?_
  obtain ⟨v1, e1, hf⟩ := Option.bind_eq_some_iff.mp hf
  refine ym_get (pc := 1) dX6_add_1 rfl (by decide) iX6 (k := 0) (by decide) wd_162 (ym_gR_v e1) ?_
  obtain ⟨o4, f4, hf⟩ := Option.bind_eq_some_iff.mp hf
  obtain ⟨q4, e4, hf⟩ := Option.bind_eq_some_iff.mp hf
  refine ym_callV (pc := 4) (G2 := g_X5_addRow) (dep2 := 5) (As := []) (st := []) (stk2 := [.int q4.1]) (r2 := (some (.int q4.1))) (h1 := q4.2) dX6_add_4 (ok_X5_addRow e4) (sc_X6_add_X5_addRow) wd_442 wd_405 wd_406 (ci := 5) (q0 := (RX5, TX5, 2)) rfl (by decide) rfl f4 rfl rfl (ym_st4 (Nat.le_of_ble_eq_true rfl)) rfl ?_
  refine ym_istore (pc := 7) (lv' := [(5, .int q4.1), (0, va_rf a0), (1, .long a1), (3, .long a3)]) dX6_add_7 (by decide) ⟨trivial, trivial, trivial, trivial⟩ rfl ?_
  refine ym_aload_n (pc := 9) 1 dX6_add_9 rfl rfl ?_
  obtain ⟨v10, e10, hf⟩ := Option.bind_eq_some_iff.mp hf
  refine ym_get (pc := 10) dX6_add_10 rfl (by decide) iX6 (k := 0) (by decide) wd_162 (ym_gR_v e10) ?_
  refine ym_iload (pc := 13) 0 dX6_add_13 rfl ?_
  refine ym_iconst (pc := 15) (v := 0) dX6_add_15 (by decide) ?_
  refine ym_lload_n (pc := 16) 2 dX6_add_16 rfl rfl ?_
  obtain ⟨o17, f17, hf⟩ := Option.bind_eq_some_iff.mp hf
  obtain ⟨q17, e17, hf⟩ := Option.bind_eq_some_iff.mp hf
  refine ym_callV (pc := 17) (G2 := g_X5_put) (dep2 := 5) (As := [.int q4.1, .int 0, .long a1]) (st := []) (stk2 := []) (r2 := none) (h1 := q17.2) dX6_add_17 (ok_X5_put e17) (sc_X6_add_X5_put) wd_443 wd_410 wd_411 (ci := 5) (q0 := (RX5, TX5, 2)) rfl (by decide) rfl f17 rfl rfl (ym_st4 (Nat.le_of_ble_eq_true rfl)) rfl ?_
  refine ym_aload_n (pc := 20) 1 dX6_add_20 rfl rfl ?_
  obtain ⟨v21, e21, hf⟩ := Option.bind_eq_some_iff.mp hf
  refine ym_get (pc := 21) dX6_add_21 rfl (by decide) iX6 (k := 0) (by decide) wd_162 (ym_gR_v e21) ?_
  refine ym_iload (pc := 24) 0 dX6_add_24 rfl ?_
  refine ym_iconst (pc := 26) (v := 1) dX6_add_26 (by decide) ?_
  refine ym_lload_n (pc := 27) 3 dX6_add_27 rfl rfl ?_
  obtain ⟨o28, f28, hf⟩ := Option.bind_eq_some_iff.mp hf
  obtain ⟨q28, e28, hf⟩ := Option.bind_eq_some_iff.mp hf
  refine ym_callV (pc := 28) (G2 := g_X5_put) (dep2 := 5) (As := [.int q4.1, .int 1, .long a3]) (st := []) (stk2 := []) (r2 := none) (h1 := q28.2) dX6_add_28 (ok_X5_put e28) (sc_X6_add_X5_put) wd_443 wd_410 wd_411 (ci := 5) (q0 := (RX5, TX5, 2)) rfl (by decide) rfl f28 rfl rfl (ym_st4 (Nat.le_of_ble_eq_true rfl)) rfl ?_
  cases hf
  exact ym_vret (pc := 31) dX6_add_31 rfl
theorem dX6_init_0 : decode cX6_init 0 = .ok (.aload_n 0, 1) := by decide +kernel
theorem dX6_init_1 : decode cX6_init 1 = .ok (.invokespecial 1, 3) := by decide +kernel
theorem dX6_init_4 : decode cX6_init 4 = .ok (.aload_n 0, 1) := by decide +kernel
theorem dX6_init_5 : decode cX6_init 5 = .ok (.new 7, 3) := by decide +kernel
theorem dX6_init_8 : decode cX6_init 8 = .ok (.dup, 1) := by decide +kernel
theorem dX6_init_9 : decode cX6_init 9 = .ok (.aload_n 1, 1) := by decide +kernel
theorem dX6_init_10 : decode cX6_init 10 = .ok (.iconst 2, 1) := by decide +kernel
theorem dX6_init_11 : decode cX6_init 11 = .ok (.invokespecial 9, 3) := by decide +kernel
theorem dX6_init_14 : decode cX6_init 14 = .ok (.putfield 12, 3) := by decide +kernel
theorem dX6_init_17 : decode cX6_init 17 = .ok (.return_, 1) := by decide +kernel
theorem sc_X6_init_X5_init : ym_site g_X6_init g_X5_init 4 3 2 := ⟨by decide, by decide, wd_151, wd_81, by decide +kernel⟩
def fn_X6_init (N : Nat) (a0 : Option Nat) (a1 : Option Nat) (h : ym_H) : Option (Unit × ym_H) :=
  Option.bind (ym_ob h a0 6) fun o1 =>
  Option.bind (ym_nO h 2 (.inr (5, [.null, .int 0]))) fun h5 =>
  Option.bind (fn_X5_init N (some h.1) a1 2 h5) fun q11 =>
  Option.bind (ym_pf q11.2 a0 6 0 (va_rf (some h.1))) fun h14 =>
  some ((), h14)
set_option maxRecDepth 20000 in
set_option maxHeartbeats 4000000 in
theorem ok_X6_init {D : ym_D} {b0 : Nat} {N : Nat} {a0 : Option Nat} {a1 : Option Nat} {h h' : ym_H} {r : Unit} (hf : fn_X6_init N a0 a1 h = some (r, h')) : ym_M D b0 g_X6_init 4 [va_rf a0, va_rf a1] h none h' := by
  unfold fn_X6_init at hf
  refine ym_meth (lv := [(0, va_rf a0), (1, va_rf a1)]) (by decide) (by simp [lg_sl, ym_c1, ym_cI, ym_cL, g_X6_init]) (by simp [lv_args, ym_c1, ym_cI, ym_cL]) ?_
  refine ym_aload_n (pc := 0) 0 dX6_init_0 rfl rfl ?_
  obtain ⟨o1, e1, hf⟩ := Option.bind_eq_some_iff.mp hf
  refine ym_objInit (pc := 1) dX6_init_1 wd_146 wd_94 wd_95 (by decide) (ym_st4 (Nat.le_of_ble_eq_true rfl)) (ym_ob_ne e1) ?_
  refine ym_aload_n (pc := 4) 0 dX6_init_4 rfl rfl ?_
  obtain ⟨h5, e5, hf⟩ := Option.bind_eq_some_iff.mp hf
  refine ym_newP (pc := 5) (h1 := h5) (ci := 5) [.null, .int 0] dX6_init_5 rfl iX5 tyX5 tyX5_ok wd_147 wd_148 wd_81 (by decide +kernel) e5 ?_
  refine ym_dup (pc := 8) dX6_init_8 (ym_c1 (some h.1)) ?_
  refine ym_aload_n (pc := 9) 1 dX6_init_9 rfl rfl ?_
  refine ym_iconst (pc := 10) (v := 2) dX6_init_10 (by decide) ?_
  obtain ⟨q11, e11, hf⟩ := Option.bind_eq_some_iff.mp hf
  refine ym_callI (pc := 11) (G2 := g_X5_init) (dep2 := 3) (a := (some h.1)) (As := [va_rf a1, .int 2]) (st := [va_rf (some h.1), va_rf a0]) (stk2 := [va_rf (some h.1), va_rf a0]) (r2 := none) (h1 := q11.2) dX6_init_11 (ok_X5_init e11) (sc_X6_init_X5_init) rfl rfl wd_149 wd_150 (Option.some_ne_none _) rfl rfl (ym_st4 (Nat.le_of_ble_eq_true rfl)) rfl ?_
  obtain ⟨h14, e14, hf⟩ := Option.bind_eq_some_iff.mp hf
  refine ym_putF (pc := 14) (h1 := h14) dX6_init_14 rfl (by decide) iX6 tyX6 tyX6_ok nmX6 (k := 0) (by decide) wd_162 rfl rfl rfl (tyX6_ok 0 (by decide)) (ym_nrO _ _) (ym_fiO _ _) e14 ?_
  cases hf
  exact ym_vret (pc := 17) dX6_init_17 rfl
theorem dX6_lastFrom_0 : decode cX6_lastFrom 0 = .ok (.aload_n 0, 1) := by decide +kernel
theorem dX6_lastFrom_1 : decode cX6_lastFrom 1 = .ok (.getfield 12, 3) := by decide +kernel
theorem dX6_lastFrom_4 : decode cX6_lastFrom 4 = .ok (.aload_n 0, 1) := by decide +kernel
theorem dX6_lastFrom_5 : decode cX6_lastFrom 5 = .ok (.getfield 12, 3) := by decide +kernel
theorem dX6_lastFrom_8 : decode cX6_lastFrom 8 = .ok (.invokevirtual 18, 3) := by decide +kernel
theorem dX6_lastFrom_11 : decode cX6_lastFrom 11 = .ok (.iconst 1, 1) := by decide +kernel
theorem dX6_lastFrom_12 : decode cX6_lastFrom 12 = .ok (.isub, 1) := by decide +kernel
theorem dX6_lastFrom_13 : decode cX6_lastFrom 13 = .ok (.iconst 0, 1) := by decide +kernel
theorem dX6_lastFrom_14 : decode cX6_lastFrom 14 = .ok (.invokevirtual 22, 3) := by decide +kernel
theorem dX6_lastFrom_17 : decode cX6_lastFrom 17 = .ok (.lreturn, 1) := by decide +kernel
theorem sc_X6_lastFrom_X5_rows : ym_site g_X6_lastFrom g_X5_rows 3 2 0 := ⟨by decide, by decide, wd_397, wd_81, by decide +kernel⟩
theorem sc_X6_lastFrom_X5_at : ym_site g_X6_lastFrom g_X5_at 3 2 2 := ⟨by decide, by decide, wd_402, wd_81, by decide +kernel⟩
def fn_X6_lastFrom (N : Nat) (a0 : Option Nat) (h : ym_H) : Option (Int64 × ym_H) :=
  Option.bind (ym_gR h a0 6 0) fun v1 =>
  Option.bind (ym_gR h a0 6 0) fun v5 =>
  Option.bind (ym_ob h v5 5) fun o8 =>
  Option.bind (fn_X5_rows N v5 h) fun q8 =>
  Option.bind (ym_ob q8.2 v1 5) fun o14 =>
  Option.bind (fn_X5_at N v1 (q8.1 - 1) 0 q8.2) fun q14 =>
  some (q14.1, q14.2)
set_option maxRecDepth 20000 in
set_option maxHeartbeats 4000000 in
theorem ok_X6_lastFrom {D : ym_D} {b0 : Nat} {N : Nat} {a0 : Option Nat} {h h' : ym_H} {r : Int64} (hf : fn_X6_lastFrom N a0 h = some (r, h')) : ym_M D b0 g_X6_lastFrom 3 [va_rf a0] h (some (.long r)) h' := by
  unfold fn_X6_lastFrom at hf
  refine ym_meth (lv := [(0, va_rf a0)]) (by decide) (by simp [lg_sl, ym_c1, ym_cI, ym_cL, g_X6_lastFrom]) (by simp [lv_args, ym_c1, ym_cI, ym_cL]) ?_
  refine ym_aload_n (pc := 0) 0 dX6_lastFrom_0 rfl rfl ?_
  obtain ⟨v1, e1, hf⟩ := Option.bind_eq_some_iff.mp hf
  refine ym_get (pc := 1) dX6_lastFrom_1 rfl (by decide) iX6 (k := 0) (by decide) wd_162 (ym_gR_v e1) ?_
  refine ym_aload_n (pc := 4) 0 dX6_lastFrom_4 rfl rfl ?_
  obtain ⟨v5, e5, hf⟩ := Option.bind_eq_some_iff.mp hf
  refine ym_get (pc := 5) dX6_lastFrom_5 rfl (by decide) iX6 (k := 0) (by decide) wd_162 (ym_gR_v e5) ?_
  obtain ⟨o8, f8, hf⟩ := Option.bind_eq_some_iff.mp hf
  obtain ⟨q8, e8, hf⟩ := Option.bind_eq_some_iff.mp hf
  refine ym_callV (pc := 8) (G2 := g_X5_rows) (dep2 := 2) (As := []) (st := [va_rf v1]) (stk2 := [.int q8.1, va_rf v1]) (r2 := (some (.int q8.1))) (h1 := q8.2) dX6_lastFrom_8 (ok_X5_rows e8) (sc_X6_lastFrom_X5_rows) wd_432 wd_395 wd_396 (ci := 5) (q0 := (RX5, TX5, 2)) rfl (by decide) rfl f8 rfl rfl (ym_st4 (Nat.le_of_ble_eq_true rfl)) rfl ?_
  refine ym_iconst (pc := 11) (v := 1) dX6_lastFrom_11 (by decide) ?_
  refine ym_isub (pc := 12) dX6_lastFrom_12 ?_
  refine ym_iconst (pc := 13) (v := 0) dX6_lastFrom_13 (by decide) ?_
  obtain ⟨o14, f14, hf⟩ := Option.bind_eq_some_iff.mp hf
  obtain ⟨q14, e14, hf⟩ := Option.bind_eq_some_iff.mp hf
  refine ym_callV (pc := 14) (G2 := g_X5_at) (dep2 := 2) (As := [.int (q8.1 - 1), .int 0]) (st := []) (stk2 := [.long q14.1]) (r2 := (some (.long q14.1))) (h1 := q14.2) dX6_lastFrom_14 (ok_X5_at e14) (sc_X6_lastFrom_X5_at) wd_437 wd_400 wd_401 (ci := 5) (q0 := (RX5, TX5, 2)) rfl (by decide) rfl f14 rfl rfl (ym_st4 (Nat.le_of_ble_eq_true rfl)) rfl ?_
  cases hf
  exact ym_lret (pc := 17) dX6_lastFrom_17 rfl
theorem dX6_premiumTimesRate_0 : decode cX6_premiumTimesRate 0 = .ok (.lconst 0, 1) := by decide +kernel
theorem dX6_premiumTimesRate_1 : decode cX6_premiumTimesRate 1 = .ok (.lstore_n 3, 1) := by decide +kernel
theorem dX6_premiumTimesRate_2 : decode cX6_premiumTimesRate 2 = .ok (.aload_n 0, 1) := by decide +kernel
theorem dX6_premiumTimesRate_3 : decode cX6_premiumTimesRate 3 = .ok (.getfield 12, 3) := by decide +kernel
theorem dX6_premiumTimesRate_6 : decode cX6_premiumTimesRate 6 = .ok (.invokevirtual 18, 3) := by decide +kernel
theorem dX6_premiumTimesRate_9 : decode cX6_premiumTimesRate 9 = .ok (.istore 5, 2) := by decide +kernel
theorem dX6_premiumTimesRate_11 : decode cX6_premiumTimesRate 11 = .ok (.iconst 0, 1) := by decide +kernel
theorem dX6_premiumTimesRate_12 : decode cX6_premiumTimesRate 12 = .ok (.istore 6, 2) := by decide +kernel
theorem dX6_premiumTimesRate_14 : decode cX6_premiumTimesRate 14 = .ok (.iload 6, 2) := by decide +kernel
theorem dX6_premiumTimesRate_16 : decode cX6_premiumTimesRate 16 = .ok (.iload 5, 2) := by decide +kernel
theorem dX6_premiumTimesRate_18 : decode cX6_premiumTimesRate 18 = .ok (.if_icmp .ge 82, 3) := by decide +kernel
theorem dX6_premiumTimesRate_21 : decode cX6_premiumTimesRate 21 = .ok (.aload_n 0, 1) := by decide +kernel
theorem dX6_premiumTimesRate_22 : decode cX6_premiumTimesRate 22 = .ok (.getfield 12, 3) := by decide +kernel
theorem dX6_premiumTimesRate_25 : decode cX6_premiumTimesRate 25 = .ok (.iload 6, 2) := by decide +kernel
theorem dX6_premiumTimesRate_27 : decode cX6_premiumTimesRate 27 = .ok (.iconst 0, 1) := by decide +kernel
theorem dX6_premiumTimesRate_28 : decode cX6_premiumTimesRate 28 = .ok (.invokevirtual 22, 3) := by decide +kernel
theorem dX6_premiumTimesRate_31 : decode cX6_premiumTimesRate 31 = .ok (.lload_n 1, 1) := by decide +kernel
theorem dX6_premiumTimesRate_32 : decode cX6_premiumTimesRate 32 = .ok (.lcmp, 1) := by decide +kernel
theorem dX6_premiumTimesRate_33 : decode cX6_premiumTimesRate 33 = .ok (.ifCond .ge 67, 3) := by decide +kernel
theorem dX6_premiumTimesRate_36 : decode cX6_premiumTimesRate 36 = .ok (.iload 6, 2) := by decide +kernel
theorem dX6_premiumTimesRate_38 : decode cX6_premiumTimesRate 38 = .ok (.iconst 1, 1) := by decide +kernel
theorem dX6_premiumTimesRate_39 : decode cX6_premiumTimesRate 39 = .ok (.iadd, 1) := by decide +kernel
theorem dX6_premiumTimesRate_40 : decode cX6_premiumTimesRate 40 = .ok (.iload 5, 2) := by decide +kernel
theorem dX6_premiumTimesRate_42 : decode cX6_premiumTimesRate 42 = .ok (.if_icmp .ge 22, 3) := by decide +kernel
theorem dX6_premiumTimesRate_45 : decode cX6_premiumTimesRate 45 = .ok (.lload_n 1, 1) := by decide +kernel
theorem dX6_premiumTimesRate_46 : decode cX6_premiumTimesRate 46 = .ok (.aload_n 0, 1) := by decide +kernel
theorem dX6_premiumTimesRate_47 : decode cX6_premiumTimesRate 47 = .ok (.getfield 12, 3) := by decide +kernel
theorem dX6_premiumTimesRate_50 : decode cX6_premiumTimesRate 50 = .ok (.iload 6, 2) := by decide +kernel
theorem dX6_premiumTimesRate_52 : decode cX6_premiumTimesRate 52 = .ok (.iconst 1, 1) := by decide +kernel
theorem dX6_premiumTimesRate_53 : decode cX6_premiumTimesRate 53 = .ok (.iadd, 1) := by decide +kernel
theorem dX6_premiumTimesRate_54 : decode cX6_premiumTimesRate 54 = .ok (.iconst 0, 1) := by decide +kernel
theorem dX6_premiumTimesRate_55 : decode cX6_premiumTimesRate 55 = .ok (.invokevirtual 22, 3) := by decide +kernel
theorem dX6_premiumTimesRate_58 : decode cX6_premiumTimesRate 58 = .ok (.invokestatic 33, 3) := by decide +kernel
theorem dX6_premiumTimesRate_61 : decode cX6_premiumTimesRate 61 = .ok (.goto 4, 3) := by decide +kernel
theorem dX6_premiumTimesRate_64 : decode cX6_premiumTimesRate 64 = .ok (.lload_n 1, 1) := by decide +kernel
theorem dX6_premiumTimesRate_65 : decode cX6_premiumTimesRate 65 = .ok (.lstore 7, 2) := by decide +kernel
theorem dX6_premiumTimesRate_67 : decode cX6_premiumTimesRate 67 = .ok (.lload_n 3, 1) := by decide +kernel
theorem dX6_premiumTimesRate_68 : decode cX6_premiumTimesRate 68 = .ok (.lload 7, 2) := by decide +kernel
theorem dX6_premiumTimesRate_70 : decode cX6_premiumTimesRate 70 = .ok (.aload_n 0, 1) := by decide +kernel
theorem dX6_premiumTimesRate_71 : decode cX6_premiumTimesRate 71 = .ok (.getfield 12, 3) := by decide +kernel
theorem dX6_premiumTimesRate_74 : decode cX6_premiumTimesRate 74 = .ok (.iload 6, 2) := by decide +kernel
theorem dX6_premiumTimesRate_76 : decode cX6_premiumTimesRate 76 = .ok (.iconst 0, 1) := by decide +kernel
theorem dX6_premiumTimesRate_77 : decode cX6_premiumTimesRate 77 = .ok (.invokevirtual 22, 3) := by decide +kernel
theorem dX6_premiumTimesRate_80 : decode cX6_premiumTimesRate 80 = .ok (.lsub, 1) := by decide +kernel
theorem dX6_premiumTimesRate_81 : decode cX6_premiumTimesRate 81 = .ok (.aload_n 0, 1) := by decide +kernel
theorem dX6_premiumTimesRate_82 : decode cX6_premiumTimesRate 82 = .ok (.getfield 12, 3) := by decide +kernel
theorem dX6_premiumTimesRate_85 : decode cX6_premiumTimesRate 85 = .ok (.iload 6, 2) := by decide +kernel
theorem dX6_premiumTimesRate_87 : decode cX6_premiumTimesRate 87 = .ok (.iconst 1, 1) := by decide +kernel
theorem dX6_premiumTimesRate_88 : decode cX6_premiumTimesRate 88 = .ok (.invokevirtual 22, 3) := by decide +kernel
theorem dX6_premiumTimesRate_91 : decode cX6_premiumTimesRate 91 = .ok (.lmul, 1) := by decide +kernel
theorem dX6_premiumTimesRate_92 : decode cX6_premiumTimesRate 92 = .ok (.ladd, 1) := by decide +kernel
theorem dX6_premiumTimesRate_93 : decode cX6_premiumTimesRate 93 = .ok (.lstore_n 3, 1) := by decide +kernel
theorem dX6_premiumTimesRate_94 : decode cX6_premiumTimesRate 94 = .ok (.iinc 6 1, 3) := by decide +kernel
theorem dX6_premiumTimesRate_97 : decode cX6_premiumTimesRate 97 = .ok (.goto (-83), 3) := by decide +kernel
theorem dX6_premiumTimesRate_100 : decode cX6_premiumTimesRate 100 = .ok (.lload_n 3, 1) := by decide +kernel
theorem dX6_premiumTimesRate_101 : decode cX6_premiumTimesRate 101 = .ok (.lreturn, 1) := by decide +kernel
theorem sc_X6_premiumTimesRate_X5_rows : ym_site g_X6_premiumTimesRate g_X5_rows 3 2 0 := ⟨by decide, by decide, wd_397, wd_81, by decide +kernel⟩
theorem sc_X6_premiumTimesRate_X5_at : ym_site g_X6_premiumTimesRate g_X5_at 3 2 2 := ⟨by decide, by decide, wd_402, wd_81, by decide +kernel⟩
def bl_X6_premiumTimesRate_65_14 (K : Option Nat → Int64 → Int64 → Int32 → Int32 → ym_H → Option ((Int64) × ym_H)) (N : Nat) (w0 : Option Nat) (w1 : Int64) (w3 : Int64) (w5 : Int32) (w6 : Int32) (s0 : Int64) (h : ym_H) : Option ((Int64) × ym_H) :=
  Option.bind (ym_gR h w0 6 0) fun v71 =>
  Option.bind (ym_ob h v71 5) fun o77 =>
  Option.bind (fn_X5_at N v71 w6 0 h) fun q77 =>
  Option.bind (ym_gR q77.2 w0 6 0) fun v82 =>
  Option.bind (ym_ob q77.2 v82 5) fun o88 =>
  Option.bind (fn_X5_at N v82 w6 1 q77.2) fun q88 =>
  K w0 w1 (w3 + ((s0 - q77.1) * q88.1)) w5 (w6 + 1) q88.2
set_option maxRecDepth 20000 in
set_option maxHeartbeats 4000000 in
theorem ob_X6_premiumTimesRate_65_14 {D : ym_D} {b0 : Nat} {K : Option Nat → Int64 → Int64 → Int32 → Int32 → ym_H → Option ((Int64) × ym_H)} {N : Nat} {w0 : Option Nat} {w1 : Int64} {w3 : Int64} {w5 : Int32} {w6 : Int32} {s0 : Int64} {h h1 : ym_H} {x : (Int64)} (hKl : ∀ (u0 : Option Nat) (u1 : Int64) (u3 : Int64) (u5 : Int32) (u6 : Int32) (h h1 : ym_H) (x : (Int64)), K u0 u1 u3 u5 u6 h = some (x, h1) → ∀ {r0 : Option Value} {h' : ym_H}, ym_Y D b0 g_X6_premiumTimesRate 3 100 [(3, .long x)] [] h1 r0 h' → ym_Y D b0 g_X6_premiumTimesRate 3 14 [(0, va_rf u0), (1, .long u1), (3, .long u3), (5, .int u5), (6, .int u6)] [] h r0 h') (hf : bl_X6_premiumTimesRate_65_14 K N w0 w1 w3 w5 w6 s0 h = some (x, h1)) {r0 : Option Value} {h' : ym_H} (k : ym_Y D b0 g_X6_premiumTimesRate 3 100 [(3, .long x)] [] h1 r0 h') : ym_Y D b0 g_X6_premiumTimesRate 3 65 [(0, va_rf w0), (1, .long w1), (3, .long w3), (5, .int w5), (6, .int w6)] [.long s0] h r0 h' := by
  unfold bl_X6_premiumTimesRate_65_14 at hf
  refine ym_lstore (pc := 65) (lv' := [(7, .long s0), (0, va_rf w0), (1, .long w1), (3, .long w3), (5, .int w5), (6, .int w6)]) dX6_premiumTimesRate_65 (by decide) ⟨trivial, trivial, trivial, trivial, rfl, trivial⟩ rfl ?_
  refine ym_lload_n (pc := 67) 3 dX6_premiumTimesRate_67 rfl rfl ?_
  refine ym_lload (pc := 68) 0 dX6_premiumTimesRate_68 rfl ?_
  refine ym_aload_n (pc := 70) 1 dX6_premiumTimesRate_70 rfl rfl ?_
  obtain ⟨v71, e71, hf⟩ := Option.bind_eq_some_iff.mp hf
  refine ym_get (pc := 71) dX6_premiumTimesRate_71 rfl (by decide) iX6 (k := 0) (by decide) wd_162 (ym_gR_v e71) ?_
  refine ym_iload (pc := 74) 5 dX6_premiumTimesRate_74 rfl ?_
  refine ym_iconst (pc := 76) (v := 0) dX6_premiumTimesRate_76 (by decide) ?_
  obtain ⟨o77, f77, hf⟩ := Option.bind_eq_some_iff.mp hf
  obtain ⟨q77, e77, hf⟩ := Option.bind_eq_some_iff.mp hf
  refine ym_callV (pc := 77) (G2 := g_X5_at) (dep2 := 2) (As := [.int w6, .int 0]) (st := [.long s0, .long w3]) (stk2 := [.long q77.1, .long s0, .long w3]) (r2 := (some (.long q77.1))) (h1 := q77.2) dX6_premiumTimesRate_77 (ok_X5_at e77) (sc_X6_premiumTimesRate_X5_at) wd_437 wd_400 wd_401 (ci := 5) (q0 := (RX5, TX5, 2)) rfl (by decide) rfl f77 rfl rfl (ym_st4 (Nat.le_of_ble_eq_true rfl)) rfl ?_
  refine ym_lsub (pc := 80) dX6_premiumTimesRate_80 ?_
  refine ym_aload_n (pc := 81) 1 dX6_premiumTimesRate_81 rfl rfl ?_
  obtain ⟨v82, e82, hf⟩ := Option.bind_eq_some_iff.mp hf
  refine ym_get (pc := 82) dX6_premiumTimesRate_82 rfl (by decide) iX6 (k := 0) (by decide) wd_162 (ym_gR_v e82) ?_
  refine ym_iload (pc := 85) 5 dX6_premiumTimesRate_85 rfl ?_
  refine ym_iconst (pc := 87) (v := 1) dX6_premiumTimesRate_87 (by decide) ?_
  obtain ⟨o88, f88, hf⟩ := Option.bind_eq_some_iff.mp hf
  obtain ⟨q88, e88, hf⟩ := Option.bind_eq_some_iff.mp hf
  refine ym_callV (pc := 88) (G2 := g_X5_at) (dep2 := 2) (As := [.int w6, .int 1]) (st := [.long (s0 - q77.1), .long w3]) (stk2 := [.long q88.1, .long (s0 - q77.1), .long w3]) (r2 := (some (.long q88.1))) (h1 := q88.2) dX6_premiumTimesRate_88 (ok_X5_at e88) (sc_X6_premiumTimesRate_X5_at) wd_437 wd_400 wd_401 (ci := 5) (q0 := (RX5, TX5, 2)) rfl (by decide) rfl f88 rfl rfl (ym_st4 (Nat.le_of_ble_eq_true rfl)) rfl ?_
  refine ym_lmul (pc := 91) dX6_premiumTimesRate_91 ?_
  refine ym_ladd (pc := 92) dX6_premiumTimesRate_92 ?_
  refine ym_sub (lv' := [(0, va_rf w0), (1, .long w1), (5, .int w5), (6, .int w6)]) [1, 2, 4, 5] rfl ?_
  refine ym_lstore_n (pc := 93) (lv' := [(3, .long (w3 + ((s0 - q77.1) * q88.1))), (0, va_rf w0), (1, .long w1), (5, .int w5), (6, .int w6)]) dX6_premiumTimesRate_93 rfl (by decide) ⟨trivial, trivial, trivial, trivial, trivial⟩ rfl ?_
  refine ym_iinc (pc := 94) (lv' := [(6, .int (w6 + 1)), (3, .long (w3 + ((s0 - q77.1) * q88.1))), (0, va_rf w0), (1, .long w1), (5, .int w5)]) (v := (w6 + 1)) 4 dX6_premiumTimesRate_94 rfl (by rw [show Int32.ofInt 1 = 1 by decide]) (by decide) ⟨trivial, trivial, trivial, rfl, trivial, trivial⟩ rfl ?_
  refine ym_goto (pc := 97) (tgt := 14) dX6_premiumTimesRate_97 (by decide) ?_
  exact ym_sub [2, 3, 1, 4, 0] rfl (hKl _ _ _ _ _ _ _ _ hf k)
def lb_X6_premiumTimesRate_14 (K : Option Nat → Int64 → Int64 → Int32 → Int32 → ym_H → Option ((Int64) × ym_H)) (N : Nat) (w0 : Option Nat) (w1 : Int64) (w3 : Int64) (w5 : Int32) (w6 : Int32) (h : ym_H) : Option ((Int64) × ym_H) :=
  if w5 ≤ w6 then
    some (w3, h)
  else
    Option.bind (ym_gR h w0 6 0) fun v22 =>
    Option.bind (ym_ob h v22 5) fun o28 =>
    Option.bind (fn_X5_at N v22 w6 0 h) fun q28 =>
    if w1 ≤ q28.1 then
      some (w3, q28.2)
    else
      if w5 ≤ (w6 + 1) then
        bl_X6_premiumTimesRate_65_14 K N w0 w1 w3 w5 w6 w1 q28.2
      else
        Option.bind (ym_gR q28.2 w0 6 0) fun v47 =>
        Option.bind (ym_ob q28.2 v47 5) fun o55 =>
        Option.bind (fn_X5_at N v47 (w6 + 1) 0 q28.2) fun q55 =>
        bl_X6_premiumTimesRate_65_14 K N w0 w1 w3 w5 w6 (if q55.1 < w1 then q55.1 else w1) q55.2
set_option maxRecDepth 20000 in
set_option maxHeartbeats 4000000 in
theorem ol_X6_premiumTimesRate_14 {D : ym_D} {b0 : Nat} {K : Option Nat → Int64 → Int64 → Int32 → Int32 → ym_H → Option ((Int64) × ym_H)} {N : Nat} {w0 : Option Nat} {w1 : Int64} {w3 : Int64} {w5 : Int32} {w6 : Int32} {h h1 : ym_H} {x : (Int64)} (hKl : ∀ (u0 : Option Nat) (u1 : Int64) (u3 : Int64) (u5 : Int32) (u6 : Int32) (h h1 : ym_H) (x : (Int64)), K u0 u1 u3 u5 u6 h = some (x, h1) → ∀ {r0 : Option Value} {h' : ym_H}, ym_Y D b0 g_X6_premiumTimesRate 3 100 [(3, .long x)] [] h1 r0 h' → ym_Y D b0 g_X6_premiumTimesRate 3 14 [(0, va_rf u0), (1, .long u1), (3, .long u3), (5, .int u5), (6, .int u6)] [] h r0 h') (hf : lb_X6_premiumTimesRate_14 K N w0 w1 w3 w5 w6 h = some (x, h1)) {r0 : Option Value} {h' : ym_H} (k : ym_Y D b0 g_X6_premiumTimesRate 3 100 [(3, .long x)] [] h1 r0 h') : ym_Y D b0 g_X6_premiumTimesRate 3 14 [(0, va_rf w0), (1, .long w1), (3, .long w3), (5, .int w5), (6, .int w6)] [] h r0 h' := by
  unfold lb_X6_premiumTimesRate_14 at hf
  refine ym_iload (pc := 14) 4 dX6_premiumTimesRate_14 rfl ?_
  refine ym_iload (pc := 16) 3 dX6_premiumTimesRate_16 rfl ?_
  by_cases c18 : w5 ≤ w6
  · rw [if_pos c18] at hf
    refine ym_icmp_ge_y (pc := 18) (tgt := 100) dX6_premiumTimesRate_18 (by decide) c18 ?_
    cases hf
    exact ym_sub [2] rfl k
  · rw [if_neg c18] at hf
    refine ym_icmp_ge_n (pc := 18) (tgt := 100) dX6_premiumTimesRate_18 (by decide) c18 ?_
    refine ym_aload_n (pc := 21) 0 dX6_premiumTimesRate_21 rfl rfl ?_
    obtain ⟨v22, e22, hf⟩ := Option.bind_eq_some_iff.mp hf
    refine ym_get (pc := 22) dX6_premiumTimesRate_22 rfl (by decide) iX6 (k := 0) (by decide) wd_162 (ym_gR_v e22) ?_
    refine ym_iload (pc := 25) 4 dX6_premiumTimesRate_25 rfl ?_
    refine ym_iconst (pc := 27) (v := 0) dX6_premiumTimesRate_27 (by decide) ?_
    obtain ⟨o28, f28, hf⟩ := Option.bind_eq_some_iff.mp hf
    obtain ⟨q28, e28, hf⟩ := Option.bind_eq_some_iff.mp hf
    refine ym_callV (pc := 28) (G2 := g_X5_at) (dep2 := 2) (As := [.int w6, .int 0]) (st := []) (stk2 := [.long q28.1]) (r2 := (some (.long q28.1))) (h1 := q28.2) dX6_premiumTimesRate_28 (ok_X5_at e28) (sc_X6_premiumTimesRate_X5_at) wd_437 wd_400 wd_401 (ci := 5) (q0 := (RX5, TX5, 2)) rfl (by decide) rfl f28 rfl rfl (ym_st4 (Nat.le_of_ble_eq_true rfl)) rfl ?_
    refine ym_lload_n (pc := 31) 1 dX6_premiumTimesRate_31 rfl rfl ?_
    by_cases c32 : w1 ≤ q28.1
    · rw [if_pos c32] at hf
      refine ym_lcmp_ge_y (pc := 32) (tgt := 100) dX6_premiumTimesRate_32 dX6_premiumTimesRate_33 (by decide) c32 ?_
      cases hf
      exact ym_sub [2] rfl k
    · rw [if_neg c32] at hf
      refine ym_lcmp_ge_n (pc := 32) (tgt := 100) dX6_premiumTimesRate_32 dX6_premiumTimesRate_33 (by decide) c32 ?_
      refine ym_iload (pc := 36) 4 dX6_premiumTimesRate_36 rfl ?_
      refine ym_iconst (pc := 38) (v := 1) dX6_premiumTimesRate_38 (by decide) ?_
      refine ym_iadd (pc := 39) dX6_premiumTimesRate_39 ?_
      refine ym_iload (pc := 40) 3 dX6_premiumTimesRate_40 rfl ?_
      by_cases c42 : w5 ≤ (w6 + 1)
      · rw [if_pos c42] at hf
        refine ym_icmp_ge_y (pc := 42) (tgt := 64) dX6_premiumTimesRate_42 (by decide) c42 ?_
        refine ym_lload_n (pc := 64) 1 dX6_premiumTimesRate_64 rfl rfl ?_
        exact ym_sub [0, 1, 2, 3, 4] rfl (ob_X6_premiumTimesRate_65_14 hKl hf k)
      · rw [if_neg c42] at hf
        refine ym_icmp_ge_n (pc := 42) (tgt := 64) dX6_premiumTimesRate_42 (by decide) c42 ?_
        refine ym_lload_n (pc := 45) 1 dX6_premiumTimesRate_45 rfl rfl ?_
        refine ym_aload_n (pc := 46) 0 dX6_premiumTimesRate_46 rfl rfl ?_
        obtain ⟨v47, e47, hf⟩ := Option.bind_eq_some_iff.mp hf
        refine ym_get (pc := 47) dX6_premiumTimesRate_47 rfl (by decide) iX6 (k := 0) (by decide) wd_162 (ym_gR_v e47) ?_
        refine ym_iload (pc := 50) 4 dX6_premiumTimesRate_50 rfl ?_
        refine ym_iconst (pc := 52) (v := 1) dX6_premiumTimesRate_52 (by decide) ?_
        refine ym_iadd (pc := 53) dX6_premiumTimesRate_53 ?_
        refine ym_iconst (pc := 54) (v := 0) dX6_premiumTimesRate_54 (by decide) ?_
        obtain ⟨o55, f55, hf⟩ := Option.bind_eq_some_iff.mp hf
        obtain ⟨q55, e55, hf⟩ := Option.bind_eq_some_iff.mp hf
        refine ym_callV (pc := 55) (G2 := g_X5_at) (dep2 := 2) (As := [.int (w6 + 1), .int 0]) (st := [.long w1]) (stk2 := [.long q55.1, .long w1]) (r2 := (some (.long q55.1))) (h1 := q55.2) dX6_premiumTimesRate_55 (ok_X5_at e55) (sc_X6_premiumTimesRate_X5_at) wd_437 wd_400 wd_401 (ci := 5) (q0 := (RX5, TX5, 2)) rfl (by decide) rfl f55 rfl rfl (ym_st4 (Nat.le_of_ble_eq_true rfl)) rfl ?_
        refine ym_mminL (pc := 58) dX6_premiumTimesRate_58 wd_663 wd_506 wd_79 wd_507 (by decide) (ym_st4 (Nat.le_of_ble_eq_true rfl)) ?_
        refine ym_goto (pc := 61) (tgt := 65) dX6_premiumTimesRate_61 (by decide) ?_
        exact ym_sub [0, 1, 2, 3, 4] rfl (ob_X6_premiumTimesRate_65_14 hKl hf k)
def lp_X6_premiumTimesRate_14 (N : Nat) : Nat → Option Nat → Int64 → Int64 → Int32 → Int32 → ym_H → Option ((Int64) × ym_H)
  | 0, _, _, _, _, _, _ => none
  | n + 1, w0, w1, w3, w5, w6, h => lb_X6_premiumTimesRate_14 (lp_X6_premiumTimesRate_14 N n) N w0 w1 w3 w5 w6 h
set_option maxRecDepth 20000 in
set_option maxHeartbeats 4000000 in
theorem ok_lp_X6_premiumTimesRate_14 {D : ym_D} {b0 : Nat} {N : Nat}  : ∀ (n : Nat) (w0 : Option Nat) (w1 : Int64) (w3 : Int64) (w5 : Int32) (w6 : Int32) (h h1 : ym_H) (x : (Int64)), lp_X6_premiumTimesRate_14 N n w0 w1 w3 w5 w6 h = some (x, h1) → ∀ {r0 : Option Value} {h' : ym_H}, ym_Y D b0 g_X6_premiumTimesRate 3 100 [(3, .long x)] [] h1 r0 h' → ym_Y D b0 g_X6_premiumTimesRate 3 14 [(0, va_rf w0), (1, .long w1), (3, .long w3), (5, .int w5), (6, .int w6)] [] h r0 h' := by
  intro n
  induction n with
  | zero =>
    intro w0 w1 w3 w5 w6 h h1 x hf
    cases hf
  | succ n ih =>
    intro w0 w1 w3 w5 w6 h h1 x hf r0 h' k
    exact ol_X6_premiumTimesRate_14 (fun w0 w1 w3 w5 w6 h h1 x z r0 h' k => ih w0 w1 w3 w5 w6 h h1 x z k) hf k
def fn_X6_premiumTimesRate (N : Nat) (a0 : Option Nat) (a1 : Int64) (h : ym_H) : Option (Int64 × ym_H) :=
  Option.bind (ym_gR h a0 6 0) fun v3 =>
  Option.bind (ym_ob h v3 5) fun o6 =>
  Option.bind (fn_X5_rows N v3 h) fun q6 =>
  Option.bind (lp_X6_premiumTimesRate_14 N N a0 a1 0 q6.1 0 q6.2) fun q14 =>
  some (q14.1, q14.2)
set_option maxRecDepth 20000 in
set_option maxHeartbeats 4000000 in
theorem ok_X6_premiumTimesRate {D : ym_D} {b0 : Nat} {N : Nat} {a0 : Option Nat} {a1 : Int64} {h h' : ym_H} {r : Int64} (hf : fn_X6_premiumTimesRate N a0 a1 h = some (r, h')) : ym_M D b0 g_X6_premiumTimesRate 3 [va_rf a0, .long a1] h (some (.long r)) h' := by
  unfold fn_X6_premiumTimesRate at hf
  refine ym_meth (lv := [(0, va_rf a0), (1, .long a1)]) (by decide) (by simp [lg_sl, ym_c1, ym_cI, ym_cL, g_X6_premiumTimesRate]) (by simp [lv_args, ym_c1, ym_cI, ym_cL]) ?_
  refine ym_lconst (pc := 0) (v := 0) dX6_premiumTimesRate_0 (by decide) ?_
  refine ym_lstore_n (pc := 1) (lv' := [(3, .long 0), (0, va_rf a0), (1, .long a1)]) dX6_premiumTimesRate_1 rfl (by decide) ⟨trivial, trivial, trivial⟩ rfl ?_
  refine ym_aload_n (pc := 2) 1 dX6_premiumTimesRate_2 rfl rfl ?_
  obtain ⟨v3, e3, hf⟩ := Option.bind_eq_some_iff.mp hf
  refine ym_get (pc := 3) dX6_premiumTimesRate_3 rfl (by decide) iX6 (k := 0) (by decide) wd_162 (ym_gR_v e3) ?_
  obtain ⟨o6, f6, hf⟩ := Option.bind_eq_some_iff.mp hf
  obtain ⟨q6, e6, hf⟩ := Option.bind_eq_some_iff.mp hf
  refine ym_callV (pc := 6) (G2 := g_X5_rows) (dep2 := 2) (As := []) (st := []) (stk2 := [.int q6.1]) (r2 := (some (.int q6.1))) (h1 := q6.2) dX6_premiumTimesRate_6 (ok_X5_rows e6) (sc_X6_premiumTimesRate_X5_rows) wd_432 wd_395 wd_396 (ci := 5) (q0 := (RX5, TX5, 2)) rfl (by decide) rfl f6 rfl rfl (ym_st4 (Nat.le_of_ble_eq_true rfl)) rfl ?_
  refine ym_istore (pc := 9) (lv' := [(5, .int q6.1), (3, .long 0), (0, va_rf a0), (1, .long a1)]) dX6_premiumTimesRate_9 (by decide) ⟨trivial, trivial, trivial, trivial⟩ rfl ?_
  refine ym_iconst (pc := 11) (v := 0) dX6_premiumTimesRate_11 (by decide) ?_
  refine ym_istore (pc := 12) (lv' := [(6, .int 0), (5, .int q6.1), (3, .long 0), (0, va_rf a0), (1, .long a1)]) dX6_premiumTimesRate_12 (by decide) ⟨rfl, trivial, trivial, trivial, trivial⟩ rfl ?_
  obtain ⟨q14, e14, hf⟩ := Option.bind_eq_some_iff.mp hf
  refine ym_sub (lv' := [(0, va_rf a0), (1, .long a1), (3, .long 0), (5, .int q6.1), (6, .int 0)]) [3, 4, 2, 1, 0] rfl ?_
  refine ok_lp_X6_premiumTimesRate_14 N _ _ _ _ _ _ _ _ e14 ?_
  refine ym_lload_n (pc := 100) 0 dX6_premiumTimesRate_100 rfl rfl ?_
  cases hf
  exact ym_lret (pc := 101) dX6_premiumTimesRate_101 rfl
theorem dX6_rows_0 : decode cX6_rows 0 = .ok (.aload_n 0, 1) := by decide +kernel
theorem dX6_rows_1 : decode cX6_rows 1 = .ok (.getfield 12, 3) := by decide +kernel
theorem dX6_rows_4 : decode cX6_rows 4 = .ok (.invokevirtual 18, 3) := by decide +kernel
theorem dX6_rows_7 : decode cX6_rows 7 = .ok (.ireturn, 1) := by decide +kernel
theorem sc_X6_rows_X5_rows : ym_site g_X6_rows g_X5_rows 3 2 0 := ⟨by decide, by decide, wd_397, wd_81, by decide +kernel⟩
def fn_X6_rows (N : Nat) (a0 : Option Nat) (h : ym_H) : Option (Int32 × ym_H) :=
  Option.bind (ym_gR h a0 6 0) fun v1 =>
  Option.bind (ym_ob h v1 5) fun o4 =>
  Option.bind (fn_X5_rows N v1 h) fun q4 =>
  some (q4.1, q4.2)
set_option maxRecDepth 20000 in
set_option maxHeartbeats 4000000 in
theorem ok_X6_rows {D : ym_D} {b0 : Nat} {N : Nat} {a0 : Option Nat} {h h' : ym_H} {r : Int32} (hf : fn_X6_rows N a0 h = some (r, h')) : ym_M D b0 g_X6_rows 3 [va_rf a0] h (some (.int r)) h' := by
  unfold fn_X6_rows at hf
  refine ym_meth (lv := [(0, va_rf a0)]) (by decide) (by simp [lg_sl, ym_c1, ym_cI, ym_cL, g_X6_rows]) (by simp [lv_args, ym_c1, ym_cI, ym_cL]) ?_
  refine ym_aload_n (pc := 0) 0 dX6_rows_0 rfl rfl ?_
  obtain ⟨v1, e1, hf⟩ := Option.bind_eq_some_iff.mp hf
  refine ym_get (pc := 1) dX6_rows_1 rfl (by decide) iX6 (k := 0) (by decide) wd_162 (ym_gR_v e1) ?_
  obtain ⟨o4, f4, hf⟩ := Option.bind_eq_some_iff.mp hf
  obtain ⟨q4, e4, hf⟩ := Option.bind_eq_some_iff.mp hf
  refine ym_callV (pc := 4) (G2 := g_X5_rows) (dep2 := 2) (As := []) (st := []) (stk2 := [.int q4.1]) (r2 := (some (.int q4.1))) (h1 := q4.2) dX6_rows_4 (ok_X5_rows e4) (sc_X6_rows_X5_rows) wd_432 wd_395 wd_396 (ci := 5) (q0 := (RX5, TX5, 2)) rfl (by decide) rfl f4 rfl rfl (ym_st4 (Nat.le_of_ble_eq_true rfl)) rfl ?_
  cases hf
  exact ym_iret (pc := 7) dX6_rows_7 rfl
theorem dX7_account_0 : decode cX7_account 0 = .ok (.iload_n 1, 1) := by decide +kernel
theorem dX7_account_1 : decode cX7_account 1 = .ok (.ifCond .lt 8, 3) := by decide +kernel
theorem dX7_account_4 : decode cX7_account 4 = .ok (.iload_n 1, 1) := by decide +kernel
theorem dX7_account_5 : decode cX7_account 5 = .ok (.iconst 2, 1) := by decide +kernel
theorem dX7_account_6 : decode cX7_account 6 = .ok (.if_icmp .le 7, 3) := by decide +kernel
theorem dX7_account_9 : decode cX7_account 9 = .ok (.lconst 0, 1) := by decide +kernel
theorem dX7_account_10 : decode cX7_account 10 = .ok (.goto 13, 3) := by decide +kernel
theorem dX7_account_13 : decode cX7_account 13 = .ok (.aload_n 0, 1) := by decide +kernel
theorem dX7_account_14 : decode cX7_account 14 = .ok (.getfield 21, 3) := by decide +kernel
theorem dX7_account_17 : decode cX7_account 17 = .ok (.iconst 2, 1) := by decide +kernel
theorem dX7_account_18 : decode cX7_account 18 = .ok (.iload_n 1, 1) := by decide +kernel
theorem dX7_account_19 : decode cX7_account 19 = .ok (.iadd, 1) := by decide +kernel
theorem dX7_account_20 : decode cX7_account 20 = .ok (.invokevirtual 130, 3) := by decide +kernel
theorem dX7_account_23 : decode cX7_account 23 = .ok (.lreturn, 1) := by decide +kernel
theorem sc_X7_account_X2_get : ym_site g_X7_account g_X2_get 2 1 1 := ⟨by decide, by decide, wd_256, wd_78, by decide +kernel⟩
def fn_X7_account (N : Nat) (a0 : Option Nat) (a1 : Int32) (h : ym_H) : Option (Int64 × ym_H) :=
  if a1 < 0 then
    some (0, h)
  else
    if a1 ≤ 2 then
      Option.bind (ym_gR h a0 7 1) fun v14 =>
      Option.bind (ym_ob h v14 2) fun o20 =>
      Option.bind (fn_X2_get N v14 (2 + a1) h) fun q20 =>
      some (q20.1, q20.2)
    else
      some (0, h)
set_option maxRecDepth 20000 in
set_option maxHeartbeats 4000000 in
theorem ok_X7_account {D : ym_D} {b0 : Nat} {N : Nat} {a0 : Option Nat} {a1 : Int32} {h h' : ym_H} {r : Int64} (hf : fn_X7_account N a0 a1 h = some (r, h')) : ym_M D b0 g_X7_account 2 [va_rf a0, .int a1] h (some (.long r)) h' := by
  unfold fn_X7_account at hf
  refine ym_meth (lv := [(0, va_rf a0), (1, .int a1)]) (by decide) (by simp [lg_sl, ym_c1, ym_cI, ym_cL, g_X7_account]) (by simp [lv_args, ym_c1, ym_cI, ym_cL]) ?_
  refine ym_iload_n (pc := 0) 1 dX7_account_0 rfl rfl ?_
  by_cases c1 : a1 < 0
  · rw [if_pos c1] at hf
    refine ym_if_lt_y (pc := 1) (tgt := 9) dX7_account_1 (by decide) c1 ?_
    refine ym_lconst (pc := 9) (v := 0) dX7_account_9 (by decide) ?_
    refine ym_goto (pc := 10) (tgt := 23) dX7_account_10 (by decide) ?_
    cases hf
    exact ym_lret (pc := 23) dX7_account_23 rfl
  · rw [if_neg c1] at hf
    refine ym_if_lt_n (pc := 1) (tgt := 9) dX7_account_1 (by decide) c1 ?_
    refine ym_iload_n (pc := 4) 1 dX7_account_4 rfl rfl ?_
    refine ym_iconst (pc := 5) (v := 2) dX7_account_5 (by decide) ?_
    by_cases c6 : a1 ≤ 2
    · rw [if_pos c6] at hf
      refine ym_icmp_le_y (pc := 6) (tgt := 13) dX7_account_6 (by decide) c6 ?_
      refine ym_aload_n (pc := 13) 0 dX7_account_13 rfl rfl ?_
      obtain ⟨v14, e14, hf⟩ := Option.bind_eq_some_iff.mp hf
      refine ym_get (pc := 14) dX7_account_14 rfl (by decide) iX7 (k := 1) (by decide) wd_187 (ym_gR_v e14) ?_
      refine ym_iconst (pc := 17) (v := 2) dX7_account_17 (by decide) ?_
      refine ym_iload_n (pc := 18) 1 dX7_account_18 rfl rfl ?_
      refine ym_iadd (pc := 19) dX7_account_19 ?_
      obtain ⟨o20, f20, hf⟩ := Option.bind_eq_some_iff.mp hf
      obtain ⟨q20, e20, hf⟩ := Option.bind_eq_some_iff.mp hf
      refine ym_callV (pc := 20) (G2 := g_X2_get) (dep2 := 1) (As := [.int (2 + a1)]) (st := []) (stk2 := [.long q20.1]) (r2 := (some (.long q20.1))) (h1 := q20.2) dX7_account_20 (ok_X2_get e20) (sc_X7_account_X2_get) wd_253 wd_254 wd_255 (ci := 2) (q0 := (RX2, TX2, 2)) rfl (by decide) rfl f20 rfl rfl (ym_st4 (Nat.le_of_ble_eq_true rfl)) rfl ?_
      cases hf
      exact ym_lret (pc := 23) dX7_account_23 rfl
    · rw [if_neg c6] at hf
      refine ym_icmp_le_n (pc := 6) (tgt := 13) dX7_account_6 (by decide) c6 ?_
      refine ym_lconst (pc := 9) (v := 0) dX7_account_9 (by decide) ?_
      refine ym_goto (pc := 10) (tgt := 23) dX7_account_10 (by decide) ?_
      cases hf
      exact ym_lret (pc := 23) dX7_account_23 rfl
theorem dX7_refuse_0 : decode cX7_refuse 0 = .ok (.aload_n 0, 1) := by decide +kernel
theorem dX7_refuse_1 : decode cX7_refuse 1 = .ok (.iload_n 1, 1) := by decide +kernel
theorem dX7_refuse_2 : decode cX7_refuse 2 = .ok (.putfield 279, 3) := by decide +kernel
theorem dX7_refuse_5 : decode cX7_refuse 5 = .ok (.aload_n 0, 1) := by decide +kernel
theorem dX7_refuse_6 : decode cX7_refuse 6 = .ok (.getfield 12, 3) := by decide +kernel
theorem dX7_refuse_9 : decode cX7_refuse 9 = .ok (.invokevirtual 306, 3) := by decide +kernel
theorem dX7_refuse_12 : decode cX7_refuse 12 = .ok (.iload_n 1, 1) := by decide +kernel
theorem dX7_refuse_13 : decode cX7_refuse 13 = .ok (.ineg, 1) := by decide +kernel
theorem dX7_refuse_14 : decode cX7_refuse 14 = .ok (.i2l, 1) := by decide +kernel
theorem dX7_refuse_15 : decode cX7_refuse 15 = .ok (.lreturn, 1) := by decide +kernel
theorem sc_X7_refuse_X3_takeBackAll : ym_site g_X7_refuse g_X3_takeBackAll 4 3 0 := ⟨by decide, by decide, wd_236, wd_77, by decide +kernel⟩
def fn_X7_refuse (N : Nat) (a0 : Option Nat) (a1 : Int32) (h : ym_H) : Option (Int64 × ym_H) :=
  Option.bind (ym_pf h a0 7 9 (.int a1)) fun h2 =>
  Option.bind (ym_gR h2 a0 7 0) fun v6 =>
  Option.bind (ym_ob h2 v6 3) fun o9 =>
  Option.bind (fn_X3_takeBackAll N v6 h2) fun q9 =>
  some ((Int32.toInt64 (-a1)), q9.2)
set_option maxRecDepth 20000 in
set_option maxHeartbeats 4000000 in
theorem ok_X7_refuse {D : ym_D} {b0 : Nat} {N : Nat} {a0 : Option Nat} {a1 : Int32} {h h' : ym_H} {r : Int64} (hf : fn_X7_refuse N a0 a1 h = some (r, h')) : ym_M D b0 g_X7_refuse 4 [va_rf a0, .int a1] h (some (.long r)) h' := by
  unfold fn_X7_refuse at hf
  refine ym_meth (lv := [(0, va_rf a0), (1, .int a1)]) (by decide) (by simp [lg_sl, ym_c1, ym_cI, ym_cL, g_X7_refuse]) (by simp [lv_args, ym_c1, ym_cI, ym_cL]) ?_
  refine ym_aload_n (pc := 0) 0 dX7_refuse_0 rfl rfl ?_
  refine ym_iload_n (pc := 1) 1 dX7_refuse_1 rfl rfl ?_
  obtain ⟨h2, e2, hf⟩ := Option.bind_eq_some_iff.mp hf
  refine ym_put (pc := 2) (h1 := h2) dX7_refuse_2 rfl (by decide) iX7 tyX7 tyX7_ok nmX7 (k := 9) (by decide) wd_195 rfl (tyX7_ok 9 (by decide)) rfl rfl e2 ?_
  refine ym_aload_n (pc := 5) 0 dX7_refuse_5 rfl rfl ?_
  obtain ⟨v6, e6, hf⟩ := Option.bind_eq_some_iff.mp hf
  refine ym_get (pc := 6) dX7_refuse_6 rfl (by decide) iX7 (k := 0) (by decide) wd_186 (ym_gR_v e6) ?_
  obtain ⟨o9, f9, hf⟩ := Option.bind_eq_some_iff.mp hf
  obtain ⟨q9, e9, hf⟩ := Option.bind_eq_some_iff.mp hf
  refine ym_callV (pc := 9) (G2 := g_X3_takeBackAll) (dep2 := 3) (As := []) (st := []) (stk2 := []) (r2 := none) (h1 := q9.2) dX7_refuse_9 (ok_X3_takeBackAll e9) (sc_X7_refuse_X3_takeBackAll) wd_233 wd_234 wd_235 (ci := 3) (q0 := (RX3, TX3, 6)) rfl (by decide) rfl f9 rfl rfl (ym_st4 (Nat.le_of_ble_eq_true rfl)) rfl ?_
  refine ym_iload_n (pc := 12) 1 dX7_refuse_12 rfl rfl ?_
  refine ym_ineg (pc := 13) dX7_refuse_13 ?_
  refine ym_i2l (pc := 14) dX7_refuse_14 ?_
  cases hf
  exact ym_lret (pc := 15) dX7_refuse_15 rfl
theorem dX7_addTableRow_0 : decode cX7_addTableRow 0 = .ok (.aload_n 1, 1) := by decide +kernel
theorem dX7_addTableRow_1 : decode cX7_addTableRow 1 = .ok (.invokevirtual 299, 3) := by decide +kernel
theorem dX7_addTableRow_4 : decode cX7_addTableRow 4 = .ok (.bipush 20, 2) := by decide +kernel
theorem dX7_addTableRow_6 : decode cX7_addTableRow 6 = .ok (.if_icmp .lt 10, 3) := by decide +kernel
theorem dX7_addTableRow_9 : decode cX7_addTableRow 9 = .ok (.aload_n 0, 1) := by decide +kernel
theorem dX7_addTableRow_10 : decode cX7_addTableRow 10 = .ok (.bipush 12, 2) := by decide +kernel
theorem dX7_addTableRow_12 : decode cX7_addTableRow 12 = .ok (.invokevirtual 61, 3) := by decide +kernel
theorem dX7_addTableRow_15 : decode cX7_addTableRow 15 = .ok (.lreturn, 1) := by decide +kernel
theorem dX7_addTableRow_16 : decode cX7_addTableRow 16 = .ok (.aload_n 1, 1) := by decide +kernel
theorem dX7_addTableRow_17 : decode cX7_addTableRow 17 = .ok (.invokevirtual 299, 3) := by decide +kernel
theorem dX7_addTableRow_20 : decode cX7_addTableRow 20 = .ok (.ifCond .le 19, 3) := by decide +kernel
theorem dX7_addTableRow_23 : decode cX7_addTableRow 23 = .ok (.lload_n 2, 1) := by decide +kernel
theorem dX7_addTableRow_24 : decode cX7_addTableRow 24 = .ok (.aload_n 1, 1) := by decide +kernel
theorem dX7_addTableRow_25 : decode cX7_addTableRow 25 = .ok (.invokevirtual 315, 3) := by decide +kernel
theorem dX7_addTableRow_28 : decode cX7_addTableRow 28 = .ok (.lcmp, 1) := by decide +kernel
theorem dX7_addTableRow_29 : decode cX7_addTableRow 29 = .ok (.ifCond .gt 10, 3) := by decide +kernel
theorem dX7_addTableRow_32 : decode cX7_addTableRow 32 = .ok (.aload_n 0, 1) := by decide +kernel
theorem dX7_addTableRow_33 : decode cX7_addTableRow 33 = .ok (.bipush 10, 2) := by decide +kernel
theorem dX7_addTableRow_35 : decode cX7_addTableRow 35 = .ok (.invokevirtual 61, 3) := by decide +kernel
theorem dX7_addTableRow_38 : decode cX7_addTableRow 38 = .ok (.lreturn, 1) := by decide +kernel
theorem dX7_addTableRow_39 : decode cX7_addTableRow 39 = .ok (.aload_n 1, 1) := by decide +kernel
theorem dX7_addTableRow_40 : decode cX7_addTableRow 40 = .ok (.lload_n 2, 1) := by decide +kernel
theorem dX7_addTableRow_41 : decode cX7_addTableRow 41 = .ok (.lload 4, 2) := by decide +kernel
theorem dX7_addTableRow_43 : decode cX7_addTableRow 43 = .ok (.invokevirtual 318, 3) := by decide +kernel
theorem dX7_addTableRow_46 : decode cX7_addTableRow 46 = .ok (.aload_n 1, 1) := by decide +kernel
theorem dX7_addTableRow_47 : decode cX7_addTableRow 47 = .ok (.invokevirtual 299, 3) := by decide +kernel
theorem dX7_addTableRow_50 : decode cX7_addTableRow 50 = .ok (.i2l, 1) := by decide +kernel
theorem dX7_addTableRow_51 : decode cX7_addTableRow 51 = .ok (.lreturn, 1) := by decide +kernel
theorem sc_X7_addTableRow_X6_rows : ym_site g_X7_addTableRow g_X6_rows 7 3 0 := ⟨by decide, by decide, wd_431, wd_80, by decide +kernel⟩
theorem sc_X7_addTableRow_X6_add : ym_site g_X7_addTableRow g_X6_add 7 6 2 := ⟨by decide, by decide, wd_441, wd_80, by decide +kernel⟩
def bl_X7_addTableRow_39 (N : Nat) (w1 : Option Nat) (w2 : Int64) (w4 : Int64) (h : ym_H) : Option (Int64 × ym_H) :=
  Option.bind (ym_ob h w1 6) fun o43 =>
  Option.bind (fn_X6_add N w1 w2 w4 h) fun q43 =>
  Option.bind (ym_ob q43.2 w1 6) fun o47 =>
  Option.bind (fn_X6_rows N w1 q43.2) fun q47 =>
  some ((Int32.toInt64 q47.1), q47.2)
set_option maxRecDepth 20000 in
set_option maxHeartbeats 4000000 in
theorem ob_X7_addTableRow_39 {D : ym_D} {b0 : Nat} {N : Nat} {w1 : Option Nat} {w2 : Int64} {w4 : Int64} {h h' : ym_H} {r : Int64} (hf : bl_X7_addTableRow_39 N w1 w2 w4 h = some (r, h')) : ym_Y D b0 g_X7_addTableRow 7 39 [(1, va_rf w1), (2, .long w2), (4, .long w4)] [] h (some (.long r)) h' := by
  unfold bl_X7_addTableRow_39 at hf
  refine ym_aload_n (pc := 39) 0 dX7_addTableRow_39 rfl rfl ?_
  refine ym_lload_n (pc := 40) 1 dX7_addTableRow_40 rfl rfl ?_
  refine ym_lload (pc := 41) 2 dX7_addTableRow_41 rfl ?_
  obtain ⟨o43, f43, hf⟩ := Option.bind_eq_some_iff.mp hf
  obtain ⟨q43, e43, hf⟩ := Option.bind_eq_some_iff.mp hf
  refine ym_callV (pc := 43) (G2 := g_X6_add) (dep2 := 6) (As := [.long w2, .long w4]) (st := []) (stk2 := []) (r2 := none) (h1 := q43.2) dX7_addTableRow_43 (ok_X6_add e43) (sc_X7_addTableRow_X6_add) wd_438 wd_439 wd_440 (ci := 6) (q0 := (RX6, TX6, 1)) rfl (by decide) rfl f43 rfl rfl (ym_st4 (Nat.le_of_ble_eq_true rfl)) rfl ?_
  refine ym_aload_n (pc := 46) 0 dX7_addTableRow_46 rfl rfl ?_
  obtain ⟨o47, f47, hf⟩ := Option.bind_eq_some_iff.mp hf
  obtain ⟨q47, e47, hf⟩ := Option.bind_eq_some_iff.mp hf
  refine ym_callV (pc := 47) (G2 := g_X6_rows) (dep2 := 3) (As := []) (st := []) (stk2 := [.int q47.1]) (r2 := (some (.int q47.1))) (h1 := q47.2) dX7_addTableRow_47 (ok_X6_rows e47) (sc_X7_addTableRow_X6_rows) wd_428 wd_429 wd_430 (ci := 6) (q0 := (RX6, TX6, 1)) rfl (by decide) rfl f47 rfl rfl (ym_st4 (Nat.le_of_ble_eq_true rfl)) rfl ?_
  refine ym_i2l (pc := 50) dX7_addTableRow_50 ?_
  cases hf
  exact ym_lret (pc := 51) dX7_addTableRow_51 rfl
theorem sc_X7_addTableRow_X6_lastFrom : ym_site g_X7_addTableRow g_X6_lastFrom 7 3 0 := ⟨by decide, by decide, wd_436, wd_80, by decide +kernel⟩
theorem sc_X7_addTableRow_X7_refuse : ym_site g_X7_addTableRow g_X7_refuse 7 4 1 := ⟨by decide, by decide, wd_232, wd_76, by decide +kernel⟩
def fn_X7_addTableRow (N : Nat) (a0 : Option Nat) (a1 : Option Nat) (a2 : Int64) (a4 : Int64) (h : ym_H) : Option (Int64 × ym_H) :=
  Option.bind (ym_ob h a1 6) fun o1 =>
  Option.bind (fn_X6_rows N a1 h) fun q1 =>
  if q1.1 < 20 then
    Option.bind (ym_ob q1.2 a1 6) fun o17 =>
    Option.bind (fn_X6_rows N a1 q1.2) fun q17 =>
    if q17.1 ≤ 0 then
      bl_X7_addTableRow_39 N a1 a2 a4 q17.2
    else
      Option.bind (ym_ob q17.2 a1 6) fun o25 =>
      Option.bind (fn_X6_lastFrom N a1 q17.2) fun q25 =>
      if q25.1 < a2 then
        bl_X7_addTableRow_39 N a1 a2 a4 q25.2
      else
        Option.bind (ym_ob q25.2 a0 7) fun o35 =>
        Option.bind (fn_X7_refuse N a0 10 q25.2) fun q35 =>
        some (q35.1, q35.2)
  else
    Option.bind (ym_ob q1.2 a0 7) fun o12 =>
    Option.bind (fn_X7_refuse N a0 12 q1.2) fun q12 =>
    some (q12.1, q12.2)
set_option maxRecDepth 20000 in
set_option maxHeartbeats 4000000 in
theorem ok_X7_addTableRow {D : ym_D} {b0 : Nat} {N : Nat} {a0 : Option Nat} {a1 : Option Nat} {a2 : Int64} {a4 : Int64} {h h' : ym_H} {r : Int64} (hf : fn_X7_addTableRow N a0 a1 a2 a4 h = some (r, h')) : ym_M D b0 g_X7_addTableRow 7 [va_rf a0, va_rf a1, .long a2, .long a4] h (some (.long r)) h' := by
  unfold fn_X7_addTableRow at hf
  refine ym_meth (lv := [(0, va_rf a0), (1, va_rf a1), (2, .long a2), (4, .long a4)]) (by decide) (by simp [lg_sl, ym_c1, ym_cI, ym_cL, g_X7_addTableRow]) (by simp [lv_args, ym_c1, ym_cI, ym_cL]) ?_
  refine ym_aload_n (pc := 0) 1 dX7_addTableRow_0 rfl rfl ?_
  obtain ⟨o1, f1, hf⟩ := Option.bind_eq_some_iff.mp hf
  obtain ⟨q1, e1, hf⟩ := Option.bind_eq_some_iff.mp hf
  refine ym_callV (pc := 1) (G2 := g_X6_rows) (dep2 := 3) (As := []) (st := []) (stk2 := [.int q1.1]) (r2 := (some (.int q1.1))) (h1 := q1.2) dX7_addTableRow_1 (ok_X6_rows e1) (sc_X7_addTableRow_X6_rows) wd_428 wd_429 wd_430 (ci := 6) (q0 := (RX6, TX6, 1)) rfl (by decide) rfl f1 rfl rfl (ym_st4 (Nat.le_of_ble_eq_true rfl)) rfl ?_
  refine ym_bipush (pc := 4) (v := 20) dX7_addTableRow_4 (by decide) ?_
  by_cases c6 : q1.1 < 20
  · rw [if_pos c6] at hf
    refine ym_icmp_lt_y (pc := 6) (tgt := 16) dX7_addTableRow_6 (by decide) c6 ?_
    refine ym_aload_n (pc := 16) 1 dX7_addTableRow_16 rfl rfl ?_
    obtain ⟨o17, f17, hf⟩ := Option.bind_eq_some_iff.mp hf
    obtain ⟨q17, e17, hf⟩ := Option.bind_eq_some_iff.mp hf
    refine ym_callV (pc := 17) (G2 := g_X6_rows) (dep2 := 3) (As := []) (st := []) (stk2 := [.int q17.1]) (r2 := (some (.int q17.1))) (h1 := q17.2) dX7_addTableRow_17 (ok_X6_rows e17) (sc_X7_addTableRow_X6_rows) wd_428 wd_429 wd_430 (ci := 6) (q0 := (RX6, TX6, 1)) rfl (by decide) rfl f17 rfl rfl (ym_st4 (Nat.le_of_ble_eq_true rfl)) rfl ?_
    by_cases c20 : q17.1 ≤ 0
    · rw [if_pos c20] at hf
      refine ym_if_le_y (pc := 20) (tgt := 39) dX7_addTableRow_20 (by decide) c20 ?_
      exact ym_sub [1, 2, 3] rfl (ob_X7_addTableRow_39 hf)
    · rw [if_neg c20] at hf
      refine ym_if_le_n (pc := 20) (tgt := 39) dX7_addTableRow_20 (by decide) c20 ?_
      refine ym_lload_n (pc := 23) 2 dX7_addTableRow_23 rfl rfl ?_
      refine ym_aload_n (pc := 24) 1 dX7_addTableRow_24 rfl rfl ?_
      obtain ⟨o25, f25, hf⟩ := Option.bind_eq_some_iff.mp hf
      obtain ⟨q25, e25, hf⟩ := Option.bind_eq_some_iff.mp hf
      refine ym_callV (pc := 25) (G2 := g_X6_lastFrom) (dep2 := 3) (As := []) (st := [.long a2]) (stk2 := [.long q25.1, .long a2]) (r2 := (some (.long q25.1))) (h1 := q25.2) dX7_addTableRow_25 (ok_X6_lastFrom e25) (sc_X7_addTableRow_X6_lastFrom) wd_433 wd_434 wd_435 (ci := 6) (q0 := (RX6, TX6, 1)) rfl (by decide) rfl f25 rfl rfl (ym_st4 (Nat.le_of_ble_eq_true rfl)) rfl ?_
      by_cases c28 : q25.1 < a2
      · rw [if_pos c28] at hf
        refine ym_lcmp_gt_y (pc := 28) (tgt := 39) dX7_addTableRow_28 dX7_addTableRow_29 (by decide) c28 ?_
        exact ym_sub [1, 2, 3] rfl (ob_X7_addTableRow_39 hf)
      · rw [if_neg c28] at hf
        refine ym_lcmp_gt_n (pc := 28) (tgt := 39) dX7_addTableRow_28 dX7_addTableRow_29 (by decide) c28 ?_
        refine ym_aload_n (pc := 32) 0 dX7_addTableRow_32 rfl rfl ?_
        refine ym_bipush (pc := 33) (v := 10) dX7_addTableRow_33 (by decide) ?_
        obtain ⟨o35, f35, hf⟩ := Option.bind_eq_some_iff.mp hf
        obtain ⟨q35, e35, hf⟩ := Option.bind_eq_some_iff.mp hf
        refine ym_callV (pc := 35) (G2 := g_X7_refuse) (dep2 := 4) (As := [.int 10]) (st := []) (stk2 := [.long q35.1]) (r2 := (some (.long q35.1))) (h1 := q35.2) dX7_addTableRow_35 (ok_X7_refuse e35) (sc_X7_addTableRow_X7_refuse) wd_229 wd_231 wd_1 (ci := 7) (q0 := (RX7, TX7, 10)) rfl (by decide) rfl f35 rfl rfl (ym_st4 (Nat.le_of_ble_eq_true rfl)) rfl ?_
        cases hf
        exact ym_lret (pc := 38) dX7_addTableRow_38 rfl
  · rw [if_neg c6] at hf
    refine ym_icmp_lt_n (pc := 6) (tgt := 16) dX7_addTableRow_6 (by decide) c6 ?_
    refine ym_aload_n (pc := 9) 0 dX7_addTableRow_9 rfl rfl ?_
    refine ym_bipush (pc := 10) (v := 12) dX7_addTableRow_10 (by decide) ?_
    obtain ⟨o12, f12, hf⟩ := Option.bind_eq_some_iff.mp hf
    obtain ⟨q12, e12, hf⟩ := Option.bind_eq_some_iff.mp hf
    refine ym_callV (pc := 12) (G2 := g_X7_refuse) (dep2 := 4) (As := [.int 12]) (st := []) (stk2 := [.long q12.1]) (r2 := (some (.long q12.1))) (h1 := q12.2) dX7_addTableRow_12 (ok_X7_refuse e12) (sc_X7_addTableRow_X7_refuse) wd_229 wd_231 wd_1 (ci := 7) (q0 := (RX7, TX7, 10)) rfl (by decide) rfl f12 rfl rfl (ym_st4 (Nat.le_of_ble_eq_true rfl)) rfl ?_
    cases hf
    exact ym_lret (pc := 15) dX7_addTableRow_15 rfl
theorem dX7_startAct_0 : decode cX7_startAct 0 = .ok (.aload_n 0, 1) := by decide +kernel
theorem dX7_startAct_1 : decode cX7_startAct 1 = .ok (.dup, 1) := by decide +kernel
theorem dX7_startAct_2 : decode cX7_startAct 2 = .ok (.getfield 276, 3) := by decide +kernel
theorem dX7_startAct_5 : decode cX7_startAct 5 = .ok (.iconst 1, 1) := by decide +kernel
theorem dX7_startAct_6 : decode cX7_startAct 6 = .ok (.iadd, 1) := by decide +kernel
theorem dX7_startAct_7 : decode cX7_startAct 7 = .ok (.putfield 276, 3) := by decide +kernel
theorem dX7_startAct_10 : decode cX7_startAct 10 = .ok (.aload_n 0, 1) := by decide +kernel
theorem dX7_startAct_11 : decode cX7_startAct 11 = .ok (.iconst 0, 1) := by decide +kernel
theorem dX7_startAct_12 : decode cX7_startAct 12 = .ok (.putfield 279, 3) := by decide +kernel
theorem dX7_startAct_15 : decode cX7_startAct 15 = .ok (.aload_n 0, 1) := by decide +kernel
theorem dX7_startAct_16 : decode cX7_startAct 16 = .ok (.getfield 42, 3) := by decide +kernel
theorem dX7_startAct_19 : decode cX7_startAct 19 = .ok (.invokevirtual 303, 3) := by decide +kernel
theorem dX7_startAct_22 : decode cX7_startAct 22 = .ok (.return_, 1) := by decide +kernel
theorem sc_X7_startAct_X1_forgetTrace : ym_site g_X7_startAct g_X1_forgetTrace 2 1 0 := ⟨by decide, by decide, wd_228, wd_82, by decide +kernel⟩
def fn_X7_startAct (N : Nat) (a0 : Option Nat) (h : ym_H) : Option (Unit × ym_H) :=
  Option.bind (ym_gI h a0 7 8) fun v2 =>
  Option.bind (ym_pf h a0 7 8 (.int (v2 + 1))) fun h7 =>
  Option.bind (ym_pf h7 a0 7 9 (.int 0)) fun h12 =>
  Option.bind (ym_gR h12 a0 7 4) fun v16 =>
  Option.bind (ym_ob h12 v16 1) fun o19 =>
  Option.bind (fn_X1_forgetTrace N v16 h12) fun q19 =>
  some ((), q19.2)
set_option maxRecDepth 20000 in
set_option maxHeartbeats 4000000 in
theorem ok_X7_startAct {D : ym_D} {b0 : Nat} {N : Nat} {a0 : Option Nat} {h h' : ym_H} {r : Unit} (hf : fn_X7_startAct N a0 h = some (r, h')) : ym_M D b0 g_X7_startAct 2 [va_rf a0] h none h' := by
  unfold fn_X7_startAct at hf
  refine ym_meth (lv := [(0, va_rf a0)]) (by decide) (by simp [lg_sl, ym_c1, ym_cI, ym_cL, g_X7_startAct]) (by simp [lv_args, ym_c1, ym_cI, ym_cL]) ?_
  refine ym_aload_n (pc := 0) 0 dX7_startAct_0 rfl rfl ?_
  refine ym_dup (pc := 1) dX7_startAct_1 (ym_c1 a0) ?_
  obtain ⟨v2, e2, hf⟩ := Option.bind_eq_some_iff.mp hf
  refine ym_get (pc := 2) dX7_startAct_2 rfl (by decide) iX7 (k := 8) (by decide) wd_194 (ym_gI_v e2) ?_
  refine ym_iconst (pc := 5) (v := 1) dX7_startAct_5 (by decide) ?_
  refine ym_iadd (pc := 6) dX7_startAct_6 ?_
  obtain ⟨h7, e7, hf⟩ := Option.bind_eq_some_iff.mp hf
  refine ym_put (pc := 7) (h1 := h7) dX7_startAct_7 rfl (by decide) iX7 tyX7 tyX7_ok nmX7 (k := 8) (by decide) wd_194 rfl (tyX7_ok 8 (by decide)) rfl rfl e7 ?_
  refine ym_aload_n (pc := 10) 0 dX7_startAct_10 rfl rfl ?_
  refine ym_iconst (pc := 11) (v := 0) dX7_startAct_11 (by decide) ?_
  obtain ⟨h12, e12, hf⟩ := Option.bind_eq_some_iff.mp hf
  refine ym_put (pc := 12) (h1 := h12) dX7_startAct_12 rfl (by decide) iX7 tyX7 tyX7_ok nmX7 (k := 9) (by decide) wd_195 rfl (tyX7_ok 9 (by decide)) rfl rfl e12 ?_
  refine ym_aload_n (pc := 15) 0 dX7_startAct_15 rfl rfl ?_
  obtain ⟨v16, e16, hf⟩ := Option.bind_eq_some_iff.mp hf
  refine ym_get (pc := 16) dX7_startAct_16 rfl (by decide) iX7 (k := 4) (by decide) wd_190 (ym_gR_v e16) ?_
  obtain ⟨o19, f19, hf⟩ := Option.bind_eq_some_iff.mp hf
  obtain ⟨q19, e19, hf⟩ := Option.bind_eq_some_iff.mp hf
  refine ym_callV (pc := 19) (G2 := g_X1_forgetTrace) (dep2 := 1) (As := []) (st := []) (stk2 := []) (r2 := none) (h1 := q19.2) dX7_startAct_19 (ok_X1_forgetTrace e19) (sc_X7_startAct_X1_forgetTrace) wd_225 wd_226 wd_227 (ci := 1) (q0 := (RX1, TX1, 3)) rfl (by decide) rfl f19 rfl rfl (ym_st4 (Nat.le_of_ble_eq_true rfl)) rfl ?_
  cases hf
  exact ym_vret (pc := 22) dX7_startAct_22 rfl
theorem dX7_lotsMade_0 : decode cX7_lotsMade 0 = .ok (.aload_n 0, 1) := by decide +kernel
theorem dX7_lotsMade_1 : decode cX7_lotsMade 1 = .ok (.getfield 21, 3) := by decide +kernel
theorem dX7_lotsMade_4 : decode cX7_lotsMade 4 = .ok (.iconst 1, 1) := by decide +kernel
theorem dX7_lotsMade_5 : decode cX7_lotsMade 5 = .ok (.invokevirtual 130, 3) := by decide +kernel
theorem dX7_lotsMade_8 : decode cX7_lotsMade 8 = .ok (.l2i, 1) := by decide +kernel
theorem dX7_lotsMade_9 : decode cX7_lotsMade 9 = .ok (.ireturn, 1) := by decide +kernel
theorem sc_X7_lotsMade_X2_get : ym_site g_X7_lotsMade g_X2_get 2 1 1 := ⟨by decide, by decide, wd_256, wd_78, by decide +kernel⟩
def fn_X7_lotsMade (N : Nat) (a0 : Option Nat) (h : ym_H) : Option (Int32 × ym_H) :=
  Option.bind (ym_gR h a0 7 1) fun v1 =>
  Option.bind (ym_ob h v1 2) fun o5 =>
  Option.bind (fn_X2_get N v1 1 h) fun q5 =>
  some ((Int64.toInt32 q5.1), q5.2)
set_option maxRecDepth 20000 in
set_option maxHeartbeats 4000000 in
theorem ok_X7_lotsMade {D : ym_D} {b0 : Nat} {N : Nat} {a0 : Option Nat} {h h' : ym_H} {r : Int32} (hf : fn_X7_lotsMade N a0 h = some (r, h')) : ym_M D b0 g_X7_lotsMade 2 [va_rf a0] h (some (.int r)) h' := by
  unfold fn_X7_lotsMade at hf
  refine ym_meth (lv := [(0, va_rf a0)]) (by decide) (by simp [lg_sl, ym_c1, ym_cI, ym_cL, g_X7_lotsMade]) (by simp [lv_args, ym_c1, ym_cI, ym_cL]) ?_
  refine ym_aload_n (pc := 0) 0 dX7_lotsMade_0 rfl rfl ?_
  obtain ⟨v1, e1, hf⟩ := Option.bind_eq_some_iff.mp hf
  refine ym_get (pc := 1) dX7_lotsMade_1 rfl (by decide) iX7 (k := 1) (by decide) wd_187 (ym_gR_v e1) ?_
  refine ym_iconst (pc := 4) (v := 1) dX7_lotsMade_4 (by decide) ?_
  obtain ⟨o5, f5, hf⟩ := Option.bind_eq_some_iff.mp hf
  obtain ⟨q5, e5, hf⟩ := Option.bind_eq_some_iff.mp hf
  refine ym_callV (pc := 5) (G2 := g_X2_get) (dep2 := 1) (As := [.int 1]) (st := []) (stk2 := [.long q5.1]) (r2 := (some (.long q5.1))) (h1 := q5.2) dX7_lotsMade_5 (ok_X2_get e5) (sc_X7_lotsMade_X2_get) wd_253 wd_254 wd_255 (ci := 2) (q0 := (RX2, TX2, 2)) rfl (by decide) rfl f5 rfl rfl (ym_st4 (Nat.le_of_ble_eq_true rfl)) rfl ?_
  refine ym_l2i (pc := 8) dX7_lotsMade_8 ?_
  cases hf
  exact ym_iret (pc := 9) dX7_lotsMade_9 rfl
