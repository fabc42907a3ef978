theorem dX8_open_0 : decode cX8_open 0 = .ok (.aload_n 0, 1) := by decide +kernel
theorem dX8_open_1 : decode cX8_open 1 = .ok (.bipush 11, 2) := by decide +kernel
theorem dX8_open_3 : decode cX8_open 3 = .ok (.iload_n 1, 1) := by decide +kernel
theorem dX8_open_4 : decode cX8_open 4 = .ok (.iconst 0, 1) := by decide +kernel
theorem dX8_open_5 : decode cX8_open 5 = .ok (.iconst 0, 1) := by decide +kernel
theorem dX8_open_6 : decode cX8_open 6 = .ok (.lconst 0, 1) := by decide +kernel
theorem dX8_open_7 : decode cX8_open 7 = .ok (.lconst 0, 1) := by decide +kernel
theorem dX8_open_8 : decode cX8_open 8 = .ok (.invokevirtual 420, 3) := by decide +kernel
theorem dX8_open_11 : decode cX8_open 11 = .ok (.lreturn, 1) := by decide +kernel
theorem sc_X8_open_X8_act : ym_site g_X8_open g_X8_act 19 18 6 := ⟨by decide, by decide, wd_1028, wd_83, by decide +kernel⟩
def fn_X8_open (N : Nat) (a0 : Option Nat) (a1 : Int32) (h : ym_H) : Option (Int64 × ym_H) :=
  Option.bind (ym_ob h a0 8) fun o8 =>
  Option.bind (fn_X8_act N a0 11 a1 0 0 0 0 h) fun q8 =>
  some (q8.1, q8.2)
set_option maxRecDepth 20000 in
set_option maxHeartbeats 4000000 in
theorem ok_X8_open {D : ym_D} {b0 : Nat} {N : Nat} {a0 : Option Nat} {a1 : Int32} {h h' : ym_H} {r : Int64} (hf : fn_X8_open N a0 a1 h = some (r, h')) : ym_M D b0 g_X8_open 19 [va_rf a0, .int a1] h (some (.long r)) h' := by
  unfold fn_X8_open at hf
  refine ym_meth (lv := [(0, va_rf a0), (1, .int a1)]) (by decide) (by simp [lg_sl, ym_c1, ym_cI, ym_cL, g_X8_open]) (by simp [lv_args, ym_c1, ym_cI, ym_cL]) ?_
  refine ym_aload_n (pc := 0) 0 dX8_open_0 rfl rfl ?_
  refine ym_bipush (pc := 1) (v := 11) dX8_open_1 (by decide) ?_
  refine ym_iload_n (pc := 3) 1 dX8_open_3 rfl rfl ?_
  refine ym_iconst (pc := 4) (v := 0) dX8_open_4 (by decide) ?_
  refine ym_iconst (pc := 5) (v := 0) dX8_open_5 (by decide) ?_
  refine ym_lconst (pc := 6) (v := 0) dX8_open_6 (by decide) ?_
  refine ym_lconst (pc := 7) (v := 0) dX8_open_7 (by decide) ?_
  obtain ⟨o8, f8, hf⟩ := Option.bind_eq_some_iff.mp hf
  obtain ⟨q8, e8, hf⟩ := Option.bind_eq_some_iff.mp hf
  refine ym_callV (pc := 8) (G2 := g_X8_act) (dep2 := 18) (As := [.int 11, .int a1, .int 0, .int 0, .long 0, .long 0]) (st := []) (stk2 := [.long q8.1]) (r2 := (some (.long q8.1))) (h1 := q8.2) dX8_open_8 (ok_X8_act e8) (sc_X8_open_X8_act) wd_1025 wd_1027 wd_21 (ci := 8) (q0 := (RX8, TX8, 58)) rfl (by decide) rfl f8 rfl rfl (ym_st4 (Nat.le_of_ble_eq_true rfl)) rfl ?_
  cases hf
  exact ym_lret (pc := 11) dX8_open_11 rfl
theorem dX8_pay_0 : decode cX8_pay 0 = .ok (.aload_n 0, 1) := by decide +kernel
theorem dX8_pay_1 : decode cX8_pay 1 = .ok (.bipush 18, 2) := by decide +kernel
theorem dX8_pay_3 : decode cX8_pay 3 = .ok (.iload_n 1, 1) := by decide +kernel
theorem dX8_pay_4 : decode cX8_pay 4 = .ok (.iconst 0, 1) := by decide +kernel
theorem dX8_pay_5 : decode cX8_pay 5 = .ok (.iconst 0, 1) := by decide +kernel
theorem dX8_pay_6 : decode cX8_pay 6 = .ok (.lload_n 2, 1) := by decide +kernel
theorem dX8_pay_7 : decode cX8_pay 7 = .ok (.lconst 0, 1) := by decide +kernel
theorem dX8_pay_8 : decode cX8_pay 8 = .ok (.invokevirtual 420, 3) := by decide +kernel
theorem dX8_pay_11 : decode cX8_pay 11 = .ok (.lreturn, 1) := by decide +kernel
theorem sc_X8_pay_X8_act : ym_site g_X8_pay g_X8_act 19 18 6 := ⟨by decide, by decide, wd_1028, wd_83, by decide +kernel⟩
def fn_X8_pay (N : Nat) (a0 : Option Nat) (a1 : Int32) (a2 : Int64) (h : ym_H) : Option (Int64 × ym_H) :=
  Option.bind (ym_ob h a0 8) fun o8 =>
  Option.bind (fn_X8_act N a0 18 a1 0 0 a2 0 h) fun q8 =>
  some (q8.1, q8.2)
set_option maxRecDepth 20000 in
set_option maxHeartbeats 4000000 in
theorem ok_X8_pay {D : ym_D} {b0 : Nat} {N : Nat} {a0 : Option Nat} {a1 : Int32} {a2 : Int64} {h h' : ym_H} {r : Int64} (hf : fn_X8_pay N a0 a1 a2 h = some (r, h')) : ym_M D b0 g_X8_pay 19 [va_rf a0, .int a1, .long a2] h (some (.long r)) h' := by
  unfold fn_X8_pay at hf
  refine ym_meth (lv := [(0, va_rf a0), (1, .int a1), (2, .long a2)]) (by decide) (by simp [lg_sl, ym_c1, ym_cI, ym_cL, g_X8_pay]) (by simp [lv_args, ym_c1, ym_cI, ym_cL]) ?_
  refine ym_aload_n (pc := 0) 0 dX8_pay_0 rfl rfl ?_
  refine ym_bipush (pc := 1) (v := 18) dX8_pay_1 (by decide) ?_
  refine ym_iload_n (pc := 3) 1 dX8_pay_3 rfl rfl ?_
  refine ym_iconst (pc := 4) (v := 0) dX8_pay_4 (by decide) ?_
  refine ym_iconst (pc := 5) (v := 0) dX8_pay_5 (by decide) ?_
  refine ym_lload_n (pc := 6) 2 dX8_pay_6 rfl rfl ?_
  refine ym_lconst (pc := 7) (v := 0) dX8_pay_7 (by decide) ?_
  obtain ⟨o8, f8, hf⟩ := Option.bind_eq_some_iff.mp hf
  obtain ⟨q8, e8, hf⟩ := Option.bind_eq_some_iff.mp hf
  refine ym_callV (pc := 8) (G2 := g_X8_act) (dep2 := 18) (As := [.int 18, .int a1, .int 0, .int 0, .long a2, .long 0]) (st := []) (stk2 := [.long q8.1]) (r2 := (some (.long q8.1))) (h1 := q8.2) dX8_pay_8 (ok_X8_act e8) (sc_X8_pay_X8_act) wd_1025 wd_1027 wd_21 (ci := 8) (q0 := (RX8, TX8, 58)) rfl (by decide) rfl f8 rfl rfl (ym_st4 (Nat.le_of_ble_eq_true rfl)) rfl ?_
  cases hf
  exact ym_lret (pc := 11) dX8_pay_11 rfl
theorem dX8_payOut_0 : decode cX8_payOut 0 = .ok (.aload_n 0, 1) := by decide +kernel
theorem dX8_payOut_1 : decode cX8_payOut 1 = .ok (.bipush 19, 2) := by decide +kernel
theorem dX8_payOut_3 : decode cX8_payOut 3 = .ok (.iload_n 1, 1) := by decide +kernel
theorem dX8_payOut_4 : decode cX8_payOut 4 = .ok (.iconst 0, 1) := by decide +kernel
theorem dX8_payOut_5 : decode cX8_payOut 5 = .ok (.iconst 0, 1) := by decide +kernel
theorem dX8_payOut_6 : decode cX8_payOut 6 = .ok (.lload_n 2, 1) := by decide +kernel
theorem dX8_payOut_7 : decode cX8_payOut 7 = .ok (.lconst 0, 1) := by decide +kernel
theorem dX8_payOut_8 : decode cX8_payOut 8 = .ok (.invokevirtual 420, 3) := by decide +kernel
theorem dX8_payOut_11 : decode cX8_payOut 11 = .ok (.lreturn, 1) := by decide +kernel
theorem sc_X8_payOut_X8_act : ym_site g_X8_payOut g_X8_act 19 18 6 := ⟨by decide, by decide, wd_1028, wd_83, by decide +kernel⟩
def fn_X8_payOut (N : Nat) (a0 : Option Nat) (a1 : Int32) (a2 : Int64) (h : ym_H) : Option (Int64 × ym_H) :=
  Option.bind (ym_ob h a0 8) fun o8 =>
  Option.bind (fn_X8_act N a0 19 a1 0 0 a2 0 h) fun q8 =>
  some (q8.1, q8.2)
set_option maxRecDepth 20000 in
set_option maxHeartbeats 4000000 in
theorem ok_X8_payOut {D : ym_D} {b0 : Nat} {N : Nat} {a0 : Option Nat} {a1 : Int32} {a2 : Int64} {h h' : ym_H} {r : Int64} (hf : fn_X8_payOut N a0 a1 a2 h = some (r, h')) : ym_M D b0 g_X8_payOut 19 [va_rf a0, .int a1, .long a2] h (some (.long r)) h' := by
  unfold fn_X8_payOut at hf
  refine ym_meth (lv := [(0, va_rf a0), (1, .int a1), (2, .long a2)]) (by decide) (by simp [lg_sl, ym_c1, ym_cI, ym_cL, g_X8_payOut]) (by simp [lv_args, ym_c1, ym_cI, ym_cL]) ?_
  refine ym_aload_n (pc := 0) 0 dX8_payOut_0 rfl rfl ?_
  refine ym_bipush (pc := 1) (v := 19) dX8_payOut_1 (by decide) ?_
  refine ym_iload_n (pc := 3) 1 dX8_payOut_3 rfl rfl ?_
  refine ym_iconst (pc := 4) (v := 0) dX8_payOut_4 (by decide) ?_
  refine ym_iconst (pc := 5) (v := 0) dX8_payOut_5 (by decide) ?_
  refine ym_lload_n (pc := 6) 2 dX8_payOut_6 rfl rfl ?_
  refine ym_lconst (pc := 7) (v := 0) dX8_payOut_7 (by decide) ?_
  obtain ⟨o8, f8, hf⟩ := Option.bind_eq_some_iff.mp hf
  obtain ⟨q8, e8, hf⟩ := Option.bind_eq_some_iff.mp hf
  refine ym_callV (pc := 8) (G2 := g_X8_act) (dep2 := 18) (As := [.int 19, .int a1, .int 0, .int 0, .long a2, .long 0]) (st := []) (stk2 := [.long q8.1]) (r2 := (some (.long q8.1))) (h1 := q8.2) dX8_payOut_8 (ok_X8_act e8) (sc_X8_payOut_X8_act) wd_1025 wd_1027 wd_21 (ci := 8) (q0 := (RX8, TX8, 58)) rfl (by decide) rfl f8 rfl rfl (ym_st4 (Nat.le_of_ble_eq_true rfl)) rfl ?_
  cases hf
  exact ym_lret (pc := 11) dX8_payOut_11 rfl
theorem dX8_premium_0 : decode cX8_premium 0 = .ok (.aload_n 0, 1) := by decide +kernel
theorem dX8_premium_1 : decode cX8_premium 1 = .ok (.bipush 6, 2) := by decide +kernel
theorem dX8_premium_3 : decode cX8_premium 3 = .ok (.iload_n 3, 1) := by decide +kernel
theorem dX8_premium_4 : decode cX8_premium 4 = .ok (.iconst 0, 1) := by decide +kernel
theorem dX8_premium_5 : decode cX8_premium 5 = .ok (.iconst 0, 1) := by decide +kernel
theorem dX8_premium_6 : decode cX8_premium 6 = .ok (.lload_n 1, 1) := by decide +kernel
theorem dX8_premium_7 : decode cX8_premium 7 = .ok (.lconst 0, 1) := by decide +kernel
theorem dX8_premium_8 : decode cX8_premium 8 = .ok (.invokevirtual 420, 3) := by decide +kernel
theorem dX8_premium_11 : decode cX8_premium 11 = .ok (.lreturn, 1) := by decide +kernel
theorem sc_X8_premium_X8_act : ym_site g_X8_premium g_X8_act 19 18 6 := ⟨by decide, by decide, wd_1028, wd_83, by decide +kernel⟩
def fn_X8_premium (N : Nat) (a0 : Option Nat) (a1 : Int64) (a3 : Int32) (h : ym_H) : Option (Int64 × ym_H) :=
  Option.bind (ym_ob h a0 8) fun o8 =>
  Option.bind (fn_X8_act N a0 6 a3 0 0 a1 0 h) fun q8 =>
  some (q8.1, q8.2)
set_option maxRecDepth 20000 in
set_option maxHeartbeats 4000000 in
theorem ok_X8_premium {D : ym_D} {b0 : Nat} {N : Nat} {a0 : Option Nat} {a1 : Int64} {a3 : Int32} {h h' : ym_H} {r : Int64} (hf : fn_X8_premium N a0 a1 a3 h = some (r, h')) : ym_M D b0 g_X8_premium 19 [va_rf a0, .long a1, .int a3] h (some (.long r)) h' := by
  unfold fn_X8_premium at hf
  refine ym_meth (lv := [(0, va_rf a0), (1, .long a1), (3, .int a3)]) (by decide) (by simp [lg_sl, ym_c1, ym_cI, ym_cL, g_X8_premium]) (by simp [lv_args, ym_c1, ym_cI, ym_cL]) ?_
  refine ym_aload_n (pc := 0) 0 dX8_premium_0 rfl rfl ?_
  refine ym_bipush (pc := 1) (v := 6) dX8_premium_1 (by decide) ?_
  refine ym_iload_n (pc := 3) 2 dX8_premium_3 rfl rfl ?_
  refine ym_iconst (pc := 4) (v := 0) dX8_premium_4 (by decide) ?_
  refine ym_iconst (pc := 5) (v := 0) dX8_premium_5 (by decide) ?_
  refine ym_lload_n (pc := 6) 1 dX8_premium_6 rfl rfl ?_
  refine ym_lconst (pc := 7) (v := 0) dX8_premium_7 (by decide) ?_
  obtain ⟨o8, f8, hf⟩ := Option.bind_eq_some_iff.mp hf
  obtain ⟨q8, e8, hf⟩ := Option.bind_eq_some_iff.mp hf
  refine ym_callV (pc := 8) (G2 := g_X8_act) (dep2 := 18) (As := [.int 6, .int a3, .int 0, .int 0, .long a1, .long 0]) (st := []) (stk2 := [.long q8.1]) (r2 := (some (.long q8.1))) (h1 := q8.2) dX8_premium_8 (ok_X8_act e8) (sc_X8_premium_X8_act) wd_1025 wd_1027 wd_21 (ci := 8) (q0 := (RX8, TX8, 58)) rfl (by decide) rfl f8 rfl rfl (ym_st4 (Nat.le_of_ble_eq_true rfl)) rfl ?_
  cases hf
  exact ym_lret (pc := 11) dX8_premium_11 rfl
theorem dX8_reoffer_0 : decode cX8_reoffer 0 = .ok (.aload_n 0, 1) := by decide +kernel
theorem dX8_reoffer_1 : decode cX8_reoffer 1 = .ok (.bipush 17, 2) := by decide +kernel
theorem dX8_reoffer_3 : decode cX8_reoffer 3 = .ok (.iload_n 1, 1) := by decide +kernel
theorem dX8_reoffer_4 : decode cX8_reoffer 4 = .ok (.iconst 0, 1) := by decide +kernel
theorem dX8_reoffer_5 : decode cX8_reoffer 5 = .ok (.iconst 0, 1) := by decide +kernel
theorem dX8_reoffer_6 : decode cX8_reoffer 6 = .ok (.lload_n 2, 1) := by decide +kernel
theorem dX8_reoffer_7 : decode cX8_reoffer 7 = .ok (.lconst 0, 1) := by decide +kernel
theorem dX8_reoffer_8 : decode cX8_reoffer 8 = .ok (.invokevirtual 420, 3) := by decide +kernel
theorem dX8_reoffer_11 : decode cX8_reoffer 11 = .ok (.lreturn, 1) := by decide +kernel
theorem sc_X8_reoffer_X8_act : ym_site g_X8_reoffer g_X8_act 19 18 6 := ⟨by decide, by decide, wd_1028, wd_83, by decide +kernel⟩
def fn_X8_reoffer (N : Nat) (a0 : Option Nat) (a1 : Int32) (a2 : Int64) (h : ym_H) : Option (Int64 × ym_H) :=
  Option.bind (ym_ob h a0 8) fun o8 =>
  Option.bind (fn_X8_act N a0 17 a1 0 0 a2 0 h) fun q8 =>
  some (q8.1, q8.2)
set_option maxRecDepth 20000 in
set_option maxHeartbeats 4000000 in
theorem ok_X8_reoffer {D : ym_D} {b0 : Nat} {N : Nat} {a0 : Option Nat} {a1 : Int32} {a2 : Int64} {h h' : ym_H} {r : Int64} (hf : fn_X8_reoffer N a0 a1 a2 h = some (r, h')) : ym_M D b0 g_X8_reoffer 19 [va_rf a0, .int a1, .long a2] h (some (.long r)) h' := by
  unfold fn_X8_reoffer at hf
  refine ym_meth (lv := [(0, va_rf a0), (1, .int a1), (2, .long a2)]) (by decide) (by simp [lg_sl, ym_c1, ym_cI, ym_cL, g_X8_reoffer]) (by simp [lv_args, ym_c1, ym_cI, ym_cL]) ?_
  refine ym_aload_n (pc := 0) 0 dX8_reoffer_0 rfl rfl ?_
  refine ym_bipush (pc := 1) (v := 17) dX8_reoffer_1 (by decide) ?_
  refine ym_iload_n (pc := 3) 1 dX8_reoffer_3 rfl rfl ?_
  refine ym_iconst (pc := 4) (v := 0) dX8_reoffer_4 (by decide) ?_
  refine ym_iconst (pc := 5) (v := 0) dX8_reoffer_5 (by decide) ?_
  refine ym_lload_n (pc := 6) 2 dX8_reoffer_6 rfl rfl ?_
  refine ym_lconst (pc := 7) (v := 0) dX8_reoffer_7 (by decide) ?_
  obtain ⟨o8, f8, hf⟩ := Option.bind_eq_some_iff.mp hf
  obtain ⟨q8, e8, hf⟩ := Option.bind_eq_some_iff.mp hf
  refine ym_callV (pc := 8) (G2 := g_X8_act) (dep2 := 18) (As := [.int 17, .int a1, .int 0, .int 0, .long a2, .long 0]) (st := []) (stk2 := [.long q8.1]) (r2 := (some (.long q8.1))) (h1 := q8.2) dX8_reoffer_8 (ok_X8_act e8) (sc_X8_reoffer_X8_act) wd_1025 wd_1027 wd_21 (ci := 8) (q0 := (RX8, TX8, 58)) rfl (by decide) rfl f8 rfl rfl (ym_st4 (Nat.le_of_ble_eq_true rfl)) rfl ?_
  cases hf
  exact ym_lret (pc := 11) dX8_reoffer_11 rfl
theorem dX8_seller_0 : decode cX8_seller 0 = .ok (.aload_n 0, 1) := by decide +kernel
theorem dX8_seller_1 : decode cX8_seller 1 = .ok (.iconst 3, 1) := by decide +kernel
theorem dX8_seller_2 : decode cX8_seller 2 = .ok (.iload_n 1, 1) := by decide +kernel
theorem dX8_seller_3 : decode cX8_seller 3 = .ok (.iload_n 2, 1) := by decide +kernel
theorem dX8_seller_4 : decode cX8_seller 4 = .ok (.iconst 0, 1) := by decide +kernel
theorem dX8_seller_5 : decode cX8_seller 5 = .ok (.lconst 0, 1) := by decide +kernel
theorem dX8_seller_6 : decode cX8_seller 6 = .ok (.lconst 0, 1) := by decide +kernel
theorem dX8_seller_7 : decode cX8_seller 7 = .ok (.invokevirtual 420, 3) := by decide +kernel
theorem dX8_seller_10 : decode cX8_seller 10 = .ok (.lreturn, 1) := by decide +kernel
theorem sc_X8_seller_X8_act : ym_site g_X8_seller g_X8_act 19 18 6 := ⟨by decide, by decide, wd_1028, wd_83, by decide +kernel⟩
def fn_X8_seller (N : Nat) (a0 : Option Nat) (a1 : Int32) (a2 : Int32) (h : ym_H) : Option (Int64 × ym_H) :=
  Option.bind (ym_ob h a0 8) fun o7 =>
  Option.bind (fn_X8_act N a0 3 a1 a2 0 0 0 h) fun q7 =>
  some (q7.1, q7.2)
set_option maxRecDepth 20000 in
set_option maxHeartbeats 4000000 in
theorem ok_X8_seller {D : ym_D} {b0 : Nat} {N : Nat} {a0 : Option Nat} {a1 : Int32} {a2 : Int32} {h h' : ym_H} {r : Int64} (hf : fn_X8_seller N a0 a1 a2 h = some (r, h')) : ym_M D b0 g_X8_seller 19 [va_rf a0, .int a1, .int a2] h (some (.long r)) h' := by
  unfold fn_X8_seller at hf
  refine ym_meth (lv := [(0, va_rf a0), (1, .int a1), (2, .int a2)]) (by decide) (by simp [lg_sl, ym_c1, ym_cI, ym_cL, g_X8_seller]) (by simp [lv_args, ym_c1, ym_cI, ym_cL]) ?_
  refine ym_aload_n (pc := 0) 0 dX8_seller_0 rfl rfl ?_
  refine ym_iconst (pc := 1) (v := 3) dX8_seller_1 (by decide) ?_
  refine ym_iload_n (pc := 2) 1 dX8_seller_2 rfl rfl ?_
  refine ym_iload_n (pc := 3) 2 dX8_seller_3 rfl rfl ?_
  refine ym_iconst (pc := 4) (v := 0) dX8_seller_4 (by decide) ?_
  refine ym_lconst (pc := 5) (v := 0) dX8_seller_5 (by decide) ?_
  refine ym_lconst (pc := 6) (v := 0) dX8_seller_6 (by decide) ?_
  obtain ⟨o7, f7, hf⟩ := Option.bind_eq_some_iff.mp hf
  obtain ⟨q7, e7, hf⟩ := Option.bind_eq_some_iff.mp hf
  refine ym_callV (pc := 7) (G2 := g_X8_act) (dep2 := 18) (As := [.int 3, .int a1, .int a2, .int 0, .long 0, .long 0]) (st := []) (stk2 := [.long q7.1]) (r2 := (some (.long q7.1))) (h1 := q7.2) dX8_seller_7 (ok_X8_act e7) (sc_X8_seller_X8_act) wd_1025 wd_1027 wd_21 (ci := 8) (q0 := (RX8, TX8, 58)) rfl (by decide) rfl f7 rfl rfl (ym_st4 (Nat.le_of_ble_eq_true rfl)) rfl ?_
  cases hf
  exact ym_lret (pc := 10) dX8_seller_10 rfl
theorem dX8_settle_0 : decode cX8_settle 0 = .ok (.aload_n 0, 1) := by decide +kernel
theorem dX8_settle_1 : decode cX8_settle 1 = .ok (.bipush 16, 2) := by decide +kernel
theorem dX8_settle_3 : decode cX8_settle 3 = .ok (.iload_n 1, 1) := by decide +kernel
theorem dX8_settle_4 : decode cX8_settle 4 = .ok (.iconst 0, 1) := by decide +kernel
theorem dX8_settle_5 : decode cX8_settle 5 = .ok (.iconst 0, 1) := by decide +kernel
theorem dX8_settle_6 : decode cX8_settle 6 = .ok (.lconst 0, 1) := by decide +kernel
theorem dX8_settle_7 : decode cX8_settle 7 = .ok (.lconst 0, 1) := by decide +kernel
theorem dX8_settle_8 : decode cX8_settle 8 = .ok (.invokevirtual 420, 3) := by decide +kernel
theorem dX8_settle_11 : decode cX8_settle 11 = .ok (.lreturn, 1) := by decide +kernel
theorem sc_X8_settle_X8_act : ym_site g_X8_settle g_X8_act 19 18 6 := ⟨by decide, by decide, wd_1028, wd_83, by decide +kernel⟩
def fn_X8_settle (N : Nat) (a0 : Option Nat) (a1 : Int32) (h : ym_H) : Option (Int64 × ym_H) :=
  Option.bind (ym_ob h a0 8) fun o8 =>
  Option.bind (fn_X8_act N a0 16 a1 0 0 0 0 h) fun q8 =>
  some (q8.1, q8.2)
set_option maxRecDepth 20000 in
set_option maxHeartbeats 4000000 in
theorem ok_X8_settle {D : ym_D} {b0 : Nat} {N : Nat} {a0 : Option Nat} {a1 : Int32} {h h' : ym_H} {r : Int64} (hf : fn_X8_settle N a0 a1 h = some (r, h')) : ym_M D b0 g_X8_settle 19 [va_rf a0, .int a1] h (some (.long r)) h' := by
  unfold fn_X8_settle at hf
  refine ym_meth (lv := [(0, va_rf a0), (1, .int a1)]) (by decide) (by simp [lg_sl, ym_c1, ym_cI, ym_cL, g_X8_settle]) (by simp [lv_args, ym_c1, ym_cI, ym_cL]) ?_
  refine ym_aload_n (pc := 0) 0 dX8_settle_0 rfl rfl ?_
  refine ym_bipush (pc := 1) (v := 16) dX8_settle_1 (by decide) ?_
  refine ym_iload_n (pc := 3) 1 dX8_settle_3 rfl rfl ?_
  refine ym_iconst (pc := 4) (v := 0) dX8_settle_4 (by decide) ?_
  refine ym_iconst (pc := 5) (v := 0) dX8_settle_5 (by decide) ?_
  refine ym_lconst (pc := 6) (v := 0) dX8_settle_6 (by decide) ?_
  refine ym_lconst (pc := 7) (v := 0) dX8_settle_7 (by decide) ?_
  obtain ⟨o8, f8, hf⟩ := Option.bind_eq_some_iff.mp hf
  obtain ⟨q8, e8, hf⟩ := Option.bind_eq_some_iff.mp hf
  refine ym_callV (pc := 8) (G2 := g_X8_act) (dep2 := 18) (As := [.int 16, .int a1, .int 0, .int 0, .long 0, .long 0]) (st := []) (stk2 := [.long q8.1]) (r2 := (some (.long q8.1))) (h1 := q8.2) dX8_settle_8 (ok_X8_act e8) (sc_X8_settle_X8_act) wd_1025 wd_1027 wd_21 (ci := 8) (q0 := (RX8, TX8, 58)) rfl (by decide) rfl f8 rfl rfl (ym_st4 (Nat.le_of_ble_eq_true rfl)) rfl ?_
  cases hf
  exact ym_lret (pc := 11) dX8_settle_11 rfl
theorem dX8_stands_0 : decode cX8_stands 0 = .ok (.aload_n 0, 1) := by decide +kernel
theorem dX8_stands_1 : decode cX8_stands 1 = .ok (.iload_n 1, 1) := by decide +kernel
theorem dX8_stands_2 : decode cX8_stands 2 = .ok (.invokevirtual 423, 3) := by decide +kernel
theorem dX8_stands_5 : decode cX8_stands 5 = .ok (.ifCond .eq 11, 3) := by decide +kernel
theorem dX8_stands_8 : decode cX8_stands 8 = .ok (.aload_n 0, 1) := by decide +kernel
theorem dX8_stands_9 : decode cX8_stands 9 = .ok (.iload_n 1, 1) := by decide +kernel
theorem dX8_stands_10 : decode cX8_stands 10 = .ok (.invokevirtual 298, 3) := by decide +kernel
theorem dX8_stands_13 : decode cX8_stands 13 = .ok (.goto 4, 3) := by decide +kernel
theorem dX8_stands_16 : decode cX8_stands 16 = .ok (.iconst (-1), 1) := by decide +kernel
theorem dX8_stands_17 : decode cX8_stands 17 = .ok (.ireturn, 1) := by decide +kernel
theorem sc_X8_stands_X8_isLot : ym_site g_X8_stands g_X8_isLot 3 2 1 := ⟨by decide, by decide, wd_1372, wd_83, by decide +kernel⟩
theorem sc_X8_stands_X8_standing : ym_site g_X8_stands g_X8_standing 3 1 1 := ⟨by decide, by decide, wd_1107, wd_83, by decide +kernel⟩
def fn_X8_stands (N : Nat) (a0 : Option Nat) (a1 : Int32) (h : ym_H) : Option (Int32 × ym_H) :=
  Option.bind (ym_ob h a0 8) fun o2 =>
  Option.bind (fn_X8_isLot N a0 a1 h) fun q2 =>
  if q2.1 = 0 then
    some ((-1), q2.2)
  else
    Option.bind (ym_ob q2.2 a0 8) fun o10 =>
    Option.bind (fn_X8_standing N a0 a1 q2.2) fun q10 =>
    some (q10.1, q10.2)
set_option maxRecDepth 20000 in
set_option maxHeartbeats 4000000 in
theorem ok_X8_stands {D : ym_D} {b0 : Nat} {N : Nat} {a0 : Option Nat} {a1 : Int32} {h h' : ym_H} {r : Int32} (hf : fn_X8_stands N a0 a1 h = some (r, h')) : ym_M D b0 g_X8_stands 3 [va_rf a0, .int a1] h (some (.int r)) h' := by
  unfold fn_X8_stands at hf
  refine ym_meth (lv := [(0, va_rf a0), (1, .int a1)]) (by decide) (by simp [lg_sl, ym_c1, ym_cI, ym_cL, g_X8_stands]) (by simp [lv_args, ym_c1, ym_cI, ym_cL]) ?_
  refine ym_aload_n (pc := 0) 0 dX8_stands_0 rfl rfl ?_
  refine ym_iload_n (pc := 1) 1 dX8_stands_1 rfl rfl ?_
  obtain ⟨o2, f2, hf⟩ := Option.bind_eq_some_iff.mp hf
  obtain ⟨q2, e2, hf⟩ := Option.bind_eq_some_iff.mp hf
  refine ym_callV (pc := 2) (G2 := g_X8_isLot) (dep2 := 2) (As := [.int a1]) (st := []) (stk2 := [.int q2.1]) (r2 := (some (.int q2.1))) (h1 := q2.2) dX8_stands_2 (ok_X8_isLot e2) (sc_X8_stands_X8_isLot) wd_1369 wd_1371 wd_73 (ci := 8) (q0 := (RX8, TX8, 58)) rfl (by decide) rfl f2 rfl rfl (ym_st4 (Nat.le_of_ble_eq_true rfl)) rfl ?_
  by_cases c5 : q2.1 = 0
  · rw [if_pos c5] at hf
    refine ym_if_eq_y (pc := 5) (tgt := 16) dX8_stands_5 (by decide) c5 ?_
    refine ym_iconst (pc := 16) (v := (-1)) dX8_stands_16 (by decide) ?_
    cases hf
    exact ym_iret (pc := 17) dX8_stands_17 rfl
  · rw [if_neg c5] at hf
    refine ym_if_eq_n (pc := 5) (tgt := 16) dX8_stands_5 (by decide) c5 ?_
    refine ym_aload_n (pc := 8) 0 dX8_stands_8 rfl rfl ?_
    refine ym_iload_n (pc := 9) 1 dX8_stands_9 rfl rfl ?_
    obtain ⟨o10, f10, hf⟩ := Option.bind_eq_some_iff.mp hf
    obtain ⟨q10, e10, hf⟩ := Option.bind_eq_some_iff.mp hf
    refine ym_callV (pc := 10) (G2 := g_X8_standing) (dep2 := 1) (As := [.int a1]) (st := []) (stk2 := [.int q10.1]) (r2 := (some (.int q10.1))) (h1 := q10.2) dX8_stands_10 (ok_X8_standing e10) (sc_X8_stands_X8_standing) wd_1104 wd_1106 wd_37 (ci := 8) (q0 := (RX8, TX8, 58)) rfl (by decide) rfl f10 rfl rfl (ym_st4 (Nat.le_of_ble_eq_true rfl)) rfl ?_
    refine ym_goto (pc := 13) (tgt := 17) dX8_stands_13 (by decide) ?_
    cases hf
    exact ym_iret (pc := 17) dX8_stands_17 rfl
theorem dX8_state_0 : decode cX8_state 0 = .ok (.aload_n 0, 1) := by decide +kernel
theorem dX8_state_1 : decode cX8_state 1 = .ok (.iload_n 1, 1) := by decide +kernel
theorem dX8_state_2 : decode cX8_state 2 = .ok (.invokevirtual 423, 3) := by decide +kernel
theorem dX8_state_5 : decode cX8_state 5 = .ok (.ifCond .eq 12, 3) := by decide +kernel
theorem dX8_state_8 : decode cX8_state 8 = .ok (.aload_n 0, 1) := by decide +kernel
theorem dX8_state_9 : decode cX8_state 9 = .ok (.getfield 32, 3) := by decide +kernel
theorem dX8_state_12 : decode cX8_state 12 = .ok (.iload_n 1, 1) := by decide +kernel
theorem dX8_state_13 : decode cX8_state 13 = .ok (.iaload, 1) := by decide +kernel
theorem dX8_state_14 : decode cX8_state 14 = .ok (.goto 4, 3) := by decide +kernel
theorem dX8_state_17 : decode cX8_state 17 = .ok (.iconst (-1), 1) := by decide +kernel
theorem dX8_state_18 : decode cX8_state 18 = .ok (.ireturn, 1) := by decide +kernel
theorem sc_X8_state_X8_isLot : ym_site g_X8_state g_X8_isLot 3 2 1 := ⟨by decide, by decide, wd_1372, wd_83, by decide +kernel⟩
def fn_X8_state (N : Nat) (a0 : Option Nat) (a1 : Int32) (h : ym_H) : Option (Int32 × ym_H) :=
  Option.bind (ym_ob h a0 8) fun o2 =>
  Option.bind (fn_X8_isLot N a0 a1 h) fun q2 =>
  if q2.1 = 0 then
    some ((-1), q2.2)
  else
    Option.bind (ym_gR q2.2 a0 8 9) fun v9 =>
    Option.bind (ym_ldI q2.2 v9 a1) fun v13 =>
    some (v13, q2.2)
set_option maxRecDepth 20000 in
set_option maxHeartbeats 4000000 in
theorem ok_X8_state {D : ym_D} {b0 : Nat} {N : Nat} {a0 : Option Nat} {a1 : Int32} {h h' : ym_H} {r : Int32} (hf : fn_X8_state N a0 a1 h = some (r, h')) : ym_M D b0 g_X8_state 3 [va_rf a0, .int a1] h (some (.int r)) h' := by
  unfold fn_X8_state at hf
  refine ym_meth (lv := [(0, va_rf a0), (1, .int a1)]) (by decide) (by simp [lg_sl, ym_c1, ym_cI, ym_cL, g_X8_state]) (by simp [lv_args, ym_c1, ym_cI, ym_cL]) ?_
  refine ym_aload_n (pc := 0) 0 dX8_state_0 rfl rfl ?_
  refine ym_iload_n (pc := 1) 1 dX8_state_1 rfl rfl ?_
  obtain ⟨o2, f2, hf⟩ := Option.bind_eq_some_iff.mp hf
  obtain ⟨q2, e2, hf⟩ := Option.bind_eq_some_iff.mp hf
  refine ym_callV (pc := 2) (G2 := g_X8_isLot) (dep2 := 2) (As := [.int a1]) (st := []) (stk2 := [.int q2.1]) (r2 := (some (.int q2.1))) (h1 := q2.2) dX8_state_2 (ok_X8_isLot e2) (sc_X8_state_X8_isLot) wd_1369 wd_1371 wd_73 (ci := 8) (q0 := (RX8, TX8, 58)) rfl (by decide) rfl f2 rfl rfl (ym_st4 (Nat.le_of_ble_eq_true rfl)) rfl ?_
  by_cases c5 : q2.1 = 0
  · rw [if_pos c5] at hf
    refine ym_if_eq_y (pc := 5) (tgt := 17) dX8_state_5 (by decide) c5 ?_
    refine ym_iconst (pc := 17) (v := (-1)) dX8_state_17 (by decide) ?_
    cases hf
    exact ym_iret (pc := 18) dX8_state_18 rfl
  · rw [if_neg c5] at hf
    refine ym_if_eq_n (pc := 5) (tgt := 17) dX8_state_5 (by decide) c5 ?_
    refine ym_aload_n (pc := 8) 0 dX8_state_8 rfl rfl ?_
    obtain ⟨v9, e9, hf⟩ := Option.bind_eq_some_iff.mp hf
    refine ym_get (pc := 9) dX8_state_9 rfl (by decide) iX8 (k := 9) (by decide) wd_854 (ym_gR_v e9) ?_
    refine ym_iload_n (pc := 12) 1 dX8_state_12 rfl rfl ?_
    obtain ⟨v13, e13, hf⟩ := Option.bind_eq_some_iff.mp hf
    refine ym_iald (pc := 13) dX8_state_13 rfl (ym_ldI_v e13) ?_
    refine ym_goto (pc := 14) (tgt := 18) dX8_state_14 (by decide) ?_
    cases hf
    exact ym_iret (pc := 18) dX8_state_18 rfl
theorem dX8_step_0 : decode cX8_step 0 = .ok (.aload_n 0, 1) := by decide +kernel
theorem dX8_step_1 : decode cX8_step 1 = .ok (.iconst 5, 1) := by decide +kernel
theorem dX8_step_2 : decode cX8_step 2 = .ok (.iconst 0, 1) := by decide +kernel
theorem dX8_step_3 : decode cX8_step 3 = .ok (.iconst 0, 1) := by decide +kernel
theorem dX8_step_4 : decode cX8_step 4 = .ok (.iconst 0, 1) := by decide +kernel
theorem dX8_step_5 : decode cX8_step 5 = .ok (.lload_n 1, 1) := by decide +kernel
theorem dX8_step_6 : decode cX8_step 6 = .ok (.lload_n 3, 1) := by decide +kernel
theorem dX8_step_7 : decode cX8_step 7 = .ok (.invokevirtual 420, 3) := by decide +kernel
theorem dX8_step_10 : decode cX8_step 10 = .ok (.lreturn, 1) := by decide +kernel
theorem sc_X8_step_X8_act : ym_site g_X8_step g_X8_act 19 18 6 := ⟨by decide, by decide, wd_1028, wd_83, by decide +kernel⟩
def fn_X8_step (N : Nat) (a0 : Option Nat) (a1 : Int64) (a3 : Int64) (h : ym_H) : Option (Int64 × ym_H) :=
  Option.bind (ym_ob h a0 8) fun o7 =>
  Option.bind (fn_X8_act N a0 5 0 0 0 a1 a3 h) fun q7 =>
  some (q7.1, q7.2)
set_option maxRecDepth 20000 in
set_option maxHeartbeats 4000000 in
theorem ok_X8_step {D : ym_D} {b0 : Nat} {N : Nat} {a0 : Option Nat} {a1 : Int64} {a3 : Int64} {h h' : ym_H} {r : Int64} (hf : fn_X8_step N a0 a1 a3 h = some (r, h')) : ym_M D b0 g_X8_step 19 [va_rf a0, .long a1, .long a3] h (some (.long r)) h' := by
  unfold fn_X8_step at hf
  refine ym_meth (lv := [(0, va_rf a0), (1, .long a1), (3, .long a3)]) (by decide) (by simp [lg_sl, ym_c1, ym_cI, ym_cL, g_X8_step]) (by simp [lv_args, ym_c1, ym_cI, ym_cL]) ?_
  refine ym_aload_n (pc := 0) 0 dX8_step_0 rfl rfl ?_
  refine ym_iconst (pc := 1) (v := 5) dX8_step_1 (by decide) ?_
  refine ym_iconst (pc := 2) (v := 0) dX8_step_2 (by decide) ?_
  refine ym_iconst (pc := 3) (v := 0) dX8_step_3 (by decide) ?_
  refine ym_iconst (pc := 4) (v := 0) dX8_step_4 (by decide) ?_
  refine ym_lload_n (pc := 5) 1 dX8_step_5 rfl rfl ?_
  refine ym_lload_n (pc := 6) 2 dX8_step_6 rfl rfl ?_
  obtain ⟨o7, f7, hf⟩ := Option.bind_eq_some_iff.mp hf
  obtain ⟨q7, e7, hf⟩ := Option.bind_eq_some_iff.mp hf
  refine ym_callV (pc := 7) (G2 := g_X8_act) (dep2 := 18) (As := [.int 5, .int 0, .int 0, .int 0, .long a1, .long a3]) (st := []) (stk2 := [.long q7.1]) (r2 := (some (.long q7.1))) (h1 := q7.2) dX8_step_7 (ok_X8_act e7) (sc_X8_step_X8_act) wd_1025 wd_1027 wd_21 (ci := 8) (q0 := (RX8, TX8, 58)) rfl (by decide) rfl f7 rfl rfl (ym_st4 (Nat.le_of_ble_eq_true rfl)) rfl ?_
  cases hf
  exact ym_lret (pc := 10) dX8_step_10 rfl
theorem dX8_sum_0 : decode cX8_sum 0 = .ok (.aload_n 0, 1) := by decide +kernel
theorem dX8_sum_1 : decode cX8_sum 1 = .ok (.iload_n 1, 1) := by decide +kernel
theorem dX8_sum_2 : decode cX8_sum 2 = .ok (.invokevirtual 423, 3) := by decide +kernel
theorem dX8_sum_5 : decode cX8_sum 5 = .ok (.ifCond .eq 11, 3) := by decide +kernel
theorem dX8_sum_8 : decode cX8_sum 8 = .ok (.aload_n 0, 1) := by decide +kernel
theorem dX8_sum_9 : decode cX8_sum 9 = .ok (.iload_n 1, 1) := by decide +kernel
theorem dX8_sum_10 : decode cX8_sum 10 = .ok (.invokevirtual 312, 3) := by decide +kernel
theorem dX8_sum_13 : decode cX8_sum 13 = .ok (.goto 4, 3) := by decide +kernel
theorem dX8_sum_16 : decode cX8_sum 16 = .ok (.lconst 0, 1) := by decide +kernel
theorem dX8_sum_17 : decode cX8_sum 17 = .ok (.lreturn, 1) := by decide +kernel
theorem sc_X8_sum_X8_isLot : ym_site g_X8_sum g_X8_isLot 3 2 1 := ⟨by decide, by decide, wd_1372, wd_83, by decide +kernel⟩
theorem sc_X8_sum_X8_standingSum : ym_site g_X8_sum g_X8_standingSum 3 2 1 := ⟨by decide, by decide, wd_1111, wd_83, by decide +kernel⟩
def fn_X8_sum (N : Nat) (a0 : Option Nat) (a1 : Int32) (h : ym_H) : Option (Int64 × ym_H) :=
  Option.bind (ym_ob h a0 8) fun o2 =>
  Option.bind (fn_X8_isLot N a0 a1 h) fun q2 =>
  if q2.1 = 0 then
    some (0, q2.2)
  else
    Option.bind (ym_ob q2.2 a0 8) fun o10 =>
    Option.bind (fn_X8_standingSum N a0 a1 q2.2) fun q10 =>
    some (q10.1, q10.2)
set_option maxRecDepth 20000 in
set_option maxHeartbeats 4000000 in
theorem ok_X8_sum {D : ym_D} {b0 : Nat} {N : Nat} {a0 : Option Nat} {a1 : Int32} {h h' : ym_H} {r : Int64} (hf : fn_X8_sum N a0 a1 h = some (r, h')) : ym_M D b0 g_X8_sum 3 [va_rf a0, .int a1] h (some (.long r)) h' := by
  unfold fn_X8_sum at hf
  refine ym_meth (lv := [(0, va_rf a0), (1, .int a1)]) (by decide) (by simp [lg_sl, ym_c1, ym_cI, ym_cL, g_X8_sum]) (by simp [lv_args, ym_c1, ym_cI, ym_cL]) ?_
  refine ym_aload_n (pc := 0) 0 dX8_sum_0 rfl rfl ?_
  refine ym_iload_n (pc := 1) 1 dX8_sum_1 rfl rfl ?_
  obtain ⟨o2, f2, hf⟩ := Option.bind_eq_some_iff.mp hf
  obtain ⟨q2, e2, hf⟩ := Option.bind_eq_some_iff.mp hf
  refine ym_callV (pc := 2) (G2 := g_X8_isLot) (dep2 := 2) (As := [.int a1]) (st := []) (stk2 := [.int q2.1]) (r2 := (some (.int q2.1))) (h1 := q2.2) dX8_sum_2 (ok_X8_isLot e2) (sc_X8_sum_X8_isLot) wd_1369 wd_1371 wd_73 (ci := 8) (q0 := (RX8, TX8, 58)) rfl (by decide) rfl f2 rfl rfl (ym_st4 (Nat.le_of_ble_eq_true rfl)) rfl ?_
  by_cases c5 : q2.1 = 0
  · rw [if_pos c5] at hf
    refine ym_if_eq_y (pc := 5) (tgt := 16) dX8_sum_5 (by decide) c5 ?_
    refine ym_lconst (pc := 16) (v := 0) dX8_sum_16 (by decide) ?_
    cases hf
    exact ym_lret (pc := 17) dX8_sum_17 rfl
  · rw [if_neg c5] at hf
    refine ym_if_eq_n (pc := 5) (tgt := 16) dX8_sum_5 (by decide) c5 ?_
    refine ym_aload_n (pc := 8) 0 dX8_sum_8 rfl rfl ?_
    refine ym_iload_n (pc := 9) 1 dX8_sum_9 rfl rfl ?_
    obtain ⟨o10, f10, hf⟩ := Option.bind_eq_some_iff.mp hf
    obtain ⟨q10, e10, hf⟩ := Option.bind_eq_some_iff.mp hf
    refine ym_callV (pc := 10) (G2 := g_X8_standingSum) (dep2 := 2) (As := [.int a1]) (st := []) (stk2 := [.long q10.1]) (r2 := (some (.long q10.1))) (h1 := q10.2) dX8_sum_10 (ok_X8_standingSum e10) (sc_X8_sum_X8_standingSum) wd_1108 wd_1110 wd_38 (ci := 8) (q0 := (RX8, TX8, 58)) rfl (by decide) rfl f10 rfl rfl (ym_st4 (Nat.le_of_ble_eq_true rfl)) rfl ?_
    refine ym_goto (pc := 13) (tgt := 17) dX8_sum_13 (by decide) ?_
    cases hf
    exact ym_lret (pc := 17) dX8_sum_17 rfl
theorem dX8_sumAt_0 : decode cX8_sumAt 0 = .ok (.aload_n 0, 1) := by decide +kernel
theorem dX8_sumAt_1 : decode cX8_sumAt 1 = .ok (.bipush 22, 2) := by decide +kernel
theorem dX8_sumAt_3 : decode cX8_sumAt 3 = .ok (.iload_n 1, 1) := by decide +kernel
theorem dX8_sumAt_4 : decode cX8_sumAt 4 = .ok (.iload_n 2, 1) := by decide +kernel
theorem dX8_sumAt_5 : decode cX8_sumAt 5 = .ok (.iconst 0, 1) := by decide +kernel
theorem dX8_sumAt_6 : decode cX8_sumAt 6 = .ok (.lconst 0, 1) := by decide +kernel
theorem dX8_sumAt_7 : decode cX8_sumAt 7 = .ok (.lconst 0, 1) := by decide +kernel
theorem dX8_sumAt_8 : decode cX8_sumAt 8 = .ok (.invokevirtual 420, 3) := by decide +kernel
theorem dX8_sumAt_11 : decode cX8_sumAt 11 = .ok (.lreturn, 1) := by decide +kernel
theorem sc_X8_sumAt_X8_act : ym_site g_X8_sumAt g_X8_act 19 18 6 := ⟨by decide, by decide, wd_1028, wd_83, by decide +kernel⟩
def fn_X8_sumAt (N : Nat) (a0 : Option Nat) (a1 : Int32) (a2 : Int32) (h : ym_H) : Option (Int64 × ym_H) :=
  Option.bind (ym_ob h a0 8) fun o8 =>
  Option.bind (fn_X8_act N a0 22 a1 a2 0 0 0 h) fun q8 =>
  some (q8.1, q8.2)
set_option maxRecDepth 20000 in
set_option maxHeartbeats 4000000 in
theorem ok_X8_sumAt {D : ym_D} {b0 : Nat} {N : Nat} {a0 : Option Nat} {a1 : Int32} {a2 : Int32} {h h' : ym_H} {r : Int64} (hf : fn_X8_sumAt N a0 a1 a2 h = some (r, h')) : ym_M D b0 g_X8_sumAt 19 [va_rf a0, .int a1, .int a2] h (some (.long r)) h' := by
  unfold fn_X8_sumAt at hf
  refine ym_meth (lv := [(0, va_rf a0), (1, .int a1), (2, .int a2)]) (by decide) (by simp [lg_sl, ym_c1, ym_cI, ym_cL, g_X8_sumAt]) (by simp [lv_args, ym_c1, ym_cI, ym_cL]) ?_
  refine ym_aload_n (pc := 0) 0 dX8_sumAt_0 rfl rfl ?_
  refine ym_bipush (pc := 1) (v := 22) dX8_sumAt_1 (by decide) ?_
  refine ym_iload_n (pc := 3) 1 dX8_sumAt_3 rfl rfl ?_
  refine ym_iload_n (pc := 4) 2 dX8_sumAt_4 rfl rfl ?_
  refine ym_iconst (pc := 5) (v := 0) dX8_sumAt_5 (by decide) ?_
  refine ym_lconst (pc := 6) (v := 0) dX8_sumAt_6 (by decide) ?_
  refine ym_lconst (pc := 7) (v := 0) dX8_sumAt_7 (by decide) ?_
  obtain ⟨o8, f8, hf⟩ := Option.bind_eq_some_iff.mp hf
  obtain ⟨q8, e8, hf⟩ := Option.bind_eq_some_iff.mp hf
  refine ym_callV (pc := 8) (G2 := g_X8_act) (dep2 := 18) (As := [.int 22, .int a1, .int a2, .int 0, .long 0, .long 0]) (st := []) (stk2 := [.long q8.1]) (r2 := (some (.long q8.1))) (h1 := q8.2) dX8_sumAt_8 (ok_X8_act e8) (sc_X8_sumAt_X8_act) wd_1025 wd_1027 wd_21 (ci := 8) (q0 := (RX8, TX8, 58)) rfl (by decide) rfl f8 rfl rfl (ym_st4 (Nat.le_of_ble_eq_true rfl)) rfl ?_
  cases hf
  exact ym_lret (pc := 11) dX8_sumAt_11 rfl
theorem dX8_take_0 : decode cX8_take 0 = .ok (.aload_n 0, 1) := by decide +kernel
theorem dX8_take_1 : decode cX8_take 1 = .ok (.bipush 13, 2) := by decide +kernel
theorem dX8_take_3 : decode cX8_take 3 = .ok (.iload_n 1, 1) := by decide +kernel
theorem dX8_take_4 : decode cX8_take 4 = .ok (.iload_n 2, 1) := by decide +kernel
theorem dX8_take_5 : decode cX8_take 5 = .ok (.iconst 0, 1) := by decide +kernel
theorem dX8_take_6 : decode cX8_take 6 = .ok (.lconst 0, 1) := by decide +kernel
theorem dX8_take_7 : decode cX8_take 7 = .ok (.lconst 0, 1) := by decide +kernel
theorem dX8_take_8 : decode cX8_take 8 = .ok (.invokevirtual 420, 3) := by decide +kernel
theorem dX8_take_11 : decode cX8_take 11 = .ok (.lreturn, 1) := by decide +kernel
theorem sc_X8_take_X8_act : ym_site g_X8_take g_X8_act 19 18 6 := ⟨by decide, by decide, wd_1028, wd_83, by decide +kernel⟩
def fn_X8_take (N : Nat) (a0 : Option Nat) (a1 : Int32) (a2 : Int32) (h : ym_H) : Option (Int64 × ym_H) :=
  Option.bind (ym_ob h a0 8) fun o8 =>
  Option.bind (fn_X8_act N a0 13 a1 a2 0 0 0 h) fun q8 =>
  some (q8.1, q8.2)
set_option maxRecDepth 20000 in
set_option maxHeartbeats 4000000 in
theorem ok_X8_take {D : ym_D} {b0 : Nat} {N : Nat} {a0 : Option Nat} {a1 : Int32} {a2 : Int32} {h h' : ym_H} {r : Int64} (hf : fn_X8_take N a0 a1 a2 h = some (r, h')) : ym_M D b0 g_X8_take 19 [va_rf a0, .int a1, .int a2] h (some (.long r)) h' := by
  unfold fn_X8_take at hf
  refine ym_meth (lv := [(0, va_rf a0), (1, .int a1), (2, .int a2)]) (by decide) (by simp [lg_sl, ym_c1, ym_cI, ym_cL, g_X8_take]) (by simp [lv_args, ym_c1, ym_cI, ym_cL]) ?_
  refine ym_aload_n (pc := 0) 0 dX8_take_0 rfl rfl ?_
  refine ym_bipush (pc := 1) (v := 13) dX8_take_1 (by decide) ?_
  refine ym_iload_n (pc := 3) 1 dX8_take_3 rfl rfl ?_
  refine ym_iload_n (pc := 4) 2 dX8_take_4 rfl rfl ?_
  refine ym_iconst (pc := 5) (v := 0) dX8_take_5 (by decide) ?_
  refine ym_lconst (pc := 6) (v := 0) dX8_take_6 (by decide) ?_
  refine ym_lconst (pc := 7) (v := 0) dX8_take_7 (by decide) ?_
  obtain ⟨o8, f8, hf⟩ := Option.bind_eq_some_iff.mp hf
  obtain ⟨q8, e8, hf⟩ := Option.bind_eq_some_iff.mp hf
  refine ym_callV (pc := 8) (G2 := g_X8_act) (dep2 := 18) (As := [.int 13, .int a1, .int a2, .int 0, .long 0, .long 0]) (st := []) (stk2 := [.long q8.1]) (r2 := (some (.long q8.1))) (h1 := q8.2) dX8_take_8 (ok_X8_act e8) (sc_X8_take_X8_act) wd_1025 wd_1027 wd_21 (ci := 8) (q0 := (RX8, TX8, 58)) rfl (by decide) rfl f8 rfl rfl (ym_st4 (Nat.le_of_ble_eq_true rfl)) rfl ?_
  cases hf
  exact ym_lret (pc := 11) dX8_take_11 rfl
theorem dX8_tax_0 : decode cX8_tax 0 = .ok (.aload_n 0, 1) := by decide +kernel
theorem dX8_tax_1 : decode cX8_tax 1 = .ok (.bipush 7, 2) := by decide +kernel
theorem dX8_tax_3 : decode cX8_tax 3 = .ok (.iload_n 1, 1) := by decide +kernel
theorem dX8_tax_4 : decode cX8_tax 4 = .ok (.iload_n 2, 1) := by decide +kernel
theorem dX8_tax_5 : decode cX8_tax 5 = .ok (.iconst 0, 1) := by decide +kernel
theorem dX8_tax_6 : decode cX8_tax 6 = .ok (.lconst 0, 1) := by decide +kernel
theorem dX8_tax_7 : decode cX8_tax 7 = .ok (.lconst 0, 1) := by decide +kernel
theorem dX8_tax_8 : decode cX8_tax 8 = .ok (.invokevirtual 420, 3) := by decide +kernel
theorem dX8_tax_11 : decode cX8_tax 11 = .ok (.lreturn, 1) := by decide +kernel
theorem sc_X8_tax_X8_act : ym_site g_X8_tax g_X8_act 19 18 6 := ⟨by decide, by decide, wd_1028, wd_83, by decide +kernel⟩
def fn_X8_tax (N : Nat) (a0 : Option Nat) (a1 : Int32) (a2 : Int32) (h : ym_H) : Option (Int64 × ym_H) :=
  Option.bind (ym_ob h a0 8) fun o8 =>
  Option.bind (fn_X8_act N a0 7 a1 a2 0 0 0 h) fun q8 =>
  some (q8.1, q8.2)
set_option maxRecDepth 20000 in
set_option maxHeartbeats 4000000 in
theorem ok_X8_tax {D : ym_D} {b0 : Nat} {N : Nat} {a0 : Option Nat} {a1 : Int32} {a2 : Int32} {h h' : ym_H} {r : Int64} (hf : fn_X8_tax N a0 a1 a2 h = some (r, h')) : ym_M D b0 g_X8_tax 19 [va_rf a0, .int a1, .int a2] h (some (.long r)) h' := by
  unfold fn_X8_tax at hf
  refine ym_meth (lv := [(0, va_rf a0), (1, .int a1), (2, .int a2)]) (by decide) (by simp [lg_sl, ym_c1, ym_cI, ym_cL, g_X8_tax]) (by simp [lv_args, ym_c1, ym_cI, ym_cL]) ?_
  refine ym_aload_n (pc := 0) 0 dX8_tax_0 rfl rfl ?_
  refine ym_bipush (pc := 1) (v := 7) dX8_tax_1 (by decide) ?_
  refine ym_iload_n (pc := 3) 1 dX8_tax_3 rfl rfl ?_
  refine ym_iload_n (pc := 4) 2 dX8_tax_4 rfl rfl ?_
  refine ym_iconst (pc := 5) (v := 0) dX8_tax_5 (by decide) ?_
  refine ym_lconst (pc := 6) (v := 0) dX8_tax_6 (by decide) ?_
  refine ym_lconst (pc := 7) (v := 0) dX8_tax_7 (by decide) ?_
  obtain ⟨o8, f8, hf⟩ := Option.bind_eq_some_iff.mp hf
  obtain ⟨q8, e8, hf⟩ := Option.bind_eq_some_iff.mp hf
  refine ym_callV (pc := 8) (G2 := g_X8_act) (dep2 := 18) (As := [.int 7, .int a1, .int a2, .int 0, .long 0, .long 0]) (st := []) (stk2 := [.long q8.1]) (r2 := (some (.long q8.1))) (h1 := q8.2) dX8_tax_8 (ok_X8_act e8) (sc_X8_tax_X8_act) wd_1025 wd_1027 wd_21 (ci := 8) (q0 := (RX8, TX8, 58)) rfl (by decide) rfl f8 rfl rfl (ym_st4 (Nat.le_of_ble_eq_true rfl)) rfl ?_
  cases hf
  exact ym_lret (pc := 11) dX8_tax_11 rfl
theorem dX8_tick_0 : decode cX8_tick 0 = .ok (.aload_n 0, 1) := by decide +kernel
theorem dX8_tick_1 : decode cX8_tick 1 = .ok (.bipush 12, 2) := by decide +kernel
theorem dX8_tick_3 : decode cX8_tick 3 = .ok (.iload_n 1, 1) := by decide +kernel
theorem dX8_tick_4 : decode cX8_tick 4 = .ok (.iconst 0, 1) := by decide +kernel
theorem dX8_tick_5 : decode cX8_tick 5 = .ok (.iconst 0, 1) := by decide +kernel
theorem dX8_tick_6 : decode cX8_tick 6 = .ok (.lload_n 2, 1) := by decide +kernel
theorem dX8_tick_7 : decode cX8_tick 7 = .ok (.lconst 0, 1) := by decide +kernel
theorem dX8_tick_8 : decode cX8_tick 8 = .ok (.invokevirtual 420, 3) := by decide +kernel
theorem dX8_tick_11 : decode cX8_tick 11 = .ok (.lreturn, 1) := by decide +kernel
theorem sc_X8_tick_X8_act : ym_site g_X8_tick g_X8_act 19 18 6 := ⟨by decide, by decide, wd_1028, wd_83, by decide +kernel⟩
def fn_X8_tick (N : Nat) (a0 : Option Nat) (a1 : Int32) (a2 : Int64) (h : ym_H) : Option (Int64 × ym_H) :=
  Option.bind (ym_ob h a0 8) fun o8 =>
  Option.bind (fn_X8_act N a0 12 a1 0 0 a2 0 h) fun q8 =>
  some (q8.1, q8.2)
set_option maxRecDepth 20000 in
set_option maxHeartbeats 4000000 in
theorem ok_X8_tick {D : ym_D} {b0 : Nat} {N : Nat} {a0 : Option Nat} {a1 : Int32} {a2 : Int64} {h h' : ym_H} {r : Int64} (hf : fn_X8_tick N a0 a1 a2 h = some (r, h')) : ym_M D b0 g_X8_tick 19 [va_rf a0, .int a1, .long a2] h (some (.long r)) h' := by
  unfold fn_X8_tick at hf
  refine ym_meth (lv := [(0, va_rf a0), (1, .int a1), (2, .long a2)]) (by decide) (by simp [lg_sl, ym_c1, ym_cI, ym_cL, g_X8_tick]) (by simp [lv_args, ym_c1, ym_cI, ym_cL]) ?_
  refine ym_aload_n (pc := 0) 0 dX8_tick_0 rfl rfl ?_
  refine ym_bipush (pc := 1) (v := 12) dX8_tick_1 (by decide) ?_
  refine ym_iload_n (pc := 3) 1 dX8_tick_3 rfl rfl ?_
  refine ym_iconst (pc := 4) (v := 0) dX8_tick_4 (by decide) ?_
  refine ym_iconst (pc := 5) (v := 0) dX8_tick_5 (by decide) ?_
  refine ym_lload_n (pc := 6) 2 dX8_tick_6 rfl rfl ?_
  refine ym_lconst (pc := 7) (v := 0) dX8_tick_7 (by decide) ?_
  obtain ⟨o8, f8, hf⟩ := Option.bind_eq_some_iff.mp hf
  obtain ⟨q8, e8, hf⟩ := Option.bind_eq_some_iff.mp hf
  refine ym_callV (pc := 8) (G2 := g_X8_act) (dep2 := 18) (As := [.int 12, .int a1, .int 0, .int 0, .long a2, .long 0]) (st := []) (stk2 := [.long q8.1]) (r2 := (some (.long q8.1))) (h1 := q8.2) dX8_tick_8 (ok_X8_act e8) (sc_X8_tick_X8_act) wd_1025 wd_1027 wd_21 (ci := 8) (q0 := (RX8, TX8, 58)) rfl (by decide) rfl f8 rfl rfl (ym_st4 (Nat.le_of_ble_eq_true rfl)) rfl ?_
  cases hf
  exact ym_lret (pc := 11) dX8_tick_11 rfl
theorem dX8_total_0 : decode cX8_total 0 = .ok (.aload_n 0, 1) := by decide +kernel
theorem dX8_total_1 : decode cX8_total 1 = .ok (.getfield 117, 3) := by decide +kernel
theorem dX8_total_4 : decode cX8_total 4 = .ok (.iconst 0, 1) := by decide +kernel
theorem dX8_total_5 : decode cX8_total 5 = .ok (.laload, 1) := by decide +kernel
theorem dX8_total_6 : decode cX8_total 6 = .ok (.aload_n 0, 1) := by decide +kernel
theorem dX8_total_7 : decode cX8_total 7 = .ok (.getfield 117, 3) := by decide +kernel
theorem dX8_total_10 : decode cX8_total 10 = .ok (.iconst 1, 1) := by decide +kernel
theorem dX8_total_11 : decode cX8_total 11 = .ok (.laload, 1) := by decide +kernel
theorem dX8_total_12 : decode cX8_total 12 = .ok (.ladd, 1) := by decide +kernel
theorem dX8_total_13 : decode cX8_total 13 = .ok (.aload_n 0, 1) := by decide +kernel
theorem dX8_total_14 : decode cX8_total 14 = .ok (.getfield 117, 3) := by decide +kernel
theorem dX8_total_17 : decode cX8_total 17 = .ok (.iconst 2, 1) := by decide +kernel
theorem dX8_total_18 : decode cX8_total 18 = .ok (.laload, 1) := by decide +kernel
theorem dX8_total_19 : decode cX8_total 19 = .ok (.ladd, 1) := by decide +kernel
theorem dX8_total_20 : decode cX8_total 20 = .ok (.lstore_n 1, 1) := by decide +kernel
theorem dX8_total_21 : decode cX8_total 21 = .ok (.iconst 0, 1) := by decide +kernel
theorem dX8_total_22 : decode cX8_total 22 = .ok (.istore_n 3, 1) := by decide +kernel
theorem dX8_total_23 : decode cX8_total 23 = .ok (.iload_n 3, 1) := by decide +kernel
theorem dX8_total_24 : decode cX8_total 24 = .ok (.aload_n 0, 1) := by decide +kernel
theorem dX8_total_25 : decode cX8_total 25 = .ok (.getfield 185, 3) := by decide +kernel
theorem dX8_total_28 : decode cX8_total 28 = .ok (.if_icmp .ge 18, 3) := by decide +kernel
theorem dX8_total_31 : decode cX8_total 31 = .ok (.lload_n 1, 1) := by decide +kernel
theorem dX8_total_32 : decode cX8_total 32 = .ok (.aload_n 0, 1) := by decide +kernel
theorem dX8_total_33 : decode cX8_total 33 = .ok (.getfield 17, 3) := by decide +kernel
theorem dX8_total_36 : decode cX8_total 36 = .ok (.iload_n 3, 1) := by decide +kernel
theorem dX8_total_37 : decode cX8_total 37 = .ok (.laload, 1) := by decide +kernel
theorem dX8_total_38 : decode cX8_total 38 = .ok (.ladd, 1) := by decide +kernel
theorem dX8_total_39 : decode cX8_total 39 = .ok (.lstore_n 1, 1) := by decide +kernel
theorem dX8_total_40 : decode cX8_total 40 = .ok (.iinc 3 1, 3) := by decide +kernel
theorem dX8_total_43 : decode cX8_total 43 = .ok (.goto (-20), 3) := by decide +kernel
theorem dX8_total_46 : decode cX8_total 46 = .ok (.lload_n 1, 1) := by decide +kernel
theorem dX8_total_47 : decode cX8_total 47 = .ok (.lreturn, 1) := by decide +kernel
def lb_X8_total_23 (K : Option Nat → Int64 → Int32 → ym_H → Option ((Int64) × ym_H)) (N : Nat) (w0 : Option Nat) (w1 : Int64) (w3 : Int32) (h : ym_H) : Option ((Int64) × ym_H) :=
  Option.bind (ym_gI h w0 8 0) fun v25 =>
  if v25 ≤ w3 then
    some (w1, h)
  else
    Option.bind (ym_gR h w0 8 3) fun v33 =>
    Option.bind (ym_ldL h v33 w3) fun v37 =>
    K w0 (w1 + v37) (w3 + 1) h
set_option maxRecDepth 20000 in
set_option maxHeartbeats 4000000 in
theorem ol_X8_total_23 {D : ym_D} {b0 : Nat} {K : Option Nat → Int64 → Int32 → ym_H → Option ((Int64) × ym_H)} {N : Nat} {w0 : Option Nat} {w1 : Int64} {w3 : Int32} {h h1 : ym_H} {x : (Int64)} (hKl : ∀ (u0 : Option Nat) (u1 : Int64) (u3 : Int32) (h h1 : ym_H) (x : (Int64)), K u0 u1 u3 h = some (x, h1) → ∀ {r0 : Option Value} {h' : ym_H}, ym_Y D b0 g_X8_total 1 46 [(1, .long x)] [] h1 r0 h' → ym_Y D b0 g_X8_total 1 23 [(0, va_rf u0), (1, .long u1), (3, .int u3)] [] h r0 h') (hf : lb_X8_total_23 K N w0 w1 w3 h = some (x, h1)) {r0 : Option Value} {h' : ym_H} (k : ym_Y D b0 g_X8_total 1 46 [(1, .long x)] [] h1 r0 h') : ym_Y D b0 g_X8_total 1 23 [(0, va_rf w0), (1, .long w1), (3, .int w3)] [] h r0 h' := by
  unfold lb_X8_total_23 at hf
  refine ym_iload_n (pc := 23) 2 dX8_total_23 rfl rfl ?_
  refine ym_aload_n (pc := 24) 0 dX8_total_24 rfl rfl ?_
  obtain ⟨v25, e25, hf⟩ := Option.bind_eq_some_iff.mp hf
  refine ym_get (pc := 25) dX8_total_25 rfl (by decide) iX8 (k := 0) (by decide) wd_845 (ym_gI_v e25) ?_
  by_cases c28 : v25 ≤ w3
  · rw [if_pos c28] at hf
    refine ym_icmp_ge_y (pc := 28) (tgt := 46) dX8_total_28 (by decide) c28 ?_
    cases hf
    exact ym_sub [1] rfl k
  · rw [if_neg c28] at hf
    refine ym_icmp_ge_n (pc := 28) (tgt := 46) dX8_total_28 (by decide) c28 ?_
    refine ym_lload_n (pc := 31) 1 dX8_total_31 rfl rfl ?_
    refine ym_aload_n (pc := 32) 0 dX8_total_32 rfl rfl ?_
    obtain ⟨v33, e33, hf⟩ := Option.bind_eq_some_iff.mp hf
    refine ym_get (pc := 33) dX8_total_33 rfl (by decide) iX8 (k := 3) (by decide) wd_848 (ym_gR_v e33) ?_
    refine ym_iload_n (pc := 36) 2 dX8_total_36 rfl rfl ?_
    obtain ⟨v37, e37, hf⟩ := Option.bind_eq_some_iff.mp hf
    refine ym_lald (pc := 37) dX8_total_37 rfl (ym_ldL_v e37) ?_
    refine ym_ladd (pc := 38) dX8_total_38 ?_
    refine ym_lstore_n (pc := 39) (lv' := [(1, .long (w1 + v37)), (0, va_rf w0), (3, .int w3)]) dX8_total_39 rfl (by decide) ⟨ym_c1 w0, trivial, trivial, trivial⟩ rfl ?_
    refine ym_iinc (pc := 40) (lv' := [(3, .int (w3 + 1)), (1, .long (w1 + v37)), (0, va_rf w0)]) (v := (w3 + 1)) 2 dX8_total_40 rfl (by rw [show Int32.ofInt 1 = 1 by decide]) (by decide) ⟨trivial, trivial, trivial, trivial⟩ rfl ?_
    refine ym_goto (pc := 43) (tgt := 23) dX8_total_43 (by decide) ?_
    exact ym_sub [2, 1, 0] rfl (hKl _ _ _ _ _ _ hf k)
def lp_X8_total_23 (N : Nat) : Nat → Option Nat → Int64 → Int32 → ym_H → Option ((Int64) × ym_H)
  | 0, _, _, _, _ => none
  | n + 1, w0, w1, w3, h => lb_X8_total_23 (lp_X8_total_23 N n) N w0 w1 w3 h
set_option maxRecDepth 20000 in
set_option maxHeartbeats 4000000 in
theorem ok_lp_X8_total_23 {D : ym_D} {b0 : Nat} {N : Nat}  : ∀ (n : Nat) (w0 : Option Nat) (w1 : Int64) (w3 : Int32) (h h1 : ym_H) (x : (Int64)), lp_X8_total_23 N n w0 w1 w3 h = some (x, h1) → ∀ {r0 : Option Value} {h' : ym_H}, ym_Y D b0 g_X8_total 1 46 [(1, .long x)] [] h1 r0 h' → ym_Y D b0 g_X8_total 1 23 [(0, va_rf w0), (1, .long w1), (3, .int w3)] [] h r0 h' := by
  intro n
  induction n with
  | zero =>
    intro w0 w1 w3 h h1 x hf
    cases hf
  | succ n ih =>
    intro w0 w1 w3 h h1 x hf r0 h' k
    exact ol_X8_total_23 (fun w0 w1 w3 h h1 x z r0 h' k => ih w0 w1 w3 h h1 x z k) hf k
def fn_X8_total (N : Nat) (a0 : Option Nat) (h : ym_H) : Option (Int64 × ym_H) :=
  Option.bind (ym_gR h a0 8 40) fun v1 =>
  Option.bind (ym_ldL h v1 0) fun v5 =>
  Option.bind (ym_gR h a0 8 40) fun v7 =>
  Option.bind (ym_ldL h v7 1) fun v11 =>
  Option.bind (ym_gR h a0 8 40) fun v14 =>
  Option.bind (ym_ldL h v14 2) fun v18 =>
  Option.bind (lp_X8_total_23 N N a0 ((v5 + v11) + v18) 0 h) fun q23 =>
  some (q23.1, q23.2)
set_option maxRecDepth 20000 in
set_option maxHeartbeats 4000000 in
theorem ok_X8_total {D : ym_D} {b0 : Nat} {N : Nat} {a0 : Option Nat} {h h' : ym_H} {r : Int64} (hf : fn_X8_total N a0 h = some (r, h')) : ym_M D b0 g_X8_total 1 [va_rf a0] h (some (.long r)) h' := by
  unfold fn_X8_total at hf
  refine ym_meth (lv := [(0, va_rf a0)]) (by decide) (by simp [lg_sl, ym_c1, ym_cI, ym_cL, g_X8_total]) (by simp [lv_args, ym_c1, ym_cI, ym_cL]) ?_
  refine ym_aload_n (pc := 0) 0 dX8_total_0 rfl rfl ?_
  obtain ⟨v1, e1, hf⟩ := Option.bind_eq_some_iff.mp hf
  refine ym_get (pc := 1) dX8_total_1 rfl (by decide) iX8 (k := 40) (by decide) wd_885 (ym_gR_v e1) ?_
  refine ym_iconst (pc := 4) (v := 0) dX8_total_4 (by decide) ?_
  obtain ⟨v5, e5, hf⟩ := Option.bind_eq_some_iff.mp hf
  refine ym_lald (pc := 5) dX8_total_5 rfl (ym_ldL_v e5) ?_
  refine ym_aload_n (pc := 6) 0 dX8_total_6 rfl rfl ?_
  obtain ⟨v7, e7, hf⟩ := Option.bind_eq_some_iff.mp hf
  refine ym_get (pc := 7) dX8_total_7 rfl (by decide) iX8 (k := 40) (by decide) wd_885 (ym_gR_v e7) ?_
  refine ym_iconst (pc := 10) (v := 1) dX8_total_10 (by decide) ?_
  obtain ⟨v11, e11, hf⟩ := Option.bind_eq_some_iff.mp hf
  refine ym_lald (pc := 11) dX8_total_11 rfl (ym_ldL_v e11) ?_
  refine ym_ladd (pc := 12) dX8_total_12 ?_
  refine ym_aload_n (pc := 13) 0 dX8_total_13 rfl rfl ?_
  obtain ⟨v14, e14, hf⟩ := Option.bind_eq_some_iff.mp hf
  refine ym_get (pc := 14) dX8_total_14 rfl (by decide) iX8 (k := 40) (by decide) wd_885 (ym_gR_v e14) ?_
  refine ym_iconst (pc := 17) (v := 2) dX8_total_17 (by decide) ?_
  obtain ⟨v18, e18, hf⟩ := Option.bind_eq_some_iff.mp hf
  refine ym_lald (pc := 18) dX8_total_18 rfl (ym_ldL_v e18) ?_
  refine ym_ladd (pc := 19) dX8_total_19 ?_
  refine ym_lstore_n (pc := 20) (lv' := [(1, .long ((v5 + v11) + v18)), (0, va_rf a0)]) dX8_total_20 rfl (by decide) ⟨ym_c1 a0, trivial⟩ rfl ?_
  refine ym_iconst (pc := 21) (v := 0) dX8_total_21 (by decide) ?_
  refine ym_istore_n (pc := 22) (lv' := [(3, .int 0), (1, .long ((v5 + v11) + v18)), (0, va_rf a0)]) dX8_total_22 rfl (by decide) ⟨trivial, trivial, trivial⟩ rfl ?_
  obtain ⟨q23, e23, hf⟩ := Option.bind_eq_some_iff.mp hf
  refine ym_sub (lv' := [(0, va_rf a0), (1, .long ((v5 + v11) + v18)), (3, .int 0)]) [2, 1, 0] rfl ?_
  refine ok_lp_X8_total_23 N _ _ _ _ _ _ e23 ?_
  refine ym_lload_n (pc := 46) 0 dX8_total_46 rfl rfl ?_
  cases hf
  exact ym_lret (pc := 47) dX8_total_47 rfl
theorem dX8_trace_0 : decode cX8_trace 0 = .ok (.iload_n 1, 1) := by decide +kernel
theorem dX8_trace_1 : decode cX8_trace 1 = .ok (.ifCond .lt 11, 3) := by decide +kernel
theorem dX8_trace_4 : decode cX8_trace 4 = .ok (.iload_n 1, 1) := by decide +kernel
theorem dX8_trace_5 : decode cX8_trace 5 = .ok (.aload_n 0, 1) := by decide +kernel
theorem dX8_trace_6 : decode cX8_trace 6 = .ok (.getfield 151, 3) := by decide +kernel
theorem dX8_trace_9 : decode cX8_trace 9 = .ok (.if_icmp .lt 7, 3) := by decide +kernel
theorem dX8_trace_12 : decode cX8_trace 12 = .ok (.iconst 0, 1) := by decide +kernel
theorem dX8_trace_13 : decode cX8_trace 13 = .ok (.goto 9, 3) := by decide +kernel
theorem dX8_trace_16 : decode cX8_trace 16 = .ok (.aload_n 0, 1) := by decide +kernel
theorem dX8_trace_17 : decode cX8_trace 17 = .ok (.getfield 144, 3) := by decide +kernel
theorem dX8_trace_20 : decode cX8_trace 20 = .ok (.iload_n 1, 1) := by decide +kernel
theorem dX8_trace_21 : decode cX8_trace 21 = .ok (.iaload, 1) := by decide +kernel
theorem dX8_trace_22 : decode cX8_trace 22 = .ok (.ireturn, 1) := by decide +kernel
def fn_X8_trace (N : Nat) (a0 : Option Nat) (a1 : Int32) (h : ym_H) : Option (Int32 × ym_H) :=
  if a1 < 0 then
    some (0, h)
  else
    Option.bind (ym_gI h a0 8 55) fun v6 =>
    if a1 < v6 then
      Option.bind (ym_gR h a0 8 54) fun v17 =>
      Option.bind (ym_ldI h v17 a1) fun v21 =>
      some (v21, h)
    else
      some (0, h)
set_option maxRecDepth 20000 in
set_option maxHeartbeats 4000000 in
theorem ok_X8_trace {D : ym_D} {b0 : Nat} {N : Nat} {a0 : Option Nat} {a1 : Int32} {h h' : ym_H} {r : Int32} (hf : fn_X8_trace N a0 a1 h = some (r, h')) : ym_M D b0 g_X8_trace 1 [va_rf a0, .int a1] h (some (.int r)) h' := by
  unfold fn_X8_trace at hf
  refine ym_meth (lv := [(0, va_rf a0), (1, .int a1)]) (by decide) (by simp [lg_sl, ym_c1, ym_cI, ym_cL, g_X8_trace]) (by simp [lv_args, ym_c1, ym_cI, ym_cL]) ?_
  refine ym_iload_n (pc := 0) 1 dX8_trace_0 rfl rfl ?_
  by_cases c1 : a1 < 0
  · rw [if_pos c1] at hf
    refine ym_if_lt_y (pc := 1) (tgt := 12) dX8_trace_1 (by decide) c1 ?_
    refine ym_iconst (pc := 12) (v := 0) dX8_trace_12 (by decide) ?_
    refine ym_goto (pc := 13) (tgt := 22) dX8_trace_13 (by decide) ?_
    cases hf
    exact ym_iret (pc := 22) dX8_trace_22 rfl
  · rw [if_neg c1] at hf
    refine ym_if_lt_n (pc := 1) (tgt := 12) dX8_trace_1 (by decide) c1 ?_
    refine ym_iload_n (pc := 4) 1 dX8_trace_4 rfl rfl ?_
    refine ym_aload_n (pc := 5) 0 dX8_trace_5 rfl rfl ?_
    obtain ⟨v6, e6, hf⟩ := Option.bind_eq_some_iff.mp hf
    refine ym_get (pc := 6) dX8_trace_6 rfl (by decide) iX8 (k := 55) (by decide) wd_900 (ym_gI_v e6) ?_
    by_cases c9 : a1 < v6
    · rw [if_pos c9] at hf
      refine ym_icmp_lt_y (pc := 9) (tgt := 16) dX8_trace_9 (by decide) c9 ?_
      refine ym_aload_n (pc := 16) 0 dX8_trace_16 rfl rfl ?_
      obtain ⟨v17, e17, hf⟩ := Option.bind_eq_some_iff.mp hf
      refine ym_get (pc := 17) dX8_trace_17 rfl (by decide) iX8 (k := 54) (by decide) wd_899 (ym_gR_v e17) ?_
      refine ym_iload_n (pc := 20) 1 dX8_trace_20 rfl rfl ?_
      obtain ⟨v21, e21, hf⟩ := Option.bind_eq_some_iff.mp hf
      refine ym_iald (pc := 21) dX8_trace_21 rfl (ym_ldI_v e21) ?_
      cases hf
      exact ym_iret (pc := 22) dX8_trace_22 rfl
    · rw [if_neg c9] at hf
      refine ym_icmp_lt_n (pc := 9) (tgt := 16) dX8_trace_9 (by decide) c9 ?_
      refine ym_iconst (pc := 12) (v := 0) dX8_trace_12 (by decide) ?_
      refine ym_goto (pc := 13) (tgt := 22) dX8_trace_13 (by decide) ?_
      cases hf
      exact ym_iret (pc := 22) dX8_trace_22 rfl
theorem dX8_tries_0 : decode cX8_tries 0 = .ok (.aload_n 0, 1) := by decide +kernel
theorem dX8_tries_1 : decode cX8_tries 1 = .ok (.getfield 147, 3) := by decide +kernel
theorem dX8_tries_4 : decode cX8_tries 4 = .ok (.ireturn, 1) := by decide +kernel
def fn_X8_tries (N : Nat) (a0 : Option Nat) (h : ym_H) : Option (Int32 × ym_H) :=
  Option.bind (ym_gI h a0 8 52) fun v1 =>
  some (v1, h)
set_option maxRecDepth 20000 in
set_option maxHeartbeats 4000000 in
theorem ok_X8_tries {D : ym_D} {b0 : Nat} {N : Nat} {a0 : Option Nat} {h h' : ym_H} {r : Int32} (hf : fn_X8_tries N a0 h = some (r, h')) : ym_M D b0 g_X8_tries 1 [va_rf a0] h (some (.int r)) h' := by
  unfold fn_X8_tries at hf
  refine ym_meth (lv := [(0, va_rf a0)]) (by decide) (by simp [lg_sl, ym_c1, ym_cI, ym_cL, g_X8_tries]) (by simp [lv_args, ym_c1, ym_cI, ym_cL]) ?_
  refine ym_aload_n (pc := 0) 0 dX8_tries_0 rfl rfl ?_
  obtain ⟨v1, e1, hf⟩ := Option.bind_eq_some_iff.mp hf
  refine ym_get (pc := 1) dX8_tries_1 rfl (by decide) iX8 (k := 52) (by decide) wd_897 (ym_gI_v e1) ?_
  cases hf
  exact ym_iret (pc := 4) dX8_tries_4 rfl
theorem dX8_undo_0 : decode cX8_undo 0 = .ok (.aload_n 0, 1) := by decide +kernel
theorem dX8_undo_1 : decode cX8_undo 1 = .ok (.bipush 25, 2) := by decide +kernel
theorem dX8_undo_3 : decode cX8_undo 3 = .ok (.iconst 0, 1) := by decide +kernel
theorem dX8_undo_4 : decode cX8_undo 4 = .ok (.iconst 0, 1) := by decide +kernel
theorem dX8_undo_5 : decode cX8_undo 5 = .ok (.iconst 0, 1) := by decide +kernel
theorem dX8_undo_6 : decode cX8_undo 6 = .ok (.lconst 0, 1) := by decide +kernel
theorem dX8_undo_7 : decode cX8_undo 7 = .ok (.lconst 0, 1) := by decide +kernel
theorem dX8_undo_8 : decode cX8_undo 8 = .ok (.invokevirtual 420, 3) := by decide +kernel
theorem dX8_undo_11 : decode cX8_undo 11 = .ok (.lreturn, 1) := by decide +kernel
theorem sc_X8_undo_X8_act : ym_site g_X8_undo g_X8_act 19 18 6 := ⟨by decide, by decide, wd_1028, wd_83, by decide +kernel⟩
def fn_X8_undo (N : Nat) (a0 : Option Nat) (h : ym_H) : Option (Int64 × ym_H) :=
  Option.bind (ym_ob h a0 8) fun o8 =>
  Option.bind (fn_X8_act N a0 25 0 0 0 0 0 h) fun q8 =>
  some (q8.1, q8.2)
set_option maxRecDepth 20000 in
set_option maxHeartbeats 4000000 in
theorem ok_X8_undo {D : ym_D} {b0 : Nat} {N : Nat} {a0 : Option Nat} {h h' : ym_H} {r : Int64} (hf : fn_X8_undo N a0 h = some (r, h')) : ym_M D b0 g_X8_undo 19 [va_rf a0] h (some (.long r)) h' := by
  unfold fn_X8_undo at hf
  refine ym_meth (lv := [(0, va_rf a0)]) (by decide) (by simp [lg_sl, ym_c1, ym_cI, ym_cL, g_X8_undo]) (by simp [lv_args, ym_c1, ym_cI, ym_cL]) ?_
  refine ym_aload_n (pc := 0) 0 dX8_undo_0 rfl rfl ?_
  refine ym_bipush (pc := 1) (v := 25) dX8_undo_1 (by decide) ?_
  refine ym_iconst (pc := 3) (v := 0) dX8_undo_3 (by decide) ?_
  refine ym_iconst (pc := 4) (v := 0) dX8_undo_4 (by decide) ?_
  refine ym_iconst (pc := 5) (v := 0) dX8_undo_5 (by decide) ?_
  refine ym_lconst (pc := 6) (v := 0) dX8_undo_6 (by decide) ?_
  refine ym_lconst (pc := 7) (v := 0) dX8_undo_7 (by decide) ?_
  obtain ⟨o8, f8, hf⟩ := Option.bind_eq_some_iff.mp hf
  obtain ⟨q8, e8, hf⟩ := Option.bind_eq_some_iff.mp hf
  refine ym_callV (pc := 8) (G2 := g_X8_act) (dep2 := 18) (As := [.int 25, .int 0, .int 0, .int 0, .long 0, .long 0]) (st := []) (stk2 := [.long q8.1]) (r2 := (some (.long q8.1))) (h1 := q8.2) dX8_undo_8 (ok_X8_act e8) (sc_X8_undo_X8_act) wd_1025 wd_1027 wd_21 (ci := 8) (q0 := (RX8, TX8, 58)) rfl (by decide) rfl f8 rfl rfl (ym_st4 (Nat.le_of_ble_eq_true rfl)) rfl ?_
  cases hf
  exact ym_lret (pc := 11) dX8_undo_11 rfl
theorem dX8_why_0 : decode cX8_why 0 = .ok (.aload_n 0, 1) := by decide +kernel
theorem dX8_why_1 : decode cX8_why 1 = .ok (.getfield 161, 3) := by decide +kernel
theorem dX8_why_4 : decode cX8_why 4 = .ok (.ireturn, 1) := by decide +kernel
def fn_X8_why (N : Nat) (a0 : Option Nat) (h : ym_H) : Option (Int32 × ym_H) :=
  Option.bind (ym_gI h a0 8 53) fun v1 =>
  some (v1, h)
set_option maxRecDepth 20000 in
set_option maxHeartbeats 4000000 in
theorem ok_X8_why {D : ym_D} {b0 : Nat} {N : Nat} {a0 : Option Nat} {h h' : ym_H} {r : Int32} (hf : fn_X8_why N a0 h = some (r, h')) : ym_M D b0 g_X8_why 1 [va_rf a0] h (some (.int r)) h' := by
  unfold fn_X8_why at hf
  refine ym_meth (lv := [(0, va_rf a0)]) (by decide) (by simp [lg_sl, ym_c1, ym_cI, ym_cL, g_X8_why]) (by simp [lv_args, ym_c1, ym_cI, ym_cL]) ?_
  refine ym_aload_n (pc := 0) 0 dX8_why_0 rfl rfl ?_
  obtain ⟨v1, e1, hf⟩ := Option.bind_eq_some_iff.mp hf
  refine ym_get (pc := 1) dX8_why_1 rfl (by decide) iX8 (k := 53) (by decide) wd_898 (ym_gI_v e1) ?_
  cases hf
  exact ym_iret (pc := 4) dX8_why_4 rfl
