theorem dX1_askFor_0 : decode cX1_askFor 0 = .ok (.aload_n 1, 1) := by decide +kernel
theorem dX1_askFor_1 : decode cX1_askFor 1 = .ok (.getfield 23, 3) := by decide +kernel
theorem dX1_askFor_4 : decode cX1_askFor 4 = .ok (.iconst 5, 1) := by decide +kernel
theorem dX1_askFor_5 : decode cX1_askFor 5 = .ok (.if_icmp .ne 17, 3) := by decide +kernel
theorem dX1_askFor_8 : decode cX1_askFor 8 = .ok (.aload_n 0, 1) := by decide +kernel
theorem dX1_askFor_9 : decode cX1_askFor 9 = .ok (.iconst 3, 1) := by decide +kernel
theorem dX1_askFor_10 : decode cX1_askFor 10 = .ok (.invokevirtual 28, 3) := by decide +kernel
theorem dX1_askFor_13 : decode cX1_askFor 13 = .ok (.aload_n 1, 1) := by decide +kernel
theorem dX1_askFor_14 : decode cX1_askFor 14 = .ok (.getfield 32, 3) := by decide +kernel
theorem dX1_askFor_17 : decode cX1_askFor 17 = .ok (.iconst 3, 1) := by decide +kernel
theorem dX1_askFor_18 : decode cX1_askFor 18 = .ok (.invokevirtual 36, 3) := by decide +kernel
theorem dX1_askFor_21 : decode cX1_askFor 21 = .ok (.lreturn, 1) := by decide +kernel
theorem dX1_askFor_22 : decode cX1_askFor 22 = .ok (.aload_n 1, 1) := by decide +kernel
theorem dX1_askFor_23 : decode cX1_askFor 23 = .ok (.getfield 23, 3) := by decide +kernel
theorem dX1_askFor_26 : decode cX1_askFor 26 = .ok (.iconst 4, 1) := by decide +kernel
theorem dX1_askFor_27 : decode cX1_askFor 27 = .ok (.if_icmp .ne 8, 3) := by decide +kernel
theorem dX1_askFor_30 : decode cX1_askFor 30 = .ok (.aload_n 0, 1) := by decide +kernel
theorem dX1_askFor_31 : decode cX1_askFor 31 = .ok (.iconst 2, 1) := by decide +kernel
theorem dX1_askFor_32 : decode cX1_askFor 32 = .ok (.invokevirtual 28, 3) := by decide +kernel
theorem dX1_askFor_35 : decode cX1_askFor 35 = .ok (.aload_n 0, 1) := by decide +kernel
theorem dX1_askFor_36 : decode cX1_askFor 36 = .ok (.iconst 1, 1) := by decide +kernel
theorem dX1_askFor_37 : decode cX1_askFor 37 = .ok (.invokevirtual 28, 3) := by decide +kernel
theorem dX1_askFor_40 : decode cX1_askFor 40 = .ok (.aload_n 1, 1) := by decide +kernel
theorem dX1_askFor_41 : decode cX1_askFor 41 = .ok (.getfield 23, 3) := by decide +kernel
theorem dX1_askFor_44 : decode cX1_askFor 44 = .ok (.iconst 4, 1) := by decide +kernel
theorem dX1_askFor_45 : decode cX1_askFor 45 = .ok (.if_icmp .eq 11, 3) := by decide +kernel
theorem dX1_askFor_48 : decode cX1_askFor 48 = .ok (.aload_n 1, 1) := by decide +kernel
theorem dX1_askFor_49 : decode cX1_askFor 49 = .ok (.invokevirtual 42, 3) := by decide +kernel
theorem dX1_askFor_52 : decode cX1_askFor 52 = .ok (.iconst (-1), 1) := by decide +kernel
theorem dX1_askFor_53 : decode cX1_askFor 53 = .ok (.if_icmp .ne 7, 3) := by decide +kernel
theorem dX1_askFor_56 : decode cX1_askFor 56 = .ok (.iconst 1, 1) := by decide +kernel
theorem dX1_askFor_57 : decode cX1_askFor 57 = .ok (.goto 4, 3) := by decide +kernel
theorem dX1_askFor_60 : decode cX1_askFor 60 = .ok (.iconst 0, 1) := by decide +kernel
theorem dX1_askFor_61 : decode cX1_askFor 61 = .ok (.istore_n 2, 1) := by decide +kernel
theorem dX1_askFor_62 : decode cX1_askFor 62 = .ok (.iload_n 2, 1) := by decide +kernel
theorem dX1_askFor_63 : decode cX1_askFor 63 = .ok (.ifCond .eq 10, 3) := by decide +kernel
theorem dX1_askFor_66 : decode cX1_askFor 66 = .ok (.aload_n 1, 1) := by decide +kernel
theorem dX1_askFor_67 : decode cX1_askFor 67 = .ok (.invokevirtual 46, 3) := by decide +kernel
theorem dX1_askFor_70 : decode cX1_askFor 70 = .ok (.goto 14, 3) := by decide +kernel
theorem dX1_askFor_73 : decode cX1_askFor 73 = .ok (.aload_n 0, 1) := by decide +kernel
theorem dX1_askFor_74 : decode cX1_askFor 74 = .ok (.getfield 15, 3) := by decide +kernel
theorem dX1_askFor_77 : decode cX1_askFor 77 = .ok (.aload_n 1, 1) := by decide +kernel
theorem dX1_askFor_78 : decode cX1_askFor 78 = .ok (.invokevirtual 50, 3) := by decide +kernel
theorem dX1_askFor_81 : decode cX1_askFor 81 = .ok (.invokevirtual 53, 3) := by decide +kernel
theorem dX1_askFor_84 : decode cX1_askFor 84 = .ok (.lreturn, 1) := by decide +kernel
theorem sc_X1_askFor_X1_run : ym_site g_X1_askFor g_X1_run 4 1 1 := ⟨by decide, by decide, wd_562, wd_82, by decide +kernel⟩
theorem sc_X1_askFor_X2_get : ym_site g_X1_askFor g_X2_get 4 1 1 := ⟨by decide, by decide, wd_256, wd_78, by decide +kernel⟩
theorem sc_X1_askFor_X4_standingSum : ym_site g_X1_askFor g_X4_standingSum 4 3 0 := ⟨by decide, by decide, wd_520, wd_87, by decide +kernel⟩
theorem sc_X1_askFor_X6_after : ym_site g_X1_askFor g_X6_after 4 3 1 := ⟨by decide, by decide, wd_501, wd_80, by decide +kernel⟩
theorem sc_X1_askFor_X4_startNow : ym_site g_X1_askFor g_X4_startNow 4 2 0 := ⟨by decide, by decide, wd_459, wd_87, by decide +kernel⟩
def bl_X1_askFor_61 (N : Nat) (w0 : Option Nat) (w1 : Option Nat) (s0 : Int32) (h : ym_H) : Option (Int64 × ym_H) :=
  if s0 = 0 then
    Option.bind (ym_gR h w0 1 0) fun v74 =>
    Option.bind (ym_ob h w1 4) fun o78 =>
    Option.bind (fn_X4_standingSum N w1 h) fun q78 =>
    Option.bind (ym_ob q78.2 v74 6) fun o81 =>
    Option.bind (fn_X6_after N v74 q78.1 q78.2) fun q81 =>
    some (q81.1, q81.2)
  else
    Option.bind (ym_ob h w1 4) fun o67 =>
    Option.bind (fn_X4_startNow N w1 h) fun q67 =>
    some (q67.1, q67.2)
set_option maxRecDepth 20000 in
set_option maxHeartbeats 4000000 in
theorem ob_X1_askFor_61 {D : ym_D} {b0 : Nat} {N : Nat} {w0 : Option Nat} {w1 : Option Nat} {s0 : Int32} {h h' : ym_H} {r : Int64} (hf : bl_X1_askFor_61 N w0 w1 s0 h = some (r, h')) : ym_Y D b0 g_X1_askFor 4 61 [(0, va_rf w0), (1, va_rf w1)] [.int s0] h (some (.long r)) h' := by
  unfold bl_X1_askFor_61 at hf
  refine ym_istore_n (pc := 61) (lv' := [(2, .int s0), (0, va_rf w0), (1, va_rf w1)]) dX1_askFor_61 rfl (by decide) ⟨trivial, ym_c1 w1, trivial⟩ rfl ?_
  refine ym_iload_n (pc := 62) 0 dX1_askFor_62 rfl rfl ?_
  by_cases c63 : s0 = 0
  · rw [if_pos c63] at hf
    refine ym_if_eq_y (pc := 63) (tgt := 73) dX1_askFor_63 (by decide) c63 ?_
    refine ym_aload_n (pc := 73) 1 dX1_askFor_73 rfl rfl ?_
    obtain ⟨v74, e74, hf⟩ := Option.bind_eq_some_iff.mp hf
    refine ym_get (pc := 74) dX1_askFor_74 rfl (by decide) iX1 (k := 0) (by decide) wd_172 (ym_gR_v e74) ?_
    refine ym_aload_n (pc := 77) 2 dX1_askFor_77 rfl rfl ?_
    obtain ⟨o78, f78, hf⟩ := Option.bind_eq_some_iff.mp hf
    obtain ⟨q78, e78, hf⟩ := Option.bind_eq_some_iff.mp hf
    refine ym_callV (pc := 78) (G2 := g_X4_standingSum) (dep2 := 3) (As := []) (st := [va_rf v74]) (stk2 := [.long q78.1, va_rf v74]) (r2 := (some (.long q78.1))) (h1 := q78.2) dX1_askFor_78 (ok_X4_standingSum e78) (sc_X1_askFor_X4_standingSum) wd_566 wd_518 wd_519 (ci := 4) (q0 := (RX4, TX4, 6)) rfl (by decide) rfl f78 rfl rfl (ym_st4 (Nat.le_of_ble_eq_true rfl)) rfl ?_
    obtain ⟨o81, f81, hf⟩ := Option.bind_eq_some_iff.mp hf
    obtain ⟨q81, e81, hf⟩ := Option.bind_eq_some_iff.mp hf
    refine ym_callV (pc := 81) (G2 := g_X6_after) (dep2 := 3) (As := [.long q78.1]) (st := []) (stk2 := [.long q81.1]) (r2 := (some (.long q81.1))) (h1 := q81.2) dX1_askFor_81 (ok_X6_after e81) (sc_X1_askFor_X6_after) wd_567 wd_499 wd_500 (ci := 6) (q0 := (RX6, TX6, 1)) rfl (by decide) rfl f81 rfl rfl (ym_st4 (Nat.le_of_ble_eq_true rfl)) rfl ?_
    cases hf
    exact ym_lret (pc := 84) dX1_askFor_84 rfl
  · rw [if_neg c63] at hf
    refine ym_if_eq_n (pc := 63) (tgt := 73) dX1_askFor_63 (by decide) c63 ?_
    refine ym_aload_n (pc := 66) 2 dX1_askFor_66 rfl rfl ?_
    obtain ⟨o67, f67, hf⟩ := Option.bind_eq_some_iff.mp hf
    obtain ⟨q67, e67, hf⟩ := Option.bind_eq_some_iff.mp hf
    refine ym_callV (pc := 67) (G2 := g_X4_startNow) (dep2 := 2) (As := []) (st := []) (stk2 := [.long q67.1]) (r2 := (some (.long q67.1))) (h1 := q67.2) dX1_askFor_67 (ok_X4_startNow e67) (sc_X1_askFor_X4_startNow) wd_565 wd_457 wd_458 (ci := 4) (q0 := (RX4, TX4, 6)) rfl (by decide) rfl f67 rfl rfl (ym_st4 (Nat.le_of_ble_eq_true rfl)) rfl ?_
    refine ym_goto (pc := 70) (tgt := 84) dX1_askFor_70 (by decide) ?_
    cases hf
    exact ym_lret (pc := 84) dX1_askFor_84 rfl
def bl_X1_askFor_56 (N : Nat) (w0 : Option Nat) (w1 : Option Nat) (h : ym_H) : Option (Int64 × ym_H) :=
  bl_X1_askFor_61 N w0 w1 1 h
set_option maxRecDepth 20000 in
set_option maxHeartbeats 4000000 in
theorem ob_X1_askFor_56 {D : ym_D} {b0 : Nat} {N : Nat} {w0 : Option Nat} {w1 : Option Nat} {h h' : ym_H} {r : Int64} (hf : bl_X1_askFor_56 N w0 w1 h = some (r, h')) : ym_Y D b0 g_X1_askFor 4 56 [(0, va_rf w0), (1, va_rf w1)] [] h (some (.long r)) h' := by
  unfold bl_X1_askFor_56 at hf
  refine ym_iconst (pc := 56) (v := 1) dX1_askFor_56 (by decide) ?_
  refine ym_goto (pc := 57) (tgt := 61) dX1_askFor_57 (by decide) ?_
  exact ym_sub [0, 1] rfl (ob_X1_askFor_61 hf)
theorem sc_X1_askFor_X4_standingBidder : ym_site g_X1_askFor g_X4_standingBidder 4 3 0 := ⟨by decide, by decide, wd_512, wd_87, by decide +kernel⟩
def bl_X1_askFor_35 (N : Nat) (w0 : Option Nat) (w1 : Option Nat) (h : ym_H) : Option (Int64 × ym_H) :=
  Option.bind (ym_ob h w0 1) fun o37 =>
  Option.bind (fn_X1_run N w0 1 h) fun q37 =>
  Option.bind (ym_gI q37.2 w1 4 0) fun v41 =>
  if v41 = 4 then
    bl_X1_askFor_56 N w0 w1 q37.2
  else
    Option.bind (ym_ob q37.2 w1 4) fun o49 =>
    Option.bind (fn_X4_standingBidder N w1 q37.2) fun q49 =>
    if q49.1 = (-1) then
      bl_X1_askFor_56 N w0 w1 q49.2
    else
      bl_X1_askFor_61 N w0 w1 0 q49.2
set_option maxRecDepth 20000 in
set_option maxHeartbeats 4000000 in
theorem ob_X1_askFor_35 {D : ym_D} {b0 : Nat} {N : Nat} {w0 : Option Nat} {w1 : Option Nat} {h h' : ym_H} {r : Int64} (hf : bl_X1_askFor_35 N w0 w1 h = some (r, h')) : ym_Y D b0 g_X1_askFor 4 35 [(0, va_rf w0), (1, va_rf w1)] [] h (some (.long r)) h' := by
  unfold bl_X1_askFor_35 at hf
  refine ym_aload_n (pc := 35) 0 dX1_askFor_35 rfl rfl ?_
  refine ym_iconst (pc := 36) (v := 1) dX1_askFor_36 (by decide) ?_
  obtain ⟨o37, f37, hf⟩ := Option.bind_eq_some_iff.mp hf
  obtain ⟨q37, e37, hf⟩ := Option.bind_eq_some_iff.mp hf
  refine ym_callV (pc := 37) (G2 := g_X1_run) (dep2 := 1) (As := [.int 1]) (st := []) (stk2 := []) (r2 := none) (h1 := q37.2) dX1_askFor_37 (ok_X1_run e37) (sc_X1_askFor_X1_run) wd_559 wd_561 wd_10 (ci := 1) (q0 := (RX1, TX1, 3)) rfl (by decide) rfl f37 rfl rfl (ym_st4 (Nat.le_of_ble_eq_true rfl)) rfl ?_
  refine ym_aload_n (pc := 40) 1 dX1_askFor_40 rfl rfl ?_
  obtain ⟨v41, e41, hf⟩ := Option.bind_eq_some_iff.mp hf
  refine ym_getN (pc := 41) dX1_askFor_41 rfl (by decide) iX4 (k := 0) (by decide) wd_339 (ym_gI_v e41) ?_
  refine ym_iconst (pc := 44) (v := 4) dX1_askFor_44 (by decide) ?_
  by_cases c45 : v41 = 4
  · rw [if_pos c45] at hf
    refine ym_icmp_eq_y (pc := 45) (tgt := 56) dX1_askFor_45 (by decide) c45 ?_
    exact ym_sub [0, 1] rfl (ob_X1_askFor_56 hf)
  · rw [if_neg c45] at hf
    refine ym_icmp_eq_n (pc := 45) (tgt := 56) dX1_askFor_45 (by decide) c45 ?_
    refine ym_aload_n (pc := 48) 1 dX1_askFor_48 rfl rfl ?_
    obtain ⟨o49, f49, hf⟩ := Option.bind_eq_some_iff.mp hf
    obtain ⟨q49, e49, hf⟩ := Option.bind_eq_some_iff.mp hf
    refine ym_callV (pc := 49) (G2 := g_X4_standingBidder) (dep2 := 3) (As := []) (st := []) (stk2 := [.int q49.1]) (r2 := (some (.int q49.1))) (h1 := q49.2) dX1_askFor_49 (ok_X4_standingBidder e49) (sc_X1_askFor_X4_standingBidder) wd_564 wd_510 wd_511 (ci := 4) (q0 := (RX4, TX4, 6)) rfl (by decide) rfl f49 rfl rfl (ym_st4 (Nat.le_of_ble_eq_true rfl)) rfl ?_
    refine ym_iconst (pc := 52) (v := (-1)) dX1_askFor_52 (by decide) ?_
    by_cases c53 : q49.1 = (-1)
    · rw [if_pos c53] at hf
      refine ym_icmp_ne_y (pc := 53) (tgt := 60) dX1_askFor_53 (by decide) c53 ?_
      exact ym_sub [0, 1] rfl (ob_X1_askFor_56 hf)
    · rw [if_neg c53] at hf
      refine ym_icmp_ne_n (pc := 53) (tgt := 60) dX1_askFor_53 (by decide) c53 ?_
      refine ym_iconst (pc := 60) (v := 0) dX1_askFor_60 (by decide) ?_
      exact ym_sub [0, 1] rfl (ob_X1_askFor_61 hf)
def fn_X1_askFor (N : Nat) (a0 : Option Nat) (a1 : Option Nat) (h : ym_H) : Option (Int64 × ym_H) :=
  Option.bind (ym_gI h a1 4 0) fun v1 =>
  if v1 = 5 then
    Option.bind (ym_ob h a0 1) fun o10 =>
    Option.bind (fn_X1_run N a0 3 h) fun q10 =>
    Option.bind (ym_gR q10.2 a1 4 2) fun v14 =>
    Option.bind (ym_ob q10.2 v14 2) fun o18 =>
    Option.bind (fn_X2_get N v14 3 q10.2) fun q18 =>
    some (q18.1, q18.2)
  else
    Option.bind (ym_gI h a1 4 0) fun v23 =>
    if v23 = 4 then
      Option.bind (ym_ob h a0 1) fun o32 =>
      Option.bind (fn_X1_run N a0 2 h) fun q32 =>
      bl_X1_askFor_35 N a0 a1 q32.2
    else
      bl_X1_askFor_35 N a0 a1 h
set_option maxRecDepth 20000 in
set_option maxHeartbeats 4000000 in
theorem ok_X1_askFor {D : ym_D} {b0 : Nat} {N : Nat} {a0 : Option Nat} {a1 : Option Nat} {h h' : ym_H} {r : Int64} (hf : fn_X1_askFor N a0 a1 h = some (r, h')) : ym_M D b0 g_X1_askFor 4 [va_rf a0, va_rf a1] h (some (.long r)) h' := by
  unfold fn_X1_askFor at hf
  refine ym_meth (lv := [(0, va_rf a0), (1, va_rf a1)]) (by decide) (by simp [lg_sl, ym_c1, ym_cI, ym_cL, g_X1_askFor]) (by simp [lv_args, ym_c1, ym_cI, ym_cL]) ?_
  refine ym_aload_n (pc := 0) 1 dX1_askFor_0 rfl rfl ?_
  obtain ⟨v1, e1, hf⟩ := Option.bind_eq_some_iff.mp hf
  refine ym_getN (pc := 1) dX1_askFor_1 rfl (by decide) iX4 (k := 0) (by decide) wd_339 (ym_gI_v e1) ?_
  refine ym_iconst (pc := 4) (v := 5) dX1_askFor_4 (by decide) ?_
  by_cases c5 : v1 = 5
  · rw [if_pos c5] at hf
    refine ym_icmp_ne_y (pc := 5) (tgt := 22) dX1_askFor_5 (by decide) c5 ?_
    refine ym_aload_n (pc := 8) 0 dX1_askFor_8 rfl rfl ?_
    refine ym_iconst (pc := 9) (v := 3) dX1_askFor_9 (by decide) ?_
    obtain ⟨o10, f10, hf⟩ := Option.bind_eq_some_iff.mp hf
    obtain ⟨q10, e10, hf⟩ := Option.bind_eq_some_iff.mp hf
    refine ym_callV (pc := 10) (G2 := g_X1_run) (dep2 := 1) (As := [.int 3]) (st := []) (stk2 := []) (r2 := none) (h1 := q10.2) dX1_askFor_10 (ok_X1_run e10) (sc_X1_askFor_X1_run) wd_559 wd_561 wd_10 (ci := 1) (q0 := (RX1, TX1, 3)) rfl (by decide) rfl f10 rfl rfl (ym_st4 (Nat.le_of_ble_eq_true rfl)) rfl ?_
    refine ym_aload_n (pc := 13) 1 dX1_askFor_13 rfl rfl ?_
    obtain ⟨v14, e14, hf⟩ := Option.bind_eq_some_iff.mp hf
    refine ym_getN (pc := 14) dX1_askFor_14 rfl (by decide) iX4 (k := 2) (by decide) wd_345 (ym_gR_v e14) ?_
    refine ym_iconst (pc := 17) (v := 3) dX1_askFor_17 (by decide) ?_
    obtain ⟨o18, f18, hf⟩ := Option.bind_eq_some_iff.mp hf
    obtain ⟨q18, e18, hf⟩ := Option.bind_eq_some_iff.mp hf
    refine ym_callV (pc := 18) (G2 := g_X2_get) (dep2 := 1) (As := [.int 3]) (st := []) (stk2 := [.long q18.1]) (r2 := (some (.long q18.1))) (h1 := q18.2) dX1_askFor_18 (ok_X2_get e18) (sc_X1_askFor_X2_get) wd_563 wd_254 wd_255 (ci := 2) (q0 := (RX2, TX2, 2)) rfl (by decide) rfl f18 rfl rfl (ym_st4 (Nat.le_of_ble_eq_true rfl)) rfl ?_
    cases hf
    exact ym_lret (pc := 21) dX1_askFor_21 rfl
  · rw [if_neg c5] at hf
    refine ym_icmp_ne_n (pc := 5) (tgt := 22) dX1_askFor_5 (by decide) c5 ?_
    refine ym_aload_n (pc := 22) 1 dX1_askFor_22 rfl rfl ?_
    obtain ⟨v23, e23, hf⟩ := Option.bind_eq_some_iff.mp hf
    refine ym_getN (pc := 23) dX1_askFor_23 rfl (by decide) iX4 (k := 0) (by decide) wd_339 (ym_gI_v e23) ?_
    refine ym_iconst (pc := 26) (v := 4) dX1_askFor_26 (by decide) ?_
    by_cases c27 : v23 = 4
    · rw [if_pos c27] at hf
      refine ym_icmp_ne_y (pc := 27) (tgt := 35) dX1_askFor_27 (by decide) c27 ?_
      refine ym_aload_n (pc := 30) 0 dX1_askFor_30 rfl rfl ?_
      refine ym_iconst (pc := 31) (v := 2) dX1_askFor_31 (by decide) ?_
      obtain ⟨o32, f32, hf⟩ := Option.bind_eq_some_iff.mp hf
      obtain ⟨q32, e32, hf⟩ := Option.bind_eq_some_iff.mp hf
      refine ym_callV (pc := 32) (G2 := g_X1_run) (dep2 := 1) (As := [.int 2]) (st := []) (stk2 := []) (r2 := none) (h1 := q32.2) dX1_askFor_32 (ok_X1_run e32) (sc_X1_askFor_X1_run) wd_559 wd_561 wd_10 (ci := 1) (q0 := (RX1, TX1, 3)) rfl (by decide) rfl f32 rfl rfl (ym_st4 (Nat.le_of_ble_eq_true rfl)) rfl ?_
      exact ym_sub [0, 1] rfl (ob_X1_askFor_35 hf)
    · rw [if_neg c27] at hf
      refine ym_icmp_ne_n (pc := 27) (tgt := 35) dX1_askFor_27 (by decide) c27 ?_
      exact ym_sub [0, 1] rfl (ob_X1_askFor_35 hf)
theorem dX1_isSold_0 : decode cX1_isSold 0 = .ok (.aload_n 1, 1) := by decide +kernel
theorem dX1_isSold_1 : decode cX1_isSold 1 = .ok (.invokevirtual 42, 3) := by decide +kernel
theorem dX1_isSold_4 : decode cX1_isSold 4 = .ok (.iconst (-1), 1) := by decide +kernel
theorem dX1_isSold_5 : decode cX1_isSold 5 = .ok (.if_icmp .eq 7, 3) := by decide +kernel
theorem dX1_isSold_8 : decode cX1_isSold 8 = .ok (.iconst 1, 1) := by decide +kernel
theorem dX1_isSold_9 : decode cX1_isSold 9 = .ok (.goto 4, 3) := by decide +kernel
theorem dX1_isSold_12 : decode cX1_isSold 12 = .ok (.iconst 0, 1) := by decide +kernel
theorem dX1_isSold_13 : decode cX1_isSold 13 = .ok (.istore_n 2, 1) := by decide +kernel
theorem dX1_isSold_14 : decode cX1_isSold 14 = .ok (.aload_n 1, 1) := by decide +kernel
theorem dX1_isSold_15 : decode cX1_isSold 15 = .ok (.getfield 23, 3) := by decide +kernel
theorem dX1_isSold_18 : decode cX1_isSold 18 = .ok (.iconst 5, 1) := by decide +kernel
theorem dX1_isSold_19 : decode cX1_isSold 19 = .ok (.if_icmp .ne 11, 3) := by decide +kernel
theorem dX1_isSold_22 : decode cX1_isSold 22 = .ok (.aload_n 0, 1) := by decide +kernel
theorem dX1_isSold_23 : decode cX1_isSold 23 = .ok (.bipush 13, 2) := by decide +kernel
theorem dX1_isSold_25 : decode cX1_isSold 25 = .ok (.invokevirtual 28, 3) := by decide +kernel
theorem dX1_isSold_28 : decode cX1_isSold 28 = .ok (.iload_n 2, 1) := by decide +kernel
theorem dX1_isSold_29 : decode cX1_isSold 29 = .ok (.ireturn, 1) := by decide +kernel
theorem dX1_isSold_30 : decode cX1_isSold 30 = .ok (.aload_n 1, 1) := by decide +kernel
theorem dX1_isSold_31 : decode cX1_isSold 31 = .ok (.getfield 23, 3) := by decide +kernel
theorem dX1_isSold_34 : decode cX1_isSold 34 = .ok (.iconst 4, 1) := by decide +kernel
theorem dX1_isSold_35 : decode cX1_isSold 35 = .ok (.if_icmp .ne 9, 3) := by decide +kernel
theorem dX1_isSold_38 : decode cX1_isSold 38 = .ok (.aload_n 0, 1) := by decide +kernel
theorem dX1_isSold_39 : decode cX1_isSold 39 = .ok (.bipush 12, 2) := by decide +kernel
theorem dX1_isSold_41 : decode cX1_isSold 41 = .ok (.invokevirtual 28, 3) := by decide +kernel
theorem dX1_isSold_44 : decode cX1_isSold 44 = .ok (.aload_n 0, 1) := by decide +kernel
theorem dX1_isSold_45 : decode cX1_isSold 45 = .ok (.bipush 11, 2) := by decide +kernel
theorem dX1_isSold_47 : decode cX1_isSold 47 = .ok (.invokevirtual 28, 3) := by decide +kernel
theorem dX1_isSold_50 : decode cX1_isSold 50 = .ok (.iload_n 2, 1) := by decide +kernel
theorem dX1_isSold_51 : decode cX1_isSold 51 = .ok (.ifCond .eq 19, 3) := by decide +kernel
theorem dX1_isSold_54 : decode cX1_isSold 54 = .ok (.aload_n 1, 1) := by decide +kernel
theorem dX1_isSold_55 : decode cX1_isSold 55 = .ok (.invokevirtual 50, 3) := by decide +kernel
theorem dX1_isSold_58 : decode cX1_isSold 58 = .ok (.aload_n 1, 1) := by decide +kernel
theorem dX1_isSold_59 : decode cX1_isSold 59 = .ok (.getfield 66, 3) := by decide +kernel
theorem dX1_isSold_62 : decode cX1_isSold 62 = .ok (.lcmp, 1) := by decide +kernel
theorem dX1_isSold_63 : decode cX1_isSold 63 = .ok (.ifCond .lt 7, 3) := by decide +kernel
theorem dX1_isSold_66 : decode cX1_isSold 66 = .ok (.iconst 1, 1) := by decide +kernel
theorem dX1_isSold_67 : decode cX1_isSold 67 = .ok (.goto 4, 3) := by decide +kernel
theorem dX1_isSold_70 : decode cX1_isSold 70 = .ok (.iconst 0, 1) := by decide +kernel
theorem dX1_isSold_71 : decode cX1_isSold 71 = .ok (.ireturn, 1) := by decide +kernel
theorem sc_X1_isSold_X4_standingBidder : ym_site g_X1_isSold g_X4_standingBidder 4 3 0 := ⟨by decide, by decide, wd_512, wd_87, by decide +kernel⟩
theorem sc_X1_isSold_X1_run : ym_site g_X1_isSold g_X1_run 4 1 1 := ⟨by decide, by decide, wd_562, wd_82, by decide +kernel⟩
theorem sc_X1_isSold_X4_standingSum : ym_site g_X1_isSold g_X4_standingSum 4 3 0 := ⟨by decide, by decide, wd_520, wd_87, by decide +kernel⟩
def bl_X1_isSold_44 (N : Nat) (w0 : Option Nat) (w1 : Option Nat) (w2 : Int32) (h : ym_H) : Option (Int32 × ym_H) :=
  Option.bind (ym_ob h w0 1) fun o47 =>
  Option.bind (fn_X1_run N w0 11 h) fun q47 =>
  if w2 = 0 then
    some (0, q47.2)
  else
    Option.bind (ym_ob q47.2 w1 4) fun o55 =>
    Option.bind (fn_X4_standingSum N w1 q47.2) fun q55 =>
    Option.bind (ym_gL q55.2 w1 4 1) fun v59 =>
    if q55.1 < v59 then
      some (0, q55.2)
    else
      some (1, q55.2)
set_option maxRecDepth 20000 in
set_option maxHeartbeats 4000000 in
theorem ob_X1_isSold_44 {D : ym_D} {b0 : Nat} {N : Nat} {w0 : Option Nat} {w1 : Option Nat} {w2 : Int32} {h h' : ym_H} {r : Int32} (hf : bl_X1_isSold_44 N w0 w1 w2 h = some (r, h')) : ym_Y D b0 g_X1_isSold 4 44 [(0, va_rf w0), (1, va_rf w1), (2, .int w2)] [] h (some (.int r)) h' := by
  unfold bl_X1_isSold_44 at hf
  refine ym_aload_n (pc := 44) 0 dX1_isSold_44 rfl rfl ?_
  refine ym_bipush (pc := 45) (v := 11) dX1_isSold_45 (by decide) ?_
  obtain ⟨o47, f47, hf⟩ := Option.bind_eq_some_iff.mp hf
  obtain ⟨q47, e47, hf⟩ := Option.bind_eq_some_iff.mp hf
  refine ym_callV (pc := 47) (G2 := g_X1_run) (dep2 := 1) (As := [.int 11]) (st := []) (stk2 := []) (r2 := none) (h1 := q47.2) dX1_isSold_47 (ok_X1_run e47) (sc_X1_isSold_X1_run) wd_559 wd_561 wd_10 (ci := 1) (q0 := (RX1, TX1, 3)) rfl (by decide) rfl f47 rfl rfl (ym_st4 (Nat.le_of_ble_eq_true rfl)) rfl ?_
  refine ym_iload_n (pc := 50) 2 dX1_isSold_50 rfl rfl ?_
  by_cases c51 : w2 = 0
  · rw [if_pos c51] at hf
    refine ym_if_eq_y (pc := 51) (tgt := 70) dX1_isSold_51 (by decide) c51 ?_
    refine ym_iconst (pc := 70) (v := 0) dX1_isSold_70 (by decide) ?_
    cases hf
    exact ym_zret (pc := 71) dX1_isSold_71 rfl rfl
  · rw [if_neg c51] at hf
    refine ym_if_eq_n (pc := 51) (tgt := 70) dX1_isSold_51 (by decide) c51 ?_
    refine ym_aload_n (pc := 54) 1 dX1_isSold_54 rfl rfl ?_
    obtain ⟨o55, f55, hf⟩ := Option.bind_eq_some_iff.mp hf
    obtain ⟨q55, e55, hf⟩ := Option.bind_eq_some_iff.mp hf
    refine ym_callV (pc := 55) (G2 := g_X4_standingSum) (dep2 := 3) (As := []) (st := []) (stk2 := [.long q55.1]) (r2 := (some (.long q55.1))) (h1 := q55.2) dX1_isSold_55 (ok_X4_standingSum e55) (sc_X1_isSold_X4_standingSum) wd_566 wd_518 wd_519 (ci := 4) (q0 := (RX4, TX4, 6)) rfl (by decide) rfl f55 rfl rfl (ym_st4 (Nat.le_of_ble_eq_true rfl)) rfl ?_
    refine ym_aload_n (pc := 58) 1 dX1_isSold_58 rfl rfl ?_
    obtain ⟨v59, e59, hf⟩ := Option.bind_eq_some_iff.mp hf
    refine ym_getN (pc := 59) dX1_isSold_59 rfl (by decide) iX4 (k := 1) (by decide) wd_342 (ym_gL_v e59) ?_
    by_cases c62 : q55.1 < v59
    · rw [if_pos c62] at hf
      refine ym_lcmp_lt_y (pc := 62) (tgt := 70) dX1_isSold_62 dX1_isSold_63 (by decide) c62 ?_
      refine ym_iconst (pc := 70) (v := 0) dX1_isSold_70 (by decide) ?_
      cases hf
      exact ym_zret (pc := 71) dX1_isSold_71 rfl rfl
    · rw [if_neg c62] at hf
      refine ym_lcmp_lt_n (pc := 62) (tgt := 70) dX1_isSold_62 dX1_isSold_63 (by decide) c62 ?_
      refine ym_iconst (pc := 66) (v := 1) dX1_isSold_66 (by decide) ?_
      refine ym_goto (pc := 67) (tgt := 71) dX1_isSold_67 (by decide) ?_
      cases hf
      exact ym_zret (pc := 71) dX1_isSold_71 rfl rfl
def bl_X1_isSold_13 (N : Nat) (w0 : Option Nat) (w1 : Option Nat) (s0 : Int32) (h : ym_H) : Option (Int32 × ym_H) :=
  Option.bind (ym_gI h w1 4 0) fun v15 =>
  if v15 = 5 then
    Option.bind (ym_ob h w0 1) fun o25 =>
    Option.bind (fn_X1_run N w0 13 h) fun q25 =>
    if s0 = 0 ∨ s0 = 1 then some (s0, q25.2) else none
  else
    Option.bind (ym_gI h w1 4 0) fun v31 =>
    if v31 = 4 then
      Option.bind (ym_ob h w0 1) fun o41 =>
      Option.bind (fn_X1_run N w0 12 h) fun q41 =>
      bl_X1_isSold_44 N w0 w1 s0 q41.2
    else
      bl_X1_isSold_44 N w0 w1 s0 h
set_option maxRecDepth 20000 in
set_option maxHeartbeats 4000000 in
theorem ob_X1_isSold_13 {D : ym_D} {b0 : Nat} {N : Nat} {w0 : Option Nat} {w1 : Option Nat} {s0 : Int32} {h h' : ym_H} {r : Int32} (hf : bl_X1_isSold_13 N w0 w1 s0 h = some (r, h')) : ym_Y D b0 g_X1_isSold 4 13 [(0, va_rf w0), (1, va_rf w1)] [.int s0] h (some (.int r)) h' := by
  unfold bl_X1_isSold_13 at hf
  refine ym_istore_n (pc := 13) (lv' := [(2, .int s0), (0, va_rf w0), (1, va_rf w1)]) dX1_isSold_13 rfl (by decide) ⟨trivial, ym_c1 w1, trivial⟩ rfl ?_
  refine ym_aload_n (pc := 14) 2 dX1_isSold_14 rfl rfl ?_
  obtain ⟨v15, e15, hf⟩ := Option.bind_eq_some_iff.mp hf
  refine ym_getN (pc := 15) dX1_isSold_15 rfl (by decide) iX4 (k := 0) (by decide) wd_339 (ym_gI_v e15) ?_
  refine ym_iconst (pc := 18) (v := 5) dX1_isSold_18 (by decide) ?_
  by_cases c19 : v15 = 5
  · rw [if_pos c19] at hf
    refine ym_icmp_ne_y (pc := 19) (tgt := 30) dX1_isSold_19 (by decide) c19 ?_
    refine ym_aload_n (pc := 22) 1 dX1_isSold_22 rfl rfl ?_
    refine ym_bipush (pc := 23) (v := 13) dX1_isSold_23 (by decide) ?_
    obtain ⟨o25, f25, hf⟩ := Option.bind_eq_some_iff.mp hf
    obtain ⟨q25, e25, hf⟩ := Option.bind_eq_some_iff.mp hf
    refine ym_callV (pc := 25) (G2 := g_X1_run) (dep2 := 1) (As := [.int 13]) (st := []) (stk2 := []) (r2 := none) (h1 := q25.2) dX1_isSold_25 (ok_X1_run e25) (sc_X1_isSold_X1_run) wd_559 wd_561 wd_10 (ci := 1) (q0 := (RX1, TX1, 3)) rfl (by decide) rfl f25 rfl rfl (ym_st4 (Nat.le_of_ble_eq_true rfl)) rfl ?_
    refine ym_iload_n (pc := 28) 0 dX1_isSold_28 rfl rfl ?_
    by_cases z29 : s0 = 0 ∨ s0 = 1
    · rw [if_pos z29] at hf
      cases hf
      exact ym_zret (pc := 29) dX1_isSold_29 rfl (ym_zn z29)
    · rw [if_neg z29] at hf
      cases hf
  · rw [if_neg c19] at hf
    refine ym_icmp_ne_n (pc := 19) (tgt := 30) dX1_isSold_19 (by decide) c19 ?_
    refine ym_aload_n (pc := 30) 2 dX1_isSold_30 rfl rfl ?_
    obtain ⟨v31, e31, hf⟩ := Option.bind_eq_some_iff.mp hf
    refine ym_getN (pc := 31) dX1_isSold_31 rfl (by decide) iX4 (k := 0) (by decide) wd_339 (ym_gI_v e31) ?_
    refine ym_iconst (pc := 34) (v := 4) dX1_isSold_34 (by decide) ?_
    by_cases c35 : v31 = 4
    · rw [if_pos c35] at hf
      refine ym_icmp_ne_y (pc := 35) (tgt := 44) dX1_isSold_35 (by decide) c35 ?_
      refine ym_aload_n (pc := 38) 1 dX1_isSold_38 rfl rfl ?_
      refine ym_bipush (pc := 39) (v := 12) dX1_isSold_39 (by decide) ?_
      obtain ⟨o41, f41, hf⟩ := Option.bind_eq_some_iff.mp hf
      obtain ⟨q41, e41, hf⟩ := Option.bind_eq_some_iff.mp hf
      refine ym_callV (pc := 41) (G2 := g_X1_run) (dep2 := 1) (As := [.int 12]) (st := []) (stk2 := []) (r2 := none) (h1 := q41.2) dX1_isSold_41 (ok_X1_run e41) (sc_X1_isSold_X1_run) wd_559 wd_561 wd_10 (ci := 1) (q0 := (RX1, TX1, 3)) rfl (by decide) rfl f41 rfl rfl (ym_st4 (Nat.le_of_ble_eq_true rfl)) rfl ?_
      exact ym_sub [1, 2, 0] rfl (ob_X1_isSold_44 hf)
    · rw [if_neg c35] at hf
      refine ym_icmp_ne_n (pc := 35) (tgt := 44) dX1_isSold_35 (by decide) c35 ?_
      exact ym_sub [1, 2, 0] rfl (ob_X1_isSold_44 hf)
def fn_X1_isSold (N : Nat) (a0 : Option Nat) (a1 : Option Nat) (h : ym_H) : Option (Int32 × ym_H) :=
  Option.bind (ym_ob h a1 4) fun o1 =>
  Option.bind (fn_X4_standingBidder N a1 h) fun q1 =>
  if q1.1 = (-1) then
    bl_X1_isSold_13 N a0 a1 0 q1.2
  else
    bl_X1_isSold_13 N a0 a1 1 q1.2
set_option maxRecDepth 20000 in
set_option maxHeartbeats 4000000 in
theorem ok_X1_isSold {D : ym_D} {b0 : Nat} {N : Nat} {a0 : Option Nat} {a1 : Option Nat} {h h' : ym_H} {r : Int32} (hf : fn_X1_isSold N a0 a1 h = some (r, h')) : ym_M D b0 g_X1_isSold 4 [va_rf a0, va_rf a1] h (some (.int r)) h' := by
  unfold fn_X1_isSold at hf
  refine ym_meth (lv := [(0, va_rf a0), (1, va_rf a1)]) (by decide) (by simp [lg_sl, ym_c1, ym_cI, ym_cL, g_X1_isSold]) (by simp [lv_args, ym_c1, ym_cI, ym_cL]) ?_
  refine ym_aload_n (pc := 0) 1 dX1_isSold_0 rfl rfl ?_
  obtain ⟨o1, f1, hf⟩ := Option.bind_eq_some_iff.mp hf
  obtain ⟨q1, e1, hf⟩ := Option.bind_eq_some_iff.mp hf
  refine ym_callV (pc := 1) (G2 := g_X4_standingBidder) (dep2 := 3) (As := []) (st := []) (stk2 := [.int q1.1]) (r2 := (some (.int q1.1))) (h1 := q1.2) dX1_isSold_1 (ok_X4_standingBidder e1) (sc_X1_isSold_X4_standingBidder) wd_564 wd_510 wd_511 (ci := 4) (q0 := (RX4, TX4, 6)) rfl (by decide) rfl f1 rfl rfl (ym_st4 (Nat.le_of_ble_eq_true rfl)) rfl ?_
  refine ym_iconst (pc := 4) (v := (-1)) dX1_isSold_4 (by decide) ?_
  by_cases c5 : q1.1 = (-1)
  · rw [if_pos c5] at hf
    refine ym_icmp_eq_y (pc := 5) (tgt := 12) dX1_isSold_5 (by decide) c5 ?_
    refine ym_iconst (pc := 12) (v := 0) dX1_isSold_12 (by decide) ?_
    exact ym_sub [0, 1] rfl (ob_X1_isSold_13 hf)
  · rw [if_neg c5] at hf
    refine ym_icmp_eq_n (pc := 5) (tgt := 12) dX1_isSold_5 (by decide) c5 ?_
    refine ym_iconst (pc := 8) (v := 1) dX1_isSold_8 (by decide) ?_
    refine ym_goto (pc := 9) (tgt := 13) dX1_isSold_9 (by decide) ?_
    exact ym_sub [0, 1] rfl (ob_X1_isSold_13 hf)
theorem dX1_piecesOf_0 : decode cX1_piecesOf 0 = .ok (.aload_n 1, 1) := by decide +kernel
theorem dX1_piecesOf_1 : decode cX1_piecesOf 1 = .ok (.getfield 23, 3) := by decide +kernel
theorem dX1_piecesOf_4 : decode cX1_piecesOf 4 = .ok (.iconst 3, 1) := by decide +kernel
theorem dX1_piecesOf_5 : decode cX1_piecesOf 5 = .ok (.if_icmp .ne 18, 3) := by decide +kernel
theorem dX1_piecesOf_8 : decode cX1_piecesOf 8 = .ok (.aload_n 0, 1) := by decide +kernel
theorem dX1_piecesOf_9 : decode cX1_piecesOf 9 = .ok (.bipush 6, 2) := by decide +kernel
theorem dX1_piecesOf_11 : decode cX1_piecesOf 11 = .ok (.invokevirtual 28, 3) := by decide +kernel
theorem dX1_piecesOf_14 : decode cX1_piecesOf 14 = .ok (.aload_n 0, 1) := by decide +kernel
theorem dX1_piecesOf_15 : decode cX1_piecesOf 15 = .ok (.iconst 5, 1) := by decide +kernel
theorem dX1_piecesOf_16 : decode cX1_piecesOf 16 = .ok (.invokevirtual 28, 3) := by decide +kernel
theorem dX1_piecesOf_19 : decode cX1_piecesOf 19 = .ok (.ldc2_w 59, 3) := by decide +kernel
theorem dX1_piecesOf_22 : decode cX1_piecesOf 22 = .ok (.lreturn, 1) := by decide +kernel
theorem dX1_piecesOf_23 : decode cX1_piecesOf 23 = .ok (.aload_n 1, 1) := by decide +kernel
theorem dX1_piecesOf_24 : decode cX1_piecesOf 24 = .ok (.getfield 23, 3) := by decide +kernel
theorem dX1_piecesOf_27 : decode cX1_piecesOf 27 = .ok (.iconst 2, 1) := by decide +kernel
theorem dX1_piecesOf_28 : decode cX1_piecesOf 28 = .ok (.if_icmp .ne 12, 3) := by decide +kernel
theorem dX1_piecesOf_31 : decode cX1_piecesOf 31 = .ok (.aload_n 0, 1) := by decide +kernel
theorem dX1_piecesOf_32 : decode cX1_piecesOf 32 = .ok (.iconst 5, 1) := by decide +kernel
theorem dX1_piecesOf_33 : decode cX1_piecesOf 33 = .ok (.invokevirtual 28, 3) := by decide +kernel
theorem dX1_piecesOf_36 : decode cX1_piecesOf 36 = .ok (.ldc2_w 61, 3) := by decide +kernel
theorem dX1_piecesOf_39 : decode cX1_piecesOf 39 = .ok (.lreturn, 1) := by decide +kernel
theorem dX1_piecesOf_40 : decode cX1_piecesOf 40 = .ok (.aload_n 0, 1) := by decide +kernel
theorem dX1_piecesOf_41 : decode cX1_piecesOf 41 = .ok (.iconst 4, 1) := by decide +kernel
theorem dX1_piecesOf_42 : decode cX1_piecesOf 42 = .ok (.invokevirtual 28, 3) := by decide +kernel
theorem dX1_piecesOf_45 : decode cX1_piecesOf 45 = .ok (.lconst 1, 1) := by decide +kernel
theorem dX1_piecesOf_46 : decode cX1_piecesOf 46 = .ok (.lreturn, 1) := by decide +kernel
theorem sc_X1_piecesOf_X1_run : ym_site g_X1_piecesOf g_X1_run 2 1 1 := ⟨by decide, by decide, wd_562, wd_82, by decide +kernel⟩
def fn_X1_piecesOf (N : Nat) (a0 : Option Nat) (a1 : Option Nat) (h : ym_H) : Option (Int64 × ym_H) :=
  Option.bind (ym_gI h a1 4 0) fun v1 =>
  if v1 = 3 then
    Option.bind (ym_ob h a0 1) fun o11 =>
    Option.bind (fn_X1_run N a0 6 h) fun q11 =>
    Option.bind (ym_ob q11.2 a0 1) fun o16 =>
    Option.bind (fn_X1_run N a0 5 q11.2) fun q16 =>
    some (12, q16.2)
  else
    Option.bind (ym_gI h a1 4 0) fun v24 =>
    if v24 = 2 then
      Option.bind (ym_ob h a0 1) fun o33 =>
      Option.bind (fn_X1_run N a0 5 h) fun q33 =>
      some (2, q33.2)
    else
      Option.bind (ym_ob h a0 1) fun o42 =>
      Option.bind (fn_X1_run N a0 4 h) fun q42 =>
      some (1, q42.2)
set_option maxRecDepth 20000 in
set_option maxHeartbeats 4000000 in
theorem ok_X1_piecesOf {D : ym_D} {b0 : Nat} {N : Nat} {a0 : Option Nat} {a1 : Option Nat} {h h' : ym_H} {r : Int64} (hf : fn_X1_piecesOf N a0 a1 h = some (r, h')) : ym_M D b0 g_X1_piecesOf 2 [va_rf a0, va_rf a1] h (some (.long r)) h' := by
  unfold fn_X1_piecesOf at hf
  refine ym_meth (lv := [(0, va_rf a0), (1, va_rf a1)]) (by decide) (by simp [lg_sl, ym_c1, ym_cI, ym_cL, g_X1_piecesOf]) (by simp [lv_args, ym_c1, ym_cI, ym_cL]) ?_
  refine ym_aload_n (pc := 0) 1 dX1_piecesOf_0 rfl rfl ?_
  obtain ⟨v1, e1, hf⟩ := Option.bind_eq_some_iff.mp hf
  refine ym_getN (pc := 1) dX1_piecesOf_1 rfl (by decide) iX4 (k := 0) (by decide) wd_339 (ym_gI_v e1) ?_
  refine ym_iconst (pc := 4) (v := 3) dX1_piecesOf_4 (by decide) ?_
  by_cases c5 : v1 = 3
  · rw [if_pos c5] at hf
    refine ym_icmp_ne_y (pc := 5) (tgt := 23) dX1_piecesOf_5 (by decide) c5 ?_
    refine ym_aload_n (pc := 8) 0 dX1_piecesOf_8 rfl rfl ?_
    refine ym_bipush (pc := 9) (v := 6) dX1_piecesOf_9 (by decide) ?_
    obtain ⟨o11, f11, hf⟩ := Option.bind_eq_some_iff.mp hf
    obtain ⟨q11, e11, hf⟩ := Option.bind_eq_some_iff.mp hf
    refine ym_callV (pc := 11) (G2 := g_X1_run) (dep2 := 1) (As := [.int 6]) (st := []) (stk2 := []) (r2 := none) (h1 := q11.2) dX1_piecesOf_11 (ok_X1_run e11) (sc_X1_piecesOf_X1_run) wd_559 wd_561 wd_10 (ci := 1) (q0 := (RX1, TX1, 3)) rfl (by decide) rfl f11 rfl rfl (ym_st4 (Nat.le_of_ble_eq_true rfl)) rfl ?_
    refine ym_aload_n (pc := 14) 0 dX1_piecesOf_14 rfl rfl ?_
    refine ym_iconst (pc := 15) (v := 5) dX1_piecesOf_15 (by decide) ?_
    obtain ⟨o16, f16, hf⟩ := Option.bind_eq_some_iff.mp hf
    obtain ⟨q16, e16, hf⟩ := Option.bind_eq_some_iff.mp hf
    refine ym_callV (pc := 16) (G2 := g_X1_run) (dep2 := 1) (As := [.int 5]) (st := []) (stk2 := []) (r2 := none) (h1 := q16.2) dX1_piecesOf_16 (ok_X1_run e16) (sc_X1_piecesOf_X1_run) wd_559 wd_561 wd_10 (ci := 1) (q0 := (RX1, TX1, 3)) rfl (by decide) rfl f16 rfl rfl (ym_st4 (Nat.le_of_ble_eq_true rfl)) rfl ?_
    refine ym_ldc2 (pc := 19) dX1_piecesOf_19 wd_576 ?_
    cases hf
    exact ym_lret (pc := 22) dX1_piecesOf_22 rfl
  · rw [if_neg c5] at hf
    refine ym_icmp_ne_n (pc := 5) (tgt := 23) dX1_piecesOf_5 (by decide) c5 ?_
    refine ym_aload_n (pc := 23) 1 dX1_piecesOf_23 rfl rfl ?_
    obtain ⟨v24, e24, hf⟩ := Option.bind_eq_some_iff.mp hf
    refine ym_getN (pc := 24) dX1_piecesOf_24 rfl (by decide) iX4 (k := 0) (by decide) wd_339 (ym_gI_v e24) ?_
    refine ym_iconst (pc := 27) (v := 2) dX1_piecesOf_27 (by decide) ?_
    by_cases c28 : v24 = 2
    · rw [if_pos c28] at hf
      refine ym_icmp_ne_y (pc := 28) (tgt := 40) dX1_piecesOf_28 (by decide) c28 ?_
      refine ym_aload_n (pc := 31) 0 dX1_piecesOf_31 rfl rfl ?_
      refine ym_iconst (pc := 32) (v := 5) dX1_piecesOf_32 (by decide) ?_
      obtain ⟨o33, f33, hf⟩ := Option.bind_eq_some_iff.mp hf
      obtain ⟨q33, e33, hf⟩ := Option.bind_eq_some_iff.mp hf
      refine ym_callV (pc := 33) (G2 := g_X1_run) (dep2 := 1) (As := [.int 5]) (st := []) (stk2 := []) (r2 := none) (h1 := q33.2) dX1_piecesOf_33 (ok_X1_run e33) (sc_X1_piecesOf_X1_run) wd_559 wd_561 wd_10 (ci := 1) (q0 := (RX1, TX1, 3)) rfl (by decide) rfl f33 rfl rfl (ym_st4 (Nat.le_of_ble_eq_true rfl)) rfl ?_
      refine ym_ldc2 (pc := 36) dX1_piecesOf_36 wd_577 ?_
      cases hf
      exact ym_lret (pc := 39) dX1_piecesOf_39 rfl
    · rw [if_neg c28] at hf
      refine ym_icmp_ne_n (pc := 28) (tgt := 40) dX1_piecesOf_28 (by decide) c28 ?_
      refine ym_aload_n (pc := 40) 0 dX1_piecesOf_40 rfl rfl ?_
      refine ym_iconst (pc := 41) (v := 4) dX1_piecesOf_41 (by decide) ?_
      obtain ⟨o42, f42, hf⟩ := Option.bind_eq_some_iff.mp hf
      obtain ⟨q42, e42, hf⟩ := Option.bind_eq_some_iff.mp hf
      refine ym_callV (pc := 42) (G2 := g_X1_run) (dep2 := 1) (As := [.int 4]) (st := []) (stk2 := []) (r2 := none) (h1 := q42.2) dX1_piecesOf_42 (ok_X1_run e42) (sc_X1_piecesOf_X1_run) wd_559 wd_561 wd_10 (ci := 1) (q0 := (RX1, TX1, 3)) rfl (by decide) rfl f42 rfl rfl (ym_st4 (Nat.le_of_ble_eq_true rfl)) rfl ?_
      refine ym_lconst (pc := 45) (v := 1) dX1_piecesOf_45 (by decide) ?_
      cases hf
      exact ym_lret (pc := 46) dX1_piecesOf_46 rfl
theorem dX1_bringsIfSold_0 : decode cX1_bringsIfSold 0 = .ok (.aload_n 0, 1) := by decide +kernel
theorem dX1_bringsIfSold_1 : decode cX1_bringsIfSold 1 = .ok (.aload_n 1, 1) := by decide +kernel
theorem dX1_bringsIfSold_2 : decode cX1_bringsIfSold 2 = .ok (.invokevirtual 102, 3) := by decide +kernel
theorem dX1_bringsIfSold_5 : decode cX1_bringsIfSold 5 = .ok (.ifCond .eq 16, 3) := by decide +kernel
theorem dX1_bringsIfSold_8 : decode cX1_bringsIfSold 8 = .ok (.aload_n 1, 1) := by decide +kernel
theorem dX1_bringsIfSold_9 : decode cX1_bringsIfSold 9 = .ok (.invokevirtual 50, 3) := by decide +kernel
theorem dX1_bringsIfSold_12 : decode cX1_bringsIfSold 12 = .ok (.aload_n 0, 1) := by decide +kernel
theorem dX1_bringsIfSold_13 : decode cX1_bringsIfSold 13 = .ok (.aload_n 1, 1) := by decide +kernel
theorem dX1_bringsIfSold_14 : decode cX1_bringsIfSold 14 = .ok (.invokevirtual 70, 3) := by decide +kernel
theorem dX1_bringsIfSold_17 : decode cX1_bringsIfSold 17 = .ok (.lmul, 1) := by decide +kernel
theorem dX1_bringsIfSold_18 : decode cX1_bringsIfSold 18 = .ok (.goto 4, 3) := by decide +kernel
theorem dX1_bringsIfSold_21 : decode cX1_bringsIfSold 21 = .ok (.lconst 0, 1) := by decide +kernel
theorem dX1_bringsIfSold_22 : decode cX1_bringsIfSold 22 = .ok (.lreturn, 1) := by decide +kernel
theorem sc_X1_bringsIfSold_X1_isSold : ym_site g_X1_bringsIfSold g_X1_isSold 5 4 1 := ⟨by decide, by decide, wd_652, wd_82, by decide +kernel⟩
theorem sc_X1_bringsIfSold_X4_standingSum : ym_site g_X1_bringsIfSold g_X4_standingSum 5 3 0 := ⟨by decide, by decide, wd_520, wd_87, by decide +kernel⟩
theorem sc_X1_bringsIfSold_X1_piecesOf : ym_site g_X1_bringsIfSold g_X1_piecesOf 5 2 1 := ⟨by decide, by decide, wd_575, wd_82, by decide +kernel⟩
def fn_X1_bringsIfSold (N : Nat) (a0 : Option Nat) (a1 : Option Nat) (h : ym_H) : Option (Int64 × ym_H) :=
  Option.bind (ym_ob h a0 1) fun o2 =>
  Option.bind (fn_X1_isSold N a0 a1 h) fun q2 =>
  if q2.1 = 0 then
    some (0, q2.2)
  else
    Option.bind (ym_ob q2.2 a1 4) fun o9 =>
    Option.bind (fn_X4_standingSum N a1 q2.2) fun q9 =>
    Option.bind (ym_ob q9.2 a0 1) fun o14 =>
    Option.bind (fn_X1_piecesOf N a0 a1 q9.2) fun q14 =>
    some ((q9.1 * q14.1), q14.2)
set_option maxRecDepth 20000 in
set_option maxHeartbeats 4000000 in
theorem ok_X1_bringsIfSold {D : ym_D} {b0 : Nat} {N : Nat} {a0 : Option Nat} {a1 : Option Nat} {h h' : ym_H} {r : Int64} (hf : fn_X1_bringsIfSold N a0 a1 h = some (r, h')) : ym_M D b0 g_X1_bringsIfSold 5 [va_rf a0, va_rf a1] h (some (.long r)) h' := by
  unfold fn_X1_bringsIfSold at hf
  refine ym_meth (lv := [(0, va_rf a0), (1, va_rf a1)]) (by decide) (by simp [lg_sl, ym_c1, ym_cI, ym_cL, g_X1_bringsIfSold]) (by simp [lv_args, ym_c1, ym_cI, ym_cL]) ?_
  refine ym_aload_n (pc := 0) 0 dX1_bringsIfSold_0 rfl rfl ?_
  refine ym_aload_n (pc := 1) 1 dX1_bringsIfSold_1 rfl rfl ?_
  obtain ⟨o2, f2, hf⟩ := Option.bind_eq_some_iff.mp hf
  obtain ⟨q2, e2, hf⟩ := Option.bind_eq_some_iff.mp hf
  refine ym_callV (pc := 2) (G2 := g_X1_isSold) (dep2 := 4) (As := [va_rf a1]) (st := []) (stk2 := [.int q2.1]) (r2 := (some (.int q2.1))) (h1 := q2.2) dX1_bringsIfSold_2 (ok_X1_isSold e2) (sc_X1_bringsIfSold_X1_isSold) wd_649 wd_651 wd_13 (ci := 1) (q0 := (RX1, TX1, 3)) rfl (by decide) rfl f2 rfl rfl (ym_st4 (Nat.le_of_ble_eq_true rfl)) rfl ?_
  by_cases c5 : q2.1 = 0
  · rw [if_pos c5] at hf
    refine ym_if_eq_y (pc := 5) (tgt := 21) dX1_bringsIfSold_5 (by decide) c5 ?_
    refine ym_lconst (pc := 21) (v := 0) dX1_bringsIfSold_21 (by decide) ?_
    cases hf
    exact ym_lret (pc := 22) dX1_bringsIfSold_22 rfl
  · rw [if_neg c5] at hf
    refine ym_if_eq_n (pc := 5) (tgt := 21) dX1_bringsIfSold_5 (by decide) c5 ?_
    refine ym_aload_n (pc := 8) 1 dX1_bringsIfSold_8 rfl rfl ?_
    obtain ⟨o9, f9, hf⟩ := Option.bind_eq_some_iff.mp hf
    obtain ⟨q9, e9, hf⟩ := Option.bind_eq_some_iff.mp hf
    refine ym_callV (pc := 9) (G2 := g_X4_standingSum) (dep2 := 3) (As := []) (st := []) (stk2 := [.long q9.1]) (r2 := (some (.long q9.1))) (h1 := q9.2) dX1_bringsIfSold_9 (ok_X4_standingSum e9) (sc_X1_bringsIfSold_X4_standingSum) wd_566 wd_518 wd_519 (ci := 4) (q0 := (RX4, TX4, 6)) rfl (by decide) rfl f9 rfl rfl (ym_st4 (Nat.le_of_ble_eq_true rfl)) rfl ?_
    refine ym_aload_n (pc := 12) 0 dX1_bringsIfSold_12 rfl rfl ?_
    refine ym_aload_n (pc := 13) 1 dX1_bringsIfSold_13 rfl rfl ?_
    obtain ⟨o14, f14, hf⟩ := Option.bind_eq_some_iff.mp hf
    obtain ⟨q14, e14, hf⟩ := Option.bind_eq_some_iff.mp hf
    refine ym_callV (pc := 14) (G2 := g_X1_piecesOf) (dep2 := 2) (As := [va_rf a1]) (st := [.long q9.1]) (stk2 := [.long q14.1, .long q9.1]) (r2 := (some (.long q14.1))) (h1 := q14.2) dX1_bringsIfSold_14 (ok_X1_piecesOf e14) (sc_X1_bringsIfSold_X1_piecesOf) wd_572 wd_573 wd_574 (ci := 1) (q0 := (RX1, TX1, 3)) rfl (by decide) rfl f14 rfl rfl (ym_st4 (Nat.le_of_ble_eq_true rfl)) rfl ?_
    refine ym_lmul (pc := 17) dX1_bringsIfSold_17 ?_
    refine ym_goto (pc := 18) (tgt := 22) dX1_bringsIfSold_18 (by decide) ?_
    cases hf
    exact ym_lret (pc := 22) dX1_bringsIfSold_22 rfl
theorem dX1_forgetTrace_0 : decode cX1_forgetTrace 0 = .ok (.aload_n 0, 1) := by decide +kernel
theorem dX1_forgetTrace_1 : decode cX1_forgetTrace 1 = .ok (.iconst 0, 1) := by decide +kernel
theorem dX1_forgetTrace_2 : decode cX1_forgetTrace 2 = .ok (.putfield 19, 3) := by decide +kernel
theorem dX1_forgetTrace_5 : decode cX1_forgetTrace 5 = .ok (.return_, 1) := by decide +kernel
def fn_X1_forgetTrace (N : Nat) (a0 : Option Nat) (h : ym_H) : Option (Unit × ym_H) :=
  Option.bind (ym_pf h a0 1 2 (.int 0)) fun h2 =>
  some ((), h2)
set_option maxRecDepth 20000 in
set_option maxHeartbeats 4000000 in
theorem ok_X1_forgetTrace {D : ym_D} {b0 : Nat} {N : Nat} {a0 : Option Nat} {h h' : ym_H} {r : Unit} (hf : fn_X1_forgetTrace N a0 h = some (r, h')) : ym_M D b0 g_X1_forgetTrace 1 [va_rf a0] h none h' := by
  unfold fn_X1_forgetTrace at hf
  refine ym_meth (lv := [(0, va_rf a0)]) (by decide) (by simp [lg_sl, ym_c1, ym_cI, ym_cL, g_X1_forgetTrace]) (by simp [lv_args, ym_c1, ym_cI, ym_cL]) ?_
  refine ym_aload_n (pc := 0) 0 dX1_forgetTrace_0 rfl rfl ?_
  refine ym_iconst (pc := 1) (v := 0) dX1_forgetTrace_1 (by decide) ?_
  obtain ⟨h2, e2, hf⟩ := Option.bind_eq_some_iff.mp hf
  refine ym_put (pc := 2) (h1 := h2) dX1_forgetTrace_2 rfl (by decide) iX1 tyX1 tyX1_ok nmX1 (k := 2) (by decide) wd_174 rfl (tyX1_ok 2 (by decide)) rfl rfl e2 ?_
  cases hf
  exact ym_vret (pc := 5) dX1_forgetTrace_5 rfl
theorem dX1_init_0 : decode cX1_init 0 = .ok (.aload_n 0, 1) := by decide +kernel
theorem dX1_init_1 : decode cX1_init 1 = .ok (.invokespecial 3, 3) := by decide +kernel
theorem dX1_init_4 : decode cX1_init 4 = .ok (.aload_n 0, 1) := by decide +kernel
theorem dX1_init_5 : decode cX1_init 5 = .ok (.sipush 200, 3) := by decide +kernel
theorem dX1_init_8 : decode cX1_init 8 = .ok (.newarray .int, 2) := by decide +kernel
theorem dX1_init_10 : decode cX1_init 10 = .ok (.putfield 9, 3) := by decide +kernel
theorem dX1_init_13 : decode cX1_init 13 = .ok (.aload_n 0, 1) := by decide +kernel
theorem dX1_init_14 : decode cX1_init 14 = .ok (.aload_n 1, 1) := by decide +kernel
theorem dX1_init_15 : decode cX1_init 15 = .ok (.putfield 15, 3) := by decide +kernel
theorem dX1_init_18 : decode cX1_init 18 = .ok (.return_, 1) := by decide +kernel
def fn_X1_init (N : Nat) (a0 : Option Nat) (a1 : Option Nat) (h : ym_H) : Option (Unit × ym_H) :=
  Option.bind (ym_ob h a0 1) fun o1 =>
  Option.bind (ym_na h 0 (.int 0) 200) fun h8 =>
  Option.bind (ym_pf h8 a0 1 1 (va_rf (some h.1))) fun h10 =>
  Option.bind (ym_pf h10 a0 1 0 (va_rf a1)) fun h15 =>
  some ((), h15)
set_option maxRecDepth 20000 in
set_option maxHeartbeats 4000000 in
theorem ok_X1_init {D : ym_D} {b0 : Nat} {N : Nat} {a0 : Option Nat} {a1 : Option Nat} {h h' : ym_H} {r : Unit} (hf : fn_X1_init N a0 a1 h = some (r, h')) : ym_M D b0 g_X1_init 1 [va_rf a0, va_rf a1] h none h' := by
  unfold fn_X1_init at hf
  refine ym_meth (lv := [(0, va_rf a0), (1, va_rf a1)]) (by decide) (by simp [lg_sl, ym_c1, ym_cI, ym_cL, g_X1_init]) (by simp [lv_args, ym_c1, ym_cI, ym_cL]) ?_
  refine ym_aload_n (pc := 0) 0 dX1_init_0 rfl rfl ?_
  obtain ⟨o1, e1, hf⟩ := Option.bind_eq_some_iff.mp hf
  refine ym_objInit (pc := 1) dX1_init_1 wd_171 wd_94 wd_95 (by decide) (ym_st4 (Nat.le_of_ble_eq_true rfl)) (ym_ob_ne e1) ?_
  refine ym_aload_n (pc := 4) 0 dX1_init_4 rfl rfl ?_
  refine ym_sipush (pc := 5) (v := 200) dX1_init_5 (by decide) ?_
  obtain ⟨h8, e8, hf⟩ := Option.bind_eq_some_iff.mp hf
  refine ym_newA (pc := 8) (h1 := h8) (ty := .int) (v := .int 0) dX1_init_8 rfl (t := 0) rfl (by decide) wd_123 (by decide) rfl e8 (fun _ _ => rfl) ?_
  obtain ⟨h10, e10, hf⟩ := Option.bind_eq_some_iff.mp hf
  refine ym_putF (pc := 10) (h1 := h10) dX1_init_10 rfl (by decide) iX1 tyX1 tyX1_ok nmX1 (k := 1) (by decide) wd_173 rfl rfl rfl (tyX1_ok 1 (by decide)) (ym_nrA _ _) (ym_fiA _ _) e10 ?_
  refine ym_aload_n (pc := 13) 0 dX1_init_13 rfl rfl ?_
  refine ym_aload_n (pc := 14) 1 dX1_init_14 rfl rfl ?_
  obtain ⟨h15, e15, hf⟩ := Option.bind_eq_some_iff.mp hf
  refine ym_putF (pc := 15) (h1 := h15) dX1_init_15 rfl (by decide) iX1 tyX1 tyX1_ok nmX1 (k := 0) (by decide) wd_172 rfl rfl rfl (tyX1_ok 0 (by decide)) (ym_nrO _ _) (ym_fiO _ _) e15 ?_
  cases hf
  exact ym_vret (pc := 18) dX1_init_18 rfl
theorem dX4_stateNow_0 : decode cX4_stateNow 0 = .ok (.aload_n 0, 1) := by decide +kernel
theorem dX4_stateNow_1 : decode cX4_stateNow 1 = .ok (.getfield 24, 3) := by decide +kernel
theorem dX4_stateNow_4 : decode cX4_stateNow 4 = .ok (.iconst 2, 1) := by decide +kernel
theorem dX4_stateNow_5 : decode cX4_stateNow 5 = .ok (.invokevirtual 47, 3) := by decide +kernel
theorem dX4_stateNow_8 : decode cX4_stateNow 8 = .ok (.l2i, 1) := by decide +kernel
theorem dX4_stateNow_9 : decode cX4_stateNow 9 = .ok (.ireturn, 1) := by decide +kernel
theorem sc_X4_stateNow_X2_get : ym_site g_X4_stateNow g_X2_get 2 1 1 := ⟨by decide, by decide, wd_256, wd_78, by decide +kernel⟩
def fn_X4_stateNow (N : Nat) (a0 : Option Nat) (h : ym_H) : Option (Int32 × ym_H) :=
  Option.bind (ym_gR h a0 4 2) fun v1 =>
  Option.bind (ym_ob h v1 2) fun o5 =>
  Option.bind (fn_X2_get N v1 2 h) fun q5 =>
  some ((Int64.toInt32 q5.1), q5.2)
set_option maxRecDepth 20000 in
set_option maxHeartbeats 4000000 in
theorem ok_X4_stateNow {D : ym_D} {b0 : Nat} {N : Nat} {a0 : Option Nat} {h h' : ym_H} {r : Int32} (hf : fn_X4_stateNow N a0 h = some (r, h')) : ym_M D b0 g_X4_stateNow 2 [va_rf a0] h (some (.int r)) h' := by
  unfold fn_X4_stateNow at hf
  refine ym_meth (lv := [(0, va_rf a0)]) (by decide) (by simp [lg_sl, ym_c1, ym_cI, ym_cL, g_X4_stateNow]) (by simp [lv_args, ym_c1, ym_cI, ym_cL]) ?_
  refine ym_aload_n (pc := 0) 0 dX4_stateNow_0 rfl rfl ?_
  obtain ⟨v1, e1, hf⟩ := Option.bind_eq_some_iff.mp hf
  refine ym_get (pc := 1) dX4_stateNow_1 rfl (by decide) iX4 (k := 2) (by decide) wd_344 (ym_gR_v e1) ?_
  refine ym_iconst (pc := 4) (v := 2) dX4_stateNow_4 (by decide) ?_
  obtain ⟨o5, f5, hf⟩ := Option.bind_eq_some_iff.mp hf
  obtain ⟨q5, e5, hf⟩ := Option.bind_eq_some_iff.mp hf
  refine ym_callV (pc := 5) (G2 := g_X2_get) (dep2 := 1) (As := [.int 2]) (st := []) (stk2 := [.long q5.1]) (r2 := (some (.long q5.1))) (h1 := q5.2) dX4_stateNow_5 (ok_X2_get e5) (sc_X4_stateNow_X2_get) wd_389 wd_254 wd_255 (ci := 2) (q0 := (RX2, TX2, 2)) rfl (by decide) rfl f5 rfl rfl (ym_st4 (Nat.le_of_ble_eq_true rfl)) rfl ?_
  refine ym_l2i (pc := 8) dX4_stateNow_8 ?_
  cases hf
  exact ym_iret (pc := 9) dX4_stateNow_9 rfl
theorem dX4_isNewOrCalled_0 : decode cX4_isNewOrCalled 0 = .ok (.aload_n 0, 1) := by decide +kernel
theorem dX4_isNewOrCalled_1 : decode cX4_isNewOrCalled 1 = .ok (.invokevirtual 51, 3) := by decide +kernel
theorem dX4_isNewOrCalled_4 : decode cX4_isNewOrCalled 4 = .ok (.ifCond .eq 11, 3) := by decide +kernel
theorem dX4_isNewOrCalled_7 : decode cX4_isNewOrCalled 7 = .ok (.aload_n 0, 1) := by decide +kernel
theorem dX4_isNewOrCalled_8 : decode cX4_isNewOrCalled 8 = .ok (.invokevirtual 51, 3) := by decide +kernel
theorem dX4_isNewOrCalled_11 : decode cX4_isNewOrCalled 11 = .ok (.iconst 1, 1) := by decide +kernel
theorem dX4_isNewOrCalled_12 : decode cX4_isNewOrCalled 12 = .ok (.if_icmp .ne 7, 3) := by decide +kernel
theorem dX4_isNewOrCalled_15 : decode cX4_isNewOrCalled 15 = .ok (.iconst 1, 1) := by decide +kernel
theorem dX4_isNewOrCalled_16 : decode cX4_isNewOrCalled 16 = .ok (.goto 4, 3) := by decide +kernel
theorem dX4_isNewOrCalled_19 : decode cX4_isNewOrCalled 19 = .ok (.iconst 0, 1) := by decide +kernel
theorem dX4_isNewOrCalled_20 : decode cX4_isNewOrCalled 20 = .ok (.ireturn, 1) := by decide +kernel
theorem sc_X4_isNewOrCalled_X4_stateNow : ym_site g_X4_isNewOrCalled g_X4_stateNow 3 2 0 := ⟨by decide, by decide, wd_388, wd_87, by decide +kernel⟩
def fn_X4_isNewOrCalled (N : Nat) (a0 : Option Nat) (h : ym_H) : Option (Int32 × ym_H) :=
  Option.bind (ym_ob h a0 4) fun o1 =>
  Option.bind (fn_X4_stateNow N a0 h) fun q1 =>
  if q1.1 = 0 then
    some (1, q1.2)
  else
    Option.bind (ym_ob q1.2 a0 4) fun o8 =>
    Option.bind (fn_X4_stateNow N a0 q1.2) fun q8 =>
    if q8.1 = 1 then
      some (1, q8.2)
    else
      some (0, q8.2)
set_option maxRecDepth 20000 in
set_option maxHeartbeats 4000000 in
theorem ok_X4_isNewOrCalled {D : ym_D} {b0 : Nat} {N : Nat} {a0 : Option Nat} {h h' : ym_H} {r : Int32} (hf : fn_X4_isNewOrCalled N a0 h = some (r, h')) : ym_M D b0 g_X4_isNewOrCalled 3 [va_rf a0] h (some (.int r)) h' := by
  unfold fn_X4_isNewOrCalled at hf
  refine ym_meth (lv := [(0, va_rf a0)]) (by decide) (by simp [lg_sl, ym_c1, ym_cI, ym_cL, g_X4_isNewOrCalled]) (by simp [lv_args, ym_c1, ym_cI, ym_cL]) ?_
  refine ym_aload_n (pc := 0) 0 dX4_isNewOrCalled_0 rfl rfl ?_
  obtain ⟨o1, f1, hf⟩ := Option.bind_eq_some_iff.mp hf
  obtain ⟨q1, e1, hf⟩ := Option.bind_eq_some_iff.mp hf
  refine ym_callV (pc := 1) (G2 := g_X4_stateNow) (dep2 := 2) (As := []) (st := []) (stk2 := [.int q1.1]) (r2 := (some (.int q1.1))) (h1 := q1.2) dX4_isNewOrCalled_1 (ok_X4_stateNow e1) (sc_X4_isNewOrCalled_X4_stateNow) wd_539 wd_386 wd_387 (ci := 4) (q0 := (RX4, TX4, 6)) rfl (by decide) rfl f1 rfl rfl (ym_st4 (Nat.le_of_ble_eq_true rfl)) rfl ?_
  by_cases c4 : q1.1 = 0
  · rw [if_pos c4] at hf
    refine ym_if_eq_y (pc := 4) (tgt := 15) dX4_isNewOrCalled_4 (by decide) c4 ?_
    refine ym_iconst (pc := 15) (v := 1) dX4_isNewOrCalled_15 (by decide) ?_
    refine ym_goto (pc := 16) (tgt := 20) dX4_isNewOrCalled_16 (by decide) ?_
    cases hf
    exact ym_zret (pc := 20) dX4_isNewOrCalled_20 rfl rfl
  · rw [if_neg c4] at hf
    refine ym_if_eq_n (pc := 4) (tgt := 15) dX4_isNewOrCalled_4 (by decide) c4 ?_
    refine ym_aload_n (pc := 7) 0 dX4_isNewOrCalled_7 rfl rfl ?_
    obtain ⟨o8, f8, hf⟩ := Option.bind_eq_some_iff.mp hf
    obtain ⟨q8, e8, hf⟩ := Option.bind_eq_some_iff.mp hf
    refine ym_callV (pc := 8) (G2 := g_X4_stateNow) (dep2 := 2) (As := []) (st := []) (stk2 := [.int q8.1]) (r2 := (some (.int q8.1))) (h1 := q8.2) dX4_isNewOrCalled_8 (ok_X4_stateNow e8) (sc_X4_isNewOrCalled_X4_stateNow) wd_539 wd_386 wd_387 (ci := 4) (q0 := (RX4, TX4, 6)) rfl (by decide) rfl f8 rfl rfl (ym_st4 (Nat.le_of_ble_eq_true rfl)) rfl ?_
    refine ym_iconst (pc := 11) (v := 1) dX4_isNewOrCalled_11 (by decide) ?_
    by_cases c12 : q8.1 = 1
    · rw [if_pos c12] at hf
      refine ym_icmp_ne_y (pc := 12) (tgt := 19) dX4_isNewOrCalled_12 (by decide) c12 ?_
      refine ym_iconst (pc := 15) (v := 1) dX4_isNewOrCalled_15 (by decide) ?_
      refine ym_goto (pc := 16) (tgt := 20) dX4_isNewOrCalled_16 (by decide) ?_
      cases hf
      exact ym_zret (pc := 20) dX4_isNewOrCalled_20 rfl rfl
    · rw [if_neg c12] at hf
      refine ym_icmp_ne_n (pc := 12) (tgt := 19) dX4_isNewOrCalled_12 (by decide) c12 ?_
      refine ym_iconst (pc := 19) (v := 0) dX4_isNewOrCalled_19 (by decide) ?_
      cases hf
      exact ym_zret (pc := 20) dX4_isNewOrCalled_20 rfl rfl
theorem dX5_rowOf_0 : decode cX5_rowOf 0 = .ok (.aload_n 0, 1) := by decide +kernel
theorem dX5_rowOf_1 : decode cX5_rowOf 1 = .ok (.invokevirtual 28, 3) := by decide +kernel
theorem dX5_rowOf_4 : decode cX5_rowOf 4 = .ok (.istore_n 2, 1) := by decide +kernel
theorem dX5_rowOf_5 : decode cX5_rowOf 5 = .ok (.iconst 0, 1) := by decide +kernel
theorem dX5_rowOf_6 : decode cX5_rowOf 6 = .ok (.istore_n 3, 1) := by decide +kernel
theorem dX5_rowOf_7 : decode cX5_rowOf 7 = .ok (.iload_n 3, 1) := by decide +kernel
theorem dX5_rowOf_8 : decode cX5_rowOf 8 = .ok (.iload_n 2, 1) := by decide +kernel
theorem dX5_rowOf_9 : decode cX5_rowOf 9 = .ok (.if_icmp .ge 23, 3) := by decide +kernel
theorem dX5_rowOf_12 : decode cX5_rowOf 12 = .ok (.aload_n 0, 1) := by decide +kernel
theorem dX5_rowOf_13 : decode cX5_rowOf 13 = .ok (.iload_n 3, 1) := by decide +kernel
theorem dX5_rowOf_14 : decode cX5_rowOf 14 = .ok (.iconst 0, 1) := by decide +kernel
theorem dX5_rowOf_15 : decode cX5_rowOf 15 = .ok (.invokevirtual 36, 3) := by decide +kernel
theorem dX5_rowOf_18 : decode cX5_rowOf 18 = .ok (.iload_n 1, 1) := by decide +kernel
theorem dX5_rowOf_19 : decode cX5_rowOf 19 = .ok (.i2l, 1) := by decide +kernel
theorem dX5_rowOf_20 : decode cX5_rowOf 20 = .ok (.lcmp, 1) := by decide +kernel
theorem dX5_rowOf_21 : decode cX5_rowOf 21 = .ok (.ifCond .ne 5, 3) := by decide +kernel
theorem dX5_rowOf_24 : decode cX5_rowOf 24 = .ok (.iload_n 3, 1) := by decide +kernel
theorem dX5_rowOf_25 : decode cX5_rowOf 25 = .ok (.ireturn, 1) := by decide +kernel
theorem dX5_rowOf_26 : decode cX5_rowOf 26 = .ok (.iinc 3 1, 3) := by decide +kernel
theorem dX5_rowOf_29 : decode cX5_rowOf 29 = .ok (.goto (-22), 3) := by decide +kernel
theorem dX5_rowOf_32 : decode cX5_rowOf 32 = .ok (.iconst (-1), 1) := by decide +kernel
theorem dX5_rowOf_33 : decode cX5_rowOf 33 = .ok (.ireturn, 1) := by decide +kernel
theorem sc_X5_rowOf_X5_rows : ym_site g_X5_rowOf g_X5_rows 3 2 0 := ⟨by decide, by decide, wd_397, wd_81, by decide +kernel⟩
theorem sc_X5_rowOf_X5_at : ym_site g_X5_rowOf g_X5_at 3 2 2 := ⟨by decide, by decide, wd_402, wd_81, by decide +kernel⟩
def lb_X5_rowOf_7 (K : Option Nat → Int32 → Int32 → Int32 → ym_H → Option (((Unit) ⊕ Int32) × ym_H)) (N : Nat) (w0 : Option Nat) (w1 : Int32) (w2 : Int32) (w3 : Int32) (h : ym_H) : Option (((Unit) ⊕ Int32) × ym_H) :=
  if w2 ≤ w3 then
    some ((.inl ()), h)
  else
    Option.bind (ym_ob h w0 5) fun o15 =>
    Option.bind (fn_X5_at N w0 w3 0 h) fun q15 =>
    if q15.1 = (Int32.toInt64 w1) then
      some ((.inr w3), q15.2)
    else
      K w0 w1 w2 (w3 + 1) q15.2
set_option maxRecDepth 20000 in
set_option maxHeartbeats 4000000 in
theorem ol_X5_rowOf_7 {D : ym_D} {b0 : Nat} {K : Option Nat → Int32 → Int32 → Int32 → ym_H → Option (((Unit) ⊕ Int32) × ym_H)} {N : Nat} {w0 : Option Nat} {w1 : Int32} {w2 : Int32} {w3 : Int32} {h h1 : ym_H} {x : ((Unit) ⊕ Int32)} (hKl : ∀ (u0 : Option Nat) (u1 : Int32) (u2 : Int32) (u3 : Int32) (h h1 : ym_H) (x : ((Unit) ⊕ Int32)), K u0 u1 u2 u3 h = some (x, h1) → ∀ {r0 : Option Value} {h' : ym_H}, Sum.elim (fun z => ym_Y D b0 g_X5_rowOf 3 32 [] [] h1 r0 h') (fun z => r0 = (some (.int z)) ∧ h' = h1) x → ym_Y D b0 g_X5_rowOf 3 7 [(0, va_rf u0), (1, .int u1), (2, .int u2), (3, .int u3)] [] h r0 h') (hf : lb_X5_rowOf_7 K N w0 w1 w2 w3 h = some (x, h1)) {r0 : Option Value} {h' : ym_H} (k : Sum.elim (fun z => ym_Y D b0 g_X5_rowOf 3 32 [] [] h1 r0 h') (fun z => r0 = (some (.int z)) ∧ h' = h1) x) : ym_Y D b0 g_X5_rowOf 3 7 [(0, va_rf w0), (1, .int w1), (2, .int w2), (3, .int w3)] [] h r0 h' := by
  unfold lb_X5_rowOf_7 at hf
  refine ym_iload_n (pc := 7) 3 dX5_rowOf_7 rfl rfl ?_
  refine ym_iload_n (pc := 8) 2 dX5_rowOf_8 rfl rfl ?_
  by_cases c9 : w2 ≤ w3
  · rw [if_pos c9] at hf
    refine ym_icmp_ge_y (pc := 9) (tgt := 32) dX5_rowOf_9 (by decide) c9 ?_
    cases hf
    exact ym_sub [] rfl k
  · rw [if_neg c9] at hf
    refine ym_icmp_ge_n (pc := 9) (tgt := 32) dX5_rowOf_9 (by decide) c9 ?_
    refine ym_aload_n (pc := 12) 0 dX5_rowOf_12 rfl rfl ?_
    refine ym_iload_n (pc := 13) 3 dX5_rowOf_13 rfl rfl ?_
    refine ym_iconst (pc := 14) (v := 0) dX5_rowOf_14 (by decide) ?_
    obtain ⟨o15, f15, hf⟩ := Option.bind_eq_some_iff.mp hf
    obtain ⟨q15, e15, hf⟩ := Option.bind_eq_some_iff.mp hf
    refine ym_callV (pc := 15) (G2 := g_X5_at) (dep2 := 2) (As := [.int w3, .int 0]) (st := []) (stk2 := [.long q15.1]) (r2 := (some (.long q15.1))) (h1 := q15.2) dX5_rowOf_15 (ok_X5_at e15) (sc_X5_rowOf_X5_at) wd_399 wd_400 wd_401 (ci := 5) (q0 := (RX5, TX5, 2)) rfl (by decide) rfl f15 rfl rfl (ym_st4 (Nat.le_of_ble_eq_true rfl)) rfl ?_
    refine ym_iload_n (pc := 18) 1 dX5_rowOf_18 rfl rfl ?_
    refine ym_i2l (pc := 19) dX5_rowOf_19 ?_
    by_cases c20 : q15.1 = (Int32.toInt64 w1)
    · rw [if_pos c20] at hf
      refine ym_lcmp_ne_y (pc := 20) (tgt := 26) dX5_rowOf_20 dX5_rowOf_21 (by decide) c20 ?_
      refine ym_iload_n (pc := 24) 3 dX5_rowOf_24 rfl rfl ?_
      cases hf
      obtain ⟨rfl, rfl⟩ := k
      exact ym_iret (pc := 25) dX5_rowOf_25 rfl
    · rw [if_neg c20] at hf
      refine ym_lcmp_ne_n (pc := 20) (tgt := 26) dX5_rowOf_20 dX5_rowOf_21 (by decide) c20 ?_
      refine ym_iinc (pc := 26) (lv' := [(3, .int (w3 + 1)), (0, va_rf w0), (1, .int w1), (2, .int w2)]) (v := (w3 + 1)) 3 dX5_rowOf_26 rfl (by rw [show Int32.ofInt 1 = 1 by decide]) (by decide) ⟨trivial, trivial, rfl, trivial, trivial⟩ rfl ?_
      refine ym_goto (pc := 29) (tgt := 7) dX5_rowOf_29 (by decide) ?_
      exact ym_sub [1, 2, 3, 0] rfl (hKl _ _ _ _ _ _ _ hf k)
def lp_X5_rowOf_7 (N : Nat) : Nat → Option Nat → Int32 → Int32 → Int32 → ym_H → Option (((Unit) ⊕ Int32) × ym_H)
  | 0, _, _, _, _, _ => none
  | n + 1, w0, w1, w2, w3, h => lb_X5_rowOf_7 (lp_X5_rowOf_7 N n) N w0 w1 w2 w3 h
set_option maxRecDepth 20000 in
set_option maxHeartbeats 4000000 in
theorem ok_lp_X5_rowOf_7 {D : ym_D} {b0 : Nat} {N : Nat}  : ∀ (n : Nat) (w0 : Option Nat) (w1 : Int32) (w2 : Int32) (w3 : Int32) (h h1 : ym_H) (x : ((Unit) ⊕ Int32)), lp_X5_rowOf_7 N n w0 w1 w2 w3 h = some (x, h1) → ∀ {r0 : Option Value} {h' : ym_H}, Sum.elim (fun z => ym_Y D b0 g_X5_rowOf 3 32 [] [] h1 r0 h') (fun z => r0 = (some (.int z)) ∧ h' = h1) x → ym_Y D b0 g_X5_rowOf 3 7 [(0, va_rf w0), (1, .int w1), (2, .int w2), (3, .int w3)] [] h r0 h' := by
  intro n
  induction n with
  | zero =>
    intro w0 w1 w2 w3 h h1 x hf
    cases hf
  | succ n ih =>
    intro w0 w1 w2 w3 h h1 x hf r0 h' k
    exact ol_X5_rowOf_7 (fun w0 w1 w2 w3 h h1 x z r0 h' k => ih w0 w1 w2 w3 h h1 x z k) hf k
def fn_X5_rowOf (N : Nat) (a0 : Option Nat) (a1 : Int32) (h : ym_H) : Option (Int32 × ym_H) :=
  Option.bind (ym_ob h a0 5) fun o1 =>
  Option.bind (fn_X5_rows N a0 h) fun q1 =>
  Option.bind (lp_X5_rowOf_7 N N a0 a1 q1.1 0 q1.2) fun q7 =>
  match q7.1 with
  | .inr y7 => some (y7, q7.2)
  | .inl z7 =>
    some ((-1), q7.2)
set_option maxRecDepth 20000 in
set_option maxHeartbeats 4000000 in
theorem ok_X5_rowOf {D : ym_D} {b0 : Nat} {N : Nat} {a0 : Option Nat} {a1 : Int32} {h h' : ym_H} {r : Int32} (hf : fn_X5_rowOf N a0 a1 h = some (r, h')) : ym_M D b0 g_X5_rowOf 3 [va_rf a0, .int a1] h (some (.int r)) h' := by
  unfold fn_X5_rowOf at hf
  refine ym_meth (lv := [(0, va_rf a0), (1, .int a1)]) (by decide) (by simp [lg_sl, ym_c1, ym_cI, ym_cL, g_X5_rowOf]) (by simp [lv_args, ym_c1, ym_cI, ym_cL]) ?_
  refine ym_aload_n (pc := 0) 0 dX5_rowOf_0 rfl rfl ?_
  obtain ⟨o1, f1, hf⟩ := Option.bind_eq_some_iff.mp hf
  obtain ⟨q1, e1, hf⟩ := Option.bind_eq_some_iff.mp hf
  refine ym_callV (pc := 1) (G2 := g_X5_rows) (dep2 := 2) (As := []) (st := []) (stk2 := [.int q1.1]) (r2 := (some (.int q1.1))) (h1 := q1.2) dX5_rowOf_1 (ok_X5_rows e1) (sc_X5_rowOf_X5_rows) wd_394 wd_395 wd_396 (ci := 5) (q0 := (RX5, TX5, 2)) rfl (by decide) rfl f1 rfl rfl (ym_st4 (Nat.le_of_ble_eq_true rfl)) rfl ?_
  refine ym_istore_n (pc := 4) (lv' := [(2, .int q1.1), (0, va_rf a0), (1, .int a1)]) dX5_rowOf_4 rfl (by decide) ⟨trivial, rfl, trivial⟩ rfl ?_
  refine ym_iconst (pc := 5) (v := 0) dX5_rowOf_5 (by decide) ?_
  refine ym_istore_n (pc := 6) (lv' := [(3, .int 0), (2, .int q1.1), (0, va_rf a0), (1, .int a1)]) dX5_rowOf_6 rfl (by decide) ⟨rfl, trivial, trivial, trivial⟩ rfl ?_
  obtain ⟨⟨x7, g7⟩, e7, hf⟩ := Option.bind_eq_some_iff.mp hf
  refine ym_sub (lv' := [(0, va_rf a0), (1, .int a1), (2, .int q1.1), (3, .int 0)]) [2, 3, 1, 0] rfl ?_
  refine ok_lp_X5_rowOf_7 N _ _ _ _ _ _ _ e7 ?_
  cases x7 with
  | inr y7 =>
    cases hf
    exact ⟨rfl, rfl⟩
  | inl z7 =>
    dsimp only [Sum.elim_inl] at hf ⊢
    refine ym_iconst (pc := 32) (v := (-1)) dX5_rowOf_32 (by decide) ?_
    cases hf
    exact ym_iret (pc := 33) dX5_rowOf_33 rfl
theorem dX1_written_0 : decode cX1_written 0 = .ok (.lconst 0, 1) := by decide +kernel
theorem dX1_written_1 : decode cX1_written 1 = .ok (.lstore 4, 2) := by decide +kernel
theorem dX1_written_3 : decode cX1_written 3 = .ok (.iconst 0, 1) := by decide +kernel
theorem dX1_written_4 : decode cX1_written 4 = .ok (.istore 6, 2) := by decide +kernel
theorem dX1_written_6 : decode cX1_written 6 = .ok (.iload 6, 2) := by decide +kernel
theorem dX1_written_8 : decode cX1_written 8 = .ok (.iload_n 3, 1) := by decide +kernel
theorem dX1_written_9 : decode cX1_written 9 = .ok (.if_icmp .ge 78, 3) := by decide +kernel
theorem dX1_written_12 : decode cX1_written 12 = .ok (.iload 6, 2) := by decide +kernel
theorem dX1_written_14 : decode cX1_written 14 = .ok (.aload_n 2, 1) := by decide +kernel
theorem dX1_written_15 : decode cX1_written 15 = .ok (.arraylength, 1) := by decide +kernel
theorem dX1_written_16 : decode cX1_written 16 = .ok (.if_icmp .ge 71, 3) := by decide +kernel
theorem dX1_written_19 : decode cX1_written 19 = .ok (.aload_n 2, 1) := by decide +kernel
theorem dX1_written_20 : decode cX1_written 20 = .ok (.iload 6, 2) := by decide +kernel
theorem dX1_written_22 : decode cX1_written 22 = .ok (.aaload, 1) := by decide +kernel
theorem dX1_written_23 : decode cX1_written 23 = .ok (.astore 7, 2) := by decide +kernel
theorem dX1_written_25 : decode cX1_written 25 = .ok (.aload 7, 2) := by decide +kernel
theorem dX1_written_27 : decode cX1_written 27 = .ok (.ifnull 54, 3) := by decide +kernel
theorem dX1_written_30 : decode cX1_written 30 = .ok (.aload 7, 2) := by decide +kernel
theorem dX1_written_32 : decode cX1_written 32 = .ok (.invokevirtual 84, 3) := by decide +kernel
theorem dX1_written_35 : decode cX1_written 35 = .ok (.ifCond .ne 6, 3) := by decide +kernel
theorem dX1_written_38 : decode cX1_written 38 = .ok (.goto 43, 3) := by decide +kernel
theorem dX1_written_41 : decode cX1_written 41 = .ok (.aload 7, 2) := by decide +kernel
theorem dX1_written_43 : decode cX1_written 43 = .ok (.getfield 88, 3) := by decide +kernel
theorem dX1_written_46 : decode cX1_written 46 = .ok (.iload_n 1, 1) := by decide +kernel
theorem dX1_written_47 : decode cX1_written 47 = .ok (.invokevirtual 92, 3) := by decide +kernel
theorem dX1_written_50 : decode cX1_written 50 = .ok (.istore 8, 2) := by decide +kernel
theorem dX1_written_52 : decode cX1_written 52 = .ok (.iload 8, 2) := by decide +kernel
theorem dX1_written_54 : decode cX1_written 54 = .ok (.iconst (-1), 1) := by decide +kernel
theorem dX1_written_55 : decode cX1_written 55 = .ok (.if_icmp .eq 26, 3) := by decide +kernel
theorem dX1_written_58 : decode cX1_written 58 = .ok (.lload 4, 2) := by decide +kernel
theorem dX1_written_60 : decode cX1_written 60 = .ok (.aload 7, 2) := by decide +kernel
theorem dX1_written_62 : decode cX1_written 62 = .ok (.getfield 88, 3) := by decide +kernel
theorem dX1_written_65 : decode cX1_written 65 = .ok (.iload 8, 2) := by decide +kernel
theorem dX1_written_67 : decode cX1_written 67 = .ok (.iconst 1, 1) := by decide +kernel
theorem dX1_written_68 : decode cX1_written 68 = .ok (.invokevirtual 98, 3) := by decide +kernel
theorem dX1_written_71 : decode cX1_written 71 = .ok (.aload_n 0, 1) := by decide +kernel
theorem dX1_written_72 : decode cX1_written 72 = .ok (.aload 7, 2) := by decide +kernel
theorem dX1_written_74 : decode cX1_written 74 = .ok (.invokevirtual 70, 3) := by decide +kernel
theorem dX1_written_77 : decode cX1_written 77 = .ok (.lmul, 1) := by decide +kernel
theorem dX1_written_78 : decode cX1_written 78 = .ok (.ladd, 1) := by decide +kernel
theorem dX1_written_79 : decode cX1_written 79 = .ok (.lstore 4, 2) := by decide +kernel
theorem dX1_written_81 : decode cX1_written 81 = .ok (.iinc 6 1, 3) := by decide +kernel
theorem dX1_written_84 : decode cX1_written 84 = .ok (.goto (-78), 3) := by decide +kernel
theorem dX1_written_87 : decode cX1_written 87 = .ok (.lload 4, 2) := by decide +kernel
theorem dX1_written_89 : decode cX1_written 89 = .ok (.lreturn, 1) := by decide +kernel
def bl_X1_written_81_6 (K : Option Nat → Int32 → Option Nat → Int32 → Int64 → Int32 → ym_H → Option ((Int64) × ym_H)) (N : Nat) (w0 : Option Nat) (w1 : Int32) (w2 : Option Nat) (w3 : Int32) (w4 : Int64) (w6 : Int32) (h : ym_H) : Option ((Int64) × ym_H) :=
  K w0 w1 w2 w3 w4 (w6 + 1) h
set_option maxRecDepth 20000 in
set_option maxHeartbeats 4000000 in
theorem ob_X1_written_81_6 {D : ym_D} {b0 : Nat} {K : Option Nat → Int32 → Option Nat → Int32 → Int64 → Int32 → ym_H → Option ((Int64) × ym_H)} {N : Nat} {w0 : Option Nat} {w1 : Int32} {w2 : Option Nat} {w3 : Int32} {w4 : Int64} {w6 : Int32} {h h1 : ym_H} {x : (Int64)} (hKl : ∀ (u0 : Option Nat) (u1 : Int32) (u2 : Option Nat) (u3 : Int32) (u4 : Int64) (u6 : Int32) (h h1 : ym_H) (x : (Int64)), K u0 u1 u2 u3 u4 u6 h = some (x, h1) → ∀ {r0 : Option Value} {h' : ym_H}, ym_Y D b0 g_X1_written 4 87 [(4, .long x)] [] h1 r0 h' → ym_Y D b0 g_X1_written 4 6 [(0, va_rf u0), (1, .int u1), (2, va_rf u2), (3, .int u3), (4, .long u4), (6, .int u6)] [] h r0 h') (hf : bl_X1_written_81_6 K N w0 w1 w2 w3 w4 w6 h = some (x, h1)) {r0 : Option Value} {h' : ym_H} (k : ym_Y D b0 g_X1_written 4 87 [(4, .long x)] [] h1 r0 h') : ym_Y D b0 g_X1_written 4 81 [(0, va_rf w0), (1, .int w1), (2, va_rf w2), (3, .int w3), (4, .long w4), (6, .int w6)] [] h r0 h' := by
  unfold bl_X1_written_81_6 at hf
  refine ym_iinc (pc := 81) (lv' := [(6, .int (w6 + 1)), (0, va_rf w0), (1, .int w1), (2, va_rf w2), (3, .int w3), (4, .long w4)]) (v := (w6 + 1)) 5 dX1_written_81 rfl (by rw [show Int32.ofInt 1 = 1 by decide]) (by decide) ⟨trivial, trivial, trivial, trivial, trivial, trivial, trivial⟩ rfl ?_
  refine ym_goto (pc := 84) (tgt := 6) dX1_written_84 (by decide) ?_
  exact ym_sub [1, 2, 3, 4, 5, 0] rfl (hKl _ _ _ _ _ _ _ _ _ hf k)
theorem sc_X1_written_X4_isNewOrCalled : ym_site g_X1_written g_X4_isNewOrCalled 4 3 0 := ⟨by decide, by decide, wd_585, wd_87, by decide +kernel⟩
theorem sc_X1_written_X5_rowOf : ym_site g_X1_written g_X5_rowOf 4 3 1 := ⟨by decide, by decide, wd_393, wd_81, by decide +kernel⟩
theorem sc_X1_written_X5_at : ym_site g_X1_written g_X5_at 4 2 2 := ⟨by decide, by decide, wd_402, wd_81, by decide +kernel⟩
theorem sc_X1_written_X1_piecesOf : ym_site g_X1_written g_X1_piecesOf 4 2 1 := ⟨by decide, by decide, wd_575, wd_82, by decide +kernel⟩
def lb_X1_written_6 (K : Option Nat → Int32 → Option Nat → Int32 → Int64 → Int32 → ym_H → Option ((Int64) × ym_H)) (N : Nat) (w0 : Option Nat) (w1 : Int32) (w2 : Option Nat) (w3 : Int32) (w4 : Int64) (w6 : Int32) (h : ym_H) : Option ((Int64) × ym_H) :=
  if w3 ≤ w6 then
    some (w4, h)
  else
    Option.bind (ym_len h w2) fun v15 =>
    if v15 ≤ w6 then
      some (w4, h)
    else
      Option.bind (ym_ldR h w2 4 w6) fun v22 =>
      if v22 = none then
        bl_X1_written_81_6 K N w0 w1 w2 w3 w4 w6 h
      else
        Option.bind (ym_ob h v22 4) fun o32 =>
        Option.bind (fn_X4_isNewOrCalled N v22 h) fun q32 =>
        if q32.1 = 0 then
          bl_X1_written_81_6 K N w0 w1 w2 w3 w4 w6 q32.2
        else
          Option.bind (ym_gR q32.2 v22 4 4) fun v43 =>
          Option.bind (ym_ob q32.2 v43 5) fun o47 =>
          Option.bind (fn_X5_rowOf N v43 w1 q32.2) fun q47 =>
          if q47.1 = (-1) then
            bl_X1_written_81_6 K N w0 w1 w2 w3 w4 w6 q47.2
          else
            Option.bind (ym_gR q47.2 v22 4 4) fun v62 =>
            Option.bind (ym_ob q47.2 v62 5) fun o68 =>
            Option.bind (fn_X5_at N v62 q47.1 1 q47.2) fun q68 =>
            Option.bind (ym_ob q68.2 w0 1) fun o74 =>
            Option.bind (fn_X1_piecesOf N w0 v22 q68.2) fun q74 =>
            bl_X1_written_81_6 K N w0 w1 w2 w3 (w4 + (q68.1 * q74.1)) w6 q74.2
set_option maxRecDepth 20000 in
set_option maxHeartbeats 4000000 in
theorem ol_X1_written_6 {D : ym_D} {b0 : Nat} {K : Option Nat → Int32 → Option Nat → Int32 → Int64 → Int32 → ym_H → Option ((Int64) × ym_H)} {N : Nat} {w0 : Option Nat} {w1 : Int32} {w2 : Option Nat} {w3 : Int32} {w4 : Int64} {w6 : Int32} {h h1 : ym_H} {x : (Int64)} (hKl : ∀ (u0 : Option Nat) (u1 : Int32) (u2 : Option Nat) (u3 : Int32) (u4 : Int64) (u6 : Int32) (h h1 : ym_H) (x : (Int64)), K u0 u1 u2 u3 u4 u6 h = some (x, h1) → ∀ {r0 : Option Value} {h' : ym_H}, ym_Y D b0 g_X1_written 4 87 [(4, .long x)] [] h1 r0 h' → ym_Y D b0 g_X1_written 4 6 [(0, va_rf u0), (1, .int u1), (2, va_rf u2), (3, .int u3), (4, .long u4), (6, .int u6)] [] h r0 h') (hf : lb_X1_written_6 K N w0 w1 w2 w3 w4 w6 h = some (x, h1)) {r0 : Option Value} {h' : ym_H} (k : ym_Y D b0 g_X1_written 4 87 [(4, .long x)] [] h1 r0 h') : ym_Y D b0 g_X1_written 4 6 [(0, va_rf w0), (1, .int w1), (2, va_rf w2), (3, .int w3), (4, .long w4), (6, .int w6)] [] h r0 h' := by
  unfold lb_X1_written_6 at hf
  refine ym_iload (pc := 6) 5 dX1_written_6 rfl ?_
  refine ym_iload_n (pc := 8) 3 dX1_written_8 rfl rfl ?_
  by_cases c9 : w3 ≤ w6
  · rw [if_pos c9] at hf
    refine ym_icmp_ge_y (pc := 9) (tgt := 87) dX1_written_9 (by decide) c9 ?_
    cases hf
    exact ym_sub [4] rfl k
  · rw [if_neg c9] at hf
    refine ym_icmp_ge_n (pc := 9) (tgt := 87) dX1_written_9 (by decide) c9 ?_
    refine ym_iload (pc := 12) 5 dX1_written_12 rfl ?_
    refine ym_aload_n (pc := 14) 2 dX1_written_14 rfl rfl ?_
    obtain ⟨v15, e15, hf⟩ := Option.bind_eq_some_iff.mp hf
    refine ym_alen (pc := 15) dX1_written_15 e15 ?_
    by_cases c16 : v15 ≤ w6
    · rw [if_pos c16] at hf
      refine ym_icmp_ge_y (pc := 16) (tgt := 87) dX1_written_16 (by decide) c16 ?_
      cases hf
      exact ym_sub [4] rfl k
    · rw [if_neg c16] at hf
      refine ym_icmp_ge_n (pc := 16) (tgt := 87) dX1_written_16 (by decide) c16 ?_
      refine ym_aload_n (pc := 19) 2 dX1_written_19 rfl rfl ?_
      refine ym_iload (pc := 20) 5 dX1_written_20 rfl ?_
      obtain ⟨v22, e22, hf⟩ := Option.bind_eq_some_iff.mp hf
      refine ym_aald (pc := 22) dX1_written_22 rfl (by decide) (by decide) rfl (ym_ldR_v e22) ?_
      refine ym_astore (pc := 23) (lv' := [(7, va_rf v22), (0, va_rf w0), (1, .int w1), (2, va_rf w2), (3, .int w3), (4, .long w4), (6, .int w6)]) dX1_written_23 (by decide) ⟨trivial, trivial, trivial, trivial, trivial, rfl, trivial⟩ rfl ?_
      refine ym_aload (pc := 25) 0 dX1_written_25 rfl ?_
      by_cases c27 : v22 = none
      · rw [if_pos c27] at hf
        refine ym_ifnull_y (pc := 27) (tgt := 81) dX1_written_27 (by decide) c27 ?_
        exact ym_sub [1, 2, 3, 4, 5, 6] rfl (ob_X1_written_81_6 hKl hf k)
      · rw [if_neg c27] at hf
        refine ym_ifnull_n (pc := 27) (tgt := 81) dX1_written_27 (by decide) c27 ?_
        refine ym_aload (pc := 30) 0 dX1_written_30 rfl ?_
        obtain ⟨o32, f32, hf⟩ := Option.bind_eq_some_iff.mp hf
        obtain ⟨q32, e32, hf⟩ := Option.bind_eq_some_iff.mp hf
        refine ym_callV (pc := 32) (G2 := g_X4_isNewOrCalled) (dep2 := 3) (As := []) (st := []) (stk2 := [.int q32.1]) (r2 := (some (.int q32.1))) (h1 := q32.2) dX1_written_32 (ok_X4_isNewOrCalled e32) (sc_X1_written_X4_isNewOrCalled) wd_582 wd_583 wd_584 (ci := 4) (q0 := (RX4, TX4, 6)) rfl (by decide) rfl f32 rfl rfl (ym_st4 (Nat.le_of_ble_eq_true rfl)) rfl ?_
        by_cases c35 : q32.1 = 0
        · rw [if_pos c35] at hf
          refine ym_if_ne_y (pc := 35) (tgt := 41) dX1_written_35 (by decide) c35 ?_
          refine ym_goto (pc := 38) (tgt := 81) dX1_written_38 (by decide) ?_
          exact ym_sub [1, 2, 3, 4, 5, 6] rfl (ob_X1_written_81_6 hKl hf k)
        · rw [if_neg c35] at hf
          refine ym_if_ne_n (pc := 35) (tgt := 41) dX1_written_35 (by decide) c35 ?_
          refine ym_aload (pc := 41) 0 dX1_written_41 rfl ?_
          obtain ⟨v43, e43, hf⟩ := Option.bind_eq_some_iff.mp hf
          refine ym_getN (pc := 43) dX1_written_43 rfl (by decide) iX4 (k := 4) (by decide) wd_350 (ym_gR_v e43) ?_
          refine ym_iload_n (pc := 46) 2 dX1_written_46 rfl rfl ?_
          obtain ⟨o47, f47, hf⟩ := Option.bind_eq_some_iff.mp hf
          obtain ⟨q47, e47, hf⟩ := Option.bind_eq_some_iff.mp hf
          refine ym_callV (pc := 47) (G2 := g_X5_rowOf) (dep2 := 3) (As := [.int w1]) (st := []) (stk2 := [.int q47.1]) (r2 := (some (.int q47.1))) (h1 := q47.2) dX1_written_47 (ok_X5_rowOf e47) (sc_X1_written_X5_rowOf) wd_586 wd_391 wd_392 (ci := 5) (q0 := (RX5, TX5, 2)) rfl (by decide) rfl f47 rfl rfl (ym_st4 (Nat.le_of_ble_eq_true rfl)) rfl ?_
          refine ym_istore (pc := 50) (lv' := [(8, .int q47.1), (7, va_rf v22), (0, va_rf w0), (1, .int w1), (2, va_rf w2), (3, .int w3), (4, .long w4), (6, .int w6)]) dX1_written_50 (by decide) ⟨ym_c1 v22, trivial, trivial, trivial, trivial, trivial, trivial, trivial⟩ rfl ?_
          refine ym_iload (pc := 52) 0 dX1_written_52 rfl ?_
          refine ym_iconst (pc := 54) (v := (-1)) dX1_written_54 (by decide) ?_
          by_cases c55 : q47.1 = (-1)
          · rw [if_pos c55] at hf
            refine ym_icmp_eq_y (pc := 55) (tgt := 81) dX1_written_55 (by decide) c55 ?_
            exact ym_sub [2, 3, 4, 5, 6, 7] rfl (ob_X1_written_81_6 hKl hf k)
          · rw [if_neg c55] at hf
            refine ym_icmp_eq_n (pc := 55) (tgt := 81) dX1_written_55 (by decide) c55 ?_
            refine ym_lload (pc := 58) 6 dX1_written_58 rfl ?_
            refine ym_aload (pc := 60) 1 dX1_written_60 rfl ?_
            obtain ⟨v62, e62, hf⟩ := Option.bind_eq_some_iff.mp hf
            refine ym_getN (pc := 62) dX1_written_62 rfl (by decide) iX4 (k := 4) (by decide) wd_350 (ym_gR_v e62) ?_
            refine ym_iload (pc := 65) 0 dX1_written_65 rfl ?_
            refine ym_iconst (pc := 67) (v := 1) dX1_written_67 (by decide) ?_
            obtain ⟨o68, f68, hf⟩ := Option.bind_eq_some_iff.mp hf
            obtain ⟨q68, e68, hf⟩ := Option.bind_eq_some_iff.mp hf
            refine ym_callV (pc := 68) (G2 := g_X5_at) (dep2 := 2) (As := [.int q47.1, .int 1]) (st := [.long w4]) (stk2 := [.long q68.1, .long w4]) (r2 := (some (.long q68.1))) (h1 := q68.2) dX1_written_68 (ok_X5_at e68) (sc_X1_written_X5_at) wd_587 wd_400 wd_401 (ci := 5) (q0 := (RX5, TX5, 2)) rfl (by decide) rfl f68 rfl rfl (ym_st4 (Nat.le_of_ble_eq_true rfl)) rfl ?_
            refine ym_aload_n (pc := 71) 2 dX1_written_71 rfl rfl ?_
            refine ym_aload (pc := 72) 1 dX1_written_72 rfl ?_
            obtain ⟨o74, f74, hf⟩ := Option.bind_eq_some_iff.mp hf
            obtain ⟨q74, e74, hf⟩ := Option.bind_eq_some_iff.mp hf
            refine ym_callV (pc := 74) (G2 := g_X1_piecesOf) (dep2 := 2) (As := [va_rf v22]) (st := [.long q68.1, .long w4]) (stk2 := [.long q74.1, .long q68.1, .long w4]) (r2 := (some (.long q74.1))) (h1 := q74.2) dX1_written_74 (ok_X1_piecesOf e74) (sc_X1_written_X1_piecesOf) wd_572 wd_573 wd_574 (ci := 1) (q0 := (RX1, TX1, 3)) rfl (by decide) rfl f74 rfl rfl (ym_st4 (Nat.le_of_ble_eq_true rfl)) rfl ?_
            refine ym_lmul (pc := 77) dX1_written_77 ?_
            refine ym_ladd (pc := 78) dX1_written_78 ?_
            refine ym_sub (lv' := [(0, va_rf w0), (1, .int w1), (2, va_rf w2), (3, .int w3), (6, .int w6)]) [2, 3, 4, 5, 7] rfl ?_
            refine ym_lstore (pc := 79) (lv' := [(4, .long (w4 + (q68.1 * q74.1))), (0, va_rf w0), (1, .int w1), (2, va_rf w2), (3, .int w3), (6, .int w6)]) dX1_written_79 (by decide) ⟨trivial, trivial, trivial, rfl, trivial, trivial⟩ rfl ?_
            exact ym_sub [1, 2, 3, 4, 0, 5] rfl (ob_X1_written_81_6 hKl hf k)
def lp_X1_written_6 (N : Nat) : Nat → Option Nat → Int32 → Option Nat → Int32 → Int64 → Int32 → ym_H → Option ((Int64) × ym_H)
  | 0, _, _, _, _, _, _, _ => none
  | n + 1, w0, w1, w2, w3, w4, w6, h => lb_X1_written_6 (lp_X1_written_6 N n) N w0 w1 w2 w3 w4 w6 h
set_option maxRecDepth 20000 in
set_option maxHeartbeats 4000000 in
theorem ok_lp_X1_written_6 {D : ym_D} {b0 : Nat} {N : Nat}  : ∀ (n : Nat) (w0 : Option Nat) (w1 : Int32) (w2 : Option Nat) (w3 : Int32) (w4 : Int64) (w6 : Int32) (h h1 : ym_H) (x : (Int64)), lp_X1_written_6 N n w0 w1 w2 w3 w4 w6 h = some (x, h1) → ∀ {r0 : Option Value} {h' : ym_H}, ym_Y D b0 g_X1_written 4 87 [(4, .long x)] [] h1 r0 h' → ym_Y D b0 g_X1_written 4 6 [(0, va_rf w0), (1, .int w1), (2, va_rf w2), (3, .int w3), (4, .long w4), (6, .int w6)] [] h r0 h' := by
  intro n
  induction n with
  | zero =>
    intro w0 w1 w2 w3 w4 w6 h h1 x hf
    cases hf
  | succ n ih =>
    intro w0 w1 w2 w3 w4 w6 h h1 x hf r0 h' k
    exact ol_X1_written_6 (fun w0 w1 w2 w3 w4 w6 h h1 x z r0 h' k => ih w0 w1 w2 w3 w4 w6 h h1 x z k) hf k
def fn_X1_written (N : Nat) (a0 : Option Nat) (a1 : Int32) (a2 : Option Nat) (a3 : Int32) (h : ym_H) : Option (Int64 × ym_H) :=
  Option.bind (lp_X1_written_6 N N a0 a1 a2 a3 0 0 h) fun q6 =>
  some (q6.1, q6.2)
set_option maxRecDepth 20000 in
set_option maxHeartbeats 4000000 in
theorem ok_X1_written {D : ym_D} {b0 : Nat} {N : Nat} {a0 : Option Nat} {a1 : Int32} {a2 : Option Nat} {a3 : Int32} {h h' : ym_H} {r : Int64} (hf : fn_X1_written N a0 a1 a2 a3 h = some (r, h')) : ym_M D b0 g_X1_written 4 [va_rf a0, .int a1, va_rf a2, .int a3] h (some (.long r)) h' := by
  unfold fn_X1_written at hf
  refine ym_meth (lv := [(0, va_rf a0), (1, .int a1), (2, va_rf a2), (3, .int a3)]) (by decide) (by simp [lg_sl, ym_c1, ym_cI, ym_cL, g_X1_written]) (by simp [lv_args, ym_c1, ym_cI, ym_cL]) ?_
  refine ym_lconst (pc := 0) (v := 0) dX1_written_0 (by decide) ?_
  refine ym_lstore (pc := 1) (lv' := [(4, .long 0), (0, va_rf a0), (1, .int a1), (2, va_rf a2), (3, .int a3)]) dX1_written_1 (by decide) ⟨trivial, trivial, trivial, rfl, trivial⟩ rfl ?_
  refine ym_iconst (pc := 3) (v := 0) dX1_written_3 (by decide) ?_
  refine ym_istore (pc := 4) (lv' := [(6, .int 0), (4, .long 0), (0, va_rf a0), (1, .int a1), (2, va_rf a2), (3, .int a3)]) dX1_written_4 (by decide) ⟨trivial, trivial, trivial, trivial, trivial, trivial⟩ rfl ?_
  obtain ⟨q6, e6, hf⟩ := Option.bind_eq_some_iff.mp hf
  refine ym_sub (lv' := [(0, va_rf a0), (1, .int a1), (2, va_rf a2), (3, .int a3), (4, .long 0), (6, .int 0)]) [2, 3, 4, 5, 1, 0] rfl ?_
  refine ok_lp_X1_written_6 N _ _ _ _ _ _ _ _ _ e6 ?_
  refine ym_lload (pc := 87) 0 dX1_written_87 rfl ?_
  cases hf
  exact ym_lret (pc := 89) dX1_written_89 rfl
theorem dX1_mayBid_0 : decode cX1_mayBid 0 = .ok (.aload_n 1, 1) := by decide +kernel
theorem dX1_mayBid_1 : decode cX1_mayBid 1 = .ok (.getfield 63, 3) := by decide +kernel
theorem dX1_mayBid_4 : decode cX1_mayBid 4 = .ok (.iconst 4, 1) := by decide +kernel
theorem dX1_mayBid_5 : decode cX1_mayBid 5 = .ok (.if_icmp .ne 24, 3) := by decide +kernel
theorem dX1_mayBid_8 : decode cX1_mayBid 8 = .ok (.aload_n 0, 1) := by decide +kernel
theorem dX1_mayBid_9 : decode cX1_mayBid 9 = .ok (.bipush 8, 2) := by decide +kernel
theorem dX1_mayBid_11 : decode cX1_mayBid 11 = .ok (.invokevirtual 28, 3) := by decide +kernel
theorem dX1_mayBid_14 : decode cX1_mayBid 14 = .ok (.lload_n 3, 1) := by decide +kernel
theorem dX1_mayBid_15 : decode cX1_mayBid 15 = .ok (.aload_n 2, 1) := by decide +kernel
theorem dX1_mayBid_16 : decode cX1_mayBid 16 = .ok (.getfield 66, 3) := by decide +kernel
theorem dX1_mayBid_19 : decode cX1_mayBid 19 = .ok (.lcmp, 1) := by decide +kernel
theorem dX1_mayBid_20 : decode cX1_mayBid 20 = .ok (.ifCond .ge 7, 3) := by decide +kernel
theorem dX1_mayBid_23 : decode cX1_mayBid 23 = .ok (.iconst 1, 1) := by decide +kernel
theorem dX1_mayBid_24 : decode cX1_mayBid 24 = .ok (.goto 4, 3) := by decide +kernel
theorem dX1_mayBid_27 : decode cX1_mayBid 27 = .ok (.iconst 0, 1) := by decide +kernel
theorem dX1_mayBid_28 : decode cX1_mayBid 28 = .ok (.ireturn, 1) := by decide +kernel
theorem dX1_mayBid_29 : decode cX1_mayBid 29 = .ok (.aload_n 1, 1) := by decide +kernel
theorem dX1_mayBid_30 : decode cX1_mayBid 30 = .ok (.getfield 63, 3) := by decide +kernel
theorem dX1_mayBid_33 : decode cX1_mayBid 33 = .ok (.iconst 3, 1) := by decide +kernel
theorem dX1_mayBid_34 : decode cX1_mayBid 34 = .ok (.if_icmp .ne 53, 3) := by decide +kernel
theorem dX1_mayBid_37 : decode cX1_mayBid 37 = .ok (.aload_n 0, 1) := by decide +kernel
theorem dX1_mayBid_38 : decode cX1_mayBid 38 = .ok (.bipush 10, 2) := by decide +kernel
theorem dX1_mayBid_40 : decode cX1_mayBid 40 = .ok (.invokevirtual 28, 3) := by decide +kernel
theorem dX1_mayBid_43 : decode cX1_mayBid 43 = .ok (.aload_n 0, 1) := by decide +kernel
theorem dX1_mayBid_44 : decode cX1_mayBid 44 = .ok (.bipush 9, 2) := by decide +kernel
theorem dX1_mayBid_46 : decode cX1_mayBid 46 = .ok (.invokevirtual 28, 3) := by decide +kernel
theorem dX1_mayBid_49 : decode cX1_mayBid 49 = .ok (.lload_n 3, 1) := by decide +kernel
theorem dX1_mayBid_50 : decode cX1_mayBid 50 = .ok (.aload_n 0, 1) := by decide +kernel
theorem dX1_mayBid_51 : decode cX1_mayBid 51 = .ok (.aload_n 2, 1) := by decide +kernel
theorem dX1_mayBid_52 : decode cX1_mayBid 52 = .ok (.invokevirtual 70, 3) := by decide +kernel
theorem dX1_mayBid_55 : decode cX1_mayBid 55 = .ok (.lmul, 1) := by decide +kernel
theorem dX1_mayBid_56 : decode cX1_mayBid 56 = .ok (.lstore 7, 2) := by decide +kernel
theorem dX1_mayBid_58 : decode cX1_mayBid 58 = .ok (.lload 7, 2) := by decide +kernel
theorem dX1_mayBid_60 : decode cX1_mayBid 60 = .ok (.aload_n 0, 1) := by decide +kernel
theorem dX1_mayBid_61 : decode cX1_mayBid 61 = .ok (.aload_n 1, 1) := by decide +kernel
theorem dX1_mayBid_62 : decode cX1_mayBid 62 = .ok (.getfield 74, 3) := by decide +kernel
theorem dX1_mayBid_65 : decode cX1_mayBid 65 = .ok (.aload 5, 2) := by decide +kernel
theorem dX1_mayBid_67 : decode cX1_mayBid 67 = .ok (.iload 6, 2) := by decide +kernel
theorem dX1_mayBid_69 : decode cX1_mayBid 69 = .ok (.invokevirtual 77, 3) := by decide +kernel
theorem dX1_mayBid_72 : decode cX1_mayBid 72 = .ok (.ladd, 1) := by decide +kernel
theorem dX1_mayBid_73 : decode cX1_mayBid 73 = .ok (.aload_n 1, 1) := by decide +kernel
theorem dX1_mayBid_74 : decode cX1_mayBid 74 = .ok (.getfield 81, 3) := by decide +kernel
theorem dX1_mayBid_77 : decode cX1_mayBid 77 = .ok (.lcmp, 1) := by decide +kernel
theorem dX1_mayBid_78 : decode cX1_mayBid 78 = .ok (.ifCond .gt 7, 3) := by decide +kernel
theorem dX1_mayBid_81 : decode cX1_mayBid 81 = .ok (.iconst 1, 1) := by decide +kernel
theorem dX1_mayBid_82 : decode cX1_mayBid 82 = .ok (.goto 4, 3) := by decide +kernel
theorem dX1_mayBid_85 : decode cX1_mayBid 85 = .ok (.iconst 0, 1) := by decide +kernel
theorem dX1_mayBid_86 : decode cX1_mayBid 86 = .ok (.ireturn, 1) := by decide +kernel
theorem dX1_mayBid_87 : decode cX1_mayBid 87 = .ok (.aload_n 0, 1) := by decide +kernel
theorem dX1_mayBid_88 : decode cX1_mayBid 88 = .ok (.aload_n 1, 1) := by decide +kernel
theorem dX1_mayBid_89 : decode cX1_mayBid 89 = .ok (.getfield 63, 3) := by decide +kernel
theorem dX1_mayBid_92 : decode cX1_mayBid 92 = .ok (.iconst 2, 1) := by decide +kernel
theorem dX1_mayBid_93 : decode cX1_mayBid 93 = .ok (.if_icmp .ne 8, 3) := by decide +kernel
theorem dX1_mayBid_96 : decode cX1_mayBid 96 = .ok (.bipush 9, 2) := by decide +kernel
theorem dX1_mayBid_98 : decode cX1_mayBid 98 = .ok (.goto 5, 3) := by decide +kernel
theorem dX1_mayBid_101 : decode cX1_mayBid 101 = .ok (.bipush 7, 2) := by decide +kernel
theorem dX1_mayBid_103 : decode cX1_mayBid 103 = .ok (.invokevirtual 28, 3) := by decide +kernel
theorem dX1_mayBid_106 : decode cX1_mayBid 106 = .ok (.iconst 1, 1) := by decide +kernel
theorem dX1_mayBid_107 : decode cX1_mayBid 107 = .ok (.ireturn, 1) := by decide +kernel
theorem sc_X1_mayBid_X1_run : ym_site g_X1_mayBid g_X1_run 5 1 1 := ⟨by decide, by decide, wd_562, wd_82, by decide +kernel⟩
theorem sc_X1_mayBid_X1_piecesOf : ym_site g_X1_mayBid g_X1_piecesOf 5 2 1 := ⟨by decide, by decide, wd_575, wd_82, by decide +kernel⟩
theorem sc_X1_mayBid_X1_written : ym_site g_X1_mayBid g_X1_written 5 4 3 := ⟨by decide, by decide, wd_581, wd_82, by decide +kernel⟩
def bl_X1_mayBid_103 (N : Nat) (s0 : Int32) (s1 : Option Nat) (h : ym_H) : Option (Int32 × ym_H) :=
  Option.bind (ym_ob h s1 1) fun o103 =>
  Option.bind (fn_X1_run N s1 s0 h) fun q103 =>
  some (1, q103.2)
set_option maxRecDepth 20000 in
set_option maxHeartbeats 4000000 in
theorem ob_X1_mayBid_103 {D : ym_D} {b0 : Nat} {N : Nat} {s0 : Int32} {s1 : Option Nat} {h h' : ym_H} {r : Int32} (hf : bl_X1_mayBid_103 N s0 s1 h = some (r, h')) : ym_Y D b0 g_X1_mayBid 5 103 [] [.int s0, va_rf s1] h (some (.int r)) h' := by
  unfold bl_X1_mayBid_103 at hf
  obtain ⟨o103, f103, hf⟩ := Option.bind_eq_some_iff.mp hf
  obtain ⟨q103, e103, hf⟩ := Option.bind_eq_some_iff.mp hf
  refine ym_callV (pc := 103) (G2 := g_X1_run) (dep2 := 1) (As := [.int s0]) (st := []) (stk2 := []) (r2 := none) (h1 := q103.2) dX1_mayBid_103 (ok_X1_run e103) (sc_X1_mayBid_X1_run) wd_559 wd_561 wd_10 (ci := 1) (q0 := (RX1, TX1, 3)) rfl (by decide) rfl f103 rfl rfl (ym_st4 (Nat.le_of_ble_eq_true rfl)) rfl ?_
  refine ym_iconst (pc := 106) (v := 1) dX1_mayBid_106 (by decide) ?_
  cases hf
  exact ym_zret (pc := 107) dX1_mayBid_107 rfl rfl
def fn_X1_mayBid (N : Nat) (a0 : Option Nat) (a1 : Option Nat) (a2 : Option Nat) (a3 : Int64) (a5 : Option Nat) (a6 : Int32) (h : ym_H) : Option (Int32 × ym_H) :=
  Option.bind (ym_gI h a1 0 0) fun v1 =>
  if v1 = 4 then
    Option.bind (ym_ob h a0 1) fun o11 =>
    Option.bind (fn_X1_run N a0 8 h) fun q11 =>
    Option.bind (ym_gL q11.2 a2 4 1) fun v16 =>
    if v16 ≤ a3 then
      some (0, q11.2)
    else
      some (1, q11.2)
  else
    Option.bind (ym_gI h a1 0 0) fun v30 =>
    if v30 = 3 then
      Option.bind (ym_ob h a0 1) fun o40 =>
      Option.bind (fn_X1_run N a0 10 h) fun q40 =>
      Option.bind (ym_ob q40.2 a0 1) fun o46 =>
      Option.bind (fn_X1_run N a0 9 q40.2) fun q46 =>
      Option.bind (ym_ob q46.2 a0 1) fun o52 =>
      Option.bind (fn_X1_piecesOf N a0 a2 q46.2) fun q52 =>
      Option.bind (ym_gI q52.2 a1 0 1) fun v62 =>
      Option.bind (ym_ob q52.2 a0 1) fun o69 =>
      Option.bind (fn_X1_written N a0 v62 a5 a6 q52.2) fun q69 =>
      Option.bind (ym_gL q69.2 a1 0 2) fun v74 =>
      if v74 < ((a3 * q52.1) + q69.1) then
        some (0, q69.2)
      else
        some (1, q69.2)
    else
      Option.bind (ym_gI h a1 0 0) fun v89 =>
      if v89 = 2 then
        bl_X1_mayBid_103 N 9 a0 h
      else
        bl_X1_mayBid_103 N 7 a0 h
set_option maxRecDepth 20000 in
set_option maxHeartbeats 4000000 in
theorem ok_X1_mayBid {D : ym_D} {b0 : Nat} {N : Nat} {a0 : Option Nat} {a1 : Option Nat} {a2 : Option Nat} {a3 : Int64} {a5 : Option Nat} {a6 : Int32} {h h' : ym_H} {r : Int32} (hf : fn_X1_mayBid N a0 a1 a2 a3 a5 a6 h = some (r, h')) : ym_M D b0 g_X1_mayBid 5 [va_rf a0, va_rf a1, va_rf a2, .long a3, va_rf a5, .int a6] h (some (.int r)) h' := by
  unfold fn_X1_mayBid at hf
  refine ym_meth (lv := [(0, va_rf a0), (1, va_rf a1), (2, va_rf a2), (3, .long a3), (5, va_rf a5), (6, .int a6)]) (by decide) (by simp [lg_sl, ym_c1, ym_cI, ym_cL, g_X1_mayBid]) (by simp [lv_args, ym_c1, ym_cI, ym_cL]) ?_
  refine ym_aload_n (pc := 0) 1 dX1_mayBid_0 rfl rfl ?_
  obtain ⟨v1, e1, hf⟩ := Option.bind_eq_some_iff.mp hf
  refine ym_getN (pc := 1) dX1_mayBid_1 rfl (by decide) iX0 (k := 0) (by decide) wd_265 (ym_gI_v e1) ?_
  refine ym_iconst (pc := 4) (v := 4) dX1_mayBid_4 (by decide) ?_
  by_cases c5 : v1 = 4
  · rw [if_pos c5] at hf
    refine ym_icmp_ne_y (pc := 5) (tgt := 29) dX1_mayBid_5 (by decide) c5 ?_
    refine ym_aload_n (pc := 8) 0 dX1_mayBid_8 rfl rfl ?_
    refine ym_bipush (pc := 9) (v := 8) dX1_mayBid_9 (by decide) ?_
    obtain ⟨o11, f11, hf⟩ := Option.bind_eq_some_iff.mp hf
    obtain ⟨q11, e11, hf⟩ := Option.bind_eq_some_iff.mp hf
    refine ym_callV (pc := 11) (G2 := g_X1_run) (dep2 := 1) (As := [.int 8]) (st := []) (stk2 := []) (r2 := none) (h1 := q11.2) dX1_mayBid_11 (ok_X1_run e11) (sc_X1_mayBid_X1_run) wd_559 wd_561 wd_10 (ci := 1) (q0 := (RX1, TX1, 3)) rfl (by decide) rfl f11 rfl rfl (ym_st4 (Nat.le_of_ble_eq_true rfl)) rfl ?_
    refine ym_lload_n (pc := 14) 3 dX1_mayBid_14 rfl rfl ?_
    refine ym_aload_n (pc := 15) 2 dX1_mayBid_15 rfl rfl ?_
    obtain ⟨v16, e16, hf⟩ := Option.bind_eq_some_iff.mp hf
    refine ym_getN (pc := 16) dX1_mayBid_16 rfl (by decide) iX4 (k := 1) (by decide) wd_342 (ym_gL_v e16) ?_
    by_cases c19 : v16 ≤ a3
    · rw [if_pos c19] at hf
      refine ym_lcmp_ge_y (pc := 19) (tgt := 27) dX1_mayBid_19 dX1_mayBid_20 (by decide) c19 ?_
      refine ym_iconst (pc := 27) (v := 0) dX1_mayBid_27 (by decide) ?_
      cases hf
      exact ym_zret (pc := 28) dX1_mayBid_28 rfl rfl
    · rw [if_neg c19] at hf
      refine ym_lcmp_ge_n (pc := 19) (tgt := 27) dX1_mayBid_19 dX1_mayBid_20 (by decide) c19 ?_
      refine ym_iconst (pc := 23) (v := 1) dX1_mayBid_23 (by decide) ?_
      refine ym_goto (pc := 24) (tgt := 28) dX1_mayBid_24 (by decide) ?_
      cases hf
      exact ym_zret (pc := 28) dX1_mayBid_28 rfl rfl
  · rw [if_neg c5] at hf
    refine ym_icmp_ne_n (pc := 5) (tgt := 29) dX1_mayBid_5 (by decide) c5 ?_
    refine ym_aload_n (pc := 29) 1 dX1_mayBid_29 rfl rfl ?_
    obtain ⟨v30, e30, hf⟩ := Option.bind_eq_some_iff.mp hf
    refine ym_getN (pc := 30) dX1_mayBid_30 rfl (by decide) iX0 (k := 0) (by decide) wd_265 (ym_gI_v e30) ?_
    refine ym_iconst (pc := 33) (v := 3) dX1_mayBid_33 (by decide) ?_
    by_cases c34 : v30 = 3
    · rw [if_pos c34] at hf
      refine ym_icmp_ne_y (pc := 34) (tgt := 87) dX1_mayBid_34 (by decide) c34 ?_
      refine ym_aload_n (pc := 37) 0 dX1_mayBid_37 rfl rfl ?_
      refine ym_bipush (pc := 38) (v := 10) dX1_mayBid_38 (by decide) ?_
      obtain ⟨o40, f40, hf⟩ := Option.bind_eq_some_iff.mp hf
      obtain ⟨q40, e40, hf⟩ := Option.bind_eq_some_iff.mp hf
      refine ym_callV (pc := 40) (G2 := g_X1_run) (dep2 := 1) (As := [.int 10]) (st := []) (stk2 := []) (r2 := none) (h1 := q40.2) dX1_mayBid_40 (ok_X1_run e40) (sc_X1_mayBid_X1_run) wd_559 wd_561 wd_10 (ci := 1) (q0 := (RX1, TX1, 3)) rfl (by decide) rfl f40 rfl rfl (ym_st4 (Nat.le_of_ble_eq_true rfl)) rfl ?_
      refine ym_aload_n (pc := 43) 0 dX1_mayBid_43 rfl rfl ?_
      refine ym_bipush (pc := 44) (v := 9) dX1_mayBid_44 (by decide) ?_
      obtain ⟨o46, f46, hf⟩ := Option.bind_eq_some_iff.mp hf
      obtain ⟨q46, e46, hf⟩ := Option.bind_eq_some_iff.mp hf
      refine ym_callV (pc := 46) (G2 := g_X1_run) (dep2 := 1) (As := [.int 9]) (st := []) (stk2 := []) (r2 := none) (h1 := q46.2) dX1_mayBid_46 (ok_X1_run e46) (sc_X1_mayBid_X1_run) wd_559 wd_561 wd_10 (ci := 1) (q0 := (RX1, TX1, 3)) rfl (by decide) rfl f46 rfl rfl (ym_st4 (Nat.le_of_ble_eq_true rfl)) rfl ?_
      refine ym_lload_n (pc := 49) 3 dX1_mayBid_49 rfl rfl ?_
      refine ym_aload_n (pc := 50) 0 dX1_mayBid_50 rfl rfl ?_
      refine ym_aload_n (pc := 51) 2 dX1_mayBid_51 rfl rfl ?_
      obtain ⟨o52, f52, hf⟩ := Option.bind_eq_some_iff.mp hf
      obtain ⟨q52, e52, hf⟩ := Option.bind_eq_some_iff.mp hf
      refine ym_callV (pc := 52) (G2 := g_X1_piecesOf) (dep2 := 2) (As := [va_rf a2]) (st := [.long a3]) (stk2 := [.long q52.1, .long a3]) (r2 := (some (.long q52.1))) (h1 := q52.2) dX1_mayBid_52 (ok_X1_piecesOf e52) (sc_X1_mayBid_X1_piecesOf) wd_572 wd_573 wd_574 (ci := 1) (q0 := (RX1, TX1, 3)) rfl (by decide) rfl f52 rfl rfl (ym_st4 (Nat.le_of_ble_eq_true rfl)) rfl ?_
      refine ym_lmul (pc := 55) dX1_mayBid_55 ?_
      refine ym_sub (lv' := [(0, va_rf a0), (1, va_rf a1), (5, va_rf a5), (6, .int a6)]) [0, 1, 4, 5] rfl ?_
      refine ym_lstore (pc := 56) (lv' := [(7, .long (a3 * q52.1)), (0, va_rf a0), (1, va_rf a1), (5, va_rf a5), (6, .int a6)]) dX1_mayBid_56 (by decide) ⟨trivial, trivial, trivial, rfl, trivial⟩ rfl ?_
      refine ym_lload (pc := 58) 0 dX1_mayBid_58 rfl ?_
      refine ym_aload_n (pc := 60) 1 dX1_mayBid_60 rfl rfl ?_
      refine ym_aload_n (pc := 61) 2 dX1_mayBid_61 rfl rfl ?_
      obtain ⟨v62, e62, hf⟩ := Option.bind_eq_some_iff.mp hf
      refine ym_getN (pc := 62) dX1_mayBid_62 rfl (by decide) iX0 (k := 1) (by decide) wd_268 (ym_gI_v e62) ?_
      refine ym_aload (pc := 65) 3 dX1_mayBid_65 rfl ?_
      refine ym_iload (pc := 67) 4 dX1_mayBid_67 rfl ?_
      obtain ⟨o69, f69, hf⟩ := Option.bind_eq_some_iff.mp hf
      obtain ⟨q69, e69, hf⟩ := Option.bind_eq_some_iff.mp hf
      refine ym_callV (pc := 69) (G2 := g_X1_written) (dep2 := 4) (As := [.int v62, va_rf a5, .int a6]) (st := [.long (a3 * q52.1)]) (stk2 := [.long q69.1, .long (a3 * q52.1)]) (r2 := (some (.long q69.1))) (h1 := q69.2) dX1_mayBid_69 (ok_X1_written e69) (sc_X1_mayBid_X1_written) wd_578 wd_580 wd_11 (ci := 1) (q0 := (RX1, TX1, 3)) rfl (by decide) rfl f69 rfl rfl (ym_st4 (Nat.le_of_ble_eq_true rfl)) rfl ?_
      refine ym_ladd (pc := 72) dX1_mayBid_72 ?_
      refine ym_aload_n (pc := 73) 2 dX1_mayBid_73 rfl rfl ?_
      obtain ⟨v74, e74, hf⟩ := Option.bind_eq_some_iff.mp hf
      refine ym_getN (pc := 74) dX1_mayBid_74 rfl (by decide) iX0 (k := 2) (by decide) wd_270 (ym_gL_v e74) ?_
      by_cases c77 : v74 < ((a3 * q52.1) + q69.1)
      · rw [if_pos c77] at hf
        refine ym_lcmp_gt_y (pc := 77) (tgt := 85) dX1_mayBid_77 dX1_mayBid_78 (by decide) c77 ?_
        refine ym_iconst (pc := 85) (v := 0) dX1_mayBid_85 (by decide) ?_
        cases hf
        exact ym_zret (pc := 86) dX1_mayBid_86 rfl rfl
      · rw [if_neg c77] at hf
        refine ym_lcmp_gt_n (pc := 77) (tgt := 85) dX1_mayBid_77 dX1_mayBid_78 (by decide) c77 ?_
        refine ym_iconst (pc := 81) (v := 1) dX1_mayBid_81 (by decide) ?_
        refine ym_goto (pc := 82) (tgt := 86) dX1_mayBid_82 (by decide) ?_
        cases hf
        exact ym_zret (pc := 86) dX1_mayBid_86 rfl rfl
    · rw [if_neg c34] at hf
      refine ym_icmp_ne_n (pc := 34) (tgt := 87) dX1_mayBid_34 (by decide) c34 ?_
      refine ym_aload_n (pc := 87) 0 dX1_mayBid_87 rfl rfl ?_
      refine ym_aload_n (pc := 88) 1 dX1_mayBid_88 rfl rfl ?_
      obtain ⟨v89, e89, hf⟩ := Option.bind_eq_some_iff.mp hf
      refine ym_getN (pc := 89) dX1_mayBid_89 rfl (by decide) iX0 (k := 0) (by decide) wd_265 (ym_gI_v e89) ?_
      refine ym_iconst (pc := 92) (v := 2) dX1_mayBid_92 (by decide) ?_
      by_cases c93 : v89 = 2
      · rw [if_pos c93] at hf
        refine ym_icmp_ne_y (pc := 93) (tgt := 101) dX1_mayBid_93 (by decide) c93 ?_
        refine ym_bipush (pc := 96) (v := 9) dX1_mayBid_96 (by decide) ?_
        refine ym_goto (pc := 98) (tgt := 103) dX1_mayBid_98 (by decide) ?_
        exact ym_sub [] rfl (ob_X1_mayBid_103 hf)
      · rw [if_neg c93] at hf
        refine ym_icmp_ne_n (pc := 93) (tgt := 101) dX1_mayBid_93 (by decide) c93 ?_
        refine ym_bipush (pc := 101) (v := 7) dX1_mayBid_101 (by decide) ?_
        exact ym_sub [] rfl (ob_X1_mayBid_103 hf)
theorem dX1_ranAt_0 : decode cX1_ranAt 0 = .ok (.iload_n 1, 1) := by decide +kernel
theorem dX1_ranAt_1 : decode cX1_ranAt 1 = .ok (.ifCond .lt 20, 3) := by decide +kernel
theorem dX1_ranAt_4 : decode cX1_ranAt 4 = .ok (.iload_n 1, 1) := by decide +kernel
theorem dX1_ranAt_5 : decode cX1_ranAt 5 = .ok (.aload_n 0, 1) := by decide +kernel
theorem dX1_ranAt_6 : decode cX1_ranAt 6 = .ok (.getfield 19, 3) := by decide +kernel
theorem dX1_ranAt_9 : decode cX1_ranAt 9 = .ok (.if_icmp .ge 12, 3) := by decide +kernel
theorem dX1_ranAt_12 : decode cX1_ranAt 12 = .ok (.iload_n 1, 1) := by decide +kernel
theorem dX1_ranAt_13 : decode cX1_ranAt 13 = .ok (.aload_n 0, 1) := by decide +kernel
theorem dX1_ranAt_14 : decode cX1_ranAt 14 = .ok (.getfield 9, 3) := by decide +kernel
theorem dX1_ranAt_17 : decode cX1_ranAt 17 = .ok (.arraylength, 1) := by decide +kernel
theorem dX1_ranAt_18 : decode cX1_ranAt 18 = .ok (.if_icmp .lt 7, 3) := by decide +kernel
theorem dX1_ranAt_21 : decode cX1_ranAt 21 = .ok (.iconst 0, 1) := by decide +kernel
theorem dX1_ranAt_22 : decode cX1_ranAt 22 = .ok (.goto 9, 3) := by decide +kernel
theorem dX1_ranAt_25 : decode cX1_ranAt 25 = .ok (.aload_n 0, 1) := by decide +kernel
theorem dX1_ranAt_26 : decode cX1_ranAt 26 = .ok (.getfield 9, 3) := by decide +kernel
theorem dX1_ranAt_29 : decode cX1_ranAt 29 = .ok (.iload_n 1, 1) := by decide +kernel
theorem dX1_ranAt_30 : decode cX1_ranAt 30 = .ok (.iaload, 1) := by decide +kernel
theorem dX1_ranAt_31 : decode cX1_ranAt 31 = .ok (.ireturn, 1) := by decide +kernel
def fn_X1_ranAt (N : Nat) (a0 : Option Nat) (a1 : Int32) (h : ym_H) : Option (Int32 × ym_H) :=
  if a1 < 0 then
    some (0, h)
  else
    Option.bind (ym_gI h a0 1 2) fun v6 =>
    if v6 ≤ a1 then
      some (0, h)
    else
      Option.bind (ym_gR h a0 1 1) fun v14 =>
      Option.bind (ym_len h v14) fun v17 =>
      if a1 < v17 then
        Option.bind (ym_gR h a0 1 1) fun v26 =>
        Option.bind (ym_ldI h v26 a1) fun v30 =>
        some (v30, h)
      else
        some (0, h)
set_option maxRecDepth 20000 in
set_option maxHeartbeats 4000000 in
theorem ok_X1_ranAt {D : ym_D} {b0 : Nat} {N : Nat} {a0 : Option Nat} {a1 : Int32} {h h' : ym_H} {r : Int32} (hf : fn_X1_ranAt N a0 a1 h = some (r, h')) : ym_M D b0 g_X1_ranAt 1 [va_rf a0, .int a1] h (some (.int r)) h' := by
  unfold fn_X1_ranAt at hf
  refine ym_meth (lv := [(0, va_rf a0), (1, .int a1)]) (by decide) (by simp [lg_sl, ym_c1, ym_cI, ym_cL, g_X1_ranAt]) (by simp [lv_args, ym_c1, ym_cI, ym_cL]) ?_
  refine ym_iload_n (pc := 0) 1 dX1_ranAt_0 rfl rfl ?_
  by_cases c1 : a1 < 0
  · rw [if_pos c1] at hf
    refine ym_if_lt_y (pc := 1) (tgt := 21) dX1_ranAt_1 (by decide) c1 ?_
    refine ym_iconst (pc := 21) (v := 0) dX1_ranAt_21 (by decide) ?_
    refine ym_goto (pc := 22) (tgt := 31) dX1_ranAt_22 (by decide) ?_
    cases hf
    exact ym_iret (pc := 31) dX1_ranAt_31 rfl
  · rw [if_neg c1] at hf
    refine ym_if_lt_n (pc := 1) (tgt := 21) dX1_ranAt_1 (by decide) c1 ?_
    refine ym_iload_n (pc := 4) 1 dX1_ranAt_4 rfl rfl ?_
    refine ym_aload_n (pc := 5) 0 dX1_ranAt_5 rfl rfl ?_
    obtain ⟨v6, e6, hf⟩ := Option.bind_eq_some_iff.mp hf
    refine ym_get (pc := 6) dX1_ranAt_6 rfl (by decide) iX1 (k := 2) (by decide) wd_174 (ym_gI_v e6) ?_
    by_cases c9 : v6 ≤ a1
    · rw [if_pos c9] at hf
      refine ym_icmp_ge_y (pc := 9) (tgt := 21) dX1_ranAt_9 (by decide) c9 ?_
      refine ym_iconst (pc := 21) (v := 0) dX1_ranAt_21 (by decide) ?_
      refine ym_goto (pc := 22) (tgt := 31) dX1_ranAt_22 (by decide) ?_
      cases hf
      exact ym_iret (pc := 31) dX1_ranAt_31 rfl
    · rw [if_neg c9] at hf
      refine ym_icmp_ge_n (pc := 9) (tgt := 21) dX1_ranAt_9 (by decide) c9 ?_
      refine ym_iload_n (pc := 12) 1 dX1_ranAt_12 rfl rfl ?_
      refine ym_aload_n (pc := 13) 0 dX1_ranAt_13 rfl rfl ?_
      obtain ⟨v14, e14, hf⟩ := Option.bind_eq_some_iff.mp hf
      refine ym_get (pc := 14) dX1_ranAt_14 rfl (by decide) iX1 (k := 1) (by decide) wd_173 (ym_gR_v e14) ?_
      obtain ⟨v17, e17, hf⟩ := Option.bind_eq_some_iff.mp hf
      refine ym_alen (pc := 17) dX1_ranAt_17 e17 ?_
      by_cases c18 : a1 < v17
      · rw [if_pos c18] at hf
        refine ym_icmp_lt_y (pc := 18) (tgt := 25) dX1_ranAt_18 (by decide) c18 ?_
        refine ym_aload_n (pc := 25) 0 dX1_ranAt_25 rfl rfl ?_
        obtain ⟨v26, e26, hf⟩ := Option.bind_eq_some_iff.mp hf
        refine ym_get (pc := 26) dX1_ranAt_26 rfl (by decide) iX1 (k := 1) (by decide) wd_173 (ym_gR_v e26) ?_
        refine ym_iload_n (pc := 29) 1 dX1_ranAt_29 rfl rfl ?_
        obtain ⟨v30, e30, hf⟩ := Option.bind_eq_some_iff.mp hf
        refine ym_iald (pc := 30) dX1_ranAt_30 rfl (ym_ldI_v e30) ?_
        cases hf
        exact ym_iret (pc := 31) dX1_ranAt_31 rfl
      · rw [if_neg c18] at hf
        refine ym_icmp_lt_n (pc := 18) (tgt := 25) dX1_ranAt_18 (by decide) c18 ?_
        refine ym_iconst (pc := 21) (v := 0) dX1_ranAt_21 (by decide) ?_
        refine ym_goto (pc := 22) (tgt := 31) dX1_ranAt_22 (by decide) ?_
        cases hf
        exact ym_iret (pc := 31) dX1_ranAt_31 rfl
theorem dX2_set_0 : decode cX2_set 0 = .ok (.iload_n 1, 1) := by decide +kernel
theorem dX2_set_1 : decode cX2_set 1 = .ok (.ifCond .lt 19, 3) := by decide +kernel
theorem dX2_set_4 : decode cX2_set 4 = .ok (.iload_n 1, 1) := by decide +kernel
theorem dX2_set_5 : decode cX2_set 5 = .ok (.aload_n 0, 1) := by decide +kernel
theorem dX2_set_6 : decode cX2_set 6 = .ok (.getfield 21, 3) := by decide +kernel
theorem dX2_set_9 : decode cX2_set 9 = .ok (.arraylength, 1) := by decide +kernel
theorem dX2_set_10 : decode cX2_set 10 = .ok (.if_icmp .ge 10, 3) := by decide +kernel
theorem dX2_set_13 : decode cX2_set 13 = .ok (.aload_n 0, 1) := by decide +kernel
theorem dX2_set_14 : decode cX2_set 14 = .ok (.getfield 21, 3) := by decide +kernel
theorem dX2_set_17 : decode cX2_set 17 = .ok (.iload_n 1, 1) := by decide +kernel
theorem dX2_set_18 : decode cX2_set 18 = .ok (.lload_n 2, 1) := by decide +kernel
theorem dX2_set_19 : decode cX2_set 19 = .ok (.lastore, 1) := by decide +kernel
theorem dX2_set_20 : decode cX2_set 20 = .ok (.return_, 1) := by decide +kernel
def fn_X2_set (N : Nat) (a0 : Option Nat) (a1 : Int32) (a2 : Int64) (h : ym_H) : Option (Unit × ym_H) :=
  if a1 < 0 then
    some ((), h)
  else
    Option.bind (ym_gR h a0 2 1) fun v6 =>
    Option.bind (ym_len h v6) fun v9 =>
    if v9 ≤ a1 then
      some ((), h)
    else
      Option.bind (ym_gR h a0 2 1) fun v14 =>
      Option.bind (ym_as h v14 1 a1 (.long a2)) fun h19 =>
      some ((), h19)
set_option maxRecDepth 20000 in
set_option maxHeartbeats 4000000 in
theorem ok_X2_set {D : ym_D} {b0 : Nat} {N : Nat} {a0 : Option Nat} {a1 : Int32} {a2 : Int64} {h h' : ym_H} {r : Unit} (hf : fn_X2_set N a0 a1 a2 h = some (r, h')) : ym_M D b0 g_X2_set 1 [va_rf a0, .int a1, .long a2] h none h' := by
  unfold fn_X2_set at hf
  refine ym_meth (lv := [(0, va_rf a0), (1, .int a1), (2, .long a2)]) (by decide) (by simp [lg_sl, ym_c1, ym_cI, ym_cL, g_X2_set]) (by simp [lv_args, ym_c1, ym_cI, ym_cL]) ?_
  refine ym_iload_n (pc := 0) 1 dX2_set_0 rfl rfl ?_
  by_cases c1 : a1 < 0
  · rw [if_pos c1] at hf
    refine ym_if_lt_y (pc := 1) (tgt := 20) dX2_set_1 (by decide) c1 ?_
    cases hf
    exact ym_vret (pc := 20) dX2_set_20 rfl
  · rw [if_neg c1] at hf
    refine ym_if_lt_n (pc := 1) (tgt := 20) dX2_set_1 (by decide) c1 ?_
    refine ym_iload_n (pc := 4) 1 dX2_set_4 rfl rfl ?_
    refine ym_aload_n (pc := 5) 0 dX2_set_5 rfl rfl ?_
    obtain ⟨v6, e6, hf⟩ := Option.bind_eq_some_iff.mp hf
    refine ym_get (pc := 6) dX2_set_6 rfl (by decide) iX2 (k := 1) (by decide) wd_135 (ym_gR_v e6) ?_
    obtain ⟨v9, e9, hf⟩ := Option.bind_eq_some_iff.mp hf
    refine ym_alen (pc := 9) dX2_set_9 e9 ?_
    by_cases c10 : v9 ≤ a1
    · rw [if_pos c10] at hf
      refine ym_icmp_ge_y (pc := 10) (tgt := 20) dX2_set_10 (by decide) c10 ?_
      cases hf
      exact ym_vret (pc := 20) dX2_set_20 rfl
    · rw [if_neg c10] at hf
      refine ym_icmp_ge_n (pc := 10) (tgt := 20) dX2_set_10 (by decide) c10 ?_
      refine ym_aload_n (pc := 13) 0 dX2_set_13 rfl rfl ?_
      obtain ⟨v14, e14, hf⟩ := Option.bind_eq_some_iff.mp hf
      refine ym_get (pc := 14) dX2_set_14 rfl (by decide) iX2 (k := 1) (by decide) wd_135 (ym_gR_v e14) ?_
      refine ym_iload_n (pc := 17) 1 dX2_set_17 rfl rfl ?_
      refine ym_lload_n (pc := 18) 2 dX2_set_18 rfl rfl ?_
      obtain ⟨h19, e19, hf⟩ := Option.bind_eq_some_iff.mp hf
      refine ym_last (pc := 19) dX2_set_19 rfl e19 ?_
      cases hf
      exact ym_vret (pc := 20) dX2_set_20 rfl
theorem dX3_depth_0 : decode cX3_depth 0 = .ok (.aload_n 0, 1) := by decide +kernel
theorem dX3_depth_1 : decode cX3_depth 1 = .ok (.getfield 28, 3) := by decide +kernel
theorem dX3_depth_4 : decode cX3_depth 4 = .ok (.ireturn, 1) := by decide +kernel
def fn_X3_depth (N : Nat) (a0 : Option Nat) (h : ym_H) : Option (Int32 × ym_H) :=
  Option.bind (ym_gI h a0 3 5) fun v1 =>
  some (v1, h)
set_option maxRecDepth 20000 in
set_option maxHeartbeats 4000000 in
theorem ok_X3_depth {D : ym_D} {b0 : Nat} {N : Nat} {a0 : Option Nat} {h h' : ym_H} {r : Int32} (hf : fn_X3_depth N a0 h = some (r, h')) : ym_M D b0 g_X3_depth 1 [va_rf a0] h (some (.int r)) h' := by
  unfold fn_X3_depth at hf
  refine ym_meth (lv := [(0, va_rf a0)]) (by decide) (by simp [lg_sl, ym_c1, ym_cI, ym_cL, g_X3_depth]) (by simp [lv_args, ym_c1, ym_cI, ym_cL]) ?_
  refine ym_aload_n (pc := 0) 0 dX3_depth_0 rfl rfl ?_
  obtain ⟨v1, e1, hf⟩ := Option.bind_eq_some_iff.mp hf
  refine ym_get (pc := 1) dX3_depth_1 rfl (by decide) iX3 (k := 5) (by decide) wd_109 (ym_gI_v e1) ?_
  cases hf
  exact ym_iret (pc := 4) dX3_depth_4 rfl
theorem dX3_init_0 : decode cX3_init 0 = .ok (.aload_n 0, 1) := by decide +kernel
theorem dX3_init_1 : decode cX3_init 1 = .ok (.invokespecial 3, 3) := by decide +kernel
theorem dX3_init_4 : decode cX3_init 4 = .ok (.aload_n 0, 1) := by decide +kernel
theorem dX3_init_5 : decode cX3_init 5 = .ok (.bipush 64, 2) := by decide +kernel
theorem dX3_init_7 : decode cX3_init 7 = .ok (.anewarray 9, 3) := by decide +kernel
theorem dX3_init_10 : decode cX3_init 10 = .ok (.putfield 11, 3) := by decide +kernel
theorem dX3_init_13 : decode cX3_init 13 = .ok (.aload_n 0, 1) := by decide +kernel
theorem dX3_init_14 : decode cX3_init 14 = .ok (.bipush 64, 2) := by decide +kernel
theorem dX3_init_16 : decode cX3_init 16 = .ok (.newarray .int, 2) := by decide +kernel
theorem dX3_init_18 : decode cX3_init 18 = .ok (.putfield 17, 3) := by decide +kernel
theorem dX3_init_21 : decode cX3_init 21 = .ok (.aload_n 0, 1) := by decide +kernel
theorem dX3_init_22 : decode cX3_init 22 = .ok (.bipush 64, 2) := by decide +kernel
theorem dX3_init_24 : decode cX3_init 24 = .ok (.newarray .long, 2) := by decide +kernel
theorem dX3_init_26 : decode cX3_init 26 = .ok (.putfield 21, 3) := by decide +kernel
theorem dX3_init_29 : decode cX3_init 29 = .ok (.aload_n 0, 1) := by decide +kernel
theorem dX3_init_30 : decode cX3_init 30 = .ok (.bipush 8, 2) := by decide +kernel
theorem dX3_init_32 : decode cX3_init 32 = .ok (.newarray .int, 2) := by decide +kernel
theorem dX3_init_34 : decode cX3_init 34 = .ok (.putfield 25, 3) := by decide +kernel
theorem dX3_init_37 : decode cX3_init 37 = .ok (.return_, 1) := by decide +kernel
def fn_X3_init (N : Nat) (a0 : Option Nat) (h : ym_H) : Option (Unit × ym_H) :=
  Option.bind (ym_ob h a0 3) fun o1 =>
  Option.bind (ym_na h 3 .null 64) fun h7 =>
  Option.bind (ym_pf h7 a0 3 0 (va_rf (some h.1))) fun h10 =>
  Option.bind (ym_na h10 0 (.int 0) 64) fun h16 =>
  Option.bind (ym_pf h16 a0 3 1 (va_rf (some h10.1))) fun h18 =>
  Option.bind (ym_na h18 1 (.long 0) 64) fun h24 =>
  Option.bind (ym_pf h24 a0 3 2 (va_rf (some h18.1))) fun h26 =>
  Option.bind (ym_na h26 0 (.int 0) 8) fun h32 =>
  Option.bind (ym_pf h32 a0 3 4 (va_rf (some h26.1))) fun h34 =>
  some ((), h34)
set_option maxRecDepth 20000 in
set_option maxHeartbeats 4000000 in
theorem ok_X3_init {D : ym_D} {b0 : Nat} {N : Nat} {a0 : Option Nat} {h h' : ym_H} {r : Unit} (hf : fn_X3_init N a0 h = some (r, h')) : ym_M D b0 g_X3_init 1 [va_rf a0] h none h' := by
  unfold fn_X3_init at hf
  refine ym_meth (lv := [(0, va_rf a0)]) (by decide) (by simp [lg_sl, ym_c1, ym_cI, ym_cL, g_X3_init]) (by simp [lv_args, ym_c1, ym_cI, ym_cL]) ?_
  refine ym_aload_n (pc := 0) 0 dX3_init_0 rfl rfl ?_
  obtain ⟨o1, e1, hf⟩ := Option.bind_eq_some_iff.mp hf
  refine ym_objInit (pc := 1) dX3_init_1 wd_101 wd_94 wd_95 (by decide) (ym_st4 (Nat.le_of_ble_eq_true rfl)) (ym_ob_ne e1) ?_
  refine ym_aload_n (pc := 4) 0 dX3_init_4 rfl rfl ?_
  refine ym_bipush (pc := 5) (v := 64) dX3_init_5 (by decide) ?_
  obtain ⟨h7, e7, hf⟩ := Option.bind_eq_some_iff.mp hf
  refine ym_anew (pc := 7) (h1 := h7) dX3_init_7 (t := 3) rfl (by decide) wd_102 wd_103 e7 ?_
  obtain ⟨h10, e10, hf⟩ := Option.bind_eq_some_iff.mp hf
  refine ym_put (pc := 10) (h1 := h10) dX3_init_10 rfl (by decide) iX3 tyX3 tyX3_ok nmX3 (k := 0) (by decide) wd_104 rfl (tyX3_ok 0 (by decide)) (ym_nrA _ _) (ym_fiA _ _) e10 ?_
  refine ym_aload_n (pc := 13) 0 dX3_init_13 rfl rfl ?_
  refine ym_bipush (pc := 14) (v := 64) dX3_init_14 (by decide) ?_
  obtain ⟨h16, e16, hf⟩ := Option.bind_eq_some_iff.mp hf
  refine ym_newA (pc := 16) (h1 := h16) (ty := .int) (v := .int 0) dX3_init_16 rfl (t := 0) rfl (by decide) wd_123 (by decide) rfl e16 (fun _ _ => rfl) ?_
  obtain ⟨h18, e18, hf⟩ := Option.bind_eq_some_iff.mp hf
  refine ym_put (pc := 18) (h1 := h18) dX3_init_18 rfl (by decide) iX3 tyX3 tyX3_ok nmX3 (k := 1) (by decide) wd_105 rfl (tyX3_ok 1 (by decide)) (ym_nrA _ _) (ym_fiA _ _) e18 ?_
  refine ym_aload_n (pc := 21) 0 dX3_init_21 rfl rfl ?_
  refine ym_bipush (pc := 22) (v := 64) dX3_init_22 (by decide) ?_
  obtain ⟨h24, e24, hf⟩ := Option.bind_eq_some_iff.mp hf
  refine ym_newA (pc := 24) (h1 := h24) (ty := .long) (v := .long 0) dX3_init_24 rfl (t := 1) rfl (by decide) wd_124 (by decide) rfl e24 (fun _ _ => rfl) ?_
  obtain ⟨h26, e26, hf⟩ := Option.bind_eq_some_iff.mp hf
  refine ym_put (pc := 26) (h1 := h26) dX3_init_26 rfl (by decide) iX3 tyX3 tyX3_ok nmX3 (k := 2) (by decide) wd_106 rfl (tyX3_ok 2 (by decide)) (ym_nrA _ _) (ym_fiA _ _) e26 ?_
  refine ym_aload_n (pc := 29) 0 dX3_init_29 rfl rfl ?_
  refine ym_bipush (pc := 30) (v := 8) dX3_init_30 (by decide) ?_
  obtain ⟨h32, e32, hf⟩ := Option.bind_eq_some_iff.mp hf
  refine ym_newA (pc := 32) (h1 := h32) (ty := .int) (v := .int 0) dX3_init_32 rfl (t := 0) rfl (by decide) wd_123 (by decide) rfl e32 (fun _ _ => rfl) ?_
  obtain ⟨h34, e34, hf⟩ := Option.bind_eq_some_iff.mp hf
  refine ym_putF (pc := 34) (h1 := h34) dX3_init_34 rfl (by decide) iX3 tyX3 tyX3_ok nmX3 (k := 4) (by decide) wd_108 rfl rfl rfl (tyX3_ok 4 (by decide)) (ym_nrA _ _) (ym_fiA _ _) e34 ?_
  cases hf
  exact ym_vret (pc := 37) dX3_init_37 rfl
theorem dX3_keepBatch_0 : decode cX3_keepBatch 0 = .ok (.aload_n 0, 1) := by decide +kernel
theorem dX3_keepBatch_1 : decode cX3_keepBatch 1 = .ok (.getfield 28, 3) := by decide +kernel
theorem dX3_keepBatch_4 : decode cX3_keepBatch 4 = .ok (.ifCond .le 13, 3) := by decide +kernel
theorem dX3_keepBatch_7 : decode cX3_keepBatch 7 = .ok (.aload_n 0, 1) := by decide +kernel
theorem dX3_keepBatch_8 : decode cX3_keepBatch 8 = .ok (.dup, 1) := by decide +kernel
theorem dX3_keepBatch_9 : decode cX3_keepBatch 9 = .ok (.getfield 28, 3) := by decide +kernel
theorem dX3_keepBatch_12 : decode cX3_keepBatch 12 = .ok (.iconst 1, 1) := by decide +kernel
theorem dX3_keepBatch_13 : decode cX3_keepBatch 13 = .ok (.isub, 1) := by decide +kernel
theorem dX3_keepBatch_14 : decode cX3_keepBatch 14 = .ok (.putfield 28, 3) := by decide +kernel
theorem dX3_keepBatch_17 : decode cX3_keepBatch 17 = .ok (.aload_n 0, 1) := by decide +kernel
theorem dX3_keepBatch_18 : decode cX3_keepBatch 18 = .ok (.getfield 28, 3) := by decide +kernel
theorem dX3_keepBatch_21 : decode cX3_keepBatch 21 = .ok (.ifCond .ne 8, 3) := by decide +kernel
theorem dX3_keepBatch_24 : decode cX3_keepBatch 24 = .ok (.aload_n 0, 1) := by decide +kernel
theorem dX3_keepBatch_25 : decode cX3_keepBatch 25 = .ok (.iconst 0, 1) := by decide +kernel
theorem dX3_keepBatch_26 : decode cX3_keepBatch 26 = .ok (.putfield 32, 3) := by decide +kernel
theorem dX3_keepBatch_29 : decode cX3_keepBatch 29 = .ok (.return_, 1) := by decide +kernel
def bl_X3_keepBatch_17 (N : Nat) (w0 : Option Nat) (h : ym_H) : Option (Unit × ym_H) :=
  Option.bind (ym_gI h w0 3 5) fun v18 =>
  if v18 = 0 then
    Option.bind (ym_pf h w0 3 3 (.int 0)) fun h26 =>
    some ((), h26)
  else
    some ((), h)
set_option maxRecDepth 20000 in
set_option maxHeartbeats 4000000 in
theorem ob_X3_keepBatch_17 {D : ym_D} {b0 : Nat} {N : Nat} {w0 : Option Nat} {h h' : ym_H} {r : Unit} (hf : bl_X3_keepBatch_17 N w0 h = some (r, h')) : ym_Y D b0 g_X3_keepBatch 1 17 [(0, va_rf w0)] [] h none h' := by
  unfold bl_X3_keepBatch_17 at hf
  refine ym_aload_n (pc := 17) 0 dX3_keepBatch_17 rfl rfl ?_
  obtain ⟨v18, e18, hf⟩ := Option.bind_eq_some_iff.mp hf
  refine ym_get (pc := 18) dX3_keepBatch_18 rfl (by decide) iX3 (k := 5) (by decide) wd_109 (ym_gI_v e18) ?_
  by_cases c21 : v18 = 0
  · rw [if_pos c21] at hf
    refine ym_if_ne_y (pc := 21) (tgt := 29) dX3_keepBatch_21 (by decide) c21 ?_
    refine ym_aload_n (pc := 24) 0 dX3_keepBatch_24 rfl rfl ?_
    refine ym_iconst (pc := 25) (v := 0) dX3_keepBatch_25 (by decide) ?_
    obtain ⟨h26, e26, hf⟩ := Option.bind_eq_some_iff.mp hf
    refine ym_put (pc := 26) (h1 := h26) dX3_keepBatch_26 rfl (by decide) iX3 tyX3 tyX3_ok nmX3 (k := 3) (by decide) wd_107 rfl (tyX3_ok 3 (by decide)) rfl rfl e26 ?_
    cases hf
    exact ym_vret (pc := 29) dX3_keepBatch_29 rfl
  · rw [if_neg c21] at hf
    refine ym_if_ne_n (pc := 21) (tgt := 29) dX3_keepBatch_21 (by decide) c21 ?_
    cases hf
    exact ym_vret (pc := 29) dX3_keepBatch_29 rfl
def fn_X3_keepBatch (N : Nat) (a0 : Option Nat) (h : ym_H) : Option (Unit × ym_H) :=
  Option.bind (ym_gI h a0 3 5) fun v1 =>
  if v1 ≤ 0 then
    bl_X3_keepBatch_17 N a0 h
  else
    Option.bind (ym_gI h a0 3 5) fun v9 =>
    Option.bind (ym_pf h a0 3 5 (.int (v9 - 1))) fun h14 =>
    bl_X3_keepBatch_17 N a0 h14
set_option maxRecDepth 20000 in
set_option maxHeartbeats 4000000 in
theorem ok_X3_keepBatch {D : ym_D} {b0 : Nat} {N : Nat} {a0 : Option Nat} {h h' : ym_H} {r : Unit} (hf : fn_X3_keepBatch N a0 h = some (r, h')) : ym_M D b0 g_X3_keepBatch 1 [va_rf a0] h none h' := by
  unfold fn_X3_keepBatch at hf
  refine ym_meth (lv := [(0, va_rf a0)]) (by decide) (by simp [lg_sl, ym_c1, ym_cI, ym_cL, g_X3_keepBatch]) (by simp [lv_args, ym_c1, ym_cI, ym_cL]) ?_
  refine ym_aload_n (pc := 0) 0 dX3_keepBatch_0 rfl rfl ?_
  obtain ⟨v1, e1, hf⟩ := Option.bind_eq_some_iff.mp hf
  refine ym_get (pc := 1) dX3_keepBatch_1 rfl (by decide) iX3 (k := 5) (by decide) wd_109 (ym_gI_v e1) ?_
  by_cases c4 : v1 ≤ 0
  · rw [if_pos c4] at hf
    refine ym_if_le_y (pc := 4) (tgt := 17) dX3_keepBatch_4 (by decide) c4 ?_
    exact ym_sub [0] rfl (ob_X3_keepBatch_17 hf)
  · rw [if_neg c4] at hf
    refine ym_if_le_n (pc := 4) (tgt := 17) dX3_keepBatch_4 (by decide) c4 ?_
    refine ym_aload_n (pc := 7) 0 dX3_keepBatch_7 rfl rfl ?_
    refine ym_dup (pc := 8) dX3_keepBatch_8 (ym_c1 a0) ?_
    obtain ⟨v9, e9, hf⟩ := Option.bind_eq_some_iff.mp hf
    refine ym_get (pc := 9) dX3_keepBatch_9 rfl (by decide) iX3 (k := 5) (by decide) wd_109 (ym_gI_v e9) ?_
    refine ym_iconst (pc := 12) (v := 1) dX3_keepBatch_12 (by decide) ?_
    refine ym_isub (pc := 13) dX3_keepBatch_13 ?_
    obtain ⟨h14, e14, hf⟩ := Option.bind_eq_some_iff.mp hf
    refine ym_put (pc := 14) (h1 := h14) dX3_keepBatch_14 rfl (by decide) iX3 tyX3 tyX3_ok nmX3 (k := 5) (by decide) wd_109 rfl (tyX3_ok 5 (by decide)) rfl rfl e14 ?_
    exact ym_sub [0] rfl (ob_X3_keepBatch_17 hf)
theorem dX3_openBatch_0 : decode cX3_openBatch 0 = .ok (.aload_n 0, 1) := by decide +kernel
theorem dX3_openBatch_1 : decode cX3_openBatch 1 = .ok (.getfield 28, 3) := by decide +kernel
theorem dX3_openBatch_4 : decode cX3_openBatch 4 = .ok (.aload_n 0, 1) := by decide +kernel
theorem dX3_openBatch_5 : decode cX3_openBatch 5 = .ok (.getfield 25, 3) := by decide +kernel
theorem dX3_openBatch_8 : decode cX3_openBatch 8 = .ok (.arraylength, 1) := by decide +kernel
theorem dX3_openBatch_9 : decode cX3_openBatch 9 = .ok (.if_icmp .lt 4, 3) := by decide +kernel
theorem dX3_openBatch_12 : decode cX3_openBatch 12 = .ok (.return_, 1) := by decide +kernel
theorem dX3_openBatch_13 : decode cX3_openBatch 13 = .ok (.aload_n 0, 1) := by decide +kernel
theorem dX3_openBatch_14 : decode cX3_openBatch 14 = .ok (.getfield 25, 3) := by decide +kernel
theorem dX3_openBatch_17 : decode cX3_openBatch 17 = .ok (.aload_n 0, 1) := by decide +kernel
theorem dX3_openBatch_18 : decode cX3_openBatch 18 = .ok (.getfield 28, 3) := by decide +kernel
theorem dX3_openBatch_21 : decode cX3_openBatch 21 = .ok (.aload_n 0, 1) := by decide +kernel
theorem dX3_openBatch_22 : decode cX3_openBatch 22 = .ok (.getfield 32, 3) := by decide +kernel
theorem dX3_openBatch_25 : decode cX3_openBatch 25 = .ok (.iastore, 1) := by decide +kernel
theorem dX3_openBatch_26 : decode cX3_openBatch 26 = .ok (.aload_n 0, 1) := by decide +kernel
theorem dX3_openBatch_27 : decode cX3_openBatch 27 = .ok (.dup, 1) := by decide +kernel
theorem dX3_openBatch_28 : decode cX3_openBatch 28 = .ok (.getfield 28, 3) := by decide +kernel
theorem dX3_openBatch_31 : decode cX3_openBatch 31 = .ok (.iconst 1, 1) := by decide +kernel
theorem dX3_openBatch_32 : decode cX3_openBatch 32 = .ok (.iadd, 1) := by decide +kernel
theorem dX3_openBatch_33 : decode cX3_openBatch 33 = .ok (.putfield 28, 3) := by decide +kernel
theorem dX3_openBatch_36 : decode cX3_openBatch 36 = .ok (.return_, 1) := by decide +kernel
def fn_X3_openBatch (N : Nat) (a0 : Option Nat) (h : ym_H) : Option (Unit × ym_H) :=
  Option.bind (ym_gI h a0 3 5) fun v1 =>
  Option.bind (ym_gR h a0 3 4) fun v5 =>
  Option.bind (ym_len h v5) fun v8 =>
  if v1 < v8 then
    Option.bind (ym_gR h a0 3 4) fun v14 =>
    Option.bind (ym_gI h a0 3 5) fun v18 =>
    Option.bind (ym_gI h a0 3 3) fun v22 =>
    Option.bind (ym_as h v14 0 v18 (.int v22)) fun h25 =>
    Option.bind (ym_gI h25 a0 3 5) fun v28 =>
    Option.bind (ym_pf h25 a0 3 5 (.int (v28 + 1))) fun h33 =>
    some ((), h33)
  else
    some ((), h)
set_option maxRecDepth 20000 in
set_option maxHeartbeats 4000000 in
theorem ok_X3_openBatch {D : ym_D} {b0 : Nat} {N : Nat} {a0 : Option Nat} {h h' : ym_H} {r : Unit} (hf : fn_X3_openBatch N a0 h = some (r, h')) : ym_M D b0 g_X3_openBatch 1 [va_rf a0] h none h' := by
  unfold fn_X3_openBatch at hf
  refine ym_meth (lv := [(0, va_rf a0)]) (by decide) (by simp [lg_sl, ym_c1, ym_cI, ym_cL, g_X3_openBatch]) (by simp [lv_args, ym_c1, ym_cI, ym_cL]) ?_
  refine ym_aload_n (pc := 0) 0 dX3_openBatch_0 rfl rfl ?_
  obtain ⟨v1, e1, hf⟩ := Option.bind_eq_some_iff.mp hf
  refine ym_get (pc := 1) dX3_openBatch_1 rfl (by decide) iX3 (k := 5) (by decide) wd_109 (ym_gI_v e1) ?_
  refine ym_aload_n (pc := 4) 0 dX3_openBatch_4 rfl rfl ?_
  obtain ⟨v5, e5, hf⟩ := Option.bind_eq_some_iff.mp hf
  refine ym_get (pc := 5) dX3_openBatch_5 rfl (by decide) iX3 (k := 4) (by decide) wd_108 (ym_gR_v e5) ?_
  obtain ⟨v8, e8, hf⟩ := Option.bind_eq_some_iff.mp hf
  refine ym_alen (pc := 8) dX3_openBatch_8 e8 ?_
  by_cases c9 : v1 < v8
  · rw [if_pos c9] at hf
    refine ym_icmp_lt_y (pc := 9) (tgt := 13) dX3_openBatch_9 (by decide) c9 ?_
    refine ym_aload_n (pc := 13) 0 dX3_openBatch_13 rfl rfl ?_
    obtain ⟨v14, e14, hf⟩ := Option.bind_eq_some_iff.mp hf
    refine ym_get (pc := 14) dX3_openBatch_14 rfl (by decide) iX3 (k := 4) (by decide) wd_108 (ym_gR_v e14) ?_
    refine ym_aload_n (pc := 17) 0 dX3_openBatch_17 rfl rfl ?_
    obtain ⟨v18, e18, hf⟩ := Option.bind_eq_some_iff.mp hf
    refine ym_get (pc := 18) dX3_openBatch_18 rfl (by decide) iX3 (k := 5) (by decide) wd_109 (ym_gI_v e18) ?_
    refine ym_aload_n (pc := 21) 0 dX3_openBatch_21 rfl rfl ?_
    obtain ⟨v22, e22, hf⟩ := Option.bind_eq_some_iff.mp hf
    refine ym_get (pc := 22) dX3_openBatch_22 rfl (by decide) iX3 (k := 3) (by decide) wd_107 (ym_gI_v e22) ?_
    obtain ⟨h25, e25, hf⟩ := Option.bind_eq_some_iff.mp hf
    refine ym_iast (pc := 25) dX3_openBatch_25 rfl e25 ?_
    refine ym_aload_n (pc := 26) 0 dX3_openBatch_26 rfl rfl ?_
    refine ym_dup (pc := 27) dX3_openBatch_27 (ym_c1 a0) ?_
    obtain ⟨v28, e28, hf⟩ := Option.bind_eq_some_iff.mp hf
    refine ym_get (pc := 28) dX3_openBatch_28 rfl (by decide) iX3 (k := 5) (by decide) wd_109 (ym_gI_v e28) ?_
    refine ym_iconst (pc := 31) (v := 1) dX3_openBatch_31 (by decide) ?_
    refine ym_iadd (pc := 32) dX3_openBatch_32 ?_
    obtain ⟨h33, e33, hf⟩ := Option.bind_eq_some_iff.mp hf
    refine ym_put (pc := 33) (h1 := h33) dX3_openBatch_33 rfl (by decide) iX3 tyX3 tyX3_ok nmX3 (k := 5) (by decide) wd_109 rfl (tyX3_ok 5 (by decide)) rfl rfl e33 ?_
    cases hf
    exact ym_vret (pc := 36) dX3_openBatch_36 rfl
  · rw [if_neg c9] at hf
    refine ym_icmp_lt_n (pc := 9) (tgt := 13) dX3_openBatch_9 (by decide) c9 ?_
    cases hf
    exact ym_vret (pc := 12) dX3_openBatch_12 rfl
