theorem dX7_bidder_0 : decode cX7_bidder 0 = .ok (.aload_n 0, 1) := by decide +kernel
theorem dX7_bidder_1 : decode cX7_bidder 1 = .ok (.invokevirtual 58, 3) := by decide +kernel
theorem dX7_bidder_4 : decode cX7_bidder 4 = .ok (.iload_n 1, 1) := by decide +kernel
theorem dX7_bidder_5 : decode cX7_bidder 5 = .ok (.iconst 1, 1) := by decide +kernel
theorem dX7_bidder_6 : decode cX7_bidder 6 = .ok (.if_icmp .lt 8, 3) := by decide +kernel
theorem dX7_bidder_9 : decode cX7_bidder 9 = .ok (.iload_n 1, 1) := by decide +kernel
theorem dX7_bidder_10 : decode cX7_bidder 10 = .ok (.iconst 4, 1) := by decide +kernel
theorem dX7_bidder_11 : decode cX7_bidder 11 = .ok (.if_icmp .le 9, 3) := by decide +kernel
theorem dX7_bidder_14 : decode cX7_bidder 14 = .ok (.aload_n 0, 1) := by decide +kernel
theorem dX7_bidder_15 : decode cX7_bidder 15 = .ok (.iconst 1, 1) := by decide +kernel
theorem dX7_bidder_16 : decode cX7_bidder 16 = .ok (.invokevirtual 61, 3) := by decide +kernel
theorem dX7_bidder_19 : decode cX7_bidder 19 = .ok (.lreturn, 1) := by decide +kernel
theorem dX7_bidder_20 : decode cX7_bidder 20 = .ok (.iload_n 1, 1) := by decide +kernel
theorem dX7_bidder_21 : decode cX7_bidder 21 = .ok (.iconst 3, 1) := by decide +kernel
theorem dX7_bidder_22 : decode cX7_bidder 22 = .ok (.if_icmp .ne 16, 3) := by decide +kernel
theorem dX7_bidder_25 : decode cX7_bidder 25 = .ok (.lload_n 2, 1) := by decide +kernel
theorem dX7_bidder_26 : decode cX7_bidder 26 = .ok (.invokestatic 65, 3) := by decide +kernel
theorem dX7_bidder_29 : decode cX7_bidder 29 = .ok (.ifCond .ne 9, 3) := by decide +kernel
theorem dX7_bidder_32 : decode cX7_bidder 32 = .ok (.aload_n 0, 1) := by decide +kernel
theorem dX7_bidder_33 : decode cX7_bidder 33 = .ok (.iconst 1, 1) := by decide +kernel
theorem dX7_bidder_34 : decode cX7_bidder 34 = .ok (.invokevirtual 61, 3) := by decide +kernel
theorem dX7_bidder_37 : decode cX7_bidder 37 = .ok (.lreturn, 1) := by decide +kernel
theorem dX7_bidder_38 : decode cX7_bidder 38 = .ok (.aload_n 0, 1) := by decide +kernel
theorem dX7_bidder_39 : decode cX7_bidder 39 = .ok (.invokevirtual 69, 3) := by decide +kernel
theorem dX7_bidder_42 : decode cX7_bidder 42 = .ok (.istore 4, 2) := by decide +kernel
theorem dX7_bidder_44 : decode cX7_bidder 44 = .ok (.iload 4, 2) := by decide +kernel
theorem dX7_bidder_46 : decode cX7_bidder 46 = .ok (.ifCond .lt 13, 3) := by decide +kernel
theorem dX7_bidder_49 : decode cX7_bidder 49 = .ok (.iload 4, 2) := by decide +kernel
theorem dX7_bidder_51 : decode cX7_bidder 51 = .ok (.aload_n 0, 1) := by decide +kernel
theorem dX7_bidder_52 : decode cX7_bidder 52 = .ok (.getfield 48, 3) := by decide +kernel
theorem dX7_bidder_55 : decode cX7_bidder 55 = .ok (.arraylength, 1) := by decide +kernel
theorem dX7_bidder_56 : decode cX7_bidder 56 = .ok (.if_icmp .lt 10, 3) := by decide +kernel
theorem dX7_bidder_59 : decode cX7_bidder 59 = .ok (.aload_n 0, 1) := by decide +kernel
theorem dX7_bidder_60 : decode cX7_bidder 60 = .ok (.bipush 12, 2) := by decide +kernel
theorem dX7_bidder_62 : decode cX7_bidder 62 = .ok (.invokevirtual 61, 3) := by decide +kernel
theorem dX7_bidder_65 : decode cX7_bidder 65 = .ok (.lreturn, 1) := by decide +kernel
theorem dX7_bidder_66 : decode cX7_bidder 66 = .ok (.aload_n 0, 1) := by decide +kernel
theorem dX7_bidder_67 : decode cX7_bidder 67 = .ok (.getfield 48, 3) := by decide +kernel
theorem dX7_bidder_70 : decode cX7_bidder 70 = .ok (.iload 4, 2) := by decide +kernel
theorem dX7_bidder_72 : decode cX7_bidder 72 = .ok (.new 46, 3) := by decide +kernel
theorem dX7_bidder_75 : decode cX7_bidder 75 = .ok (.dup, 1) := by decide +kernel
theorem dX7_bidder_76 : decode cX7_bidder 76 = .ok (.aload_n 0, 1) := by decide +kernel
theorem dX7_bidder_77 : decode cX7_bidder 77 = .ok (.getfield 12, 3) := by decide +kernel
theorem dX7_bidder_80 : decode cX7_bidder 80 = .ok (.iload_n 1, 1) := by decide +kernel
theorem dX7_bidder_81 : decode cX7_bidder 81 = .ok (.iload 4, 2) := by decide +kernel
theorem dX7_bidder_83 : decode cX7_bidder 83 = .ok (.lload_n 2, 1) := by decide +kernel
theorem dX7_bidder_84 : decode cX7_bidder 84 = .ok (.invokespecial 73, 3) := by decide +kernel
theorem dX7_bidder_87 : decode cX7_bidder 87 = .ok (.aastore, 1) := by decide +kernel
theorem dX7_bidder_88 : decode cX7_bidder 88 = .ok (.aload_n 0, 1) := by decide +kernel
theorem dX7_bidder_89 : decode cX7_bidder 89 = .ok (.getfield 21, 3) := by decide +kernel
theorem dX7_bidder_92 : decode cX7_bidder 92 = .ok (.iconst 0, 1) := by decide +kernel
theorem dX7_bidder_93 : decode cX7_bidder 93 = .ok (.iload 4, 2) := by decide +kernel
theorem dX7_bidder_95 : decode cX7_bidder 95 = .ok (.iconst 1, 1) := by decide +kernel
theorem dX7_bidder_96 : decode cX7_bidder 96 = .ok (.iadd, 1) := by decide +kernel
theorem dX7_bidder_97 : decode cX7_bidder 97 = .ok (.i2l, 1) := by decide +kernel
theorem dX7_bidder_98 : decode cX7_bidder 98 = .ok (.invokevirtual 76, 3) := by decide +kernel
theorem dX7_bidder_101 : decode cX7_bidder 101 = .ok (.iload 4, 2) := by decide +kernel
theorem dX7_bidder_103 : decode cX7_bidder 103 = .ok (.i2l, 1) := by decide +kernel
theorem dX7_bidder_104 : decode cX7_bidder 104 = .ok (.lreturn, 1) := by decide +kernel
theorem sc_X7_bidder_X7_startAct : ym_site g_X7_bidder g_X7_startAct 5 2 0 := ⟨by decide, by decide, wd_224, wd_76, by decide +kernel⟩
theorem sc_X7_bidder_X7_refuse : ym_site g_X7_bidder g_X7_refuse 5 4 1 := ⟨by decide, by decide, wd_232, wd_76, by decide +kernel⟩
def bl_X7_bidder_14 (N : Nat) (w0 : Option Nat) (h : ym_H) : Option (Int64 × ym_H) :=
  Option.bind (ym_ob h w0 7) fun o16 =>
  Option.bind (fn_X7_refuse N w0 1 h) fun q16 =>
  some (q16.1, q16.2)
set_option maxRecDepth 20000 in
set_option maxHeartbeats 4000000 in
theorem ob_X7_bidder_14 {D : ym_D} {b0 : Nat} {N : Nat} {w0 : Option Nat} {h h' : ym_H} {r : Int64} (hf : bl_X7_bidder_14 N w0 h = some (r, h')) : ym_Y D b0 g_X7_bidder 5 14 [(0, va_rf w0)] [] h (some (.long r)) h' := by
  unfold bl_X7_bidder_14 at hf
  refine ym_aload_n (pc := 14) 0 dX7_bidder_14 rfl rfl ?_
  refine ym_iconst (pc := 15) (v := 1) dX7_bidder_15 (by decide) ?_
  obtain ⟨o16, f16, hf⟩ := Option.bind_eq_some_iff.mp hf
  obtain ⟨q16, e16, hf⟩ := Option.bind_eq_some_iff.mp hf
  refine ym_callV (pc := 16) (G2 := g_X7_refuse) (dep2 := 4) (As := [.int 1]) (st := []) (stk2 := [.long q16.1]) (r2 := (some (.long q16.1))) (h1 := q16.2) dX7_bidder_16 (ok_X7_refuse e16) (sc_X7_bidder_X7_refuse) wd_229 wd_231 wd_1 (ci := 7) (q0 := (RX7, TX7, 10)) rfl (by decide) rfl f16 rfl rfl (ym_st4 (Nat.le_of_ble_eq_true rfl)) rfl ?_
  cases hf
  exact ym_lret (pc := 19) dX7_bidder_19 rfl
theorem sc_X7_bidder_X7_isMoney : ym_site g_X7_bidder g_X7_isMoney 5 1 1 := ⟨by decide, by decide, wd_247, wd_76, by decide +kernel⟩
theorem sc_X7_bidder_X7_biddersMade : ym_site g_X7_bidder g_X7_biddersMade 5 2 0 := ⟨by decide, by decide, wd_252, wd_76, by decide +kernel⟩
def bl_X7_bidder_59 (N : Nat) (w0 : Option Nat) (h : ym_H) : Option (Int64 × ym_H) :=
  Option.bind (ym_ob h w0 7) fun o62 =>
  Option.bind (fn_X7_refuse N w0 12 h) fun q62 =>
  some (q62.1, q62.2)
set_option maxRecDepth 20000 in
set_option maxHeartbeats 4000000 in
theorem ob_X7_bidder_59 {D : ym_D} {b0 : Nat} {N : Nat} {w0 : Option Nat} {h h' : ym_H} {r : Int64} (hf : bl_X7_bidder_59 N w0 h = some (r, h')) : ym_Y D b0 g_X7_bidder 5 59 [(0, va_rf w0)] [] h (some (.long r)) h' := by
  unfold bl_X7_bidder_59 at hf
  refine ym_aload_n (pc := 59) 0 dX7_bidder_59 rfl rfl ?_
  refine ym_bipush (pc := 60) (v := 12) dX7_bidder_60 (by decide) ?_
  obtain ⟨o62, f62, hf⟩ := Option.bind_eq_some_iff.mp hf
  obtain ⟨q62, e62, hf⟩ := Option.bind_eq_some_iff.mp hf
  refine ym_callV (pc := 62) (G2 := g_X7_refuse) (dep2 := 4) (As := [.int 12]) (st := []) (stk2 := [.long q62.1]) (r2 := (some (.long q62.1))) (h1 := q62.2) dX7_bidder_62 (ok_X7_refuse e62) (sc_X7_bidder_X7_refuse) wd_229 wd_231 wd_1 (ci := 7) (q0 := (RX7, TX7, 10)) rfl (by decide) rfl f62 rfl rfl (ym_st4 (Nat.le_of_ble_eq_true rfl)) rfl ?_
  cases hf
  exact ym_lret (pc := 65) dX7_bidder_65 rfl
theorem sc_X7_bidder_X0_init : ym_site g_X7_bidder g_X0_init 5 3 4 := ⟨by decide, by decide, wd_260, wd_84, by decide +kernel⟩
theorem sc_X7_bidder_X2_put : ym_site g_X7_bidder g_X2_put 5 4 2 := ⟨by decide, by decide, wd_284, wd_78, by decide +kernel⟩
def bl_X7_bidder_38 (N : Nat) (w0 : Option Nat) (w1 : Int32) (w2 : Int64) (h : ym_H) : Option (Int64 × ym_H) :=
  Option.bind (ym_ob h w0 7) fun o39 =>
  Option.bind (fn_X7_biddersMade N w0 h) fun q39 =>
  if q39.1 < 0 then
    bl_X7_bidder_59 N w0 q39.2
  else
    Option.bind (ym_gR q39.2 w0 7 5) fun v52 =>
    Option.bind (ym_len q39.2 v52) fun v55 =>
    if q39.1 < v55 then
      Option.bind (ym_gR q39.2 w0 7 5) fun v67 =>
      Option.bind (ym_nO q39.2 4 (.inr (0, [.int 0, .int 0, .long 0, .null]))) fun h72 =>
      Option.bind (ym_gR h72 w0 7 0) fun v77 =>
      Option.bind (fn_X0_init N (some q39.2.1) v77 w1 q39.1 w2 h72) fun q84 =>
      Option.bind (ym_ob q84.2 (some q39.2.1) 0) fun o87 =>
      Option.bind (ym_as q84.2 v67 5 q39.1 (va_rf (some q39.2.1))) fun h87 =>
      Option.bind (ym_gR h87 w0 7 1) fun v89 =>
      Option.bind (ym_ob h87 v89 2) fun o98 =>
      Option.bind (fn_X2_put N v89 0 (Int32.toInt64 (q39.1 + 1)) h87) fun q98 =>
      some ((Int32.toInt64 q39.1), q98.2)
    else
      bl_X7_bidder_59 N w0 q39.2
set_option maxRecDepth 20000 in
set_option maxHeartbeats 4000000 in
theorem ob_X7_bidder_38 {D : ym_D} {b0 : Nat} {N : Nat} {w0 : Option Nat} {w1 : Int32} {w2 : Int64} {h h' : ym_H} {r : Int64} (hf : bl_X7_bidder_38 N w0 w1 w2 h = some (r, h')) : ym_Y D b0 g_X7_bidder 5 38 [(0, va_rf w0), (1, .int w1), (2, .long w2)] [] h (some (.long r)) h' := by
  unfold bl_X7_bidder_38 at hf
  refine ym_aload_n (pc := 38) 0 dX7_bidder_38 rfl rfl ?_
  obtain ⟨o39, f39, hf⟩ := Option.bind_eq_some_iff.mp hf
  obtain ⟨q39, e39, hf⟩ := Option.bind_eq_some_iff.mp hf
  refine ym_callV (pc := 39) (G2 := g_X7_biddersMade) (dep2 := 2) (As := []) (st := []) (stk2 := [.int q39.1]) (r2 := (some (.int q39.1))) (h1 := q39.2) dX7_bidder_39 (ok_X7_biddersMade e39) (sc_X7_bidder_X7_biddersMade) wd_249 wd_251 wd_3 (ci := 7) (q0 := (RX7, TX7, 10)) rfl (by decide) rfl f39 rfl rfl (ym_st4 (Nat.le_of_ble_eq_true rfl)) rfl ?_
  refine ym_istore (pc := 42) (lv' := [(4, .int q39.1), (0, va_rf w0), (1, .int w1), (2, .long w2)]) dX7_bidder_42 (by decide) ⟨trivial, trivial, trivial, trivial⟩ rfl ?_
  refine ym_iload (pc := 44) 0 dX7_bidder_44 rfl ?_
  by_cases c46 : q39.1 < 0
  · rw [if_pos c46] at hf
    refine ym_if_lt_y (pc := 46) (tgt := 59) dX7_bidder_46 (by decide) c46 ?_
    exact ym_sub [1] rfl (ob_X7_bidder_59 hf)
  · rw [if_neg c46] at hf
    refine ym_if_lt_n (pc := 46) (tgt := 59) dX7_bidder_46 (by decide) c46 ?_
    refine ym_iload (pc := 49) 0 dX7_bidder_49 rfl ?_
    refine ym_aload_n (pc := 51) 1 dX7_bidder_51 rfl rfl ?_
    obtain ⟨v52, e52, hf⟩ := Option.bind_eq_some_iff.mp hf
    refine ym_get (pc := 52) dX7_bidder_52 rfl (by decide) iX7 (k := 5) (by decide) wd_191 (ym_gR_v e52) ?_
    obtain ⟨v55, e55, hf⟩ := Option.bind_eq_some_iff.mp hf
    refine ym_alen (pc := 55) dX7_bidder_55 e55 ?_
    by_cases c56 : q39.1 < v55
    · rw [if_pos c56] at hf
      refine ym_icmp_lt_y (pc := 56) (tgt := 66) dX7_bidder_56 (by decide) c56 ?_
      refine ym_aload_n (pc := 66) 1 dX7_bidder_66 rfl rfl ?_
      obtain ⟨v67, e67, hf⟩ := Option.bind_eq_some_iff.mp hf
      refine ym_get (pc := 67) dX7_bidder_67 rfl (by decide) iX7 (k := 5) (by decide) wd_191 (ym_gR_v e67) ?_
      refine ym_iload (pc := 70) 0 dX7_bidder_70 rfl ?_
      obtain ⟨h72, e72, hf⟩ := Option.bind_eq_some_iff.mp hf
      refine ym_newP (pc := 72) (h1 := h72) (ci := 0) [.int 0, .int 0, .long 0, .null] dX7_bidder_72 rfl iX0 tyX0 tyX0_ok wd_182 wd_257 wd_84 (by decide +kernel) e72 ?_
      refine ym_dup (pc := 75) dX7_bidder_75 (ym_c1 (some q39.2.1)) ?_
      refine ym_aload_n (pc := 76) 1 dX7_bidder_76 rfl rfl ?_
      obtain ⟨v77, e77, hf⟩ := Option.bind_eq_some_iff.mp hf
      refine ym_get (pc := 77) dX7_bidder_77 rfl (by decide) iX7 (k := 0) (by decide) wd_186 (ym_gR_v e77) ?_
      refine ym_iload_n (pc := 80) 2 dX7_bidder_80 rfl rfl ?_
      refine ym_iload (pc := 81) 0 dX7_bidder_81 rfl ?_
      refine ym_lload_n (pc := 83) 3 dX7_bidder_83 rfl rfl ?_
      obtain ⟨q84, e84, hf⟩ := Option.bind_eq_some_iff.mp hf
      refine ym_callI (pc := 84) (G2 := g_X0_init) (dep2 := 3) (a := (some q39.2.1)) (As := [va_rf v77, .int w1, .int q39.1, .long w2]) (st := [va_rf (some q39.2.1), .int q39.1, va_rf v67]) (stk2 := [va_rf (some q39.2.1), .int q39.1, va_rf v67]) (r2 := none) (h1 := q84.2) dX7_bidder_84 (ok_X0_init e84) (sc_X7_bidder_X0_init) rfl rfl wd_258 wd_259 (Option.some_ne_none _) rfl rfl (ym_st4 (Nat.le_of_ble_eq_true rfl)) rfl ?_
      obtain ⟨o87, f87, hf⟩ := Option.bind_eq_some_iff.mp hf
      obtain ⟨h87, e87, hf⟩ := Option.bind_eq_some_iff.mp hf
      refine ym_aast (pc := 87) (q0 := (RX0, TX0, 4)) dX7_bidder_87 rfl (ci := 0) rfl (by decide) (Or.inr ⟨_, f87⟩) e87 ?_
      refine ym_aload_n (pc := 88) 1 dX7_bidder_88 rfl rfl ?_
      obtain ⟨v89, e89, hf⟩ := Option.bind_eq_some_iff.mp hf
      refine ym_get (pc := 89) dX7_bidder_89 rfl (by decide) iX7 (k := 1) (by decide) wd_187 (ym_gR_v e89) ?_
      refine ym_iconst (pc := 92) (v := 0) dX7_bidder_92 (by decide) ?_
      refine ym_iload (pc := 93) 0 dX7_bidder_93 rfl ?_
      refine ym_iconst (pc := 95) (v := 1) dX7_bidder_95 (by decide) ?_
      refine ym_iadd (pc := 96) dX7_bidder_96 ?_
      refine ym_i2l (pc := 97) dX7_bidder_97 ?_
      obtain ⟨o98, f98, hf⟩ := Option.bind_eq_some_iff.mp hf
      obtain ⟨q98, e98, hf⟩ := Option.bind_eq_some_iff.mp hf
      refine ym_callV (pc := 98) (G2 := g_X2_put) (dep2 := 4) (As := [.int 0, .long (Int32.toInt64 (q39.1 + 1))]) (st := []) (stk2 := []) (r2 := none) (h1 := q98.2) dX7_bidder_98 (ok_X2_put e98) (sc_X7_bidder_X2_put) wd_281 wd_282 wd_283 (ci := 2) (q0 := (RX2, TX2, 2)) rfl (by decide) rfl f98 rfl rfl (ym_st4 (Nat.le_of_ble_eq_true rfl)) rfl ?_
      refine ym_iload (pc := 101) 0 dX7_bidder_101 rfl ?_
      refine ym_i2l (pc := 103) dX7_bidder_103 ?_
      cases hf
      exact ym_lret (pc := 104) dX7_bidder_104 rfl
    · rw [if_neg c56] at hf
      refine ym_icmp_lt_n (pc := 56) (tgt := 66) dX7_bidder_56 (by decide) c56 ?_
      exact ym_sub [1] rfl (ob_X7_bidder_59 hf)
def fn_X7_bidder (N : Nat) (a0 : Option Nat) (a1 : Int32) (a2 : Int64) (h : ym_H) : Option (Int64 × ym_H) :=
  Option.bind (ym_ob h a0 7) fun o1 =>
  Option.bind (fn_X7_startAct N a0 h) fun q1 =>
  if a1 < 1 then
    bl_X7_bidder_14 N a0 q1.2
  else
    if a1 ≤ 4 then
      if a1 = 3 then
        Option.bind (fn_X7_isMoney N a2 q1.2) fun q26 =>
        if q26.1 = 0 then
          Option.bind (ym_ob q26.2 a0 7) fun o34 =>
          Option.bind (fn_X7_refuse N a0 1 q26.2) fun q34 =>
          some (q34.1, q34.2)
        else
          bl_X7_bidder_38 N a0 a1 a2 q26.2
      else
        bl_X7_bidder_38 N a0 a1 a2 q1.2
    else
      bl_X7_bidder_14 N a0 q1.2
set_option maxRecDepth 20000 in
set_option maxHeartbeats 4000000 in
theorem ok_X7_bidder {D : ym_D} {b0 : Nat} {N : Nat} {a0 : Option Nat} {a1 : Int32} {a2 : Int64} {h h' : ym_H} {r : Int64} (hf : fn_X7_bidder N a0 a1 a2 h = some (r, h')) : ym_M D b0 g_X7_bidder 5 [va_rf a0, .int a1, .long a2] h (some (.long r)) h' := by
  unfold fn_X7_bidder at hf
  refine ym_meth (lv := [(0, va_rf a0), (1, .int a1), (2, .long a2)]) (by decide) (by simp [lg_sl, ym_c1, ym_cI, ym_cL, g_X7_bidder]) (by simp [lv_args, ym_c1, ym_cI, ym_cL]) ?_
  refine ym_aload_n (pc := 0) 0 dX7_bidder_0 rfl rfl ?_
  obtain ⟨o1, f1, hf⟩ := Option.bind_eq_some_iff.mp hf
  obtain ⟨q1, e1, hf⟩ := Option.bind_eq_some_iff.mp hf
  refine ym_callV (pc := 1) (G2 := g_X7_startAct) (dep2 := 2) (As := []) (st := []) (stk2 := []) (r2 := none) (h1 := q1.2) dX7_bidder_1 (ok_X7_startAct e1) (sc_X7_bidder_X7_startAct) wd_221 wd_223 wd_0 (ci := 7) (q0 := (RX7, TX7, 10)) rfl (by decide) rfl f1 rfl rfl (ym_st4 (Nat.le_of_ble_eq_true rfl)) rfl ?_
  refine ym_iload_n (pc := 4) 1 dX7_bidder_4 rfl rfl ?_
  refine ym_iconst (pc := 5) (v := 1) dX7_bidder_5 (by decide) ?_
  by_cases c6 : a1 < 1
  · rw [if_pos c6] at hf
    refine ym_icmp_lt_y (pc := 6) (tgt := 14) dX7_bidder_6 (by decide) c6 ?_
    exact ym_sub [0] rfl (ob_X7_bidder_14 hf)
  · rw [if_neg c6] at hf
    refine ym_icmp_lt_n (pc := 6) (tgt := 14) dX7_bidder_6 (by decide) c6 ?_
    refine ym_iload_n (pc := 9) 1 dX7_bidder_9 rfl rfl ?_
    refine ym_iconst (pc := 10) (v := 4) dX7_bidder_10 (by decide) ?_
    by_cases c11 : a1 ≤ 4
    · rw [if_pos c11] at hf
      refine ym_icmp_le_y (pc := 11) (tgt := 20) dX7_bidder_11 (by decide) c11 ?_
      refine ym_iload_n (pc := 20) 1 dX7_bidder_20 rfl rfl ?_
      refine ym_iconst (pc := 21) (v := 3) dX7_bidder_21 (by decide) ?_
      by_cases c22 : a1 = 3
      · rw [if_pos c22] at hf
        refine ym_icmp_ne_y (pc := 22) (tgt := 38) dX7_bidder_22 (by decide) c22 ?_
        refine ym_lload_n (pc := 25) 2 dX7_bidder_25 rfl rfl ?_
        obtain ⟨q26, e26, hf⟩ := Option.bind_eq_some_iff.mp hf
        refine ym_callS (pc := 26) (G2 := g_X7_isMoney) (dep2 := 1) (As := [.long a2]) (st := []) (stk2 := [.int q26.1]) (r2 := (some (.int q26.1))) (h1 := q26.2) dX7_bidder_26 (ok_X7_isMoney e26) (sc_X7_bidder_X7_isMoney) wd_245 wd_246 rfl rfl (ym_st4 (Nat.le_of_ble_eq_true rfl)) rfl ?_
        by_cases c29 : q26.1 = 0
        · rw [if_pos c29] at hf
          refine ym_if_ne_y (pc := 29) (tgt := 38) dX7_bidder_29 (by decide) c29 ?_
          refine ym_aload_n (pc := 32) 0 dX7_bidder_32 rfl rfl ?_
          refine ym_iconst (pc := 33) (v := 1) dX7_bidder_33 (by decide) ?_
          obtain ⟨o34, f34, hf⟩ := Option.bind_eq_some_iff.mp hf
          obtain ⟨q34, e34, hf⟩ := Option.bind_eq_some_iff.mp hf
          refine ym_callV (pc := 34) (G2 := g_X7_refuse) (dep2 := 4) (As := [.int 1]) (st := []) (stk2 := [.long q34.1]) (r2 := (some (.long q34.1))) (h1 := q34.2) dX7_bidder_34 (ok_X7_refuse e34) (sc_X7_bidder_X7_refuse) wd_229 wd_231 wd_1 (ci := 7) (q0 := (RX7, TX7, 10)) rfl (by decide) rfl f34 rfl rfl (ym_st4 (Nat.le_of_ble_eq_true rfl)) rfl ?_
          cases hf
          exact ym_lret (pc := 37) dX7_bidder_37 rfl
        · rw [if_neg c29] at hf
          refine ym_if_ne_n (pc := 29) (tgt := 38) dX7_bidder_29 (by decide) c29 ?_
          exact ym_sub [0, 1, 2] rfl (ob_X7_bidder_38 hf)
      · rw [if_neg c22] at hf
        refine ym_icmp_ne_n (pc := 22) (tgt := 38) dX7_bidder_22 (by decide) c22 ?_
        exact ym_sub [0, 1, 2] rfl (ob_X7_bidder_38 hf)
    · rw [if_neg c11] at hf
      refine ym_icmp_le_n (pc := 11) (tgt := 20) dX7_bidder_11 (by decide) c11 ?_
      exact ym_sub [0] rfl (ob_X7_bidder_14 hf)
theorem dX7_readEntry_0 : decode cX7_readEntry 0 = .ok (.aload_n 0, 1) := by decide +kernel
theorem dX7_readEntry_1 : decode cX7_readEntry 1 = .ok (.invokevirtual 58, 3) := by decide +kernel
theorem dX7_readEntry_4 : decode cX7_readEntry 4 = .ok (.aload_n 0, 1) := by decide +kernel
theorem dX7_readEntry_5 : decode cX7_readEntry 5 = .ok (.iload_n 1, 1) := by decide +kernel
theorem dX7_readEntry_6 : decode cX7_readEntry 6 = .ok (.invokevirtual 89, 3) := by decide +kernel
theorem dX7_readEntry_9 : decode cX7_readEntry 9 = .ok (.astore 4, 2) := by decide +kernel
theorem dX7_readEntry_11 : decode cX7_readEntry 11 = .ok (.aload 4, 2) := by decide +kernel
theorem dX7_readEntry_13 : decode cX7_readEntry 13 = .ok (.ifnonnull 12, 3) := by decide +kernel
theorem dX7_readEntry_16 : decode cX7_readEntry 16 = .ok (.aload_n 0, 1) := by decide +kernel
theorem dX7_readEntry_17 : decode cX7_readEntry 17 = .ok (.iload_n 1, 1) := by decide +kernel
theorem dX7_readEntry_18 : decode cX7_readEntry 18 = .ok (.invokestatic 93, 3) := by decide +kernel
theorem dX7_readEntry_21 : decode cX7_readEntry 21 = .ok (.invokevirtual 61, 3) := by decide +kernel
theorem dX7_readEntry_24 : decode cX7_readEntry 24 = .ok (.lreturn, 1) := by decide +kernel
theorem dX7_readEntry_25 : decode cX7_readEntry 25 = .ok (.aload 4, 2) := by decide +kernel
theorem dX7_readEntry_27 : decode cX7_readEntry 27 = .ok (.invokevirtual 270, 3) := by decide +kernel
theorem dX7_readEntry_30 : decode cX7_readEntry 30 = .ok (.ifCond .ne 10, 3) := by decide +kernel
theorem dX7_readEntry_33 : decode cX7_readEntry 33 = .ok (.aload_n 0, 1) := by decide +kernel
theorem dX7_readEntry_34 : decode cX7_readEntry 34 = .ok (.bipush 6, 2) := by decide +kernel
theorem dX7_readEntry_36 : decode cX7_readEntry 36 = .ok (.invokevirtual 61, 3) := by decide +kernel
theorem dX7_readEntry_39 : decode cX7_readEntry 39 = .ok (.lreturn, 1) := by decide +kernel
theorem dX7_readEntry_40 : decode cX7_readEntry 40 = .ok (.aload 4, 2) := by decide +kernel
theorem dX7_readEntry_42 : decode cX7_readEntry 42 = .ok (.getfield 137, 3) := by decide +kernel
theorem dX7_readEntry_45 : decode cX7_readEntry 45 = .ok (.iconst 4, 1) := by decide +kernel
theorem dX7_readEntry_46 : decode cX7_readEntry 46 = .ok (.if_icmp .ne 26, 3) := by decide +kernel
theorem dX7_readEntry_49 : decode cX7_readEntry 49 = .ok (.aload 4, 2) := by decide +kernel
theorem dX7_readEntry_51 : decode cX7_readEntry 51 = .ok (.invokevirtual 156, 3) := by decide +kernel
theorem dX7_readEntry_54 : decode cX7_readEntry 54 = .ok (.ifCond .eq 18, 3) := by decide +kernel
theorem dX7_readEntry_57 : decode cX7_readEntry 57 = .ok (.aload 4, 2) := by decide +kernel
theorem dX7_readEntry_59 : decode cX7_readEntry 59 = .ok (.invokevirtual 162, 3) := by decide +kernel
theorem dX7_readEntry_62 : decode cX7_readEntry 62 = .ok (.ifCond .ne 10, 3) := by decide +kernel
theorem dX7_readEntry_65 : decode cX7_readEntry 65 = .ok (.aload_n 0, 1) := by decide +kernel
theorem dX7_readEntry_66 : decode cX7_readEntry 66 = .ok (.bipush 7, 2) := by decide +kernel
theorem dX7_readEntry_68 : decode cX7_readEntry 68 = .ok (.invokevirtual 61, 3) := by decide +kernel
theorem dX7_readEntry_71 : decode cX7_readEntry 71 = .ok (.lreturn, 1) := by decide +kernel
theorem dX7_readEntry_72 : decode cX7_readEntry 72 = .ok (.iload_n 2, 1) := by decide +kernel
theorem dX7_readEntry_73 : decode cX7_readEntry 73 = .ok (.ifCond .lt 15, 3) := by decide +kernel
theorem dX7_readEntry_76 : decode cX7_readEntry 76 = .ok (.iload_n 2, 1) := by decide +kernel
theorem dX7_readEntry_77 : decode cX7_readEntry 77 = .ok (.aload 4, 2) := by decide +kernel
theorem dX7_readEntry_79 : decode cX7_readEntry 79 = .ok (.getfield 149, 3) := by decide +kernel
theorem dX7_readEntry_82 : decode cX7_readEntry 82 = .ok (.invokevirtual 116, 3) := by decide +kernel
theorem dX7_readEntry_85 : decode cX7_readEntry 85 = .ok (.if_icmp .lt 9, 3) := by decide +kernel
theorem dX7_readEntry_88 : decode cX7_readEntry 88 = .ok (.aload_n 0, 1) := by decide +kernel
theorem dX7_readEntry_89 : decode cX7_readEntry 89 = .ok (.iconst 3, 1) := by decide +kernel
theorem dX7_readEntry_90 : decode cX7_readEntry 90 = .ok (.invokevirtual 61, 3) := by decide +kernel
theorem dX7_readEntry_93 : decode cX7_readEntry 93 = .ok (.lreturn, 1) := by decide +kernel
theorem dX7_readEntry_94 : decode cX7_readEntry 94 = .ok (.aload 4, 2) := by decide +kernel
theorem dX7_readEntry_96 : decode cX7_readEntry 96 = .ok (.getfield 149, 3) := by decide +kernel
theorem dX7_readEntry_99 : decode cX7_readEntry 99 = .ok (.iload_n 2, 1) := by decide +kernel
theorem dX7_readEntry_100 : decode cX7_readEntry 100 = .ok (.iload_n 3, 1) := by decide +kernel
theorem dX7_readEntry_101 : decode cX7_readEntry 101 = .ok (.invokevirtual 321, 3) := by decide +kernel
theorem dX7_readEntry_104 : decode cX7_readEntry 104 = .ok (.lreturn, 1) := by decide +kernel
theorem sc_X7_readEntry_X7_startAct : ym_site g_X7_readEntry g_X7_startAct 5 2 0 := ⟨by decide, by decide, wd_224, wd_76, by decide +kernel⟩
theorem sc_X7_readEntry_X7_lotAt : ym_site g_X7_readEntry g_X7_lotAt 5 3 1 := ⟨by decide, by decide, wd_374, wd_76, by decide +kernel⟩
theorem sc_X7_readEntry_X7_whyNoLot : ym_site g_X7_readEntry g_X7_whyNoLot 5 1 1 := ⟨by decide, by decide, wd_377, wd_76, by decide +kernel⟩
theorem sc_X7_readEntry_X7_refuse : ym_site g_X7_readEntry g_X7_refuse 5 4 1 := ⟨by decide, by decide, wd_232, wd_76, by decide +kernel⟩
theorem sc_X7_readEntry_X4_hasBook : ym_site g_X7_readEntry g_X4_hasBook 5 3 0 := ⟨by decide, by decide, wd_547, wd_87, by decide +kernel⟩
theorem sc_X7_readEntry_X4_isOpen : ym_site g_X7_readEntry g_X4_isOpen 5 3 0 := ⟨by decide, by decide, wd_538, wd_87, by decide +kernel⟩
def bl_X7_readEntry_88 (N : Nat) (w0 : Option Nat) (h : ym_H) : Option (Int64 × ym_H) :=
  Option.bind (ym_ob h w0 7) fun o90 =>
  Option.bind (fn_X7_refuse N w0 3 h) fun q90 =>
  some (q90.1, q90.2)
set_option maxRecDepth 20000 in
set_option maxHeartbeats 4000000 in
theorem ob_X7_readEntry_88 {D : ym_D} {b0 : Nat} {N : Nat} {w0 : Option Nat} {h h' : ym_H} {r : Int64} (hf : bl_X7_readEntry_88 N w0 h = some (r, h')) : ym_Y D b0 g_X7_readEntry 5 88 [(0, va_rf w0)] [] h (some (.long r)) h' := by
  unfold bl_X7_readEntry_88 at hf
  refine ym_aload_n (pc := 88) 0 dX7_readEntry_88 rfl rfl ?_
  refine ym_iconst (pc := 89) (v := 3) dX7_readEntry_89 (by decide) ?_
  obtain ⟨o90, f90, hf⟩ := Option.bind_eq_some_iff.mp hf
  obtain ⟨q90, e90, hf⟩ := Option.bind_eq_some_iff.mp hf
  refine ym_callV (pc := 90) (G2 := g_X7_refuse) (dep2 := 4) (As := [.int 3]) (st := []) (stk2 := [.long q90.1]) (r2 := (some (.long q90.1))) (h1 := q90.2) dX7_readEntry_90 (ok_X7_refuse e90) (sc_X7_readEntry_X7_refuse) wd_229 wd_231 wd_1 (ci := 7) (q0 := (RX7, TX7, 10)) rfl (by decide) rfl f90 rfl rfl (ym_st4 (Nat.le_of_ble_eq_true rfl)) rfl ?_
  cases hf
  exact ym_lret (pc := 93) dX7_readEntry_93 rfl
theorem sc_X7_readEntry_X5_rows : ym_site g_X7_readEntry g_X5_rows 5 2 0 := ⟨by decide, by decide, wd_397, wd_81, by decide +kernel⟩
theorem sc_X7_readEntry_X5_at : ym_site g_X7_readEntry g_X5_at 5 2 2 := ⟨by decide, by decide, wd_402, wd_81, by decide +kernel⟩
def bl_X7_readEntry_72 (N : Nat) (w0 : Option Nat) (w2 : Int32) (w3 : Int32) (w4 : Option Nat) (h : ym_H) : Option (Int64 × ym_H) :=
  if w2 < 0 then
    bl_X7_readEntry_88 N w0 h
  else
    Option.bind (ym_gR h w4 4 3) fun v79 =>
    Option.bind (ym_ob h v79 5) fun o82 =>
    Option.bind (fn_X5_rows N v79 h) fun q82 =>
    if w2 < q82.1 then
      Option.bind (ym_gR q82.2 w4 4 3) fun v96 =>
      Option.bind (ym_ob q82.2 v96 5) fun o101 =>
      Option.bind (fn_X5_at N v96 w2 w3 q82.2) fun q101 =>
      some (q101.1, q101.2)
    else
      bl_X7_readEntry_88 N w0 q82.2
set_option maxRecDepth 20000 in
set_option maxHeartbeats 4000000 in
theorem ob_X7_readEntry_72 {D : ym_D} {b0 : Nat} {N : Nat} {w0 : Option Nat} {w2 : Int32} {w3 : Int32} {w4 : Option Nat} {h h' : ym_H} {r : Int64} (hf : bl_X7_readEntry_72 N w0 w2 w3 w4 h = some (r, h')) : ym_Y D b0 g_X7_readEntry 5 72 [(0, va_rf w0), (2, .int w2), (3, .int w3), (4, va_rf w4)] [] h (some (.long r)) h' := by
  unfold bl_X7_readEntry_72 at hf
  refine ym_iload_n (pc := 72) 1 dX7_readEntry_72 rfl rfl ?_
  by_cases c73 : w2 < 0
  · rw [if_pos c73] at hf
    refine ym_if_lt_y (pc := 73) (tgt := 88) dX7_readEntry_73 (by decide) c73 ?_
    exact ym_sub [0] rfl (ob_X7_readEntry_88 hf)
  · rw [if_neg c73] at hf
    refine ym_if_lt_n (pc := 73) (tgt := 88) dX7_readEntry_73 (by decide) c73 ?_
    refine ym_iload_n (pc := 76) 1 dX7_readEntry_76 rfl rfl ?_
    refine ym_aload (pc := 77) 3 dX7_readEntry_77 rfl ?_
    obtain ⟨v79, e79, hf⟩ := Option.bind_eq_some_iff.mp hf
    refine ym_getN (pc := 79) dX7_readEntry_79 rfl (by decide) iX4 (k := 3) (by decide) wd_348 (ym_gR_v e79) ?_
    obtain ⟨o82, f82, hf⟩ := Option.bind_eq_some_iff.mp hf
    obtain ⟨q82, e82, hf⟩ := Option.bind_eq_some_iff.mp hf
    refine ym_callV (pc := 82) (G2 := g_X5_rows) (dep2 := 2) (As := []) (st := [.int w2]) (stk2 := [.int q82.1, .int w2]) (r2 := (some (.int q82.1))) (h1 := q82.2) dX7_readEntry_82 (ok_X5_rows e82) (sc_X7_readEntry_X5_rows) wd_403 wd_395 wd_396 (ci := 5) (q0 := (RX5, TX5, 2)) rfl (by decide) rfl f82 rfl rfl (ym_st4 (Nat.le_of_ble_eq_true rfl)) rfl ?_
    by_cases c85 : w2 < q82.1
    · rw [if_pos c85] at hf
      refine ym_icmp_lt_y (pc := 85) (tgt := 94) dX7_readEntry_85 (by decide) c85 ?_
      refine ym_aload (pc := 94) 3 dX7_readEntry_94 rfl ?_
      obtain ⟨v96, e96, hf⟩ := Option.bind_eq_some_iff.mp hf
      refine ym_getN (pc := 96) dX7_readEntry_96 rfl (by decide) iX4 (k := 3) (by decide) wd_348 (ym_gR_v e96) ?_
      refine ym_iload_n (pc := 99) 1 dX7_readEntry_99 rfl rfl ?_
      refine ym_iload_n (pc := 100) 2 dX7_readEntry_100 rfl rfl ?_
      obtain ⟨o101, f101, hf⟩ := Option.bind_eq_some_iff.mp hf
      obtain ⟨q101, e101, hf⟩ := Option.bind_eq_some_iff.mp hf
      refine ym_callV (pc := 101) (G2 := g_X5_at) (dep2 := 2) (As := [.int w2, .int w3]) (st := []) (stk2 := [.long q101.1]) (r2 := (some (.long q101.1))) (h1 := q101.2) dX7_readEntry_101 (ok_X5_at e101) (sc_X7_readEntry_X5_at) wd_508 wd_400 wd_401 (ci := 5) (q0 := (RX5, TX5, 2)) rfl (by decide) rfl f101 rfl rfl (ym_st4 (Nat.le_of_ble_eq_true rfl)) rfl ?_
      cases hf
      exact ym_lret (pc := 104) dX7_readEntry_104 rfl
    · rw [if_neg c85] at hf
      refine ym_icmp_lt_n (pc := 85) (tgt := 94) dX7_readEntry_85 (by decide) c85 ?_
      exact ym_sub [0] rfl (ob_X7_readEntry_88 hf)
theorem sc_X7_readEntry_X4_wasOpened : ym_site g_X7_readEntry g_X4_wasOpened 5 2 0 := ⟨by decide, by decide, wd_516, wd_87, by decide +kernel⟩
def fn_X7_readEntry (N : Nat) (a0 : Option Nat) (a1 : Int32) (a2 : Int32) (a3 : Int32) (h : ym_H) : Option (Int64 × ym_H) :=
  Option.bind (ym_ob h a0 7) fun o1 =>
  Option.bind (fn_X7_startAct N a0 h) fun q1 =>
  Option.bind (ym_ob q1.2 a0 7) fun o6 =>
  Option.bind (fn_X7_lotAt N a0 a1 q1.2) fun q6 =>
  if q6.1 = none then
    Option.bind (fn_X7_whyNoLot N a1 q6.2) fun q18 =>
    Option.bind (ym_ob q18.2 a0 7) fun o21 =>
    Option.bind (fn_X7_refuse N a0 q18.1 q18.2) fun q21 =>
    some (q21.1, q21.2)
  else
    Option.bind (ym_ob q6.2 q6.1 4) fun o27 =>
    Option.bind (fn_X4_hasBook N q6.1 q6.2) fun q27 =>
    if q27.1 = 0 then
      Option.bind (ym_ob q27.2 a0 7) fun o36 =>
      Option.bind (fn_X7_refuse N a0 6 q27.2) fun q36 =>
      some (q36.1, q36.2)
    else
      Option.bind (ym_gI q27.2 q6.1 4 0) fun v42 =>
      if v42 = 4 then
        Option.bind (ym_ob q27.2 q6.1 4) fun o51 =>
        Option.bind (fn_X4_isOpen N q6.1 q27.2) fun q51 =>
        if q51.1 = 0 then
          bl_X7_readEntry_72 N a0 a2 a3 q6.1 q51.2
        else
          Option.bind (ym_ob q51.2 q6.1 4) fun o59 =>
          Option.bind (fn_X4_wasOpened N q6.1 q51.2) fun q59 =>
          if q59.1 = 0 then
            Option.bind (ym_ob q59.2 a0 7) fun o68 =>
            Option.bind (fn_X7_refuse N a0 7 q59.2) fun q68 =>
            some (q68.1, q68.2)
          else
            bl_X7_readEntry_72 N a0 a2 a3 q6.1 q59.2
      else
        bl_X7_readEntry_72 N a0 a2 a3 q6.1 q27.2
set_option maxRecDepth 20000 in
set_option maxHeartbeats 4000000 in
theorem ok_X7_readEntry {D : ym_D} {b0 : Nat} {N : Nat} {a0 : Option Nat} {a1 : Int32} {a2 : Int32} {a3 : Int32} {h h' : ym_H} {r : Int64} (hf : fn_X7_readEntry N a0 a1 a2 a3 h = some (r, h')) : ym_M D b0 g_X7_readEntry 5 [va_rf a0, .int a1, .int a2, .int a3] h (some (.long r)) h' := by
  unfold fn_X7_readEntry at hf
  refine ym_meth (lv := [(0, va_rf a0), (1, .int a1), (2, .int a2), (3, .int a3)]) (by decide) (by simp [lg_sl, ym_c1, ym_cI, ym_cL, g_X7_readEntry]) (by simp [lv_args, ym_c1, ym_cI, ym_cL]) ?_
  refine ym_aload_n (pc := 0) 0 dX7_readEntry_0 rfl rfl ?_
  obtain ⟨o1, f1, hf⟩ := Option.bind_eq_some_iff.mp hf
  obtain ⟨q1, e1, hf⟩ := Option.bind_eq_some_iff.mp hf
  refine ym_callV (pc := 1) (G2 := g_X7_startAct) (dep2 := 2) (As := []) (st := []) (stk2 := []) (r2 := none) (h1 := q1.2) dX7_readEntry_1 (ok_X7_startAct e1) (sc_X7_readEntry_X7_startAct) wd_221 wd_223 wd_0 (ci := 7) (q0 := (RX7, TX7, 10)) rfl (by decide) rfl f1 rfl rfl (ym_st4 (Nat.le_of_ble_eq_true rfl)) rfl ?_
  refine ym_aload_n (pc := 4) 0 dX7_readEntry_4 rfl rfl ?_
  refine ym_iload_n (pc := 5) 1 dX7_readEntry_5 rfl rfl ?_
  obtain ⟨o6, f6, hf⟩ := Option.bind_eq_some_iff.mp hf
  obtain ⟨q6, e6, hf⟩ := Option.bind_eq_some_iff.mp hf
  refine ym_callV (pc := 6) (G2 := g_X7_lotAt) (dep2 := 3) (As := [.int a1]) (st := []) (stk2 := [va_rf q6.1]) (r2 := (some (va_rf q6.1))) (h1 := q6.2) dX7_readEntry_6 (ok_X7_lotAt e6) (sc_X7_readEntry_X7_lotAt) wd_371 wd_373 wd_5 (ci := 7) (q0 := (RX7, TX7, 10)) rfl (by decide) rfl f6 rfl rfl (ym_st4 (Nat.le_of_ble_eq_true rfl)) rfl ?_
  refine ym_astore (pc := 9) (lv' := [(4, va_rf q6.1), (0, va_rf a0), (1, .int a1), (2, .int a2), (3, .int a3)]) dX7_readEntry_9 (by decide) ⟨trivial, trivial, trivial, rfl, trivial⟩ rfl ?_
  refine ym_aload (pc := 11) 0 dX7_readEntry_11 rfl ?_
  by_cases c13 : q6.1 = none
  · rw [if_pos c13] at hf
    refine ym_ifnonnull_y (pc := 13) (tgt := 25) dX7_readEntry_13 (by decide) c13 ?_
    refine ym_aload_n (pc := 16) 1 dX7_readEntry_16 rfl rfl ?_
    refine ym_iload_n (pc := 17) 2 dX7_readEntry_17 rfl rfl ?_
    obtain ⟨q18, e18, hf⟩ := Option.bind_eq_some_iff.mp hf
    refine ym_callS (pc := 18) (G2 := g_X7_whyNoLot) (dep2 := 1) (As := [.int a1]) (st := [va_rf a0]) (stk2 := [.int q18.1, va_rf a0]) (r2 := (some (.int q18.1))) (h1 := q18.2) dX7_readEntry_18 (ok_X7_whyNoLot e18) (sc_X7_readEntry_X7_whyNoLot) wd_375 wd_376 rfl rfl (ym_st4 (Nat.le_of_ble_eq_true rfl)) rfl ?_
    obtain ⟨o21, f21, hf⟩ := Option.bind_eq_some_iff.mp hf
    obtain ⟨q21, e21, hf⟩ := Option.bind_eq_some_iff.mp hf
    refine ym_callV (pc := 21) (G2 := g_X7_refuse) (dep2 := 4) (As := [.int q18.1]) (st := []) (stk2 := [.long q21.1]) (r2 := (some (.long q21.1))) (h1 := q21.2) dX7_readEntry_21 (ok_X7_refuse e21) (sc_X7_readEntry_X7_refuse) wd_229 wd_231 wd_1 (ci := 7) (q0 := (RX7, TX7, 10)) rfl (by decide) rfl f21 rfl rfl (ym_st4 (Nat.le_of_ble_eq_true rfl)) rfl ?_
    cases hf
    exact ym_lret (pc := 24) dX7_readEntry_24 rfl
  · rw [if_neg c13] at hf
    refine ym_ifnonnull_n (pc := 13) (tgt := 25) dX7_readEntry_13 (by decide) c13 ?_
    refine ym_aload (pc := 25) 0 dX7_readEntry_25 rfl ?_
    obtain ⟨o27, f27, hf⟩ := Option.bind_eq_some_iff.mp hf
    obtain ⟨q27, e27, hf⟩ := Option.bind_eq_some_iff.mp hf
    refine ym_callV (pc := 27) (G2 := g_X4_hasBook) (dep2 := 3) (As := []) (st := []) (stk2 := [.int q27.1]) (r2 := (some (.int q27.1))) (h1 := q27.2) dX7_readEntry_27 (ok_X4_hasBook e27) (sc_X7_readEntry_X4_hasBook) wd_632 wd_545 wd_546 (ci := 4) (q0 := (RX4, TX4, 6)) rfl (by decide) rfl f27 rfl rfl (ym_st4 (Nat.le_of_ble_eq_true rfl)) rfl ?_
    by_cases c30 : q27.1 = 0
    · rw [if_pos c30] at hf
      refine ym_if_ne_y (pc := 30) (tgt := 40) dX7_readEntry_30 (by decide) c30 ?_
      refine ym_aload_n (pc := 33) 1 dX7_readEntry_33 rfl rfl ?_
      refine ym_bipush (pc := 34) (v := 6) dX7_readEntry_34 (by decide) ?_
      obtain ⟨o36, f36, hf⟩ := Option.bind_eq_some_iff.mp hf
      obtain ⟨q36, e36, hf⟩ := Option.bind_eq_some_iff.mp hf
      refine ym_callV (pc := 36) (G2 := g_X7_refuse) (dep2 := 4) (As := [.int 6]) (st := []) (stk2 := [.long q36.1]) (r2 := (some (.long q36.1))) (h1 := q36.2) dX7_readEntry_36 (ok_X7_refuse e36) (sc_X7_readEntry_X7_refuse) wd_229 wd_231 wd_1 (ci := 7) (q0 := (RX7, TX7, 10)) rfl (by decide) rfl f36 rfl rfl (ym_st4 (Nat.le_of_ble_eq_true rfl)) rfl ?_
      cases hf
      exact ym_lret (pc := 39) dX7_readEntry_39 rfl
    · rw [if_neg c30] at hf
      refine ym_if_ne_n (pc := 30) (tgt := 40) dX7_readEntry_30 (by decide) c30 ?_
      refine ym_aload (pc := 40) 0 dX7_readEntry_40 rfl ?_
      obtain ⟨v42, e42, hf⟩ := Option.bind_eq_some_iff.mp hf
      refine ym_getN (pc := 42) dX7_readEntry_42 rfl (by decide) iX4 (k := 0) (by decide) wd_340 (ym_gI_v e42) ?_
      refine ym_iconst (pc := 45) (v := 4) dX7_readEntry_45 (by decide) ?_
      by_cases c46 : v42 = 4
      · rw [if_pos c46] at hf
        refine ym_icmp_ne_y (pc := 46) (tgt := 72) dX7_readEntry_46 (by decide) c46 ?_
        refine ym_aload (pc := 49) 0 dX7_readEntry_49 rfl ?_
        obtain ⟨o51, f51, hf⟩ := Option.bind_eq_some_iff.mp hf
        obtain ⟨q51, e51, hf⟩ := Option.bind_eq_some_iff.mp hf
        refine ym_callV (pc := 51) (G2 := g_X4_isOpen) (dep2 := 3) (As := []) (st := []) (stk2 := [.int q51.1]) (r2 := (some (.int q51.1))) (h1 := q51.2) dX7_readEntry_51 (ok_X4_isOpen e51) (sc_X7_readEntry_X4_isOpen) wd_535 wd_536 wd_537 (ci := 4) (q0 := (RX4, TX4, 6)) rfl (by decide) rfl f51 rfl rfl (ym_st4 (Nat.le_of_ble_eq_true rfl)) rfl ?_
        by_cases c54 : q51.1 = 0
        · rw [if_pos c54] at hf
          refine ym_if_eq_y (pc := 54) (tgt := 72) dX7_readEntry_54 (by decide) c54 ?_
          exact ym_sub [1, 3, 4, 0] rfl (ob_X7_readEntry_72 hf)
        · rw [if_neg c54] at hf
          refine ym_if_eq_n (pc := 54) (tgt := 72) dX7_readEntry_54 (by decide) c54 ?_
          refine ym_aload (pc := 57) 0 dX7_readEntry_57 rfl ?_
          obtain ⟨o59, f59, hf⟩ := Option.bind_eq_some_iff.mp hf
          obtain ⟨q59, e59, hf⟩ := Option.bind_eq_some_iff.mp hf
          refine ym_callV (pc := 59) (G2 := g_X4_wasOpened) (dep2 := 2) (As := []) (st := []) (stk2 := [.int q59.1]) (r2 := (some (.int q59.1))) (h1 := q59.2) dX7_readEntry_59 (ok_X4_wasOpened e59) (sc_X7_readEntry_X4_wasOpened) wd_548 wd_514 wd_515 (ci := 4) (q0 := (RX4, TX4, 6)) rfl (by decide) rfl f59 rfl rfl (ym_st4 (Nat.le_of_ble_eq_true rfl)) rfl ?_
          by_cases c62 : q59.1 = 0
          · rw [if_pos c62] at hf
            refine ym_if_ne_y (pc := 62) (tgt := 72) dX7_readEntry_62 (by decide) c62 ?_
            refine ym_aload_n (pc := 65) 1 dX7_readEntry_65 rfl rfl ?_
            refine ym_bipush (pc := 66) (v := 7) dX7_readEntry_66 (by decide) ?_
            obtain ⟨o68, f68, hf⟩ := Option.bind_eq_some_iff.mp hf
            obtain ⟨q68, e68, hf⟩ := Option.bind_eq_some_iff.mp hf
            refine ym_callV (pc := 68) (G2 := g_X7_refuse) (dep2 := 4) (As := [.int 7]) (st := []) (stk2 := [.long q68.1]) (r2 := (some (.long q68.1))) (h1 := q68.2) dX7_readEntry_68 (ok_X7_refuse e68) (sc_X7_readEntry_X7_refuse) wd_229 wd_231 wd_1 (ci := 7) (q0 := (RX7, TX7, 10)) rfl (by decide) rfl f68 rfl rfl (ym_st4 (Nat.le_of_ble_eq_true rfl)) rfl ?_
            cases hf
            exact ym_lret (pc := 71) dX7_readEntry_71 rfl
          · rw [if_neg c62] at hf
            refine ym_if_ne_n (pc := 62) (tgt := 72) dX7_readEntry_62 (by decide) c62 ?_
            exact ym_sub [1, 3, 4, 0] rfl (ob_X7_readEntry_72 hf)
      · rw [if_neg c46] at hf
        refine ym_icmp_ne_n (pc := 46) (tgt := 72) dX7_readEntry_46 (by decide) c46 ?_
        exact ym_sub [1, 3, 4, 0] rfl (ob_X7_readEntry_72 hf)
theorem dX7_bidderAt_0 : decode cX7_bidderAt 0 = .ok (.aload_n 0, 1) := by decide +kernel
theorem dX7_bidderAt_1 : decode cX7_bidderAt 1 = .ok (.iload_n 1, 1) := by decide +kernel
theorem dX7_bidderAt_2 : decode cX7_bidderAt 2 = .ok (.iload_n 2, 1) := by decide +kernel
theorem dX7_bidderAt_3 : decode cX7_bidderAt 3 = .ok (.iconst 0, 1) := by decide +kernel
theorem dX7_bidderAt_4 : decode cX7_bidderAt 4 = .ok (.invokevirtual 218, 3) := by decide +kernel
theorem dX7_bidderAt_7 : decode cX7_bidderAt 7 = .ok (.lreturn, 1) := by decide +kernel
theorem sc_X7_bidderAt_X7_readEntry : ym_site g_X7_bidderAt g_X7_readEntry 6 5 3 := ⟨by decide, by decide, wd_631, wd_76, by decide +kernel⟩
def fn_X7_bidderAt (N : Nat) (a0 : Option Nat) (a1 : Int32) (a2 : Int32) (h : ym_H) : Option (Int64 × ym_H) :=
  Option.bind (ym_ob h a0 7) fun o4 =>
  Option.bind (fn_X7_readEntry N a0 a1 a2 0 h) fun q4 =>
  some (q4.1, q4.2)
set_option maxRecDepth 20000 in
set_option maxHeartbeats 4000000 in
theorem ok_X7_bidderAt {D : ym_D} {b0 : Nat} {N : Nat} {a0 : Option Nat} {a1 : Int32} {a2 : Int32} {h h' : ym_H} {r : Int64} (hf : fn_X7_bidderAt N a0 a1 a2 h = some (r, h')) : ym_M D b0 g_X7_bidderAt 6 [va_rf a0, .int a1, .int a2] h (some (.long r)) h' := by
  unfold fn_X7_bidderAt at hf
  refine ym_meth (lv := [(0, va_rf a0), (1, .int a1), (2, .int a2)]) (by decide) (by simp [lg_sl, ym_c1, ym_cI, ym_cL, g_X7_bidderAt]) (by simp [lv_args, ym_c1, ym_cI, ym_cL]) ?_
  refine ym_aload_n (pc := 0) 0 dX7_bidderAt_0 rfl rfl ?_
  refine ym_iload_n (pc := 1) 1 dX7_bidderAt_1 rfl rfl ?_
  refine ym_iload_n (pc := 2) 2 dX7_bidderAt_2 rfl rfl ?_
  refine ym_iconst (pc := 3) (v := 0) dX7_bidderAt_3 (by decide) ?_
  obtain ⟨o4, f4, hf⟩ := Option.bind_eq_some_iff.mp hf
  obtain ⟨q4, e4, hf⟩ := Option.bind_eq_some_iff.mp hf
  refine ym_callV (pc := 4) (G2 := g_X7_readEntry) (dep2 := 5) (As := [.int a1, .int a2, .int 0]) (st := []) (stk2 := [.long q4.1]) (r2 := (some (.long q4.1))) (h1 := q4.2) dX7_bidderAt_4 (ok_X7_readEntry e4) (sc_X7_bidderAt_X7_readEntry) wd_628 wd_630 wd_12 (ci := 7) (q0 := (RX7, TX7, 10)) rfl (by decide) rfl f4 rfl rfl (ym_st4 (Nat.le_of_ble_eq_true rfl)) rfl ?_
  cases hf
  exact ym_lret (pc := 7) dX7_bidderAt_7 rfl
theorem dX7_bidderKind_0 : decode cX7_bidderKind 0 = .ok (.aload_n 0, 1) := by decide +kernel
theorem dX7_bidderKind_1 : decode cX7_bidderKind 1 = .ok (.iload_n 1, 1) := by decide +kernel
theorem dX7_bidderKind_2 : decode cX7_bidderKind 2 = .ok (.invokevirtual 97, 3) := by decide +kernel
theorem dX7_bidderKind_5 : decode cX7_bidderKind 5 = .ok (.astore_n 2, 1) := by decide +kernel
theorem dX7_bidderKind_6 : decode cX7_bidderKind 6 = .ok (.aload_n 2, 1) := by decide +kernel
theorem dX7_bidderKind_7 : decode cX7_bidderKind 7 = .ok (.ifnonnull 7, 3) := by decide +kernel
theorem dX7_bidderKind_10 : decode cX7_bidderKind 10 = .ok (.iconst 0, 1) := by decide +kernel
theorem dX7_bidderKind_11 : decode cX7_bidderKind 11 = .ok (.goto 7, 3) := by decide +kernel
theorem dX7_bidderKind_14 : decode cX7_bidderKind 14 = .ok (.aload_n 2, 1) := by decide +kernel
theorem dX7_bidderKind_15 : decode cX7_bidderKind 15 = .ok (.getfield 214, 3) := by decide +kernel
theorem dX7_bidderKind_18 : decode cX7_bidderKind 18 = .ok (.ireturn, 1) := by decide +kernel
theorem sc_X7_bidderKind_X7_bidderWith : ym_site g_X7_bidderKind g_X7_bidderWith 4 3 1 := ⟨by decide, by decide, wd_381, wd_76, by decide +kernel⟩
def fn_X7_bidderKind (N : Nat) (a0 : Option Nat) (a1 : Int32) (h : ym_H) : Option (Int32 × ym_H) :=
  Option.bind (ym_ob h a0 7) fun o2 =>
  Option.bind (fn_X7_bidderWith N a0 a1 h) fun q2 =>
  if q2.1 = none then
    some (0, q2.2)
  else
    Option.bind (ym_gI q2.2 q2.1 0 0) fun v15 =>
    some (v15, q2.2)
set_option maxRecDepth 20000 in
set_option maxHeartbeats 4000000 in
theorem ok_X7_bidderKind {D : ym_D} {b0 : Nat} {N : Nat} {a0 : Option Nat} {a1 : Int32} {h h' : ym_H} {r : Int32} (hf : fn_X7_bidderKind N a0 a1 h = some (r, h')) : ym_M D b0 g_X7_bidderKind 4 [va_rf a0, .int a1] h (some (.int r)) h' := by
  unfold fn_X7_bidderKind at hf
  refine ym_meth (lv := [(0, va_rf a0), (1, .int a1)]) (by decide) (by simp [lg_sl, ym_c1, ym_cI, ym_cL, g_X7_bidderKind]) (by simp [lv_args, ym_c1, ym_cI, ym_cL]) ?_
  refine ym_aload_n (pc := 0) 0 dX7_bidderKind_0 rfl rfl ?_
  refine ym_iload_n (pc := 1) 1 dX7_bidderKind_1 rfl rfl ?_
  obtain ⟨o2, f2, hf⟩ := Option.bind_eq_some_iff.mp hf
  obtain ⟨q2, e2, hf⟩ := Option.bind_eq_some_iff.mp hf
  refine ym_callV (pc := 2) (G2 := g_X7_bidderWith) (dep2 := 3) (As := [.int a1]) (st := []) (stk2 := [va_rf q2.1]) (r2 := (some (va_rf q2.1))) (h1 := q2.2) dX7_bidderKind_2 (ok_X7_bidderWith e2) (sc_X7_bidderKind_X7_bidderWith) wd_378 wd_380 wd_6 (ci := 7) (q0 := (RX7, TX7, 10)) rfl (by decide) rfl f2 rfl rfl (ym_st4 (Nat.le_of_ble_eq_true rfl)) rfl ?_
  refine ym_sub (lv' := []) [] rfl ?_
  refine ym_astore_n (pc := 5) (lv' := [(2, va_rf q2.1)]) dX7_bidderKind_5 rfl (by decide) trivial rfl ?_
  refine ym_aload_n (pc := 6) 0 dX7_bidderKind_6 rfl rfl ?_
  by_cases c7 : q2.1 = none
  · rw [if_pos c7] at hf
    refine ym_ifnonnull_y (pc := 7) (tgt := 14) dX7_bidderKind_7 (by decide) c7 ?_
    refine ym_iconst (pc := 10) (v := 0) dX7_bidderKind_10 (by decide) ?_
    refine ym_goto (pc := 11) (tgt := 18) dX7_bidderKind_11 (by decide) ?_
    cases hf
    exact ym_iret (pc := 18) dX7_bidderKind_18 rfl
  · rw [if_neg c7] at hf
    refine ym_ifnonnull_n (pc := 7) (tgt := 14) dX7_bidderKind_7 (by decide) c7 ?_
    refine ym_aload_n (pc := 14) 0 dX7_bidderKind_14 rfl rfl ?_
    obtain ⟨v15, e15, hf⟩ := Option.bind_eq_some_iff.mp hf
    refine ym_getN (pc := 15) dX7_bidderKind_15 rfl (by decide) iX0 (k := 0) (by decide) wd_266 (ym_gI_v e15) ?_
    cases hf
    exact ym_iret (pc := 18) dX7_bidderKind_18 rfl
theorem dX7_bookTo_0 : decode cX7_bookTo 0 = .ok (.aload_n 0, 1) := by decide +kernel
theorem dX7_bookTo_1 : decode cX7_bookTo 1 = .ok (.getfield 21, 3) := by decide +kernel
theorem dX7_bookTo_4 : decode cX7_bookTo 4 = .ok (.iload_n 1, 1) := by decide +kernel
theorem dX7_bookTo_5 : decode cX7_bookTo 5 = .ok (.aload_n 0, 1) := by decide +kernel
theorem dX7_bookTo_6 : decode cX7_bookTo 6 = .ok (.getfield 21, 3) := by decide +kernel
theorem dX7_bookTo_9 : decode cX7_bookTo 9 = .ok (.iload_n 1, 1) := by decide +kernel
theorem dX7_bookTo_10 : decode cX7_bookTo 10 = .ok (.invokevirtual 130, 3) := by decide +kernel
theorem dX7_bookTo_13 : decode cX7_bookTo 13 = .ok (.lload_n 2, 1) := by decide +kernel
theorem dX7_bookTo_14 : decode cX7_bookTo 14 = .ok (.ladd, 1) := by decide +kernel
theorem dX7_bookTo_15 : decode cX7_bookTo 15 = .ok (.invokevirtual 76, 3) := by decide +kernel
theorem dX7_bookTo_18 : decode cX7_bookTo 18 = .ok (.return_, 1) := by decide +kernel
theorem sc_X7_bookTo_X2_get : ym_site g_X7_bookTo g_X2_get 5 1 1 := ⟨by decide, by decide, wd_256, wd_78, by decide +kernel⟩
theorem sc_X7_bookTo_X2_put : ym_site g_X7_bookTo g_X2_put 5 4 2 := ⟨by decide, by decide, wd_284, wd_78, by decide +kernel⟩
def fn_X7_bookTo (N : Nat) (a0 : Option Nat) (a1 : Int32) (a2 : Int64) (h : ym_H) : Option (Unit × ym_H) :=
  Option.bind (ym_gR h a0 7 1) fun v1 =>
  Option.bind (ym_gR h a0 7 1) fun v6 =>
  Option.bind (ym_ob h v6 2) fun o10 =>
  Option.bind (fn_X2_get N v6 a1 h) fun q10 =>
  Option.bind (ym_ob q10.2 v1 2) fun o15 =>
  Option.bind (fn_X2_put N v1 a1 (q10.1 + a2) q10.2) fun q15 =>
  some ((), q15.2)
set_option maxRecDepth 20000 in
set_option maxHeartbeats 4000000 in
theorem ok_X7_bookTo {D : ym_D} {b0 : Nat} {N : Nat} {a0 : Option Nat} {a1 : Int32} {a2 : Int64} {h h' : ym_H} {r : Unit} (hf : fn_X7_bookTo N a0 a1 a2 h = some (r, h')) : ym_M D b0 g_X7_bookTo 5 [va_rf a0, .int a1, .long a2] h none h' := by
  unfold fn_X7_bookTo at hf
  refine ym_meth (lv := [(0, va_rf a0), (1, .int a1), (2, .long a2)]) (by decide) (by simp [lg_sl, ym_c1, ym_cI, ym_cL, g_X7_bookTo]) (by simp [lv_args, ym_c1, ym_cI, ym_cL]) ?_
  refine ym_aload_n (pc := 0) 0 dX7_bookTo_0 rfl rfl ?_
  obtain ⟨v1, e1, hf⟩ := Option.bind_eq_some_iff.mp hf
  refine ym_get (pc := 1) dX7_bookTo_1 rfl (by decide) iX7 (k := 1) (by decide) wd_187 (ym_gR_v e1) ?_
  refine ym_iload_n (pc := 4) 1 dX7_bookTo_4 rfl rfl ?_
  refine ym_aload_n (pc := 5) 0 dX7_bookTo_5 rfl rfl ?_
  obtain ⟨v6, e6, hf⟩ := Option.bind_eq_some_iff.mp hf
  refine ym_get (pc := 6) dX7_bookTo_6 rfl (by decide) iX7 (k := 1) (by decide) wd_187 (ym_gR_v e6) ?_
  refine ym_iload_n (pc := 9) 1 dX7_bookTo_9 rfl rfl ?_
  obtain ⟨o10, f10, hf⟩ := Option.bind_eq_some_iff.mp hf
  obtain ⟨q10, e10, hf⟩ := Option.bind_eq_some_iff.mp hf
  refine ym_callV (pc := 10) (G2 := g_X2_get) (dep2 := 1) (As := [.int a1]) (st := [.int a1, va_rf v1]) (stk2 := [.long q10.1, .int a1, va_rf v1]) (r2 := (some (.long q10.1))) (h1 := q10.2) dX7_bookTo_10 (ok_X2_get e10) (sc_X7_bookTo_X2_get) wd_253 wd_254 wd_255 (ci := 2) (q0 := (RX2, TX2, 2)) rfl (by decide) rfl f10 rfl rfl (ym_st4 (Nat.le_of_ble_eq_true rfl)) rfl ?_
  refine ym_lload_n (pc := 13) 2 dX7_bookTo_13 rfl rfl ?_
  refine ym_ladd (pc := 14) dX7_bookTo_14 ?_
  obtain ⟨o15, f15, hf⟩ := Option.bind_eq_some_iff.mp hf
  obtain ⟨q15, e15, hf⟩ := Option.bind_eq_some_iff.mp hf
  refine ym_callV (pc := 15) (G2 := g_X2_put) (dep2 := 4) (As := [.int a1, .long (q10.1 + a2)]) (st := []) (stk2 := []) (r2 := none) (h1 := q15.2) dX7_bookTo_15 (ok_X2_put e15) (sc_X7_bookTo_X2_put) wd_281 wd_282 wd_283 (ci := 2) (q0 := (RX2, TX2, 2)) rfl (by decide) rfl f15 rfl rfl (ym_st4 (Nat.le_of_ble_eq_true rfl)) rfl ?_
  cases hf
  exact ym_vret (pc := 18) dX7_bookTo_18 rfl
theorem dX7_bookToBidder_0 : decode cX7_bookToBidder 0 = .ok (.aload_n 0, 1) := by decide +kernel
theorem dX7_bookToBidder_1 : decode cX7_bookToBidder 1 = .ok (.iload_n 1, 1) := by decide +kernel
theorem dX7_bookToBidder_2 : decode cX7_bookToBidder 2 = .ok (.invokevirtual 97, 3) := by decide +kernel
theorem dX7_bookToBidder_5 : decode cX7_bookToBidder 5 = .ok (.astore 4, 2) := by decide +kernel
theorem dX7_bookToBidder_7 : decode cX7_bookToBidder 7 = .ok (.aload 4, 2) := by decide +kernel
theorem dX7_bookToBidder_9 : decode cX7_bookToBidder 9 = .ok (.ifnull 9, 3) := by decide +kernel
theorem dX7_bookToBidder_12 : decode cX7_bookToBidder 12 = .ok (.aload 4, 2) := by decide +kernel
theorem dX7_bookToBidder_14 : decode cX7_bookToBidder 14 = .ok (.lload_n 2, 1) := by decide +kernel
theorem dX7_bookToBidder_15 : decode cX7_bookToBidder 15 = .ok (.invokevirtual 252, 3) := by decide +kernel
theorem dX7_bookToBidder_18 : decode cX7_bookToBidder 18 = .ok (.return_, 1) := by decide +kernel
theorem sc_X7_bookToBidder_X7_bidderWith : ym_site g_X7_bookToBidder g_X7_bidderWith 6 3 1 := ⟨by decide, by decide, wd_381, wd_76, by decide +kernel⟩
theorem sc_X7_bookToBidder_X0_add : ym_site g_X7_bookToBidder g_X0_add 6 5 1 := ⟨by decide, by decide, wd_675, wd_84, by decide +kernel⟩
def fn_X7_bookToBidder (N : Nat) (a0 : Option Nat) (a1 : Int32) (a2 : Int64) (h : ym_H) : Option (Unit × ym_H) :=
  Option.bind (ym_ob h a0 7) fun o2 =>
  Option.bind (fn_X7_bidderWith N a0 a1 h) fun q2 =>
  if q2.1 = none then
    some ((), q2.2)
  else
    Option.bind (ym_ob q2.2 q2.1 0) fun o15 =>
    Option.bind (fn_X0_add N q2.1 a2 q2.2) fun q15 =>
    some ((), q15.2)
set_option maxRecDepth 20000 in
set_option maxHeartbeats 4000000 in
theorem ok_X7_bookToBidder {D : ym_D} {b0 : Nat} {N : Nat} {a0 : Option Nat} {a1 : Int32} {a2 : Int64} {h h' : ym_H} {r : Unit} (hf : fn_X7_bookToBidder N a0 a1 a2 h = some (r, h')) : ym_M D b0 g_X7_bookToBidder 6 [va_rf a0, .int a1, .long a2] h none h' := by
  unfold fn_X7_bookToBidder at hf
  refine ym_meth (lv := [(0, va_rf a0), (1, .int a1), (2, .long a2)]) (by decide) (by simp [lg_sl, ym_c1, ym_cI, ym_cL, g_X7_bookToBidder]) (by simp [lv_args, ym_c1, ym_cI, ym_cL]) ?_
  refine ym_aload_n (pc := 0) 0 dX7_bookToBidder_0 rfl rfl ?_
  refine ym_iload_n (pc := 1) 1 dX7_bookToBidder_1 rfl rfl ?_
  obtain ⟨o2, f2, hf⟩ := Option.bind_eq_some_iff.mp hf
  obtain ⟨q2, e2, hf⟩ := Option.bind_eq_some_iff.mp hf
  refine ym_callV (pc := 2) (G2 := g_X7_bidderWith) (dep2 := 3) (As := [.int a1]) (st := []) (stk2 := [va_rf q2.1]) (r2 := (some (va_rf q2.1))) (h1 := q2.2) dX7_bookToBidder_2 (ok_X7_bidderWith e2) (sc_X7_bookToBidder_X7_bidderWith) wd_378 wd_380 wd_6 (ci := 7) (q0 := (RX7, TX7, 10)) rfl (by decide) rfl f2 rfl rfl (ym_st4 (Nat.le_of_ble_eq_true rfl)) rfl ?_
  refine ym_sub (lv' := [(2, .long a2)]) [2] rfl ?_
  refine ym_astore (pc := 5) (lv' := [(4, va_rf q2.1), (2, .long a2)]) dX7_bookToBidder_5 (by decide) ⟨trivial, trivial⟩ rfl ?_
  refine ym_aload (pc := 7) 0 dX7_bookToBidder_7 rfl ?_
  by_cases c9 : q2.1 = none
  · rw [if_pos c9] at hf
    refine ym_ifnull_y (pc := 9) (tgt := 18) dX7_bookToBidder_9 (by decide) c9 ?_
    cases hf
    exact ym_vret (pc := 18) dX7_bookToBidder_18 rfl
  · rw [if_neg c9] at hf
    refine ym_ifnull_n (pc := 9) (tgt := 18) dX7_bookToBidder_9 (by decide) c9 ?_
    refine ym_aload (pc := 12) 0 dX7_bookToBidder_12 rfl ?_
    refine ym_lload_n (pc := 14) 1 dX7_bookToBidder_14 rfl rfl ?_
    obtain ⟨o15, f15, hf⟩ := Option.bind_eq_some_iff.mp hf
    obtain ⟨q15, e15, hf⟩ := Option.bind_eq_some_iff.mp hf
    refine ym_callV (pc := 15) (G2 := g_X0_add) (dep2 := 5) (As := [.long a2]) (st := []) (stk2 := []) (r2 := none) (h1 := q15.2) dX7_bookToBidder_15 (ok_X0_add e15) (sc_X7_bookToBidder_X0_add) wd_672 wd_673 wd_674 (ci := 0) (q0 := (RX0, TX0, 4)) rfl (by decide) rfl f15 rfl rfl (ym_st4 (Nat.le_of_ble_eq_true rfl)) rfl ?_
    cases hf
    exact ym_vret (pc := 18) dX7_bookToBidder_18 rfl
theorem dX7_call_0 : decode cX7_call 0 = .ok (.aload_n 0, 1) := by decide +kernel
theorem dX7_call_1 : decode cX7_call 1 = .ok (.invokevirtual 58, 3) := by decide +kernel
theorem dX7_call_4 : decode cX7_call 4 = .ok (.aload_n 0, 1) := by decide +kernel
theorem dX7_call_5 : decode cX7_call 5 = .ok (.iload_n 1, 1) := by decide +kernel
theorem dX7_call_6 : decode cX7_call 6 = .ok (.invokevirtual 89, 3) := by decide +kernel
theorem dX7_call_9 : decode cX7_call 9 = .ok (.astore_n 2, 1) := by decide +kernel
theorem dX7_call_10 : decode cX7_call 10 = .ok (.aload_n 2, 1) := by decide +kernel
theorem dX7_call_11 : decode cX7_call 11 = .ok (.ifnonnull 12, 3) := by decide +kernel
theorem dX7_call_14 : decode cX7_call 14 = .ok (.aload_n 0, 1) := by decide +kernel
theorem dX7_call_15 : decode cX7_call 15 = .ok (.iload_n 1, 1) := by decide +kernel
theorem dX7_call_16 : decode cX7_call 16 = .ok (.invokestatic 93, 3) := by decide +kernel
theorem dX7_call_19 : decode cX7_call 19 = .ok (.invokevirtual 61, 3) := by decide +kernel
theorem dX7_call_22 : decode cX7_call 22 = .ok (.lreturn, 1) := by decide +kernel
theorem dX7_call_23 : decode cX7_call 23 = .ok (.aload_n 2, 1) := by decide +kernel
theorem dX7_call_24 : decode cX7_call 24 = .ok (.invokevirtual 104, 3) := by decide +kernel
theorem dX7_call_27 : decode cX7_call 27 = .ok (.ifCond .eq 10, 3) := by decide +kernel
theorem dX7_call_30 : decode cX7_call 30 = .ok (.aload_n 0, 1) := by decide +kernel
theorem dX7_call_31 : decode cX7_call 31 = .ok (.bipush 9, 2) := by decide +kernel
theorem dX7_call_33 : decode cX7_call 33 = .ok (.invokevirtual 61, 3) := by decide +kernel
theorem dX7_call_36 : decode cX7_call 36 = .ok (.lreturn, 1) := by decide +kernel
theorem dX7_call_37 : decode cX7_call 37 = .ok (.aload_n 2, 1) := by decide +kernel
theorem dX7_call_38 : decode cX7_call 38 = .ok (.getfield 129, 3) := by decide +kernel
theorem dX7_call_41 : decode cX7_call 41 = .ok (.iconst 2, 1) := by decide +kernel
theorem dX7_call_42 : decode cX7_call 42 = .ok (.lconst 1, 1) := by decide +kernel
theorem dX7_call_43 : decode cX7_call 43 = .ok (.invokevirtual 76, 3) := by decide +kernel
theorem dX7_call_46 : decode cX7_call 46 = .ok (.aload_n 2, 1) := by decide +kernel
theorem dX7_call_47 : decode cX7_call 47 = .ok (.getfield 137, 3) := by decide +kernel
theorem dX7_call_50 : decode cX7_call 50 = .ok (.iconst 5, 1) := by decide +kernel
theorem dX7_call_51 : decode cX7_call 51 = .ok (.if_icmp .ne 15, 3) := by decide +kernel
theorem dX7_call_54 : decode cX7_call 54 = .ok (.aload_n 2, 1) := by decide +kernel
theorem dX7_call_55 : decode cX7_call 55 = .ok (.getfield 129, 3) := by decide +kernel
theorem dX7_call_58 : decode cX7_call 58 = .ok (.iconst 3, 1) := by decide +kernel
theorem dX7_call_59 : decode cX7_call 59 = .ok (.aload_n 2, 1) := by decide +kernel
theorem dX7_call_60 : decode cX7_call 60 = .ok (.invokevirtual 141, 3) := by decide +kernel
theorem dX7_call_63 : decode cX7_call 63 = .ok (.invokevirtual 76, 3) := by decide +kernel
theorem dX7_call_66 : decode cX7_call 66 = .ok (.aload_n 0, 1) := by decide +kernel
theorem dX7_call_67 : decode cX7_call 67 = .ok (.aload_n 2, 1) := by decide +kernel
theorem dX7_call_68 : decode cX7_call 68 = .ok (.invokevirtual 145, 3) := by decide +kernel
theorem dX7_call_71 : decode cX7_call 71 = .ok (.aload_n 2, 1) := by decide +kernel
theorem dX7_call_72 : decode cX7_call 72 = .ok (.getfield 149, 3) := by decide +kernel
theorem dX7_call_75 : decode cX7_call 75 = .ok (.invokevirtual 116, 3) := by decide +kernel
theorem dX7_call_78 : decode cX7_call 78 = .ok (.i2l, 1) := by decide +kernel
theorem dX7_call_79 : decode cX7_call 79 = .ok (.lreturn, 1) := by decide +kernel
theorem sc_X7_call_X7_startAct : ym_site g_X7_call g_X7_startAct 8 2 0 := ⟨by decide, by decide, wd_224, wd_76, by decide +kernel⟩
theorem sc_X7_call_X7_lotAt : ym_site g_X7_call g_X7_lotAt 8 3 1 := ⟨by decide, by decide, wd_374, wd_76, by decide +kernel⟩
theorem sc_X7_call_X7_whyNoLot : ym_site g_X7_call g_X7_whyNoLot 8 1 1 := ⟨by decide, by decide, wd_377, wd_76, by decide +kernel⟩
theorem sc_X7_call_X7_refuse : ym_site g_X7_call g_X7_refuse 8 4 1 := ⟨by decide, by decide, wd_232, wd_76, by decide +kernel⟩
theorem sc_X7_call_X4_stateNow : ym_site g_X7_call g_X4_stateNow 8 2 0 := ⟨by decide, by decide, wd_388, wd_87, by decide +kernel⟩
theorem sc_X7_call_X2_put : ym_site g_X7_call g_X2_put 8 4 2 := ⟨by decide, by decide, wd_284, wd_78, by decide +kernel⟩
theorem sc_X7_call_X4_startNow : ym_site g_X7_call g_X4_startNow 8 2 0 := ⟨by decide, by decide, wd_459, wd_87, by decide +kernel⟩
theorem sc_X7_call_X7_askPapers : ym_site g_X7_call g_X7_askPapers 8 7 1 := ⟨by decide, by decide, wd_463, wd_76, by decide +kernel⟩
theorem sc_X7_call_X5_rows : ym_site g_X7_call g_X5_rows 8 2 0 := ⟨by decide, by decide, wd_397, wd_81, by decide +kernel⟩
def bl_X7_call_66 (N : Nat) (w0 : Option Nat) (w2 : Option Nat) (h : ym_H) : Option (Int64 × ym_H) :=
  Option.bind (ym_ob h w0 7) fun o68 =>
  Option.bind (fn_X7_askPapers N w0 w2 h) fun q68 =>
  Option.bind (ym_gR q68.2 w2 4 3) fun v72 =>
  Option.bind (ym_ob q68.2 v72 5) fun o75 =>
  Option.bind (fn_X5_rows N v72 q68.2) fun q75 =>
  some ((Int32.toInt64 q75.1), q75.2)
set_option maxRecDepth 20000 in
set_option maxHeartbeats 4000000 in
theorem ob_X7_call_66 {D : ym_D} {b0 : Nat} {N : Nat} {w0 : Option Nat} {w2 : Option Nat} {h h' : ym_H} {r : Int64} (hf : bl_X7_call_66 N w0 w2 h = some (r, h')) : ym_Y D b0 g_X7_call 8 66 [(0, va_rf w0), (2, va_rf w2)] [] h (some (.long r)) h' := by
  unfold bl_X7_call_66 at hf
  refine ym_aload_n (pc := 66) 0 dX7_call_66 rfl rfl ?_
  refine ym_aload_n (pc := 67) 1 dX7_call_67 rfl rfl ?_
  obtain ⟨o68, f68, hf⟩ := Option.bind_eq_some_iff.mp hf
  obtain ⟨q68, e68, hf⟩ := Option.bind_eq_some_iff.mp hf
  refine ym_callV (pc := 68) (G2 := g_X7_askPapers) (dep2 := 7) (As := [va_rf w2]) (st := []) (stk2 := []) (r2 := none) (h1 := q68.2) dX7_call_68 (ok_X7_askPapers e68) (sc_X7_call_X7_askPapers) wd_460 wd_462 wd_8 (ci := 7) (q0 := (RX7, TX7, 10)) rfl (by decide) rfl f68 rfl rfl (ym_st4 (Nat.le_of_ble_eq_true rfl)) rfl ?_
  refine ym_aload_n (pc := 71) 1 dX7_call_71 rfl rfl ?_
  obtain ⟨v72, e72, hf⟩ := Option.bind_eq_some_iff.mp hf
  refine ym_getN (pc := 72) dX7_call_72 rfl (by decide) iX4 (k := 3) (by decide) wd_348 (ym_gR_v e72) ?_
  obtain ⟨o75, f75, hf⟩ := Option.bind_eq_some_iff.mp hf
  obtain ⟨q75, e75, hf⟩ := Option.bind_eq_some_iff.mp hf
  refine ym_callV (pc := 75) (G2 := g_X5_rows) (dep2 := 2) (As := []) (st := []) (stk2 := [.int q75.1]) (r2 := (some (.int q75.1))) (h1 := q75.2) dX7_call_75 (ok_X5_rows e75) (sc_X7_call_X5_rows) wd_403 wd_395 wd_396 (ci := 5) (q0 := (RX5, TX5, 2)) rfl (by decide) rfl f75 rfl rfl (ym_st4 (Nat.le_of_ble_eq_true rfl)) rfl ?_
  refine ym_i2l (pc := 78) dX7_call_78 ?_
  cases hf
  exact ym_lret (pc := 79) dX7_call_79 rfl
def fn_X7_call (N : Nat) (a0 : Option Nat) (a1 : Int32) (h : ym_H) : Option (Int64 × ym_H) :=
  Option.bind (ym_ob h a0 7) fun o1 =>
  Option.bind (fn_X7_startAct N a0 h) fun q1 =>
  Option.bind (ym_ob q1.2 a0 7) fun o6 =>
  Option.bind (fn_X7_lotAt N a0 a1 q1.2) fun q6 =>
  if q6.1 = none then
    Option.bind (fn_X7_whyNoLot N a1 q6.2) fun q16 =>
    Option.bind (ym_ob q16.2 a0 7) fun o19 =>
    Option.bind (fn_X7_refuse N a0 q16.1 q16.2) fun q19 =>
    some (q19.1, q19.2)
  else
    Option.bind (ym_ob q6.2 q6.1 4) fun o24 =>
    Option.bind (fn_X4_stateNow N q6.1 q6.2) fun q24 =>
    if q24.1 = 0 then
      Option.bind (ym_gR q24.2 q6.1 4 2) fun v38 =>
      Option.bind (ym_ob q24.2 v38 2) fun o43 =>
      Option.bind (fn_X2_put N v38 2 1 q24.2) fun q43 =>
      Option.bind (ym_gI q43.2 q6.1 4 0) fun v47 =>
      if v47 = 5 then
        Option.bind (ym_gR q43.2 q6.1 4 2) fun v55 =>
        Option.bind (ym_ob q43.2 q6.1 4) fun o60 =>
        Option.bind (fn_X4_startNow N q6.1 q43.2) fun q60 =>
        Option.bind (ym_ob q60.2 v55 2) fun o63 =>
        Option.bind (fn_X2_put N v55 3 q60.1 q60.2) fun q63 =>
        bl_X7_call_66 N a0 q6.1 q63.2
      else
        bl_X7_call_66 N a0 q6.1 q43.2
    else
      Option.bind (ym_ob q24.2 a0 7) fun o33 =>
      Option.bind (fn_X7_refuse N a0 9 q24.2) fun q33 =>
      some (q33.1, q33.2)
set_option maxRecDepth 20000 in
set_option maxHeartbeats 4000000 in
theorem ok_X7_call {D : ym_D} {b0 : Nat} {N : Nat} {a0 : Option Nat} {a1 : Int32} {h h' : ym_H} {r : Int64} (hf : fn_X7_call N a0 a1 h = some (r, h')) : ym_M D b0 g_X7_call 8 [va_rf a0, .int a1] h (some (.long r)) h' := by
  unfold fn_X7_call at hf
  refine ym_meth (lv := [(0, va_rf a0), (1, .int a1)]) (by decide) (by simp [lg_sl, ym_c1, ym_cI, ym_cL, g_X7_call]) (by simp [lv_args, ym_c1, ym_cI, ym_cL]) ?_
  refine ym_aload_n (pc := 0) 0 dX7_call_0 rfl rfl ?_
  obtain ⟨o1, f1, hf⟩ := Option.bind_eq_some_iff.mp hf
  obtain ⟨q1, e1, hf⟩ := Option.bind_eq_some_iff.mp hf
  refine ym_callV (pc := 1) (G2 := g_X7_startAct) (dep2 := 2) (As := []) (st := []) (stk2 := []) (r2 := none) (h1 := q1.2) dX7_call_1 (ok_X7_startAct e1) (sc_X7_call_X7_startAct) wd_221 wd_223 wd_0 (ci := 7) (q0 := (RX7, TX7, 10)) rfl (by decide) rfl f1 rfl rfl (ym_st4 (Nat.le_of_ble_eq_true rfl)) rfl ?_
  refine ym_aload_n (pc := 4) 0 dX7_call_4 rfl rfl ?_
  refine ym_iload_n (pc := 5) 1 dX7_call_5 rfl rfl ?_
  obtain ⟨o6, f6, hf⟩ := Option.bind_eq_some_iff.mp hf
  obtain ⟨q6, e6, hf⟩ := Option.bind_eq_some_iff.mp hf
  refine ym_callV (pc := 6) (G2 := g_X7_lotAt) (dep2 := 3) (As := [.int a1]) (st := []) (stk2 := [va_rf q6.1]) (r2 := (some (va_rf q6.1))) (h1 := q6.2) dX7_call_6 (ok_X7_lotAt e6) (sc_X7_call_X7_lotAt) wd_371 wd_373 wd_5 (ci := 7) (q0 := (RX7, TX7, 10)) rfl (by decide) rfl f6 rfl rfl (ym_st4 (Nat.le_of_ble_eq_true rfl)) rfl ?_
  refine ym_astore_n (pc := 9) (lv' := [(2, va_rf q6.1), (0, va_rf a0), (1, .int a1)]) dX7_call_9 rfl (by decide) ⟨trivial, rfl, trivial⟩ rfl ?_
  refine ym_aload_n (pc := 10) 0 dX7_call_10 rfl rfl ?_
  by_cases c11 : q6.1 = none
  · rw [if_pos c11] at hf
    refine ym_ifnonnull_y (pc := 11) (tgt := 23) dX7_call_11 (by decide) c11 ?_
    refine ym_aload_n (pc := 14) 1 dX7_call_14 rfl rfl ?_
    refine ym_iload_n (pc := 15) 2 dX7_call_15 rfl rfl ?_
    obtain ⟨q16, e16, hf⟩ := Option.bind_eq_some_iff.mp hf
    refine ym_callS (pc := 16) (G2 := g_X7_whyNoLot) (dep2 := 1) (As := [.int a1]) (st := [va_rf a0]) (stk2 := [.int q16.1, va_rf a0]) (r2 := (some (.int q16.1))) (h1 := q16.2) dX7_call_16 (ok_X7_whyNoLot e16) (sc_X7_call_X7_whyNoLot) wd_375 wd_376 rfl rfl (ym_st4 (Nat.le_of_ble_eq_true rfl)) rfl ?_
    obtain ⟨o19, f19, hf⟩ := Option.bind_eq_some_iff.mp hf
    obtain ⟨q19, e19, hf⟩ := Option.bind_eq_some_iff.mp hf
    refine ym_callV (pc := 19) (G2 := g_X7_refuse) (dep2 := 4) (As := [.int q16.1]) (st := []) (stk2 := [.long q19.1]) (r2 := (some (.long q19.1))) (h1 := q19.2) dX7_call_19 (ok_X7_refuse e19) (sc_X7_call_X7_refuse) wd_229 wd_231 wd_1 (ci := 7) (q0 := (RX7, TX7, 10)) rfl (by decide) rfl f19 rfl rfl (ym_st4 (Nat.le_of_ble_eq_true rfl)) rfl ?_
    cases hf
    exact ym_lret (pc := 22) dX7_call_22 rfl
  · rw [if_neg c11] at hf
    refine ym_ifnonnull_n (pc := 11) (tgt := 23) dX7_call_11 (by decide) c11 ?_
    refine ym_aload_n (pc := 23) 0 dX7_call_23 rfl rfl ?_
    obtain ⟨o24, f24, hf⟩ := Option.bind_eq_some_iff.mp hf
    obtain ⟨q24, e24, hf⟩ := Option.bind_eq_some_iff.mp hf
    refine ym_callV (pc := 24) (G2 := g_X4_stateNow) (dep2 := 2) (As := []) (st := []) (stk2 := [.int q24.1]) (r2 := (some (.int q24.1))) (h1 := q24.2) dX7_call_24 (ok_X4_stateNow e24) (sc_X7_call_X4_stateNow) wd_385 wd_386 wd_387 (ci := 4) (q0 := (RX4, TX4, 6)) rfl (by decide) rfl f24 rfl rfl (ym_st4 (Nat.le_of_ble_eq_true rfl)) rfl ?_
    by_cases c27 : q24.1 = 0
    · rw [if_pos c27] at hf
      refine ym_if_eq_y (pc := 27) (tgt := 37) dX7_call_27 (by decide) c27 ?_
      refine ym_aload_n (pc := 37) 0 dX7_call_37 rfl rfl ?_
      obtain ⟨v38, e38, hf⟩ := Option.bind_eq_some_iff.mp hf
      refine ym_getN (pc := 38) dX7_call_38 rfl (by decide) iX4 (k := 2) (by decide) wd_346 (ym_gR_v e38) ?_
      refine ym_iconst (pc := 41) (v := 2) dX7_call_41 (by decide) ?_
      refine ym_lconst (pc := 42) (v := 1) dX7_call_42 (by decide) ?_
      obtain ⟨o43, f43, hf⟩ := Option.bind_eq_some_iff.mp hf
      obtain ⟨q43, e43, hf⟩ := Option.bind_eq_some_iff.mp hf
      refine ym_callV (pc := 43) (G2 := g_X2_put) (dep2 := 4) (As := [.int 2, .long 1]) (st := []) (stk2 := []) (r2 := none) (h1 := q43.2) dX7_call_43 (ok_X2_put e43) (sc_X7_call_X2_put) wd_281 wd_282 wd_283 (ci := 2) (q0 := (RX2, TX2, 2)) rfl (by decide) rfl f43 rfl rfl (ym_st4 (Nat.le_of_ble_eq_true rfl)) rfl ?_
      refine ym_aload_n (pc := 46) 0 dX7_call_46 rfl rfl ?_
      obtain ⟨v47, e47, hf⟩ := Option.bind_eq_some_iff.mp hf
      refine ym_getN (pc := 47) dX7_call_47 rfl (by decide) iX4 (k := 0) (by decide) wd_340 (ym_gI_v e47) ?_
      refine ym_iconst (pc := 50) (v := 5) dX7_call_50 (by decide) ?_
      by_cases c51 : v47 = 5
      · rw [if_pos c51] at hf
        refine ym_icmp_ne_y (pc := 51) (tgt := 66) dX7_call_51 (by decide) c51 ?_
        refine ym_aload_n (pc := 54) 0 dX7_call_54 rfl rfl ?_
        obtain ⟨v55, e55, hf⟩ := Option.bind_eq_some_iff.mp hf
        refine ym_getN (pc := 55) dX7_call_55 rfl (by decide) iX4 (k := 2) (by decide) wd_346 (ym_gR_v e55) ?_
        refine ym_iconst (pc := 58) (v := 3) dX7_call_58 (by decide) ?_
        refine ym_aload_n (pc := 59) 0 dX7_call_59 rfl rfl ?_
        obtain ⟨o60, f60, hf⟩ := Option.bind_eq_some_iff.mp hf
        obtain ⟨q60, e60, hf⟩ := Option.bind_eq_some_iff.mp hf
        refine ym_callV (pc := 60) (G2 := g_X4_startNow) (dep2 := 2) (As := []) (st := [.int 3, va_rf v55]) (stk2 := [.long q60.1, .int 3, va_rf v55]) (r2 := (some (.long q60.1))) (h1 := q60.2) dX7_call_60 (ok_X4_startNow e60) (sc_X7_call_X4_startNow) wd_456 wd_457 wd_458 (ci := 4) (q0 := (RX4, TX4, 6)) rfl (by decide) rfl f60 rfl rfl (ym_st4 (Nat.le_of_ble_eq_true rfl)) rfl ?_
        obtain ⟨o63, f63, hf⟩ := Option.bind_eq_some_iff.mp hf
        obtain ⟨q63, e63, hf⟩ := Option.bind_eq_some_iff.mp hf
        refine ym_callV (pc := 63) (G2 := g_X2_put) (dep2 := 4) (As := [.int 3, .long q60.1]) (st := []) (stk2 := []) (r2 := none) (h1 := q63.2) dX7_call_63 (ok_X2_put e63) (sc_X7_call_X2_put) wd_281 wd_282 wd_283 (ci := 2) (q0 := (RX2, TX2, 2)) rfl (by decide) rfl f63 rfl rfl (ym_st4 (Nat.le_of_ble_eq_true rfl)) rfl ?_
        exact ym_sub [1, 0] rfl (ob_X7_call_66 hf)
      · rw [if_neg c51] at hf
        refine ym_icmp_ne_n (pc := 51) (tgt := 66) dX7_call_51 (by decide) c51 ?_
        exact ym_sub [1, 0] rfl (ob_X7_call_66 hf)
    · rw [if_neg c27] at hf
      refine ym_if_eq_n (pc := 27) (tgt := 37) dX7_call_27 (by decide) c27 ?_
      refine ym_aload_n (pc := 30) 1 dX7_call_30 rfl rfl ?_
      refine ym_bipush (pc := 31) (v := 9) dX7_call_31 (by decide) ?_
      obtain ⟨o33, f33, hf⟩ := Option.bind_eq_some_iff.mp hf
      obtain ⟨q33, e33, hf⟩ := Option.bind_eq_some_iff.mp hf
      refine ym_callV (pc := 33) (G2 := g_X7_refuse) (dep2 := 4) (As := [.int 9]) (st := []) (stk2 := [.long q33.1]) (r2 := (some (.long q33.1))) (h1 := q33.2) dX7_call_33 (ok_X7_refuse e33) (sc_X7_call_X7_refuse) wd_229 wd_231 wd_1 (ci := 7) (q0 := (RX7, TX7, 10)) rfl (by decide) rfl f33 rfl rfl (ym_st4 (Nat.le_of_ble_eq_true rfl)) rfl ?_
      cases hf
      exact ym_lret (pc := 36) dX7_call_36 rfl
theorem dX7_cause_0 : decode cX7_cause 0 = .ok (.aload_n 0, 1) := by decide +kernel
theorem dX7_cause_1 : decode cX7_cause 1 = .ok (.iload_n 1, 1) := by decide +kernel
theorem dX7_cause_2 : decode cX7_cause 2 = .ok (.invokevirtual 89, 3) := by decide +kernel
theorem dX7_cause_5 : decode cX7_cause 5 = .ok (.astore_n 3, 1) := by decide +kernel
theorem dX7_cause_6 : decode cX7_cause 6 = .ok (.aload_n 3, 1) := by decide +kernel
theorem dX7_cause_7 : decode cX7_cause 7 = .ok (.ifnonnull 5, 3) := by decide +kernel
theorem dX7_cause_10 : decode cX7_cause 10 = .ok (.iconst 0, 1) := by decide +kernel
theorem dX7_cause_11 : decode cX7_cause 11 = .ok (.ireturn, 1) := by decide +kernel
theorem dX7_cause_12 : decode cX7_cause 12 = .ok (.iload_n 2, 1) := by decide +kernel
theorem dX7_cause_13 : decode cX7_cause 13 = .ok (.ifCond .ne 14, 3) := by decide +kernel
theorem dX7_cause_16 : decode cX7_cause 16 = .ok (.aload_n 3, 1) := by decide +kernel
theorem dX7_cause_17 : decode cX7_cause 17 = .ok (.getfield 129, 3) := by decide +kernel
theorem dX7_cause_20 : decode cX7_cause 20 = .ok (.bipush 9, 2) := by decide +kernel
theorem dX7_cause_22 : decode cX7_cause 22 = .ok (.invokevirtual 130, 3) := by decide +kernel
theorem dX7_cause_25 : decode cX7_cause 25 = .ok (.l2i, 1) := by decide +kernel
theorem dX7_cause_26 : decode cX7_cause 26 = .ok (.ireturn, 1) := by decide +kernel
theorem dX7_cause_27 : decode cX7_cause 27 = .ok (.iload_n 2, 1) := by decide +kernel
theorem dX7_cause_28 : decode cX7_cause 28 = .ok (.iconst 1, 1) := by decide +kernel
theorem dX7_cause_29 : decode cX7_cause 29 = .ok (.if_icmp .ne 14, 3) := by decide +kernel
theorem dX7_cause_32 : decode cX7_cause 32 = .ok (.aload_n 3, 1) := by decide +kernel
theorem dX7_cause_33 : decode cX7_cause 33 = .ok (.getfield 129, 3) := by decide +kernel
theorem dX7_cause_36 : decode cX7_cause 36 = .ok (.bipush 10, 2) := by decide +kernel
theorem dX7_cause_38 : decode cX7_cause 38 = .ok (.invokevirtual 130, 3) := by decide +kernel
theorem dX7_cause_41 : decode cX7_cause 41 = .ok (.l2i, 1) := by decide +kernel
theorem dX7_cause_42 : decode cX7_cause 42 = .ok (.ireturn, 1) := by decide +kernel
theorem dX7_cause_43 : decode cX7_cause 43 = .ok (.iconst 0, 1) := by decide +kernel
theorem dX7_cause_44 : decode cX7_cause 44 = .ok (.ireturn, 1) := by decide +kernel
theorem sc_X7_cause_X7_lotAt : ym_site g_X7_cause g_X7_lotAt 4 3 1 := ⟨by decide, by decide, wd_374, wd_76, by decide +kernel⟩
theorem sc_X7_cause_X2_get : ym_site g_X7_cause g_X2_get 4 1 1 := ⟨by decide, by decide, wd_256, wd_78, by decide +kernel⟩
def fn_X7_cause (N : Nat) (a0 : Option Nat) (a1 : Int32) (a2 : Int32) (h : ym_H) : Option (Int32 × ym_H) :=
  Option.bind (ym_ob h a0 7) fun o2 =>
  Option.bind (fn_X7_lotAt N a0 a1 h) fun q2 =>
  if q2.1 = none then
    some (0, q2.2)
  else
    if a2 = 0 then
      Option.bind (ym_gR q2.2 q2.1 4 2) fun v17 =>
      Option.bind (ym_ob q2.2 v17 2) fun o22 =>
      Option.bind (fn_X2_get N v17 9 q2.2) fun q22 =>
      some ((Int64.toInt32 q22.1), q22.2)
    else
      if a2 = 1 then
        Option.bind (ym_gR q2.2 q2.1 4 2) fun v33 =>
        Option.bind (ym_ob q2.2 v33 2) fun o38 =>
        Option.bind (fn_X2_get N v33 10 q2.2) fun q38 =>
        some ((Int64.toInt32 q38.1), q38.2)
      else
        some (0, q2.2)
set_option maxRecDepth 20000 in
set_option maxHeartbeats 4000000 in
theorem ok_X7_cause {D : ym_D} {b0 : Nat} {N : Nat} {a0 : Option Nat} {a1 : Int32} {a2 : Int32} {h h' : ym_H} {r : Int32} (hf : fn_X7_cause N a0 a1 a2 h = some (r, h')) : ym_M D b0 g_X7_cause 4 [va_rf a0, .int a1, .int a2] h (some (.int r)) h' := by
  unfold fn_X7_cause at hf
  refine ym_meth (lv := [(0, va_rf a0), (1, .int a1), (2, .int a2)]) (by decide) (by simp [lg_sl, ym_c1, ym_cI, ym_cL, g_X7_cause]) (by simp [lv_args, ym_c1, ym_cI, ym_cL]) ?_
  refine ym_aload_n (pc := 0) 0 dX7_cause_0 rfl rfl ?_
  refine ym_iload_n (pc := 1) 1 dX7_cause_1 rfl rfl ?_
  obtain ⟨o2, f2, hf⟩ := Option.bind_eq_some_iff.mp hf
  obtain ⟨q2, e2, hf⟩ := Option.bind_eq_some_iff.mp hf
  refine ym_callV (pc := 2) (G2 := g_X7_lotAt) (dep2 := 3) (As := [.int a1]) (st := []) (stk2 := [va_rf q2.1]) (r2 := (some (va_rf q2.1))) (h1 := q2.2) dX7_cause_2 (ok_X7_lotAt e2) (sc_X7_cause_X7_lotAt) wd_371 wd_373 wd_5 (ci := 7) (q0 := (RX7, TX7, 10)) rfl (by decide) rfl f2 rfl rfl (ym_st4 (Nat.le_of_ble_eq_true rfl)) rfl ?_
  refine ym_sub (lv' := [(2, .int a2)]) [2] rfl ?_
  refine ym_astore_n (pc := 5) (lv' := [(3, va_rf q2.1), (2, .int a2)]) dX7_cause_5 rfl (by decide) ⟨rfl, trivial⟩ rfl ?_
  refine ym_aload_n (pc := 6) 0 dX7_cause_6 rfl rfl ?_
  by_cases c7 : q2.1 = none
  · rw [if_pos c7] at hf
    refine ym_ifnonnull_y (pc := 7) (tgt := 12) dX7_cause_7 (by decide) c7 ?_
    refine ym_iconst (pc := 10) (v := 0) dX7_cause_10 (by decide) ?_
    cases hf
    exact ym_iret (pc := 11) dX7_cause_11 rfl
  · rw [if_neg c7] at hf
    refine ym_ifnonnull_n (pc := 7) (tgt := 12) dX7_cause_7 (by decide) c7 ?_
    refine ym_iload_n (pc := 12) 1 dX7_cause_12 rfl rfl ?_
    by_cases c13 : a2 = 0
    · rw [if_pos c13] at hf
      refine ym_if_ne_y (pc := 13) (tgt := 27) dX7_cause_13 (by decide) c13 ?_
      refine ym_aload_n (pc := 16) 0 dX7_cause_16 rfl rfl ?_
      obtain ⟨v17, e17, hf⟩ := Option.bind_eq_some_iff.mp hf
      refine ym_getN (pc := 17) dX7_cause_17 rfl (by decide) iX4 (k := 2) (by decide) wd_346 (ym_gR_v e17) ?_
      refine ym_bipush (pc := 20) (v := 9) dX7_cause_20 (by decide) ?_
      obtain ⟨o22, f22, hf⟩ := Option.bind_eq_some_iff.mp hf
      obtain ⟨q22, e22, hf⟩ := Option.bind_eq_some_iff.mp hf
      refine ym_callV (pc := 22) (G2 := g_X2_get) (dep2 := 1) (As := [.int 9]) (st := []) (stk2 := [.long q22.1]) (r2 := (some (.long q22.1))) (h1 := q22.2) dX7_cause_22 (ok_X2_get e22) (sc_X7_cause_X2_get) wd_253 wd_254 wd_255 (ci := 2) (q0 := (RX2, TX2, 2)) rfl (by decide) rfl f22 rfl rfl (ym_st4 (Nat.le_of_ble_eq_true rfl)) rfl ?_
      refine ym_l2i (pc := 25) dX7_cause_25 ?_
      cases hf
      exact ym_iret (pc := 26) dX7_cause_26 rfl
    · rw [if_neg c13] at hf
      refine ym_if_ne_n (pc := 13) (tgt := 27) dX7_cause_13 (by decide) c13 ?_
      refine ym_iload_n (pc := 27) 1 dX7_cause_27 rfl rfl ?_
      refine ym_iconst (pc := 28) (v := 1) dX7_cause_28 (by decide) ?_
      by_cases c29 : a2 = 1
      · rw [if_pos c29] at hf
        refine ym_icmp_ne_y (pc := 29) (tgt := 43) dX7_cause_29 (by decide) c29 ?_
        refine ym_aload_n (pc := 32) 0 dX7_cause_32 rfl rfl ?_
        obtain ⟨v33, e33, hf⟩ := Option.bind_eq_some_iff.mp hf
        refine ym_getN (pc := 33) dX7_cause_33 rfl (by decide) iX4 (k := 2) (by decide) wd_346 (ym_gR_v e33) ?_
        refine ym_bipush (pc := 36) (v := 10) dX7_cause_36 (by decide) ?_
        obtain ⟨o38, f38, hf⟩ := Option.bind_eq_some_iff.mp hf
        obtain ⟨q38, e38, hf⟩ := Option.bind_eq_some_iff.mp hf
        refine ym_callV (pc := 38) (G2 := g_X2_get) (dep2 := 1) (As := [.int 10]) (st := []) (stk2 := [.long q38.1]) (r2 := (some (.long q38.1))) (h1 := q38.2) dX7_cause_38 (ok_X2_get e38) (sc_X7_cause_X2_get) wd_253 wd_254 wd_255 (ci := 2) (q0 := (RX2, TX2, 2)) rfl (by decide) rfl f38 rfl rfl (ym_st4 (Nat.le_of_ble_eq_true rfl)) rfl ?_
        refine ym_l2i (pc := 41) dX7_cause_41 ?_
        cases hf
        exact ym_iret (pc := 42) dX7_cause_42 rfl
      · rw [if_neg c29] at hf
        refine ym_icmp_ne_n (pc := 29) (tgt := 43) dX7_cause_29 (by decide) c29 ?_
        refine ym_iconst (pc := 43) (v := 0) dX7_cause_43 (by decide) ?_
        cases hf
        exact ym_iret (pc := 44) dX7_cause_44 rfl
theorem dX7_isRate_0 : decode cX7_isRate 0 = .ok (.iload_n 0, 1) := by decide +kernel
theorem dX7_isRate_1 : decode cX7_isRate 1 = .ok (.ifCond .lt 14, 3) := by decide +kernel
theorem dX7_isRate_4 : decode cX7_isRate 4 = .ok (.iload_n 0, 1) := by decide +kernel
theorem dX7_isRate_5 : decode cX7_isRate 5 = .ok (.sipush 10000, 3) := by decide +kernel
theorem dX7_isRate_8 : decode cX7_isRate 8 = .ok (.if_icmp .gt 7, 3) := by decide +kernel
theorem dX7_isRate_11 : decode cX7_isRate 11 = .ok (.iconst 1, 1) := by decide +kernel
theorem dX7_isRate_12 : decode cX7_isRate 12 = .ok (.goto 4, 3) := by decide +kernel
theorem dX7_isRate_15 : decode cX7_isRate 15 = .ok (.iconst 0, 1) := by decide +kernel
theorem dX7_isRate_16 : decode cX7_isRate 16 = .ok (.ireturn, 1) := by decide +kernel
def fn_X7_isRate (N : Nat) (a0 : Int32) (h : ym_H) : Option (Int32 × ym_H) :=
  if a0 < 0 then
    some (0, h)
  else
    if 10000 < a0 then
      some (0, h)
    else
      some (1, h)
set_option maxRecDepth 20000 in
set_option maxHeartbeats 4000000 in
theorem ok_X7_isRate {D : ym_D} {b0 : Nat} {N : Nat} {a0 : Int32} {h h' : ym_H} {r : Int32} (hf : fn_X7_isRate N a0 h = some (r, h')) : ym_M D b0 g_X7_isRate 1 [.int a0] h (some (.int r)) h' := by
  unfold fn_X7_isRate at hf
  refine ym_meth (lv := [(0, .int a0)]) (by decide) (by simp [lg_sl, ym_c1, ym_cI, ym_cL, g_X7_isRate]) (by simp [lv_args, ym_c1, ym_cI, ym_cL]) ?_
  refine ym_iload_n (pc := 0) 0 dX7_isRate_0 rfl rfl ?_
  by_cases c1 : a0 < 0
  · rw [if_pos c1] at hf
    refine ym_if_lt_y (pc := 1) (tgt := 15) dX7_isRate_1 (by decide) c1 ?_
    refine ym_iconst (pc := 15) (v := 0) dX7_isRate_15 (by decide) ?_
    cases hf
    exact ym_zret (pc := 16) dX7_isRate_16 rfl rfl
  · rw [if_neg c1] at hf
    refine ym_if_lt_n (pc := 1) (tgt := 15) dX7_isRate_1 (by decide) c1 ?_
    refine ym_iload_n (pc := 4) 0 dX7_isRate_4 rfl rfl ?_
    refine ym_sipush (pc := 5) (v := 10000) dX7_isRate_5 (by decide) ?_
    by_cases c8 : 10000 < a0
    · rw [if_pos c8] at hf
      refine ym_icmp_gt_y (pc := 8) (tgt := 15) dX7_isRate_8 (by decide) c8 ?_
      refine ym_iconst (pc := 15) (v := 0) dX7_isRate_15 (by decide) ?_
      cases hf
      exact ym_zret (pc := 16) dX7_isRate_16 rfl rfl
    · rw [if_neg c8] at hf
      refine ym_icmp_gt_n (pc := 8) (tgt := 15) dX7_isRate_8 (by decide) c8 ?_
      refine ym_iconst (pc := 11) (v := 1) dX7_isRate_11 (by decide) ?_
      refine ym_goto (pc := 12) (tgt := 16) dX7_isRate_12 (by decide) ?_
      cases hf
      exact ym_zret (pc := 16) dX7_isRate_16 rfl rfl
theorem dX7_cut_0 : decode cX7_cut 0 = .ok (.aload_n 0, 1) := by decide +kernel
theorem dX7_cut_1 : decode cX7_cut 1 = .ok (.invokevirtual 58, 3) := by decide +kernel
theorem dX7_cut_4 : decode cX7_cut 4 = .ok (.iload_n 2, 1) := by decide +kernel
theorem dX7_cut_5 : decode cX7_cut 5 = .ok (.invokestatic 125, 3) := by decide +kernel
theorem dX7_cut_8 : decode cX7_cut 8 = .ok (.ifCond .ne 9, 3) := by decide +kernel
theorem dX7_cut_11 : decode cX7_cut 11 = .ok (.aload_n 0, 1) := by decide +kernel
theorem dX7_cut_12 : decode cX7_cut 12 = .ok (.iconst 1, 1) := by decide +kernel
theorem dX7_cut_13 : decode cX7_cut 13 = .ok (.invokevirtual 61, 3) := by decide +kernel
theorem dX7_cut_16 : decode cX7_cut 16 = .ok (.lreturn, 1) := by decide +kernel
theorem dX7_cut_17 : decode cX7_cut 17 = .ok (.aload_n 0, 1) := by decide +kernel
theorem dX7_cut_18 : decode cX7_cut 18 = .ok (.iload_n 1, 1) := by decide +kernel
theorem dX7_cut_19 : decode cX7_cut 19 = .ok (.invokevirtual 89, 3) := by decide +kernel
theorem dX7_cut_22 : decode cX7_cut 22 = .ok (.astore_n 3, 1) := by decide +kernel
theorem dX7_cut_23 : decode cX7_cut 23 = .ok (.aload_n 3, 1) := by decide +kernel
theorem dX7_cut_24 : decode cX7_cut 24 = .ok (.ifnonnull 12, 3) := by decide +kernel
theorem dX7_cut_27 : decode cX7_cut 27 = .ok (.aload_n 0, 1) := by decide +kernel
theorem dX7_cut_28 : decode cX7_cut 28 = .ok (.iload_n 1, 1) := by decide +kernel
theorem dX7_cut_29 : decode cX7_cut 29 = .ok (.invokestatic 93, 3) := by decide +kernel
theorem dX7_cut_32 : decode cX7_cut 32 = .ok (.invokevirtual 61, 3) := by decide +kernel
theorem dX7_cut_35 : decode cX7_cut 35 = .ok (.lreturn, 1) := by decide +kernel
theorem dX7_cut_36 : decode cX7_cut 36 = .ok (.aload_n 3, 1) := by decide +kernel
theorem dX7_cut_37 : decode cX7_cut 37 = .ok (.invokevirtual 104, 3) := by decide +kernel
theorem dX7_cut_40 : decode cX7_cut 40 = .ok (.ifCond .eq 10, 3) := by decide +kernel
theorem dX7_cut_43 : decode cX7_cut 43 = .ok (.aload_n 0, 1) := by decide +kernel
theorem dX7_cut_44 : decode cX7_cut 44 = .ok (.bipush 9, 2) := by decide +kernel
theorem dX7_cut_46 : decode cX7_cut 46 = .ok (.invokevirtual 61, 3) := by decide +kernel
theorem dX7_cut_49 : decode cX7_cut 49 = .ok (.lreturn, 1) := by decide +kernel
theorem dX7_cut_50 : decode cX7_cut 50 = .ok (.aload_n 3, 1) := by decide +kernel
theorem dX7_cut_51 : decode cX7_cut 51 = .ok (.getfield 129, 3) := by decide +kernel
theorem dX7_cut_54 : decode cX7_cut 54 = .ok (.iconst 1, 1) := by decide +kernel
theorem dX7_cut_55 : decode cX7_cut 55 = .ok (.invokevirtual 130, 3) := by decide +kernel
theorem dX7_cut_58 : decode cX7_cut 58 = .ok (.lstore 4, 2) := by decide +kernel
theorem dX7_cut_60 : decode cX7_cut 60 = .ok (.aload_n 3, 1) := by decide +kernel
theorem dX7_cut_61 : decode cX7_cut 61 = .ok (.getfield 129, 3) := by decide +kernel
theorem dX7_cut_64 : decode cX7_cut 64 = .ok (.iconst 1, 1) := by decide +kernel
theorem dX7_cut_65 : decode cX7_cut 65 = .ok (.iload_n 2, 1) := by decide +kernel
theorem dX7_cut_66 : decode cX7_cut 66 = .ok (.i2l, 1) := by decide +kernel
theorem dX7_cut_67 : decode cX7_cut 67 = .ok (.invokevirtual 76, 3) := by decide +kernel
theorem dX7_cut_70 : decode cX7_cut 70 = .ok (.lload 4, 2) := by decide +kernel
theorem dX7_cut_72 : decode cX7_cut 72 = .ok (.lreturn, 1) := by decide +kernel
theorem sc_X7_cut_X7_startAct : ym_site g_X7_cut g_X7_startAct 5 2 0 := ⟨by decide, by decide, wd_224, wd_76, by decide +kernel⟩
theorem sc_X7_cut_X7_isRate : ym_site g_X7_cut g_X7_isRate 5 1 1 := ⟨by decide, by decide, wd_419, wd_76, by decide +kernel⟩
theorem sc_X7_cut_X7_refuse : ym_site g_X7_cut g_X7_refuse 5 4 1 := ⟨by decide, by decide, wd_232, wd_76, by decide +kernel⟩
theorem sc_X7_cut_X7_lotAt : ym_site g_X7_cut g_X7_lotAt 5 3 1 := ⟨by decide, by decide, wd_374, wd_76, by decide +kernel⟩
theorem sc_X7_cut_X7_whyNoLot : ym_site g_X7_cut g_X7_whyNoLot 5 1 1 := ⟨by decide, by decide, wd_377, wd_76, by decide +kernel⟩
theorem sc_X7_cut_X4_stateNow : ym_site g_X7_cut g_X4_stateNow 5 2 0 := ⟨by decide, by decide, wd_388, wd_87, by decide +kernel⟩
theorem sc_X7_cut_X2_get : ym_site g_X7_cut g_X2_get 5 1 1 := ⟨by decide, by decide, wd_256, wd_78, by decide +kernel⟩
theorem sc_X7_cut_X2_put : ym_site g_X7_cut g_X2_put 5 4 2 := ⟨by decide, by decide, wd_284, wd_78, by decide +kernel⟩
def fn_X7_cut (N : Nat) (a0 : Option Nat) (a1 : Int32) (a2 : Int32) (h : ym_H) : Option (Int64 × ym_H) :=
  Option.bind (ym_ob h a0 7) fun o1 =>
  Option.bind (fn_X7_startAct N a0 h) fun q1 =>
  Option.bind (fn_X7_isRate N a2 q1.2) fun q5 =>
  if q5.1 = 0 then
    Option.bind (ym_ob q5.2 a0 7) fun o13 =>
    Option.bind (fn_X7_refuse N a0 1 q5.2) fun q13 =>
    some (q13.1, q13.2)
  else
    Option.bind (ym_ob q5.2 a0 7) fun o19 =>
    Option.bind (fn_X7_lotAt N a0 a1 q5.2) fun q19 =>
    if q19.1 = none then
      Option.bind (fn_X7_whyNoLot N a1 q19.2) fun q29 =>
      Option.bind (ym_ob q29.2 a0 7) fun o32 =>
      Option.bind (fn_X7_refuse N a0 q29.1 q29.2) fun q32 =>
      some (q32.1, q32.2)
    else
      Option.bind (ym_ob q19.2 q19.1 4) fun o37 =>
      Option.bind (fn_X4_stateNow N q19.1 q19.2) fun q37 =>
      if q37.1 = 0 then
        Option.bind (ym_gR q37.2 q19.1 4 2) fun v51 =>
        Option.bind (ym_ob q37.2 v51 2) fun o55 =>
        Option.bind (fn_X2_get N v51 1 q37.2) fun q55 =>
        Option.bind (ym_gR q55.2 q19.1 4 2) fun v61 =>
        Option.bind (ym_ob q55.2 v61 2) fun o67 =>
        Option.bind (fn_X2_put N v61 1 (Int32.toInt64 a2) q55.2) fun q67 =>
        some (q55.1, q67.2)
      else
        Option.bind (ym_ob q37.2 a0 7) fun o46 =>
        Option.bind (fn_X7_refuse N a0 9 q37.2) fun q46 =>
        some (q46.1, q46.2)
set_option maxRecDepth 20000 in
set_option maxHeartbeats 4000000 in
theorem ok_X7_cut {D : ym_D} {b0 : Nat} {N : Nat} {a0 : Option Nat} {a1 : Int32} {a2 : Int32} {h h' : ym_H} {r : Int64} (hf : fn_X7_cut N a0 a1 a2 h = some (r, h')) : ym_M D b0 g_X7_cut 5 [va_rf a0, .int a1, .int a2] h (some (.long r)) h' := by
  unfold fn_X7_cut at hf
  refine ym_meth (lv := [(0, va_rf a0), (1, .int a1), (2, .int a2)]) (by decide) (by simp [lg_sl, ym_c1, ym_cI, ym_cL, g_X7_cut]) (by simp [lv_args, ym_c1, ym_cI, ym_cL]) ?_
  refine ym_aload_n (pc := 0) 0 dX7_cut_0 rfl rfl ?_
  obtain ⟨o1, f1, hf⟩ := Option.bind_eq_some_iff.mp hf
  obtain ⟨q1, e1, hf⟩ := Option.bind_eq_some_iff.mp hf
  refine ym_callV (pc := 1) (G2 := g_X7_startAct) (dep2 := 2) (As := []) (st := []) (stk2 := []) (r2 := none) (h1 := q1.2) dX7_cut_1 (ok_X7_startAct e1) (sc_X7_cut_X7_startAct) wd_221 wd_223 wd_0 (ci := 7) (q0 := (RX7, TX7, 10)) rfl (by decide) rfl f1 rfl rfl (ym_st4 (Nat.le_of_ble_eq_true rfl)) rfl ?_
  refine ym_iload_n (pc := 4) 2 dX7_cut_4 rfl rfl ?_
  obtain ⟨q5, e5, hf⟩ := Option.bind_eq_some_iff.mp hf
  refine ym_callS (pc := 5) (G2 := g_X7_isRate) (dep2 := 1) (As := [.int a2]) (st := []) (stk2 := [.int q5.1]) (r2 := (some (.int q5.1))) (h1 := q5.2) dX7_cut_5 (ok_X7_isRate e5) (sc_X7_cut_X7_isRate) wd_417 wd_418 rfl rfl (ym_st4 (Nat.le_of_ble_eq_true rfl)) rfl ?_
  by_cases c8 : q5.1 = 0
  · rw [if_pos c8] at hf
    refine ym_if_ne_y (pc := 8) (tgt := 17) dX7_cut_8 (by decide) c8 ?_
    refine ym_aload_n (pc := 11) 0 dX7_cut_11 rfl rfl ?_
    refine ym_iconst (pc := 12) (v := 1) dX7_cut_12 (by decide) ?_
    obtain ⟨o13, f13, hf⟩ := Option.bind_eq_some_iff.mp hf
    obtain ⟨q13, e13, hf⟩ := Option.bind_eq_some_iff.mp hf
    refine ym_callV (pc := 13) (G2 := g_X7_refuse) (dep2 := 4) (As := [.int 1]) (st := []) (stk2 := [.long q13.1]) (r2 := (some (.long q13.1))) (h1 := q13.2) dX7_cut_13 (ok_X7_refuse e13) (sc_X7_cut_X7_refuse) wd_229 wd_231 wd_1 (ci := 7) (q0 := (RX7, TX7, 10)) rfl (by decide) rfl f13 rfl rfl (ym_st4 (Nat.le_of_ble_eq_true rfl)) rfl ?_
    cases hf
    exact ym_lret (pc := 16) dX7_cut_16 rfl
  · rw [if_neg c8] at hf
    refine ym_if_ne_n (pc := 8) (tgt := 17) dX7_cut_8 (by decide) c8 ?_
    refine ym_aload_n (pc := 17) 0 dX7_cut_17 rfl rfl ?_
    refine ym_iload_n (pc := 18) 1 dX7_cut_18 rfl rfl ?_
    obtain ⟨o19, f19, hf⟩ := Option.bind_eq_some_iff.mp hf
    obtain ⟨q19, e19, hf⟩ := Option.bind_eq_some_iff.mp hf
    refine ym_callV (pc := 19) (G2 := g_X7_lotAt) (dep2 := 3) (As := [.int a1]) (st := []) (stk2 := [va_rf q19.1]) (r2 := (some (va_rf q19.1))) (h1 := q19.2) dX7_cut_19 (ok_X7_lotAt e19) (sc_X7_cut_X7_lotAt) wd_371 wd_373 wd_5 (ci := 7) (q0 := (RX7, TX7, 10)) rfl (by decide) rfl f19 rfl rfl (ym_st4 (Nat.le_of_ble_eq_true rfl)) rfl ?_
    refine ym_astore_n (pc := 22) (lv' := [(3, va_rf q19.1), (0, va_rf a0), (1, .int a1), (2, .int a2)]) dX7_cut_22 rfl (by decide) ⟨trivial, trivial, rfl, trivial⟩ rfl ?_
    refine ym_aload_n (pc := 23) 0 dX7_cut_23 rfl rfl ?_
    by_cases c24 : q19.1 = none
    · rw [if_pos c24] at hf
      refine ym_ifnonnull_y (pc := 24) (tgt := 36) dX7_cut_24 (by decide) c24 ?_
      refine ym_aload_n (pc := 27) 1 dX7_cut_27 rfl rfl ?_
      refine ym_iload_n (pc := 28) 2 dX7_cut_28 rfl rfl ?_
      obtain ⟨q29, e29, hf⟩ := Option.bind_eq_some_iff.mp hf
      refine ym_callS (pc := 29) (G2 := g_X7_whyNoLot) (dep2 := 1) (As := [.int a1]) (st := [va_rf a0]) (stk2 := [.int q29.1, va_rf a0]) (r2 := (some (.int q29.1))) (h1 := q29.2) dX7_cut_29 (ok_X7_whyNoLot e29) (sc_X7_cut_X7_whyNoLot) wd_375 wd_376 rfl rfl (ym_st4 (Nat.le_of_ble_eq_true rfl)) rfl ?_
      obtain ⟨o32, f32, hf⟩ := Option.bind_eq_some_iff.mp hf
      obtain ⟨q32, e32, hf⟩ := Option.bind_eq_some_iff.mp hf
      refine ym_callV (pc := 32) (G2 := g_X7_refuse) (dep2 := 4) (As := [.int q29.1]) (st := []) (stk2 := [.long q32.1]) (r2 := (some (.long q32.1))) (h1 := q32.2) dX7_cut_32 (ok_X7_refuse e32) (sc_X7_cut_X7_refuse) wd_229 wd_231 wd_1 (ci := 7) (q0 := (RX7, TX7, 10)) rfl (by decide) rfl f32 rfl rfl (ym_st4 (Nat.le_of_ble_eq_true rfl)) rfl ?_
      cases hf
      exact ym_lret (pc := 35) dX7_cut_35 rfl
    · rw [if_neg c24] at hf
      refine ym_ifnonnull_n (pc := 24) (tgt := 36) dX7_cut_24 (by decide) c24 ?_
      refine ym_aload_n (pc := 36) 0 dX7_cut_36 rfl rfl ?_
      obtain ⟨o37, f37, hf⟩ := Option.bind_eq_some_iff.mp hf
      obtain ⟨q37, e37, hf⟩ := Option.bind_eq_some_iff.mp hf
      refine ym_callV (pc := 37) (G2 := g_X4_stateNow) (dep2 := 2) (As := []) (st := []) (stk2 := [.int q37.1]) (r2 := (some (.int q37.1))) (h1 := q37.2) dX7_cut_37 (ok_X4_stateNow e37) (sc_X7_cut_X4_stateNow) wd_385 wd_386 wd_387 (ci := 4) (q0 := (RX4, TX4, 6)) rfl (by decide) rfl f37 rfl rfl (ym_st4 (Nat.le_of_ble_eq_true rfl)) rfl ?_
      by_cases c40 : q37.1 = 0
      · rw [if_pos c40] at hf
        refine ym_if_eq_y (pc := 40) (tgt := 50) dX7_cut_40 (by decide) c40 ?_
        refine ym_aload_n (pc := 50) 0 dX7_cut_50 rfl rfl ?_
        obtain ⟨v51, e51, hf⟩ := Option.bind_eq_some_iff.mp hf
        refine ym_getN (pc := 51) dX7_cut_51 rfl (by decide) iX4 (k := 2) (by decide) wd_346 (ym_gR_v e51) ?_
        refine ym_iconst (pc := 54) (v := 1) dX7_cut_54 (by decide) ?_
        obtain ⟨o55, f55, hf⟩ := Option.bind_eq_some_iff.mp hf
        obtain ⟨q55, e55, hf⟩ := Option.bind_eq_some_iff.mp hf
        refine ym_callV (pc := 55) (G2 := g_X2_get) (dep2 := 1) (As := [.int 1]) (st := []) (stk2 := [.long q55.1]) (r2 := (some (.long q55.1))) (h1 := q55.2) dX7_cut_55 (ok_X2_get e55) (sc_X7_cut_X2_get) wd_253 wd_254 wd_255 (ci := 2) (q0 := (RX2, TX2, 2)) rfl (by decide) rfl f55 rfl rfl (ym_st4 (Nat.le_of_ble_eq_true rfl)) rfl ?_
        refine ym_sub (lv' := [(3, va_rf q19.1), (2, .int a2)]) [0, 3] rfl ?_
        refine ym_lstore (pc := 58) (lv' := [(4, .long q55.1), (3, va_rf q19.1), (2, .int a2)]) dX7_cut_58 (by decide) ⟨ym_c1 q19.1, trivial, trivial⟩ rfl ?_
        refine ym_aload_n (pc := 60) 1 dX7_cut_60 rfl rfl ?_
        obtain ⟨v61, e61, hf⟩ := Option.bind_eq_some_iff.mp hf
        refine ym_getN (pc := 61) dX7_cut_61 rfl (by decide) iX4 (k := 2) (by decide) wd_346 (ym_gR_v e61) ?_
        refine ym_iconst (pc := 64) (v := 1) dX7_cut_64 (by decide) ?_
        refine ym_iload_n (pc := 65) 2 dX7_cut_65 rfl rfl ?_
        refine ym_i2l (pc := 66) dX7_cut_66 ?_
        obtain ⟨o67, f67, hf⟩ := Option.bind_eq_some_iff.mp hf
        obtain ⟨q67, e67, hf⟩ := Option.bind_eq_some_iff.mp hf
        refine ym_callV (pc := 67) (G2 := g_X2_put) (dep2 := 4) (As := [.int 1, .long (Int32.toInt64 a2)]) (st := []) (stk2 := []) (r2 := none) (h1 := q67.2) dX7_cut_67 (ok_X2_put e67) (sc_X7_cut_X2_put) wd_281 wd_282 wd_283 (ci := 2) (q0 := (RX2, TX2, 2)) rfl (by decide) rfl f67 rfl rfl (ym_st4 (Nat.le_of_ble_eq_true rfl)) rfl ?_
        refine ym_lload (pc := 70) 0 dX7_cut_70 rfl ?_
        cases hf
        exact ym_lret (pc := 72) dX7_cut_72 rfl
      · rw [if_neg c40] at hf
        refine ym_if_eq_n (pc := 40) (tgt := 50) dX7_cut_40 (by decide) c40 ?_
        refine ym_aload_n (pc := 43) 1 dX7_cut_43 rfl rfl ?_
        refine ym_bipush (pc := 44) (v := 9) dX7_cut_44 (by decide) ?_
        obtain ⟨o46, f46, hf⟩ := Option.bind_eq_some_iff.mp hf
        obtain ⟨q46, e46, hf⟩ := Option.bind_eq_some_iff.mp hf
        refine ym_callV (pc := 46) (G2 := g_X7_refuse) (dep2 := 4) (As := [.int 9]) (st := []) (stk2 := [.long q46.1]) (r2 := (some (.long q46.1))) (h1 := q46.2) dX7_cut_46 (ok_X7_refuse e46) (sc_X7_cut_X7_refuse) wd_229 wd_231 wd_1 (ci := 7) (q0 := (RX7, TX7, 10)) rfl (by decide) rfl f46 rfl rfl (ym_st4 (Nat.le_of_ble_eq_true rfl)) rfl ?_
        cases hf
        exact ym_lret (pc := 49) dX7_cut_49 rfl
theorem dX7_entries_0 : decode cX7_entries 0 = .ok (.aload_n 0, 1) := by decide +kernel
theorem dX7_entries_1 : decode cX7_entries 1 = .ok (.iload_n 1, 1) := by decide +kernel
theorem dX7_entries_2 : decode cX7_entries 2 = .ok (.invokevirtual 89, 3) := by decide +kernel
theorem dX7_entries_5 : decode cX7_entries 5 = .ok (.astore_n 2, 1) := by decide +kernel
theorem dX7_entries_6 : decode cX7_entries 6 = .ok (.aload_n 2, 1) := by decide +kernel
theorem dX7_entries_7 : decode cX7_entries 7 = .ok (.ifnull 10, 3) := by decide +kernel
theorem dX7_entries_10 : decode cX7_entries 10 = .ok (.aload_n 2, 1) := by decide +kernel
theorem dX7_entries_11 : decode cX7_entries 11 = .ok (.invokevirtual 270, 3) := by decide +kernel
theorem dX7_entries_14 : decode cX7_entries 14 = .ok (.ifCond .ne 7, 3) := by decide +kernel
theorem dX7_entries_17 : decode cX7_entries 17 = .ok (.iconst (-1), 1) := by decide +kernel
theorem dX7_entries_18 : decode cX7_entries 18 = .ok (.goto 10, 3) := by decide +kernel
theorem dX7_entries_21 : decode cX7_entries 21 = .ok (.aload_n 2, 1) := by decide +kernel
theorem dX7_entries_22 : decode cX7_entries 22 = .ok (.getfield 149, 3) := by decide +kernel
theorem dX7_entries_25 : decode cX7_entries 25 = .ok (.invokevirtual 116, 3) := by decide +kernel
theorem dX7_entries_28 : decode cX7_entries 28 = .ok (.ireturn, 1) := by decide +kernel
theorem sc_X7_entries_X7_lotAt : ym_site g_X7_entries g_X7_lotAt 4 3 1 := ⟨by decide, by decide, wd_374, wd_76, by decide +kernel⟩
theorem sc_X7_entries_X4_hasBook : ym_site g_X7_entries g_X4_hasBook 4 3 0 := ⟨by decide, by decide, wd_547, wd_87, by decide +kernel⟩
theorem sc_X7_entries_X5_rows : ym_site g_X7_entries g_X5_rows 4 2 0 := ⟨by decide, by decide, wd_397, wd_81, by decide +kernel⟩
def fn_X7_entries (N : Nat) (a0 : Option Nat) (a1 : Int32) (h : ym_H) : Option (Int32 × ym_H) :=
  Option.bind (ym_ob h a0 7) fun o2 =>
  Option.bind (fn_X7_lotAt N a0 a1 h) fun q2 =>
  if q2.1 = none then
    some ((-1), q2.2)
  else
    Option.bind (ym_ob q2.2 q2.1 4) fun o11 =>
    Option.bind (fn_X4_hasBook N q2.1 q2.2) fun q11 =>
    if q11.1 = 0 then
      some ((-1), q11.2)
    else
      Option.bind (ym_gR q11.2 q2.1 4 3) fun v22 =>
      Option.bind (ym_ob q11.2 v22 5) fun o25 =>
      Option.bind (fn_X5_rows N v22 q11.2) fun q25 =>
      some (q25.1, q25.2)
set_option maxRecDepth 20000 in
set_option maxHeartbeats 4000000 in
theorem ok_X7_entries {D : ym_D} {b0 : Nat} {N : Nat} {a0 : Option Nat} {a1 : Int32} {h h' : ym_H} {r : Int32} (hf : fn_X7_entries N a0 a1 h = some (r, h')) : ym_M D b0 g_X7_entries 4 [va_rf a0, .int a1] h (some (.int r)) h' := by
  unfold fn_X7_entries at hf
  refine ym_meth (lv := [(0, va_rf a0), (1, .int a1)]) (by decide) (by simp [lg_sl, ym_c1, ym_cI, ym_cL, g_X7_entries]) (by simp [lv_args, ym_c1, ym_cI, ym_cL]) ?_
  refine ym_aload_n (pc := 0) 0 dX7_entries_0 rfl rfl ?_
  refine ym_iload_n (pc := 1) 1 dX7_entries_1 rfl rfl ?_
  obtain ⟨o2, f2, hf⟩ := Option.bind_eq_some_iff.mp hf
  obtain ⟨q2, e2, hf⟩ := Option.bind_eq_some_iff.mp hf
  refine ym_callV (pc := 2) (G2 := g_X7_lotAt) (dep2 := 3) (As := [.int a1]) (st := []) (stk2 := [va_rf q2.1]) (r2 := (some (va_rf q2.1))) (h1 := q2.2) dX7_entries_2 (ok_X7_lotAt e2) (sc_X7_entries_X7_lotAt) wd_371 wd_373 wd_5 (ci := 7) (q0 := (RX7, TX7, 10)) rfl (by decide) rfl f2 rfl rfl (ym_st4 (Nat.le_of_ble_eq_true rfl)) rfl ?_
  refine ym_sub (lv' := []) [] rfl ?_
  refine ym_astore_n (pc := 5) (lv' := [(2, va_rf q2.1)]) dX7_entries_5 rfl (by decide) trivial rfl ?_
  refine ym_aload_n (pc := 6) 0 dX7_entries_6 rfl rfl ?_
  by_cases c7 : q2.1 = none
  · rw [if_pos c7] at hf
    refine ym_ifnull_y (pc := 7) (tgt := 17) dX7_entries_7 (by decide) c7 ?_
    refine ym_iconst (pc := 17) (v := (-1)) dX7_entries_17 (by decide) ?_
    refine ym_goto (pc := 18) (tgt := 28) dX7_entries_18 (by decide) ?_
    cases hf
    exact ym_iret (pc := 28) dX7_entries_28 rfl
  · rw [if_neg c7] at hf
    refine ym_ifnull_n (pc := 7) (tgt := 17) dX7_entries_7 (by decide) c7 ?_
    refine ym_aload_n (pc := 10) 0 dX7_entries_10 rfl rfl ?_
    obtain ⟨o11, f11, hf⟩ := Option.bind_eq_some_iff.mp hf
    obtain ⟨q11, e11, hf⟩ := Option.bind_eq_some_iff.mp hf
    refine ym_callV (pc := 11) (G2 := g_X4_hasBook) (dep2 := 3) (As := []) (st := []) (stk2 := [.int q11.1]) (r2 := (some (.int q11.1))) (h1 := q11.2) dX7_entries_11 (ok_X4_hasBook e11) (sc_X7_entries_X4_hasBook) wd_632 wd_545 wd_546 (ci := 4) (q0 := (RX4, TX4, 6)) rfl (by decide) rfl f11 rfl rfl (ym_st4 (Nat.le_of_ble_eq_true rfl)) rfl ?_
    by_cases c14 : q11.1 = 0
    · rw [if_pos c14] at hf
      refine ym_if_ne_y (pc := 14) (tgt := 21) dX7_entries_14 (by decide) c14 ?_
      refine ym_iconst (pc := 17) (v := (-1)) dX7_entries_17 (by decide) ?_
      refine ym_goto (pc := 18) (tgt := 28) dX7_entries_18 (by decide) ?_
      cases hf
      exact ym_iret (pc := 28) dX7_entries_28 rfl
    · rw [if_neg c14] at hf
      refine ym_if_ne_n (pc := 14) (tgt := 21) dX7_entries_14 (by decide) c14 ?_
      refine ym_aload_n (pc := 21) 0 dX7_entries_21 rfl rfl ?_
      obtain ⟨v22, e22, hf⟩ := Option.bind_eq_some_iff.mp hf
      refine ym_getN (pc := 22) dX7_entries_22 rfl (by decide) iX4 (k := 3) (by decide) wd_348 (ym_gR_v e22) ?_
      obtain ⟨o25, f25, hf⟩ := Option.bind_eq_some_iff.mp hf
      obtain ⟨q25, e25, hf⟩ := Option.bind_eq_some_iff.mp hf
      refine ym_callV (pc := 25) (G2 := g_X5_rows) (dep2 := 2) (As := []) (st := []) (stk2 := [.int q25.1]) (r2 := (some (.int q25.1))) (h1 := q25.2) dX7_entries_25 (ok_X5_rows e25) (sc_X7_entries_X5_rows) wd_403 wd_395 wd_396 (ci := 5) (q0 := (RX5, TX5, 2)) rfl (by decide) rfl f25 rfl rfl (ym_st4 (Nat.le_of_ble_eq_true rfl)) rfl ?_
      cases hf
      exact ym_iret (pc := 28) dX7_entries_28 rfl
theorem dX7_digestLot_0 : decode cX7_digestLot 0 = .ok (.aload_n 0, 1) := by decide +kernel
theorem dX7_digestLot_1 : decode cX7_digestLot 1 = .ok (.iload_n 3, 1) := by decide +kernel
theorem dX7_digestLot_2 : decode cX7_digestLot 2 = .ok (.invokevirtual 89, 3) := by decide +kernel
theorem dX7_digestLot_5 : decode cX7_digestLot 5 = .ok (.astore 4, 2) := by decide +kernel
theorem dX7_digestLot_7 : decode cX7_digestLot 7 = .ok (.aload 4, 2) := by decide +kernel
theorem dX7_digestLot_9 : decode cX7_digestLot 9 = .ok (.ifnonnull 5, 3) := by decide +kernel
theorem dX7_digestLot_12 : decode cX7_digestLot 12 = .ok (.lload_n 1, 1) := by decide +kernel
theorem dX7_digestLot_13 : decode cX7_digestLot 13 = .ok (.lreturn, 1) := by decide +kernel
theorem dX7_digestLot_14 : decode cX7_digestLot 14 = .ok (.lload_n 1, 1) := by decide +kernel
theorem dX7_digestLot_15 : decode cX7_digestLot 15 = .ok (.ldc2_w 287, 3) := by decide +kernel
theorem dX7_digestLot_18 : decode cX7_digestLot 18 = .ok (.lmul, 1) := by decide +kernel
theorem dX7_digestLot_19 : decode cX7_digestLot 19 = .ok (.aload 4, 2) := by decide +kernel
theorem dX7_digestLot_21 : decode cX7_digestLot 21 = .ok (.getfield 137, 3) := by decide +kernel
theorem dX7_digestLot_24 : decode cX7_digestLot 24 = .ok (.i2l, 1) := by decide +kernel
theorem dX7_digestLot_25 : decode cX7_digestLot 25 = .ok (.ladd, 1) := by decide +kernel
theorem dX7_digestLot_26 : decode cX7_digestLot 26 = .ok (.lstore 5, 2) := by decide +kernel
theorem dX7_digestLot_28 : decode cX7_digestLot 28 = .ok (.lload 5, 2) := by decide +kernel
theorem dX7_digestLot_30 : decode cX7_digestLot 30 = .ok (.ldc2_w 287, 3) := by decide +kernel
theorem dX7_digestLot_33 : decode cX7_digestLot 33 = .ok (.lmul, 1) := by decide +kernel
theorem dX7_digestLot_34 : decode cX7_digestLot 34 = .ok (.aload 4, 2) := by decide +kernel
theorem dX7_digestLot_36 : decode cX7_digestLot 36 = .ok (.invokevirtual 104, 3) := by decide +kernel
theorem dX7_digestLot_39 : decode cX7_digestLot 39 = .ok (.i2l, 1) := by decide +kernel
theorem dX7_digestLot_40 : decode cX7_digestLot 40 = .ok (.ladd, 1) := by decide +kernel
theorem dX7_digestLot_41 : decode cX7_digestLot 41 = .ok (.lstore 5, 2) := by decide +kernel
theorem dX7_digestLot_43 : decode cX7_digestLot 43 = .ok (.lload 5, 2) := by decide +kernel
theorem dX7_digestLot_45 : decode cX7_digestLot 45 = .ok (.ldc2_w 287, 3) := by decide +kernel
theorem dX7_digestLot_48 : decode cX7_digestLot 48 = .ok (.lmul, 1) := by decide +kernel
theorem dX7_digestLot_49 : decode cX7_digestLot 49 = .ok (.aload 4, 2) := by decide +kernel
theorem dX7_digestLot_51 : decode cX7_digestLot 51 = .ok (.invokevirtual 201, 3) := by decide +kernel
theorem dX7_digestLot_54 : decode cX7_digestLot 54 = .ok (.i2l, 1) := by decide +kernel
theorem dX7_digestLot_55 : decode cX7_digestLot 55 = .ok (.ladd, 1) := by decide +kernel
theorem dX7_digestLot_56 : decode cX7_digestLot 56 = .ok (.lstore 5, 2) := by decide +kernel
theorem dX7_digestLot_58 : decode cX7_digestLot 58 = .ok (.lload 5, 2) := by decide +kernel
theorem dX7_digestLot_60 : decode cX7_digestLot 60 = .ok (.ldc2_w 287, 3) := by decide +kernel
theorem dX7_digestLot_63 : decode cX7_digestLot 63 = .ok (.lmul, 1) := by decide +kernel
theorem dX7_digestLot_64 : decode cX7_digestLot 64 = .ok (.aload 4, 2) := by decide +kernel
theorem dX7_digestLot_66 : decode cX7_digestLot 66 = .ok (.invokevirtual 198, 3) := by decide +kernel
theorem dX7_digestLot_69 : decode cX7_digestLot 69 = .ok (.ladd, 1) := by decide +kernel
theorem dX7_digestLot_70 : decode cX7_digestLot 70 = .ok (.lstore 5, 2) := by decide +kernel
theorem dX7_digestLot_72 : decode cX7_digestLot 72 = .ok (.lload 5, 2) := by decide +kernel
theorem dX7_digestLot_74 : decode cX7_digestLot 74 = .ok (.ldc2_w 287, 3) := by decide +kernel
theorem dX7_digestLot_77 : decode cX7_digestLot 77 = .ok (.lmul, 1) := by decide +kernel
theorem dX7_digestLot_78 : decode cX7_digestLot 78 = .ok (.aload_n 0, 1) := by decide +kernel
theorem dX7_digestLot_79 : decode cX7_digestLot 79 = .ok (.iload_n 3, 1) := by decide +kernel
theorem dX7_digestLot_80 : decode cX7_digestLot 80 = .ok (.invokevirtual 300, 3) := by decide +kernel
theorem dX7_digestLot_83 : decode cX7_digestLot 83 = .ok (.i2l, 1) := by decide +kernel
theorem dX7_digestLot_84 : decode cX7_digestLot 84 = .ok (.ladd, 1) := by decide +kernel
theorem dX7_digestLot_85 : decode cX7_digestLot 85 = .ok (.lstore 5, 2) := by decide +kernel
theorem dX7_digestLot_87 : decode cX7_digestLot 87 = .ok (.lload 5, 2) := by decide +kernel
theorem dX7_digestLot_89 : decode cX7_digestLot 89 = .ok (.ldc2_w 287, 3) := by decide +kernel
theorem dX7_digestLot_92 : decode cX7_digestLot 92 = .ok (.lmul, 1) := by decide +kernel
theorem dX7_digestLot_93 : decode cX7_digestLot 93 = .ok (.aload 4, 2) := by decide +kernel
theorem dX7_digestLot_95 : decode cX7_digestLot 95 = .ok (.getfield 107, 3) := by decide +kernel
theorem dX7_digestLot_98 : decode cX7_digestLot 98 = .ok (.invokevirtual 116, 3) := by decide +kernel
theorem dX7_digestLot_101 : decode cX7_digestLot 101 = .ok (.i2l, 1) := by decide +kernel
theorem dX7_digestLot_102 : decode cX7_digestLot 102 = .ok (.ladd, 1) := by decide +kernel
theorem dX7_digestLot_103 : decode cX7_digestLot 103 = .ok (.lstore 5, 2) := by decide +kernel
theorem dX7_digestLot_105 : decode cX7_digestLot 105 = .ok (.lload 5, 2) := by decide +kernel
theorem dX7_digestLot_107 : decode cX7_digestLot 107 = .ok (.ldc2_w 287, 3) := by decide +kernel
theorem dX7_digestLot_110 : decode cX7_digestLot 110 = .ok (.lmul, 1) := by decide +kernel
theorem dX7_digestLot_111 : decode cX7_digestLot 111 = .ok (.aload 4, 2) := by decide +kernel
theorem dX7_digestLot_113 : decode cX7_digestLot 113 = .ok (.getfield 189, 3) := by decide +kernel
theorem dX7_digestLot_116 : decode cX7_digestLot 116 = .ok (.invokevirtual 116, 3) := by decide +kernel
theorem dX7_digestLot_119 : decode cX7_digestLot 119 = .ok (.i2l, 1) := by decide +kernel
theorem dX7_digestLot_120 : decode cX7_digestLot 120 = .ok (.ladd, 1) := by decide +kernel
theorem dX7_digestLot_121 : decode cX7_digestLot 121 = .ok (.lreturn, 1) := by decide +kernel
theorem sc_X7_digestLot_X7_lotAt : ym_site g_X7_digestLot g_X7_lotAt 5 3 1 := ⟨by decide, by decide, wd_374, wd_76, by decide +kernel⟩
theorem sc_X7_digestLot_X4_stateNow : ym_site g_X7_digestLot g_X4_stateNow 5 2 0 := ⟨by decide, by decide, wd_388, wd_87, by decide +kernel⟩
theorem sc_X7_digestLot_X4_standingBidder : ym_site g_X7_digestLot g_X4_standingBidder 5 3 0 := ⟨by decide, by decide, wd_512, wd_87, by decide +kernel⟩
theorem sc_X7_digestLot_X4_standingSum : ym_site g_X7_digestLot g_X4_standingSum 5 3 0 := ⟨by decide, by decide, wd_520, wd_87, by decide +kernel⟩
theorem sc_X7_digestLot_X7_entries : ym_site g_X7_digestLot g_X7_entries 5 4 1 := ⟨by decide, by decide, wd_784, wd_76, by decide +kernel⟩
theorem sc_X7_digestLot_X5_rows : ym_site g_X7_digestLot g_X5_rows 5 2 0 := ⟨by decide, by decide, wd_397, wd_81, by decide +kernel⟩
def fn_X7_digestLot (N : Nat) (a0 : Option Nat) (a1 : Int64) (a3 : Int32) (h : ym_H) : Option (Int64 × ym_H) :=
  Option.bind (ym_ob h a0 7) fun o2 =>
  Option.bind (fn_X7_lotAt N a0 a3 h) fun q2 =>
  if q2.1 = none then
    some (a1, q2.2)
  else
    Option.bind (ym_gI q2.2 q2.1 4 0) fun v21 =>
    Option.bind (ym_ob q2.2 q2.1 4) fun o36 =>
    Option.bind (fn_X4_stateNow N q2.1 q2.2) fun q36 =>
    Option.bind (ym_ob q36.2 q2.1 4) fun o51 =>
    Option.bind (fn_X4_standingBidder N q2.1 q36.2) fun q51 =>
    Option.bind (ym_ob q51.2 q2.1 4) fun o66 =>
    Option.bind (fn_X4_standingSum N q2.1 q51.2) fun q66 =>
    Option.bind (ym_ob q66.2 a0 7) fun o80 =>
    Option.bind (fn_X7_entries N a0 a3 q66.2) fun q80 =>
    Option.bind (ym_gR q80.2 q2.1 4 5) fun v95 =>
    Option.bind (ym_ob q80.2 v95 5) fun o98 =>
    Option.bind (fn_X5_rows N v95 q80.2) fun q98 =>
    Option.bind (ym_gR q98.2 q2.1 4 4) fun v113 =>
    Option.bind (ym_ob q98.2 v113 5) fun o116 =>
    Option.bind (fn_X5_rows N v113 q98.2) fun q116 =>
    some (((((((((((((((a1 * 31) + (Int32.toInt64 v21)) * 31) + (Int32.toInt64 q36.1)) * 31) + (Int32.toInt64 q51.1)) * 31) + q66.1) * 31) + (Int32.toInt64 q80.1)) * 31) + (Int32.toInt64 q98.1)) * 31) + (Int32.toInt64 q116.1)), q116.2)
set_option maxRecDepth 20000 in
set_option maxHeartbeats 4000000 in
theorem ok_X7_digestLot {D : ym_D} {b0 : Nat} {N : Nat} {a0 : Option Nat} {a1 : Int64} {a3 : Int32} {h h' : ym_H} {r : Int64} (hf : fn_X7_digestLot N a0 a1 a3 h = some (r, h')) : ym_M D b0 g_X7_digestLot 5 [va_rf a0, .long a1, .int a3] h (some (.long r)) h' := by
  unfold fn_X7_digestLot at hf
  refine ym_meth (lv := [(0, va_rf a0), (1, .long a1), (3, .int a3)]) (by decide) (by simp [lg_sl, ym_c1, ym_cI, ym_cL, g_X7_digestLot]) (by simp [lv_args, ym_c1, ym_cI, ym_cL]) ?_
  refine ym_aload_n (pc := 0) 0 dX7_digestLot_0 rfl rfl ?_
  refine ym_iload_n (pc := 1) 2 dX7_digestLot_1 rfl rfl ?_
  obtain ⟨o2, f2, hf⟩ := Option.bind_eq_some_iff.mp hf
  obtain ⟨q2, e2, hf⟩ := Option.bind_eq_some_iff.mp hf
  refine ym_callV (pc := 2) (G2 := g_X7_lotAt) (dep2 := 3) (As := [.int a3]) (st := []) (stk2 := [va_rf q2.1]) (r2 := (some (va_rf q2.1))) (h1 := q2.2) dX7_digestLot_2 (ok_X7_lotAt e2) (sc_X7_digestLot_X7_lotAt) wd_371 wd_373 wd_5 (ci := 7) (q0 := (RX7, TX7, 10)) rfl (by decide) rfl f2 rfl rfl (ym_st4 (Nat.le_of_ble_eq_true rfl)) rfl ?_
  refine ym_astore (pc := 5) (lv' := [(4, va_rf q2.1), (0, va_rf a0), (1, .long a1), (3, .int a3)]) dX7_digestLot_5 (by decide) ⟨trivial, trivial, rfl, trivial⟩ rfl ?_
  refine ym_aload (pc := 7) 0 dX7_digestLot_7 rfl ?_
  by_cases c9 : q2.1 = none
  · rw [if_pos c9] at hf
    refine ym_ifnonnull_y (pc := 9) (tgt := 14) dX7_digestLot_9 (by decide) c9 ?_
    refine ym_lload_n (pc := 12) 2 dX7_digestLot_12 rfl rfl ?_
    cases hf
    exact ym_lret (pc := 13) dX7_digestLot_13 rfl
  · rw [if_neg c9] at hf
    refine ym_ifnonnull_n (pc := 9) (tgt := 14) dX7_digestLot_9 (by decide) c9 ?_
    refine ym_lload_n (pc := 14) 2 dX7_digestLot_14 rfl rfl ?_
    refine ym_ldc2 (pc := 15) dX7_digestLot_15 wd_831 ?_
    refine ym_lmul (pc := 18) dX7_digestLot_18 ?_
    refine ym_aload (pc := 19) 0 dX7_digestLot_19 rfl ?_
    obtain ⟨v21, e21, hf⟩ := Option.bind_eq_some_iff.mp hf
    refine ym_getN (pc := 21) dX7_digestLot_21 rfl (by decide) iX4 (k := 0) (by decide) wd_340 (ym_gI_v e21) ?_
    refine ym_i2l (pc := 24) dX7_digestLot_24 ?_
    refine ym_ladd (pc := 25) dX7_digestLot_25 ?_
    refine ym_sub (lv' := [(4, va_rf q2.1), (0, va_rf a0), (3, .int a3)]) [0, 1, 3] rfl ?_
    refine ym_lstore (pc := 26) (lv' := [(5, .long ((a1 * 31) + (Int32.toInt64 v21))), (4, va_rf q2.1), (0, va_rf a0), (3, .int a3)]) dX7_digestLot_26 (by decide) ⟨ym_c1 q2.1, trivial, trivial, trivial⟩ rfl ?_
    refine ym_lload (pc := 28) 0 dX7_digestLot_28 rfl ?_
    refine ym_ldc2 (pc := 30) dX7_digestLot_30 wd_831 ?_
    refine ym_lmul (pc := 33) dX7_digestLot_33 ?_
    refine ym_aload (pc := 34) 1 dX7_digestLot_34 rfl ?_
    obtain ⟨o36, f36, hf⟩ := Option.bind_eq_some_iff.mp hf
    obtain ⟨q36, e36, hf⟩ := Option.bind_eq_some_iff.mp hf
    refine ym_callV (pc := 36) (G2 := g_X4_stateNow) (dep2 := 2) (As := []) (st := [.long (((a1 * 31) + (Int32.toInt64 v21)) * 31)]) (stk2 := [.int q36.1, .long (((a1 * 31) + (Int32.toInt64 v21)) * 31)]) (r2 := (some (.int q36.1))) (h1 := q36.2) dX7_digestLot_36 (ok_X4_stateNow e36) (sc_X7_digestLot_X4_stateNow) wd_385 wd_386 wd_387 (ci := 4) (q0 := (RX4, TX4, 6)) rfl (by decide) rfl f36 rfl rfl (ym_st4 (Nat.le_of_ble_eq_true rfl)) rfl ?_
    refine ym_i2l (pc := 39) dX7_digestLot_39 ?_
    refine ym_ladd (pc := 40) dX7_digestLot_40 ?_
    refine ym_lstore (pc := 41) (lv' := [(5, .long ((((a1 * 31) + (Int32.toInt64 v21)) * 31) + (Int32.toInt64 q36.1))), (4, va_rf q2.1), (0, va_rf a0), (3, .int a3)]) dX7_digestLot_41 (by decide) ⟨trivial, ym_c1 q2.1, trivial, trivial, trivial⟩ rfl ?_
    refine ym_lload (pc := 43) 0 dX7_digestLot_43 rfl ?_
    refine ym_ldc2 (pc := 45) dX7_digestLot_45 wd_831 ?_
    refine ym_lmul (pc := 48) dX7_digestLot_48 ?_
    refine ym_aload (pc := 49) 1 dX7_digestLot_49 rfl ?_
    obtain ⟨o51, f51, hf⟩ := Option.bind_eq_some_iff.mp hf
    obtain ⟨q51, e51, hf⟩ := Option.bind_eq_some_iff.mp hf
    refine ym_callV (pc := 51) (G2 := g_X4_standingBidder) (dep2 := 3) (As := []) (st := [.long (((((a1 * 31) + (Int32.toInt64 v21)) * 31) + (Int32.toInt64 q36.1)) * 31)]) (stk2 := [.int q51.1, .long (((((a1 * 31) + (Int32.toInt64 v21)) * 31) + (Int32.toInt64 q36.1)) * 31)]) (r2 := (some (.int q51.1))) (h1 := q51.2) dX7_digestLot_51 (ok_X4_standingBidder e51) (sc_X7_digestLot_X4_standingBidder) wd_509 wd_510 wd_511 (ci := 4) (q0 := (RX4, TX4, 6)) rfl (by decide) rfl f51 rfl rfl (ym_st4 (Nat.le_of_ble_eq_true rfl)) rfl ?_
    refine ym_i2l (pc := 54) dX7_digestLot_54 ?_
    refine ym_ladd (pc := 55) dX7_digestLot_55 ?_
    refine ym_lstore (pc := 56) (lv' := [(5, .long ((((((a1 * 31) + (Int32.toInt64 v21)) * 31) + (Int32.toInt64 q36.1)) * 31) + (Int32.toInt64 q51.1))), (4, va_rf q2.1), (0, va_rf a0), (3, .int a3)]) dX7_digestLot_56 (by decide) ⟨trivial, ym_c1 q2.1, trivial, trivial, trivial⟩ rfl ?_
    refine ym_lload (pc := 58) 0 dX7_digestLot_58 rfl ?_
    refine ym_ldc2 (pc := 60) dX7_digestLot_60 wd_831 ?_
    refine ym_lmul (pc := 63) dX7_digestLot_63 ?_
    refine ym_aload (pc := 64) 1 dX7_digestLot_64 rfl ?_
    obtain ⟨o66, f66, hf⟩ := Option.bind_eq_some_iff.mp hf
    obtain ⟨q66, e66, hf⟩ := Option.bind_eq_some_iff.mp hf
    refine ym_callV (pc := 66) (G2 := g_X4_standingSum) (dep2 := 3) (As := []) (st := [.long (((((((a1 * 31) + (Int32.toInt64 v21)) * 31) + (Int32.toInt64 q36.1)) * 31) + (Int32.toInt64 q51.1)) * 31)]) (stk2 := [.long q66.1, .long (((((((a1 * 31) + (Int32.toInt64 v21)) * 31) + (Int32.toInt64 q36.1)) * 31) + (Int32.toInt64 q51.1)) * 31)]) (r2 := (some (.long q66.1))) (h1 := q66.2) dX7_digestLot_66 (ok_X4_standingSum e66) (sc_X7_digestLot_X4_standingSum) wd_517 wd_518 wd_519 (ci := 4) (q0 := (RX4, TX4, 6)) rfl (by decide) rfl f66 rfl rfl (ym_st4 (Nat.le_of_ble_eq_true rfl)) rfl ?_
    refine ym_ladd (pc := 69) dX7_digestLot_69 ?_
    refine ym_lstore (pc := 70) (lv' := [(5, .long ((((((((a1 * 31) + (Int32.toInt64 v21)) * 31) + (Int32.toInt64 q36.1)) * 31) + (Int32.toInt64 q51.1)) * 31) + q66.1)), (4, va_rf q2.1), (0, va_rf a0), (3, .int a3)]) dX7_digestLot_70 (by decide) ⟨trivial, ym_c1 q2.1, trivial, trivial, trivial⟩ rfl ?_
    refine ym_lload (pc := 72) 0 dX7_digestLot_72 rfl ?_
    refine ym_ldc2 (pc := 74) dX7_digestLot_74 wd_831 ?_
    refine ym_lmul (pc := 77) dX7_digestLot_77 ?_
    refine ym_aload_n (pc := 78) 2 dX7_digestLot_78 rfl rfl ?_
    refine ym_iload_n (pc := 79) 3 dX7_digestLot_79 rfl rfl ?_
    obtain ⟨o80, f80, hf⟩ := Option.bind_eq_some_iff.mp hf
    obtain ⟨q80, e80, hf⟩ := Option.bind_eq_some_iff.mp hf
    refine ym_callV (pc := 80) (G2 := g_X7_entries) (dep2 := 4) (As := [.int a3]) (st := [.long (((((((((a1 * 31) + (Int32.toInt64 v21)) * 31) + (Int32.toInt64 q36.1)) * 31) + (Int32.toInt64 q51.1)) * 31) + q66.1) * 31)]) (stk2 := [.int q80.1, .long (((((((((a1 * 31) + (Int32.toInt64 v21)) * 31) + (Int32.toInt64 q36.1)) * 31) + (Int32.toInt64 q51.1)) * 31) + q66.1) * 31)]) (r2 := (some (.int q80.1))) (h1 := q80.2) dX7_digestLot_80 (ok_X7_entries e80) (sc_X7_digestLot_X7_entries) wd_837 wd_782 wd_783 (ci := 7) (q0 := (RX7, TX7, 10)) rfl (by decide) rfl f80 rfl rfl (ym_st4 (Nat.le_of_ble_eq_true rfl)) rfl ?_
    refine ym_i2l (pc := 83) dX7_digestLot_83 ?_
    refine ym_ladd (pc := 84) dX7_digestLot_84 ?_
    refine ym_sub (lv' := [(4, va_rf q2.1)]) [1] rfl ?_
    refine ym_lstore (pc := 85) (lv' := [(5, .long ((((((((((a1 * 31) + (Int32.toInt64 v21)) * 31) + (Int32.toInt64 q36.1)) * 31) + (Int32.toInt64 q51.1)) * 31) + q66.1) * 31) + (Int32.toInt64 q80.1))), (4, va_rf q2.1)]) dX7_digestLot_85 (by decide) ⟨ym_c1 q2.1, trivial⟩ rfl ?_
    refine ym_lload (pc := 87) 0 dX7_digestLot_87 rfl ?_
    refine ym_ldc2 (pc := 89) dX7_digestLot_89 wd_831 ?_
    refine ym_lmul (pc := 92) dX7_digestLot_92 ?_
    refine ym_aload (pc := 93) 1 dX7_digestLot_93 rfl ?_
    obtain ⟨v95, e95, hf⟩ := Option.bind_eq_some_iff.mp hf
    refine ym_getN (pc := 95) dX7_digestLot_95 rfl (by decide) iX4 (k := 5) (by decide) wd_353 (ym_gR_v e95) ?_
    obtain ⟨o98, f98, hf⟩ := Option.bind_eq_some_iff.mp hf
    obtain ⟨q98, e98, hf⟩ := Option.bind_eq_some_iff.mp hf
    refine ym_callV (pc := 98) (G2 := g_X5_rows) (dep2 := 2) (As := []) (st := [.long (((((((((((a1 * 31) + (Int32.toInt64 v21)) * 31) + (Int32.toInt64 q36.1)) * 31) + (Int32.toInt64 q51.1)) * 31) + q66.1) * 31) + (Int32.toInt64 q80.1)) * 31)]) (stk2 := [.int q98.1, .long (((((((((((a1 * 31) + (Int32.toInt64 v21)) * 31) + (Int32.toInt64 q36.1)) * 31) + (Int32.toInt64 q51.1)) * 31) + q66.1) * 31) + (Int32.toInt64 q80.1)) * 31)]) (r2 := (some (.int q98.1))) (h1 := q98.2) dX7_digestLot_98 (ok_X5_rows e98) (sc_X7_digestLot_X5_rows) wd_403 wd_395 wd_396 (ci := 5) (q0 := (RX5, TX5, 2)) rfl (by decide) rfl f98 rfl rfl (ym_st4 (Nat.le_of_ble_eq_true rfl)) rfl ?_
    refine ym_i2l (pc := 101) dX7_digestLot_101 ?_
    refine ym_ladd (pc := 102) dX7_digestLot_102 ?_
    refine ym_lstore (pc := 103) (lv' := [(5, .long ((((((((((((a1 * 31) + (Int32.toInt64 v21)) * 31) + (Int32.toInt64 q36.1)) * 31) + (Int32.toInt64 q51.1)) * 31) + q66.1) * 31) + (Int32.toInt64 q80.1)) * 31) + (Int32.toInt64 q98.1))), (4, va_rf q2.1)]) dX7_digestLot_103 (by decide) ⟨trivial, ym_c1 q2.1, trivial⟩ rfl ?_
    refine ym_lload (pc := 105) 0 dX7_digestLot_105 rfl ?_
    refine ym_ldc2 (pc := 107) dX7_digestLot_107 wd_831 ?_
    refine ym_lmul (pc := 110) dX7_digestLot_110 ?_
    refine ym_aload (pc := 111) 1 dX7_digestLot_111 rfl ?_
    obtain ⟨v113, e113, hf⟩ := Option.bind_eq_some_iff.mp hf
    refine ym_getN (pc := 113) dX7_digestLot_113 rfl (by decide) iX4 (k := 4) (by decide) wd_351 (ym_gR_v e113) ?_
    obtain ⟨o116, f116, hf⟩ := Option.bind_eq_some_iff.mp hf
    obtain ⟨q116, e116, hf⟩ := Option.bind_eq_some_iff.mp hf
    refine ym_callV (pc := 116) (G2 := g_X5_rows) (dep2 := 2) (As := []) (st := [.long (((((((((((((a1 * 31) + (Int32.toInt64 v21)) * 31) + (Int32.toInt64 q36.1)) * 31) + (Int32.toInt64 q51.1)) * 31) + q66.1) * 31) + (Int32.toInt64 q80.1)) * 31) + (Int32.toInt64 q98.1)) * 31)]) (stk2 := [.int q116.1, .long (((((((((((((a1 * 31) + (Int32.toInt64 v21)) * 31) + (Int32.toInt64 q36.1)) * 31) + (Int32.toInt64 q51.1)) * 31) + q66.1) * 31) + (Int32.toInt64 q80.1)) * 31) + (Int32.toInt64 q98.1)) * 31)]) (r2 := (some (.int q116.1))) (h1 := q116.2) dX7_digestLot_116 (ok_X5_rows e116) (sc_X7_digestLot_X5_rows) wd_403 wd_395 wd_396 (ci := 5) (q0 := (RX5, TX5, 2)) rfl (by decide) rfl f116 rfl rfl (ym_st4 (Nat.le_of_ble_eq_true rfl)) rfl ?_
    refine ym_i2l (pc := 119) dX7_digestLot_119 ?_
    refine ym_ladd (pc := 120) dX7_digestLot_120 ?_
    cases hf
    exact ym_lret (pc := 121) dX7_digestLot_121 rfl
