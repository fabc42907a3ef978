theorem dX7_open_0 : decode cX7_open 0 = .ok (.aload_n 0, 1) := by decide +kernel
theorem dX7_open_1 : decode cX7_open 1 = .ok (.invokevirtual 58, 3) := by decide +kernel
theorem dX7_open_4 : decode cX7_open 4 = .ok (.aload_n 0, 1) := by decide +kernel
theorem dX7_open_5 : decode cX7_open 5 = .ok (.iload_n 1, 1) := by decide +kernel
theorem dX7_open_6 : decode cX7_open 6 = .ok (.invokevirtual 89, 3) := by decide +kernel
theorem dX7_open_9 : decode cX7_open 9 = .ok (.astore_n 2, 1) := by decide +kernel
theorem dX7_open_10 : decode cX7_open 10 = .ok (.aload_n 2, 1) := by decide +kernel
theorem dX7_open_11 : decode cX7_open 11 = .ok (.ifnonnull 12, 3) := by decide +kernel
theorem dX7_open_14 : decode cX7_open 14 = .ok (.aload_n 0, 1) := by decide +kernel
theorem dX7_open_15 : decode cX7_open 15 = .ok (.iload_n 1, 1) := by decide +kernel
theorem dX7_open_16 : decode cX7_open 16 = .ok (.invokestatic 93, 3) := by decide +kernel
theorem dX7_open_19 : decode cX7_open 19 = .ok (.invokevirtual 61, 3) := by decide +kernel
theorem dX7_open_22 : decode cX7_open 22 = .ok (.lreturn, 1) := by decide +kernel
theorem dX7_open_23 : decode cX7_open 23 = .ok (.aload_n 2, 1) := by decide +kernel
theorem dX7_open_24 : decode cX7_open 24 = .ok (.getfield 137, 3) := by decide +kernel
theorem dX7_open_27 : decode cX7_open 27 = .ok (.iconst 4, 1) := by decide +kernel
theorem dX7_open_28 : decode cX7_open 28 = .ok (.if_icmp .eq 9, 3) := by decide +kernel
theorem dX7_open_31 : decode cX7_open 31 = .ok (.aload_n 0, 1) := by decide +kernel
theorem dX7_open_32 : decode cX7_open 32 = .ok (.iconst 4, 1) := by decide +kernel
theorem dX7_open_33 : decode cX7_open 33 = .ok (.invokevirtual 61, 3) := by decide +kernel
theorem dX7_open_36 : decode cX7_open 36 = .ok (.lreturn, 1) := by decide +kernel
theorem dX7_open_37 : decode cX7_open 37 = .ok (.aload_n 2, 1) := by decide +kernel
theorem dX7_open_38 : decode cX7_open 38 = .ok (.invokevirtual 156, 3) := by decide +kernel
theorem dX7_open_41 : decode cX7_open 41 = .ok (.ifCond .ne 12, 3) := by decide +kernel
theorem dX7_open_44 : decode cX7_open 44 = .ok (.aload_n 0, 1) := by decide +kernel
theorem dX7_open_45 : decode cX7_open 45 = .ok (.aload_n 2, 1) := by decide +kernel
theorem dX7_open_46 : decode cX7_open 46 = .ok (.invokevirtual 159, 3) := by decide +kernel
theorem dX7_open_49 : decode cX7_open 49 = .ok (.invokevirtual 61, 3) := by decide +kernel
theorem dX7_open_52 : decode cX7_open 52 = .ok (.lreturn, 1) := by decide +kernel
theorem dX7_open_53 : decode cX7_open 53 = .ok (.aload_n 2, 1) := by decide +kernel
theorem dX7_open_54 : decode cX7_open 54 = .ok (.invokevirtual 162, 3) := by decide +kernel
theorem dX7_open_57 : decode cX7_open 57 = .ok (.ifCond .eq 10, 3) := by decide +kernel
theorem dX7_open_60 : decode cX7_open 60 = .ok (.aload_n 0, 1) := by decide +kernel
theorem dX7_open_61 : decode cX7_open 61 = .ok (.bipush 8, 2) := by decide +kernel
theorem dX7_open_63 : decode cX7_open 63 = .ok (.invokevirtual 61, 3) := by decide +kernel
theorem dX7_open_66 : decode cX7_open 66 = .ok (.lreturn, 1) := by decide +kernel
theorem dX7_open_67 : decode cX7_open 67 = .ok (.aload_n 2, 1) := by decide +kernel
theorem dX7_open_68 : decode cX7_open 68 = .ok (.getfield 149, 3) := by decide +kernel
theorem dX7_open_71 : decode cX7_open 71 = .ok (.invokevirtual 116, 3) := by decide +kernel
theorem dX7_open_74 : decode cX7_open 74 = .ok (.ifCond .ne 10, 3) := by decide +kernel
theorem dX7_open_77 : decode cX7_open 77 = .ok (.aload_n 0, 1) := by decide +kernel
theorem dX7_open_78 : decode cX7_open 78 = .ok (.bipush 14, 2) := by decide +kernel
theorem dX7_open_80 : decode cX7_open 80 = .ok (.invokevirtual 61, 3) := by decide +kernel
theorem dX7_open_83 : decode cX7_open 83 = .ok (.lreturn, 1) := by decide +kernel
theorem dX7_open_84 : decode cX7_open 84 = .ok (.aload_n 2, 1) := by decide +kernel
theorem dX7_open_85 : decode cX7_open 85 = .ok (.invokevirtual 195, 3) := by decide +kernel
theorem dX7_open_88 : decode cX7_open 88 = .ok (.aload_n 2, 1) := by decide +kernel
theorem dX7_open_89 : decode cX7_open 89 = .ok (.invokevirtual 198, 3) := by decide +kernel
theorem dX7_open_92 : decode cX7_open 92 = .ok (.lreturn, 1) := by decide +kernel
theorem sc_X7_open_X7_startAct : ym_site g_X7_open g_X7_startAct 6 2 0 := ⟨by decide, by decide, wd_224, wd_76, by decide +kernel⟩
theorem sc_X7_open_X7_lotAt : ym_site g_X7_open g_X7_lotAt 6 3 1 := ⟨by decide, by decide, wd_374, wd_76, by decide +kernel⟩
theorem sc_X7_open_X7_whyNoLot : ym_site g_X7_open g_X7_whyNoLot 6 1 1 := ⟨by decide, by decide, wd_377, wd_76, by decide +kernel⟩
theorem sc_X7_open_X7_refuse : ym_site g_X7_open g_X7_refuse 6 4 1 := ⟨by decide, by decide, wd_232, wd_76, by decide +kernel⟩
theorem sc_X7_open_X4_isOpen : ym_site g_X7_open g_X4_isOpen 6 3 0 := ⟨by decide, by decide, wd_538, wd_87, by decide +kernel⟩
theorem sc_X7_open_X4_whyNotOpen : ym_site g_X7_open g_X4_whyNotOpen 6 4 0 := ⟨by decide, by decide, wd_543, wd_87, by decide +kernel⟩
theorem sc_X7_open_X4_wasOpened : ym_site g_X7_open g_X4_wasOpened 6 2 0 := ⟨by decide, by decide, wd_516, wd_87, by decide +kernel⟩
theorem sc_X7_open_X5_rows : ym_site g_X7_open g_X5_rows 6 2 0 := ⟨by decide, by decide, wd_397, wd_81, by decide +kernel⟩
theorem sc_X7_open_X4_tellWinner : ym_site g_X7_open g_X4_tellWinner 6 5 0 := ⟨by decide, by decide, wd_614, wd_87, by decide +kernel⟩
theorem sc_X7_open_X4_standingSum : ym_site g_X7_open g_X4_standingSum 6 3 0 := ⟨by decide, by decide, wd_520, wd_87, by decide +kernel⟩
def fn_X7_open (N : Nat) (a0 : Option Nat) (a1 : Int32) (h : ym_H) : Option (Int64 × ym_H) :=
  Option.bind (ym_ob h a0 7) fun o1 =>
  Option.bind (fn_X7_startAct N a0 h) fun q1 =>
  Option.bind (ym_ob q1.2 a0 7) fun o6 =>
  Option.bind (fn_X7_lotAt N a0 a1 q1.2) fun q6 =>
  if q6.1 = none then
    Option.bind (fn_X7_whyNoLot N a1 q6.2) fun q16 =>
    Option.bind (ym_ob q16.2 a0 7) fun o19 =>
    Option.bind (fn_X7_refuse N a0 q16.1 q16.2) fun q19 =>
    some (q19.1, q19.2)
  else
    Option.bind (ym_gI q6.2 q6.1 4 0) fun v24 =>
    if v24 = 4 then
      Option.bind (ym_ob q6.2 q6.1 4) fun o38 =>
      Option.bind (fn_X4_isOpen N q6.1 q6.2) fun q38 =>
      if q38.1 = 0 then
        Option.bind (ym_ob q38.2 q6.1 4) fun o46 =>
        Option.bind (fn_X4_whyNotOpen N q6.1 q38.2) fun q46 =>
        Option.bind (ym_ob q46.2 a0 7) fun o49 =>
        Option.bind (fn_X7_refuse N a0 q46.1 q46.2) fun q49 =>
        some (q49.1, q49.2)
      else
        Option.bind (ym_ob q38.2 q6.1 4) fun o54 =>
        Option.bind (fn_X4_wasOpened N q6.1 q38.2) fun q54 =>
        if q54.1 = 0 then
          Option.bind (ym_gR q54.2 q6.1 4 3) fun v68 =>
          Option.bind (ym_ob q54.2 v68 5) fun o71 =>
          Option.bind (fn_X5_rows N v68 q54.2) fun q71 =>
          if q71.1 = 0 then
            Option.bind (ym_ob q71.2 a0 7) fun o80 =>
            Option.bind (fn_X7_refuse N a0 14 q71.2) fun q80 =>
            some (q80.1, q80.2)
          else
            Option.bind (ym_ob q71.2 q6.1 4) fun o85 =>
            Option.bind (fn_X4_tellWinner N q6.1 q71.2) fun q85 =>
            Option.bind (ym_ob q85.2 q6.1 4) fun o89 =>
            Option.bind (fn_X4_standingSum N q6.1 q85.2) fun q89 =>
            some (q89.1, q89.2)
        else
          Option.bind (ym_ob q54.2 a0 7) fun o63 =>
          Option.bind (fn_X7_refuse N a0 8 q54.2) fun q63 =>
          some (q63.1, q63.2)
    else
      Option.bind (ym_ob q6.2 a0 7) fun o33 =>
      Option.bind (fn_X7_refuse N a0 4 q6.2) fun q33 =>
      some (q33.1, q33.2)
set_option maxRecDepth 20000 in
set_option maxHeartbeats 4000000 in
theorem ok_X7_open {D : ym_D} {b0 : Nat} {N : Nat} {a0 : Option Nat} {a1 : Int32} {h h' : ym_H} {r : Int64} (hf : fn_X7_open N a0 a1 h = some (r, h')) : ym_M D b0 g_X7_open 6 [va_rf a0, .int a1] h (some (.long r)) h' := by
  unfold fn_X7_open at hf
  refine ym_meth (lv := [(0, va_rf a0), (1, .int a1)]) (by decide) (by simp [lg_sl, ym_c1, ym_cI, ym_cL, g_X7_open]) (by simp [lv_args, ym_c1, ym_cI, ym_cL]) ?_
  refine ym_aload_n (pc := 0) 0 dX7_open_0 rfl rfl ?_
  obtain ⟨o1, f1, hf⟩ := Option.bind_eq_some_iff.mp hf
  obtain ⟨q1, e1, hf⟩ := Option.bind_eq_some_iff.mp hf
  refine ym_callV (pc := 1) (G2 := g_X7_startAct) (dep2 := 2) (As := []) (st := []) (stk2 := []) (r2 := none) (h1 := q1.2) dX7_open_1 (ok_X7_startAct e1) (sc_X7_open_X7_startAct) wd_221 wd_223 wd_0 (ci := 7) (q0 := (RX7, TX7, 10)) rfl (by decide) rfl f1 rfl rfl (ym_st4 (Nat.le_of_ble_eq_true rfl)) rfl ?_
  refine ym_aload_n (pc := 4) 0 dX7_open_4 rfl rfl ?_
  refine ym_iload_n (pc := 5) 1 dX7_open_5 rfl rfl ?_
  obtain ⟨o6, f6, hf⟩ := Option.bind_eq_some_iff.mp hf
  obtain ⟨q6, e6, hf⟩ := Option.bind_eq_some_iff.mp hf
  refine ym_callV (pc := 6) (G2 := g_X7_lotAt) (dep2 := 3) (As := [.int a1]) (st := []) (stk2 := [va_rf q6.1]) (r2 := (some (va_rf q6.1))) (h1 := q6.2) dX7_open_6 (ok_X7_lotAt e6) (sc_X7_open_X7_lotAt) wd_371 wd_373 wd_5 (ci := 7) (q0 := (RX7, TX7, 10)) rfl (by decide) rfl f6 rfl rfl (ym_st4 (Nat.le_of_ble_eq_true rfl)) rfl ?_
  refine ym_astore_n (pc := 9) (lv' := [(2, va_rf q6.1), (0, va_rf a0), (1, .int a1)]) dX7_open_9 rfl (by decide) ⟨trivial, rfl, trivial⟩ rfl ?_
  refine ym_aload_n (pc := 10) 0 dX7_open_10 rfl rfl ?_
  by_cases c11 : q6.1 = none
  · rw [if_pos c11] at hf
    refine ym_ifnonnull_y (pc := 11) (tgt := 23) dX7_open_11 (by decide) c11 ?_
    refine ym_aload_n (pc := 14) 1 dX7_open_14 rfl rfl ?_
    refine ym_iload_n (pc := 15) 2 dX7_open_15 rfl rfl ?_
    obtain ⟨q16, e16, hf⟩ := Option.bind_eq_some_iff.mp hf
    refine ym_callS (pc := 16) (G2 := g_X7_whyNoLot) (dep2 := 1) (As := [.int a1]) (st := [va_rf a0]) (stk2 := [.int q16.1, va_rf a0]) (r2 := (some (.int q16.1))) (h1 := q16.2) dX7_open_16 (ok_X7_whyNoLot e16) (sc_X7_open_X7_whyNoLot) wd_375 wd_376 rfl rfl (ym_st4 (Nat.le_of_ble_eq_true rfl)) rfl ?_
    obtain ⟨o19, f19, hf⟩ := Option.bind_eq_some_iff.mp hf
    obtain ⟨q19, e19, hf⟩ := Option.bind_eq_some_iff.mp hf
    refine ym_callV (pc := 19) (G2 := g_X7_refuse) (dep2 := 4) (As := [.int q16.1]) (st := []) (stk2 := [.long q19.1]) (r2 := (some (.long q19.1))) (h1 := q19.2) dX7_open_19 (ok_X7_refuse e19) (sc_X7_open_X7_refuse) wd_229 wd_231 wd_1 (ci := 7) (q0 := (RX7, TX7, 10)) rfl (by decide) rfl f19 rfl rfl (ym_st4 (Nat.le_of_ble_eq_true rfl)) rfl ?_
    cases hf
    exact ym_lret (pc := 22) dX7_open_22 rfl
  · rw [if_neg c11] at hf
    refine ym_ifnonnull_n (pc := 11) (tgt := 23) dX7_open_11 (by decide) c11 ?_
    refine ym_aload_n (pc := 23) 0 dX7_open_23 rfl rfl ?_
    obtain ⟨v24, e24, hf⟩ := Option.bind_eq_some_iff.mp hf
    refine ym_getN (pc := 24) dX7_open_24 rfl (by decide) iX4 (k := 0) (by decide) wd_340 (ym_gI_v e24) ?_
    refine ym_iconst (pc := 27) (v := 4) dX7_open_27 (by decide) ?_
    by_cases c28 : v24 = 4
    · rw [if_pos c28] at hf
      refine ym_icmp_eq_y (pc := 28) (tgt := 37) dX7_open_28 (by decide) c28 ?_
      refine ym_aload_n (pc := 37) 0 dX7_open_37 rfl rfl ?_
      obtain ⟨o38, f38, hf⟩ := Option.bind_eq_some_iff.mp hf
      obtain ⟨q38, e38, hf⟩ := Option.bind_eq_some_iff.mp hf
      refine ym_callV (pc := 38) (G2 := g_X4_isOpen) (dep2 := 3) (As := []) (st := []) (stk2 := [.int q38.1]) (r2 := (some (.int q38.1))) (h1 := q38.2) dX7_open_38 (ok_X4_isOpen e38) (sc_X7_open_X4_isOpen) wd_535 wd_536 wd_537 (ci := 4) (q0 := (RX4, TX4, 6)) rfl (by decide) rfl f38 rfl rfl (ym_st4 (Nat.le_of_ble_eq_true rfl)) rfl ?_
      by_cases c41 : q38.1 = 0
      · rw [if_pos c41] at hf
        refine ym_if_ne_y (pc := 41) (tgt := 53) dX7_open_41 (by decide) c41 ?_
        refine ym_aload_n (pc := 44) 1 dX7_open_44 rfl rfl ?_
        refine ym_aload_n (pc := 45) 0 dX7_open_45 rfl rfl ?_
        obtain ⟨o46, f46, hf⟩ := Option.bind_eq_some_iff.mp hf
        obtain ⟨q46, e46, hf⟩ := Option.bind_eq_some_iff.mp hf
        refine ym_callV (pc := 46) (G2 := g_X4_whyNotOpen) (dep2 := 4) (As := []) (st := [va_rf a0]) (stk2 := [.int q46.1, va_rf a0]) (r2 := (some (.int q46.1))) (h1 := q46.2) dX7_open_46 (ok_X4_whyNotOpen e46) (sc_X7_open_X4_whyNotOpen) wd_540 wd_541 wd_542 (ci := 4) (q0 := (RX4, TX4, 6)) rfl (by decide) rfl f46 rfl rfl (ym_st4 (Nat.le_of_ble_eq_true rfl)) rfl ?_
        obtain ⟨o49, f49, hf⟩ := Option.bind_eq_some_iff.mp hf
        obtain ⟨q49, e49, hf⟩ := Option.bind_eq_some_iff.mp hf
        refine ym_callV (pc := 49) (G2 := g_X7_refuse) (dep2 := 4) (As := [.int q46.1]) (st := []) (stk2 := [.long q49.1]) (r2 := (some (.long q49.1))) (h1 := q49.2) dX7_open_49 (ok_X7_refuse e49) (sc_X7_open_X7_refuse) wd_229 wd_231 wd_1 (ci := 7) (q0 := (RX7, TX7, 10)) rfl (by decide) rfl f49 rfl rfl (ym_st4 (Nat.le_of_ble_eq_true rfl)) rfl ?_
        cases hf
        exact ym_lret (pc := 52) dX7_open_52 rfl
      · rw [if_neg c41] at hf
        refine ym_if_ne_n (pc := 41) (tgt := 53) dX7_open_41 (by decide) c41 ?_
        refine ym_aload_n (pc := 53) 0 dX7_open_53 rfl rfl ?_
        obtain ⟨o54, f54, hf⟩ := Option.bind_eq_some_iff.mp hf
        obtain ⟨q54, e54, hf⟩ := Option.bind_eq_some_iff.mp hf
        refine ym_callV (pc := 54) (G2 := g_X4_wasOpened) (dep2 := 2) (As := []) (st := []) (stk2 := [.int q54.1]) (r2 := (some (.int q54.1))) (h1 := q54.2) dX7_open_54 (ok_X4_wasOpened e54) (sc_X7_open_X4_wasOpened) wd_548 wd_514 wd_515 (ci := 4) (q0 := (RX4, TX4, 6)) rfl (by decide) rfl f54 rfl rfl (ym_st4 (Nat.le_of_ble_eq_true rfl)) rfl ?_
        by_cases c57 : q54.1 = 0
        · rw [if_pos c57] at hf
          refine ym_if_eq_y (pc := 57) (tgt := 67) dX7_open_57 (by decide) c57 ?_
          refine ym_aload_n (pc := 67) 0 dX7_open_67 rfl rfl ?_
          obtain ⟨v68, e68, hf⟩ := Option.bind_eq_some_iff.mp hf
          refine ym_getN (pc := 68) dX7_open_68 rfl (by decide) iX4 (k := 3) (by decide) wd_348 (ym_gR_v e68) ?_
          obtain ⟨o71, f71, hf⟩ := Option.bind_eq_some_iff.mp hf
          obtain ⟨q71, e71, hf⟩ := Option.bind_eq_some_iff.mp hf
          refine ym_callV (pc := 71) (G2 := g_X5_rows) (dep2 := 2) (As := []) (st := []) (stk2 := [.int q71.1]) (r2 := (some (.int q71.1))) (h1 := q71.2) dX7_open_71 (ok_X5_rows e71) (sc_X7_open_X5_rows) wd_403 wd_395 wd_396 (ci := 5) (q0 := (RX5, TX5, 2)) rfl (by decide) rfl f71 rfl rfl (ym_st4 (Nat.le_of_ble_eq_true rfl)) rfl ?_
          by_cases c74 : q71.1 = 0
          · rw [if_pos c74] at hf
            refine ym_if_ne_y (pc := 74) (tgt := 84) dX7_open_74 (by decide) c74 ?_
            refine ym_aload_n (pc := 77) 1 dX7_open_77 rfl rfl ?_
            refine ym_bipush (pc := 78) (v := 14) dX7_open_78 (by decide) ?_
            obtain ⟨o80, f80, hf⟩ := Option.bind_eq_some_iff.mp hf
            obtain ⟨q80, e80, hf⟩ := Option.bind_eq_some_iff.mp hf
            refine ym_callV (pc := 80) (G2 := g_X7_refuse) (dep2 := 4) (As := [.int 14]) (st := []) (stk2 := [.long q80.1]) (r2 := (some (.long q80.1))) (h1 := q80.2) dX7_open_80 (ok_X7_refuse e80) (sc_X7_open_X7_refuse) wd_229 wd_231 wd_1 (ci := 7) (q0 := (RX7, TX7, 10)) rfl (by decide) rfl f80 rfl rfl (ym_st4 (Nat.le_of_ble_eq_true rfl)) rfl ?_
            cases hf
            exact ym_lret (pc := 83) dX7_open_83 rfl
          · rw [if_neg c74] at hf
            refine ym_if_ne_n (pc := 74) (tgt := 84) dX7_open_74 (by decide) c74 ?_
            refine ym_aload_n (pc := 84) 0 dX7_open_84 rfl rfl ?_
            obtain ⟨o85, f85, hf⟩ := Option.bind_eq_some_iff.mp hf
            obtain ⟨q85, e85, hf⟩ := Option.bind_eq_some_iff.mp hf
            refine ym_callV (pc := 85) (G2 := g_X4_tellWinner) (dep2 := 5) (As := []) (st := []) (stk2 := []) (r2 := none) (h1 := q85.2) dX7_open_85 (ok_X4_tellWinner e85) (sc_X7_open_X4_tellWinner) wd_611 wd_612 wd_613 (ci := 4) (q0 := (RX4, TX4, 6)) rfl (by decide) rfl f85 rfl rfl (ym_st4 (Nat.le_of_ble_eq_true rfl)) rfl ?_
            refine ym_aload_n (pc := 88) 0 dX7_open_88 rfl rfl ?_
            obtain ⟨o89, f89, hf⟩ := Option.bind_eq_some_iff.mp hf
            obtain ⟨q89, e89, hf⟩ := Option.bind_eq_some_iff.mp hf
            refine ym_callV (pc := 89) (G2 := g_X4_standingSum) (dep2 := 3) (As := []) (st := []) (stk2 := [.long q89.1]) (r2 := (some (.long q89.1))) (h1 := q89.2) dX7_open_89 (ok_X4_standingSum e89) (sc_X7_open_X4_standingSum) wd_517 wd_518 wd_519 (ci := 4) (q0 := (RX4, TX4, 6)) rfl (by decide) rfl f89 rfl rfl (ym_st4 (Nat.le_of_ble_eq_true rfl)) rfl ?_
            cases hf
            exact ym_lret (pc := 92) dX7_open_92 rfl
        · rw [if_neg c57] at hf
          refine ym_if_eq_n (pc := 57) (tgt := 67) dX7_open_57 (by decide) c57 ?_
          refine ym_aload_n (pc := 60) 1 dX7_open_60 rfl rfl ?_
          refine ym_bipush (pc := 61) (v := 8) dX7_open_61 (by decide) ?_
          obtain ⟨o63, f63, hf⟩ := Option.bind_eq_some_iff.mp hf
          obtain ⟨q63, e63, hf⟩ := Option.bind_eq_some_iff.mp hf
          refine ym_callV (pc := 63) (G2 := g_X7_refuse) (dep2 := 4) (As := [.int 8]) (st := []) (stk2 := [.long q63.1]) (r2 := (some (.long q63.1))) (h1 := q63.2) dX7_open_63 (ok_X7_refuse e63) (sc_X7_open_X7_refuse) wd_229 wd_231 wd_1 (ci := 7) (q0 := (RX7, TX7, 10)) rfl (by decide) rfl f63 rfl rfl (ym_st4 (Nat.le_of_ble_eq_true rfl)) rfl ?_
          cases hf
          exact ym_lret (pc := 66) dX7_open_66 rfl
    · rw [if_neg c28] at hf
      refine ym_icmp_eq_n (pc := 28) (tgt := 37) dX7_open_28 (by decide) c28 ?_
      refine ym_aload_n (pc := 31) 1 dX7_open_31 rfl rfl ?_
      refine ym_iconst (pc := 32) (v := 4) dX7_open_32 (by decide) ?_
      obtain ⟨o33, f33, hf⟩ := Option.bind_eq_some_iff.mp hf
      obtain ⟨q33, e33, hf⟩ := Option.bind_eq_some_iff.mp hf
      refine ym_callV (pc := 33) (G2 := g_X7_refuse) (dep2 := 4) (As := [.int 4]) (st := []) (stk2 := [.long q33.1]) (r2 := (some (.long q33.1))) (h1 := q33.2) dX7_open_33 (ok_X7_refuse e33) (sc_X7_open_X7_refuse) wd_229 wd_231 wd_1 (ci := 7) (q0 := (RX7, TX7, 10)) rfl (by decide) rfl f33 rfl rfl (ym_st4 (Nat.le_of_ble_eq_true rfl)) rfl ?_
      cases hf
      exact ym_lret (pc := 36) dX7_open_36 rfl
theorem dX7_part_0 : decode cX7_part 0 = .ok (.aload_n 1, 1) := by decide +kernel
theorem dX7_part_1 : decode cX7_part 1 = .ok (.ifnonnull 4, 3) := by decide +kernel
theorem dX7_part_4 : decode cX7_part 4 = .ok (.return_, 1) := by decide +kernel
theorem dX7_part_5 : decode cX7_part 5 = .ok (.aload_n 0, 1) := by decide +kernel
theorem dX7_part_6 : decode cX7_part 6 = .ok (.aload_n 1, 1) := by decide +kernel
theorem dX7_part_7 : decode cX7_part 7 = .ok (.getfield 129, 3) := by decide +kernel
theorem dX7_part_10 : decode cX7_part 10 = .ok (.bipush 12, 2) := by decide +kernel
theorem dX7_part_12 : decode cX7_part 12 = .ok (.invokevirtual 130, 3) := by decide +kernel
theorem dX7_part_15 : decode cX7_part 15 = .ok (.l2i, 1) := by decide +kernel
theorem dX7_part_16 : decode cX7_part 16 = .ok (.invokevirtual 89, 3) := by decide +kernel
theorem dX7_part_19 : decode cX7_part 19 = .ok (.astore_n 2, 1) := by decide +kernel
theorem dX7_part_20 : decode cX7_part 20 = .ok (.aload_n 0, 1) := by decide +kernel
theorem dX7_part_21 : decode cX7_part 21 = .ok (.aload_n 1, 1) := by decide +kernel
theorem dX7_part_22 : decode cX7_part 22 = .ok (.getfield 129, 3) := by decide +kernel
theorem dX7_part_25 : decode cX7_part 25 = .ok (.bipush 13, 2) := by decide +kernel
theorem dX7_part_27 : decode cX7_part 27 = .ok (.invokevirtual 130, 3) := by decide +kernel
theorem dX7_part_30 : decode cX7_part 30 = .ok (.l2i, 1) := by decide +kernel
theorem dX7_part_31 : decode cX7_part 31 = .ok (.invokevirtual 89, 3) := by decide +kernel
theorem dX7_part_34 : decode cX7_part 34 = .ok (.astore_n 3, 1) := by decide +kernel
theorem dX7_part_35 : decode cX7_part 35 = .ok (.aload_n 1, 1) := by decide +kernel
theorem dX7_part_36 : decode cX7_part 36 = .ok (.getfield 129, 3) := by decide +kernel
theorem dX7_part_39 : decode cX7_part 39 = .ok (.bipush 11, 2) := by decide +kernel
theorem dX7_part_41 : decode cX7_part 41 = .ok (.ldc2_w 362, 3) := by decide +kernel
theorem dX7_part_44 : decode cX7_part 44 = .ok (.invokevirtual 76, 3) := by decide +kernel
theorem dX7_part_47 : decode cX7_part 47 = .ok (.aload_n 2, 1) := by decide +kernel
theorem dX7_part_48 : decode cX7_part 48 = .ok (.ifnull 15, 3) := by decide +kernel
theorem dX7_part_51 : decode cX7_part 51 = .ok (.aload_n 2, 1) := by decide +kernel
theorem dX7_part_52 : decode cX7_part 52 = .ok (.getfield 129, 3) := by decide +kernel
theorem dX7_part_55 : decode cX7_part 55 = .ok (.bipush 11, 2) := by decide +kernel
theorem dX7_part_57 : decode cX7_part 57 = .ok (.ldc2_w 362, 3) := by decide +kernel
theorem dX7_part_60 : decode cX7_part 60 = .ok (.invokevirtual 76, 3) := by decide +kernel
theorem dX7_part_63 : decode cX7_part 63 = .ok (.aload_n 3, 1) := by decide +kernel
theorem dX7_part_64 : decode cX7_part 64 = .ok (.ifnull 15, 3) := by decide +kernel
theorem dX7_part_67 : decode cX7_part 67 = .ok (.aload_n 3, 1) := by decide +kernel
theorem dX7_part_68 : decode cX7_part 68 = .ok (.getfield 129, 3) := by decide +kernel
theorem dX7_part_71 : decode cX7_part 71 = .ok (.bipush 11, 2) := by decide +kernel
theorem dX7_part_73 : decode cX7_part 73 = .ok (.ldc2_w 362, 3) := by decide +kernel
theorem dX7_part_76 : decode cX7_part 76 = .ok (.invokevirtual 76, 3) := by decide +kernel
theorem dX7_part_79 : decode cX7_part 79 = .ok (.return_, 1) := by decide +kernel
theorem sc_X7_part_X2_get : ym_site g_X7_part g_X2_get 5 1 1 := ⟨by decide, by decide, wd_256, wd_78, by decide +kernel⟩
theorem sc_X7_part_X7_lotAt : ym_site g_X7_part g_X7_lotAt 5 3 1 := ⟨by decide, by decide, wd_374, wd_76, by decide +kernel⟩
theorem sc_X7_part_X2_put : ym_site g_X7_part g_X2_put 5 4 2 := ⟨by decide, by decide, wd_284, wd_78, by decide +kernel⟩
def bl_X7_part_63 (N : Nat) (w3 : Option Nat) (h : ym_H) : Option (Unit × ym_H) :=
  if w3 = none then
    some ((), h)
  else
    Option.bind (ym_gR h w3 4 2) fun v68 =>
    Option.bind (ym_ob h v68 2) fun o76 =>
    Option.bind (fn_X2_put N v68 11 (-1) h) fun q76 =>
    some ((), q76.2)
set_option maxRecDepth 20000 in
set_option maxHeartbeats 4000000 in
theorem ob_X7_part_63 {D : ym_D} {b0 : Nat} {N : Nat} {w3 : Option Nat} {h h' : ym_H} {r : Unit} (hf : bl_X7_part_63 N w3 h = some (r, h')) : ym_Y D b0 g_X7_part 5 63 [(3, va_rf w3)] [] h none h' := by
  unfold bl_X7_part_63 at hf
  refine ym_aload_n (pc := 63) 0 dX7_part_63 rfl rfl ?_
  by_cases c64 : w3 = none
  · rw [if_pos c64] at hf
    refine ym_ifnull_y (pc := 64) (tgt := 79) dX7_part_64 (by decide) c64 ?_
    cases hf
    exact ym_vret (pc := 79) dX7_part_79 rfl
  · rw [if_neg c64] at hf
    refine ym_ifnull_n (pc := 64) (tgt := 79) dX7_part_64 (by decide) c64 ?_
    refine ym_aload_n (pc := 67) 0 dX7_part_67 rfl rfl ?_
    obtain ⟨v68, e68, hf⟩ := Option.bind_eq_some_iff.mp hf
    refine ym_getN (pc := 68) dX7_part_68 rfl (by decide) iX4 (k := 2) (by decide) wd_346 (ym_gR_v e68) ?_
    refine ym_bipush (pc := 71) (v := 11) dX7_part_71 (by decide) ?_
    refine ym_ldc2 (pc := 73) dX7_part_73 wd_711 ?_
    obtain ⟨o76, f76, hf⟩ := Option.bind_eq_some_iff.mp hf
    obtain ⟨q76, e76, hf⟩ := Option.bind_eq_some_iff.mp hf
    refine ym_callV (pc := 76) (G2 := g_X2_put) (dep2 := 4) (As := [.int 11, .long (-1)]) (st := []) (stk2 := []) (r2 := none) (h1 := q76.2) dX7_part_76 (ok_X2_put e76) (sc_X7_part_X2_put) wd_281 wd_282 wd_283 (ci := 2) (q0 := (RX2, TX2, 2)) rfl (by decide) rfl f76 rfl rfl (ym_st4 (Nat.le_of_ble_eq_true rfl)) rfl ?_
    cases hf
    exact ym_vret (pc := 79) dX7_part_79 rfl
def fn_X7_part (N : Nat) (a0 : Option Nat) (a1 : Option Nat) (h : ym_H) : Option (Unit × ym_H) :=
  if a1 = none then
    some ((), h)
  else
    Option.bind (ym_gR h a1 4 2) fun v7 =>
    Option.bind (ym_ob h v7 2) fun o12 =>
    Option.bind (fn_X2_get N v7 12 h) fun q12 =>
    Option.bind (ym_ob q12.2 a0 7) fun o16 =>
    Option.bind (fn_X7_lotAt N a0 (Int64.toInt32 q12.1) q12.2) fun q16 =>
    Option.bind (ym_gR q16.2 a1 4 2) fun v22 =>
    Option.bind (ym_ob q16.2 v22 2) fun o27 =>
    Option.bind (fn_X2_get N v22 13 q16.2) fun q27 =>
    Option.bind (ym_ob q27.2 a0 7) fun o31 =>
    Option.bind (fn_X7_lotAt N a0 (Int64.toInt32 q27.1) q27.2) fun q31 =>
    Option.bind (ym_gR q31.2 a1 4 2) fun v36 =>
    Option.bind (ym_ob q31.2 v36 2) fun o44 =>
    Option.bind (fn_X2_put N v36 11 (-1) q31.2) fun q44 =>
    if q16.1 = none then
      bl_X7_part_63 N q31.1 q44.2
    else
      Option.bind (ym_gR q44.2 q16.1 4 2) fun v52 =>
      Option.bind (ym_ob q44.2 v52 2) fun o60 =>
      Option.bind (fn_X2_put N v52 11 (-1) q44.2) fun q60 =>
      bl_X7_part_63 N q31.1 q60.2
set_option maxRecDepth 20000 in
set_option maxHeartbeats 4000000 in
theorem ok_X7_part {D : ym_D} {b0 : Nat} {N : Nat} {a0 : Option Nat} {a1 : Option Nat} {h h' : ym_H} {r : Unit} (hf : fn_X7_part N a0 a1 h = some (r, h')) : ym_M D b0 g_X7_part 5 [va_rf a0, va_rf a1] h none h' := by
  unfold fn_X7_part at hf
  refine ym_meth (lv := [(0, va_rf a0), (1, va_rf a1)]) (by decide) (by simp [lg_sl, ym_c1, ym_cI, ym_cL, g_X7_part]) (by simp [lv_args, ym_c1, ym_cI, ym_cL]) ?_
  refine ym_aload_n (pc := 0) 1 dX7_part_0 rfl rfl ?_
  by_cases c1 : a1 = none
  · rw [if_pos c1] at hf
    refine ym_ifnonnull_y (pc := 1) (tgt := 5) dX7_part_1 (by decide) c1 ?_
    cases hf
    exact ym_vret (pc := 4) dX7_part_4 rfl
  · rw [if_neg c1] at hf
    refine ym_ifnonnull_n (pc := 1) (tgt := 5) dX7_part_1 (by decide) c1 ?_
    refine ym_aload_n (pc := 5) 0 dX7_part_5 rfl rfl ?_
    refine ym_aload_n (pc := 6) 1 dX7_part_6 rfl rfl ?_
    obtain ⟨v7, e7, hf⟩ := Option.bind_eq_some_iff.mp hf
    refine ym_getN (pc := 7) dX7_part_7 rfl (by decide) iX4 (k := 2) (by decide) wd_346 (ym_gR_v e7) ?_
    refine ym_bipush (pc := 10) (v := 12) dX7_part_10 (by decide) ?_
    obtain ⟨o12, f12, hf⟩ := Option.bind_eq_some_iff.mp hf
    obtain ⟨q12, e12, hf⟩ := Option.bind_eq_some_iff.mp hf
    refine ym_callV (pc := 12) (G2 := g_X2_get) (dep2 := 1) (As := [.int 12]) (st := [va_rf a0]) (stk2 := [.long q12.1, va_rf a0]) (r2 := (some (.long q12.1))) (h1 := q12.2) dX7_part_12 (ok_X2_get e12) (sc_X7_part_X2_get) wd_253 wd_254 wd_255 (ci := 2) (q0 := (RX2, TX2, 2)) rfl (by decide) rfl f12 rfl rfl (ym_st4 (Nat.le_of_ble_eq_true rfl)) rfl ?_
    refine ym_l2i (pc := 15) dX7_part_15 ?_
    obtain ⟨o16, f16, hf⟩ := Option.bind_eq_some_iff.mp hf
    obtain ⟨q16, e16, hf⟩ := Option.bind_eq_some_iff.mp hf
    refine ym_callV (pc := 16) (G2 := g_X7_lotAt) (dep2 := 3) (As := [.int (Int64.toInt32 q12.1)]) (st := []) (stk2 := [va_rf q16.1]) (r2 := (some (va_rf q16.1))) (h1 := q16.2) dX7_part_16 (ok_X7_lotAt e16) (sc_X7_part_X7_lotAt) wd_371 wd_373 wd_5 (ci := 7) (q0 := (RX7, TX7, 10)) rfl (by decide) rfl f16 rfl rfl (ym_st4 (Nat.le_of_ble_eq_true rfl)) rfl ?_
    refine ym_astore_n (pc := 19) (lv' := [(2, va_rf q16.1), (0, va_rf a0), (1, va_rf a1)]) dX7_part_19 rfl (by decide) ⟨trivial, ym_c1 a1, trivial⟩ rfl ?_
    refine ym_aload_n (pc := 20) 1 dX7_part_20 rfl rfl ?_
    refine ym_aload_n (pc := 21) 2 dX7_part_21 rfl rfl ?_
    obtain ⟨v22, e22, hf⟩ := Option.bind_eq_some_iff.mp hf
    refine ym_getN (pc := 22) dX7_part_22 rfl (by decide) iX4 (k := 2) (by decide) wd_346 (ym_gR_v e22) ?_
    refine ym_bipush (pc := 25) (v := 13) dX7_part_25 (by decide) ?_
    obtain ⟨o27, f27, hf⟩ := Option.bind_eq_some_iff.mp hf
    obtain ⟨q27, e27, hf⟩ := Option.bind_eq_some_iff.mp hf
    refine ym_callV (pc := 27) (G2 := g_X2_get) (dep2 := 1) (As := [.int 13]) (st := [va_rf a0]) (stk2 := [.long q27.1, va_rf a0]) (r2 := (some (.long q27.1))) (h1 := q27.2) dX7_part_27 (ok_X2_get e27) (sc_X7_part_X2_get) wd_253 wd_254 wd_255 (ci := 2) (q0 := (RX2, TX2, 2)) rfl (by decide) rfl f27 rfl rfl (ym_st4 (Nat.le_of_ble_eq_true rfl)) rfl ?_
    refine ym_l2i (pc := 30) dX7_part_30 ?_
    obtain ⟨o31, f31, hf⟩ := Option.bind_eq_some_iff.mp hf
    obtain ⟨q31, e31, hf⟩ := Option.bind_eq_some_iff.mp hf
    refine ym_callV (pc := 31) (G2 := g_X7_lotAt) (dep2 := 3) (As := [.int (Int64.toInt32 q27.1)]) (st := []) (stk2 := [va_rf q31.1]) (r2 := (some (va_rf q31.1))) (h1 := q31.2) dX7_part_31 (ok_X7_lotAt e31) (sc_X7_part_X7_lotAt) wd_371 wd_373 wd_5 (ci := 7) (q0 := (RX7, TX7, 10)) rfl (by decide) rfl f31 rfl rfl (ym_st4 (Nat.le_of_ble_eq_true rfl)) rfl ?_
    refine ym_sub (lv' := [(2, va_rf q16.1), (1, va_rf a1)]) [0, 2] rfl ?_
    refine ym_astore_n (pc := 34) (lv' := [(3, va_rf q31.1), (2, va_rf q16.1), (1, va_rf a1)]) dX7_part_34 rfl (by decide) ⟨ym_c1 q16.1, trivial, trivial⟩ rfl ?_
    refine ym_aload_n (pc := 35) 2 dX7_part_35 rfl rfl ?_
    obtain ⟨v36, e36, hf⟩ := Option.bind_eq_some_iff.mp hf
    refine ym_getN (pc := 36) dX7_part_36 rfl (by decide) iX4 (k := 2) (by decide) wd_346 (ym_gR_v e36) ?_
    refine ym_bipush (pc := 39) (v := 11) dX7_part_39 (by decide) ?_
    refine ym_ldc2 (pc := 41) dX7_part_41 wd_711 ?_
    obtain ⟨o44, f44, hf⟩ := Option.bind_eq_some_iff.mp hf
    obtain ⟨q44, e44, hf⟩ := Option.bind_eq_some_iff.mp hf
    refine ym_callV (pc := 44) (G2 := g_X2_put) (dep2 := 4) (As := [.int 11, .long (-1)]) (st := []) (stk2 := []) (r2 := none) (h1 := q44.2) dX7_part_44 (ok_X2_put e44) (sc_X7_part_X2_put) wd_281 wd_282 wd_283 (ci := 2) (q0 := (RX2, TX2, 2)) rfl (by decide) rfl f44 rfl rfl (ym_st4 (Nat.le_of_ble_eq_true rfl)) rfl ?_
    refine ym_aload_n (pc := 47) 1 dX7_part_47 rfl rfl ?_
    by_cases c48 : q16.1 = none
    · rw [if_pos c48] at hf
      refine ym_ifnull_y (pc := 48) (tgt := 63) dX7_part_48 (by decide) c48 ?_
      exact ym_sub [0] rfl (ob_X7_part_63 hf)
    · rw [if_neg c48] at hf
      refine ym_ifnull_n (pc := 48) (tgt := 63) dX7_part_48 (by decide) c48 ?_
      refine ym_aload_n (pc := 51) 1 dX7_part_51 rfl rfl ?_
      obtain ⟨v52, e52, hf⟩ := Option.bind_eq_some_iff.mp hf
      refine ym_getN (pc := 52) dX7_part_52 rfl (by decide) iX4 (k := 2) (by decide) wd_346 (ym_gR_v e52) ?_
      refine ym_bipush (pc := 55) (v := 11) dX7_part_55 (by decide) ?_
      refine ym_ldc2 (pc := 57) dX7_part_57 wd_711 ?_
      obtain ⟨o60, f60, hf⟩ := Option.bind_eq_some_iff.mp hf
      obtain ⟨q60, e60, hf⟩ := Option.bind_eq_some_iff.mp hf
      refine ym_callV (pc := 60) (G2 := g_X2_put) (dep2 := 4) (As := [.int 11, .long (-1)]) (st := []) (stk2 := []) (r2 := none) (h1 := q60.2) dX7_part_60 (ok_X2_put e60) (sc_X7_part_X2_put) wd_281 wd_282 wd_283 (ci := 2) (q0 := (RX2, TX2, 2)) rfl (by decide) rfl f60 rfl rfl (ym_st4 (Nat.le_of_ble_eq_true rfl)) rfl ?_
      exact ym_sub [0] rfl (ob_X7_part_63 hf)
theorem dX7_pay_0 : decode cX7_pay 0 = .ok (.aload_n 0, 1) := by decide +kernel
theorem dX7_pay_1 : decode cX7_pay 1 = .ok (.invokevirtual 58, 3) := by decide +kernel
theorem dX7_pay_4 : decode cX7_pay 4 = .ok (.lload_n 2, 1) := by decide +kernel
theorem dX7_pay_5 : decode cX7_pay 5 = .ok (.invokestatic 80, 3) := by decide +kernel
theorem dX7_pay_8 : decode cX7_pay 8 = .ok (.ifCond .ne 9, 3) := by decide +kernel
theorem dX7_pay_11 : decode cX7_pay 11 = .ok (.aload_n 0, 1) := by decide +kernel
theorem dX7_pay_12 : decode cX7_pay 12 = .ok (.iconst 1, 1) := by decide +kernel
theorem dX7_pay_13 : decode cX7_pay 13 = .ok (.invokevirtual 61, 3) := by decide +kernel
theorem dX7_pay_16 : decode cX7_pay 16 = .ok (.lreturn, 1) := by decide +kernel
theorem dX7_pay_17 : decode cX7_pay 17 = .ok (.aload_n 0, 1) := by decide +kernel
theorem dX7_pay_18 : decode cX7_pay 18 = .ok (.iload_n 1, 1) := by decide +kernel
theorem dX7_pay_19 : decode cX7_pay 19 = .ok (.invokevirtual 97, 3) := by decide +kernel
theorem dX7_pay_22 : decode cX7_pay 22 = .ok (.astore 4, 2) := by decide +kernel
theorem dX7_pay_24 : decode cX7_pay 24 = .ok (.aload 4, 2) := by decide +kernel
theorem dX7_pay_26 : decode cX7_pay 26 = .ok (.ifnonnull 12, 3) := by decide +kernel
theorem dX7_pay_29 : decode cX7_pay 29 = .ok (.aload_n 0, 1) := by decide +kernel
theorem dX7_pay_30 : decode cX7_pay 30 = .ok (.iload_n 1, 1) := by decide +kernel
theorem dX7_pay_31 : decode cX7_pay 31 = .ok (.invokestatic 101, 3) := by decide +kernel
theorem dX7_pay_34 : decode cX7_pay 34 = .ok (.invokevirtual 61, 3) := by decide +kernel
theorem dX7_pay_37 : decode cX7_pay 37 = .ok (.lreturn, 1) := by decide +kernel
theorem dX7_pay_38 : decode cX7_pay 38 = .ok (.aload 4, 2) := by decide +kernel
theorem dX7_pay_40 : decode cX7_pay 40 = .ok (.invokevirtual 247, 3) := by decide +kernel
theorem dX7_pay_43 : decode cX7_pay 43 = .ok (.lload_n 2, 1) := by decide +kernel
theorem dX7_pay_44 : decode cX7_pay 44 = .ok (.ladd, 1) := by decide +kernel
theorem dX7_pay_45 : decode cX7_pay 45 = .ok (.ldc2_w 250, 3) := by decide +kernel
theorem dX7_pay_48 : decode cX7_pay 48 = .ok (.lcmp, 1) := by decide +kernel
theorem dX7_pay_49 : decode cX7_pay 49 = .ok (.ifCond .le 10, 3) := by decide +kernel
theorem dX7_pay_52 : decode cX7_pay 52 = .ok (.aload_n 0, 1) := by decide +kernel
theorem dX7_pay_53 : decode cX7_pay 53 = .ok (.bipush 11, 2) := by decide +kernel
theorem dX7_pay_55 : decode cX7_pay 55 = .ok (.invokevirtual 61, 3) := by decide +kernel
theorem dX7_pay_58 : decode cX7_pay 58 = .ok (.lreturn, 1) := by decide +kernel
theorem dX7_pay_59 : decode cX7_pay 59 = .ok (.aload 4, 2) := by decide +kernel
theorem dX7_pay_61 : decode cX7_pay 61 = .ok (.lload_n 2, 1) := by decide +kernel
theorem dX7_pay_62 : decode cX7_pay 62 = .ok (.invokevirtual 252, 3) := by decide +kernel
theorem dX7_pay_65 : decode cX7_pay 65 = .ok (.aload_n 0, 1) := by decide +kernel
theorem dX7_pay_66 : decode cX7_pay 66 = .ok (.iconst 4, 1) := by decide +kernel
theorem dX7_pay_67 : decode cX7_pay 67 = .ok (.lload_n 2, 1) := by decide +kernel
theorem dX7_pay_68 : decode cX7_pay 68 = .ok (.lneg, 1) := by decide +kernel
theorem dX7_pay_69 : decode cX7_pay 69 = .ok (.invokevirtual 255, 3) := by decide +kernel
theorem dX7_pay_72 : decode cX7_pay 72 = .ok (.lload_n 2, 1) := by decide +kernel
theorem dX7_pay_73 : decode cX7_pay 73 = .ok (.lreturn, 1) := by decide +kernel
theorem sc_X7_pay_X7_startAct : ym_site g_X7_pay g_X7_startAct 6 2 0 := ⟨by decide, by decide, wd_224, wd_76, by decide +kernel⟩
theorem sc_X7_pay_X7_isSum : ym_site g_X7_pay g_X7_isSum 6 1 1 := ⟨by decide, by decide, wd_322, wd_76, by decide +kernel⟩
theorem sc_X7_pay_X7_refuse : ym_site g_X7_pay g_X7_refuse 6 4 1 := ⟨by decide, by decide, wd_232, wd_76, by decide +kernel⟩
theorem sc_X7_pay_X7_bidderWith : ym_site g_X7_pay g_X7_bidderWith 6 3 1 := ⟨by decide, by decide, wd_381, wd_76, by decide +kernel⟩
theorem sc_X7_pay_X7_whyNoBidder : ym_site g_X7_pay g_X7_whyNoBidder 6 1 1 := ⟨by decide, by decide, wd_384, wd_76, by decide +kernel⟩
theorem sc_X7_pay_X0_balanceNow : ym_site g_X7_pay g_X0_balanceNow 6 2 0 := ⟨by decide, by decide, wd_727, wd_84, by decide +kernel⟩
theorem sc_X7_pay_X0_add : ym_site g_X7_pay g_X0_add 6 5 1 := ⟨by decide, by decide, wd_675, wd_84, by decide +kernel⟩
theorem sc_X7_pay_X7_bookTo : ym_site g_X7_pay g_X7_bookTo 6 5 2 := ⟨by decide, by decide, wd_681, wd_76, by decide +kernel⟩
def fn_X7_pay (N : Nat) (a0 : Option Nat) (a1 : Int32) (a2 : Int64) (h : ym_H) : Option (Int64 × ym_H) :=
  Option.bind (ym_ob h a0 7) fun o1 =>
  Option.bind (fn_X7_startAct N a0 h) fun q1 =>
  Option.bind (fn_X7_isSum N a2 q1.2) fun q5 =>
  if q5.1 = 0 then
    Option.bind (ym_ob q5.2 a0 7) fun o13 =>
    Option.bind (fn_X7_refuse N a0 1 q5.2) fun q13 =>
    some (q13.1, q13.2)
  else
    Option.bind (ym_ob q5.2 a0 7) fun o19 =>
    Option.bind (fn_X7_bidderWith N a0 a1 q5.2) fun q19 =>
    if q19.1 = none then
      Option.bind (fn_X7_whyNoBidder N a1 q19.2) fun q31 =>
      Option.bind (ym_ob q31.2 a0 7) fun o34 =>
      Option.bind (fn_X7_refuse N a0 q31.1 q31.2) fun q34 =>
      some (q34.1, q34.2)
    else
      Option.bind (ym_ob q19.2 q19.1 0) fun o40 =>
      Option.bind (fn_X0_balanceNow N q19.1 q19.2) fun q40 =>
      if (q40.1 + a2) ≤ 1000000000000000 then
        Option.bind (ym_ob q40.2 q19.1 0) fun o62 =>
        Option.bind (fn_X0_add N q19.1 a2 q40.2) fun q62 =>
        Option.bind (ym_ob q62.2 a0 7) fun o69 =>
        Option.bind (fn_X7_bookTo N a0 4 (-a2) q62.2) fun q69 =>
        some (a2, q69.2)
      else
        Option.bind (ym_ob q40.2 a0 7) fun o55 =>
        Option.bind (fn_X7_refuse N a0 11 q40.2) fun q55 =>
        some (q55.1, q55.2)
set_option maxRecDepth 20000 in
set_option maxHeartbeats 4000000 in
theorem ok_X7_pay {D : ym_D} {b0 : Nat} {N : Nat} {a0 : Option Nat} {a1 : Int32} {a2 : Int64} {h h' : ym_H} {r : Int64} (hf : fn_X7_pay N a0 a1 a2 h = some (r, h')) : ym_M D b0 g_X7_pay 6 [va_rf a0, .int a1, .long a2] h (some (.long r)) h' := by
  unfold fn_X7_pay at hf
  refine ym_meth (lv := [(0, va_rf a0), (1, .int a1), (2, .long a2)]) (by decide) (by simp [lg_sl, ym_c1, ym_cI, ym_cL, g_X7_pay]) (by simp [lv_args, ym_c1, ym_cI, ym_cL]) ?_
  refine ym_aload_n (pc := 0) 0 dX7_pay_0 rfl rfl ?_
  obtain ⟨o1, f1, hf⟩ := Option.bind_eq_some_iff.mp hf
  obtain ⟨q1, e1, hf⟩ := Option.bind_eq_some_iff.mp hf
  refine ym_callV (pc := 1) (G2 := g_X7_startAct) (dep2 := 2) (As := []) (st := []) (stk2 := []) (r2 := none) (h1 := q1.2) dX7_pay_1 (ok_X7_startAct e1) (sc_X7_pay_X7_startAct) wd_221 wd_223 wd_0 (ci := 7) (q0 := (RX7, TX7, 10)) rfl (by decide) rfl f1 rfl rfl (ym_st4 (Nat.le_of_ble_eq_true rfl)) rfl ?_
  refine ym_lload_n (pc := 4) 2 dX7_pay_4 rfl rfl ?_
  obtain ⟨q5, e5, hf⟩ := Option.bind_eq_some_iff.mp hf
  refine ym_callS (pc := 5) (G2 := g_X7_isSum) (dep2 := 1) (As := [.long a2]) (st := []) (stk2 := [.int q5.1]) (r2 := (some (.int q5.1))) (h1 := q5.2) dX7_pay_5 (ok_X7_isSum e5) (sc_X7_pay_X7_isSum) wd_320 wd_321 rfl rfl (ym_st4 (Nat.le_of_ble_eq_true rfl)) rfl ?_
  by_cases c8 : q5.1 = 0
  · rw [if_pos c8] at hf
    refine ym_if_ne_y (pc := 8) (tgt := 17) dX7_pay_8 (by decide) c8 ?_
    refine ym_aload_n (pc := 11) 0 dX7_pay_11 rfl rfl ?_
    refine ym_iconst (pc := 12) (v := 1) dX7_pay_12 (by decide) ?_
    obtain ⟨o13, f13, hf⟩ := Option.bind_eq_some_iff.mp hf
    obtain ⟨q13, e13, hf⟩ := Option.bind_eq_some_iff.mp hf
    refine ym_callV (pc := 13) (G2 := g_X7_refuse) (dep2 := 4) (As := [.int 1]) (st := []) (stk2 := [.long q13.1]) (r2 := (some (.long q13.1))) (h1 := q13.2) dX7_pay_13 (ok_X7_refuse e13) (sc_X7_pay_X7_refuse) wd_229 wd_231 wd_1 (ci := 7) (q0 := (RX7, TX7, 10)) rfl (by decide) rfl f13 rfl rfl (ym_st4 (Nat.le_of_ble_eq_true rfl)) rfl ?_
    cases hf
    exact ym_lret (pc := 16) dX7_pay_16 rfl
  · rw [if_neg c8] at hf
    refine ym_if_ne_n (pc := 8) (tgt := 17) dX7_pay_8 (by decide) c8 ?_
    refine ym_aload_n (pc := 17) 0 dX7_pay_17 rfl rfl ?_
    refine ym_iload_n (pc := 18) 1 dX7_pay_18 rfl rfl ?_
    obtain ⟨o19, f19, hf⟩ := Option.bind_eq_some_iff.mp hf
    obtain ⟨q19, e19, hf⟩ := Option.bind_eq_some_iff.mp hf
    refine ym_callV (pc := 19) (G2 := g_X7_bidderWith) (dep2 := 3) (As := [.int a1]) (st := []) (stk2 := [va_rf q19.1]) (r2 := (some (va_rf q19.1))) (h1 := q19.2) dX7_pay_19 (ok_X7_bidderWith e19) (sc_X7_pay_X7_bidderWith) wd_378 wd_380 wd_6 (ci := 7) (q0 := (RX7, TX7, 10)) rfl (by decide) rfl f19 rfl rfl (ym_st4 (Nat.le_of_ble_eq_true rfl)) rfl ?_
    refine ym_astore (pc := 22) (lv' := [(4, va_rf q19.1), (0, va_rf a0), (1, .int a1), (2, .long a2)]) dX7_pay_22 (by decide) ⟨trivial, trivial, trivial, trivial⟩ rfl ?_
    refine ym_aload (pc := 24) 0 dX7_pay_24 rfl ?_
    by_cases c26 : q19.1 = none
    · rw [if_pos c26] at hf
      refine ym_ifnonnull_y (pc := 26) (tgt := 38) dX7_pay_26 (by decide) c26 ?_
      refine ym_aload_n (pc := 29) 1 dX7_pay_29 rfl rfl ?_
      refine ym_iload_n (pc := 30) 2 dX7_pay_30 rfl rfl ?_
      obtain ⟨q31, e31, hf⟩ := Option.bind_eq_some_iff.mp hf
      refine ym_callS (pc := 31) (G2 := g_X7_whyNoBidder) (dep2 := 1) (As := [.int a1]) (st := [va_rf a0]) (stk2 := [.int q31.1, va_rf a0]) (r2 := (some (.int q31.1))) (h1 := q31.2) dX7_pay_31 (ok_X7_whyNoBidder e31) (sc_X7_pay_X7_whyNoBidder) wd_382 wd_383 rfl rfl (ym_st4 (Nat.le_of_ble_eq_true rfl)) rfl ?_
      obtain ⟨o34, f34, hf⟩ := Option.bind_eq_some_iff.mp hf
      obtain ⟨q34, e34, hf⟩ := Option.bind_eq_some_iff.mp hf
      refine ym_callV (pc := 34) (G2 := g_X7_refuse) (dep2 := 4) (As := [.int q31.1]) (st := []) (stk2 := [.long q34.1]) (r2 := (some (.long q34.1))) (h1 := q34.2) dX7_pay_34 (ok_X7_refuse e34) (sc_X7_pay_X7_refuse) wd_229 wd_231 wd_1 (ci := 7) (q0 := (RX7, TX7, 10)) rfl (by decide) rfl f34 rfl rfl (ym_st4 (Nat.le_of_ble_eq_true rfl)) rfl ?_
      cases hf
      exact ym_lret (pc := 37) dX7_pay_37 rfl
    · rw [if_neg c26] at hf
      refine ym_ifnonnull_n (pc := 26) (tgt := 38) dX7_pay_26 (by decide) c26 ?_
      refine ym_aload (pc := 38) 0 dX7_pay_38 rfl ?_
      obtain ⟨o40, f40, hf⟩ := Option.bind_eq_some_iff.mp hf
      obtain ⟨q40, e40, hf⟩ := Option.bind_eq_some_iff.mp hf
      refine ym_callV (pc := 40) (G2 := g_X0_balanceNow) (dep2 := 2) (As := []) (st := []) (stk2 := [.long q40.1]) (r2 := (some (.long q40.1))) (h1 := q40.2) dX7_pay_40 (ok_X0_balanceNow e40) (sc_X7_pay_X0_balanceNow) wd_724 wd_725 wd_726 (ci := 0) (q0 := (RX0, TX0, 4)) rfl (by decide) rfl f40 rfl rfl (ym_st4 (Nat.le_of_ble_eq_true rfl)) rfl ?_
      refine ym_lload_n (pc := 43) 3 dX7_pay_43 rfl rfl ?_
      refine ym_ladd (pc := 44) dX7_pay_44 ?_
      refine ym_ldc2 (pc := 45) dX7_pay_45 wd_728 ?_
      by_cases c48 : (q40.1 + a2) ≤ 1000000000000000
      · rw [if_pos c48] at hf
        refine ym_lcmp_le_y (pc := 48) (tgt := 59) dX7_pay_48 dX7_pay_49 (by decide) c48 ?_
        refine ym_aload (pc := 59) 0 dX7_pay_59 rfl ?_
        refine ym_lload_n (pc := 61) 3 dX7_pay_61 rfl rfl ?_
        obtain ⟨o62, f62, hf⟩ := Option.bind_eq_some_iff.mp hf
        obtain ⟨q62, e62, hf⟩ := Option.bind_eq_some_iff.mp hf
        refine ym_callV (pc := 62) (G2 := g_X0_add) (dep2 := 5) (As := [.long a2]) (st := []) (stk2 := []) (r2 := none) (h1 := q62.2) dX7_pay_62 (ok_X0_add e62) (sc_X7_pay_X0_add) wd_672 wd_673 wd_674 (ci := 0) (q0 := (RX0, TX0, 4)) rfl (by decide) rfl f62 rfl rfl (ym_st4 (Nat.le_of_ble_eq_true rfl)) rfl ?_
        refine ym_aload_n (pc := 65) 1 dX7_pay_65 rfl rfl ?_
        refine ym_iconst (pc := 66) (v := 4) dX7_pay_66 (by decide) ?_
        refine ym_lload_n (pc := 67) 3 dX7_pay_67 rfl rfl ?_
        refine ym_lneg (pc := 68) dX7_pay_68 ?_
        obtain ⟨o69, f69, hf⟩ := Option.bind_eq_some_iff.mp hf
        obtain ⟨q69, e69, hf⟩ := Option.bind_eq_some_iff.mp hf
        refine ym_callV (pc := 69) (G2 := g_X7_bookTo) (dep2 := 5) (As := [.int 4, .long (-a2)]) (st := []) (stk2 := []) (r2 := none) (h1 := q69.2) dX7_pay_69 (ok_X7_bookTo e69) (sc_X7_pay_X7_bookTo) wd_678 wd_680 wd_16 (ci := 7) (q0 := (RX7, TX7, 10)) rfl (by decide) rfl f69 rfl rfl (ym_st4 (Nat.le_of_ble_eq_true rfl)) rfl ?_
        refine ym_lload_n (pc := 72) 3 dX7_pay_72 rfl rfl ?_
        cases hf
        exact ym_lret (pc := 73) dX7_pay_73 rfl
      · rw [if_neg c48] at hf
        refine ym_lcmp_le_n (pc := 48) (tgt := 59) dX7_pay_48 dX7_pay_49 (by decide) c48 ?_
        refine ym_aload_n (pc := 52) 1 dX7_pay_52 rfl rfl ?_
        refine ym_bipush (pc := 53) (v := 11) dX7_pay_53 (by decide) ?_
        obtain ⟨o55, f55, hf⟩ := Option.bind_eq_some_iff.mp hf
        obtain ⟨q55, e55, hf⟩ := Option.bind_eq_some_iff.mp hf
        refine ym_callV (pc := 55) (G2 := g_X7_refuse) (dep2 := 4) (As := [.int 11]) (st := []) (stk2 := [.long q55.1]) (r2 := (some (.long q55.1))) (h1 := q55.2) dX7_pay_55 (ok_X7_refuse e55) (sc_X7_pay_X7_refuse) wd_229 wd_231 wd_1 (ci := 7) (q0 := (RX7, TX7, 10)) rfl (by decide) rfl f55 rfl rfl (ym_st4 (Nat.le_of_ble_eq_true rfl)) rfl ?_
        cases hf
        exact ym_lret (pc := 58) dX7_pay_58 rfl
theorem dX7_payOut_0 : decode cX7_payOut 0 = .ok (.aload_n 0, 1) := by decide +kernel
theorem dX7_payOut_1 : decode cX7_payOut 1 = .ok (.invokevirtual 58, 3) := by decide +kernel
theorem dX7_payOut_4 : decode cX7_payOut 4 = .ok (.lload_n 2, 1) := by decide +kernel
theorem dX7_payOut_5 : decode cX7_payOut 5 = .ok (.invokestatic 80, 3) := by decide +kernel
theorem dX7_payOut_8 : decode cX7_payOut 8 = .ok (.ifCond .ne 9, 3) := by decide +kernel
theorem dX7_payOut_11 : decode cX7_payOut 11 = .ok (.aload_n 0, 1) := by decide +kernel
theorem dX7_payOut_12 : decode cX7_payOut 12 = .ok (.iconst 1, 1) := by decide +kernel
theorem dX7_payOut_13 : decode cX7_payOut 13 = .ok (.invokevirtual 61, 3) := by decide +kernel
theorem dX7_payOut_16 : decode cX7_payOut 16 = .ok (.lreturn, 1) := by decide +kernel
theorem dX7_payOut_17 : decode cX7_payOut 17 = .ok (.aload_n 0, 1) := by decide +kernel
theorem dX7_payOut_18 : decode cX7_payOut 18 = .ok (.iload_n 1, 1) := by decide +kernel
theorem dX7_payOut_19 : decode cX7_payOut 19 = .ok (.invokevirtual 97, 3) := by decide +kernel
theorem dX7_payOut_22 : decode cX7_payOut 22 = .ok (.astore 4, 2) := by decide +kernel
theorem dX7_payOut_24 : decode cX7_payOut 24 = .ok (.aload 4, 2) := by decide +kernel
theorem dX7_payOut_26 : decode cX7_payOut 26 = .ok (.ifnonnull 12, 3) := by decide +kernel
theorem dX7_payOut_29 : decode cX7_payOut 29 = .ok (.aload_n 0, 1) := by decide +kernel
theorem dX7_payOut_30 : decode cX7_payOut 30 = .ok (.iload_n 1, 1) := by decide +kernel
theorem dX7_payOut_31 : decode cX7_payOut 31 = .ok (.invokestatic 101, 3) := by decide +kernel
theorem dX7_payOut_34 : decode cX7_payOut 34 = .ok (.invokevirtual 61, 3) := by decide +kernel
theorem dX7_payOut_37 : decode cX7_payOut 37 = .ok (.lreturn, 1) := by decide +kernel
theorem dX7_payOut_38 : decode cX7_payOut 38 = .ok (.aload 4, 2) := by decide +kernel
theorem dX7_payOut_40 : decode cX7_payOut 40 = .ok (.invokevirtual 247, 3) := by decide +kernel
theorem dX7_payOut_43 : decode cX7_payOut 43 = .ok (.lload_n 2, 1) := by decide +kernel
theorem dX7_payOut_44 : decode cX7_payOut 44 = .ok (.lcmp, 1) := by decide +kernel
theorem dX7_payOut_45 : decode cX7_payOut 45 = .ok (.ifCond .ge 10, 3) := by decide +kernel
theorem dX7_payOut_48 : decode cX7_payOut 48 = .ok (.aload_n 0, 1) := by decide +kernel
theorem dX7_payOut_49 : decode cX7_payOut 49 = .ok (.bipush 10, 2) := by decide +kernel
theorem dX7_payOut_51 : decode cX7_payOut 51 = .ok (.invokevirtual 61, 3) := by decide +kernel
theorem dX7_payOut_54 : decode cX7_payOut 54 = .ok (.lreturn, 1) := by decide +kernel
theorem dX7_payOut_55 : decode cX7_payOut 55 = .ok (.aload 4, 2) := by decide +kernel
theorem dX7_payOut_57 : decode cX7_payOut 57 = .ok (.lload_n 2, 1) := by decide +kernel
theorem dX7_payOut_58 : decode cX7_payOut 58 = .ok (.lneg, 1) := by decide +kernel
theorem dX7_payOut_59 : decode cX7_payOut 59 = .ok (.invokevirtual 252, 3) := by decide +kernel
theorem dX7_payOut_62 : decode cX7_payOut 62 = .ok (.aload_n 0, 1) := by decide +kernel
theorem dX7_payOut_63 : decode cX7_payOut 63 = .ok (.iconst 4, 1) := by decide +kernel
theorem dX7_payOut_64 : decode cX7_payOut 64 = .ok (.lload_n 2, 1) := by decide +kernel
theorem dX7_payOut_65 : decode cX7_payOut 65 = .ok (.invokevirtual 255, 3) := by decide +kernel
theorem dX7_payOut_68 : decode cX7_payOut 68 = .ok (.lload_n 2, 1) := by decide +kernel
theorem dX7_payOut_69 : decode cX7_payOut 69 = .ok (.lreturn, 1) := by decide +kernel
theorem sc_X7_payOut_X7_startAct : ym_site g_X7_payOut g_X7_startAct 6 2 0 := ⟨by decide, by decide, wd_224, wd_76, by decide +kernel⟩
theorem sc_X7_payOut_X7_isSum : ym_site g_X7_payOut g_X7_isSum 6 1 1 := ⟨by decide, by decide, wd_322, wd_76, by decide +kernel⟩
theorem sc_X7_payOut_X7_refuse : ym_site g_X7_payOut g_X7_refuse 6 4 1 := ⟨by decide, by decide, wd_232, wd_76, by decide +kernel⟩
theorem sc_X7_payOut_X7_bidderWith : ym_site g_X7_payOut g_X7_bidderWith 6 3 1 := ⟨by decide, by decide, wd_381, wd_76, by decide +kernel⟩
theorem sc_X7_payOut_X7_whyNoBidder : ym_site g_X7_payOut g_X7_whyNoBidder 6 1 1 := ⟨by decide, by decide, wd_384, wd_76, by decide +kernel⟩
theorem sc_X7_payOut_X0_balanceNow : ym_site g_X7_payOut g_X0_balanceNow 6 2 0 := ⟨by decide, by decide, wd_727, wd_84, by decide +kernel⟩
theorem sc_X7_payOut_X0_add : ym_site g_X7_payOut g_X0_add 6 5 1 := ⟨by decide, by decide, wd_675, wd_84, by decide +kernel⟩
theorem sc_X7_payOut_X7_bookTo : ym_site g_X7_payOut g_X7_bookTo 6 5 2 := ⟨by decide, by decide, wd_681, wd_76, by decide +kernel⟩
def fn_X7_payOut (N : Nat) (a0 : Option Nat) (a1 : Int32) (a2 : Int64) (h : ym_H) : Option (Int64 × ym_H) :=
  Option.bind (ym_ob h a0 7) fun o1 =>
  Option.bind (fn_X7_startAct N a0 h) fun q1 =>
  Option.bind (fn_X7_isSum N a2 q1.2) fun q5 =>
  if q5.1 = 0 then
    Option.bind (ym_ob q5.2 a0 7) fun o13 =>
    Option.bind (fn_X7_refuse N a0 1 q5.2) fun q13 =>
    some (q13.1, q13.2)
  else
    Option.bind (ym_ob q5.2 a0 7) fun o19 =>
    Option.bind (fn_X7_bidderWith N a0 a1 q5.2) fun q19 =>
    if q19.1 = none then
      Option.bind (fn_X7_whyNoBidder N a1 q19.2) fun q31 =>
      Option.bind (ym_ob q31.2 a0 7) fun o34 =>
      Option.bind (fn_X7_refuse N a0 q31.1 q31.2) fun q34 =>
      some (q34.1, q34.2)
    else
      Option.bind (ym_ob q19.2 q19.1 0) fun o40 =>
      Option.bind (fn_X0_balanceNow N q19.1 q19.2) fun q40 =>
      if a2 ≤ q40.1 then
        Option.bind (ym_ob q40.2 q19.1 0) fun o59 =>
        Option.bind (fn_X0_add N q19.1 (-a2) q40.2) fun q59 =>
        Option.bind (ym_ob q59.2 a0 7) fun o65 =>
        Option.bind (fn_X7_bookTo N a0 4 a2 q59.2) fun q65 =>
        some (a2, q65.2)
      else
        Option.bind (ym_ob q40.2 a0 7) fun o51 =>
        Option.bind (fn_X7_refuse N a0 10 q40.2) fun q51 =>
        some (q51.1, q51.2)
set_option maxRecDepth 20000 in
set_option maxHeartbeats 4000000 in
theorem ok_X7_payOut {D : ym_D} {b0 : Nat} {N : Nat} {a0 : Option Nat} {a1 : Int32} {a2 : Int64} {h h' : ym_H} {r : Int64} (hf : fn_X7_payOut N a0 a1 a2 h = some (r, h')) : ym_M D b0 g_X7_payOut 6 [va_rf a0, .int a1, .long a2] h (some (.long r)) h' := by
  unfold fn_X7_payOut at hf
  refine ym_meth (lv := [(0, va_rf a0), (1, .int a1), (2, .long a2)]) (by decide) (by simp [lg_sl, ym_c1, ym_cI, ym_cL, g_X7_payOut]) (by simp [lv_args, ym_c1, ym_cI, ym_cL]) ?_
  refine ym_aload_n (pc := 0) 0 dX7_payOut_0 rfl rfl ?_
  obtain ⟨o1, f1, hf⟩ := Option.bind_eq_some_iff.mp hf
  obtain ⟨q1, e1, hf⟩ := Option.bind_eq_some_iff.mp hf
  refine ym_callV (pc := 1) (G2 := g_X7_startAct) (dep2 := 2) (As := []) (st := []) (stk2 := []) (r2 := none) (h1 := q1.2) dX7_payOut_1 (ok_X7_startAct e1) (sc_X7_payOut_X7_startAct) wd_221 wd_223 wd_0 (ci := 7) (q0 := (RX7, TX7, 10)) rfl (by decide) rfl f1 rfl rfl (ym_st4 (Nat.le_of_ble_eq_true rfl)) rfl ?_
  refine ym_lload_n (pc := 4) 2 dX7_payOut_4 rfl rfl ?_
  obtain ⟨q5, e5, hf⟩ := Option.bind_eq_some_iff.mp hf
  refine ym_callS (pc := 5) (G2 := g_X7_isSum) (dep2 := 1) (As := [.long a2]) (st := []) (stk2 := [.int q5.1]) (r2 := (some (.int q5.1))) (h1 := q5.2) dX7_payOut_5 (ok_X7_isSum e5) (sc_X7_payOut_X7_isSum) wd_320 wd_321 rfl rfl (ym_st4 (Nat.le_of_ble_eq_true rfl)) rfl ?_
  by_cases c8 : q5.1 = 0
  · rw [if_pos c8] at hf
    refine ym_if_ne_y (pc := 8) (tgt := 17) dX7_payOut_8 (by decide) c8 ?_
    refine ym_aload_n (pc := 11) 0 dX7_payOut_11 rfl rfl ?_
    refine ym_iconst (pc := 12) (v := 1) dX7_payOut_12 (by decide) ?_
    obtain ⟨o13, f13, hf⟩ := Option.bind_eq_some_iff.mp hf
    obtain ⟨q13, e13, hf⟩ := Option.bind_eq_some_iff.mp hf
    refine ym_callV (pc := 13) (G2 := g_X7_refuse) (dep2 := 4) (As := [.int 1]) (st := []) (stk2 := [.long q13.1]) (r2 := (some (.long q13.1))) (h1 := q13.2) dX7_payOut_13 (ok_X7_refuse e13) (sc_X7_payOut_X7_refuse) wd_229 wd_231 wd_1 (ci := 7) (q0 := (RX7, TX7, 10)) rfl (by decide) rfl f13 rfl rfl (ym_st4 (Nat.le_of_ble_eq_true rfl)) rfl ?_
    cases hf
    exact ym_lret (pc := 16) dX7_payOut_16 rfl
  · rw [if_neg c8] at hf
    refine ym_if_ne_n (pc := 8) (tgt := 17) dX7_payOut_8 (by decide) c8 ?_
    refine ym_aload_n (pc := 17) 0 dX7_payOut_17 rfl rfl ?_
    refine ym_iload_n (pc := 18) 1 dX7_payOut_18 rfl rfl ?_
    obtain ⟨o19, f19, hf⟩ := Option.bind_eq_some_iff.mp hf
    obtain ⟨q19, e19, hf⟩ := Option.bind_eq_some_iff.mp hf
    refine ym_callV (pc := 19) (G2 := g_X7_bidderWith) (dep2 := 3) (As := [.int a1]) (st := []) (stk2 := [va_rf q19.1]) (r2 := (some (va_rf q19.1))) (h1 := q19.2) dX7_payOut_19 (ok_X7_bidderWith e19) (sc_X7_payOut_X7_bidderWith) wd_378 wd_380 wd_6 (ci := 7) (q0 := (RX7, TX7, 10)) rfl (by decide) rfl f19 rfl rfl (ym_st4 (Nat.le_of_ble_eq_true rfl)) rfl ?_
    refine ym_astore (pc := 22) (lv' := [(4, va_rf q19.1), (0, va_rf a0), (1, .int a1), (2, .long a2)]) dX7_payOut_22 (by decide) ⟨trivial, trivial, trivial, trivial⟩ rfl ?_
    refine ym_aload (pc := 24) 0 dX7_payOut_24 rfl ?_
    by_cases c26 : q19.1 = none
    · rw [if_pos c26] at hf
      refine ym_ifnonnull_y (pc := 26) (tgt := 38) dX7_payOut_26 (by decide) c26 ?_
      refine ym_aload_n (pc := 29) 1 dX7_payOut_29 rfl rfl ?_
      refine ym_iload_n (pc := 30) 2 dX7_payOut_30 rfl rfl ?_
      obtain ⟨q31, e31, hf⟩ := Option.bind_eq_some_iff.mp hf
      refine ym_callS (pc := 31) (G2 := g_X7_whyNoBidder) (dep2 := 1) (As := [.int a1]) (st := [va_rf a0]) (stk2 := [.int q31.1, va_rf a0]) (r2 := (some (.int q31.1))) (h1 := q31.2) dX7_payOut_31 (ok_X7_whyNoBidder e31) (sc_X7_payOut_X7_whyNoBidder) wd_382 wd_383 rfl rfl (ym_st4 (Nat.le_of_ble_eq_true rfl)) rfl ?_
      obtain ⟨o34, f34, hf⟩ := Option.bind_eq_some_iff.mp hf
      obtain ⟨q34, e34, hf⟩ := Option.bind_eq_some_iff.mp hf
      refine ym_callV (pc := 34) (G2 := g_X7_refuse) (dep2 := 4) (As := [.int q31.1]) (st := []) (stk2 := [.long q34.1]) (r2 := (some (.long q34.1))) (h1 := q34.2) dX7_payOut_34 (ok_X7_refuse e34) (sc_X7_payOut_X7_refuse) wd_229 wd_231 wd_1 (ci := 7) (q0 := (RX7, TX7, 10)) rfl (by decide) rfl f34 rfl rfl (ym_st4 (Nat.le_of_ble_eq_true rfl)) rfl ?_
      cases hf
      exact ym_lret (pc := 37) dX7_payOut_37 rfl
    · rw [if_neg c26] at hf
      refine ym_ifnonnull_n (pc := 26) (tgt := 38) dX7_payOut_26 (by decide) c26 ?_
      refine ym_aload (pc := 38) 0 dX7_payOut_38 rfl ?_
      obtain ⟨o40, f40, hf⟩ := Option.bind_eq_some_iff.mp hf
      obtain ⟨q40, e40, hf⟩ := Option.bind_eq_some_iff.mp hf
      refine ym_callV (pc := 40) (G2 := g_X0_balanceNow) (dep2 := 2) (As := []) (st := []) (stk2 := [.long q40.1]) (r2 := (some (.long q40.1))) (h1 := q40.2) dX7_payOut_40 (ok_X0_balanceNow e40) (sc_X7_payOut_X0_balanceNow) wd_724 wd_725 wd_726 (ci := 0) (q0 := (RX0, TX0, 4)) rfl (by decide) rfl f40 rfl rfl (ym_st4 (Nat.le_of_ble_eq_true rfl)) rfl ?_
      refine ym_lload_n (pc := 43) 3 dX7_payOut_43 rfl rfl ?_
      by_cases c44 : a2 ≤ q40.1
      · rw [if_pos c44] at hf
        refine ym_lcmp_ge_y (pc := 44) (tgt := 55) dX7_payOut_44 dX7_payOut_45 (by decide) c44 ?_
        refine ym_aload (pc := 55) 0 dX7_payOut_55 rfl ?_
        refine ym_lload_n (pc := 57) 3 dX7_payOut_57 rfl rfl ?_
        refine ym_lneg (pc := 58) dX7_payOut_58 ?_
        obtain ⟨o59, f59, hf⟩ := Option.bind_eq_some_iff.mp hf
        obtain ⟨q59, e59, hf⟩ := Option.bind_eq_some_iff.mp hf
        refine ym_callV (pc := 59) (G2 := g_X0_add) (dep2 := 5) (As := [.long (-a2)]) (st := []) (stk2 := []) (r2 := none) (h1 := q59.2) dX7_payOut_59 (ok_X0_add e59) (sc_X7_payOut_X0_add) wd_672 wd_673 wd_674 (ci := 0) (q0 := (RX0, TX0, 4)) rfl (by decide) rfl f59 rfl rfl (ym_st4 (Nat.le_of_ble_eq_true rfl)) rfl ?_
        refine ym_aload_n (pc := 62) 1 dX7_payOut_62 rfl rfl ?_
        refine ym_iconst (pc := 63) (v := 4) dX7_payOut_63 (by decide) ?_
        refine ym_lload_n (pc := 64) 3 dX7_payOut_64 rfl rfl ?_
        obtain ⟨o65, f65, hf⟩ := Option.bind_eq_some_iff.mp hf
        obtain ⟨q65, e65, hf⟩ := Option.bind_eq_some_iff.mp hf
        refine ym_callV (pc := 65) (G2 := g_X7_bookTo) (dep2 := 5) (As := [.int 4, .long a2]) (st := []) (stk2 := []) (r2 := none) (h1 := q65.2) dX7_payOut_65 (ok_X7_bookTo e65) (sc_X7_payOut_X7_bookTo) wd_678 wd_680 wd_16 (ci := 7) (q0 := (RX7, TX7, 10)) rfl (by decide) rfl f65 rfl rfl (ym_st4 (Nat.le_of_ble_eq_true rfl)) rfl ?_
        refine ym_lload_n (pc := 68) 3 dX7_payOut_68 rfl rfl ?_
        cases hf
        exact ym_lret (pc := 69) dX7_payOut_69 rfl
      · rw [if_neg c44] at hf
        refine ym_lcmp_ge_n (pc := 44) (tgt := 55) dX7_payOut_44 dX7_payOut_45 (by decide) c44 ?_
        refine ym_aload_n (pc := 48) 1 dX7_payOut_48 rfl rfl ?_
        refine ym_bipush (pc := 49) (v := 10) dX7_payOut_49 (by decide) ?_
        obtain ⟨o51, f51, hf⟩ := Option.bind_eq_some_iff.mp hf
        obtain ⟨q51, e51, hf⟩ := Option.bind_eq_some_iff.mp hf
        refine ym_callV (pc := 51) (G2 := g_X7_refuse) (dep2 := 4) (As := [.int 10]) (st := []) (stk2 := [.long q51.1]) (r2 := (some (.long q51.1))) (h1 := q51.2) dX7_payOut_51 (ok_X7_refuse e51) (sc_X7_payOut_X7_refuse) wd_229 wd_231 wd_1 (ci := 7) (q0 := (RX7, TX7, 10)) rfl (by decide) rfl f51 rfl rfl (ym_st4 (Nat.le_of_ble_eq_true rfl)) rfl ?_
        cases hf
        exact ym_lret (pc := 54) dX7_payOut_54 rfl
theorem dX7_premium_0 : decode cX7_premium 0 = .ok (.aload_n 0, 1) := by decide +kernel
theorem dX7_premium_1 : decode cX7_premium 1 = .ok (.invokevirtual 58, 3) := by decide +kernel
theorem dX7_premium_4 : decode cX7_premium 4 = .ok (.lload_n 1, 1) := by decide +kernel
theorem dX7_premium_5 : decode cX7_premium 5 = .ok (.invokestatic 65, 3) := by decide +kernel
theorem dX7_premium_8 : decode cX7_premium 8 = .ok (.ifCond .eq 10, 3) := by decide +kernel
theorem dX7_premium_11 : decode cX7_premium 11 = .ok (.iload_n 3, 1) := by decide +kernel
theorem dX7_premium_12 : decode cX7_premium 12 = .ok (.invokestatic 125, 3) := by decide +kernel
theorem dX7_premium_15 : decode cX7_premium 15 = .ok (.ifCond .ne 9, 3) := by decide +kernel
theorem dX7_premium_18 : decode cX7_premium 18 = .ok (.aload_n 0, 1) := by decide +kernel
theorem dX7_premium_19 : decode cX7_premium 19 = .ok (.iconst 1, 1) := by decide +kernel
theorem dX7_premium_20 : decode cX7_premium 20 = .ok (.invokevirtual 61, 3) := by decide +kernel
theorem dX7_premium_23 : decode cX7_premium 23 = .ok (.lreturn, 1) := by decide +kernel
theorem dX7_premium_24 : decode cX7_premium 24 = .ok (.aload_n 0, 1) := by decide +kernel
theorem dX7_premium_25 : decode cX7_premium 25 = .ok (.aload_n 0, 1) := by decide +kernel
theorem dX7_premium_26 : decode cX7_premium 26 = .ok (.getfield 34, 3) := by decide +kernel
theorem dX7_premium_29 : decode cX7_premium 29 = .ok (.lload_n 1, 1) := by decide +kernel
theorem dX7_premium_30 : decode cX7_premium 30 = .ok (.iload_n 3, 1) := by decide +kernel
theorem dX7_premium_31 : decode cX7_premium 31 = .ok (.i2l, 1) := by decide +kernel
theorem dX7_premium_32 : decode cX7_premium 32 = .ok (.invokevirtual 133, 3) := by decide +kernel
theorem dX7_premium_35 : decode cX7_premium 35 = .ok (.lreturn, 1) := by decide +kernel
theorem sc_X7_premium_X7_startAct : ym_site g_X7_premium g_X7_startAct 8 2 0 := ⟨by decide, by decide, wd_224, wd_76, by decide +kernel⟩
theorem sc_X7_premium_X7_isMoney : ym_site g_X7_premium g_X7_isMoney 8 1 1 := ⟨by decide, by decide, wd_247, wd_76, by decide +kernel⟩
theorem sc_X7_premium_X7_refuse : ym_site g_X7_premium g_X7_refuse 8 4 1 := ⟨by decide, by decide, wd_232, wd_76, by decide +kernel⟩
def bl_X7_premium_18 (N : Nat) (w0 : Option Nat) (h : ym_H) : Option (Int64 × ym_H) :=
  Option.bind (ym_ob h w0 7) fun o20 =>
  Option.bind (fn_X7_refuse N w0 1 h) fun q20 =>
  some (q20.1, q20.2)
set_option maxRecDepth 20000 in
set_option maxHeartbeats 4000000 in
theorem ob_X7_premium_18 {D : ym_D} {b0 : Nat} {N : Nat} {w0 : Option Nat} {h h' : ym_H} {r : Int64} (hf : bl_X7_premium_18 N w0 h = some (r, h')) : ym_Y D b0 g_X7_premium 8 18 [(0, va_rf w0)] [] h (some (.long r)) h' := by
  unfold bl_X7_premium_18 at hf
  refine ym_aload_n (pc := 18) 0 dX7_premium_18 rfl rfl ?_
  refine ym_iconst (pc := 19) (v := 1) dX7_premium_19 (by decide) ?_
  obtain ⟨o20, f20, hf⟩ := Option.bind_eq_some_iff.mp hf
  obtain ⟨q20, e20, hf⟩ := Option.bind_eq_some_iff.mp hf
  refine ym_callV (pc := 20) (G2 := g_X7_refuse) (dep2 := 4) (As := [.int 1]) (st := []) (stk2 := [.long q20.1]) (r2 := (some (.long q20.1))) (h1 := q20.2) dX7_premium_20 (ok_X7_refuse e20) (sc_X7_premium_X7_refuse) wd_229 wd_231 wd_1 (ci := 7) (q0 := (RX7, TX7, 10)) rfl (by decide) rfl f20 rfl rfl (ym_st4 (Nat.le_of_ble_eq_true rfl)) rfl ?_
  cases hf
  exact ym_lret (pc := 23) dX7_premium_23 rfl
theorem sc_X7_premium_X7_isRate : ym_site g_X7_premium g_X7_isRate 8 1 1 := ⟨by decide, by decide, wd_419, wd_76, by decide +kernel⟩
theorem sc_X7_premium_X7_addTableRow : ym_site g_X7_premium g_X7_addTableRow 8 7 3 := ⟨by decide, by decide, wd_427, wd_76, by decide +kernel⟩
def fn_X7_premium (N : Nat) (a0 : Option Nat) (a1 : Int64) (a3 : Int32) (h : ym_H) : Option (Int64 × ym_H) :=
  Option.bind (ym_ob h a0 7) fun o1 =>
  Option.bind (fn_X7_startAct N a0 h) fun q1 =>
  Option.bind (fn_X7_isMoney N a1 q1.2) fun q5 =>
  if q5.1 = 0 then
    bl_X7_premium_18 N a0 q5.2
  else
    Option.bind (fn_X7_isRate N a3 q5.2) fun q12 =>
    if q12.1 = 0 then
      bl_X7_premium_18 N a0 q12.2
    else
      Option.bind (ym_gR q12.2 a0 7 3) fun v26 =>
      Option.bind (ym_ob q12.2 a0 7) fun o32 =>
      Option.bind (fn_X7_addTableRow N a0 v26 a1 (Int32.toInt64 a3) q12.2) fun q32 =>
      some (q32.1, q32.2)
set_option maxRecDepth 20000 in
set_option maxHeartbeats 4000000 in
theorem ok_X7_premium {D : ym_D} {b0 : Nat} {N : Nat} {a0 : Option Nat} {a1 : Int64} {a3 : Int32} {h h' : ym_H} {r : Int64} (hf : fn_X7_premium N a0 a1 a3 h = some (r, h')) : ym_M D b0 g_X7_premium 8 [va_rf a0, .long a1, .int a3] h (some (.long r)) h' := by
  unfold fn_X7_premium at hf
  refine ym_meth (lv := [(0, va_rf a0), (1, .long a1), (3, .int a3)]) (by decide) (by simp [lg_sl, ym_c1, ym_cI, ym_cL, g_X7_premium]) (by simp [lv_args, ym_c1, ym_cI, ym_cL]) ?_
  refine ym_aload_n (pc := 0) 0 dX7_premium_0 rfl rfl ?_
  obtain ⟨o1, f1, hf⟩ := Option.bind_eq_some_iff.mp hf
  obtain ⟨q1, e1, hf⟩ := Option.bind_eq_some_iff.mp hf
  refine ym_callV (pc := 1) (G2 := g_X7_startAct) (dep2 := 2) (As := []) (st := []) (stk2 := []) (r2 := none) (h1 := q1.2) dX7_premium_1 (ok_X7_startAct e1) (sc_X7_premium_X7_startAct) wd_221 wd_223 wd_0 (ci := 7) (q0 := (RX7, TX7, 10)) rfl (by decide) rfl f1 rfl rfl (ym_st4 (Nat.le_of_ble_eq_true rfl)) rfl ?_
  refine ym_lload_n (pc := 4) 1 dX7_premium_4 rfl rfl ?_
  obtain ⟨q5, e5, hf⟩ := Option.bind_eq_some_iff.mp hf
  refine ym_callS (pc := 5) (G2 := g_X7_isMoney) (dep2 := 1) (As := [.long a1]) (st := []) (stk2 := [.int q5.1]) (r2 := (some (.int q5.1))) (h1 := q5.2) dX7_premium_5 (ok_X7_isMoney e5) (sc_X7_premium_X7_isMoney) wd_245 wd_246 rfl rfl (ym_st4 (Nat.le_of_ble_eq_true rfl)) rfl ?_
  by_cases c8 : q5.1 = 0
  · rw [if_pos c8] at hf
    refine ym_if_eq_y (pc := 8) (tgt := 18) dX7_premium_8 (by decide) c8 ?_
    exact ym_sub [0] rfl (ob_X7_premium_18 hf)
  · rw [if_neg c8] at hf
    refine ym_if_eq_n (pc := 8) (tgt := 18) dX7_premium_8 (by decide) c8 ?_
    refine ym_iload_n (pc := 11) 2 dX7_premium_11 rfl rfl ?_
    obtain ⟨q12, e12, hf⟩ := Option.bind_eq_some_iff.mp hf
    refine ym_callS (pc := 12) (G2 := g_X7_isRate) (dep2 := 1) (As := [.int a3]) (st := []) (stk2 := [.int q12.1]) (r2 := (some (.int q12.1))) (h1 := q12.2) dX7_premium_12 (ok_X7_isRate e12) (sc_X7_premium_X7_isRate) wd_417 wd_418 rfl rfl (ym_st4 (Nat.le_of_ble_eq_true rfl)) rfl ?_
    by_cases c15 : q12.1 = 0
    · rw [if_pos c15] at hf
      refine ym_if_ne_y (pc := 15) (tgt := 24) dX7_premium_15 (by decide) c15 ?_
      exact ym_sub [0] rfl (ob_X7_premium_18 hf)
    · rw [if_neg c15] at hf
      refine ym_if_ne_n (pc := 15) (tgt := 24) dX7_premium_15 (by decide) c15 ?_
      refine ym_aload_n (pc := 24) 0 dX7_premium_24 rfl rfl ?_
      refine ym_aload_n (pc := 25) 0 dX7_premium_25 rfl rfl ?_
      obtain ⟨v26, e26, hf⟩ := Option.bind_eq_some_iff.mp hf
      refine ym_get (pc := 26) dX7_premium_26 rfl (by decide) iX7 (k := 3) (by decide) wd_189 (ym_gR_v e26) ?_
      refine ym_lload_n (pc := 29) 1 dX7_premium_29 rfl rfl ?_
      refine ym_iload_n (pc := 30) 2 dX7_premium_30 rfl rfl ?_
      refine ym_i2l (pc := 31) dX7_premium_31 ?_
      obtain ⟨o32, f32, hf⟩ := Option.bind_eq_some_iff.mp hf
      obtain ⟨q32, e32, hf⟩ := Option.bind_eq_some_iff.mp hf
      refine ym_callV (pc := 32) (G2 := g_X7_addTableRow) (dep2 := 7) (As := [va_rf v26, .long a1, .long (Int32.toInt64 a3)]) (st := []) (stk2 := [.long q32.1]) (r2 := (some (.long q32.1))) (h1 := q32.2) dX7_premium_32 (ok_X7_addTableRow e32) (sc_X7_premium_X7_addTableRow) wd_424 wd_426 wd_7 (ci := 7) (q0 := (RX7, TX7, 10)) rfl (by decide) rfl f32 rfl rfl (ym_st4 (Nat.le_of_ble_eq_true rfl)) rfl ?_
      cases hf
      exact ym_lret (pc := 35) dX7_premium_35 rfl
theorem dX7_reoffer_0 : decode cX7_reoffer 0 = .ok (.aload_n 0, 1) := by decide +kernel
theorem dX7_reoffer_1 : decode cX7_reoffer 1 = .ok (.invokevirtual 58, 3) := by decide +kernel
theorem dX7_reoffer_4 : decode cX7_reoffer 4 = .ok (.lload_n 2, 1) := by decide +kernel
theorem dX7_reoffer_5 : decode cX7_reoffer 5 = .ok (.invokestatic 80, 3) := by decide +kernel
theorem dX7_reoffer_8 : decode cX7_reoffer 8 = .ok (.ifCond .ne 9, 3) := by decide +kernel
theorem dX7_reoffer_11 : decode cX7_reoffer 11 = .ok (.aload_n 0, 1) := by decide +kernel
theorem dX7_reoffer_12 : decode cX7_reoffer 12 = .ok (.iconst 1, 1) := by decide +kernel
theorem dX7_reoffer_13 : decode cX7_reoffer 13 = .ok (.invokevirtual 61, 3) := by decide +kernel
theorem dX7_reoffer_16 : decode cX7_reoffer 16 = .ok (.lreturn, 1) := by decide +kernel
theorem dX7_reoffer_17 : decode cX7_reoffer 17 = .ok (.aload_n 0, 1) := by decide +kernel
theorem dX7_reoffer_18 : decode cX7_reoffer 18 = .ok (.iload_n 1, 1) := by decide +kernel
theorem dX7_reoffer_19 : decode cX7_reoffer 19 = .ok (.invokevirtual 89, 3) := by decide +kernel
theorem dX7_reoffer_22 : decode cX7_reoffer 22 = .ok (.astore 4, 2) := by decide +kernel
theorem dX7_reoffer_24 : decode cX7_reoffer 24 = .ok (.aload 4, 2) := by decide +kernel
theorem dX7_reoffer_26 : decode cX7_reoffer 26 = .ok (.ifnonnull 12, 3) := by decide +kernel
theorem dX7_reoffer_29 : decode cX7_reoffer 29 = .ok (.aload_n 0, 1) := by decide +kernel
theorem dX7_reoffer_30 : decode cX7_reoffer 30 = .ok (.iload_n 1, 1) := by decide +kernel
theorem dX7_reoffer_31 : decode cX7_reoffer 31 = .ok (.invokestatic 93, 3) := by decide +kernel
theorem dX7_reoffer_34 : decode cX7_reoffer 34 = .ok (.invokevirtual 61, 3) := by decide +kernel
theorem dX7_reoffer_37 : decode cX7_reoffer 37 = .ok (.lreturn, 1) := by decide +kernel
theorem dX7_reoffer_38 : decode cX7_reoffer 38 = .ok (.aload 4, 2) := by decide +kernel
theorem dX7_reoffer_40 : decode cX7_reoffer 40 = .ok (.invokevirtual 104, 3) := by decide +kernel
theorem dX7_reoffer_43 : decode cX7_reoffer 43 = .ok (.iconst 3, 1) := by decide +kernel
theorem dX7_reoffer_44 : decode cX7_reoffer 44 = .ok (.if_icmp .eq 10, 3) := by decide +kernel
theorem dX7_reoffer_47 : decode cX7_reoffer 47 = .ok (.aload_n 0, 1) := by decide +kernel
theorem dX7_reoffer_48 : decode cX7_reoffer 48 = .ok (.bipush 9, 2) := by decide +kernel
theorem dX7_reoffer_50 : decode cX7_reoffer 50 = .ok (.invokevirtual 61, 3) := by decide +kernel
theorem dX7_reoffer_53 : decode cX7_reoffer 53 = .ok (.lreturn, 1) := by decide +kernel
theorem dX7_reoffer_54 : decode cX7_reoffer 54 = .ok (.aload 4, 2) := by decide +kernel
theorem dX7_reoffer_56 : decode cX7_reoffer 56 = .ok (.getfield 137, 3) := by decide +kernel
theorem dX7_reoffer_59 : decode cX7_reoffer 59 = .ok (.iconst 5, 1) := by decide +kernel
theorem dX7_reoffer_60 : decode cX7_reoffer 60 = .ok (.if_icmp .ne 20, 3) := by decide +kernel
theorem dX7_reoffer_63 : decode cX7_reoffer 63 = .ok (.lload_n 2, 1) := by decide +kernel
theorem dX7_reoffer_64 : decode cX7_reoffer 64 = .ok (.aload 4, 2) := by decide +kernel
theorem dX7_reoffer_66 : decode cX7_reoffer 66 = .ok (.getfield 204, 3) := by decide +kernel
theorem dX7_reoffer_69 : decode cX7_reoffer 69 = .ok (.lcmp, 1) := by decide +kernel
theorem dX7_reoffer_70 : decode cX7_reoffer 70 = .ok (.ifCond .ge 10, 3) := by decide +kernel
theorem dX7_reoffer_73 : decode cX7_reoffer 73 = .ok (.aload_n 0, 1) := by decide +kernel
theorem dX7_reoffer_74 : decode cX7_reoffer 74 = .ok (.bipush 10, 2) := by decide +kernel
theorem dX7_reoffer_76 : decode cX7_reoffer 76 = .ok (.invokevirtual 61, 3) := by decide +kernel
theorem dX7_reoffer_79 : decode cX7_reoffer 79 = .ok (.lreturn, 1) := by decide +kernel
theorem dX7_reoffer_80 : decode cX7_reoffer 80 = .ok (.aload_n 0, 1) := by decide +kernel
theorem dX7_reoffer_81 : decode cX7_reoffer 81 = .ok (.aload_n 0, 1) := by decide +kernel
theorem dX7_reoffer_82 : decode cX7_reoffer 82 = .ok (.aload 4, 2) := by decide +kernel
theorem dX7_reoffer_84 : decode cX7_reoffer 84 = .ok (.getfield 129, 3) := by decide +kernel
theorem dX7_reoffer_87 : decode cX7_reoffer 87 = .ok (.bipush 11, 2) := by decide +kernel
theorem dX7_reoffer_89 : decode cX7_reoffer 89 = .ok (.invokevirtual 130, 3) := by decide +kernel
theorem dX7_reoffer_92 : decode cX7_reoffer 92 = .ok (.l2i, 1) := by decide +kernel
theorem dX7_reoffer_93 : decode cX7_reoffer 93 = .ok (.invokevirtual 89, 3) := by decide +kernel
theorem dX7_reoffer_96 : decode cX7_reoffer 96 = .ok (.invokevirtual 240, 3) := by decide +kernel
theorem dX7_reoffer_99 : decode cX7_reoffer 99 = .ok (.aload 4, 2) := by decide +kernel
theorem dX7_reoffer_101 : decode cX7_reoffer 101 = .ok (.lload_n 2, 1) := by decide +kernel
theorem dX7_reoffer_102 : decode cX7_reoffer 102 = .ok (.invokevirtual 243, 3) := by decide +kernel
theorem dX7_reoffer_105 : decode cX7_reoffer 105 = .ok (.lconst 1, 1) := by decide +kernel
theorem dX7_reoffer_106 : decode cX7_reoffer 106 = .ok (.lreturn, 1) := by decide +kernel
theorem sc_X7_reoffer_X7_startAct : ym_site g_X7_reoffer g_X7_startAct 7 2 0 := ⟨by decide, by decide, wd_224, wd_76, by decide +kernel⟩
theorem sc_X7_reoffer_X7_isSum : ym_site g_X7_reoffer g_X7_isSum 7 1 1 := ⟨by decide, by decide, wd_322, wd_76, by decide +kernel⟩
theorem sc_X7_reoffer_X7_refuse : ym_site g_X7_reoffer g_X7_refuse 7 4 1 := ⟨by decide, by decide, wd_232, wd_76, by decide +kernel⟩
theorem sc_X7_reoffer_X7_lotAt : ym_site g_X7_reoffer g_X7_lotAt 7 3 1 := ⟨by decide, by decide, wd_374, wd_76, by decide +kernel⟩
theorem sc_X7_reoffer_X7_whyNoLot : ym_site g_X7_reoffer g_X7_whyNoLot 7 1 1 := ⟨by decide, by decide, wd_377, wd_76, by decide +kernel⟩
theorem sc_X7_reoffer_X4_stateNow : ym_site g_X7_reoffer g_X4_stateNow 7 2 0 := ⟨by decide, by decide, wd_388, wd_87, by decide +kernel⟩
theorem sc_X7_reoffer_X2_get : ym_site g_X7_reoffer g_X2_get 7 1 1 := ⟨by decide, by decide, wd_256, wd_78, by decide +kernel⟩
theorem sc_X7_reoffer_X7_part : ym_site g_X7_reoffer g_X7_part 7 5 1 := ⟨by decide, by decide, wd_710, wd_76, by decide +kernel⟩
theorem sc_X7_reoffer_X4_renew : ym_site g_X7_reoffer g_X4_renew 7 6 1 := ⟨by decide, by decide, wd_715, wd_87, by decide +kernel⟩
def bl_X7_reoffer_80 (N : Nat) (w0 : Option Nat) (w2 : Int64) (w4 : Option Nat) (h : ym_H) : Option (Int64 × ym_H) :=
  Option.bind (ym_gR h w4 4 2) fun v84 =>
  Option.bind (ym_ob h v84 2) fun o89 =>
  Option.bind (fn_X2_get N v84 11 h) fun q89 =>
  Option.bind (ym_ob q89.2 w0 7) fun o93 =>
  Option.bind (fn_X7_lotAt N w0 (Int64.toInt32 q89.1) q89.2) fun q93 =>
  Option.bind (ym_ob q93.2 w0 7) fun o96 =>
  Option.bind (fn_X7_part N w0 q93.1 q93.2) fun q96 =>
  Option.bind (ym_ob q96.2 w4 4) fun o102 =>
  Option.bind (fn_X4_renew N w4 w2 q96.2) fun q102 =>
  some (1, q102.2)
set_option maxRecDepth 20000 in
set_option maxHeartbeats 4000000 in
theorem ob_X7_reoffer_80 {D : ym_D} {b0 : Nat} {N : Nat} {w0 : Option Nat} {w2 : Int64} {w4 : Option Nat} {h h' : ym_H} {r : Int64} (hf : bl_X7_reoffer_80 N w0 w2 w4 h = some (r, h')) : ym_Y D b0 g_X7_reoffer 7 80 [(0, va_rf w0), (2, .long w2), (4, va_rf w4)] [] h (some (.long r)) h' := by
  unfold bl_X7_reoffer_80 at hf
  refine ym_aload_n (pc := 80) 0 dX7_reoffer_80 rfl rfl ?_
  refine ym_aload_n (pc := 81) 0 dX7_reoffer_81 rfl rfl ?_
  refine ym_aload (pc := 82) 2 dX7_reoffer_82 rfl ?_
  obtain ⟨v84, e84, hf⟩ := Option.bind_eq_some_iff.mp hf
  refine ym_getN (pc := 84) dX7_reoffer_84 rfl (by decide) iX4 (k := 2) (by decide) wd_346 (ym_gR_v e84) ?_
  refine ym_bipush (pc := 87) (v := 11) dX7_reoffer_87 (by decide) ?_
  obtain ⟨o89, f89, hf⟩ := Option.bind_eq_some_iff.mp hf
  obtain ⟨q89, e89, hf⟩ := Option.bind_eq_some_iff.mp hf
  refine ym_callV (pc := 89) (G2 := g_X2_get) (dep2 := 1) (As := [.int 11]) (st := [va_rf w0, va_rf w0]) (stk2 := [.long q89.1, va_rf w0, va_rf w0]) (r2 := (some (.long q89.1))) (h1 := q89.2) dX7_reoffer_89 (ok_X2_get e89) (sc_X7_reoffer_X2_get) wd_253 wd_254 wd_255 (ci := 2) (q0 := (RX2, TX2, 2)) rfl (by decide) rfl f89 rfl rfl (ym_st4 (Nat.le_of_ble_eq_true rfl)) rfl ?_
  refine ym_l2i (pc := 92) dX7_reoffer_92 ?_
  obtain ⟨o93, f93, hf⟩ := Option.bind_eq_some_iff.mp hf
  obtain ⟨q93, e93, hf⟩ := Option.bind_eq_some_iff.mp hf
  refine ym_callV (pc := 93) (G2 := g_X7_lotAt) (dep2 := 3) (As := [.int (Int64.toInt32 q89.1)]) (st := [va_rf w0]) (stk2 := [va_rf q93.1, va_rf w0]) (r2 := (some (va_rf q93.1))) (h1 := q93.2) dX7_reoffer_93 (ok_X7_lotAt e93) (sc_X7_reoffer_X7_lotAt) wd_371 wd_373 wd_5 (ci := 7) (q0 := (RX7, TX7, 10)) rfl (by decide) rfl f93 rfl rfl (ym_st4 (Nat.le_of_ble_eq_true rfl)) rfl ?_
  obtain ⟨o96, f96, hf⟩ := Option.bind_eq_some_iff.mp hf
  obtain ⟨q96, e96, hf⟩ := Option.bind_eq_some_iff.mp hf
  refine ym_callV (pc := 96) (G2 := g_X7_part) (dep2 := 5) (As := [va_rf q93.1]) (st := []) (stk2 := []) (r2 := none) (h1 := q96.2) dX7_reoffer_96 (ok_X7_part e96) (sc_X7_reoffer_X7_part) wd_707 wd_709 wd_19 (ci := 7) (q0 := (RX7, TX7, 10)) rfl (by decide) rfl f96 rfl rfl (ym_st4 (Nat.le_of_ble_eq_true rfl)) rfl ?_
  refine ym_aload (pc := 99) 2 dX7_reoffer_99 rfl ?_
  refine ym_lload_n (pc := 101) 1 dX7_reoffer_101 rfl rfl ?_
  obtain ⟨o102, f102, hf⟩ := Option.bind_eq_some_iff.mp hf
  obtain ⟨q102, e102, hf⟩ := Option.bind_eq_some_iff.mp hf
  refine ym_callV (pc := 102) (G2 := g_X4_renew) (dep2 := 6) (As := [.long w2]) (st := []) (stk2 := []) (r2 := none) (h1 := q102.2) dX7_reoffer_102 (ok_X4_renew e102) (sc_X7_reoffer_X4_renew) wd_712 wd_713 wd_714 (ci := 4) (q0 := (RX4, TX4, 6)) rfl (by decide) rfl f102 rfl rfl (ym_st4 (Nat.le_of_ble_eq_true rfl)) rfl ?_
  refine ym_lconst (pc := 105) (v := 1) dX7_reoffer_105 (by decide) ?_
  cases hf
  exact ym_lret (pc := 106) dX7_reoffer_106 rfl
def fn_X7_reoffer (N : Nat) (a0 : Option Nat) (a1 : Int32) (a2 : Int64) (h : ym_H) : Option (Int64 × ym_H) :=
  Option.bind (ym_ob h a0 7) fun o1 =>
  Option.bind (fn_X7_startAct N a0 h) fun q1 =>
  Option.bind (fn_X7_isSum N a2 q1.2) fun q5 =>
  if q5.1 = 0 then
    Option.bind (ym_ob q5.2 a0 7) fun o13 =>
    Option.bind (fn_X7_refuse N a0 1 q5.2) fun q13 =>
    some (q13.1, q13.2)
  else
    Option.bind (ym_ob q5.2 a0 7) fun o19 =>
    Option.bind (fn_X7_lotAt N a0 a1 q5.2) fun q19 =>
    if q19.1 = none then
      Option.bind (fn_X7_whyNoLot N a1 q19.2) fun q31 =>
      Option.bind (ym_ob q31.2 a0 7) fun o34 =>
      Option.bind (fn_X7_refuse N a0 q31.1 q31.2) fun q34 =>
      some (q34.1, q34.2)
    else
      Option.bind (ym_ob q19.2 q19.1 4) fun o40 =>
      Option.bind (fn_X4_stateNow N q19.1 q19.2) fun q40 =>
      if q40.1 = 3 then
        Option.bind (ym_gI q40.2 q19.1 4 0) fun v56 =>
        if v56 = 5 then
          Option.bind (ym_gL q40.2 q19.1 4 1) fun v66 =>
          if v66 ≤ a2 then
            bl_X7_reoffer_80 N a0 a2 q19.1 q40.2
          else
            Option.bind (ym_ob q40.2 a0 7) fun o76 =>
            Option.bind (fn_X7_refuse N a0 10 q40.2) fun q76 =>
            some (q76.1, q76.2)
        else
          bl_X7_reoffer_80 N a0 a2 q19.1 q40.2
      else
        Option.bind (ym_ob q40.2 a0 7) fun o50 =>
        Option.bind (fn_X7_refuse N a0 9 q40.2) fun q50 =>
        some (q50.1, q50.2)
set_option maxRecDepth 20000 in
set_option maxHeartbeats 4000000 in
theorem ok_X7_reoffer {D : ym_D} {b0 : Nat} {N : Nat} {a0 : Option Nat} {a1 : Int32} {a2 : Int64} {h h' : ym_H} {r : Int64} (hf : fn_X7_reoffer N a0 a1 a2 h = some (r, h')) : ym_M D b0 g_X7_reoffer 7 [va_rf a0, .int a1, .long a2] h (some (.long r)) h' := by
  unfold fn_X7_reoffer at hf
  refine ym_meth (lv := [(0, va_rf a0), (1, .int a1), (2, .long a2)]) (by decide) (by simp [lg_sl, ym_c1, ym_cI, ym_cL, g_X7_reoffer]) (by simp [lv_args, ym_c1, ym_cI, ym_cL]) ?_
  refine ym_aload_n (pc := 0) 0 dX7_reoffer_0 rfl rfl ?_
  obtain ⟨o1, f1, hf⟩ := Option.bind_eq_some_iff.mp hf
  obtain ⟨q1, e1, hf⟩ := Option.bind_eq_some_iff.mp hf
  refine ym_callV (pc := 1) (G2 := g_X7_startAct) (dep2 := 2) (As := []) (st := []) (stk2 := []) (r2 := none) (h1 := q1.2) dX7_reoffer_1 (ok_X7_startAct e1) (sc_X7_reoffer_X7_startAct) wd_221 wd_223 wd_0 (ci := 7) (q0 := (RX7, TX7, 10)) rfl (by decide) rfl f1 rfl rfl (ym_st4 (Nat.le_of_ble_eq_true rfl)) rfl ?_
  refine ym_lload_n (pc := 4) 2 dX7_reoffer_4 rfl rfl ?_
  obtain ⟨q5, e5, hf⟩ := Option.bind_eq_some_iff.mp hf
  refine ym_callS (pc := 5) (G2 := g_X7_isSum) (dep2 := 1) (As := [.long a2]) (st := []) (stk2 := [.int q5.1]) (r2 := (some (.int q5.1))) (h1 := q5.2) dX7_reoffer_5 (ok_X7_isSum e5) (sc_X7_reoffer_X7_isSum) wd_320 wd_321 rfl rfl (ym_st4 (Nat.le_of_ble_eq_true rfl)) rfl ?_
  by_cases c8 : q5.1 = 0
  · rw [if_pos c8] at hf
    refine ym_if_ne_y (pc := 8) (tgt := 17) dX7_reoffer_8 (by decide) c8 ?_
    refine ym_aload_n (pc := 11) 0 dX7_reoffer_11 rfl rfl ?_
    refine ym_iconst (pc := 12) (v := 1) dX7_reoffer_12 (by decide) ?_
    obtain ⟨o13, f13, hf⟩ := Option.bind_eq_some_iff.mp hf
    obtain ⟨q13, e13, hf⟩ := Option.bind_eq_some_iff.mp hf
    refine ym_callV (pc := 13) (G2 := g_X7_refuse) (dep2 := 4) (As := [.int 1]) (st := []) (stk2 := [.long q13.1]) (r2 := (some (.long q13.1))) (h1 := q13.2) dX7_reoffer_13 (ok_X7_refuse e13) (sc_X7_reoffer_X7_refuse) wd_229 wd_231 wd_1 (ci := 7) (q0 := (RX7, TX7, 10)) rfl (by decide) rfl f13 rfl rfl (ym_st4 (Nat.le_of_ble_eq_true rfl)) rfl ?_
    cases hf
    exact ym_lret (pc := 16) dX7_reoffer_16 rfl
  · rw [if_neg c8] at hf
    refine ym_if_ne_n (pc := 8) (tgt := 17) dX7_reoffer_8 (by decide) c8 ?_
    refine ym_aload_n (pc := 17) 0 dX7_reoffer_17 rfl rfl ?_
    refine ym_iload_n (pc := 18) 1 dX7_reoffer_18 rfl rfl ?_
    obtain ⟨o19, f19, hf⟩ := Option.bind_eq_some_iff.mp hf
    obtain ⟨q19, e19, hf⟩ := Option.bind_eq_some_iff.mp hf
    refine ym_callV (pc := 19) (G2 := g_X7_lotAt) (dep2 := 3) (As := [.int a1]) (st := []) (stk2 := [va_rf q19.1]) (r2 := (some (va_rf q19.1))) (h1 := q19.2) dX7_reoffer_19 (ok_X7_lotAt e19) (sc_X7_reoffer_X7_lotAt) wd_371 wd_373 wd_5 (ci := 7) (q0 := (RX7, TX7, 10)) rfl (by decide) rfl f19 rfl rfl (ym_st4 (Nat.le_of_ble_eq_true rfl)) rfl ?_
    refine ym_astore (pc := 22) (lv' := [(4, va_rf q19.1), (0, va_rf a0), (1, .int a1), (2, .long a2)]) dX7_reoffer_22 (by decide) ⟨trivial, trivial, trivial, trivial⟩ rfl ?_
    refine ym_aload (pc := 24) 0 dX7_reoffer_24 rfl ?_
    by_cases c26 : q19.1 = none
    · rw [if_pos c26] at hf
      refine ym_ifnonnull_y (pc := 26) (tgt := 38) dX7_reoffer_26 (by decide) c26 ?_
      refine ym_aload_n (pc := 29) 1 dX7_reoffer_29 rfl rfl ?_
      refine ym_iload_n (pc := 30) 2 dX7_reoffer_30 rfl rfl ?_
      obtain ⟨q31, e31, hf⟩ := Option.bind_eq_some_iff.mp hf
      refine ym_callS (pc := 31) (G2 := g_X7_whyNoLot) (dep2 := 1) (As := [.int a1]) (st := [va_rf a0]) (stk2 := [.int q31.1, va_rf a0]) (r2 := (some (.int q31.1))) (h1 := q31.2) dX7_reoffer_31 (ok_X7_whyNoLot e31) (sc_X7_reoffer_X7_whyNoLot) wd_375 wd_376 rfl rfl (ym_st4 (Nat.le_of_ble_eq_true rfl)) rfl ?_
      obtain ⟨o34, f34, hf⟩ := Option.bind_eq_some_iff.mp hf
      obtain ⟨q34, e34, hf⟩ := Option.bind_eq_some_iff.mp hf
      refine ym_callV (pc := 34) (G2 := g_X7_refuse) (dep2 := 4) (As := [.int q31.1]) (st := []) (stk2 := [.long q34.1]) (r2 := (some (.long q34.1))) (h1 := q34.2) dX7_reoffer_34 (ok_X7_refuse e34) (sc_X7_reoffer_X7_refuse) wd_229 wd_231 wd_1 (ci := 7) (q0 := (RX7, TX7, 10)) rfl (by decide) rfl f34 rfl rfl (ym_st4 (Nat.le_of_ble_eq_true rfl)) rfl ?_
      cases hf
      exact ym_lret (pc := 37) dX7_reoffer_37 rfl
    · rw [if_neg c26] at hf
      refine ym_ifnonnull_n (pc := 26) (tgt := 38) dX7_reoffer_26 (by decide) c26 ?_
      refine ym_aload (pc := 38) 0 dX7_reoffer_38 rfl ?_
      obtain ⟨o40, f40, hf⟩ := Option.bind_eq_some_iff.mp hf
      obtain ⟨q40, e40, hf⟩ := Option.bind_eq_some_iff.mp hf
      refine ym_callV (pc := 40) (G2 := g_X4_stateNow) (dep2 := 2) (As := []) (st := []) (stk2 := [.int q40.1]) (r2 := (some (.int q40.1))) (h1 := q40.2) dX7_reoffer_40 (ok_X4_stateNow e40) (sc_X7_reoffer_X4_stateNow) wd_385 wd_386 wd_387 (ci := 4) (q0 := (RX4, TX4, 6)) rfl (by decide) rfl f40 rfl rfl (ym_st4 (Nat.le_of_ble_eq_true rfl)) rfl ?_
      refine ym_iconst (pc := 43) (v := 3) dX7_reoffer_43 (by decide) ?_
      by_cases c44 : q40.1 = 3
      · rw [if_pos c44] at hf
        refine ym_icmp_eq_y (pc := 44) (tgt := 54) dX7_reoffer_44 (by decide) c44 ?_
        refine ym_aload (pc := 54) 0 dX7_reoffer_54 rfl ?_
        obtain ⟨v56, e56, hf⟩ := Option.bind_eq_some_iff.mp hf
        refine ym_getN (pc := 56) dX7_reoffer_56 rfl (by decide) iX4 (k := 0) (by decide) wd_340 (ym_gI_v e56) ?_
        refine ym_iconst (pc := 59) (v := 5) dX7_reoffer_59 (by decide) ?_
        by_cases c60 : v56 = 5
        · rw [if_pos c60] at hf
          refine ym_icmp_ne_y (pc := 60) (tgt := 80) dX7_reoffer_60 (by decide) c60 ?_
          refine ym_lload_n (pc := 63) 3 dX7_reoffer_63 rfl rfl ?_
          refine ym_aload (pc := 64) 0 dX7_reoffer_64 rfl ?_
          obtain ⟨v66, e66, hf⟩ := Option.bind_eq_some_iff.mp hf
          refine ym_getN (pc := 66) dX7_reoffer_66 rfl (by decide) iX4 (k := 1) (by decide) wd_343 (ym_gL_v e66) ?_
          by_cases c69 : v66 ≤ a2
          · rw [if_pos c69] at hf
            refine ym_lcmp_ge_y (pc := 69) (tgt := 80) dX7_reoffer_69 dX7_reoffer_70 (by decide) c69 ?_
            exact ym_sub [1, 3, 0] rfl (ob_X7_reoffer_80 hf)
          · rw [if_neg c69] at hf
            refine ym_lcmp_ge_n (pc := 69) (tgt := 80) dX7_reoffer_69 dX7_reoffer_70 (by decide) c69 ?_
            refine ym_aload_n (pc := 73) 1 dX7_reoffer_73 rfl rfl ?_
            refine ym_bipush (pc := 74) (v := 10) dX7_reoffer_74 (by decide) ?_
            obtain ⟨o76, f76, hf⟩ := Option.bind_eq_some_iff.mp hf
            obtain ⟨q76, e76, hf⟩ := Option.bind_eq_some_iff.mp hf
            refine ym_callV (pc := 76) (G2 := g_X7_refuse) (dep2 := 4) (As := [.int 10]) (st := []) (stk2 := [.long q76.1]) (r2 := (some (.long q76.1))) (h1 := q76.2) dX7_reoffer_76 (ok_X7_refuse e76) (sc_X7_reoffer_X7_refuse) wd_229 wd_231 wd_1 (ci := 7) (q0 := (RX7, TX7, 10)) rfl (by decide) rfl f76 rfl rfl (ym_st4 (Nat.le_of_ble_eq_true rfl)) rfl ?_
            cases hf
            exact ym_lret (pc := 79) dX7_reoffer_79 rfl
        · rw [if_neg c60] at hf
          refine ym_icmp_ne_n (pc := 60) (tgt := 80) dX7_reoffer_60 (by decide) c60 ?_
          exact ym_sub [1, 3, 0] rfl (ob_X7_reoffer_80 hf)
      · rw [if_neg c44] at hf
        refine ym_icmp_eq_n (pc := 44) (tgt := 54) dX7_reoffer_44 (by decide) c44 ?_
        refine ym_aload_n (pc := 47) 1 dX7_reoffer_47 rfl rfl ?_
        refine ym_bipush (pc := 48) (v := 9) dX7_reoffer_48 (by decide) ?_
        obtain ⟨o50, f50, hf⟩ := Option.bind_eq_some_iff.mp hf
        obtain ⟨q50, e50, hf⟩ := Option.bind_eq_some_iff.mp hf
        refine ym_callV (pc := 50) (G2 := g_X7_refuse) (dep2 := 4) (As := [.int 9]) (st := []) (stk2 := [.long q50.1]) (r2 := (some (.long q50.1))) (h1 := q50.2) dX7_reoffer_50 (ok_X7_refuse e50) (sc_X7_reoffer_X7_refuse) wd_229 wd_231 wd_1 (ci := 7) (q0 := (RX7, TX7, 10)) rfl (by decide) rfl f50 rfl rfl (ym_st4 (Nat.le_of_ble_eq_true rfl)) rfl ?_
        cases hf
        exact ym_lret (pc := 53) dX7_reoffer_53 rfl
theorem dX7_seller_0 : decode cX7_seller 0 = .ok (.aload_n 0, 1) := by decide +kernel
theorem dX7_seller_1 : decode cX7_seller 1 = .ok (.invokevirtual 58, 3) := by decide +kernel
theorem dX7_seller_4 : decode cX7_seller 4 = .ok (.aload_n 0, 1) := by decide +kernel
theorem dX7_seller_5 : decode cX7_seller 5 = .ok (.iload_n 1, 1) := by decide +kernel
theorem dX7_seller_6 : decode cX7_seller 6 = .ok (.invokevirtual 89, 3) := by decide +kernel
theorem dX7_seller_9 : decode cX7_seller 9 = .ok (.astore_n 3, 1) := by decide +kernel
theorem dX7_seller_10 : decode cX7_seller 10 = .ok (.aload_n 3, 1) := by decide +kernel
theorem dX7_seller_11 : decode cX7_seller 11 = .ok (.ifnonnull 12, 3) := by decide +kernel
theorem dX7_seller_14 : decode cX7_seller 14 = .ok (.aload_n 0, 1) := by decide +kernel
theorem dX7_seller_15 : decode cX7_seller 15 = .ok (.iload_n 1, 1) := by decide +kernel
theorem dX7_seller_16 : decode cX7_seller 16 = .ok (.invokestatic 93, 3) := by decide +kernel
theorem dX7_seller_19 : decode cX7_seller 19 = .ok (.invokevirtual 61, 3) := by decide +kernel
theorem dX7_seller_22 : decode cX7_seller 22 = .ok (.lreturn, 1) := by decide +kernel
theorem dX7_seller_23 : decode cX7_seller 23 = .ok (.aload_n 0, 1) := by decide +kernel
theorem dX7_seller_24 : decode cX7_seller 24 = .ok (.iload_n 2, 1) := by decide +kernel
theorem dX7_seller_25 : decode cX7_seller 25 = .ok (.invokevirtual 97, 3) := by decide +kernel
theorem dX7_seller_28 : decode cX7_seller 28 = .ok (.ifnonnull 12, 3) := by decide +kernel
theorem dX7_seller_31 : decode cX7_seller 31 = .ok (.aload_n 0, 1) := by decide +kernel
theorem dX7_seller_32 : decode cX7_seller 32 = .ok (.iload_n 2, 1) := by decide +kernel
theorem dX7_seller_33 : decode cX7_seller 33 = .ok (.invokestatic 101, 3) := by decide +kernel
theorem dX7_seller_36 : decode cX7_seller 36 = .ok (.invokevirtual 61, 3) := by decide +kernel
theorem dX7_seller_39 : decode cX7_seller 39 = .ok (.lreturn, 1) := by decide +kernel
theorem dX7_seller_40 : decode cX7_seller 40 = .ok (.aload_n 3, 1) := by decide +kernel
theorem dX7_seller_41 : decode cX7_seller 41 = .ok (.invokevirtual 104, 3) := by decide +kernel
theorem dX7_seller_44 : decode cX7_seller 44 = .ok (.ifCond .eq 10, 3) := by decide +kernel
theorem dX7_seller_47 : decode cX7_seller 47 = .ok (.aload_n 0, 1) := by decide +kernel
theorem dX7_seller_48 : decode cX7_seller 48 = .ok (.bipush 9, 2) := by decide +kernel
theorem dX7_seller_50 : decode cX7_seller 50 = .ok (.invokevirtual 61, 3) := by decide +kernel
theorem dX7_seller_53 : decode cX7_seller 53 = .ok (.lreturn, 1) := by decide +kernel
theorem dX7_seller_54 : decode cX7_seller 54 = .ok (.aload_n 3, 1) := by decide +kernel
theorem dX7_seller_55 : decode cX7_seller 55 = .ok (.getfield 107, 3) := by decide +kernel
theorem dX7_seller_58 : decode cX7_seller 58 = .ok (.iload_n 2, 1) := by decide +kernel
theorem dX7_seller_59 : decode cX7_seller 59 = .ok (.invokevirtual 111, 3) := by decide +kernel
theorem dX7_seller_62 : decode cX7_seller 62 = .ok (.iconst (-1), 1) := by decide +kernel
theorem dX7_seller_63 : decode cX7_seller 63 = .ok (.if_icmp .eq 10, 3) := by decide +kernel
theorem dX7_seller_66 : decode cX7_seller 66 = .ok (.aload_n 0, 1) := by decide +kernel
theorem dX7_seller_67 : decode cX7_seller 67 = .ok (.bipush 8, 2) := by decide +kernel
theorem dX7_seller_69 : decode cX7_seller 69 = .ok (.invokevirtual 61, 3) := by decide +kernel
theorem dX7_seller_72 : decode cX7_seller 72 = .ok (.lreturn, 1) := by decide +kernel
theorem dX7_seller_73 : decode cX7_seller 73 = .ok (.aload_n 3, 1) := by decide +kernel
theorem dX7_seller_74 : decode cX7_seller 74 = .ok (.getfield 107, 3) := by decide +kernel
theorem dX7_seller_77 : decode cX7_seller 77 = .ok (.invokevirtual 116, 3) := by decide +kernel
theorem dX7_seller_80 : decode cX7_seller 80 = .ok (.iconst 4, 1) := by decide +kernel
theorem dX7_seller_81 : decode cX7_seller 81 = .ok (.if_icmp .lt 10, 3) := by decide +kernel
theorem dX7_seller_84 : decode cX7_seller 84 = .ok (.aload_n 0, 1) := by decide +kernel
theorem dX7_seller_85 : decode cX7_seller 85 = .ok (.bipush 12, 2) := by decide +kernel
theorem dX7_seller_87 : decode cX7_seller 87 = .ok (.invokevirtual 61, 3) := by decide +kernel
theorem dX7_seller_90 : decode cX7_seller 90 = .ok (.lreturn, 1) := by decide +kernel
theorem dX7_seller_91 : decode cX7_seller 91 = .ok (.aload_n 3, 1) := by decide +kernel
theorem dX7_seller_92 : decode cX7_seller 92 = .ok (.getfield 107, 3) := by decide +kernel
theorem dX7_seller_95 : decode cX7_seller 95 = .ok (.aload_n 3, 1) := by decide +kernel
theorem dX7_seller_96 : decode cX7_seller 96 = .ok (.getfield 107, 3) := by decide +kernel
theorem dX7_seller_99 : decode cX7_seller 99 = .ok (.invokevirtual 119, 3) := by decide +kernel
theorem dX7_seller_102 : decode cX7_seller 102 = .ok (.iconst 0, 1) := by decide +kernel
theorem dX7_seller_103 : decode cX7_seller 103 = .ok (.iload_n 2, 1) := by decide +kernel
theorem dX7_seller_104 : decode cX7_seller 104 = .ok (.i2l, 1) := by decide +kernel
theorem dX7_seller_105 : decode cX7_seller 105 = .ok (.invokevirtual 122, 3) := by decide +kernel
theorem dX7_seller_108 : decode cX7_seller 108 = .ok (.aload_n 3, 1) := by decide +kernel
theorem dX7_seller_109 : decode cX7_seller 109 = .ok (.getfield 107, 3) := by decide +kernel
theorem dX7_seller_112 : decode cX7_seller 112 = .ok (.invokevirtual 116, 3) := by decide +kernel
theorem dX7_seller_115 : decode cX7_seller 115 = .ok (.i2l, 1) := by decide +kernel
theorem dX7_seller_116 : decode cX7_seller 116 = .ok (.lreturn, 1) := by decide +kernel
theorem sc_X7_seller_X7_startAct : ym_site g_X7_seller g_X7_startAct 6 2 0 := ⟨by decide, by decide, wd_224, wd_76, by decide +kernel⟩
theorem sc_X7_seller_X7_lotAt : ym_site g_X7_seller g_X7_lotAt 6 3 1 := ⟨by decide, by decide, wd_374, wd_76, by decide +kernel⟩
theorem sc_X7_seller_X7_whyNoLot : ym_site g_X7_seller g_X7_whyNoLot 6 1 1 := ⟨by decide, by decide, wd_377, wd_76, by decide +kernel⟩
theorem sc_X7_seller_X7_refuse : ym_site g_X7_seller g_X7_refuse 6 4 1 := ⟨by decide, by decide, wd_232, wd_76, by decide +kernel⟩
theorem sc_X7_seller_X7_bidderWith : ym_site g_X7_seller g_X7_bidderWith 6 3 1 := ⟨by decide, by decide, wd_381, wd_76, by decide +kernel⟩
theorem sc_X7_seller_X7_whyNoBidder : ym_site g_X7_seller g_X7_whyNoBidder 6 1 1 := ⟨by decide, by decide, wd_384, wd_76, by decide +kernel⟩
theorem sc_X7_seller_X4_stateNow : ym_site g_X7_seller g_X4_stateNow 6 2 0 := ⟨by decide, by decide, wd_388, wd_87, by decide +kernel⟩
theorem sc_X7_seller_X5_rowOf : ym_site g_X7_seller g_X5_rowOf 6 3 1 := ⟨by decide, by decide, wd_393, wd_81, by decide +kernel⟩
theorem sc_X7_seller_X5_rows : ym_site g_X7_seller g_X5_rows 6 2 0 := ⟨by decide, by decide, wd_397, wd_81, by decide +kernel⟩
theorem sc_X7_seller_X5_addRow : ym_site g_X7_seller g_X5_addRow 6 5 0 := ⟨by decide, by decide, wd_407, wd_81, by decide +kernel⟩
theorem sc_X7_seller_X5_put : ym_site g_X7_seller g_X5_put 6 5 3 := ⟨by decide, by decide, wd_412, wd_81, by decide +kernel⟩
def fn_X7_seller (N : Nat) (a0 : Option Nat) (a1 : Int32) (a2 : Int32) (h : ym_H) : Option (Int64 × ym_H) :=
  Option.bind (ym_ob h a0 7) fun o1 =>
  Option.bind (fn_X7_startAct N a0 h) fun q1 =>
  Option.bind (ym_ob q1.2 a0 7) fun o6 =>
  Option.bind (fn_X7_lotAt N a0 a1 q1.2) fun q6 =>
  if q6.1 = none then
    Option.bind (fn_X7_whyNoLot N a1 q6.2) fun q16 =>
    Option.bind (ym_ob q16.2 a0 7) fun o19 =>
    Option.bind (fn_X7_refuse N a0 q16.1 q16.2) fun q19 =>
    some (q19.1, q19.2)
  else
    Option.bind (ym_ob q6.2 a0 7) fun o25 =>
    Option.bind (fn_X7_bidderWith N a0 a2 q6.2) fun q25 =>
    if q25.1 = none then
      Option.bind (fn_X7_whyNoBidder N a2 q25.2) fun q33 =>
      Option.bind (ym_ob q33.2 a0 7) fun o36 =>
      Option.bind (fn_X7_refuse N a0 q33.1 q33.2) fun q36 =>
      some (q36.1, q36.2)
    else
      Option.bind (ym_ob q25.2 q6.1 4) fun o41 =>
      Option.bind (fn_X4_stateNow N q6.1 q25.2) fun q41 =>
      if q41.1 = 0 then
        Option.bind (ym_gR q41.2 q6.1 4 5) fun v55 =>
        Option.bind (ym_ob q41.2 v55 5) fun o59 =>
        Option.bind (fn_X5_rowOf N v55 a2 q41.2) fun q59 =>
        if q59.1 = (-1) then
          Option.bind (ym_gR q59.2 q6.1 4 5) fun v74 =>
          Option.bind (ym_ob q59.2 v74 5) fun o77 =>
          Option.bind (fn_X5_rows N v74 q59.2) fun q77 =>
          if q77.1 < 4 then
            Option.bind (ym_gR q77.2 q6.1 4 5) fun v92 =>
            Option.bind (ym_gR q77.2 q6.1 4 5) fun v96 =>
            Option.bind (ym_ob q77.2 v96 5) fun o99 =>
            Option.bind (fn_X5_addRow N v96 q77.2) fun q99 =>
            Option.bind (ym_ob q99.2 v92 5) fun o105 =>
            Option.bind (fn_X5_put N v92 q99.1 0 (Int32.toInt64 a2) q99.2) fun q105 =>
            Option.bind (ym_gR q105.2 q6.1 4 5) fun v109 =>
            Option.bind (ym_ob q105.2 v109 5) fun o112 =>
            Option.bind (fn_X5_rows N v109 q105.2) fun q112 =>
            some ((Int32.toInt64 q112.1), q112.2)
          else
            Option.bind (ym_ob q77.2 a0 7) fun o87 =>
            Option.bind (fn_X7_refuse N a0 12 q77.2) fun q87 =>
            some (q87.1, q87.2)
        else
          Option.bind (ym_ob q59.2 a0 7) fun o69 =>
          Option.bind (fn_X7_refuse N a0 8 q59.2) fun q69 =>
          some (q69.1, q69.2)
      else
        Option.bind (ym_ob q41.2 a0 7) fun o50 =>
        Option.bind (fn_X7_refuse N a0 9 q41.2) fun q50 =>
        some (q50.1, q50.2)
set_option maxRecDepth 20000 in
set_option maxHeartbeats 4000000 in
theorem ok_X7_seller {D : ym_D} {b0 : Nat} {N : Nat} {a0 : Option Nat} {a1 : Int32} {a2 : Int32} {h h' : ym_H} {r : Int64} (hf : fn_X7_seller N a0 a1 a2 h = some (r, h')) : ym_M D b0 g_X7_seller 6 [va_rf a0, .int a1, .int a2] h (some (.long r)) h' := by
  unfold fn_X7_seller at hf
  refine ym_meth (lv := [(0, va_rf a0), (1, .int a1), (2, .int a2)]) (by decide) (by simp [lg_sl, ym_c1, ym_cI, ym_cL, g_X7_seller]) (by simp [lv_args, ym_c1, ym_cI, ym_cL]) ?_
  refine ym_aload_n (pc := 0) 0 dX7_seller_0 rfl rfl ?_
  obtain ⟨o1, f1, hf⟩ := Option.bind_eq_some_iff.mp hf
  obtain ⟨q1, e1, hf⟩ := Option.bind_eq_some_iff.mp hf
  refine ym_callV (pc := 1) (G2 := g_X7_startAct) (dep2 := 2) (As := []) (st := []) (stk2 := []) (r2 := none) (h1 := q1.2) dX7_seller_1 (ok_X7_startAct e1) (sc_X7_seller_X7_startAct) wd_221 wd_223 wd_0 (ci := 7) (q0 := (RX7, TX7, 10)) rfl (by decide) rfl f1 rfl rfl (ym_st4 (Nat.le_of_ble_eq_true rfl)) rfl ?_
  refine ym_aload_n (pc := 4) 0 dX7_seller_4 rfl rfl ?_
  refine ym_iload_n (pc := 5) 1 dX7_seller_5 rfl rfl ?_
  obtain ⟨o6, f6, hf⟩ := Option.bind_eq_some_iff.mp hf
  obtain ⟨q6, e6, hf⟩ := Option.bind_eq_some_iff.mp hf
  refine ym_callV (pc := 6) (G2 := g_X7_lotAt) (dep2 := 3) (As := [.int a1]) (st := []) (stk2 := [va_rf q6.1]) (r2 := (some (va_rf q6.1))) (h1 := q6.2) dX7_seller_6 (ok_X7_lotAt e6) (sc_X7_seller_X7_lotAt) wd_371 wd_373 wd_5 (ci := 7) (q0 := (RX7, TX7, 10)) rfl (by decide) rfl f6 rfl rfl (ym_st4 (Nat.le_of_ble_eq_true rfl)) rfl ?_
  refine ym_astore_n (pc := 9) (lv' := [(3, va_rf q6.1), (0, va_rf a0), (1, .int a1), (2, .int a2)]) dX7_seller_9 rfl (by decide) ⟨trivial, trivial, rfl, trivial⟩ rfl ?_
  refine ym_aload_n (pc := 10) 0 dX7_seller_10 rfl rfl ?_
  by_cases c11 : q6.1 = none
  · rw [if_pos c11] at hf
    refine ym_ifnonnull_y (pc := 11) (tgt := 23) dX7_seller_11 (by decide) c11 ?_
    refine ym_aload_n (pc := 14) 1 dX7_seller_14 rfl rfl ?_
    refine ym_iload_n (pc := 15) 2 dX7_seller_15 rfl rfl ?_
    obtain ⟨q16, e16, hf⟩ := Option.bind_eq_some_iff.mp hf
    refine ym_callS (pc := 16) (G2 := g_X7_whyNoLot) (dep2 := 1) (As := [.int a1]) (st := [va_rf a0]) (stk2 := [.int q16.1, va_rf a0]) (r2 := (some (.int q16.1))) (h1 := q16.2) dX7_seller_16 (ok_X7_whyNoLot e16) (sc_X7_seller_X7_whyNoLot) wd_375 wd_376 rfl rfl (ym_st4 (Nat.le_of_ble_eq_true rfl)) rfl ?_
    obtain ⟨o19, f19, hf⟩ := Option.bind_eq_some_iff.mp hf
    obtain ⟨q19, e19, hf⟩ := Option.bind_eq_some_iff.mp hf
    refine ym_callV (pc := 19) (G2 := g_X7_refuse) (dep2 := 4) (As := [.int q16.1]) (st := []) (stk2 := [.long q19.1]) (r2 := (some (.long q19.1))) (h1 := q19.2) dX7_seller_19 (ok_X7_refuse e19) (sc_X7_seller_X7_refuse) wd_229 wd_231 wd_1 (ci := 7) (q0 := (RX7, TX7, 10)) rfl (by decide) rfl f19 rfl rfl (ym_st4 (Nat.le_of_ble_eq_true rfl)) rfl ?_
    cases hf
    exact ym_lret (pc := 22) dX7_seller_22 rfl
  · rw [if_neg c11] at hf
    refine ym_ifnonnull_n (pc := 11) (tgt := 23) dX7_seller_11 (by decide) c11 ?_
    refine ym_aload_n (pc := 23) 1 dX7_seller_23 rfl rfl ?_
    refine ym_iload_n (pc := 24) 3 dX7_seller_24 rfl rfl ?_
    obtain ⟨o25, f25, hf⟩ := Option.bind_eq_some_iff.mp hf
    obtain ⟨q25, e25, hf⟩ := Option.bind_eq_some_iff.mp hf
    refine ym_callV (pc := 25) (G2 := g_X7_bidderWith) (dep2 := 3) (As := [.int a2]) (st := []) (stk2 := [va_rf q25.1]) (r2 := (some (va_rf q25.1))) (h1 := q25.2) dX7_seller_25 (ok_X7_bidderWith e25) (sc_X7_seller_X7_bidderWith) wd_378 wd_380 wd_6 (ci := 7) (q0 := (RX7, TX7, 10)) rfl (by decide) rfl f25 rfl rfl (ym_st4 (Nat.le_of_ble_eq_true rfl)) rfl ?_
    by_cases c28 : q25.1 = none
    · rw [if_pos c28] at hf
      refine ym_ifnonnull_y (pc := 28) (tgt := 40) dX7_seller_28 (by decide) c28 ?_
      refine ym_aload_n (pc := 31) 1 dX7_seller_31 rfl rfl ?_
      refine ym_iload_n (pc := 32) 3 dX7_seller_32 rfl rfl ?_
      obtain ⟨q33, e33, hf⟩ := Option.bind_eq_some_iff.mp hf
      refine ym_callS (pc := 33) (G2 := g_X7_whyNoBidder) (dep2 := 1) (As := [.int a2]) (st := [va_rf a0]) (stk2 := [.int q33.1, va_rf a0]) (r2 := (some (.int q33.1))) (h1 := q33.2) dX7_seller_33 (ok_X7_whyNoBidder e33) (sc_X7_seller_X7_whyNoBidder) wd_382 wd_383 rfl rfl (ym_st4 (Nat.le_of_ble_eq_true rfl)) rfl ?_
      obtain ⟨o36, f36, hf⟩ := Option.bind_eq_some_iff.mp hf
      obtain ⟨q36, e36, hf⟩ := Option.bind_eq_some_iff.mp hf
      refine ym_callV (pc := 36) (G2 := g_X7_refuse) (dep2 := 4) (As := [.int q33.1]) (st := []) (stk2 := [.long q36.1]) (r2 := (some (.long q36.1))) (h1 := q36.2) dX7_seller_36 (ok_X7_refuse e36) (sc_X7_seller_X7_refuse) wd_229 wd_231 wd_1 (ci := 7) (q0 := (RX7, TX7, 10)) rfl (by decide) rfl f36 rfl rfl (ym_st4 (Nat.le_of_ble_eq_true rfl)) rfl ?_
      cases hf
      exact ym_lret (pc := 39) dX7_seller_39 rfl
    · rw [if_neg c28] at hf
      refine ym_ifnonnull_n (pc := 28) (tgt := 40) dX7_seller_28 (by decide) c28 ?_
      refine ym_aload_n (pc := 40) 0 dX7_seller_40 rfl rfl ?_
      obtain ⟨o41, f41, hf⟩ := Option.bind_eq_some_iff.mp hf
      obtain ⟨q41, e41, hf⟩ := Option.bind_eq_some_iff.mp hf
      refine ym_callV (pc := 41) (G2 := g_X4_stateNow) (dep2 := 2) (As := []) (st := []) (stk2 := [.int q41.1]) (r2 := (some (.int q41.1))) (h1 := q41.2) dX7_seller_41 (ok_X4_stateNow e41) (sc_X7_seller_X4_stateNow) wd_385 wd_386 wd_387 (ci := 4) (q0 := (RX4, TX4, 6)) rfl (by decide) rfl f41 rfl rfl (ym_st4 (Nat.le_of_ble_eq_true rfl)) rfl ?_
      by_cases c44 : q41.1 = 0
      · rw [if_pos c44] at hf
        refine ym_if_eq_y (pc := 44) (tgt := 54) dX7_seller_44 (by decide) c44 ?_
        refine ym_aload_n (pc := 54) 0 dX7_seller_54 rfl rfl ?_
        obtain ⟨v55, e55, hf⟩ := Option.bind_eq_some_iff.mp hf
        refine ym_getN (pc := 55) dX7_seller_55 rfl (by decide) iX4 (k := 5) (by decide) wd_353 (ym_gR_v e55) ?_
        refine ym_iload_n (pc := 58) 3 dX7_seller_58 rfl rfl ?_
        obtain ⟨o59, f59, hf⟩ := Option.bind_eq_some_iff.mp hf
        obtain ⟨q59, e59, hf⟩ := Option.bind_eq_some_iff.mp hf
        refine ym_callV (pc := 59) (G2 := g_X5_rowOf) (dep2 := 3) (As := [.int a2]) (st := []) (stk2 := [.int q59.1]) (r2 := (some (.int q59.1))) (h1 := q59.2) dX7_seller_59 (ok_X5_rowOf e59) (sc_X7_seller_X5_rowOf) wd_390 wd_391 wd_392 (ci := 5) (q0 := (RX5, TX5, 2)) rfl (by decide) rfl f59 rfl rfl (ym_st4 (Nat.le_of_ble_eq_true rfl)) rfl ?_
        refine ym_iconst (pc := 62) (v := (-1)) dX7_seller_62 (by decide) ?_
        by_cases c63 : q59.1 = (-1)
        · rw [if_pos c63] at hf
          refine ym_icmp_eq_y (pc := 63) (tgt := 73) dX7_seller_63 (by decide) c63 ?_
          refine ym_aload_n (pc := 73) 0 dX7_seller_73 rfl rfl ?_
          obtain ⟨v74, e74, hf⟩ := Option.bind_eq_some_iff.mp hf
          refine ym_getN (pc := 74) dX7_seller_74 rfl (by decide) iX4 (k := 5) (by decide) wd_353 (ym_gR_v e74) ?_
          obtain ⟨o77, f77, hf⟩ := Option.bind_eq_some_iff.mp hf
          obtain ⟨q77, e77, hf⟩ := Option.bind_eq_some_iff.mp hf
          refine ym_callV (pc := 77) (G2 := g_X5_rows) (dep2 := 2) (As := []) (st := []) (stk2 := [.int q77.1]) (r2 := (some (.int q77.1))) (h1 := q77.2) dX7_seller_77 (ok_X5_rows e77) (sc_X7_seller_X5_rows) wd_403 wd_395 wd_396 (ci := 5) (q0 := (RX5, TX5, 2)) rfl (by decide) rfl f77 rfl rfl (ym_st4 (Nat.le_of_ble_eq_true rfl)) rfl ?_
          refine ym_iconst (pc := 80) (v := 4) dX7_seller_80 (by decide) ?_
          by_cases c81 : q77.1 < 4
          · rw [if_pos c81] at hf
            refine ym_icmp_lt_y (pc := 81) (tgt := 91) dX7_seller_81 (by decide) c81 ?_
            refine ym_aload_n (pc := 91) 0 dX7_seller_91 rfl rfl ?_
            obtain ⟨v92, e92, hf⟩ := Option.bind_eq_some_iff.mp hf
            refine ym_getN (pc := 92) dX7_seller_92 rfl (by decide) iX4 (k := 5) (by decide) wd_353 (ym_gR_v e92) ?_
            refine ym_aload_n (pc := 95) 0 dX7_seller_95 rfl rfl ?_
            obtain ⟨v96, e96, hf⟩ := Option.bind_eq_some_iff.mp hf
            refine ym_getN (pc := 96) dX7_seller_96 rfl (by decide) iX4 (k := 5) (by decide) wd_353 (ym_gR_v e96) ?_
            obtain ⟨o99, f99, hf⟩ := Option.bind_eq_some_iff.mp hf
            obtain ⟨q99, e99, hf⟩ := Option.bind_eq_some_iff.mp hf
            refine ym_callV (pc := 99) (G2 := g_X5_addRow) (dep2 := 5) (As := []) (st := [va_rf v92]) (stk2 := [.int q99.1, va_rf v92]) (r2 := (some (.int q99.1))) (h1 := q99.2) dX7_seller_99 (ok_X5_addRow e99) (sc_X7_seller_X5_addRow) wd_404 wd_405 wd_406 (ci := 5) (q0 := (RX5, TX5, 2)) rfl (by decide) rfl f99 rfl rfl (ym_st4 (Nat.le_of_ble_eq_true rfl)) rfl ?_
            refine ym_iconst (pc := 102) (v := 0) dX7_seller_102 (by decide) ?_
            refine ym_iload_n (pc := 103) 3 dX7_seller_103 rfl rfl ?_
            refine ym_i2l (pc := 104) dX7_seller_104 ?_
            obtain ⟨o105, f105, hf⟩ := Option.bind_eq_some_iff.mp hf
            obtain ⟨q105, e105, hf⟩ := Option.bind_eq_some_iff.mp hf
            refine ym_callV (pc := 105) (G2 := g_X5_put) (dep2 := 5) (As := [.int q99.1, .int 0, .long (Int32.toInt64 a2)]) (st := []) (stk2 := []) (r2 := none) (h1 := q105.2) dX7_seller_105 (ok_X5_put e105) (sc_X7_seller_X5_put) wd_409 wd_410 wd_411 (ci := 5) (q0 := (RX5, TX5, 2)) rfl (by decide) rfl f105 rfl rfl (ym_st4 (Nat.le_of_ble_eq_true rfl)) rfl ?_
            refine ym_aload_n (pc := 108) 0 dX7_seller_108 rfl rfl ?_
            obtain ⟨v109, e109, hf⟩ := Option.bind_eq_some_iff.mp hf
            refine ym_getN (pc := 109) dX7_seller_109 rfl (by decide) iX4 (k := 5) (by decide) wd_353 (ym_gR_v e109) ?_
            obtain ⟨o112, f112, hf⟩ := Option.bind_eq_some_iff.mp hf
            obtain ⟨q112, e112, hf⟩ := Option.bind_eq_some_iff.mp hf
            refine ym_callV (pc := 112) (G2 := g_X5_rows) (dep2 := 2) (As := []) (st := []) (stk2 := [.int q112.1]) (r2 := (some (.int q112.1))) (h1 := q112.2) dX7_seller_112 (ok_X5_rows e112) (sc_X7_seller_X5_rows) wd_403 wd_395 wd_396 (ci := 5) (q0 := (RX5, TX5, 2)) rfl (by decide) rfl f112 rfl rfl (ym_st4 (Nat.le_of_ble_eq_true rfl)) rfl ?_
            refine ym_i2l (pc := 115) dX7_seller_115 ?_
            cases hf
            exact ym_lret (pc := 116) dX7_seller_116 rfl
          · rw [if_neg c81] at hf
            refine ym_icmp_lt_n (pc := 81) (tgt := 91) dX7_seller_81 (by decide) c81 ?_
            refine ym_aload_n (pc := 84) 1 dX7_seller_84 rfl rfl ?_
            refine ym_bipush (pc := 85) (v := 12) dX7_seller_85 (by decide) ?_
            obtain ⟨o87, f87, hf⟩ := Option.bind_eq_some_iff.mp hf
            obtain ⟨q87, e87, hf⟩ := Option.bind_eq_some_iff.mp hf
            refine ym_callV (pc := 87) (G2 := g_X7_refuse) (dep2 := 4) (As := [.int 12]) (st := []) (stk2 := [.long q87.1]) (r2 := (some (.long q87.1))) (h1 := q87.2) dX7_seller_87 (ok_X7_refuse e87) (sc_X7_seller_X7_refuse) wd_229 wd_231 wd_1 (ci := 7) (q0 := (RX7, TX7, 10)) rfl (by decide) rfl f87 rfl rfl (ym_st4 (Nat.le_of_ble_eq_true rfl)) rfl ?_
            cases hf
            exact ym_lret (pc := 90) dX7_seller_90 rfl
        · rw [if_neg c63] at hf
          refine ym_icmp_eq_n (pc := 63) (tgt := 73) dX7_seller_63 (by decide) c63 ?_
          refine ym_aload_n (pc := 66) 1 dX7_seller_66 rfl rfl ?_
          refine ym_bipush (pc := 67) (v := 8) dX7_seller_67 (by decide) ?_
          obtain ⟨o69, f69, hf⟩ := Option.bind_eq_some_iff.mp hf
          obtain ⟨q69, e69, hf⟩ := Option.bind_eq_some_iff.mp hf
          refine ym_callV (pc := 69) (G2 := g_X7_refuse) (dep2 := 4) (As := [.int 8]) (st := []) (stk2 := [.long q69.1]) (r2 := (some (.long q69.1))) (h1 := q69.2) dX7_seller_69 (ok_X7_refuse e69) (sc_X7_seller_X7_refuse) wd_229 wd_231 wd_1 (ci := 7) (q0 := (RX7, TX7, 10)) rfl (by decide) rfl f69 rfl rfl (ym_st4 (Nat.le_of_ble_eq_true rfl)) rfl ?_
          cases hf
          exact ym_lret (pc := 72) dX7_seller_72 rfl
      · rw [if_neg c44] at hf
        refine ym_if_eq_n (pc := 44) (tgt := 54) dX7_seller_44 (by decide) c44 ?_
        refine ym_aload_n (pc := 47) 1 dX7_seller_47 rfl rfl ?_
        refine ym_bipush (pc := 48) (v := 9) dX7_seller_48 (by decide) ?_
        obtain ⟨o50, f50, hf⟩ := Option.bind_eq_some_iff.mp hf
        obtain ⟨q50, e50, hf⟩ := Option.bind_eq_some_iff.mp hf
        refine ym_callV (pc := 50) (G2 := g_X7_refuse) (dep2 := 4) (As := [.int 9]) (st := []) (stk2 := [.long q50.1]) (r2 := (some (.long q50.1))) (h1 := q50.2) dX7_seller_50 (ok_X7_refuse e50) (sc_X7_seller_X7_refuse) wd_229 wd_231 wd_1 (ci := 7) (q0 := (RX7, TX7, 10)) rfl (by decide) rfl f50 rfl rfl (ym_st4 (Nat.le_of_ble_eq_true rfl)) rfl ?_
        cases hf
        exact ym_lret (pc := 53) dX7_seller_53 rfl
