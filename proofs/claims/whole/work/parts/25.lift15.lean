theorem dX8_took_0 : decode cX8_took 0 = .ok (.aload_n 0, 1) := by decide +kernel
theorem dX8_took_1 : decode cX8_took 1 = .ok (.iload_n 1, 1) := by decide +kernel
theorem dX8_took_2 : decode cX8_took 2 = .ok (.iconst 5, 1) := by decide +kernel
theorem dX8_took_3 : decode cX8_took 3 = .ok (.invokevirtual 393, 3) := by decide +kernel
theorem dX8_took_6 : decode cX8_took 6 = .ok (.ifCond .le 12, 3) := by decide +kernel
theorem dX8_took_9 : decode cX8_took 9 = .ok (.aload_n 0, 1) := by decide +kernel
theorem dX8_took_10 : decode cX8_took 10 = .ok (.iload_n 1, 1) := by decide +kernel
theorem dX8_took_11 : decode cX8_took 11 = .ok (.iconst 5, 1) := by decide +kernel
theorem dX8_took_12 : decode cX8_took 12 = .ok (.invokevirtual 393, 3) := by decide +kernel
theorem dX8_took_15 : decode cX8_took 15 = .ok (.ineg, 1) := by decide +kernel
theorem dX8_took_16 : decode cX8_took 16 = .ok (.i2l, 1) := by decide +kernel
theorem dX8_took_17 : decode cX8_took 17 = .ok (.lreturn, 1) := by decide +kernel
theorem dX8_took_18 : decode cX8_took 18 = .ok (.aload_n 0, 1) := by decide +kernel
theorem dX8_took_19 : decode cX8_took 19 = .ok (.iload_n 2, 1) := by decide +kernel
theorem dX8_took_20 : decode cX8_took 20 = .ok (.invokevirtual 343, 3) := by decide +kernel
theorem dX8_took_23 : decode cX8_took 23 = .ok (.ifCond .le 11, 3) := by decide +kernel
theorem dX8_took_26 : decode cX8_took 26 = .ok (.aload_n 0, 1) := by decide +kernel
theorem dX8_took_27 : decode cX8_took 27 = .ok (.iload_n 2, 1) := by decide +kernel
theorem dX8_took_28 : decode cX8_took 28 = .ok (.invokevirtual 343, 3) := by decide +kernel
theorem dX8_took_31 : decode cX8_took 31 = .ok (.ineg, 1) := by decide +kernel
theorem dX8_took_32 : decode cX8_took 32 = .ok (.i2l, 1) := by decide +kernel
theorem dX8_took_33 : decode cX8_took 33 = .ok (.lreturn, 1) := by decide +kernel
theorem dX8_took_34 : decode cX8_took 34 = .ok (.aload_n 0, 1) := by decide +kernel
theorem dX8_took_35 : decode cX8_took 35 = .ok (.getfield 9, 3) := by decide +kernel
theorem dX8_took_38 : decode cX8_took 38 = .ok (.iload_n 2, 1) := by decide +kernel
theorem dX8_took_39 : decode cX8_took 39 = .ok (.iaload, 1) := by decide +kernel
theorem dX8_took_40 : decode cX8_took 40 = .ok (.iconst 1, 1) := by decide +kernel
theorem dX8_took_41 : decode cX8_took 41 = .ok (.if_icmp .eq 7, 3) := by decide +kernel
theorem dX8_took_44 : decode cX8_took 44 = .ok (.ldc2_w 359, 3) := by decide +kernel
theorem dX8_took_47 : decode cX8_took 47 = .ok (.lreturn, 1) := by decide +kernel
theorem dX8_took_48 : decode cX8_took 48 = .ok (.aload_n 0, 1) := by decide +kernel
theorem dX8_took_49 : decode cX8_took 49 = .ok (.iload_n 1, 1) := by decide +kernel
theorem dX8_took_50 : decode cX8_took 50 = .ok (.invokevirtual 361, 3) := by decide +kernel
theorem dX8_took_53 : decode cX8_took 53 = .ok (.ifCond .le 11, 3) := by decide +kernel
theorem dX8_took_56 : decode cX8_took 56 = .ok (.aload_n 0, 1) := by decide +kernel
theorem dX8_took_57 : decode cX8_took 57 = .ok (.iload_n 1, 1) := by decide +kernel
theorem dX8_took_58 : decode cX8_took 58 = .ok (.invokevirtual 361, 3) := by decide +kernel
theorem dX8_took_61 : decode cX8_took 61 = .ok (.ineg, 1) := by decide +kernel
theorem dX8_took_62 : decode cX8_took 62 = .ok (.i2l, 1) := by decide +kernel
theorem dX8_took_63 : decode cX8_took 63 = .ok (.lreturn, 1) := by decide +kernel
theorem dX8_took_64 : decode cX8_took 64 = .ok (.aload_n 0, 1) := by decide +kernel
theorem dX8_took_65 : decode cX8_took 65 = .ok (.iload_n 1, 1) := by decide +kernel
theorem dX8_took_66 : decode cX8_took 66 = .ok (.invokevirtual 298, 3) := by decide +kernel
theorem dX8_took_69 : decode cX8_took 69 = .ok (.ifCond .lt 7, 3) := by decide +kernel
theorem dX8_took_72 : decode cX8_took 72 = .ok (.ldc2_w 348, 3) := by decide +kernel
theorem dX8_took_75 : decode cX8_took 75 = .ok (.lreturn, 1) := by decide +kernel
theorem dX8_took_76 : decode cX8_took 76 = .ok (.aload_n 0, 1) := by decide +kernel
theorem dX8_took_77 : decode cX8_took 77 = .ok (.iload_n 1, 1) := by decide +kernel
theorem dX8_took_78 : decode cX8_took 78 = .ok (.iload_n 2, 1) := by decide +kernel
theorem dX8_took_79 : decode cX8_took 79 = .ok (.aload_n 0, 1) := by decide +kernel
theorem dX8_took_80 : decode cX8_took 80 = .ok (.getfield 35, 3) := by decide +kernel
theorem dX8_took_83 : decode cX8_took 83 = .ok (.iload_n 1, 1) := by decide +kernel
theorem dX8_took_84 : decode cX8_took 84 = .ok (.laload, 1) := by decide +kernel
theorem dX8_took_85 : decode cX8_took 85 = .ok (.invokevirtual 382, 3) := by decide +kernel
theorem dX8_took_88 : decode cX8_took 88 = .ok (.aload_n 0, 1) := by decide +kernel
theorem dX8_took_89 : decode cX8_took 89 = .ok (.getfield 35, 3) := by decide +kernel
theorem dX8_took_92 : decode cX8_took 92 = .ok (.iload_n 1, 1) := by decide +kernel
theorem dX8_took_93 : decode cX8_took 93 = .ok (.laload, 1) := by decide +kernel
theorem dX8_took_94 : decode cX8_took 94 = .ok (.lreturn, 1) := by decide +kernel
theorem sc_X8_took_X8_noLotOf : ym_site g_X8_took g_X8_noLotOf 3 2 2 := ⟨by decide, by decide, wd_1178, wd_83, by decide +kernel⟩
theorem sc_X8_took_X8_noBidder : ym_site g_X8_took g_X8_noBidder 3 1 1 := ⟨by decide, by decide, wd_1062, wd_83, by decide +kernel⟩
theorem sc_X8_took_X8_notOpen : ym_site g_X8_took g_X8_notOpen 3 1 1 := ⟨by decide, by decide, wd_1130, wd_83, by decide +kernel⟩
theorem sc_X8_took_X8_standing : ym_site g_X8_took g_X8_standing 3 1 1 := ⟨by decide, by decide, wd_1107, wd_83, by decide +kernel⟩
theorem sc_X8_took_X8_enter : ym_site g_X8_took g_X8_enter 3 2 3 := ⟨by decide, by decide, wd_1115, wd_83, by decide +kernel⟩
def fn_X8_took (N : Nat) (a0 : Option Nat) (a1 : Int32) (a2 : Int32) (h : ym_H) : Option (Int64 × ym_H) :=
  Option.bind (ym_ob h a0 8) fun o3 =>
  Option.bind (fn_X8_noLotOf N a0 a1 5 h) fun q3 =>
  if q3.1 ≤ 0 then
    Option.bind (ym_ob q3.2 a0 8) fun o20 =>
    Option.bind (fn_X8_noBidder N a0 a2 q3.2) fun q20 =>
    if q20.1 ≤ 0 then
      Option.bind (ym_gR q20.2 a0 8 1) fun v35 =>
      Option.bind (ym_ldI q20.2 v35 a2) fun v39 =>
      if v39 = 1 then
        Option.bind (ym_ob q20.2 a0 8) fun o50 =>
        Option.bind (fn_X8_notOpen N a0 a1 q20.2) fun q50 =>
        if q50.1 ≤ 0 then
          Option.bind (ym_ob q50.2 a0 8) fun o66 =>
          Option.bind (fn_X8_standing N a0 a1 q50.2) fun q66 =>
          if q66.1 < 0 then
            Option.bind (ym_gR q66.2 a0 8 10) fun v80 =>
            Option.bind (ym_ldL q66.2 v80 a1) fun v84 =>
            Option.bind (ym_ob q66.2 a0 8) fun o85 =>
            Option.bind (fn_X8_enter N a0 a1 a2 v84 q66.2) fun q85 =>
            Option.bind (ym_gR q85.2 a0 8 10) fun v89 =>
            Option.bind (ym_ldL q85.2 v89 a1) fun v93 =>
            some (v93, q85.2)
          else
            some ((-8), q66.2)
        else
          Option.bind (ym_ob q50.2 a0 8) fun o58 =>
          Option.bind (fn_X8_notOpen N a0 a1 q50.2) fun q58 =>
          some ((Int32.toInt64 (-q58.1)), q58.2)
      else
        some ((-4), q20.2)
    else
      Option.bind (ym_ob q20.2 a0 8) fun o28 =>
      Option.bind (fn_X8_noBidder N a0 a2 q20.2) fun q28 =>
      some ((Int32.toInt64 (-q28.1)), q28.2)
  else
    Option.bind (ym_ob q3.2 a0 8) fun o12 =>
    Option.bind (fn_X8_noLotOf N a0 a1 5 q3.2) fun q12 =>
    some ((Int32.toInt64 (-q12.1)), q12.2)
set_option maxRecDepth 20000 in
set_option maxHeartbeats 4000000 in
theorem ok_X8_took {D : ym_D} {b0 : Nat} {N : Nat} {a0 : Option Nat} {a1 : Int32} {a2 : Int32} {h h' : ym_H} {r : Int64} (hf : fn_X8_took N a0 a1 a2 h = some (r, h')) : ym_M D b0 g_X8_took 3 [va_rf a0, .int a1, .int a2] h (some (.long r)) h' := by
  unfold fn_X8_took at hf
  refine ym_meth (lv := [(0, va_rf a0), (1, .int a1), (2, .int a2)]) (by decide) (by simp [lg_sl, ym_c1, ym_cI, ym_cL, g_X8_took]) (by simp [lv_args, ym_c1, ym_cI, ym_cL]) ?_
  refine ym_aload_n (pc := 0) 0 dX8_took_0 rfl rfl ?_
  refine ym_iload_n (pc := 1) 1 dX8_took_1 rfl rfl ?_
  refine ym_iconst (pc := 2) (v := 5) dX8_took_2 (by decide) ?_
  obtain ⟨o3, f3, hf⟩ := Option.bind_eq_some_iff.mp hf
  obtain ⟨q3, e3, hf⟩ := Option.bind_eq_some_iff.mp hf
  refine ym_callV (pc := 3) (G2 := g_X8_noLotOf) (dep2 := 2) (As := [.int a1, .int 5]) (st := []) (stk2 := [.int q3.1]) (r2 := (some (.int q3.1))) (h1 := q3.2) dX8_took_3 (ok_X8_noLotOf e3) (sc_X8_took_X8_noLotOf) wd_1175 wd_1177 wd_52 (ci := 8) (q0 := (RX8, TX8, 58)) rfl (by decide) rfl f3 rfl rfl (ym_st4 (Nat.le_of_ble_eq_true rfl)) rfl ?_
  by_cases c6 : q3.1 ≤ 0
  · rw [if_pos c6] at hf
    refine ym_if_le_y (pc := 6) (tgt := 18) dX8_took_6 (by decide) c6 ?_
    refine ym_aload_n (pc := 18) 0 dX8_took_18 rfl rfl ?_
    refine ym_iload_n (pc := 19) 2 dX8_took_19 rfl rfl ?_
    obtain ⟨o20, f20, hf⟩ := Option.bind_eq_some_iff.mp hf
    obtain ⟨q20, e20, hf⟩ := Option.bind_eq_some_iff.mp hf
    refine ym_callV (pc := 20) (G2 := g_X8_noBidder) (dep2 := 1) (As := [.int a2]) (st := []) (stk2 := [.int q20.1]) (r2 := (some (.int q20.1))) (h1 := q20.2) dX8_took_20 (ok_X8_noBidder e20) (sc_X8_took_X8_noBidder) wd_1059 wd_1061 wd_28 (ci := 8) (q0 := (RX8, TX8, 58)) rfl (by decide) rfl f20 rfl rfl (ym_st4 (Nat.le_of_ble_eq_true rfl)) rfl ?_
    by_cases c23 : q20.1 ≤ 0
    · rw [if_pos c23] at hf
      refine ym_if_le_y (pc := 23) (tgt := 34) dX8_took_23 (by decide) c23 ?_
      refine ym_aload_n (pc := 34) 0 dX8_took_34 rfl rfl ?_
      obtain ⟨v35, e35, hf⟩ := Option.bind_eq_some_iff.mp hf
      refine ym_get (pc := 35) dX8_took_35 rfl (by decide) iX8 (k := 1) (by decide) wd_846 (ym_gR_v e35) ?_
      refine ym_iload_n (pc := 38) 2 dX8_took_38 rfl rfl ?_
      obtain ⟨v39, e39, hf⟩ := Option.bind_eq_some_iff.mp hf
      refine ym_iald (pc := 39) dX8_took_39 rfl (ym_ldI_v e39) ?_
      refine ym_iconst (pc := 40) (v := 1) dX8_took_40 (by decide) ?_
      by_cases c41 : v39 = 1
      · rw [if_pos c41] at hf
        refine ym_icmp_eq_y (pc := 41) (tgt := 48) dX8_took_41 (by decide) c41 ?_
        refine ym_aload_n (pc := 48) 0 dX8_took_48 rfl rfl ?_
        refine ym_iload_n (pc := 49) 1 dX8_took_49 rfl rfl ?_
        obtain ⟨o50, f50, hf⟩ := Option.bind_eq_some_iff.mp hf
        obtain ⟨q50, e50, hf⟩ := Option.bind_eq_some_iff.mp hf
        refine ym_callV (pc := 50) (G2 := g_X8_notOpen) (dep2 := 1) (As := [.int a1]) (st := []) (stk2 := [.int q50.1]) (r2 := (some (.int q50.1))) (h1 := q50.2) dX8_took_50 (ok_X8_notOpen e50) (sc_X8_took_X8_notOpen) wd_1127 wd_1129 wd_41 (ci := 8) (q0 := (RX8, TX8, 58)) rfl (by decide) rfl f50 rfl rfl (ym_st4 (Nat.le_of_ble_eq_true rfl)) rfl ?_
        by_cases c53 : q50.1 ≤ 0
        · rw [if_pos c53] at hf
          refine ym_if_le_y (pc := 53) (tgt := 64) dX8_took_53 (by decide) c53 ?_
          refine ym_aload_n (pc := 64) 0 dX8_took_64 rfl rfl ?_
          refine ym_iload_n (pc := 65) 1 dX8_took_65 rfl rfl ?_
          obtain ⟨o66, f66, hf⟩ := Option.bind_eq_some_iff.mp hf
          obtain ⟨q66, e66, hf⟩ := Option.bind_eq_some_iff.mp hf
          refine ym_callV (pc := 66) (G2 := g_X8_standing) (dep2 := 1) (As := [.int a1]) (st := []) (stk2 := [.int q66.1]) (r2 := (some (.int q66.1))) (h1 := q66.2) dX8_took_66 (ok_X8_standing e66) (sc_X8_took_X8_standing) wd_1104 wd_1106 wd_37 (ci := 8) (q0 := (RX8, TX8, 58)) rfl (by decide) rfl f66 rfl rfl (ym_st4 (Nat.le_of_ble_eq_true rfl)) rfl ?_
          by_cases c69 : q66.1 < 0
          · rw [if_pos c69] at hf
            refine ym_if_lt_y (pc := 69) (tgt := 76) dX8_took_69 (by decide) c69 ?_
            refine ym_aload_n (pc := 76) 0 dX8_took_76 rfl rfl ?_
            refine ym_iload_n (pc := 77) 1 dX8_took_77 rfl rfl ?_
            refine ym_iload_n (pc := 78) 2 dX8_took_78 rfl rfl ?_
            refine ym_aload_n (pc := 79) 0 dX8_took_79 rfl rfl ?_
            obtain ⟨v80, e80, hf⟩ := Option.bind_eq_some_iff.mp hf
            refine ym_get (pc := 80) dX8_took_80 rfl (by decide) iX8 (k := 10) (by decide) wd_855 (ym_gR_v e80) ?_
            refine ym_iload_n (pc := 83) 1 dX8_took_83 rfl rfl ?_
            obtain ⟨v84, e84, hf⟩ := Option.bind_eq_some_iff.mp hf
            refine ym_lald (pc := 84) dX8_took_84 rfl (ym_ldL_v e84) ?_
            obtain ⟨o85, f85, hf⟩ := Option.bind_eq_some_iff.mp hf
            obtain ⟨q85, e85, hf⟩ := Option.bind_eq_some_iff.mp hf
            refine ym_callV (pc := 85) (G2 := g_X8_enter) (dep2 := 2) (As := [.int a1, .int a2, .long v84]) (st := []) (stk2 := []) (r2 := none) (h1 := q85.2) dX8_took_85 (ok_X8_enter e85) (sc_X8_took_X8_enter) wd_1112 wd_1114 wd_39 (ci := 8) (q0 := (RX8, TX8, 58)) rfl (by decide) rfl f85 rfl rfl (ym_st4 (Nat.le_of_ble_eq_true rfl)) rfl ?_
            refine ym_aload_n (pc := 88) 0 dX8_took_88 rfl rfl ?_
            obtain ⟨v89, e89, hf⟩ := Option.bind_eq_some_iff.mp hf
            refine ym_get (pc := 89) dX8_took_89 rfl (by decide) iX8 (k := 10) (by decide) wd_855 (ym_gR_v e89) ?_
            refine ym_iload_n (pc := 92) 1 dX8_took_92 rfl rfl ?_
            obtain ⟨v93, e93, hf⟩ := Option.bind_eq_some_iff.mp hf
            refine ym_lald (pc := 93) dX8_took_93 rfl (ym_ldL_v e93) ?_
            cases hf
            exact ym_lret (pc := 94) dX8_took_94 rfl
          · rw [if_neg c69] at hf
            refine ym_if_lt_n (pc := 69) (tgt := 76) dX8_took_69 (by decide) c69 ?_
            refine ym_ldc2 (pc := 72) dX8_took_72 wd_1064 ?_
            cases hf
            exact ym_lret (pc := 75) dX8_took_75 rfl
        · rw [if_neg c53] at hf
          refine ym_if_le_n (pc := 53) (tgt := 64) dX8_took_53 (by decide) c53 ?_
          refine ym_aload_n (pc := 56) 0 dX8_took_56 rfl rfl ?_
          refine ym_iload_n (pc := 57) 1 dX8_took_57 rfl rfl ?_
          obtain ⟨o58, f58, hf⟩ := Option.bind_eq_some_iff.mp hf
          obtain ⟨q58, e58, hf⟩ := Option.bind_eq_some_iff.mp hf
          refine ym_callV (pc := 58) (G2 := g_X8_notOpen) (dep2 := 1) (As := [.int a1]) (st := []) (stk2 := [.int q58.1]) (r2 := (some (.int q58.1))) (h1 := q58.2) dX8_took_58 (ok_X8_notOpen e58) (sc_X8_took_X8_notOpen) wd_1127 wd_1129 wd_41 (ci := 8) (q0 := (RX8, TX8, 58)) rfl (by decide) rfl f58 rfl rfl (ym_st4 (Nat.le_of_ble_eq_true rfl)) rfl ?_
          refine ym_ineg (pc := 61) dX8_took_61 ?_
          refine ym_i2l (pc := 62) dX8_took_62 ?_
          cases hf
          exact ym_lret (pc := 63) dX8_took_63 rfl
      · rw [if_neg c41] at hf
        refine ym_icmp_eq_n (pc := 41) (tgt := 48) dX8_took_41 (by decide) c41 ?_
        refine ym_ldc2 (pc := 44) dX8_took_44 wd_1126 ?_
        cases hf
        exact ym_lret (pc := 47) dX8_took_47 rfl
    · rw [if_neg c23] at hf
      refine ym_if_le_n (pc := 23) (tgt := 34) dX8_took_23 (by decide) c23 ?_
      refine ym_aload_n (pc := 26) 0 dX8_took_26 rfl rfl ?_
      refine ym_iload_n (pc := 27) 2 dX8_took_27 rfl rfl ?_
      obtain ⟨o28, f28, hf⟩ := Option.bind_eq_some_iff.mp hf
      obtain ⟨q28, e28, hf⟩ := Option.bind_eq_some_iff.mp hf
      refine ym_callV (pc := 28) (G2 := g_X8_noBidder) (dep2 := 1) (As := [.int a2]) (st := []) (stk2 := [.int q28.1]) (r2 := (some (.int q28.1))) (h1 := q28.2) dX8_took_28 (ok_X8_noBidder e28) (sc_X8_took_X8_noBidder) wd_1059 wd_1061 wd_28 (ci := 8) (q0 := (RX8, TX8, 58)) rfl (by decide) rfl f28 rfl rfl (ym_st4 (Nat.le_of_ble_eq_true rfl)) rfl ?_
      refine ym_ineg (pc := 31) dX8_took_31 ?_
      refine ym_i2l (pc := 32) dX8_took_32 ?_
      cases hf
      exact ym_lret (pc := 33) dX8_took_33 rfl
  · rw [if_neg c6] at hf
    refine ym_if_le_n (pc := 6) (tgt := 18) dX8_took_6 (by decide) c6 ?_
    refine ym_aload_n (pc := 9) 0 dX8_took_9 rfl rfl ?_
    refine ym_iload_n (pc := 10) 1 dX8_took_10 rfl rfl ?_
    refine ym_iconst (pc := 11) (v := 5) dX8_took_11 (by decide) ?_
    obtain ⟨o12, f12, hf⟩ := Option.bind_eq_some_iff.mp hf
    obtain ⟨q12, e12, hf⟩ := Option.bind_eq_some_iff.mp hf
    refine ym_callV (pc := 12) (G2 := g_X8_noLotOf) (dep2 := 2) (As := [.int a1, .int 5]) (st := []) (stk2 := [.int q12.1]) (r2 := (some (.int q12.1))) (h1 := q12.2) dX8_took_12 (ok_X8_noLotOf e12) (sc_X8_took_X8_noLotOf) wd_1175 wd_1177 wd_52 (ci := 8) (q0 := (RX8, TX8, 58)) rfl (by decide) rfl f12 rfl rfl (ym_st4 (Nat.le_of_ble_eq_true rfl)) rfl ?_
    refine ym_ineg (pc := 15) dX8_took_15 ?_
    refine ym_i2l (pc := 16) dX8_took_16 ?_
    cases hf
    exact ym_lret (pc := 17) dX8_took_17 rfl
theorem dX8_soldOf_0 : decode cX8_soldOf 0 = .ok (.aload_n 0, 1) := by decide +kernel
theorem dX8_soldOf_1 : decode cX8_soldOf 1 = .ok (.getfield 20, 3) := by decide +kernel
theorem dX8_soldOf_4 : decode cX8_soldOf 4 = .ok (.iload_n 1, 1) := by decide +kernel
theorem dX8_soldOf_5 : decode cX8_soldOf 5 = .ok (.iaload, 1) := by decide +kernel
theorem dX8_soldOf_6 : decode cX8_soldOf 6 = .ok (.iconst 5, 1) := by decide +kernel
theorem dX8_soldOf_7 : decode cX8_soldOf 7 = .ok (.if_icmp .ne 23, 3) := by decide +kernel
theorem dX8_soldOf_10 : decode cX8_soldOf 10 = .ok (.aload_n 0, 1) := by decide +kernel
theorem dX8_soldOf_11 : decode cX8_soldOf 11 = .ok (.bipush 13, 2) := by decide +kernel
theorem dX8_soldOf_13 : decode cX8_soldOf 13 = .ok (.invokevirtual 309, 3) := by decide +kernel
theorem dX8_soldOf_16 : decode cX8_soldOf 16 = .ok (.aload_n 0, 1) := by decide +kernel
theorem dX8_soldOf_17 : decode cX8_soldOf 17 = .ok (.iload_n 1, 1) := by decide +kernel
theorem dX8_soldOf_18 : decode cX8_soldOf 18 = .ok (.invokevirtual 298, 3) := by decide +kernel
theorem dX8_soldOf_21 : decode cX8_soldOf 21 = .ok (.ifCond .lt 7, 3) := by decide +kernel
theorem dX8_soldOf_24 : decode cX8_soldOf 24 = .ok (.iconst 1, 1) := by decide +kernel
theorem dX8_soldOf_25 : decode cX8_soldOf 25 = .ok (.goto 4, 3) := by decide +kernel
theorem dX8_soldOf_28 : decode cX8_soldOf 28 = .ok (.iconst 0, 1) := by decide +kernel
theorem dX8_soldOf_29 : decode cX8_soldOf 29 = .ok (.ireturn, 1) := by decide +kernel
theorem dX8_soldOf_30 : decode cX8_soldOf 30 = .ok (.aload_n 0, 1) := by decide +kernel
theorem dX8_soldOf_31 : decode cX8_soldOf 31 = .ok (.getfield 20, 3) := by decide +kernel
theorem dX8_soldOf_34 : decode cX8_soldOf 34 = .ok (.iload_n 1, 1) := by decide +kernel
theorem dX8_soldOf_35 : decode cX8_soldOf 35 = .ok (.iaload, 1) := by decide +kernel
theorem dX8_soldOf_36 : decode cX8_soldOf 36 = .ok (.iconst 4, 1) := by decide +kernel
theorem dX8_soldOf_37 : decode cX8_soldOf 37 = .ok (.if_icmp .ne 9, 3) := by decide +kernel
theorem dX8_soldOf_40 : decode cX8_soldOf 40 = .ok (.aload_n 0, 1) := by decide +kernel
theorem dX8_soldOf_41 : decode cX8_soldOf 41 = .ok (.bipush 12, 2) := by decide +kernel
theorem dX8_soldOf_43 : decode cX8_soldOf 43 = .ok (.invokevirtual 309, 3) := by decide +kernel
theorem dX8_soldOf_46 : decode cX8_soldOf 46 = .ok (.aload_n 0, 1) := by decide +kernel
theorem dX8_soldOf_47 : decode cX8_soldOf 47 = .ok (.bipush 11, 2) := by decide +kernel
theorem dX8_soldOf_49 : decode cX8_soldOf 49 = .ok (.invokevirtual 309, 3) := by decide +kernel
theorem dX8_soldOf_52 : decode cX8_soldOf 52 = .ok (.aload_n 0, 1) := by decide +kernel
theorem dX8_soldOf_53 : decode cX8_soldOf 53 = .ok (.iload_n 1, 1) := by decide +kernel
theorem dX8_soldOf_54 : decode cX8_soldOf 54 = .ok (.invokevirtual 298, 3) := by decide +kernel
theorem dX8_soldOf_57 : decode cX8_soldOf 57 = .ok (.ifCond .lt 22, 3) := by decide +kernel
theorem dX8_soldOf_60 : decode cX8_soldOf 60 = .ok (.aload_n 0, 1) := by decide +kernel
theorem dX8_soldOf_61 : decode cX8_soldOf 61 = .ok (.iload_n 1, 1) := by decide +kernel
theorem dX8_soldOf_62 : decode cX8_soldOf 62 = .ok (.invokevirtual 312, 3) := by decide +kernel
theorem dX8_soldOf_65 : decode cX8_soldOf 65 = .ok (.aload_n 0, 1) := by decide +kernel
theorem dX8_soldOf_66 : decode cX8_soldOf 66 = .ok (.getfield 26, 3) := by decide +kernel
theorem dX8_soldOf_69 : decode cX8_soldOf 69 = .ok (.iload_n 1, 1) := by decide +kernel
theorem dX8_soldOf_70 : decode cX8_soldOf 70 = .ok (.laload, 1) := by decide +kernel
theorem dX8_soldOf_71 : decode cX8_soldOf 71 = .ok (.lcmp, 1) := by decide +kernel
theorem dX8_soldOf_72 : decode cX8_soldOf 72 = .ok (.ifCond .lt 7, 3) := by decide +kernel
theorem dX8_soldOf_75 : decode cX8_soldOf 75 = .ok (.iconst 1, 1) := by decide +kernel
theorem dX8_soldOf_76 : decode cX8_soldOf 76 = .ok (.goto 4, 3) := by decide +kernel
theorem dX8_soldOf_79 : decode cX8_soldOf 79 = .ok (.iconst 0, 1) := by decide +kernel
theorem dX8_soldOf_80 : decode cX8_soldOf 80 = .ok (.ireturn, 1) := by decide +kernel
theorem sc_X8_soldOf_X8_mark : ym_site g_X8_soldOf g_X8_mark 3 1 1 := ⟨by decide, by decide, wd_1143, wd_83, by decide +kernel⟩
theorem sc_X8_soldOf_X8_standing : ym_site g_X8_soldOf g_X8_standing 3 1 1 := ⟨by decide, by decide, wd_1107, wd_83, by decide +kernel⟩
theorem sc_X8_soldOf_X8_standingSum : ym_site g_X8_soldOf g_X8_standingSum 3 2 1 := ⟨by decide, by decide, wd_1111, wd_83, by decide +kernel⟩
def bl_X8_soldOf_46 (N : Nat) (w0 : Option Nat) (w1 : Int32) (h : ym_H) : Option (Int32 × ym_H) :=
  Option.bind (ym_ob h w0 8) fun o49 =>
  Option.bind (fn_X8_mark N w0 11 h) fun q49 =>
  Option.bind (ym_ob q49.2 w0 8) fun o54 =>
  Option.bind (fn_X8_standing N w0 w1 q49.2) fun q54 =>
  if q54.1 < 0 then
    some (0, q54.2)
  else
    Option.bind (ym_ob q54.2 w0 8) fun o62 =>
    Option.bind (fn_X8_standingSum N w0 w1 q54.2) fun q62 =>
    Option.bind (ym_gR q62.2 w0 8 7) fun v66 =>
    Option.bind (ym_ldL q62.2 v66 w1) fun v70 =>
    if q62.1 < v70 then
      some (0, q62.2)
    else
      some (1, q62.2)
set_option maxRecDepth 20000 in
set_option maxHeartbeats 4000000 in
theorem ob_X8_soldOf_46 {D : ym_D} {b0 : Nat} {N : Nat} {w0 : Option Nat} {w1 : Int32} {h h' : ym_H} {r : Int32} (hf : bl_X8_soldOf_46 N w0 w1 h = some (r, h')) : ym_Y D b0 g_X8_soldOf 3 46 [(0, va_rf w0), (1, .int w1)] [] h (some (.int r)) h' := by
  unfold bl_X8_soldOf_46 at hf
  refine ym_aload_n (pc := 46) 0 dX8_soldOf_46 rfl rfl ?_
  refine ym_bipush (pc := 47) (v := 11) dX8_soldOf_47 (by decide) ?_
  obtain ⟨o49, f49, hf⟩ := Option.bind_eq_some_iff.mp hf
  obtain ⟨q49, e49, hf⟩ := Option.bind_eq_some_iff.mp hf
  refine ym_callV (pc := 49) (G2 := g_X8_mark) (dep2 := 1) (As := [.int 11]) (st := []) (stk2 := []) (r2 := none) (h1 := q49.2) dX8_soldOf_49 (ok_X8_mark e49) (sc_X8_soldOf_X8_mark) wd_1140 wd_1142 wd_44 (ci := 8) (q0 := (RX8, TX8, 58)) rfl (by decide) rfl f49 rfl rfl (ym_st4 (Nat.le_of_ble_eq_true rfl)) rfl ?_
  refine ym_aload_n (pc := 52) 0 dX8_soldOf_52 rfl rfl ?_
  refine ym_iload_n (pc := 53) 1 dX8_soldOf_53 rfl rfl ?_
  obtain ⟨o54, f54, hf⟩ := Option.bind_eq_some_iff.mp hf
  obtain ⟨q54, e54, hf⟩ := Option.bind_eq_some_iff.mp hf
  refine ym_callV (pc := 54) (G2 := g_X8_standing) (dep2 := 1) (As := [.int w1]) (st := []) (stk2 := [.int q54.1]) (r2 := (some (.int q54.1))) (h1 := q54.2) dX8_soldOf_54 (ok_X8_standing e54) (sc_X8_soldOf_X8_standing) wd_1104 wd_1106 wd_37 (ci := 8) (q0 := (RX8, TX8, 58)) rfl (by decide) rfl f54 rfl rfl (ym_st4 (Nat.le_of_ble_eq_true rfl)) rfl ?_
  by_cases c57 : q54.1 < 0
  · rw [if_pos c57] at hf
    refine ym_if_lt_y (pc := 57) (tgt := 79) dX8_soldOf_57 (by decide) c57 ?_
    refine ym_iconst (pc := 79) (v := 0) dX8_soldOf_79 (by decide) ?_
    cases hf
    exact ym_zret (pc := 80) dX8_soldOf_80 rfl rfl
  · rw [if_neg c57] at hf
    refine ym_if_lt_n (pc := 57) (tgt := 79) dX8_soldOf_57 (by decide) c57 ?_
    refine ym_aload_n (pc := 60) 0 dX8_soldOf_60 rfl rfl ?_
    refine ym_iload_n (pc := 61) 1 dX8_soldOf_61 rfl rfl ?_
    obtain ⟨o62, f62, hf⟩ := Option.bind_eq_some_iff.mp hf
    obtain ⟨q62, e62, hf⟩ := Option.bind_eq_some_iff.mp hf
    refine ym_callV (pc := 62) (G2 := g_X8_standingSum) (dep2 := 2) (As := [.int w1]) (st := []) (stk2 := [.long q62.1]) (r2 := (some (.long q62.1))) (h1 := q62.2) dX8_soldOf_62 (ok_X8_standingSum e62) (sc_X8_soldOf_X8_standingSum) wd_1108 wd_1110 wd_38 (ci := 8) (q0 := (RX8, TX8, 58)) rfl (by decide) rfl f62 rfl rfl (ym_st4 (Nat.le_of_ble_eq_true rfl)) rfl ?_
    refine ym_aload_n (pc := 65) 0 dX8_soldOf_65 rfl rfl ?_
    obtain ⟨v66, e66, hf⟩ := Option.bind_eq_some_iff.mp hf
    refine ym_get (pc := 66) dX8_soldOf_66 rfl (by decide) iX8 (k := 7) (by decide) wd_852 (ym_gR_v e66) ?_
    refine ym_iload_n (pc := 69) 1 dX8_soldOf_69 rfl rfl ?_
    obtain ⟨v70, e70, hf⟩ := Option.bind_eq_some_iff.mp hf
    refine ym_lald (pc := 70) dX8_soldOf_70 rfl (ym_ldL_v e70) ?_
    by_cases c71 : q62.1 < v70
    · rw [if_pos c71] at hf
      refine ym_lcmp_lt_y (pc := 71) (tgt := 79) dX8_soldOf_71 dX8_soldOf_72 (by decide) c71 ?_
      refine ym_iconst (pc := 79) (v := 0) dX8_soldOf_79 (by decide) ?_
      cases hf
      exact ym_zret (pc := 80) dX8_soldOf_80 rfl rfl
    · rw [if_neg c71] at hf
      refine ym_lcmp_lt_n (pc := 71) (tgt := 79) dX8_soldOf_71 dX8_soldOf_72 (by decide) c71 ?_
      refine ym_iconst (pc := 75) (v := 1) dX8_soldOf_75 (by decide) ?_
      refine ym_goto (pc := 76) (tgt := 80) dX8_soldOf_76 (by decide) ?_
      cases hf
      exact ym_zret (pc := 80) dX8_soldOf_80 rfl rfl
def fn_X8_soldOf (N : Nat) (a0 : Option Nat) (a1 : Int32) (h : ym_H) : Option (Int32 × ym_H) :=
  Option.bind (ym_gR h a0 8 5) fun v1 =>
  Option.bind (ym_ldI h v1 a1) fun v5 =>
  if v5 = 5 then
    Option.bind (ym_ob h a0 8) fun o13 =>
    Option.bind (fn_X8_mark N a0 13 h) fun q13 =>
    Option.bind (ym_ob q13.2 a0 8) fun o18 =>
    Option.bind (fn_X8_standing N a0 a1 q13.2) fun q18 =>
    if q18.1 < 0 then
      some (0, q18.2)
    else
      some (1, q18.2)
  else
    Option.bind (ym_gR h a0 8 5) fun v31 =>
    Option.bind (ym_ldI h v31 a1) fun v35 =>
    if v35 = 4 then
      Option.bind (ym_ob h a0 8) fun o43 =>
      Option.bind (fn_X8_mark N a0 12 h) fun q43 =>
      bl_X8_soldOf_46 N a0 a1 q43.2
    else
      bl_X8_soldOf_46 N a0 a1 h
set_option maxRecDepth 20000 in
set_option maxHeartbeats 4000000 in
theorem ok_X8_soldOf {D : ym_D} {b0 : Nat} {N : Nat} {a0 : Option Nat} {a1 : Int32} {h h' : ym_H} {r : Int32} (hf : fn_X8_soldOf N a0 a1 h = some (r, h')) : ym_M D b0 g_X8_soldOf 3 [va_rf a0, .int a1] h (some (.int r)) h' := by
  unfold fn_X8_soldOf at hf
  refine ym_meth (lv := [(0, va_rf a0), (1, .int a1)]) (by decide) (by simp [lg_sl, ym_c1, ym_cI, ym_cL, g_X8_soldOf]) (by simp [lv_args, ym_c1, ym_cI, ym_cL]) ?_
  refine ym_aload_n (pc := 0) 0 dX8_soldOf_0 rfl rfl ?_
  obtain ⟨v1, e1, hf⟩ := Option.bind_eq_some_iff.mp hf
  refine ym_get (pc := 1) dX8_soldOf_1 rfl (by decide) iX8 (k := 5) (by decide) wd_850 (ym_gR_v e1) ?_
  refine ym_iload_n (pc := 4) 1 dX8_soldOf_4 rfl rfl ?_
  obtain ⟨v5, e5, hf⟩ := Option.bind_eq_some_iff.mp hf
  refine ym_iald (pc := 5) dX8_soldOf_5 rfl (ym_ldI_v e5) ?_
  refine ym_iconst (pc := 6) (v := 5) dX8_soldOf_6 (by decide) ?_
  by_cases c7 : v5 = 5
  · rw [if_pos c7] at hf
    refine ym_icmp_ne_y (pc := 7) (tgt := 30) dX8_soldOf_7 (by decide) c7 ?_
    refine ym_aload_n (pc := 10) 0 dX8_soldOf_10 rfl rfl ?_
    refine ym_bipush (pc := 11) (v := 13) dX8_soldOf_11 (by decide) ?_
    obtain ⟨o13, f13, hf⟩ := Option.bind_eq_some_iff.mp hf
    obtain ⟨q13, e13, hf⟩ := Option.bind_eq_some_iff.mp hf
    refine ym_callV (pc := 13) (G2 := g_X8_mark) (dep2 := 1) (As := [.int 13]) (st := []) (stk2 := []) (r2 := none) (h1 := q13.2) dX8_soldOf_13 (ok_X8_mark e13) (sc_X8_soldOf_X8_mark) wd_1140 wd_1142 wd_44 (ci := 8) (q0 := (RX8, TX8, 58)) rfl (by decide) rfl f13 rfl rfl (ym_st4 (Nat.le_of_ble_eq_true rfl)) rfl ?_
    refine ym_aload_n (pc := 16) 0 dX8_soldOf_16 rfl rfl ?_
    refine ym_iload_n (pc := 17) 1 dX8_soldOf_17 rfl rfl ?_
    obtain ⟨o18, f18, hf⟩ := Option.bind_eq_some_iff.mp hf
    obtain ⟨q18, e18, hf⟩ := Option.bind_eq_some_iff.mp hf
    refine ym_callV (pc := 18) (G2 := g_X8_standing) (dep2 := 1) (As := [.int a1]) (st := []) (stk2 := [.int q18.1]) (r2 := (some (.int q18.1))) (h1 := q18.2) dX8_soldOf_18 (ok_X8_standing e18) (sc_X8_soldOf_X8_standing) wd_1104 wd_1106 wd_37 (ci := 8) (q0 := (RX8, TX8, 58)) rfl (by decide) rfl f18 rfl rfl (ym_st4 (Nat.le_of_ble_eq_true rfl)) rfl ?_
    by_cases c21 : q18.1 < 0
    · rw [if_pos c21] at hf
      refine ym_if_lt_y (pc := 21) (tgt := 28) dX8_soldOf_21 (by decide) c21 ?_
      refine ym_iconst (pc := 28) (v := 0) dX8_soldOf_28 (by decide) ?_
      cases hf
      exact ym_zret (pc := 29) dX8_soldOf_29 rfl rfl
    · rw [if_neg c21] at hf
      refine ym_if_lt_n (pc := 21) (tgt := 28) dX8_soldOf_21 (by decide) c21 ?_
      refine ym_iconst (pc := 24) (v := 1) dX8_soldOf_24 (by decide) ?_
      refine ym_goto (pc := 25) (tgt := 29) dX8_soldOf_25 (by decide) ?_
      cases hf
      exact ym_zret (pc := 29) dX8_soldOf_29 rfl rfl
  · rw [if_neg c7] at hf
    refine ym_icmp_ne_n (pc := 7) (tgt := 30) dX8_soldOf_7 (by decide) c7 ?_
    refine ym_aload_n (pc := 30) 0 dX8_soldOf_30 rfl rfl ?_
    obtain ⟨v31, e31, hf⟩ := Option.bind_eq_some_iff.mp hf
    refine ym_get (pc := 31) dX8_soldOf_31 rfl (by decide) iX8 (k := 5) (by decide) wd_850 (ym_gR_v e31) ?_
    refine ym_iload_n (pc := 34) 1 dX8_soldOf_34 rfl rfl ?_
    obtain ⟨v35, e35, hf⟩ := Option.bind_eq_some_iff.mp hf
    refine ym_iald (pc := 35) dX8_soldOf_35 rfl (ym_ldI_v e35) ?_
    refine ym_iconst (pc := 36) (v := 4) dX8_soldOf_36 (by decide) ?_
    by_cases c37 : v35 = 4
    · rw [if_pos c37] at hf
      refine ym_icmp_ne_y (pc := 37) (tgt := 46) dX8_soldOf_37 (by decide) c37 ?_
      refine ym_aload_n (pc := 40) 0 dX8_soldOf_40 rfl rfl ?_
      refine ym_bipush (pc := 41) (v := 12) dX8_soldOf_41 (by decide) ?_
      obtain ⟨o43, f43, hf⟩ := Option.bind_eq_some_iff.mp hf
      obtain ⟨q43, e43, hf⟩ := Option.bind_eq_some_iff.mp hf
      refine ym_callV (pc := 43) (G2 := g_X8_mark) (dep2 := 1) (As := [.int 12]) (st := []) (stk2 := []) (r2 := none) (h1 := q43.2) dX8_soldOf_43 (ok_X8_mark e43) (sc_X8_soldOf_X8_mark) wd_1140 wd_1142 wd_44 (ci := 8) (q0 := (RX8, TX8, 58)) rfl (by decide) rfl f43 rfl rfl (ym_st4 (Nat.le_of_ble_eq_true rfl)) rfl ?_
      exact ym_sub [0, 1] rfl (ob_X8_soldOf_46 hf)
    · rw [if_neg c37] at hf
      refine ym_icmp_ne_n (pc := 37) (tgt := 46) dX8_soldOf_37 (by decide) c37 ?_
      exact ym_sub [0, 1] rfl (ob_X8_soldOf_46 hf)
theorem dX8_even_0 : decode cX8_even 0 = .ok (.lload_n 0, 1) := by decide +kernel
theorem dX8_even_1 : decode cX8_even 1 = .ok (.ldc2_w 301, 3) := by decide +kernel
theorem dX8_even_4 : decode cX8_even 4 = .ok (.ldiv, 1) := by decide +kernel
theorem dX8_even_5 : decode cX8_even 5 = .ok (.lstore_n 2, 1) := by decide +kernel
theorem dX8_even_6 : decode cX8_even 6 = .ok (.ldc2_w 303, 3) := by decide +kernel
theorem dX8_even_9 : decode cX8_even 9 = .ok (.lload_n 0, 1) := by decide +kernel
theorem dX8_even_10 : decode cX8_even 10 = .ok (.ldc2_w 301, 3) := by decide +kernel
theorem dX8_even_13 : decode cX8_even 13 = .ok (.lrem, 1) := by decide +kernel
theorem dX8_even_14 : decode cX8_even 14 = .ok (.lmul, 1) := by decide +kernel
theorem dX8_even_15 : decode cX8_even 15 = .ok (.lstore 4, 2) := by decide +kernel
theorem dX8_even_17 : decode cX8_even 17 = .ok (.lload 4, 2) := by decide +kernel
theorem dX8_even_19 : decode cX8_even 19 = .ok (.ldc2_w 301, 3) := by decide +kernel
theorem dX8_even_22 : decode cX8_even 22 = .ok (.lcmp, 1) := by decide +kernel
theorem dX8_even_23 : decode cX8_even 23 = .ok (.ifCond .gt 22, 3) := by decide +kernel
theorem dX8_even_26 : decode cX8_even 26 = .ok (.lload 4, 2) := by decide +kernel
theorem dX8_even_28 : decode cX8_even 28 = .ok (.ldc2_w 301, 3) := by decide +kernel
theorem dX8_even_31 : decode cX8_even 31 = .ok (.lcmp, 1) := by decide +kernel
theorem dX8_even_32 : decode cX8_even 32 = .ok (.ifCond .ne 17, 3) := by decide +kernel
theorem dX8_even_35 : decode cX8_even 35 = .ok (.lload_n 2, 1) := by decide +kernel
theorem dX8_even_36 : decode cX8_even 36 = .ok (.ldc2_w 303, 3) := by decide +kernel
theorem dX8_even_39 : decode cX8_even 39 = .ok (.lrem, 1) := by decide +kernel
theorem dX8_even_40 : decode cX8_even 40 = .ok (.lconst 1, 1) := by decide +kernel
theorem dX8_even_41 : decode cX8_even 41 = .ok (.lcmp, 1) := by decide +kernel
theorem dX8_even_42 : decode cX8_even 42 = .ok (.ifCond .ne 7, 3) := by decide +kernel
theorem dX8_even_45 : decode cX8_even 45 = .ok (.lload_n 2, 1) := by decide +kernel
theorem dX8_even_46 : decode cX8_even 46 = .ok (.lconst 1, 1) := by decide +kernel
theorem dX8_even_47 : decode cX8_even 47 = .ok (.ladd, 1) := by decide +kernel
theorem dX8_even_48 : decode cX8_even 48 = .ok (.lstore_n 2, 1) := by decide +kernel
theorem dX8_even_49 : decode cX8_even 49 = .ok (.lload_n 2, 1) := by decide +kernel
theorem dX8_even_50 : decode cX8_even 50 = .ok (.lreturn, 1) := by decide +kernel
def fn_X8_even (N : Nat) (a0 : Int64) (h : ym_H) : Option (Int64 × ym_H) :=
  if 10000 < (2 * (a0 - a0 / 10000 * 10000)) then
    some (((a0 / 10000) + 1), h)
  else
    if (2 * (a0 - a0 / 10000 * 10000)) = 10000 then
      if ((a0 / 10000) - (a0 / 10000) / 2 * 2) = 1 then
        some (((a0 / 10000) + 1), h)
      else
        some ((a0 / 10000), h)
    else
      some ((a0 / 10000), h)
set_option maxRecDepth 20000 in
set_option maxHeartbeats 4000000 in
theorem ok_X8_even {D : ym_D} {b0 : Nat} {N : Nat} {a0 : Int64} {h h' : ym_H} {r : Int64} (hf : fn_X8_even N a0 h = some (r, h')) : ym_M D b0 g_X8_even 1 [.long a0] h (some (.long r)) h' := by
  unfold fn_X8_even at hf
  refine ym_meth (lv := [(0, .long a0)]) (by decide) (by simp [lg_sl, ym_c1, ym_cI, ym_cL, g_X8_even]) (by simp [lv_args, ym_c1, ym_cI, ym_cL]) ?_
  refine ym_lload_n (pc := 0) 0 dX8_even_0 rfl rfl ?_
  refine ym_ldc2 (pc := 1) dX8_even_1 wd_1212 ?_
  refine ym_ldiv (pc := 4) dX8_even_4 (by decide) ?_
  refine ym_lstore_n (pc := 5) (lv' := [(2, .long (a0 / 10000)), (0, .long a0)]) dX8_even_5 rfl (by decide) ⟨trivial, trivial⟩ rfl ?_
  refine ym_ldc2 (pc := 6) dX8_even_6 wd_1156 ?_
  refine ym_lload_n (pc := 9) 1 dX8_even_9 rfl rfl ?_
  refine ym_ldc2 (pc := 10) dX8_even_10 wd_1212 ?_
  refine ym_lrem (pc := 13) dX8_even_13 (by decide) ?_
  refine ym_lmul (pc := 14) dX8_even_14 ?_
  refine ym_sub (lv' := [(2, .long (a0 / 10000))]) [0] rfl ?_
  refine ym_lstore (pc := 15) (lv' := [(4, .long (2 * (a0 - a0 / 10000 * 10000))), (2, .long (a0 / 10000))]) dX8_even_15 (by decide) ⟨trivial, trivial⟩ rfl ?_
  refine ym_lload (pc := 17) 0 dX8_even_17 rfl ?_
  refine ym_ldc2 (pc := 19) dX8_even_19 wd_1212 ?_
  by_cases c22 : 10000 < (2 * (a0 - a0 / 10000 * 10000))
  · rw [if_pos c22] at hf
    refine ym_lcmp_gt_y (pc := 22) (tgt := 45) dX8_even_22 dX8_even_23 (by decide) c22 ?_
    refine ym_lload_n (pc := 45) 1 dX8_even_45 rfl rfl ?_
    refine ym_lconst (pc := 46) (v := 1) dX8_even_46 (by decide) ?_
    refine ym_ladd (pc := 47) dX8_even_47 ?_
    refine ym_sub (lv' := []) [] rfl ?_
    refine ym_lstore_n (pc := 48) (lv' := [(2, .long ((a0 / 10000) + 1))]) dX8_even_48 rfl (by decide) trivial rfl ?_
    refine ym_lload_n (pc := 49) 0 dX8_even_49 rfl rfl ?_
    cases hf
    exact ym_lret (pc := 50) dX8_even_50 rfl
  · rw [if_neg c22] at hf
    refine ym_lcmp_gt_n (pc := 22) (tgt := 45) dX8_even_22 dX8_even_23 (by decide) c22 ?_
    refine ym_lload (pc := 26) 0 dX8_even_26 rfl ?_
    refine ym_ldc2 (pc := 28) dX8_even_28 wd_1212 ?_
    by_cases c31 : (2 * (a0 - a0 / 10000 * 10000)) = 10000
    · rw [if_pos c31] at hf
      refine ym_lcmp_ne_y (pc := 31) (tgt := 49) dX8_even_31 dX8_even_32 (by decide) c31 ?_
      refine ym_lload_n (pc := 35) 1 dX8_even_35 rfl rfl ?_
      refine ym_ldc2 (pc := 36) dX8_even_36 wd_1156 ?_
      refine ym_lrem (pc := 39) dX8_even_39 (by decide) ?_
      refine ym_lconst (pc := 40) (v := 1) dX8_even_40 (by decide) ?_
      by_cases c41 : ((a0 / 10000) - (a0 / 10000) / 2 * 2) = 1
      · rw [if_pos c41] at hf
        refine ym_lcmp_ne_y (pc := 41) (tgt := 49) dX8_even_41 dX8_even_42 (by decide) c41 ?_
        refine ym_lload_n (pc := 45) 1 dX8_even_45 rfl rfl ?_
        refine ym_lconst (pc := 46) (v := 1) dX8_even_46 (by decide) ?_
        refine ym_ladd (pc := 47) dX8_even_47 ?_
        refine ym_sub (lv' := []) [] rfl ?_
        refine ym_lstore_n (pc := 48) (lv' := [(2, .long ((a0 / 10000) + 1))]) dX8_even_48 rfl (by decide) trivial rfl ?_
        refine ym_lload_n (pc := 49) 0 dX8_even_49 rfl rfl ?_
        cases hf
        exact ym_lret (pc := 50) dX8_even_50 rfl
      · rw [if_neg c41] at hf
        refine ym_lcmp_ne_n (pc := 41) (tgt := 49) dX8_even_41 dX8_even_42 (by decide) c41 ?_
        refine ym_lload_n (pc := 49) 1 dX8_even_49 rfl rfl ?_
        cases hf
        exact ym_lret (pc := 50) dX8_even_50 rfl
    · rw [if_neg c31] at hf
      refine ym_lcmp_ne_n (pc := 31) (tgt := 49) dX8_even_31 dX8_even_32 (by decide) c31 ?_
      refine ym_lload_n (pc := 49) 1 dX8_even_49 rfl rfl ?_
      cases hf
      exact ym_lret (pc := 50) dX8_even_50 rfl
theorem dX8_premiumOf_0 : decode cX8_premiumOf 0 = .ok (.lconst 0, 1) := by decide +kernel
theorem dX8_premiumOf_1 : decode cX8_premiumOf 1 = .ok (.lstore_n 3, 1) := by decide +kernel
theorem dX8_premiumOf_2 : decode cX8_premiumOf 2 = .ok (.iconst 0, 1) := by decide +kernel
theorem dX8_premiumOf_3 : decode cX8_premiumOf 3 = .ok (.istore 5, 2) := by decide +kernel
theorem dX8_premiumOf_5 : decode cX8_premiumOf 5 = .ok (.iload 5, 2) := by decide +kernel
theorem dX8_premiumOf_7 : decode cX8_premiumOf 7 = .ok (.aload_n 0, 1) := by decide +kernel
theorem dX8_premiumOf_8 : decode cX8_premiumOf 8 = .ok (.getfield 197, 3) := by decide +kernel
theorem dX8_premiumOf_11 : decode cX8_premiumOf 11 = .ok (.if_icmp .ge 84, 3) := by decide +kernel
theorem dX8_premiumOf_14 : decode cX8_premiumOf 14 = .ok (.iload 5, 2) := by decide +kernel
theorem dX8_premiumOf_16 : decode cX8_premiumOf 16 = .ok (.iconst 1, 1) := by decide +kernel
theorem dX8_premiumOf_17 : decode cX8_premiumOf 17 = .ok (.iadd, 1) := by decide +kernel
theorem dX8_premiumOf_18 : decode cX8_premiumOf 18 = .ok (.aload_n 0, 1) := by decide +kernel
theorem dX8_premiumOf_19 : decode cX8_premiumOf 19 = .ok (.getfield 197, 3) := by decide +kernel
theorem dX8_premiumOf_22 : decode cX8_premiumOf 22 = .ok (.if_icmp .ge 29, 3) := by decide +kernel
theorem dX8_premiumOf_25 : decode cX8_premiumOf 25 = .ok (.aload_n 0, 1) := by decide +kernel
theorem dX8_premiumOf_26 : decode cX8_premiumOf 26 = .ok (.getfield 108, 3) := by decide +kernel
theorem dX8_premiumOf_29 : decode cX8_premiumOf 29 = .ok (.iload 5, 2) := by decide +kernel
theorem dX8_premiumOf_31 : decode cX8_premiumOf 31 = .ok (.iconst 1, 1) := by decide +kernel
theorem dX8_premiumOf_32 : decode cX8_premiumOf 32 = .ok (.iadd, 1) := by decide +kernel
theorem dX8_premiumOf_33 : decode cX8_premiumOf 33 = .ok (.laload, 1) := by decide +kernel
theorem dX8_premiumOf_34 : decode cX8_premiumOf 34 = .ok (.lload_n 1, 1) := by decide +kernel
theorem dX8_premiumOf_35 : decode cX8_premiumOf 35 = .ok (.lcmp, 1) := by decide +kernel
theorem dX8_premiumOf_36 : decode cX8_premiumOf 36 = .ok (.ifCond .ge 15, 3) := by decide +kernel
theorem dX8_premiumOf_39 : decode cX8_premiumOf 39 = .ok (.aload_n 0, 1) := by decide +kernel
theorem dX8_premiumOf_40 : decode cX8_premiumOf 40 = .ok (.getfield 108, 3) := by decide +kernel
theorem dX8_premiumOf_43 : decode cX8_premiumOf 43 = .ok (.iload 5, 2) := by decide +kernel
theorem dX8_premiumOf_45 : decode cX8_premiumOf 45 = .ok (.iconst 1, 1) := by decide +kernel
theorem dX8_premiumOf_46 : decode cX8_premiumOf 46 = .ok (.iadd, 1) := by decide +kernel
theorem dX8_premiumOf_47 : decode cX8_premiumOf 47 = .ok (.laload, 1) := by decide +kernel
theorem dX8_premiumOf_48 : decode cX8_premiumOf 48 = .ok (.goto 4, 3) := by decide +kernel
theorem dX8_premiumOf_51 : decode cX8_premiumOf 51 = .ok (.lload_n 1, 1) := by decide +kernel
theorem dX8_premiumOf_52 : decode cX8_premiumOf 52 = .ok (.lstore 6, 2) := by decide +kernel
theorem dX8_premiumOf_54 : decode cX8_premiumOf 54 = .ok (.lload 6, 2) := by decide +kernel
theorem dX8_premiumOf_56 : decode cX8_premiumOf 56 = .ok (.aload_n 0, 1) := by decide +kernel
theorem dX8_premiumOf_57 : decode cX8_premiumOf 57 = .ok (.getfield 108, 3) := by decide +kernel
theorem dX8_premiumOf_60 : decode cX8_premiumOf 60 = .ok (.iload 5, 2) := by decide +kernel
theorem dX8_premiumOf_62 : decode cX8_premiumOf 62 = .ok (.laload, 1) := by decide +kernel
theorem dX8_premiumOf_63 : decode cX8_premiumOf 63 = .ok (.lcmp, 1) := by decide +kernel
theorem dX8_premiumOf_64 : decode cX8_premiumOf 64 = .ok (.ifCond .le 25, 3) := by decide +kernel
theorem dX8_premiumOf_67 : decode cX8_premiumOf 67 = .ok (.lload_n 3, 1) := by decide +kernel
theorem dX8_premiumOf_68 : decode cX8_premiumOf 68 = .ok (.lload 6, 2) := by decide +kernel
theorem dX8_premiumOf_70 : decode cX8_premiumOf 70 = .ok (.aload_n 0, 1) := by decide +kernel
theorem dX8_premiumOf_71 : decode cX8_premiumOf 71 = .ok (.getfield 108, 3) := by decide +kernel
theorem dX8_premiumOf_74 : decode cX8_premiumOf 74 = .ok (.iload 5, 2) := by decide +kernel
theorem dX8_premiumOf_76 : decode cX8_premiumOf 76 = .ok (.laload, 1) := by decide +kernel
theorem dX8_premiumOf_77 : decode cX8_premiumOf 77 = .ok (.lsub, 1) := by decide +kernel
theorem dX8_premiumOf_78 : decode cX8_premiumOf 78 = .ok (.aload_n 0, 1) := by decide +kernel
theorem dX8_premiumOf_79 : decode cX8_premiumOf 79 = .ok (.getfield 111, 3) := by decide +kernel
theorem dX8_premiumOf_82 : decode cX8_premiumOf 82 = .ok (.iload 5, 2) := by decide +kernel
theorem dX8_premiumOf_84 : decode cX8_premiumOf 84 = .ok (.iaload, 1) := by decide +kernel
theorem dX8_premiumOf_85 : decode cX8_premiumOf 85 = .ok (.i2l, 1) := by decide +kernel
theorem dX8_premiumOf_86 : decode cX8_premiumOf 86 = .ok (.lmul, 1) := by decide +kernel
theorem dX8_premiumOf_87 : decode cX8_premiumOf 87 = .ok (.ladd, 1) := by decide +kernel
theorem dX8_premiumOf_88 : decode cX8_premiumOf 88 = .ok (.lstore_n 3, 1) := by decide +kernel
theorem dX8_premiumOf_89 : decode cX8_premiumOf 89 = .ok (.iinc 5 1, 3) := by decide +kernel
theorem dX8_premiumOf_92 : decode cX8_premiumOf 92 = .ok (.goto (-87), 3) := by decide +kernel
theorem dX8_premiumOf_95 : decode cX8_premiumOf 95 = .ok (.lload_n 3, 1) := by decide +kernel
theorem dX8_premiumOf_96 : decode cX8_premiumOf 96 = .ok (.invokestatic 305, 3) := by decide +kernel
theorem dX8_premiumOf_99 : decode cX8_premiumOf 99 = .ok (.lreturn, 1) := by decide +kernel
def bl_X8_premiumOf_89_5 (K : Option Nat → Int64 → Int64 → Int32 → ym_H → Option ((Int64) × ym_H)) (N : Nat) (w0 : Option Nat) (w1 : Int64) (w3 : Int64) (w5 : Int32) (h : ym_H) : Option ((Int64) × ym_H) :=
  K w0 w1 w3 (w5 + 1) h
set_option maxRecDepth 20000 in
set_option maxHeartbeats 4000000 in
theorem ob_X8_premiumOf_89_5 {D : ym_D} {b0 : Nat} {K : Option Nat → Int64 → Int64 → Int32 → ym_H → Option ((Int64) × ym_H)} {N : Nat} {w0 : Option Nat} {w1 : Int64} {w3 : Int64} {w5 : Int32} {h h1 : ym_H} {x : (Int64)} (hKl : ∀ (u0 : Option Nat) (u1 : Int64) (u3 : Int64) (u5 : Int32) (h h1 : ym_H) (x : (Int64)), K u0 u1 u3 u5 h = some (x, h1) → ∀ {r0 : Option Value} {h' : ym_H}, ym_Y D b0 g_X8_premiumOf 2 95 [(3, .long x)] [] h1 r0 h' → ym_Y D b0 g_X8_premiumOf 2 5 [(0, va_rf u0), (1, .long u1), (3, .long u3), (5, .int u5)] [] h r0 h') (hf : bl_X8_premiumOf_89_5 K N w0 w1 w3 w5 h = some (x, h1)) {r0 : Option Value} {h' : ym_H} (k : ym_Y D b0 g_X8_premiumOf 2 95 [(3, .long x)] [] h1 r0 h') : ym_Y D b0 g_X8_premiumOf 2 89 [(0, va_rf w0), (1, .long w1), (3, .long w3), (5, .int w5)] [] h r0 h' := by
  unfold bl_X8_premiumOf_89_5 at hf
  refine ym_iinc (pc := 89) (lv' := [(5, .int (w5 + 1)), (0, va_rf w0), (1, .long w1), (3, .long w3)]) (v := (w5 + 1)) 3 dX8_premiumOf_89 rfl (by rw [show Int32.ofInt 1 = 1 by decide]) (by decide) ⟨trivial, trivial, trivial, trivial, trivial⟩ rfl ?_
  refine ym_goto (pc := 92) (tgt := 5) dX8_premiumOf_92 (by decide) ?_
  exact ym_sub [1, 2, 3, 0] rfl (hKl _ _ _ _ _ _ _ hf k)
def bl_X8_premiumOf_52_5 (K : Option Nat → Int64 → Int64 → Int32 → ym_H → Option ((Int64) × ym_H)) (N : Nat) (w0 : Option Nat) (w1 : Int64) (w3 : Int64) (w5 : Int32) (s0 : Int64) (h : ym_H) : Option ((Int64) × ym_H) :=
  Option.bind (ym_gR h w0 8 37) fun v57 =>
  Option.bind (ym_ldL h v57 w5) fun v62 =>
  if s0 ≤ v62 then
    bl_X8_premiumOf_89_5 K N w0 w1 w3 w5 h
  else
    Option.bind (ym_gR h w0 8 37) fun v71 =>
    Option.bind (ym_ldL h v71 w5) fun v76 =>
    Option.bind (ym_gR h w0 8 38) fun v79 =>
    Option.bind (ym_ldI h v79 w5) fun v84 =>
    bl_X8_premiumOf_89_5 K N w0 w1 (w3 + ((s0 - v76) * (Int32.toInt64 v84))) w5 h
set_option maxRecDepth 20000 in
set_option maxHeartbeats 4000000 in
theorem ob_X8_premiumOf_52_5 {D : ym_D} {b0 : Nat} {K : Option Nat → Int64 → Int64 → Int32 → ym_H → Option ((Int64) × ym_H)} {N : Nat} {w0 : Option Nat} {w1 : Int64} {w3 : Int64} {w5 : Int32} {s0 : Int64} {h h1 : ym_H} {x : (Int64)} (hKl : ∀ (u0 : Option Nat) (u1 : Int64) (u3 : Int64) (u5 : Int32) (h h1 : ym_H) (x : (Int64)), K u0 u1 u3 u5 h = some (x, h1) → ∀ {r0 : Option Value} {h' : ym_H}, ym_Y D b0 g_X8_premiumOf 2 95 [(3, .long x)] [] h1 r0 h' → ym_Y D b0 g_X8_premiumOf 2 5 [(0, va_rf u0), (1, .long u1), (3, .long u3), (5, .int u5)] [] h r0 h') (hf : bl_X8_premiumOf_52_5 K N w0 w1 w3 w5 s0 h = some (x, h1)) {r0 : Option Value} {h' : ym_H} (k : ym_Y D b0 g_X8_premiumOf 2 95 [(3, .long x)] [] h1 r0 h') : ym_Y D b0 g_X8_premiumOf 2 52 [(0, va_rf w0), (1, .long w1), (3, .long w3), (5, .int w5)] [.long s0] h r0 h' := by
  unfold bl_X8_premiumOf_52_5 at hf
  refine ym_lstore (pc := 52) (lv' := [(6, .long s0), (0, va_rf w0), (1, .long w1), (3, .long w3), (5, .int w5)]) dX8_premiumOf_52 (by decide) ⟨trivial, trivial, trivial, rfl, trivial⟩ rfl ?_
  refine ym_lload (pc := 54) 0 dX8_premiumOf_54 rfl ?_
  refine ym_aload_n (pc := 56) 1 dX8_premiumOf_56 rfl rfl ?_
  obtain ⟨v57, e57, hf⟩ := Option.bind_eq_some_iff.mp hf
  refine ym_get (pc := 57) dX8_premiumOf_57 rfl (by decide) iX8 (k := 37) (by decide) wd_882 (ym_gR_v e57) ?_
  refine ym_iload (pc := 60) 4 dX8_premiumOf_60 rfl ?_
  obtain ⟨v62, e62, hf⟩ := Option.bind_eq_some_iff.mp hf
  refine ym_lald (pc := 62) dX8_premiumOf_62 rfl (ym_ldL_v e62) ?_
  by_cases c63 : s0 ≤ v62
  · rw [if_pos c63] at hf
    refine ym_lcmp_le_y (pc := 63) (tgt := 89) dX8_premiumOf_63 dX8_premiumOf_64 (by decide) c63 ?_
    exact ym_sub [1, 2, 3, 4] rfl (ob_X8_premiumOf_89_5 hKl hf k)
  · rw [if_neg c63] at hf
    refine ym_lcmp_le_n (pc := 63) (tgt := 89) dX8_premiumOf_63 dX8_premiumOf_64 (by decide) c63 ?_
    refine ym_lload_n (pc := 67) 3 dX8_premiumOf_67 rfl rfl ?_
    refine ym_lload (pc := 68) 0 dX8_premiumOf_68 rfl ?_
    refine ym_aload_n (pc := 70) 1 dX8_premiumOf_70 rfl rfl ?_
    obtain ⟨v71, e71, hf⟩ := Option.bind_eq_some_iff.mp hf
    refine ym_get (pc := 71) dX8_premiumOf_71 rfl (by decide) iX8 (k := 37) (by decide) wd_882 (ym_gR_v e71) ?_
    refine ym_iload (pc := 74) 4 dX8_premiumOf_74 rfl ?_
    obtain ⟨v76, e76, hf⟩ := Option.bind_eq_some_iff.mp hf
    refine ym_lald (pc := 76) dX8_premiumOf_76 rfl (ym_ldL_v e76) ?_
    refine ym_lsub (pc := 77) dX8_premiumOf_77 ?_
    refine ym_aload_n (pc := 78) 1 dX8_premiumOf_78 rfl rfl ?_
    obtain ⟨v79, e79, hf⟩ := Option.bind_eq_some_iff.mp hf
    refine ym_get (pc := 79) dX8_premiumOf_79 rfl (by decide) iX8 (k := 38) (by decide) wd_883 (ym_gR_v e79) ?_
    refine ym_iload (pc := 82) 4 dX8_premiumOf_82 rfl ?_
    obtain ⟨v84, e84, hf⟩ := Option.bind_eq_some_iff.mp hf
    refine ym_iald (pc := 84) dX8_premiumOf_84 rfl (ym_ldI_v e84) ?_
    refine ym_i2l (pc := 85) dX8_premiumOf_85 ?_
    refine ym_lmul (pc := 86) dX8_premiumOf_86 ?_
    refine ym_ladd (pc := 87) dX8_premiumOf_87 ?_
    refine ym_sub (lv' := [(0, va_rf w0), (1, .long w1), (5, .int w5)]) [1, 2, 4] rfl ?_
    refine ym_lstore_n (pc := 88) (lv' := [(3, .long (w3 + ((s0 - v76) * (Int32.toInt64 v84)))), (0, va_rf w0), (1, .long w1), (5, .int w5)]) dX8_premiumOf_88 rfl (by decide) ⟨trivial, trivial, trivial, trivial⟩ rfl ?_
    exact ym_sub [1, 2, 0, 3] rfl (ob_X8_premiumOf_89_5 hKl hf k)
def bl_X8_premiumOf_51_5 (K : Option Nat → Int64 → Int64 → Int32 → ym_H → Option ((Int64) × ym_H)) (N : Nat) (w0 : Option Nat) (w1 : Int64) (w3 : Int64) (w5 : Int32) (h : ym_H) : Option ((Int64) × ym_H) :=
  bl_X8_premiumOf_52_5 K N w0 w1 w3 w5 w1 h
set_option maxRecDepth 20000 in
set_option maxHeartbeats 4000000 in
theorem ob_X8_premiumOf_51_5 {D : ym_D} {b0 : Nat} {K : Option Nat → Int64 → Int64 → Int32 → ym_H → Option ((Int64) × ym_H)} {N : Nat} {w0 : Option Nat} {w1 : Int64} {w3 : Int64} {w5 : Int32} {h h1 : ym_H} {x : (Int64)} (hKl : ∀ (u0 : Option Nat) (u1 : Int64) (u3 : Int64) (u5 : Int32) (h h1 : ym_H) (x : (Int64)), K u0 u1 u3 u5 h = some (x, h1) → ∀ {r0 : Option Value} {h' : ym_H}, ym_Y D b0 g_X8_premiumOf 2 95 [(3, .long x)] [] h1 r0 h' → ym_Y D b0 g_X8_premiumOf 2 5 [(0, va_rf u0), (1, .long u1), (3, .long u3), (5, .int u5)] [] h r0 h') (hf : bl_X8_premiumOf_51_5 K N w0 w1 w3 w5 h = some (x, h1)) {r0 : Option Value} {h' : ym_H} (k : ym_Y D b0 g_X8_premiumOf 2 95 [(3, .long x)] [] h1 r0 h') : ym_Y D b0 g_X8_premiumOf 2 51 [(0, va_rf w0), (1, .long w1), (3, .long w3), (5, .int w5)] [] h r0 h' := by
  unfold bl_X8_premiumOf_51_5 at hf
  refine ym_lload_n (pc := 51) 1 dX8_premiumOf_51 rfl rfl ?_
  exact ym_sub [0, 1, 2, 3] rfl (ob_X8_premiumOf_52_5 hKl hf k)
def lb_X8_premiumOf_5 (K : Option Nat → Int64 → Int64 → Int32 → ym_H → Option ((Int64) × ym_H)) (N : Nat) (w0 : Option Nat) (w1 : Int64) (w3 : Int64) (w5 : Int32) (h : ym_H) : Option ((Int64) × ym_H) :=
  Option.bind (ym_gI h w0 8 36) fun v8 =>
  if v8 ≤ w5 then
    some (w3, h)
  else
    Option.bind (ym_gI h w0 8 36) fun v19 =>
    if v19 ≤ (w5 + 1) then
      bl_X8_premiumOf_51_5 K N w0 w1 w3 w5 h
    else
      Option.bind (ym_gR h w0 8 37) fun v26 =>
      Option.bind (ym_ldL h v26 (w5 + 1)) fun v33 =>
      if w1 ≤ v33 then
        bl_X8_premiumOf_51_5 K N w0 w1 w3 w5 h
      else
        Option.bind (ym_gR h w0 8 37) fun v40 =>
        Option.bind (ym_ldL h v40 (w5 + 1)) fun v47 =>
        bl_X8_premiumOf_52_5 K N w0 w1 w3 w5 v47 h
set_option maxRecDepth 20000 in
set_option maxHeartbeats 4000000 in
theorem ol_X8_premiumOf_5 {D : ym_D} {b0 : Nat} {K : Option Nat → Int64 → Int64 → Int32 → ym_H → Option ((Int64) × ym_H)} {N : Nat} {w0 : Option Nat} {w1 : Int64} {w3 : Int64} {w5 : Int32} {h h1 : ym_H} {x : (Int64)} (hKl : ∀ (u0 : Option Nat) (u1 : Int64) (u3 : Int64) (u5 : Int32) (h h1 : ym_H) (x : (Int64)), K u0 u1 u3 u5 h = some (x, h1) → ∀ {r0 : Option Value} {h' : ym_H}, ym_Y D b0 g_X8_premiumOf 2 95 [(3, .long x)] [] h1 r0 h' → ym_Y D b0 g_X8_premiumOf 2 5 [(0, va_rf u0), (1, .long u1), (3, .long u3), (5, .int u5)] [] h r0 h') (hf : lb_X8_premiumOf_5 K N w0 w1 w3 w5 h = some (x, h1)) {r0 : Option Value} {h' : ym_H} (k : ym_Y D b0 g_X8_premiumOf 2 95 [(3, .long x)] [] h1 r0 h') : ym_Y D b0 g_X8_premiumOf 2 5 [(0, va_rf w0), (1, .long w1), (3, .long w3), (5, .int w5)] [] h r0 h' := by
  unfold lb_X8_premiumOf_5 at hf
  refine ym_iload (pc := 5) 3 dX8_premiumOf_5 rfl ?_
  refine ym_aload_n (pc := 7) 0 dX8_premiumOf_7 rfl rfl ?_
  obtain ⟨v8, e8, hf⟩ := Option.bind_eq_some_iff.mp hf
  refine ym_get (pc := 8) dX8_premiumOf_8 rfl (by decide) iX8 (k := 36) (by decide) wd_881 (ym_gI_v e8) ?_
  by_cases c11 : v8 ≤ w5
  · rw [if_pos c11] at hf
    refine ym_icmp_ge_y (pc := 11) (tgt := 95) dX8_premiumOf_11 (by decide) c11 ?_
    cases hf
    exact ym_sub [2] rfl k
  · rw [if_neg c11] at hf
    refine ym_icmp_ge_n (pc := 11) (tgt := 95) dX8_premiumOf_11 (by decide) c11 ?_
    refine ym_iload (pc := 14) 3 dX8_premiumOf_14 rfl ?_
    refine ym_iconst (pc := 16) (v := 1) dX8_premiumOf_16 (by decide) ?_
    refine ym_iadd (pc := 17) dX8_premiumOf_17 ?_
    refine ym_aload_n (pc := 18) 0 dX8_premiumOf_18 rfl rfl ?_
    obtain ⟨v19, e19, hf⟩ := Option.bind_eq_some_iff.mp hf
    refine ym_get (pc := 19) dX8_premiumOf_19 rfl (by decide) iX8 (k := 36) (by decide) wd_881 (ym_gI_v e19) ?_
    by_cases c22 : v19 ≤ (w5 + 1)
    · rw [if_pos c22] at hf
      refine ym_icmp_ge_y (pc := 22) (tgt := 51) dX8_premiumOf_22 (by decide) c22 ?_
      exact ym_sub [0, 1, 2, 3] rfl (ob_X8_premiumOf_51_5 hKl hf k)
    · rw [if_neg c22] at hf
      refine ym_icmp_ge_n (pc := 22) (tgt := 51) dX8_premiumOf_22 (by decide) c22 ?_
      refine ym_aload_n (pc := 25) 0 dX8_premiumOf_25 rfl rfl ?_
      obtain ⟨v26, e26, hf⟩ := Option.bind_eq_some_iff.mp hf
      refine ym_get (pc := 26) dX8_premiumOf_26 rfl (by decide) iX8 (k := 37) (by decide) wd_882 (ym_gR_v e26) ?_
      refine ym_iload (pc := 29) 3 dX8_premiumOf_29 rfl ?_
      refine ym_iconst (pc := 31) (v := 1) dX8_premiumOf_31 (by decide) ?_
      refine ym_iadd (pc := 32) dX8_premiumOf_32 ?_
      obtain ⟨v33, e33, hf⟩ := Option.bind_eq_some_iff.mp hf
      refine ym_lald (pc := 33) dX8_premiumOf_33 rfl (ym_ldL_v e33) ?_
      refine ym_lload_n (pc := 34) 1 dX8_premiumOf_34 rfl rfl ?_
      by_cases c35 : w1 ≤ v33
      · rw [if_pos c35] at hf
        refine ym_lcmp_ge_y (pc := 35) (tgt := 51) dX8_premiumOf_35 dX8_premiumOf_36 (by decide) c35 ?_
        exact ym_sub [0, 1, 2, 3] rfl (ob_X8_premiumOf_51_5 hKl hf k)
      · rw [if_neg c35] at hf
        refine ym_lcmp_ge_n (pc := 35) (tgt := 51) dX8_premiumOf_35 dX8_premiumOf_36 (by decide) c35 ?_
        refine ym_aload_n (pc := 39) 0 dX8_premiumOf_39 rfl rfl ?_
        obtain ⟨v40, e40, hf⟩ := Option.bind_eq_some_iff.mp hf
        refine ym_get (pc := 40) dX8_premiumOf_40 rfl (by decide) iX8 (k := 37) (by decide) wd_882 (ym_gR_v e40) ?_
        refine ym_iload (pc := 43) 3 dX8_premiumOf_43 rfl ?_
        refine ym_iconst (pc := 45) (v := 1) dX8_premiumOf_45 (by decide) ?_
        refine ym_iadd (pc := 46) dX8_premiumOf_46 ?_
        obtain ⟨v47, e47, hf⟩ := Option.bind_eq_some_iff.mp hf
        refine ym_lald (pc := 47) dX8_premiumOf_47 rfl (ym_ldL_v e47) ?_
        refine ym_goto (pc := 48) (tgt := 52) dX8_premiumOf_48 (by decide) ?_
        exact ym_sub [0, 1, 2, 3] rfl (ob_X8_premiumOf_52_5 hKl hf k)
def lp_X8_premiumOf_5 (N : Nat) : Nat → Option Nat → Int64 → Int64 → Int32 → ym_H → Option ((Int64) × ym_H)
  | 0, _, _, _, _, _ => none
  | n + 1, w0, w1, w3, w5, h => lb_X8_premiumOf_5 (lp_X8_premiumOf_5 N n) N w0 w1 w3 w5 h
set_option maxRecDepth 20000 in
set_option maxHeartbeats 4000000 in
theorem ok_lp_X8_premiumOf_5 {D : ym_D} {b0 : Nat} {N : Nat}  : ∀ (n : Nat) (w0 : Option Nat) (w1 : Int64) (w3 : Int64) (w5 : Int32) (h h1 : ym_H) (x : (Int64)), lp_X8_premiumOf_5 N n w0 w1 w3 w5 h = some (x, h1) → ∀ {r0 : Option Value} {h' : ym_H}, ym_Y D b0 g_X8_premiumOf 2 95 [(3, .long x)] [] h1 r0 h' → ym_Y D b0 g_X8_premiumOf 2 5 [(0, va_rf w0), (1, .long w1), (3, .long w3), (5, .int w5)] [] h r0 h' := by
  intro n
  induction n with
  | zero =>
    intro w0 w1 w3 w5 h h1 x hf
    cases hf
  | succ n ih =>
    intro w0 w1 w3 w5 h h1 x hf r0 h' k
    exact ol_X8_premiumOf_5 (fun w0 w1 w3 w5 h h1 x z r0 h' k => ih w0 w1 w3 w5 h h1 x z k) hf k
theorem sc_X8_premiumOf_X8_even : ym_site g_X8_premiumOf g_X8_even 2 1 1 := ⟨by decide, by decide, wd_1211, wd_83, by decide +kernel⟩
def fn_X8_premiumOf (N : Nat) (a0 : Option Nat) (a1 : Int64) (h : ym_H) : Option (Int64 × ym_H) :=
  Option.bind (lp_X8_premiumOf_5 N N a0 a1 0 0 h) fun q5 =>
  Option.bind (fn_X8_even N q5.1 q5.2) fun q96 =>
  some (q96.1, q96.2)
set_option maxRecDepth 20000 in
set_option maxHeartbeats 4000000 in
theorem ok_X8_premiumOf {D : ym_D} {b0 : Nat} {N : Nat} {a0 : Option Nat} {a1 : Int64} {h h' : ym_H} {r : Int64} (hf : fn_X8_premiumOf N a0 a1 h = some (r, h')) : ym_M D b0 g_X8_premiumOf 2 [va_rf a0, .long a1] h (some (.long r)) h' := by
  unfold fn_X8_premiumOf at hf
  refine ym_meth (lv := [(0, va_rf a0), (1, .long a1)]) (by decide) (by simp [lg_sl, ym_c1, ym_cI, ym_cL, g_X8_premiumOf]) (by simp [lv_args, ym_c1, ym_cI, ym_cL]) ?_
  refine ym_lconst (pc := 0) (v := 0) dX8_premiumOf_0 (by decide) ?_
  refine ym_lstore_n (pc := 1) (lv' := [(3, .long 0), (0, va_rf a0), (1, .long a1)]) dX8_premiumOf_1 rfl (by decide) ⟨trivial, trivial, trivial⟩ rfl ?_
  refine ym_iconst (pc := 2) (v := 0) dX8_premiumOf_2 (by decide) ?_
  refine ym_istore (pc := 3) (lv' := [(5, .int 0), (3, .long 0), (0, va_rf a0), (1, .long a1)]) dX8_premiumOf_3 (by decide) ⟨trivial, trivial, trivial, trivial⟩ rfl ?_
  obtain ⟨q5, e5, hf⟩ := Option.bind_eq_some_iff.mp hf
  refine ym_sub (lv' := [(0, va_rf a0), (1, .long a1), (3, .long 0), (5, .int 0)]) [2, 3, 1, 0] rfl ?_
  refine ok_lp_X8_premiumOf_5 N _ _ _ _ _ _ _ e5 ?_
  refine ym_lload_n (pc := 95) 0 dX8_premiumOf_95 rfl rfl ?_
  obtain ⟨q96, e96, hf⟩ := Option.bind_eq_some_iff.mp hf
  refine ym_callS (pc := 96) (G2 := g_X8_even) (dep2 := 1) (As := [.long q5.1]) (st := []) (stk2 := [.long q96.1]) (r2 := (some (.long q96.1))) (h1 := q96.2) dX8_premiumOf_96 (ok_X8_even e96) (sc_X8_premiumOf_X8_even) wd_1209 wd_1210 rfl rfl (ym_st4 (Nat.le_of_ble_eq_true rfl)) rfl ?_
  cases hf
  exact ym_lret (pc := 99) dX8_premiumOf_99 rfl
theorem dX8_sell_0 : decode cX8_sell 0 = .ok (.aload_n 0, 1) := by decide +kernel
theorem dX8_sell_1 : decode cX8_sell 1 = .ok (.iload_n 1, 1) := by decide +kernel
theorem dX8_sell_2 : decode cX8_sell 2 = .ok (.invokevirtual 298, 3) := by decide +kernel
theorem dX8_sell_5 : decode cX8_sell 5 = .ok (.istore 4, 2) := by decide +kernel
theorem dX8_sell_7 : decode cX8_sell 7 = .ok (.aload_n 0, 1) := by decide +kernel
theorem dX8_sell_8 : decode cX8_sell 8 = .ok (.getfield 41, 3) := by decide +kernel
theorem dX8_sell_11 : decode cX8_sell 11 = .ok (.iload_n 1, 1) := by decide +kernel
theorem dX8_sell_12 : decode cX8_sell 12 = .ok (.iaload, 1) := by decide +kernel
theorem dX8_sell_13 : decode cX8_sell 13 = .ok (.istore 5, 2) := by decide +kernel
theorem dX8_sell_15 : decode cX8_sell 15 = .ok (.aload_n 0, 1) := by decide +kernel
theorem dX8_sell_16 : decode cX8_sell 16 = .ok (.iload_n 1, 1) := by decide +kernel
theorem dX8_sell_17 : decode cX8_sell 17 = .ok (.invokevirtual 312, 3) := by decide +kernel
theorem dX8_sell_20 : decode cX8_sell 20 = .ok (.lload_n 2, 1) := by decide +kernel
theorem dX8_sell_21 : decode cX8_sell 21 = .ok (.lmul, 1) := by decide +kernel
theorem dX8_sell_22 : decode cX8_sell 22 = .ok (.lstore 6, 2) := by decide +kernel
theorem dX8_sell_24 : decode cX8_sell 24 = .ok (.aload_n 0, 1) := by decide +kernel
theorem dX8_sell_25 : decode cX8_sell 25 = .ok (.lload 6, 2) := by decide +kernel
theorem dX8_sell_27 : decode cX8_sell 27 = .ok (.invokevirtual 404, 3) := by decide +kernel
theorem dX8_sell_30 : decode cX8_sell 30 = .ok (.lstore 8, 2) := by decide +kernel
theorem dX8_sell_32 : decode cX8_sell 32 = .ok (.lload 6, 2) := by decide +kernel
theorem dX8_sell_34 : decode cX8_sell 34 = .ok (.lload 8, 2) := by decide +kernel
theorem dX8_sell_36 : decode cX8_sell 36 = .ok (.ladd, 1) := by decide +kernel
theorem dX8_sell_37 : decode cX8_sell 37 = .ok (.aload_n 0, 1) := by decide +kernel
theorem dX8_sell_38 : decode cX8_sell 38 = .ok (.getfield 114, 3) := by decide +kernel
theorem dX8_sell_41 : decode cX8_sell 41 = .ok (.aload_n 0, 1) := by decide +kernel
theorem dX8_sell_42 : decode cX8_sell 42 = .ok (.getfield 20, 3) := by decide +kernel
theorem dX8_sell_45 : decode cX8_sell 45 = .ok (.iload_n 1, 1) := by decide +kernel
theorem dX8_sell_46 : decode cX8_sell 46 = .ok (.iaload, 1) := by decide +kernel
theorem dX8_sell_47 : decode cX8_sell 47 = .ok (.iaload, 1) := by decide +kernel
theorem dX8_sell_48 : decode cX8_sell 48 = .ok (.i2l, 1) := by decide +kernel
theorem dX8_sell_49 : decode cX8_sell 49 = .ok (.lmul, 1) := by decide +kernel
theorem dX8_sell_50 : decode cX8_sell 50 = .ok (.invokestatic 305, 3) := by decide +kernel
theorem dX8_sell_53 : decode cX8_sell 53 = .ok (.lstore 10, 2) := by decide +kernel
theorem dX8_sell_55 : decode cX8_sell 55 = .ok (.lload 6, 2) := by decide +kernel
theorem dX8_sell_57 : decode cX8_sell 57 = .ok (.aload_n 0, 1) := by decide +kernel
theorem dX8_sell_58 : decode cX8_sell 58 = .ok (.getfield 29, 3) := by decide +kernel
theorem dX8_sell_61 : decode cX8_sell 61 = .ok (.iload_n 1, 1) := by decide +kernel
theorem dX8_sell_62 : decode cX8_sell 62 = .ok (.iaload, 1) := by decide +kernel
theorem dX8_sell_63 : decode cX8_sell 63 = .ok (.i2l, 1) := by decide +kernel
theorem dX8_sell_64 : decode cX8_sell 64 = .ok (.lmul, 1) := by decide +kernel
theorem dX8_sell_65 : decode cX8_sell 65 = .ok (.invokestatic 305, 3) := by decide +kernel
theorem dX8_sell_68 : decode cX8_sell 68 = .ok (.lstore 12, 2) := by decide +kernel
theorem dX8_sell_70 : decode cX8_sell 70 = .ok (.aload_n 0, 1) := by decide +kernel
theorem dX8_sell_71 : decode cX8_sell 71 = .ok (.getfield 17, 3) := by decide +kernel
theorem dX8_sell_74 : decode cX8_sell 74 = .ok (.iload 4, 2) := by decide +kernel
theorem dX8_sell_76 : decode cX8_sell 76 = .ok (.dup2, 1) := by decide +kernel
theorem dX8_sell_77 : decode cX8_sell 77 = .ok (.laload, 1) := by decide +kernel
theorem dX8_sell_78 : decode cX8_sell 78 = .ok (.lload 6, 2) := by decide +kernel
theorem dX8_sell_80 : decode cX8_sell 80 = .ok (.lload 8, 2) := by decide +kernel
theorem dX8_sell_82 : decode cX8_sell 82 = .ok (.ladd, 1) := by decide +kernel
theorem dX8_sell_83 : decode cX8_sell 83 = .ok (.lload 10, 2) := by decide +kernel
theorem dX8_sell_85 : decode cX8_sell 85 = .ok (.ladd, 1) := by decide +kernel
theorem dX8_sell_86 : decode cX8_sell 86 = .ok (.lsub, 1) := by decide +kernel
theorem dX8_sell_87 : decode cX8_sell 87 = .ok (.lastore, 1) := by decide +kernel
theorem dX8_sell_88 : decode cX8_sell 88 = .ok (.aload_n 0, 1) := by decide +kernel
theorem dX8_sell_89 : decode cX8_sell 89 = .ok (.getfield 117, 3) := by decide +kernel
theorem dX8_sell_92 : decode cX8_sell 92 = .ok (.iconst 0, 1) := by decide +kernel
theorem dX8_sell_93 : decode cX8_sell 93 = .ok (.dup2, 1) := by decide +kernel
theorem dX8_sell_94 : decode cX8_sell 94 = .ok (.laload, 1) := by decide +kernel
theorem dX8_sell_95 : decode cX8_sell 95 = .ok (.lload 8, 2) := by decide +kernel
theorem dX8_sell_97 : decode cX8_sell 97 = .ok (.lload 12, 2) := by decide +kernel
theorem dX8_sell_99 : decode cX8_sell 99 = .ok (.ladd, 1) := by decide +kernel
theorem dX8_sell_100 : decode cX8_sell 100 = .ok (.ladd, 1) := by decide +kernel
theorem dX8_sell_101 : decode cX8_sell 101 = .ok (.lastore, 1) := by decide +kernel
theorem dX8_sell_102 : decode cX8_sell 102 = .ok (.aload_n 0, 1) := by decide +kernel
theorem dX8_sell_103 : decode cX8_sell 103 = .ok (.getfield 117, 3) := by decide +kernel
theorem dX8_sell_106 : decode cX8_sell 106 = .ok (.iconst 1, 1) := by decide +kernel
theorem dX8_sell_107 : decode cX8_sell 107 = .ok (.dup2, 1) := by decide +kernel
theorem dX8_sell_108 : decode cX8_sell 108 = .ok (.laload, 1) := by decide +kernel
theorem dX8_sell_109 : decode cX8_sell 109 = .ok (.lload 10, 2) := by decide +kernel
theorem dX8_sell_111 : decode cX8_sell 111 = .ok (.ladd, 1) := by decide +kernel
theorem dX8_sell_112 : decode cX8_sell 112 = .ok (.lastore, 1) := by decide +kernel
theorem dX8_sell_113 : decode cX8_sell 113 = .ok (.iconst 0, 1) := by decide +kernel
theorem dX8_sell_114 : decode cX8_sell 114 = .ok (.istore 14, 2) := by decide +kernel
theorem dX8_sell_116 : decode cX8_sell 116 = .ok (.iload 14, 2) := by decide +kernel
theorem dX8_sell_118 : decode cX8_sell 118 = .ok (.iload 5, 2) := by decide +kernel
theorem dX8_sell_120 : decode cX8_sell 120 = .ok (.if_icmp .ge 59, 3) := by decide +kernel
theorem dX8_sell_123 : decode cX8_sell 123 = .ok (.aload_n 0, 1) := by decide +kernel
theorem dX8_sell_124 : decode cX8_sell 124 = .ok (.getfield 17, 3) := by decide +kernel
theorem dX8_sell_127 : decode cX8_sell 127 = .ok (.aload_n 0, 1) := by decide +kernel
theorem dX8_sell_128 : decode cX8_sell 128 = .ok (.getfield 38, 3) := by decide +kernel
theorem dX8_sell_131 : decode cX8_sell 131 = .ok (.iconst 4, 1) := by decide +kernel
theorem dX8_sell_132 : decode cX8_sell 132 = .ok (.iload_n 1, 1) := by decide +kernel
theorem dX8_sell_133 : decode cX8_sell 133 = .ok (.imul, 1) := by decide +kernel
theorem dX8_sell_134 : decode cX8_sell 134 = .ok (.iload 14, 2) := by decide +kernel
theorem dX8_sell_136 : decode cX8_sell 136 = .ok (.iadd, 1) := by decide +kernel
theorem dX8_sell_137 : decode cX8_sell 137 = .ok (.iaload, 1) := by decide +kernel
theorem dX8_sell_138 : decode cX8_sell 138 = .ok (.dup2, 1) := by decide +kernel
theorem dX8_sell_139 : decode cX8_sell 139 = .ok (.laload, 1) := by decide +kernel
theorem dX8_sell_140 : decode cX8_sell 140 = .ok (.lload 6, 2) := by decide +kernel
theorem dX8_sell_142 : decode cX8_sell 142 = .ok (.lload 12, 2) := by decide +kernel
theorem dX8_sell_144 : decode cX8_sell 144 = .ok (.lsub, 1) := by decide +kernel
theorem dX8_sell_145 : decode cX8_sell 145 = .ok (.iload 5, 2) := by decide +kernel
theorem dX8_sell_147 : decode cX8_sell 147 = .ok (.i2l, 1) := by decide +kernel
theorem dX8_sell_148 : decode cX8_sell 148 = .ok (.ldiv, 1) := by decide +kernel
theorem dX8_sell_149 : decode cX8_sell 149 = .ok (.iload 14, 2) := by decide +kernel
theorem dX8_sell_151 : decode cX8_sell 151 = .ok (.i2l, 1) := by decide +kernel
theorem dX8_sell_152 : decode cX8_sell 152 = .ok (.lload 6, 2) := by decide +kernel
theorem dX8_sell_154 : decode cX8_sell 154 = .ok (.lload 12, 2) := by decide +kernel
theorem dX8_sell_156 : decode cX8_sell 156 = .ok (.lsub, 1) := by decide +kernel
theorem dX8_sell_157 : decode cX8_sell 157 = .ok (.iload 5, 2) := by decide +kernel
theorem dX8_sell_159 : decode cX8_sell 159 = .ok (.i2l, 1) := by decide +kernel
theorem dX8_sell_160 : decode cX8_sell 160 = .ok (.lrem, 1) := by decide +kernel
theorem dX8_sell_161 : decode cX8_sell 161 = .ok (.lcmp, 1) := by decide +kernel
theorem dX8_sell_162 : decode cX8_sell 162 = .ok (.ifCond .ge 7, 3) := by decide +kernel
theorem dX8_sell_165 : decode cX8_sell 165 = .ok (.lconst 1, 1) := by decide +kernel
theorem dX8_sell_166 : decode cX8_sell 166 = .ok (.goto 4, 3) := by decide +kernel
theorem dX8_sell_169 : decode cX8_sell 169 = .ok (.lconst 0, 1) := by decide +kernel
theorem dX8_sell_170 : decode cX8_sell 170 = .ok (.ladd, 1) := by decide +kernel
theorem dX8_sell_171 : decode cX8_sell 171 = .ok (.ladd, 1) := by decide +kernel
theorem dX8_sell_172 : decode cX8_sell 172 = .ok (.lastore, 1) := by decide +kernel
theorem dX8_sell_173 : decode cX8_sell 173 = .ok (.iinc 14 1, 3) := by decide +kernel
theorem dX8_sell_176 : decode cX8_sell 176 = .ok (.goto (-60), 3) := by decide +kernel
theorem dX8_sell_179 : decode cX8_sell 179 = .ok (.aload_n 0, 1) := by decide +kernel
theorem dX8_sell_180 : decode cX8_sell 180 = .ok (.getfield 32, 3) := by decide +kernel
theorem dX8_sell_183 : decode cX8_sell 183 = .ok (.iload_n 1, 1) := by decide +kernel
theorem dX8_sell_184 : decode cX8_sell 184 = .ok (.iconst 2, 1) := by decide +kernel
theorem dX8_sell_185 : decode cX8_sell 185 = .ok (.iastore, 1) := by decide +kernel
theorem dX8_sell_186 : decode cX8_sell 186 = .ok (.lload 6, 2) := by decide +kernel
theorem dX8_sell_188 : decode cX8_sell 188 = .ok (.lreturn, 1) := by decide +kernel
theorem sc_X8_sell_X8_standing : ym_site g_X8_sell g_X8_standing 3 1 1 := ⟨by decide, by decide, wd_1107, wd_83, by decide +kernel⟩
theorem sc_X8_sell_X8_standingSum : ym_site g_X8_sell g_X8_standingSum 3 2 1 := ⟨by decide, by decide, wd_1111, wd_83, by decide +kernel⟩
theorem sc_X8_sell_X8_premiumOf : ym_site g_X8_sell g_X8_premiumOf 3 2 1 := ⟨by decide, by decide, wd_1208, wd_83, by decide +kernel⟩
theorem sc_X8_sell_X8_even : ym_site g_X8_sell g_X8_even 3 1 1 := ⟨by decide, by decide, wd_1211, wd_83, by decide +kernel⟩
def bl_X8_sell_170_116 (K : Option Nat → Int32 → Int32 → Int64 → Int64 → Int32 → ym_H → Option ((Unit) × ym_H)) (N : Nat) (w0 : Option Nat) (w1 : Int32) (w5 : Int32) (w6 : Int64) (w12 : Int64) (w14 : Int32) (s0 : Int64) (s1 : Int64) (s2 : Int64) (s3 : Int32) (s4 : Option Nat) (h : ym_H) : Option ((Unit) × ym_H) :=
  Option.bind (ym_as h s4 1 s3 (.long (s2 + (s1 + s0)))) fun h172 =>
  K w0 w1 w5 w6 w12 (w14 + 1) h172
set_option maxRecDepth 20000 in
set_option maxHeartbeats 4000000 in
theorem ob_X8_sell_170_116 {D : ym_D} {b0 : Nat} {K : Option Nat → Int32 → Int32 → Int64 → Int64 → Int32 → ym_H → Option ((Unit) × ym_H)} {N : Nat} {w0 : Option Nat} {w1 : Int32} {w5 : Int32} {w6 : Int64} {w12 : Int64} {w14 : Int32} {s0 : Int64} {s1 : Int64} {s2 : Int64} {s3 : Int32} {s4 : Option Nat} {h h1 : ym_H} {x : (Unit)} (hKl : ∀ (u5 : Int32) (u12 : Int64) (u14 : Int32) (h h1 : ym_H) (x : (Unit)), K w0 w1 u5 w6 u12 u14 h = some (x, h1) → ∀ {r0 : Option Value} {h' : ym_H}, ym_Y D b0 g_X8_sell 3 179 [(0, va_rf w0), (1, .int w1), (6, .long w6)] [] h1 r0 h' → ym_Y D b0 g_X8_sell 3 116 [(0, va_rf w0), (1, .int w1), (5, .int u5), (6, .long w6), (12, .long u12), (14, .int u14)] [] h r0 h') (hf : bl_X8_sell_170_116 K N w0 w1 w5 w6 w12 w14 s0 s1 s2 s3 s4 h = some (x, h1)) {r0 : Option Value} {h' : ym_H} (k : ym_Y D b0 g_X8_sell 3 179 [(0, va_rf w0), (1, .int w1), (6, .long w6)] [] h1 r0 h') : ym_Y D b0 g_X8_sell 3 170 [(0, va_rf w0), (1, .int w1), (5, .int w5), (6, .long w6), (12, .long w12), (14, .int w14)] [.long s0, .long s1, .long s2, .int s3, va_rf s4] h r0 h' := by
  unfold bl_X8_sell_170_116 at hf
  refine ym_ladd (pc := 170) dX8_sell_170 ?_
  refine ym_ladd (pc := 171) dX8_sell_171 ?_
  obtain ⟨h172, e172, hf⟩ := Option.bind_eq_some_iff.mp hf
  refine ym_last (pc := 172) dX8_sell_172 rfl e172 ?_
  refine ym_iinc (pc := 173) (lv' := [(14, .int (w14 + 1)), (0, va_rf w0), (1, .int w1), (5, .int w5), (6, .long w6), (12, .long w12)]) (v := (w14 + 1)) 5 dX8_sell_173 rfl (by rw [show Int32.ofInt 1 = 1 by decide]) (by decide) ⟨trivial, trivial, trivial, trivial, trivial, trivial, trivial⟩ rfl ?_
  refine ym_goto (pc := 176) (tgt := 116) dX8_sell_176 (by decide) ?_
  exact ym_sub [1, 2, 3, 4, 5, 0] rfl (hKl _ _ _ _ _ _ hf k)
def lb_X8_sell_116 (K : Option Nat → Int32 → Int32 → Int64 → Int64 → Int32 → ym_H → Option ((Unit) × ym_H)) (N : Nat) (w0 : Option Nat) (w1 : Int32) (w5 : Int32) (w6 : Int64) (w12 : Int64) (w14 : Int32) (h : ym_H) : Option ((Unit) × ym_H) :=
  if w5 ≤ w14 then
    some ((), h)
  else
    Option.bind (ym_gR h w0 8 3) fun v124 =>
    Option.bind (ym_gR h w0 8 11) fun v128 =>
    Option.bind (ym_ldI h v128 ((4 * w1) + w14)) fun v137 =>
    Option.bind (ym_ldL h v124 v137) fun v139 =>
    if (Int32.toInt64 w5) = 0 then none else
    if (Int32.toInt64 w5) = 0 then none else
    if ((w6 - w12) - (w6 - w12) / (Int32.toInt64 w5) * (Int32.toInt64 w5)) ≤ (Int32.toInt64 w14) then
      bl_X8_sell_170_116 K N w0 w1 w5 w6 w12 w14 0 ((w6 - w12) / (Int32.toInt64 w5)) v139 v137 v124 h
    else
      bl_X8_sell_170_116 K N w0 w1 w5 w6 w12 w14 1 ((w6 - w12) / (Int32.toInt64 w5)) v139 v137 v124 h
set_option maxRecDepth 20000 in
set_option maxHeartbeats 4000000 in
theorem ol_X8_sell_116 {D : ym_D} {b0 : Nat} {K : Option Nat → Int32 → Int32 → Int64 → Int64 → Int32 → ym_H → Option ((Unit) × ym_H)} {N : Nat} {w0 : Option Nat} {w1 : Int32} {w5 : Int32} {w6 : Int64} {w12 : Int64} {w14 : Int32} {h h1 : ym_H} {x : (Unit)} (hKl : ∀ (u5 : Int32) (u12 : Int64) (u14 : Int32) (h h1 : ym_H) (x : (Unit)), K w0 w1 u5 w6 u12 u14 h = some (x, h1) → ∀ {r0 : Option Value} {h' : ym_H}, ym_Y D b0 g_X8_sell 3 179 [(0, va_rf w0), (1, .int w1), (6, .long w6)] [] h1 r0 h' → ym_Y D b0 g_X8_sell 3 116 [(0, va_rf w0), (1, .int w1), (5, .int u5), (6, .long w6), (12, .long u12), (14, .int u14)] [] h r0 h') (hf : lb_X8_sell_116 K N w0 w1 w5 w6 w12 w14 h = some (x, h1)) {r0 : Option Value} {h' : ym_H} (k : ym_Y D b0 g_X8_sell 3 179 [(0, va_rf w0), (1, .int w1), (6, .long w6)] [] h1 r0 h') : ym_Y D b0 g_X8_sell 3 116 [(0, va_rf w0), (1, .int w1), (5, .int w5), (6, .long w6), (12, .long w12), (14, .int w14)] [] h r0 h' := by
  unfold lb_X8_sell_116 at hf
  refine ym_iload (pc := 116) 5 dX8_sell_116 rfl ?_
  refine ym_iload (pc := 118) 2 dX8_sell_118 rfl ?_
  by_cases c120 : w5 ≤ w14
  · rw [if_pos c120] at hf
    refine ym_icmp_ge_y (pc := 120) (tgt := 179) dX8_sell_120 (by decide) c120 ?_
    cases hf
    exact ym_sub [0, 1, 3] rfl k
  · rw [if_neg c120] at hf
    refine ym_icmp_ge_n (pc := 120) (tgt := 179) dX8_sell_120 (by decide) c120 ?_
    refine ym_aload_n (pc := 123) 0 dX8_sell_123 rfl rfl ?_
    obtain ⟨v124, e124, hf⟩ := Option.bind_eq_some_iff.mp hf
    refine ym_get (pc := 124) dX8_sell_124 rfl (by decide) iX8 (k := 3) (by decide) wd_848 (ym_gR_v e124) ?_
    refine ym_aload_n (pc := 127) 0 dX8_sell_127 rfl rfl ?_
    obtain ⟨v128, e128, hf⟩ := Option.bind_eq_some_iff.mp hf
    refine ym_get (pc := 128) dX8_sell_128 rfl (by decide) iX8 (k := 11) (by decide) wd_856 (ym_gR_v e128) ?_
    refine ym_iconst (pc := 131) (v := 4) dX8_sell_131 (by decide) ?_
    refine ym_iload_n (pc := 132) 1 dX8_sell_132 rfl rfl ?_
    refine ym_imul (pc := 133) dX8_sell_133 ?_
    refine ym_iload (pc := 134) 5 dX8_sell_134 rfl ?_
    refine ym_iadd (pc := 136) dX8_sell_136 ?_
    obtain ⟨v137, e137, hf⟩ := Option.bind_eq_some_iff.mp hf
    refine ym_iald (pc := 137) dX8_sell_137 rfl (ym_ldI_v e137) ?_
    refine ym_dup2_11 (pc := 138) dX8_sell_138 rfl (ym_c1 v124) ?_
    obtain ⟨v139, e139, hf⟩ := Option.bind_eq_some_iff.mp hf
    refine ym_lald (pc := 139) dX8_sell_139 rfl (ym_ldL_v e139) ?_
    refine ym_lload (pc := 140) 3 dX8_sell_140 rfl ?_
    refine ym_lload (pc := 142) 4 dX8_sell_142 rfl ?_
    refine ym_lsub (pc := 144) dX8_sell_144 ?_
    refine ym_iload (pc := 145) 2 dX8_sell_145 rfl ?_
    refine ym_i2l (pc := 147) dX8_sell_147 ?_
    by_cases z148 : (Int32.toInt64 w5) = 0
    · rw [if_pos z148] at hf
      cases hf
    rw [if_neg z148] at hf
    refine ym_ldiv (pc := 148) dX8_sell_148 z148 ?_
    refine ym_iload (pc := 149) 5 dX8_sell_149 rfl ?_
    refine ym_i2l (pc := 151) dX8_sell_151 ?_
    refine ym_lload (pc := 152) 3 dX8_sell_152 rfl ?_
    refine ym_lload (pc := 154) 4 dX8_sell_154 rfl ?_
    refine ym_lsub (pc := 156) dX8_sell_156 ?_
    refine ym_iload (pc := 157) 2 dX8_sell_157 rfl ?_
    refine ym_i2l (pc := 159) dX8_sell_159 ?_
    by_cases z160 : (Int32.toInt64 w5) = 0
    · rw [if_pos z160] at hf
      cases hf
    rw [if_neg z160] at hf
    refine ym_lrem (pc := 160) dX8_sell_160 z160 ?_
    by_cases c161 : ((w6 - w12) - (w6 - w12) / (Int32.toInt64 w5) * (Int32.toInt64 w5)) ≤ (Int32.toInt64 w14)
    · rw [if_pos c161] at hf
      refine ym_lcmp_ge_y (pc := 161) (tgt := 169) dX8_sell_161 dX8_sell_162 (by decide) c161 ?_
      refine ym_lconst (pc := 169) (v := 0) dX8_sell_169 (by decide) ?_
      exact ym_sub [0, 1, 2, 3, 4, 5] rfl (ob_X8_sell_170_116 hKl hf k)
    · rw [if_neg c161] at hf
      refine ym_lcmp_ge_n (pc := 161) (tgt := 169) dX8_sell_161 dX8_sell_162 (by decide) c161 ?_
      refine ym_lconst (pc := 165) (v := 1) dX8_sell_165 (by decide) ?_
      refine ym_goto (pc := 166) (tgt := 170) dX8_sell_166 (by decide) ?_
      exact ym_sub [0, 1, 2, 3, 4, 5] rfl (ob_X8_sell_170_116 hKl hf k)
def lp_X8_sell_116 (N : Nat) : Nat → Option Nat → Int32 → Int32 → Int64 → Int64 → Int32 → ym_H → Option ((Unit) × ym_H)
  | 0, _, _, _, _, _, _, _ => none
  | n + 1, w0, w1, w5, w6, w12, w14, h => lb_X8_sell_116 (lp_X8_sell_116 N n) N w0 w1 w5 w6 w12 w14 h
set_option maxRecDepth 20000 in
set_option maxHeartbeats 4000000 in
theorem ok_lp_X8_sell_116 {D : ym_D} {b0 : Nat} {N : Nat} {w0 : Option Nat} {w1 : Int32} {w6 : Int64} : ∀ (n : Nat) (w5 : Int32) (w12 : Int64) (w14 : Int32) (h h1 : ym_H) (x : (Unit)), lp_X8_sell_116 N n w0 w1 w5 w6 w12 w14 h = some (x, h1) → ∀ {r0 : Option Value} {h' : ym_H}, ym_Y D b0 g_X8_sell 3 179 [(0, va_rf w0), (1, .int w1), (6, .long w6)] [] h1 r0 h' → ym_Y D b0 g_X8_sell 3 116 [(0, va_rf w0), (1, .int w1), (5, .int w5), (6, .long w6), (12, .long w12), (14, .int w14)] [] h r0 h' := by
  intro n
  induction n with
  | zero =>
    intro w5 w12 w14 h h1 x hf
    cases hf
  | succ n ih =>
    intro w5 w12 w14 h h1 x hf r0 h' k
    exact ol_X8_sell_116 (fun w5 w12 w14 h h1 x z r0 h' k => ih w5 w12 w14 h h1 x z k) hf k
def fn_X8_sell (N : Nat) (a0 : Option Nat) (a1 : Int32) (a2 : Int64) (h : ym_H) : Option (Int64 × ym_H) :=
  Option.bind (ym_ob h a0 8) fun o2 =>
  Option.bind (fn_X8_standing N a0 a1 h) fun q2 =>
  Option.bind (ym_gR q2.2 a0 8 12) fun v8 =>
  Option.bind (ym_ldI q2.2 v8 a1) fun v12 =>
  Option.bind (ym_ob q2.2 a0 8) fun o17 =>
  Option.bind (fn_X8_standingSum N a0 a1 q2.2) fun q17 =>
  Option.bind (ym_ob q17.2 a0 8) fun o27 =>
  Option.bind (fn_X8_premiumOf N a0 (q17.1 * a2) q17.2) fun q27 =>
  Option.bind (ym_gR q27.2 a0 8 39) fun v38 =>
  Option.bind (ym_gR q27.2 a0 8 5) fun v42 =>
  Option.bind (ym_ldI q27.2 v42 a1) fun v46 =>
  Option.bind (ym_ldI q27.2 v38 v46) fun v47 =>
  Option.bind (fn_X8_even N (((q17.1 * a2) + q27.1) * (Int32.toInt64 v47)) q27.2) fun q50 =>
  Option.bind (ym_gR q50.2 a0 8 8) fun v58 =>
  Option.bind (ym_ldI q50.2 v58 a1) fun v62 =>
  Option.bind (fn_X8_even N ((q17.1 * a2) * (Int32.toInt64 v62)) q50.2) fun q65 =>
  Option.bind (ym_gR q65.2 a0 8 3) fun v71 =>
  Option.bind (ym_ldL q65.2 v71 q2.1) fun v77 =>
  Option.bind (ym_as q65.2 v71 1 q2.1 (.long (v77 - (((q17.1 * a2) + q27.1) + q50.1)))) fun h87 =>
  Option.bind (ym_gR h87 a0 8 40) fun v89 =>
  Option.bind (ym_ldL h87 v89 0) fun v94 =>
  Option.bind (ym_as h87 v89 1 0 (.long (v94 + (q27.1 + q65.1)))) fun h101 =>
  Option.bind (ym_gR h101 a0 8 40) fun v103 =>
  Option.bind (ym_ldL h101 v103 1) fun v108 =>
  Option.bind (ym_as h101 v103 1 1 (.long (v108 + q50.1))) fun h112 =>
  Option.bind (lp_X8_sell_116 N N a0 a1 v12 (q17.1 * a2) q65.1 0 h112) fun q116 =>
  Option.bind (ym_gR q116.2 a0 8 9) fun v180 =>
  Option.bind (ym_as q116.2 v180 0 a1 (.int 2)) fun h185 =>
  some ((q17.1 * a2), h185)
set_option maxRecDepth 20000 in
set_option maxHeartbeats 4000000 in
theorem ok_X8_sell {D : ym_D} {b0 : Nat} {N : Nat} {a0 : Option Nat} {a1 : Int32} {a2 : Int64} {h h' : ym_H} {r : Int64} (hf : fn_X8_sell N a0 a1 a2 h = some (r, h')) : ym_M D b0 g_X8_sell 3 [va_rf a0, .int a1, .long a2] h (some (.long r)) h' := by
  unfold fn_X8_sell at hf
  refine ym_meth (lv := [(0, va_rf a0), (1, .int a1), (2, .long a2)]) (by decide) (by simp [lg_sl, ym_c1, ym_cI, ym_cL, g_X8_sell]) (by simp [lv_args, ym_c1, ym_cI, ym_cL]) ?_
  refine ym_aload_n (pc := 0) 0 dX8_sell_0 rfl rfl ?_
  refine ym_iload_n (pc := 1) 1 dX8_sell_1 rfl rfl ?_
  obtain ⟨o2, f2, hf⟩ := Option.bind_eq_some_iff.mp hf
  obtain ⟨q2, e2, hf⟩ := Option.bind_eq_some_iff.mp hf
  refine ym_callV (pc := 2) (G2 := g_X8_standing) (dep2 := 1) (As := [.int a1]) (st := []) (stk2 := [.int q2.1]) (r2 := (some (.int q2.1))) (h1 := q2.2) dX8_sell_2 (ok_X8_standing e2) (sc_X8_sell_X8_standing) wd_1104 wd_1106 wd_37 (ci := 8) (q0 := (RX8, TX8, 58)) rfl (by decide) rfl f2 rfl rfl (ym_st4 (Nat.le_of_ble_eq_true rfl)) rfl ?_
  refine ym_istore (pc := 5) (lv' := [(4, .int q2.1), (0, va_rf a0), (1, .int a1), (2, .long a2)]) dX8_sell_5 (by decide) ⟨trivial, trivial, trivial, trivial⟩ rfl ?_
  refine ym_aload_n (pc := 7) 1 dX8_sell_7 rfl rfl ?_
  obtain ⟨v8, e8, hf⟩ := Option.bind_eq_some_iff.mp hf
  refine ym_get (pc := 8) dX8_sell_8 rfl (by decide) iX8 (k := 12) (by decide) wd_857 (ym_gR_v e8) ?_
  refine ym_iload_n (pc := 11) 2 dX8_sell_11 rfl rfl ?_
  obtain ⟨v12, e12, hf⟩ := Option.bind_eq_some_iff.mp hf
  refine ym_iald (pc := 12) dX8_sell_12 rfl (ym_ldI_v e12) ?_
  refine ym_istore (pc := 13) (lv' := [(5, .int v12), (4, .int q2.1), (0, va_rf a0), (1, .int a1), (2, .long a2)]) dX8_sell_13 (by decide) ⟨rfl, trivial, trivial, trivial, trivial⟩ rfl ?_
  refine ym_aload_n (pc := 15) 2 dX8_sell_15 rfl rfl ?_
  refine ym_iload_n (pc := 16) 3 dX8_sell_16 rfl rfl ?_
  obtain ⟨o17, f17, hf⟩ := Option.bind_eq_some_iff.mp hf
  obtain ⟨q17, e17, hf⟩ := Option.bind_eq_some_iff.mp hf
  refine ym_callV (pc := 17) (G2 := g_X8_standingSum) (dep2 := 2) (As := [.int a1]) (st := []) (stk2 := [.long q17.1]) (r2 := (some (.long q17.1))) (h1 := q17.2) dX8_sell_17 (ok_X8_standingSum e17) (sc_X8_sell_X8_standingSum) wd_1108 wd_1110 wd_38 (ci := 8) (q0 := (RX8, TX8, 58)) rfl (by decide) rfl f17 rfl rfl (ym_st4 (Nat.le_of_ble_eq_true rfl)) rfl ?_
  refine ym_lload_n (pc := 20) 4 dX8_sell_20 rfl rfl ?_
  refine ym_lmul (pc := 21) dX8_sell_21 ?_
  refine ym_sub (lv' := [(5, .int v12), (4, .int q2.1), (0, va_rf a0), (1, .int a1)]) [0, 1, 2, 3] rfl ?_
  refine ym_lstore (pc := 22) (lv' := [(6, .long (q17.1 * a2)), (5, .int v12), (4, .int q2.1), (0, va_rf a0), (1, .int a1)]) dX8_sell_22 (by decide) ⟨rfl, trivial, trivial, trivial, trivial⟩ rfl ?_
  refine ym_aload_n (pc := 24) 3 dX8_sell_24 rfl rfl ?_
  refine ym_lload (pc := 25) 0 dX8_sell_25 rfl ?_
  obtain ⟨o27, f27, hf⟩ := Option.bind_eq_some_iff.mp hf
  obtain ⟨q27, e27, hf⟩ := Option.bind_eq_some_iff.mp hf
  refine ym_callV (pc := 27) (G2 := g_X8_premiumOf) (dep2 := 2) (As := [.long (q17.1 * a2)]) (st := []) (stk2 := [.long q27.1]) (r2 := (some (.long q27.1))) (h1 := q27.2) dX8_sell_27 (ok_X8_premiumOf e27) (sc_X8_sell_X8_premiumOf) wd_1205 wd_1207 wd_59 (ci := 8) (q0 := (RX8, TX8, 58)) rfl (by decide) rfl f27 rfl rfl (ym_st4 (Nat.le_of_ble_eq_true rfl)) rfl ?_
  refine ym_lstore (pc := 30) (lv' := [(8, .long q27.1), (6, .long (q17.1 * a2)), (5, .int v12), (4, .int q2.1), (0, va_rf a0), (1, .int a1)]) dX8_sell_30 (by decide) ⟨trivial, trivial, trivial, trivial, trivial, trivial⟩ rfl ?_
  refine ym_lload (pc := 32) 1 dX8_sell_32 rfl ?_
  refine ym_lload (pc := 34) 0 dX8_sell_34 rfl ?_
  refine ym_ladd (pc := 36) dX8_sell_36 ?_
  refine ym_aload_n (pc := 37) 4 dX8_sell_37 rfl rfl ?_
  obtain ⟨v38, e38, hf⟩ := Option.bind_eq_some_iff.mp hf
  refine ym_get (pc := 38) dX8_sell_38 rfl (by decide) iX8 (k := 39) (by decide) wd_884 (ym_gR_v e38) ?_
  refine ym_aload_n (pc := 41) 4 dX8_sell_41 rfl rfl ?_
  obtain ⟨v42, e42, hf⟩ := Option.bind_eq_some_iff.mp hf
  refine ym_get (pc := 42) dX8_sell_42 rfl (by decide) iX8 (k := 5) (by decide) wd_850 (ym_gR_v e42) ?_
  refine ym_iload_n (pc := 45) 5 dX8_sell_45 rfl rfl ?_
  obtain ⟨v46, e46, hf⟩ := Option.bind_eq_some_iff.mp hf
  refine ym_iald (pc := 46) dX8_sell_46 rfl (ym_ldI_v e46) ?_
  obtain ⟨v47, e47, hf⟩ := Option.bind_eq_some_iff.mp hf
  refine ym_iald (pc := 47) dX8_sell_47 rfl (ym_ldI_v e47) ?_
  refine ym_i2l (pc := 48) dX8_sell_48 ?_
  refine ym_lmul (pc := 49) dX8_sell_49 ?_
  obtain ⟨q50, e50, hf⟩ := Option.bind_eq_some_iff.mp hf
  refine ym_callS (pc := 50) (G2 := g_X8_even) (dep2 := 1) (As := [.long (((q17.1 * a2) + q27.1) * (Int32.toInt64 v47))]) (st := []) (stk2 := [.long q50.1]) (r2 := (some (.long q50.1))) (h1 := q50.2) dX8_sell_50 (ok_X8_even e50) (sc_X8_sell_X8_even) wd_1209 wd_1210 rfl rfl (ym_st4 (Nat.le_of_ble_eq_true rfl)) rfl ?_
  refine ym_lstore (pc := 53) (lv' := [(10, .long q50.1), (8, .long q27.1), (6, .long (q17.1 * a2)), (5, .int v12), (4, .int q2.1), (0, va_rf a0), (1, .int a1)]) dX8_sell_53 (by decide) ⟨trivial, trivial, trivial, trivial, trivial, trivial, trivial⟩ rfl ?_
  refine ym_lload (pc := 55) 2 dX8_sell_55 rfl ?_
  refine ym_aload_n (pc := 57) 5 dX8_sell_57 rfl rfl ?_
  obtain ⟨v58, e58, hf⟩ := Option.bind_eq_some_iff.mp hf
  refine ym_get (pc := 58) dX8_sell_58 rfl (by decide) iX8 (k := 8) (by decide) wd_853 (ym_gR_v e58) ?_
  refine ym_iload_n (pc := 61) 6 dX8_sell_61 rfl rfl ?_
  obtain ⟨v62, e62, hf⟩ := Option.bind_eq_some_iff.mp hf
  refine ym_iald (pc := 62) dX8_sell_62 rfl (ym_ldI_v e62) ?_
  refine ym_i2l (pc := 63) dX8_sell_63 ?_
  refine ym_lmul (pc := 64) dX8_sell_64 ?_
  obtain ⟨q65, e65, hf⟩ := Option.bind_eq_some_iff.mp hf
  refine ym_callS (pc := 65) (G2 := g_X8_even) (dep2 := 1) (As := [.long ((q17.1 * a2) * (Int32.toInt64 v62))]) (st := []) (stk2 := [.long q65.1]) (r2 := (some (.long q65.1))) (h1 := q65.2) dX8_sell_65 (ok_X8_even e65) (sc_X8_sell_X8_even) wd_1209 wd_1210 rfl rfl (ym_st4 (Nat.le_of_ble_eq_true rfl)) rfl ?_
  refine ym_lstore (pc := 68) (lv' := [(12, .long q65.1), (10, .long q50.1), (8, .long q27.1), (6, .long (q17.1 * a2)), (5, .int v12), (4, .int q2.1), (0, va_rf a0), (1, .int a1)]) dX8_sell_68 (by decide) ⟨trivial, trivial, trivial, trivial, trivial, trivial, trivial, trivial⟩ rfl ?_
  refine ym_aload_n (pc := 70) 6 dX8_sell_70 rfl rfl ?_
  obtain ⟨v71, e71, hf⟩ := Option.bind_eq_some_iff.mp hf
  refine ym_get (pc := 71) dX8_sell_71 rfl (by decide) iX8 (k := 3) (by decide) wd_848 (ym_gR_v e71) ?_
  refine ym_iload (pc := 74) 5 dX8_sell_74 rfl ?_
  refine ym_dup2_11 (pc := 76) dX8_sell_76 rfl (ym_c1 v71) ?_
  obtain ⟨v77, e77, hf⟩ := Option.bind_eq_some_iff.mp hf
  refine ym_lald (pc := 77) dX8_sell_77 rfl (ym_ldL_v e77) ?_
  refine ym_lload (pc := 78) 3 dX8_sell_78 rfl ?_
  refine ym_lload (pc := 80) 2 dX8_sell_80 rfl ?_
  refine ym_ladd (pc := 82) dX8_sell_82 ?_
  refine ym_lload (pc := 83) 1 dX8_sell_83 rfl ?_
  refine ym_ladd (pc := 85) dX8_sell_85 ?_
  refine ym_lsub (pc := 86) dX8_sell_86 ?_
  obtain ⟨h87, e87, hf⟩ := Option.bind_eq_some_iff.mp hf
  refine ym_last (pc := 87) dX8_sell_87 rfl e87 ?_
  refine ym_aload_n (pc := 88) 6 dX8_sell_88 rfl rfl ?_
  obtain ⟨v89, e89, hf⟩ := Option.bind_eq_some_iff.mp hf
  refine ym_get (pc := 89) dX8_sell_89 rfl (by decide) iX8 (k := 40) (by decide) wd_885 (ym_gR_v e89) ?_
  refine ym_iconst (pc := 92) (v := 0) dX8_sell_92 (by decide) ?_
  refine ym_dup2_11 (pc := 93) dX8_sell_93 rfl (ym_c1 v89) ?_
  obtain ⟨v94, e94, hf⟩ := Option.bind_eq_some_iff.mp hf
  refine ym_lald (pc := 94) dX8_sell_94 rfl (ym_ldL_v e94) ?_
  refine ym_lload (pc := 95) 2 dX8_sell_95 rfl ?_
  refine ym_lload (pc := 97) 0 dX8_sell_97 rfl ?_
  refine ym_ladd (pc := 99) dX8_sell_99 ?_
  refine ym_ladd (pc := 100) dX8_sell_100 ?_
  obtain ⟨h101, e101, hf⟩ := Option.bind_eq_some_iff.mp hf
  refine ym_last (pc := 101) dX8_sell_101 rfl e101 ?_
  refine ym_aload_n (pc := 102) 6 dX8_sell_102 rfl rfl ?_
  obtain ⟨v103, e103, hf⟩ := Option.bind_eq_some_iff.mp hf
  refine ym_get (pc := 103) dX8_sell_103 rfl (by decide) iX8 (k := 40) (by decide) wd_885 (ym_gR_v e103) ?_
  refine ym_iconst (pc := 106) (v := 1) dX8_sell_106 (by decide) ?_
  refine ym_dup2_11 (pc := 107) dX8_sell_107 rfl (ym_c1 v103) ?_
  obtain ⟨v108, e108, hf⟩ := Option.bind_eq_some_iff.mp hf
  refine ym_lald (pc := 108) dX8_sell_108 rfl (ym_ldL_v e108) ?_
  refine ym_lload (pc := 109) 1 dX8_sell_109 rfl ?_
  refine ym_ladd (pc := 111) dX8_sell_111 ?_
  obtain ⟨h112, e112, hf⟩ := Option.bind_eq_some_iff.mp hf
  refine ym_last (pc := 112) dX8_sell_112 rfl e112 ?_
  refine ym_iconst (pc := 113) (v := 0) dX8_sell_113 (by decide) ?_
  refine ym_sub (lv' := [(12, .long q65.1), (6, .long (q17.1 * a2)), (5, .int v12), (0, va_rf a0), (1, .int a1)]) [0, 3, 4, 6, 7] rfl ?_
  refine ym_istore (pc := 114) (lv' := [(14, .int 0), (12, .long q65.1), (6, .long (q17.1 * a2)), (5, .int v12), (0, va_rf a0), (1, .int a1)]) dX8_sell_114 (by decide) ⟨trivial, trivial, trivial, trivial, trivial, trivial⟩ rfl ?_
  obtain ⟨q116, e116, hf⟩ := Option.bind_eq_some_iff.mp hf
  refine ym_sub (lv' := [(0, va_rf a0), (1, .int a1), (5, .int v12), (6, .long (q17.1 * a2)), (12, .long q65.1), (14, .int 0)]) [4, 5, 3, 2, 1, 0] rfl ?_
  refine ok_lp_X8_sell_116 N _ _ _ _ _ _ e116 ?_
  refine ym_aload_n (pc := 179) 0 dX8_sell_179 rfl rfl ?_
  obtain ⟨v180, e180, hf⟩ := Option.bind_eq_some_iff.mp hf
  refine ym_get (pc := 180) dX8_sell_180 rfl (by decide) iX8 (k := 9) (by decide) wd_854 (ym_gR_v e180) ?_
  refine ym_iload_n (pc := 183) 1 dX8_sell_183 rfl rfl ?_
  refine ym_iconst (pc := 184) (v := 2) dX8_sell_184 (by decide) ?_
  obtain ⟨h185, e185, hf⟩ := Option.bind_eq_some_iff.mp hf
  refine ym_iast (pc := 185) dX8_sell_185 rfl e185 ?_
  refine ym_lload (pc := 186) 2 dX8_sell_186 rfl ?_
  cases hf
  exact ym_lret (pc := 188) dX8_sell_188 rfl
theorem dX8_hammered_0 : decode cX8_hammered 0 = .ok (.aload_n 0, 1) := by decide +kernel
theorem dX8_hammered_1 : decode cX8_hammered 1 = .ok (.iload_n 1, 1) := by decide +kernel
theorem dX8_hammered_2 : decode cX8_hammered 2 = .ok (.invokevirtual 294, 3) := by decide +kernel
theorem dX8_hammered_5 : decode cX8_hammered 5 = .ok (.ifCond .le 11, 3) := by decide +kernel
theorem dX8_hammered_8 : decode cX8_hammered 8 = .ok (.aload_n 0, 1) := by decide +kernel
theorem dX8_hammered_9 : decode cX8_hammered 9 = .ok (.iload_n 1, 1) := by decide +kernel
theorem dX8_hammered_10 : decode cX8_hammered 10 = .ok (.invokevirtual 294, 3) := by decide +kernel
theorem dX8_hammered_13 : decode cX8_hammered 13 = .ok (.ineg, 1) := by decide +kernel
theorem dX8_hammered_14 : decode cX8_hammered 14 = .ok (.i2l, 1) := by decide +kernel
theorem dX8_hammered_15 : decode cX8_hammered 15 = .ok (.lreturn, 1) := by decide +kernel
theorem dX8_hammered_16 : decode cX8_hammered 16 = .ok (.aload_n 0, 1) := by decide +kernel
theorem dX8_hammered_17 : decode cX8_hammered 17 = .ok (.iload_n 1, 1) := by decide +kernel
theorem dX8_hammered_18 : decode cX8_hammered 18 = .ok (.invokevirtual 361, 3) := by decide +kernel
theorem dX8_hammered_21 : decode cX8_hammered 21 = .ok (.ifCond .le 11, 3) := by decide +kernel
theorem dX8_hammered_24 : decode cX8_hammered 24 = .ok (.aload_n 0, 1) := by decide +kernel
theorem dX8_hammered_25 : decode cX8_hammered 25 = .ok (.iload_n 1, 1) := by decide +kernel
theorem dX8_hammered_26 : decode cX8_hammered 26 = .ok (.invokevirtual 361, 3) := by decide +kernel
theorem dX8_hammered_29 : decode cX8_hammered 29 = .ok (.ineg, 1) := by decide +kernel
theorem dX8_hammered_30 : decode cX8_hammered 30 = .ok (.i2l, 1) := by decide +kernel
theorem dX8_hammered_31 : decode cX8_hammered 31 = .ok (.lreturn, 1) := by decide +kernel
theorem dX8_hammered_32 : decode cX8_hammered 32 = .ok (.aload_n 0, 1) := by decide +kernel
theorem dX8_hammered_33 : decode cX8_hammered 33 = .ok (.getfield 93, 3) := by decide +kernel
theorem dX8_hammered_36 : decode cX8_hammered 36 = .ok (.iload_n 1, 1) := by decide +kernel
theorem dX8_hammered_37 : decode cX8_hammered 37 = .ok (.iaload, 1) := by decide +kernel
theorem dX8_hammered_38 : decode cX8_hammered 38 = .ok (.ifCond .lt 7, 3) := by decide +kernel
theorem dX8_hammered_41 : decode cX8_hammered 41 = .ok (.ldc2_w 348, 3) := by decide +kernel
theorem dX8_hammered_44 : decode cX8_hammered 44 = .ok (.lreturn, 1) := by decide +kernel
theorem dX8_hammered_45 : decode cX8_hammered 45 = .ok (.aload_n 0, 1) := by decide +kernel
theorem dX8_hammered_46 : decode cX8_hammered 46 = .ok (.iload_n 1, 1) := by decide +kernel
theorem dX8_hammered_47 : decode cX8_hammered 47 = .ok (.invokevirtual 407, 3) := by decide +kernel
theorem dX8_hammered_50 : decode cX8_hammered 50 = .ok (.ifCond .ne 12, 3) := by decide +kernel
theorem dX8_hammered_53 : decode cX8_hammered 53 = .ok (.aload_n 0, 1) := by decide +kernel
theorem dX8_hammered_54 : decode cX8_hammered 54 = .ok (.getfield 32, 3) := by decide +kernel
theorem dX8_hammered_57 : decode cX8_hammered 57 = .ok (.iload_n 1, 1) := by decide +kernel
theorem dX8_hammered_58 : decode cX8_hammered 58 = .ok (.iconst 3, 1) := by decide +kernel
theorem dX8_hammered_59 : decode cX8_hammered 59 = .ok (.iastore, 1) := by decide +kernel
theorem dX8_hammered_60 : decode cX8_hammered 60 = .ok (.lconst 0, 1) := by decide +kernel
theorem dX8_hammered_61 : decode cX8_hammered 61 = .ok (.lreturn, 1) := by decide +kernel
theorem dX8_hammered_62 : decode cX8_hammered 62 = .ok (.aload_n 0, 1) := by decide +kernel
theorem dX8_hammered_63 : decode cX8_hammered 63 = .ok (.iload_n 1, 1) := by decide +kernel
theorem dX8_hammered_64 : decode cX8_hammered 64 = .ok (.invokevirtual 324, 3) := by decide +kernel
theorem dX8_hammered_67 : decode cX8_hammered 67 = .ok (.lstore_n 2, 1) := by decide +kernel
theorem dX8_hammered_68 : decode cX8_hammered 68 = .ok (.aload_n 0, 1) := by decide +kernel
theorem dX8_hammered_69 : decode cX8_hammered 69 = .ok (.getfield 41, 3) := by decide +kernel
theorem dX8_hammered_72 : decode cX8_hammered 72 = .ok (.iload_n 1, 1) := by decide +kernel
theorem dX8_hammered_73 : decode cX8_hammered 73 = .ok (.iaload, 1) := by decide +kernel
theorem dX8_hammered_74 : decode cX8_hammered 74 = .ok (.ifCond .ne 9, 3) := by decide +kernel
theorem dX8_hammered_77 : decode cX8_hammered 77 = .ok (.ldc2_w 410, 3) := by decide +kernel
theorem dX8_hammered_80 : decode cX8_hammered 80 = .ok (.goto 9, 3) := by decide +kernel
theorem dX8_hammered_83 : decode cX8_hammered 83 = .ok (.aload_n 0, 1) := by decide +kernel
theorem dX8_hammered_84 : decode cX8_hammered 84 = .ok (.iload_n 1, 1) := by decide +kernel
theorem dX8_hammered_85 : decode cX8_hammered 85 = .ok (.lload_n 2, 1) := by decide +kernel
theorem dX8_hammered_86 : decode cX8_hammered 86 = .ok (.invokevirtual 412, 3) := by decide +kernel
theorem dX8_hammered_89 : decode cX8_hammered 89 = .ok (.lreturn, 1) := by decide +kernel
theorem sc_X8_hammered_X8_noLot : ym_site g_X8_hammered g_X8_noLot 4 1 1 := ⟨by decide, by decide, wd_1058, wd_83, by decide +kernel⟩
theorem sc_X8_hammered_X8_notOpen : ym_site g_X8_hammered g_X8_notOpen 4 1 1 := ⟨by decide, by decide, wd_1130, wd_83, by decide +kernel⟩
theorem sc_X8_hammered_X8_soldOf : ym_site g_X8_hammered g_X8_soldOf 4 3 1 := ⟨by decide, by decide, wd_1199, wd_83, by decide +kernel⟩
theorem sc_X8_hammered_X8_piecesOf : ym_site g_X8_hammered g_X8_piecesOf 4 2 1 := ⟨by decide, by decide, wd_1155, wd_83, by decide +kernel⟩
theorem sc_X8_hammered_X8_sell : ym_site g_X8_hammered g_X8_sell 4 3 2 := ⟨by decide, by decide, wd_1204, wd_83, by decide +kernel⟩
def fn_X8_hammered (N : Nat) (a0 : Option Nat) (a1 : Int32) (h : ym_H) : Option (Int64 × ym_H) :=
  Option.bind (ym_ob h a0 8) fun o2 =>
  Option.bind (fn_X8_noLot N a0 a1 h) fun q2 =>
  if q2.1 ≤ 0 then
    Option.bind (ym_ob q2.2 a0 8) fun o18 =>
    Option.bind (fn_X8_notOpen N a0 a1 q2.2) fun q18 =>
    if q18.1 ≤ 0 then
      Option.bind (ym_gR q18.2 a0 8 30) fun v33 =>
      Option.bind (ym_ldI q18.2 v33 a1) fun v37 =>
      if v37 < 0 then
        Option.bind (ym_ob q18.2 a0 8) fun o47 =>
        Option.bind (fn_X8_soldOf N a0 a1 q18.2) fun q47 =>
        if q47.1 = 0 then
          Option.bind (ym_gR q47.2 a0 8 9) fun v54 =>
          Option.bind (ym_as q47.2 v54 0 a1 (.int 3)) fun h59 =>
          some (0, h59)
        else
          Option.bind (ym_ob q47.2 a0 8) fun o64 =>
          Option.bind (fn_X8_piecesOf N a0 a1 q47.2) fun q64 =>
          Option.bind (ym_gR q64.2 a0 8 12) fun v69 =>
          Option.bind (ym_ldI q64.2 v69 a1) fun v73 =>
          if v73 = 0 then
            some ((-5), q64.2)
          else
            Option.bind (ym_ob q64.2 a0 8) fun o86 =>
            Option.bind (fn_X8_sell N a0 a1 q64.1 q64.2) fun q86 =>
            some (q86.1, q86.2)
      else
        some ((-8), q18.2)
    else
      Option.bind (ym_ob q18.2 a0 8) fun o26 =>
      Option.bind (fn_X8_notOpen N a0 a1 q18.2) fun q26 =>
      some ((Int32.toInt64 (-q26.1)), q26.2)
  else
    Option.bind (ym_ob q2.2 a0 8) fun o10 =>
    Option.bind (fn_X8_noLot N a0 a1 q2.2) fun q10 =>
    some ((Int32.toInt64 (-q10.1)), q10.2)
set_option maxRecDepth 20000 in
set_option maxHeartbeats 4000000 in
theorem ok_X8_hammered {D : ym_D} {b0 : Nat} {N : Nat} {a0 : Option Nat} {a1 : Int32} {h h' : ym_H} {r : Int64} (hf : fn_X8_hammered N a0 a1 h = some (r, h')) : ym_M D b0 g_X8_hammered 4 [va_rf a0, .int a1] h (some (.long r)) h' := by
  unfold fn_X8_hammered at hf
  refine ym_meth (lv := [(0, va_rf a0), (1, .int a1)]) (by decide) (by simp [lg_sl, ym_c1, ym_cI, ym_cL, g_X8_hammered]) (by simp [lv_args, ym_c1, ym_cI, ym_cL]) ?_
  refine ym_aload_n (pc := 0) 0 dX8_hammered_0 rfl rfl ?_
  refine ym_iload_n (pc := 1) 1 dX8_hammered_1 rfl rfl ?_
  obtain ⟨o2, f2, hf⟩ := Option.bind_eq_some_iff.mp hf
  obtain ⟨q2, e2, hf⟩ := Option.bind_eq_some_iff.mp hf
  refine ym_callV (pc := 2) (G2 := g_X8_noLot) (dep2 := 1) (As := [.int a1]) (st := []) (stk2 := [.int q2.1]) (r2 := (some (.int q2.1))) (h1 := q2.2) dX8_hammered_2 (ok_X8_noLot e2) (sc_X8_hammered_X8_noLot) wd_1055 wd_1057 wd_27 (ci := 8) (q0 := (RX8, TX8, 58)) rfl (by decide) rfl f2 rfl rfl (ym_st4 (Nat.le_of_ble_eq_true rfl)) rfl ?_
  by_cases c5 : q2.1 ≤ 0
  · rw [if_pos c5] at hf
    refine ym_if_le_y (pc := 5) (tgt := 16) dX8_hammered_5 (by decide) c5 ?_
    refine ym_aload_n (pc := 16) 0 dX8_hammered_16 rfl rfl ?_
    refine ym_iload_n (pc := 17) 1 dX8_hammered_17 rfl rfl ?_
    obtain ⟨o18, f18, hf⟩ := Option.bind_eq_some_iff.mp hf
    obtain ⟨q18, e18, hf⟩ := Option.bind_eq_some_iff.mp hf
    refine ym_callV (pc := 18) (G2 := g_X8_notOpen) (dep2 := 1) (As := [.int a1]) (st := []) (stk2 := [.int q18.1]) (r2 := (some (.int q18.1))) (h1 := q18.2) dX8_hammered_18 (ok_X8_notOpen e18) (sc_X8_hammered_X8_notOpen) wd_1127 wd_1129 wd_41 (ci := 8) (q0 := (RX8, TX8, 58)) rfl (by decide) rfl f18 rfl rfl (ym_st4 (Nat.le_of_ble_eq_true rfl)) rfl ?_
    by_cases c21 : q18.1 ≤ 0
    · rw [if_pos c21] at hf
      refine ym_if_le_y (pc := 21) (tgt := 32) dX8_hammered_21 (by decide) c21 ?_
      refine ym_aload_n (pc := 32) 0 dX8_hammered_32 rfl rfl ?_
      obtain ⟨v33, e33, hf⟩ := Option.bind_eq_some_iff.mp hf
      refine ym_get (pc := 33) dX8_hammered_33 rfl (by decide) iX8 (k := 30) (by decide) wd_875 (ym_gR_v e33) ?_
      refine ym_iload_n (pc := 36) 1 dX8_hammered_36 rfl rfl ?_
      obtain ⟨v37, e37, hf⟩ := Option.bind_eq_some_iff.mp hf
      refine ym_iald (pc := 37) dX8_hammered_37 rfl (ym_ldI_v e37) ?_
      by_cases c38 : v37 < 0
      · rw [if_pos c38] at hf
        refine ym_if_lt_y (pc := 38) (tgt := 45) dX8_hammered_38 (by decide) c38 ?_
        refine ym_aload_n (pc := 45) 0 dX8_hammered_45 rfl rfl ?_
        refine ym_iload_n (pc := 46) 1 dX8_hammered_46 rfl rfl ?_
        obtain ⟨o47, f47, hf⟩ := Option.bind_eq_some_iff.mp hf
        obtain ⟨q47, e47, hf⟩ := Option.bind_eq_some_iff.mp hf
        refine ym_callV (pc := 47) (G2 := g_X8_soldOf) (dep2 := 3) (As := [.int a1]) (st := []) (stk2 := [.int q47.1]) (r2 := (some (.int q47.1))) (h1 := q47.2) dX8_hammered_47 (ok_X8_soldOf e47) (sc_X8_hammered_X8_soldOf) wd_1196 wd_1198 wd_57 (ci := 8) (q0 := (RX8, TX8, 58)) rfl (by decide) rfl f47 rfl rfl (ym_st4 (Nat.le_of_ble_eq_true rfl)) rfl ?_
        by_cases c50 : q47.1 = 0
        · rw [if_pos c50] at hf
          refine ym_if_ne_y (pc := 50) (tgt := 62) dX8_hammered_50 (by decide) c50 ?_
          refine ym_aload_n (pc := 53) 0 dX8_hammered_53 rfl rfl ?_
          obtain ⟨v54, e54, hf⟩ := Option.bind_eq_some_iff.mp hf
          refine ym_get (pc := 54) dX8_hammered_54 rfl (by decide) iX8 (k := 9) (by decide) wd_854 (ym_gR_v e54) ?_
          refine ym_iload_n (pc := 57) 1 dX8_hammered_57 rfl rfl ?_
          refine ym_iconst (pc := 58) (v := 3) dX8_hammered_58 (by decide) ?_
          obtain ⟨h59, e59, hf⟩ := Option.bind_eq_some_iff.mp hf
          refine ym_iast (pc := 59) dX8_hammered_59 rfl e59 ?_
          refine ym_lconst (pc := 60) (v := 0) dX8_hammered_60 (by decide) ?_
          cases hf
          exact ym_lret (pc := 61) dX8_hammered_61 rfl
        · rw [if_neg c50] at hf
          refine ym_if_ne_n (pc := 50) (tgt := 62) dX8_hammered_50 (by decide) c50 ?_
          refine ym_aload_n (pc := 62) 0 dX8_hammered_62 rfl rfl ?_
          refine ym_iload_n (pc := 63) 1 dX8_hammered_63 rfl rfl ?_
          obtain ⟨o64, f64, hf⟩ := Option.bind_eq_some_iff.mp hf
          obtain ⟨q64, e64, hf⟩ := Option.bind_eq_some_iff.mp hf
          refine ym_callV (pc := 64) (G2 := g_X8_piecesOf) (dep2 := 2) (As := [.int a1]) (st := []) (stk2 := [.long q64.1]) (r2 := (some (.long q64.1))) (h1 := q64.2) dX8_hammered_64 (ok_X8_piecesOf e64) (sc_X8_hammered_X8_piecesOf) wd_1152 wd_1154 wd_47 (ci := 8) (q0 := (RX8, TX8, 58)) rfl (by decide) rfl f64 rfl rfl (ym_st4 (Nat.le_of_ble_eq_true rfl)) rfl ?_
          refine ym_lstore_n (pc := 67) (lv' := [(2, .long q64.1), (0, va_rf a0), (1, .int a1)]) dX8_hammered_67 rfl (by decide) ⟨trivial, rfl, trivial⟩ rfl ?_
          refine ym_aload_n (pc := 68) 1 dX8_hammered_68 rfl rfl ?_
          obtain ⟨v69, e69, hf⟩ := Option.bind_eq_some_iff.mp hf
          refine ym_get (pc := 69) dX8_hammered_69 rfl (by decide) iX8 (k := 12) (by decide) wd_857 (ym_gR_v e69) ?_
          refine ym_iload_n (pc := 72) 2 dX8_hammered_72 rfl rfl ?_
          obtain ⟨v73, e73, hf⟩ := Option.bind_eq_some_iff.mp hf
          refine ym_iald (pc := 73) dX8_hammered_73 rfl (ym_ldI_v e73) ?_
          by_cases c74 : v73 = 0
          · rw [if_pos c74] at hf
            refine ym_if_ne_y (pc := 74) (tgt := 83) dX8_hammered_74 (by decide) c74 ?_
            refine ym_ldc2 (pc := 77) dX8_hammered_77 wd_1200 ?_
            refine ym_goto (pc := 80) (tgt := 89) dX8_hammered_80 (by decide) ?_
            cases hf
            exact ym_lret (pc := 89) dX8_hammered_89 rfl
          · rw [if_neg c74] at hf
            refine ym_if_ne_n (pc := 74) (tgt := 83) dX8_hammered_74 (by decide) c74 ?_
            refine ym_aload_n (pc := 83) 1 dX8_hammered_83 rfl rfl ?_
            refine ym_iload_n (pc := 84) 2 dX8_hammered_84 rfl rfl ?_
            refine ym_lload_n (pc := 85) 0 dX8_hammered_85 rfl rfl ?_
            obtain ⟨o86, f86, hf⟩ := Option.bind_eq_some_iff.mp hf
            obtain ⟨q86, e86, hf⟩ := Option.bind_eq_some_iff.mp hf
            refine ym_callV (pc := 86) (G2 := g_X8_sell) (dep2 := 3) (As := [.int a1, .long q64.1]) (st := []) (stk2 := [.long q86.1]) (r2 := (some (.long q86.1))) (h1 := q86.2) dX8_hammered_86 (ok_X8_sell e86) (sc_X8_hammered_X8_sell) wd_1201 wd_1203 wd_58 (ci := 8) (q0 := (RX8, TX8, 58)) rfl (by decide) rfl f86 rfl rfl (ym_st4 (Nat.le_of_ble_eq_true rfl)) rfl ?_
            cases hf
            exact ym_lret (pc := 89) dX8_hammered_89 rfl
      · rw [if_neg c38] at hf
        refine ym_if_lt_n (pc := 38) (tgt := 45) dX8_hammered_38 (by decide) c38 ?_
        refine ym_ldc2 (pc := 41) dX8_hammered_41 wd_1064 ?_
        cases hf
        exact ym_lret (pc := 44) dX8_hammered_44 rfl
    · rw [if_neg c21] at hf
      refine ym_if_le_n (pc := 21) (tgt := 32) dX8_hammered_21 (by decide) c21 ?_
      refine ym_aload_n (pc := 24) 0 dX8_hammered_24 rfl rfl ?_
      refine ym_iload_n (pc := 25) 1 dX8_hammered_25 rfl rfl ?_
      obtain ⟨o26, f26, hf⟩ := Option.bind_eq_some_iff.mp hf
      obtain ⟨q26, e26, hf⟩ := Option.bind_eq_some_iff.mp hf
      refine ym_callV (pc := 26) (G2 := g_X8_notOpen) (dep2 := 1) (As := [.int a1]) (st := []) (stk2 := [.int q26.1]) (r2 := (some (.int q26.1))) (h1 := q26.2) dX8_hammered_26 (ok_X8_notOpen e26) (sc_X8_hammered_X8_notOpen) wd_1127 wd_1129 wd_41 (ci := 8) (q0 := (RX8, TX8, 58)) rfl (by decide) rfl f26 rfl rfl (ym_st4 (Nat.le_of_ble_eq_true rfl)) rfl ?_
      refine ym_ineg (pc := 29) dX8_hammered_29 ?_
      refine ym_i2l (pc := 30) dX8_hammered_30 ?_
      cases hf
      exact ym_lret (pc := 31) dX8_hammered_31 rfl
  · rw [if_neg c5] at hf
    refine ym_if_le_n (pc := 5) (tgt := 16) dX8_hammered_5 (by decide) c5 ?_
    refine ym_aload_n (pc := 8) 0 dX8_hammered_8 rfl rfl ?_
    refine ym_iload_n (pc := 9) 1 dX8_hammered_9 rfl rfl ?_
    obtain ⟨o10, f10, hf⟩ := Option.bind_eq_some_iff.mp hf
    obtain ⟨q10, e10, hf⟩ := Option.bind_eq_some_iff.mp hf
    refine ym_callV (pc := 10) (G2 := g_X8_noLot) (dep2 := 1) (As := [.int a1]) (st := []) (stk2 := [.int q10.1]) (r2 := (some (.int q10.1))) (h1 := q10.2) dX8_hammered_10 (ok_X8_noLot e10) (sc_X8_hammered_X8_noLot) wd_1055 wd_1057 wd_27 (ci := 8) (q0 := (RX8, TX8, 58)) rfl (by decide) rfl f10 rfl rfl (ym_st4 (Nat.le_of_ble_eq_true rfl)) rfl ?_
    refine ym_ineg (pc := 13) dX8_hammered_13 ?_
    refine ym_i2l (pc := 14) dX8_hammered_14 ?_
    cases hf
    exact ym_lret (pc := 15) dX8_hammered_15 rfl
