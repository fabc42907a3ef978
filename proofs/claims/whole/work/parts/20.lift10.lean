theorem dX7_tick_0 : decode cX7_tick 0 = .ok (.aload_n 0, 1) := by decide +kernel
theorem dX7_tick_1 : decode cX7_tick 1 = .ok (.invokevirtual 58, 3) := by decide +kernel
theorem dX7_tick_4 : decode cX7_tick 4 = .ok (.lload_n 2, 1) := by decide +kernel
theorem dX7_tick_5 : decode cX7_tick 5 = .ok (.invokestatic 80, 3) := by decide +kernel
theorem dX7_tick_8 : decode cX7_tick 8 = .ok (.ifCond .ne 9, 3) := by decide +kernel
theorem dX7_tick_11 : decode cX7_tick 11 = .ok (.aload_n 0, 1) := by decide +kernel
theorem dX7_tick_12 : decode cX7_tick 12 = .ok (.iconst 1, 1) := by decide +kernel
theorem dX7_tick_13 : decode cX7_tick 13 = .ok (.invokevirtual 61, 3) := by decide +kernel
theorem dX7_tick_16 : decode cX7_tick 16 = .ok (.lreturn, 1) := by decide +kernel
theorem dX7_tick_17 : decode cX7_tick 17 = .ok (.aload_n 0, 1) := by decide +kernel
theorem dX7_tick_18 : decode cX7_tick 18 = .ok (.iload_n 1, 1) := by decide +kernel
theorem dX7_tick_19 : decode cX7_tick 19 = .ok (.invokevirtual 89, 3) := by decide +kernel
theorem dX7_tick_22 : decode cX7_tick 22 = .ok (.astore 4, 2) := by decide +kernel
theorem dX7_tick_24 : decode cX7_tick 24 = .ok (.aload 4, 2) := by decide +kernel
theorem dX7_tick_26 : decode cX7_tick 26 = .ok (.ifnonnull 12, 3) := by decide +kernel
theorem dX7_tick_29 : decode cX7_tick 29 = .ok (.aload_n 0, 1) := by decide +kernel
theorem dX7_tick_30 : decode cX7_tick 30 = .ok (.iload_n 1, 1) := by decide +kernel
theorem dX7_tick_31 : decode cX7_tick 31 = .ok (.invokestatic 93, 3) := by decide +kernel
theorem dX7_tick_34 : decode cX7_tick 34 = .ok (.invokevirtual 61, 3) := by decide +kernel
theorem dX7_tick_37 : decode cX7_tick 37 = .ok (.lreturn, 1) := by decide +kernel
theorem dX7_tick_38 : decode cX7_tick 38 = .ok (.aload 4, 2) := by decide +kernel
theorem dX7_tick_40 : decode cX7_tick 40 = .ok (.getfield 137, 3) := by decide +kernel
theorem dX7_tick_43 : decode cX7_tick 43 = .ok (.iconst 5, 1) := by decide +kernel
theorem dX7_tick_44 : decode cX7_tick 44 = .ok (.if_icmp .eq 9, 3) := by decide +kernel
theorem dX7_tick_47 : decode cX7_tick 47 = .ok (.aload_n 0, 1) := by decide +kernel
theorem dX7_tick_48 : decode cX7_tick 48 = .ok (.iconst 4, 1) := by decide +kernel
theorem dX7_tick_49 : decode cX7_tick 49 = .ok (.invokevirtual 61, 3) := by decide +kernel
theorem dX7_tick_52 : decode cX7_tick 52 = .ok (.lreturn, 1) := by decide +kernel
theorem dX7_tick_53 : decode cX7_tick 53 = .ok (.aload 4, 2) := by decide +kernel
theorem dX7_tick_55 : decode cX7_tick 55 = .ok (.invokevirtual 156, 3) := by decide +kernel
theorem dX7_tick_58 : decode cX7_tick 58 = .ok (.ifCond .ne 13, 3) := by decide +kernel
theorem dX7_tick_61 : decode cX7_tick 61 = .ok (.aload_n 0, 1) := by decide +kernel
theorem dX7_tick_62 : decode cX7_tick 62 = .ok (.aload 4, 2) := by decide +kernel
theorem dX7_tick_64 : decode cX7_tick 64 = .ok (.invokevirtual 159, 3) := by decide +kernel
theorem dX7_tick_67 : decode cX7_tick 67 = .ok (.invokevirtual 61, 3) := by decide +kernel
theorem dX7_tick_70 : decode cX7_tick 70 = .ok (.lreturn, 1) := by decide +kernel
theorem dX7_tick_71 : decode cX7_tick 71 = .ok (.aload 4, 2) := by decide +kernel
theorem dX7_tick_73 : decode cX7_tick 73 = .ok (.invokevirtual 201, 3) := by decide +kernel
theorem dX7_tick_76 : decode cX7_tick 76 = .ok (.iconst (-1), 1) := by decide +kernel
theorem dX7_tick_77 : decode cX7_tick 77 = .ok (.if_icmp .eq 10, 3) := by decide +kernel
theorem dX7_tick_80 : decode cX7_tick 80 = .ok (.aload_n 0, 1) := by decide +kernel
theorem dX7_tick_81 : decode cX7_tick 81 = .ok (.bipush 8, 2) := by decide +kernel
theorem dX7_tick_83 : decode cX7_tick 83 = .ok (.invokevirtual 61, 3) := by decide +kernel
theorem dX7_tick_86 : decode cX7_tick 86 = .ok (.lreturn, 1) := by decide +kernel
theorem dX7_tick_87 : decode cX7_tick 87 = .ok (.aload 4, 2) := by decide +kernel
theorem dX7_tick_89 : decode cX7_tick 89 = .ok (.getfield 204, 3) := by decide +kernel
theorem dX7_tick_92 : decode cX7_tick 92 = .ok (.lconst 1, 1) := by decide +kernel
theorem dX7_tick_93 : decode cX7_tick 93 = .ok (.invokestatic 208, 3) := by decide +kernel
theorem dX7_tick_96 : decode cX7_tick 96 = .ok (.lstore 5, 2) := by decide +kernel
theorem dX7_tick_98 : decode cX7_tick 98 = .ok (.aload 4, 2) := by decide +kernel
theorem dX7_tick_100 : decode cX7_tick 100 = .ok (.getfield 129, 3) := by decide +kernel
theorem dX7_tick_103 : decode cX7_tick 103 = .ok (.iconst 3, 1) := by decide +kernel
theorem dX7_tick_104 : decode cX7_tick 104 = .ok (.invokevirtual 130, 3) := by decide +kernel
theorem dX7_tick_107 : decode cX7_tick 107 = .ok (.lstore 7, 2) := by decide +kernel
theorem dX7_tick_109 : decode cX7_tick 109 = .ok (.lload 7, 2) := by decide +kernel
theorem dX7_tick_111 : decode cX7_tick 111 = .ok (.lload 5, 2) := by decide +kernel
theorem dX7_tick_113 : decode cX7_tick 113 = .ok (.lcmp, 1) := by decide +kernel
theorem dX7_tick_114 : decode cX7_tick 114 = .ok (.ifCond .gt 10, 3) := by decide +kernel
theorem dX7_tick_117 : decode cX7_tick 117 = .ok (.aload_n 0, 1) := by decide +kernel
theorem dX7_tick_118 : decode cX7_tick 118 = .ok (.bipush 10, 2) := by decide +kernel
theorem dX7_tick_120 : decode cX7_tick 120 = .ok (.invokevirtual 61, 3) := by decide +kernel
theorem dX7_tick_123 : decode cX7_tick 123 = .ok (.lreturn, 1) := by decide +kernel
theorem dX7_tick_124 : decode cX7_tick 124 = .ok (.aload 4, 2) := by decide +kernel
theorem dX7_tick_126 : decode cX7_tick 126 = .ok (.getfield 129, 3) := by decide +kernel
theorem dX7_tick_129 : decode cX7_tick 129 = .ok (.iconst 3, 1) := by decide +kernel
theorem dX7_tick_130 : decode cX7_tick 130 = .ok (.lload 7, 2) := by decide +kernel
theorem dX7_tick_132 : decode cX7_tick 132 = .ok (.lload_n 2, 1) := by decide +kernel
theorem dX7_tick_133 : decode cX7_tick 133 = .ok (.lsub, 1) := by decide +kernel
theorem dX7_tick_134 : decode cX7_tick 134 = .ok (.lload 5, 2) := by decide +kernel
theorem dX7_tick_136 : decode cX7_tick 136 = .ok (.invokestatic 208, 3) := by decide +kernel
theorem dX7_tick_139 : decode cX7_tick 139 = .ok (.invokevirtual 76, 3) := by decide +kernel
theorem dX7_tick_142 : decode cX7_tick 142 = .ok (.aload 4, 2) := by decide +kernel
theorem dX7_tick_144 : decode cX7_tick 144 = .ok (.getfield 129, 3) := by decide +kernel
theorem dX7_tick_147 : decode cX7_tick 147 = .ok (.iconst 3, 1) := by decide +kernel
theorem dX7_tick_148 : decode cX7_tick 148 = .ok (.invokevirtual 130, 3) := by decide +kernel
theorem dX7_tick_151 : decode cX7_tick 151 = .ok (.lreturn, 1) := by decide +kernel
theorem sc_X7_tick_X7_startAct : ym_site g_X7_tick g_X7_startAct 5 2 0 := ⟨by decide, by decide, wd_224, wd_76, by decide +kernel⟩
theorem sc_X7_tick_X7_isSum : ym_site g_X7_tick g_X7_isSum 5 1 1 := ⟨by decide, by decide, wd_322, wd_76, by decide +kernel⟩
theorem sc_X7_tick_X7_refuse : ym_site g_X7_tick g_X7_refuse 5 4 1 := ⟨by decide, by decide, wd_232, wd_76, by decide +kernel⟩
theorem sc_X7_tick_X7_lotAt : ym_site g_X7_tick g_X7_lotAt 5 3 1 := ⟨by decide, by decide, wd_374, wd_76, by decide +kernel⟩
theorem sc_X7_tick_X7_whyNoLot : ym_site g_X7_tick g_X7_whyNoLot 5 1 1 := ⟨by decide, by decide, wd_377, wd_76, by decide +kernel⟩
theorem sc_X7_tick_X4_isOpen : ym_site g_X7_tick g_X4_isOpen 5 3 0 := ⟨by decide, by decide, wd_538, wd_87, by decide +kernel⟩
theorem sc_X7_tick_X4_whyNotOpen : ym_site g_X7_tick g_X4_whyNotOpen 5 4 0 := ⟨by decide, by decide, wd_543, wd_87, by decide +kernel⟩
theorem sc_X7_tick_X4_standingBidder : ym_site g_X7_tick g_X4_standingBidder 5 3 0 := ⟨by decide, by decide, wd_512, wd_87, by decide +kernel⟩
theorem sc_X7_tick_X2_get : ym_site g_X7_tick g_X2_get 5 1 1 := ⟨by decide, by decide, wd_256, wd_78, by decide +kernel⟩
theorem sc_X7_tick_X2_put : ym_site g_X7_tick g_X2_put 5 4 2 := ⟨by decide, by decide, wd_284, wd_78, by decide +kernel⟩
def fn_X7_tick (N : Nat) (a0 : Option Nat) (a1 : Int32) (a2 : Int64) (h : ym_H) : Option (Int64 × ym_H) :=
  Option.bind (ym_ob h a0 7) fun o1 =>
  Option.bind (fn_X7_startAct N a0 h) fun q1 =>
  Option.bind (fn_X7_isSum N a2 q1.2) fun q5 =>
  if q5.1 = 0 then
    Option.bind (ym_ob q5.2 a0 7) fun o13 =>
    Option.bind (fn_X7_refuse N a0 1 q5.2) fun q13 =>
    some (q13.1, q13.2)
  else
    Option.bind (ym_ob q5.2 a0 7) fun o19 =>
    Option.bind (fn_X7_lotAt N a0 a1 q5.2) fun q19 =>
    if q19.1 = none then
      Option.bind (fn_X7_whyNoLot N a1 q19.2) fun q31 =>
      Option.bind (ym_ob q31.2 a0 7) fun o34 =>
      Option.bind (fn_X7_refuse N a0 q31.1 q31.2) fun q34 =>
      some (q34.1, q34.2)
    else
      Option.bind (ym_gI q19.2 q19.1 4 0) fun v40 =>
      if v40 = 5 then
        Option.bind (ym_ob q19.2 q19.1 4) fun o55 =>
        Option.bind (fn_X4_isOpen N q19.1 q19.2) fun q55 =>
        if q55.1 = 0 then
          Option.bind (ym_ob q55.2 q19.1 4) fun o64 =>
          Option.bind (fn_X4_whyNotOpen N q19.1 q55.2) fun q64 =>
          Option.bind (ym_ob q64.2 a0 7) fun o67 =>
          Option.bind (fn_X7_refuse N a0 q64.1 q64.2) fun q67 =>
          some (q67.1, q67.2)
        else
          Option.bind (ym_ob q55.2 q19.1 4) fun o73 =>
          Option.bind (fn_X4_standingBidder N q19.1 q55.2) fun q73 =>
          if q73.1 = (-1) then
            Option.bind (ym_gL q73.2 q19.1 4 1) fun v89 =>
            Option.bind (ym_gR q73.2 q19.1 4 2) fun v100 =>
            Option.bind (ym_ob q73.2 v100 2) fun o104 =>
            Option.bind (fn_X2_get N v100 3 q73.2) fun q104 =>
            if (if 1 < v89 then v89 else 1) < q104.1 then
              Option.bind (ym_gR q104.2 q19.1 4 2) fun v126 =>
              Option.bind (ym_ob q104.2 v126 2) fun o139 =>
              Option.bind (fn_X2_put N v126 3 (if (if 1 < v89 then v89 else 1) < (q104.1 - a2) then (q104.1 - a2) else (if 1 < v89 then v89 else 1)) q104.2) fun q139 =>
              Option.bind (ym_gR q139.2 q19.1 4 2) fun v144 =>
              Option.bind (ym_ob q139.2 v144 2) fun o148 =>
              Option.bind (fn_X2_get N v144 3 q139.2) fun q148 =>
              some (q148.1, q148.2)
            else
              Option.bind (ym_ob q104.2 a0 7) fun o120 =>
              Option.bind (fn_X7_refuse N a0 10 q104.2) fun q120 =>
              some (q120.1, q120.2)
          else
            Option.bind (ym_ob q73.2 a0 7) fun o83 =>
            Option.bind (fn_X7_refuse N a0 8 q73.2) fun q83 =>
            some (q83.1, q83.2)
      else
        Option.bind (ym_ob q19.2 a0 7) fun o49 =>
        Option.bind (fn_X7_refuse N a0 4 q19.2) fun q49 =>
        some (q49.1, q49.2)
set_option maxRecDepth 20000 in
set_option maxHeartbeats 4000000 in
theorem ok_X7_tick {D : ym_D} {b0 : Nat} {N : Nat} {a0 : Option Nat} {a1 : Int32} {a2 : Int64} {h h' : ym_H} {r : Int64} (hf : fn_X7_tick N a0 a1 a2 h = some (r, h')) : ym_M D b0 g_X7_tick 5 [va_rf a0, .int a1, .long a2] h (some (.long r)) h' := by
  unfold fn_X7_tick at hf
  refine ym_meth (lv := [(0, va_rf a0), (1, .int a1), (2, .long a2)]) (by decide) (by simp [lg_sl, ym_c1, ym_cI, ym_cL, g_X7_tick]) (by simp [lv_args, ym_c1, ym_cI, ym_cL]) ?_
  refine ym_aload_n (pc := 0) 0 dX7_tick_0 rfl rfl ?_
  obtain ⟨o1, f1, hf⟩ := Option.bind_eq_some_iff.mp hf
  obtain ⟨q1, e1, hf⟩ := Option.bind_eq_some_iff.mp hf
  refine ym_callV (pc := 1) (G2 := g_X7_startAct) (dep2 := 2) (As := []) (st := []) (stk2 := []) (r2 := none) (h1 := q1.2) dX7_tick_1 (ok_X7_startAct e1) (sc_X7_tick_X7_startAct) wd_221 wd_223 wd_0 (ci := 7) (q0 := (RX7, TX7, 10)) rfl (by decide) rfl f1 rfl rfl (ym_st4 (Nat.le_of_ble_eq_true rfl)) rfl ?_
  refine ym_lload_n (pc := 4) 2 dX7_tick_4 rfl rfl ?_
  obtain ⟨q5, e5, hf⟩ := Option.bind_eq_some_iff.mp hf
  refine ym_callS (pc := 5) (G2 := g_X7_isSum) (dep2 := 1) (As := [.long a2]) (st := []) (stk2 := [.int q5.1]) (r2 := (some (.int q5.1))) (h1 := q5.2) dX7_tick_5 (ok_X7_isSum e5) (sc_X7_tick_X7_isSum) wd_320 wd_321 rfl rfl (ym_st4 (Nat.le_of_ble_eq_true rfl)) rfl ?_
  by_cases c8 : q5.1 = 0
  · rw [if_pos c8] at hf
    refine ym_if_ne_y (pc := 8) (tgt := 17) dX7_tick_8 (by decide) c8 ?_
    refine ym_aload_n (pc := 11) 0 dX7_tick_11 rfl rfl ?_
    refine ym_iconst (pc := 12) (v := 1) dX7_tick_12 (by decide) ?_
    obtain ⟨o13, f13, hf⟩ := Option.bind_eq_some_iff.mp hf
    obtain ⟨q13, e13, hf⟩ := Option.bind_eq_some_iff.mp hf
    refine ym_callV (pc := 13) (G2 := g_X7_refuse) (dep2 := 4) (As := [.int 1]) (st := []) (stk2 := [.long q13.1]) (r2 := (some (.long q13.1))) (h1 := q13.2) dX7_tick_13 (ok_X7_refuse e13) (sc_X7_tick_X7_refuse) wd_229 wd_231 wd_1 (ci := 7) (q0 := (RX7, TX7, 10)) rfl (by decide) rfl f13 rfl rfl (ym_st4 (Nat.le_of_ble_eq_true rfl)) rfl ?_
    cases hf
    exact ym_lret (pc := 16) dX7_tick_16 rfl
  · rw [if_neg c8] at hf
    refine ym_if_ne_n (pc := 8) (tgt := 17) dX7_tick_8 (by decide) c8 ?_
    refine ym_aload_n (pc := 17) 0 dX7_tick_17 rfl rfl ?_
    refine ym_iload_n (pc := 18) 1 dX7_tick_18 rfl rfl ?_
    obtain ⟨o19, f19, hf⟩ := Option.bind_eq_some_iff.mp hf
    obtain ⟨q19, e19, hf⟩ := Option.bind_eq_some_iff.mp hf
    refine ym_callV (pc := 19) (G2 := g_X7_lotAt) (dep2 := 3) (As := [.int a1]) (st := []) (stk2 := [va_rf q19.1]) (r2 := (some (va_rf q19.1))) (h1 := q19.2) dX7_tick_19 (ok_X7_lotAt e19) (sc_X7_tick_X7_lotAt) wd_371 wd_373 wd_5 (ci := 7) (q0 := (RX7, TX7, 10)) rfl (by decide) rfl f19 rfl rfl (ym_st4 (Nat.le_of_ble_eq_true rfl)) rfl ?_
    refine ym_astore (pc := 22) (lv' := [(4, va_rf q19.1), (0, va_rf a0), (1, .int a1), (2, .long a2)]) dX7_tick_22 (by decide) ⟨trivial, trivial, trivial, trivial⟩ rfl ?_
    refine ym_aload (pc := 24) 0 dX7_tick_24 rfl ?_
    by_cases c26 : q19.1 = none
    · rw [if_pos c26] at hf
      refine ym_ifnonnull_y (pc := 26) (tgt := 38) dX7_tick_26 (by decide) c26 ?_
      refine ym_aload_n (pc := 29) 1 dX7_tick_29 rfl rfl ?_
      refine ym_iload_n (pc := 30) 2 dX7_tick_30 rfl rfl ?_
      obtain ⟨q31, e31, hf⟩ := Option.bind_eq_some_iff.mp hf
      refine ym_callS (pc := 31) (G2 := g_X7_whyNoLot) (dep2 := 1) (As := [.int a1]) (st := [va_rf a0]) (stk2 := [.int q31.1, va_rf a0]) (r2 := (some (.int q31.1))) (h1 := q31.2) dX7_tick_31 (ok_X7_whyNoLot e31) (sc_X7_tick_X7_whyNoLot) wd_375 wd_376 rfl rfl (ym_st4 (Nat.le_of_ble_eq_true rfl)) rfl ?_
      obtain ⟨o34, f34, hf⟩ := Option.bind_eq_some_iff.mp hf
      obtain ⟨q34, e34, hf⟩ := Option.bind_eq_some_iff.mp hf
      refine ym_callV (pc := 34) (G2 := g_X7_refuse) (dep2 := 4) (As := [.int q31.1]) (st := []) (stk2 := [.long q34.1]) (r2 := (some (.long q34.1))) (h1 := q34.2) dX7_tick_34 (ok_X7_refuse e34) (sc_X7_tick_X7_refuse) wd_229 wd_231 wd_1 (ci := 7) (q0 := (RX7, TX7, 10)) rfl (by decide) rfl f34 rfl rfl (ym_st4 (Nat.le_of_ble_eq_true rfl)) rfl ?_
      cases hf
      exact ym_lret (pc := 37) dX7_tick_37 rfl
    · rw [if_neg c26] at hf
      refine ym_ifnonnull_n (pc := 26) (tgt := 38) dX7_tick_26 (by decide) c26 ?_
      refine ym_aload (pc := 38) 0 dX7_tick_38 rfl ?_
      obtain ⟨v40, e40, hf⟩ := Option.bind_eq_some_iff.mp hf
      refine ym_getN (pc := 40) dX7_tick_40 rfl (by decide) iX4 (k := 0) (by decide) wd_340 (ym_gI_v e40) ?_
      refine ym_iconst (pc := 43) (v := 5) dX7_tick_43 (by decide) ?_
      by_cases c44 : v40 = 5
      · rw [if_pos c44] at hf
        refine ym_icmp_eq_y (pc := 44) (tgt := 53) dX7_tick_44 (by decide) c44 ?_
        refine ym_aload (pc := 53) 0 dX7_tick_53 rfl ?_
        obtain ⟨o55, f55, hf⟩ := Option.bind_eq_some_iff.mp hf
        obtain ⟨q55, e55, hf⟩ := Option.bind_eq_some_iff.mp hf
        refine ym_callV (pc := 55) (G2 := g_X4_isOpen) (dep2 := 3) (As := []) (st := []) (stk2 := [.int q55.1]) (r2 := (some (.int q55.1))) (h1 := q55.2) dX7_tick_55 (ok_X4_isOpen e55) (sc_X7_tick_X4_isOpen) wd_535 wd_536 wd_537 (ci := 4) (q0 := (RX4, TX4, 6)) rfl (by decide) rfl f55 rfl rfl (ym_st4 (Nat.le_of_ble_eq_true rfl)) rfl ?_
        by_cases c58 : q55.1 = 0
        · rw [if_pos c58] at hf
          refine ym_if_ne_y (pc := 58) (tgt := 71) dX7_tick_58 (by decide) c58 ?_
          refine ym_aload_n (pc := 61) 1 dX7_tick_61 rfl rfl ?_
          refine ym_aload (pc := 62) 0 dX7_tick_62 rfl ?_
          obtain ⟨o64, f64, hf⟩ := Option.bind_eq_some_iff.mp hf
          obtain ⟨q64, e64, hf⟩ := Option.bind_eq_some_iff.mp hf
          refine ym_callV (pc := 64) (G2 := g_X4_whyNotOpen) (dep2 := 4) (As := []) (st := [va_rf a0]) (stk2 := [.int q64.1, va_rf a0]) (r2 := (some (.int q64.1))) (h1 := q64.2) dX7_tick_64 (ok_X4_whyNotOpen e64) (sc_X7_tick_X4_whyNotOpen) wd_540 wd_541 wd_542 (ci := 4) (q0 := (RX4, TX4, 6)) rfl (by decide) rfl f64 rfl rfl (ym_st4 (Nat.le_of_ble_eq_true rfl)) rfl ?_
          obtain ⟨o67, f67, hf⟩ := Option.bind_eq_some_iff.mp hf
          obtain ⟨q67, e67, hf⟩ := Option.bind_eq_some_iff.mp hf
          refine ym_callV (pc := 67) (G2 := g_X7_refuse) (dep2 := 4) (As := [.int q64.1]) (st := []) (stk2 := [.long q67.1]) (r2 := (some (.long q67.1))) (h1 := q67.2) dX7_tick_67 (ok_X7_refuse e67) (sc_X7_tick_X7_refuse) wd_229 wd_231 wd_1 (ci := 7) (q0 := (RX7, TX7, 10)) rfl (by decide) rfl f67 rfl rfl (ym_st4 (Nat.le_of_ble_eq_true rfl)) rfl ?_
          cases hf
          exact ym_lret (pc := 70) dX7_tick_70 rfl
        · rw [if_neg c58] at hf
          refine ym_if_ne_n (pc := 58) (tgt := 71) dX7_tick_58 (by decide) c58 ?_
          refine ym_aload (pc := 71) 0 dX7_tick_71 rfl ?_
          obtain ⟨o73, f73, hf⟩ := Option.bind_eq_some_iff.mp hf
          obtain ⟨q73, e73, hf⟩ := Option.bind_eq_some_iff.mp hf
          refine ym_callV (pc := 73) (G2 := g_X4_standingBidder) (dep2 := 3) (As := []) (st := []) (stk2 := [.int q73.1]) (r2 := (some (.int q73.1))) (h1 := q73.2) dX7_tick_73 (ok_X4_standingBidder e73) (sc_X7_tick_X4_standingBidder) wd_509 wd_510 wd_511 (ci := 4) (q0 := (RX4, TX4, 6)) rfl (by decide) rfl f73 rfl rfl (ym_st4 (Nat.le_of_ble_eq_true rfl)) rfl ?_
          refine ym_iconst (pc := 76) (v := (-1)) dX7_tick_76 (by decide) ?_
          by_cases c77 : q73.1 = (-1)
          · rw [if_pos c77] at hf
            refine ym_icmp_eq_y (pc := 77) (tgt := 87) dX7_tick_77 (by decide) c77 ?_
            refine ym_aload (pc := 87) 0 dX7_tick_87 rfl ?_
            obtain ⟨v89, e89, hf⟩ := Option.bind_eq_some_iff.mp hf
            refine ym_getN (pc := 89) dX7_tick_89 rfl (by decide) iX4 (k := 1) (by decide) wd_343 (ym_gL_v e89) ?_
            refine ym_lconst (pc := 92) (v := 1) dX7_tick_92 (by decide) ?_
            refine ym_mmaxL (pc := 93) dX7_tick_93 wd_502 wd_503 wd_79 wd_504 (by decide) (ym_st4 (Nat.le_of_ble_eq_true rfl)) ?_
            refine ym_sub (lv' := [(4, va_rf q19.1), (0, va_rf a0), (2, .long a2)]) [0, 1, 3] rfl ?_
            refine ym_lstore (pc := 96) (lv' := [(5, .long (if 1 < v89 then v89 else 1)), (4, va_rf q19.1), (0, va_rf a0), (2, .long a2)]) dX7_tick_96 (by decide) ⟨ym_c1 q19.1, trivial, trivial, trivial⟩ rfl ?_
            refine ym_aload (pc := 98) 1 dX7_tick_98 rfl ?_
            obtain ⟨v100, e100, hf⟩ := Option.bind_eq_some_iff.mp hf
            refine ym_getN (pc := 100) dX7_tick_100 rfl (by decide) iX4 (k := 2) (by decide) wd_346 (ym_gR_v e100) ?_
            refine ym_iconst (pc := 103) (v := 3) dX7_tick_103 (by decide) ?_
            obtain ⟨o104, f104, hf⟩ := Option.bind_eq_some_iff.mp hf
            obtain ⟨q104, e104, hf⟩ := Option.bind_eq_some_iff.mp hf
            refine ym_callV (pc := 104) (G2 := g_X2_get) (dep2 := 1) (As := [.int 3]) (st := []) (stk2 := [.long q104.1]) (r2 := (some (.long q104.1))) (h1 := q104.2) dX7_tick_104 (ok_X2_get e104) (sc_X7_tick_X2_get) wd_253 wd_254 wd_255 (ci := 2) (q0 := (RX2, TX2, 2)) rfl (by decide) rfl f104 rfl rfl (ym_st4 (Nat.le_of_ble_eq_true rfl)) rfl ?_
            refine ym_lstore (pc := 107) (lv' := [(7, .long q104.1), (5, .long (if 1 < v89 then v89 else 1)), (4, va_rf q19.1), (0, va_rf a0), (2, .long a2)]) dX7_tick_107 (by decide) ⟨trivial, trivial, trivial, trivial, trivial⟩ rfl ?_
            refine ym_lload (pc := 109) 0 dX7_tick_109 rfl ?_
            refine ym_lload (pc := 111) 1 dX7_tick_111 rfl ?_
            by_cases c113 : (if 1 < v89 then v89 else 1) < q104.1
            · rw [if_pos c113] at hf
              refine ym_lcmp_gt_y (pc := 113) (tgt := 124) dX7_tick_113 dX7_tick_114 (by decide) c113 ?_
              refine ym_aload (pc := 124) 2 dX7_tick_124 rfl ?_
              obtain ⟨v126, e126, hf⟩ := Option.bind_eq_some_iff.mp hf
              refine ym_getN (pc := 126) dX7_tick_126 rfl (by decide) iX4 (k := 2) (by decide) wd_346 (ym_gR_v e126) ?_
              refine ym_iconst (pc := 129) (v := 3) dX7_tick_129 (by decide) ?_
              refine ym_lload (pc := 130) 0 dX7_tick_130 rfl ?_
              refine ym_lload_n (pc := 132) 4 dX7_tick_132 rfl rfl ?_
              refine ym_lsub (pc := 133) dX7_tick_133 ?_
              refine ym_lload (pc := 134) 1 dX7_tick_134 rfl ?_
              refine ym_mmaxL (pc := 136) dX7_tick_136 wd_502 wd_503 wd_79 wd_504 (by decide) (ym_st4 (Nat.le_of_ble_eq_true rfl)) ?_
              obtain ⟨o139, f139, hf⟩ := Option.bind_eq_some_iff.mp hf
              obtain ⟨q139, e139, hf⟩ := Option.bind_eq_some_iff.mp hf
              refine ym_callV (pc := 139) (G2 := g_X2_put) (dep2 := 4) (As := [.int 3, .long (if (if 1 < v89 then v89 else 1) < (q104.1 - a2) then (q104.1 - a2) else (if 1 < v89 then v89 else 1))]) (st := []) (stk2 := []) (r2 := none) (h1 := q139.2) dX7_tick_139 (ok_X2_put e139) (sc_X7_tick_X2_put) wd_281 wd_282 wd_283 (ci := 2) (q0 := (RX2, TX2, 2)) rfl (by decide) rfl f139 rfl rfl (ym_st4 (Nat.le_of_ble_eq_true rfl)) rfl ?_
              refine ym_aload (pc := 142) 2 dX7_tick_142 rfl ?_
              obtain ⟨v144, e144, hf⟩ := Option.bind_eq_some_iff.mp hf
              refine ym_getN (pc := 144) dX7_tick_144 rfl (by decide) iX4 (k := 2) (by decide) wd_346 (ym_gR_v e144) ?_
              refine ym_iconst (pc := 147) (v := 3) dX7_tick_147 (by decide) ?_
              obtain ⟨o148, f148, hf⟩ := Option.bind_eq_some_iff.mp hf
              obtain ⟨q148, e148, hf⟩ := Option.bind_eq_some_iff.mp hf
              refine ym_callV (pc := 148) (G2 := g_X2_get) (dep2 := 1) (As := [.int 3]) (st := []) (stk2 := [.long q148.1]) (r2 := (some (.long q148.1))) (h1 := q148.2) dX7_tick_148 (ok_X2_get e148) (sc_X7_tick_X2_get) wd_253 wd_254 wd_255 (ci := 2) (q0 := (RX2, TX2, 2)) rfl (by decide) rfl f148 rfl rfl (ym_st4 (Nat.le_of_ble_eq_true rfl)) rfl ?_
              cases hf
              exact ym_lret (pc := 151) dX7_tick_151 rfl
            · rw [if_neg c113] at hf
              refine ym_lcmp_gt_n (pc := 113) (tgt := 124) dX7_tick_113 dX7_tick_114 (by decide) c113 ?_
              refine ym_aload_n (pc := 117) 3 dX7_tick_117 rfl rfl ?_
              refine ym_bipush (pc := 118) (v := 10) dX7_tick_118 (by decide) ?_
              obtain ⟨o120, f120, hf⟩ := Option.bind_eq_some_iff.mp hf
              obtain ⟨q120, e120, hf⟩ := Option.bind_eq_some_iff.mp hf
              refine ym_callV (pc := 120) (G2 := g_X7_refuse) (dep2 := 4) (As := [.int 10]) (st := []) (stk2 := [.long q120.1]) (r2 := (some (.long q120.1))) (h1 := q120.2) dX7_tick_120 (ok_X7_refuse e120) (sc_X7_tick_X7_refuse) wd_229 wd_231 wd_1 (ci := 7) (q0 := (RX7, TX7, 10)) rfl (by decide) rfl f120 rfl rfl (ym_st4 (Nat.le_of_ble_eq_true rfl)) rfl ?_
              cases hf
              exact ym_lret (pc := 123) dX7_tick_123 rfl
          · rw [if_neg c77] at hf
            refine ym_icmp_eq_n (pc := 77) (tgt := 87) dX7_tick_77 (by decide) c77 ?_
            refine ym_aload_n (pc := 80) 1 dX7_tick_80 rfl rfl ?_
            refine ym_bipush (pc := 81) (v := 8) dX7_tick_81 (by decide) ?_
            obtain ⟨o83, f83, hf⟩ := Option.bind_eq_some_iff.mp hf
            obtain ⟨q83, e83, hf⟩ := Option.bind_eq_some_iff.mp hf
            refine ym_callV (pc := 83) (G2 := g_X7_refuse) (dep2 := 4) (As := [.int 8]) (st := []) (stk2 := [.long q83.1]) (r2 := (some (.long q83.1))) (h1 := q83.2) dX7_tick_83 (ok_X7_refuse e83) (sc_X7_tick_X7_refuse) wd_229 wd_231 wd_1 (ci := 7) (q0 := (RX7, TX7, 10)) rfl (by decide) rfl f83 rfl rfl (ym_st4 (Nat.le_of_ble_eq_true rfl)) rfl ?_
            cases hf
            exact ym_lret (pc := 86) dX7_tick_86 rfl
      · rw [if_neg c44] at hf
        refine ym_icmp_eq_n (pc := 44) (tgt := 53) dX7_tick_44 (by decide) c44 ?_
        refine ym_aload_n (pc := 47) 1 dX7_tick_47 rfl rfl ?_
        refine ym_iconst (pc := 48) (v := 4) dX7_tick_48 (by decide) ?_
        obtain ⟨o49, f49, hf⟩ := Option.bind_eq_some_iff.mp hf
        obtain ⟨q49, e49, hf⟩ := Option.bind_eq_some_iff.mp hf
        refine ym_callV (pc := 49) (G2 := g_X7_refuse) (dep2 := 4) (As := [.int 4]) (st := []) (stk2 := [.long q49.1]) (r2 := (some (.long q49.1))) (h1 := q49.2) dX7_tick_49 (ok_X7_refuse e49) (sc_X7_tick_X7_refuse) wd_229 wd_231 wd_1 (ci := 7) (q0 := (RX7, TX7, 10)) rfl (by decide) rfl f49 rfl rfl (ym_st4 (Nat.le_of_ble_eq_true rfl)) rfl ?_
        cases hf
        exact ym_lret (pc := 52) dX7_tick_52 rfl
theorem dX7_total_0 : decode cX7_total 0 = .ok (.aload_n 0, 1) := by decide +kernel
theorem dX7_total_1 : decode cX7_total 1 = .ok (.getfield 21, 3) := by decide +kernel
theorem dX7_total_4 : decode cX7_total 4 = .ok (.iconst 2, 1) := by decide +kernel
theorem dX7_total_5 : decode cX7_total 5 = .ok (.invokevirtual 130, 3) := by decide +kernel
theorem dX7_total_8 : decode cX7_total 8 = .ok (.aload_n 0, 1) := by decide +kernel
theorem dX7_total_9 : decode cX7_total 9 = .ok (.getfield 21, 3) := by decide +kernel
theorem dX7_total_12 : decode cX7_total 12 = .ok (.iconst 3, 1) := by decide +kernel
theorem dX7_total_13 : decode cX7_total 13 = .ok (.invokevirtual 130, 3) := by decide +kernel
theorem dX7_total_16 : decode cX7_total 16 = .ok (.ladd, 1) := by decide +kernel
theorem dX7_total_17 : decode cX7_total 17 = .ok (.aload_n 0, 1) := by decide +kernel
theorem dX7_total_18 : decode cX7_total 18 = .ok (.getfield 21, 3) := by decide +kernel
theorem dX7_total_21 : decode cX7_total 21 = .ok (.iconst 4, 1) := by decide +kernel
theorem dX7_total_22 : decode cX7_total 22 = .ok (.invokevirtual 130, 3) := by decide +kernel
theorem dX7_total_25 : decode cX7_total 25 = .ok (.ladd, 1) := by decide +kernel
theorem dX7_total_26 : decode cX7_total 26 = .ok (.lstore_n 1, 1) := by decide +kernel
theorem dX7_total_27 : decode cX7_total 27 = .ok (.aload_n 0, 1) := by decide +kernel
theorem dX7_total_28 : decode cX7_total 28 = .ok (.invokevirtual 69, 3) := by decide +kernel
theorem dX7_total_31 : decode cX7_total 31 = .ok (.istore_n 3, 1) := by decide +kernel
theorem dX7_total_32 : decode cX7_total 32 = .ok (.iconst 0, 1) := by decide +kernel
theorem dX7_total_33 : decode cX7_total 33 = .ok (.istore 4, 2) := by decide +kernel
theorem dX7_total_35 : decode cX7_total 35 = .ok (.iload 4, 2) := by decide +kernel
theorem dX7_total_37 : decode cX7_total 37 = .ok (.iload_n 3, 1) := by decide +kernel
theorem dX7_total_38 : decode cX7_total 38 = .ok (.if_icmp .ge 18, 3) := by decide +kernel
theorem dX7_total_41 : decode cX7_total 41 = .ok (.lload_n 1, 1) := by decide +kernel
theorem dX7_total_42 : decode cX7_total 42 = .ok (.aload_n 0, 1) := by decide +kernel
theorem dX7_total_43 : decode cX7_total 43 = .ok (.iload 4, 2) := by decide +kernel
theorem dX7_total_45 : decode cX7_total 45 = .ok (.invokevirtual 273, 3) := by decide +kernel
theorem dX7_total_48 : decode cX7_total 48 = .ok (.ladd, 1) := by decide +kernel
theorem dX7_total_49 : decode cX7_total 49 = .ok (.lstore_n 1, 1) := by decide +kernel
theorem dX7_total_50 : decode cX7_total 50 = .ok (.iinc 4 1, 3) := by decide +kernel
theorem dX7_total_53 : decode cX7_total 53 = .ok (.goto (-18), 3) := by decide +kernel
theorem dX7_total_56 : decode cX7_total 56 = .ok (.lload_n 1, 1) := by decide +kernel
theorem dX7_total_57 : decode cX7_total 57 = .ok (.lreturn, 1) := by decide +kernel
theorem sc_X7_total_X2_get : ym_site g_X7_total g_X2_get 5 1 1 := ⟨by decide, by decide, wd_256, wd_78, by decide +kernel⟩
theorem sc_X7_total_X7_biddersMade : ym_site g_X7_total g_X7_biddersMade 5 2 0 := ⟨by decide, by decide, wd_252, wd_76, by decide +kernel⟩
theorem sc_X7_total_X7_balance : ym_site g_X7_total g_X7_balance 5 4 1 := ⟨by decide, by decide, wd_792, wd_76, by decide +kernel⟩
def lb_X7_total_35 (K : Option Nat → Int64 → Int32 → Int32 → ym_H → Option ((Int64) × ym_H)) (N : Nat) (w0 : Option Nat) (w1 : Int64) (w3 : Int32) (w4 : Int32) (h : ym_H) : Option ((Int64) × ym_H) :=
  if w3 ≤ w4 then
    some (w1, h)
  else
    Option.bind (ym_ob h w0 7) fun o45 =>
    Option.bind (fn_X7_balance N w0 w4 h) fun q45 =>
    K w0 (w1 + q45.1) w3 (w4 + 1) q45.2
set_option maxRecDepth 20000 in
set_option maxHeartbeats 4000000 in
theorem ol_X7_total_35 {D : ym_D} {b0 : Nat} {K : Option Nat → Int64 → Int32 → Int32 → ym_H → Option ((Int64) × ym_H)} {N : Nat} {w0 : Option Nat} {w1 : Int64} {w3 : Int32} {w4 : Int32} {h h1 : ym_H} {x : (Int64)} (hKl : ∀ (u0 : Option Nat) (u1 : Int64) (u3 : Int32) (u4 : Int32) (h h1 : ym_H) (x : (Int64)), K u0 u1 u3 u4 h = some (x, h1) → ∀ {r0 : Option Value} {h' : ym_H}, ym_Y D b0 g_X7_total 5 56 [(1, .long x)] [] h1 r0 h' → ym_Y D b0 g_X7_total 5 35 [(0, va_rf u0), (1, .long u1), (3, .int u3), (4, .int u4)] [] h r0 h') (hf : lb_X7_total_35 K N w0 w1 w3 w4 h = some (x, h1)) {r0 : Option Value} {h' : ym_H} (k : ym_Y D b0 g_X7_total 5 56 [(1, .long x)] [] h1 r0 h') : ym_Y D b0 g_X7_total 5 35 [(0, va_rf w0), (1, .long w1), (3, .int w3), (4, .int w4)] [] h r0 h' := by
  unfold lb_X7_total_35 at hf
  refine ym_iload (pc := 35) 3 dX7_total_35 rfl ?_
  refine ym_iload_n (pc := 37) 2 dX7_total_37 rfl rfl ?_
  by_cases c38 : w3 ≤ w4
  · rw [if_pos c38] at hf
    refine ym_icmp_ge_y (pc := 38) (tgt := 56) dX7_total_38 (by decide) c38 ?_
    cases hf
    exact ym_sub [1] rfl k
  · rw [if_neg c38] at hf
    refine ym_icmp_ge_n (pc := 38) (tgt := 56) dX7_total_38 (by decide) c38 ?_
    refine ym_lload_n (pc := 41) 1 dX7_total_41 rfl rfl ?_
    refine ym_aload_n (pc := 42) 0 dX7_total_42 rfl rfl ?_
    refine ym_iload (pc := 43) 3 dX7_total_43 rfl ?_
    obtain ⟨o45, f45, hf⟩ := Option.bind_eq_some_iff.mp hf
    obtain ⟨q45, e45, hf⟩ := Option.bind_eq_some_iff.mp hf
    refine ym_callV (pc := 45) (G2 := g_X7_balance) (dep2 := 4) (As := [.int w4]) (st := [.long w1]) (stk2 := [.long q45.1, .long w1]) (r2 := (some (.long q45.1))) (h1 := q45.2) dX7_total_45 (ok_X7_balance e45) (sc_X7_total_X7_balance) wd_801 wd_790 wd_791 (ci := 7) (q0 := (RX7, TX7, 10)) rfl (by decide) rfl f45 rfl rfl (ym_st4 (Nat.le_of_ble_eq_true rfl)) rfl ?_
    refine ym_ladd (pc := 48) dX7_total_48 ?_
    refine ym_lstore_n (pc := 49) (lv' := [(1, .long (w1 + q45.1)), (0, va_rf w0), (3, .int w3), (4, .int w4)]) dX7_total_49 rfl (by decide) ⟨ym_c1 w0, trivial, trivial, trivial, trivial⟩ rfl ?_
    refine ym_iinc (pc := 50) (lv' := [(4, .int (w4 + 1)), (1, .long (w1 + q45.1)), (0, va_rf w0), (3, .int w3)]) (v := (w4 + 1)) 3 dX7_total_50 rfl (by rw [show Int32.ofInt 1 = 1 by decide]) (by decide) ⟨trivial, trivial, rfl, trivial, trivial⟩ rfl ?_
    refine ym_goto (pc := 53) (tgt := 35) dX7_total_53 (by decide) ?_
    exact ym_sub [2, 1, 3, 0] rfl (hKl _ _ _ _ _ _ _ hf k)
def lp_X7_total_35 (N : Nat) : Nat → Option Nat → Int64 → Int32 → Int32 → ym_H → Option ((Int64) × ym_H)
  | 0, _, _, _, _, _ => none
  | n + 1, w0, w1, w3, w4, h => lb_X7_total_35 (lp_X7_total_35 N n) N w0 w1 w3 w4 h
set_option maxRecDepth 20000 in
set_option maxHeartbeats 4000000 in
theorem ok_lp_X7_total_35 {D : ym_D} {b0 : Nat} {N : Nat}  : ∀ (n : Nat) (w0 : Option Nat) (w1 : Int64) (w3 : Int32) (w4 : Int32) (h h1 : ym_H) (x : (Int64)), lp_X7_total_35 N n w0 w1 w3 w4 h = some (x, h1) → ∀ {r0 : Option Value} {h' : ym_H}, ym_Y D b0 g_X7_total 5 56 [(1, .long x)] [] h1 r0 h' → ym_Y D b0 g_X7_total 5 35 [(0, va_rf w0), (1, .long w1), (3, .int w3), (4, .int w4)] [] h r0 h' := by
  intro n
  induction n with
  | zero =>
    intro w0 w1 w3 w4 h h1 x hf
    cases hf
  | succ n ih =>
    intro w0 w1 w3 w4 h h1 x hf r0 h' k
    exact ol_X7_total_35 (fun w0 w1 w3 w4 h h1 x z r0 h' k => ih w0 w1 w3 w4 h h1 x z k) hf k
def fn_X7_total (N : Nat) (a0 : Option Nat) (h : ym_H) : Option (Int64 × ym_H) :=
  Option.bind (ym_gR h a0 7 1) fun v1 =>
  Option.bind (ym_ob h v1 2) fun o5 =>
  Option.bind (fn_X2_get N v1 2 h) fun q5 =>
  Option.bind (ym_gR q5.2 a0 7 1) fun v9 =>
  Option.bind (ym_ob q5.2 v9 2) fun o13 =>
  Option.bind (fn_X2_get N v9 3 q5.2) fun q13 =>
  Option.bind (ym_gR q13.2 a0 7 1) fun v18 =>
  Option.bind (ym_ob q13.2 v18 2) fun o22 =>
  Option.bind (fn_X2_get N v18 4 q13.2) fun q22 =>
  Option.bind (ym_ob q22.2 a0 7) fun o28 =>
  Option.bind (fn_X7_biddersMade N a0 q22.2) fun q28 =>
  Option.bind (lp_X7_total_35 N N a0 ((q5.1 + q13.1) + q22.1) q28.1 0 q28.2) fun q35 =>
  some (q35.1, q35.2)
set_option maxRecDepth 20000 in
set_option maxHeartbeats 4000000 in
theorem ok_X7_total {D : ym_D} {b0 : Nat} {N : Nat} {a0 : Option Nat} {h h' : ym_H} {r : Int64} (hf : fn_X7_total N a0 h = some (r, h')) : ym_M D b0 g_X7_total 5 [va_rf a0] h (some (.long r)) h' := by
  unfold fn_X7_total at hf
  refine ym_meth (lv := [(0, va_rf a0)]) (by decide) (by simp [lg_sl, ym_c1, ym_cI, ym_cL, g_X7_total]) (by simp [lv_args, ym_c1, ym_cI, ym_cL]) ?_
  refine ym_aload_n (pc := 0) 0 dX7_total_0 rfl rfl ?_
  obtain ⟨v1, e1, hf⟩ := Option.bind_eq_some_iff.mp hf
  refine ym_get (pc := 1) dX7_total_1 rfl (by decide) iX7 (k := 1) (by decide) wd_187 (ym_gR_v e1) ?_
  refine ym_iconst (pc := 4) (v := 2) dX7_total_4 (by decide) ?_
  obtain ⟨o5, f5, hf⟩ := Option.bind_eq_some_iff.mp hf
  obtain ⟨q5, e5, hf⟩ := Option.bind_eq_some_iff.mp hf
  refine ym_callV (pc := 5) (G2 := g_X2_get) (dep2 := 1) (As := [.int 2]) (st := []) (stk2 := [.long q5.1]) (r2 := (some (.long q5.1))) (h1 := q5.2) dX7_total_5 (ok_X2_get e5) (sc_X7_total_X2_get) wd_253 wd_254 wd_255 (ci := 2) (q0 := (RX2, TX2, 2)) rfl (by decide) rfl f5 rfl rfl (ym_st4 (Nat.le_of_ble_eq_true rfl)) rfl ?_
  refine ym_aload_n (pc := 8) 0 dX7_total_8 rfl rfl ?_
  obtain ⟨v9, e9, hf⟩ := Option.bind_eq_some_iff.mp hf
  refine ym_get (pc := 9) dX7_total_9 rfl (by decide) iX7 (k := 1) (by decide) wd_187 (ym_gR_v e9) ?_
  refine ym_iconst (pc := 12) (v := 3) dX7_total_12 (by decide) ?_
  obtain ⟨o13, f13, hf⟩ := Option.bind_eq_some_iff.mp hf
  obtain ⟨q13, e13, hf⟩ := Option.bind_eq_some_iff.mp hf
  refine ym_callV (pc := 13) (G2 := g_X2_get) (dep2 := 1) (As := [.int 3]) (st := [.long q5.1]) (stk2 := [.long q13.1, .long q5.1]) (r2 := (some (.long q13.1))) (h1 := q13.2) dX7_total_13 (ok_X2_get e13) (sc_X7_total_X2_get) wd_253 wd_254 wd_255 (ci := 2) (q0 := (RX2, TX2, 2)) rfl (by decide) rfl f13 rfl rfl (ym_st4 (Nat.le_of_ble_eq_true rfl)) rfl ?_
  refine ym_ladd (pc := 16) dX7_total_16 ?_
  refine ym_aload_n (pc := 17) 0 dX7_total_17 rfl rfl ?_
  obtain ⟨v18, e18, hf⟩ := Option.bind_eq_some_iff.mp hf
  refine ym_get (pc := 18) dX7_total_18 rfl (by decide) iX7 (k := 1) (by decide) wd_187 (ym_gR_v e18) ?_
  refine ym_iconst (pc := 21) (v := 4) dX7_total_21 (by decide) ?_
  obtain ⟨o22, f22, hf⟩ := Option.bind_eq_some_iff.mp hf
  obtain ⟨q22, e22, hf⟩ := Option.bind_eq_some_iff.mp hf
  refine ym_callV (pc := 22) (G2 := g_X2_get) (dep2 := 1) (As := [.int 4]) (st := [.long (q5.1 + q13.1)]) (stk2 := [.long q22.1, .long (q5.1 + q13.1)]) (r2 := (some (.long q22.1))) (h1 := q22.2) dX7_total_22 (ok_X2_get e22) (sc_X7_total_X2_get) wd_253 wd_254 wd_255 (ci := 2) (q0 := (RX2, TX2, 2)) rfl (by decide) rfl f22 rfl rfl (ym_st4 (Nat.le_of_ble_eq_true rfl)) rfl ?_
  refine ym_ladd (pc := 25) dX7_total_25 ?_
  refine ym_lstore_n (pc := 26) (lv' := [(1, .long ((q5.1 + q13.1) + q22.1)), (0, va_rf a0)]) dX7_total_26 rfl (by decide) ⟨ym_c1 a0, trivial⟩ rfl ?_
  refine ym_aload_n (pc := 27) 1 dX7_total_27 rfl rfl ?_
  obtain ⟨o28, f28, hf⟩ := Option.bind_eq_some_iff.mp hf
  obtain ⟨q28, e28, hf⟩ := Option.bind_eq_some_iff.mp hf
  refine ym_callV (pc := 28) (G2 := g_X7_biddersMade) (dep2 := 2) (As := []) (st := []) (stk2 := [.int q28.1]) (r2 := (some (.int q28.1))) (h1 := q28.2) dX7_total_28 (ok_X7_biddersMade e28) (sc_X7_total_X7_biddersMade) wd_249 wd_251 wd_3 (ci := 7) (q0 := (RX7, TX7, 10)) rfl (by decide) rfl f28 rfl rfl (ym_st4 (Nat.le_of_ble_eq_true rfl)) rfl ?_
  refine ym_istore_n (pc := 31) (lv' := [(3, .int q28.1), (1, .long ((q5.1 + q13.1) + q22.1)), (0, va_rf a0)]) dX7_total_31 rfl (by decide) ⟨trivial, trivial, trivial⟩ rfl ?_
  refine ym_iconst (pc := 32) (v := 0) dX7_total_32 (by decide) ?_
  refine ym_istore (pc := 33) (lv' := [(4, .int 0), (3, .int q28.1), (1, .long ((q5.1 + q13.1) + q22.1)), (0, va_rf a0)]) dX7_total_33 (by decide) ⟨rfl, trivial, trivial, trivial⟩ rfl ?_
  obtain ⟨q35, e35, hf⟩ := Option.bind_eq_some_iff.mp hf
  refine ym_sub (lv' := [(0, va_rf a0), (1, .long ((q5.1 + q13.1) + q22.1)), (3, .int q28.1), (4, .int 0)]) [3, 2, 1, 0] rfl ?_
  refine ok_lp_X7_total_35 N _ _ _ _ _ _ _ e35 ?_
  refine ym_lload_n (pc := 56) 0 dX7_total_56 rfl rfl ?_
  cases hf
  exact ym_lret (pc := 57) dX7_total_57 rfl
theorem dX7_trace_0 : decode cX7_trace 0 = .ok (.aload_n 0, 1) := by decide +kernel
theorem dX7_trace_1 : decode cX7_trace 1 = .ok (.getfield 42, 3) := by decide +kernel
theorem dX7_trace_4 : decode cX7_trace 4 = .ok (.iload_n 1, 1) := by decide +kernel
theorem dX7_trace_5 : decode cX7_trace 5 = .ok (.invokevirtual 282, 3) := by decide +kernel
theorem dX7_trace_8 : decode cX7_trace 8 = .ok (.ireturn, 1) := by decide +kernel
theorem sc_X7_trace_X1_ranAt : ym_site g_X7_trace g_X1_ranAt 2 1 1 := ⟨by decide, by decide, wd_821, wd_82, by decide +kernel⟩
def fn_X7_trace (N : Nat) (a0 : Option Nat) (a1 : Int32) (h : ym_H) : Option (Int32 × ym_H) :=
  Option.bind (ym_gR h a0 7 4) fun v1 =>
  Option.bind (ym_ob h v1 1) fun o5 =>
  Option.bind (fn_X1_ranAt N v1 a1 h) fun q5 =>
  some (q5.1, q5.2)
set_option maxRecDepth 20000 in
set_option maxHeartbeats 4000000 in
theorem ok_X7_trace {D : ym_D} {b0 : Nat} {N : Nat} {a0 : Option Nat} {a1 : Int32} {h h' : ym_H} {r : Int32} (hf : fn_X7_trace N a0 a1 h = some (r, h')) : ym_M D b0 g_X7_trace 2 [va_rf a0, .int a1] h (some (.int r)) h' := by
  unfold fn_X7_trace at hf
  refine ym_meth (lv := [(0, va_rf a0), (1, .int a1)]) (by decide) (by simp [lg_sl, ym_c1, ym_cI, ym_cL, g_X7_trace]) (by simp [lv_args, ym_c1, ym_cI, ym_cL]) ?_
  refine ym_aload_n (pc := 0) 0 dX7_trace_0 rfl rfl ?_
  obtain ⟨v1, e1, hf⟩ := Option.bind_eq_some_iff.mp hf
  refine ym_get (pc := 1) dX7_trace_1 rfl (by decide) iX7 (k := 4) (by decide) wd_190 (ym_gR_v e1) ?_
  refine ym_iload_n (pc := 4) 1 dX7_trace_4 rfl rfl ?_
  obtain ⟨o5, f5, hf⟩ := Option.bind_eq_some_iff.mp hf
  obtain ⟨q5, e5, hf⟩ := Option.bind_eq_some_iff.mp hf
  refine ym_callV (pc := 5) (G2 := g_X1_ranAt) (dep2 := 1) (As := [.int a1]) (st := []) (stk2 := [.int q5.1]) (r2 := (some (.int q5.1))) (h1 := q5.2) dX7_trace_5 (ok_X1_ranAt e5) (sc_X7_trace_X1_ranAt) wd_818 wd_819 wd_820 (ci := 1) (q0 := (RX1, TX1, 3)) rfl (by decide) rfl f5 rfl rfl (ym_st4 (Nat.le_of_ble_eq_true rfl)) rfl ?_
  cases hf
  exact ym_iret (pc := 8) dX7_trace_8 rfl
theorem dX7_tries_0 : decode cX7_tries 0 = .ok (.aload_n 0, 1) := by decide +kernel
theorem dX7_tries_1 : decode cX7_tries 1 = .ok (.getfield 276, 3) := by decide +kernel
theorem dX7_tries_4 : decode cX7_tries 4 = .ok (.ireturn, 1) := by decide +kernel
def fn_X7_tries (N : Nat) (a0 : Option Nat) (h : ym_H) : Option (Int32 × ym_H) :=
  Option.bind (ym_gI h a0 7 8) fun v1 =>
  some (v1, h)
set_option maxRecDepth 20000 in
set_option maxHeartbeats 4000000 in
theorem ok_X7_tries {D : ym_D} {b0 : Nat} {N : Nat} {a0 : Option Nat} {h h' : ym_H} {r : Int32} (hf : fn_X7_tries N a0 h = some (r, h')) : ym_M D b0 g_X7_tries 1 [va_rf a0] h (some (.int r)) h' := by
  unfold fn_X7_tries at hf
  refine ym_meth (lv := [(0, va_rf a0)]) (by decide) (by simp [lg_sl, ym_c1, ym_cI, ym_cL, g_X7_tries]) (by simp [lv_args, ym_c1, ym_cI, ym_cL]) ?_
  refine ym_aload_n (pc := 0) 0 dX7_tries_0 rfl rfl ?_
  obtain ⟨v1, e1, hf⟩ := Option.bind_eq_some_iff.mp hf
  refine ym_get (pc := 1) dX7_tries_1 rfl (by decide) iX7 (k := 8) (by decide) wd_194 (ym_gI_v e1) ?_
  cases hf
  exact ym_iret (pc := 4) dX7_tries_4 rfl
theorem dX7_undo_0 : decode cX7_undo 0 = .ok (.aload_n 0, 1) := by decide +kernel
theorem dX7_undo_1 : decode cX7_undo 1 = .ok (.invokevirtual 58, 3) := by decide +kernel
theorem dX7_undo_4 : decode cX7_undo 4 = .ok (.aload_n 0, 1) := by decide +kernel
theorem dX7_undo_5 : decode cX7_undo 5 = .ok (.getfield 12, 3) := by decide +kernel
theorem dX7_undo_8 : decode cX7_undo 8 = .ok (.invokevirtual 258, 3) := by decide +kernel
theorem dX7_undo_11 : decode cX7_undo 11 = .ok (.ifCond .ne 10, 3) := by decide +kernel
theorem dX7_undo_14 : decode cX7_undo 14 = .ok (.aload_n 0, 1) := by decide +kernel
theorem dX7_undo_15 : decode cX7_undo 15 = .ok (.bipush 14, 2) := by decide +kernel
theorem dX7_undo_17 : decode cX7_undo 17 = .ok (.invokevirtual 61, 3) := by decide +kernel
theorem dX7_undo_20 : decode cX7_undo 20 = .ok (.lreturn, 1) := by decide +kernel
theorem dX7_undo_21 : decode cX7_undo 21 = .ok (.aload_n 0, 1) := by decide +kernel
theorem dX7_undo_22 : decode cX7_undo 22 = .ok (.getfield 12, 3) := by decide +kernel
theorem dX7_undo_25 : decode cX7_undo 25 = .ok (.invokevirtual 267, 3) := by decide +kernel
theorem dX7_undo_28 : decode cX7_undo 28 = .ok (.aload_n 0, 1) := by decide +kernel
theorem dX7_undo_29 : decode cX7_undo 29 = .ok (.getfield 12, 3) := by decide +kernel
theorem dX7_undo_32 : decode cX7_undo 32 = .ok (.invokevirtual 258, 3) := by decide +kernel
theorem dX7_undo_35 : decode cX7_undo 35 = .ok (.i2l, 1) := by decide +kernel
theorem dX7_undo_36 : decode cX7_undo 36 = .ok (.lreturn, 1) := by decide +kernel
theorem sc_X7_undo_X7_startAct : ym_site g_X7_undo g_X7_startAct 5 2 0 := ⟨by decide, by decide, wd_224, wd_76, by decide +kernel⟩
theorem sc_X7_undo_X3_depth : ym_site g_X7_undo g_X3_depth 5 1 0 := ⟨by decide, by decide, wd_740, wd_77, by decide +kernel⟩
theorem sc_X7_undo_X7_refuse : ym_site g_X7_undo g_X7_refuse 5 4 1 := ⟨by decide, by decide, wd_232, wd_76, by decide +kernel⟩
theorem sc_X7_undo_X3_takeBackBatch : ym_site g_X7_undo g_X3_takeBackBatch 5 3 0 := ⟨by decide, by decide, wd_760, wd_77, by decide +kernel⟩
def fn_X7_undo (N : Nat) (a0 : Option Nat) (h : ym_H) : Option (Int64 × ym_H) :=
  Option.bind (ym_ob h a0 7) fun o1 =>
  Option.bind (fn_X7_startAct N a0 h) fun q1 =>
  Option.bind (ym_gR q1.2 a0 7 0) fun v5 =>
  Option.bind (ym_ob q1.2 v5 3) fun o8 =>
  Option.bind (fn_X3_depth N v5 q1.2) fun q8 =>
  if q8.1 = 0 then
    Option.bind (ym_ob q8.2 a0 7) fun o17 =>
    Option.bind (fn_X7_refuse N a0 14 q8.2) fun q17 =>
    some (q17.1, q17.2)
  else
    Option.bind (ym_gR q8.2 a0 7 0) fun v22 =>
    Option.bind (ym_ob q8.2 v22 3) fun o25 =>
    Option.bind (fn_X3_takeBackBatch N v22 q8.2) fun q25 =>
    Option.bind (ym_gR q25.2 a0 7 0) fun v29 =>
    Option.bind (ym_ob q25.2 v29 3) fun o32 =>
    Option.bind (fn_X3_depth N v29 q25.2) fun q32 =>
    some ((Int32.toInt64 q32.1), q32.2)
set_option maxRecDepth 20000 in
set_option maxHeartbeats 4000000 in
theorem ok_X7_undo {D : ym_D} {b0 : Nat} {N : Nat} {a0 : Option Nat} {h h' : ym_H} {r : Int64} (hf : fn_X7_undo N a0 h = some (r, h')) : ym_M D b0 g_X7_undo 5 [va_rf a0] h (some (.long r)) h' := by
  unfold fn_X7_undo at hf
  refine ym_meth (lv := [(0, va_rf a0)]) (by decide) (by simp [lg_sl, ym_c1, ym_cI, ym_cL, g_X7_undo]) (by simp [lv_args, ym_c1, ym_cI, ym_cL]) ?_
  refine ym_aload_n (pc := 0) 0 dX7_undo_0 rfl rfl ?_
  obtain ⟨o1, f1, hf⟩ := Option.bind_eq_some_iff.mp hf
  obtain ⟨q1, e1, hf⟩ := Option.bind_eq_some_iff.mp hf
  refine ym_callV (pc := 1) (G2 := g_X7_startAct) (dep2 := 2) (As := []) (st := []) (stk2 := []) (r2 := none) (h1 := q1.2) dX7_undo_1 (ok_X7_startAct e1) (sc_X7_undo_X7_startAct) wd_221 wd_223 wd_0 (ci := 7) (q0 := (RX7, TX7, 10)) rfl (by decide) rfl f1 rfl rfl (ym_st4 (Nat.le_of_ble_eq_true rfl)) rfl ?_
  refine ym_aload_n (pc := 4) 0 dX7_undo_4 rfl rfl ?_
  obtain ⟨v5, e5, hf⟩ := Option.bind_eq_some_iff.mp hf
  refine ym_get (pc := 5) dX7_undo_5 rfl (by decide) iX7 (k := 0) (by decide) wd_186 (ym_gR_v e5) ?_
  obtain ⟨o8, f8, hf⟩ := Option.bind_eq_some_iff.mp hf
  obtain ⟨q8, e8, hf⟩ := Option.bind_eq_some_iff.mp hf
  refine ym_callV (pc := 8) (G2 := g_X3_depth) (dep2 := 1) (As := []) (st := []) (stk2 := [.int q8.1]) (r2 := (some (.int q8.1))) (h1 := q8.2) dX7_undo_8 (ok_X3_depth e8) (sc_X7_undo_X3_depth) wd_737 wd_738 wd_739 (ci := 3) (q0 := (RX3, TX3, 6)) rfl (by decide) rfl f8 rfl rfl (ym_st4 (Nat.le_of_ble_eq_true rfl)) rfl ?_
  by_cases c11 : q8.1 = 0
  · rw [if_pos c11] at hf
    refine ym_if_ne_y (pc := 11) (tgt := 21) dX7_undo_11 (by decide) c11 ?_
    refine ym_aload_n (pc := 14) 0 dX7_undo_14 rfl rfl ?_
    refine ym_bipush (pc := 15) (v := 14) dX7_undo_15 (by decide) ?_
    obtain ⟨o17, f17, hf⟩ := Option.bind_eq_some_iff.mp hf
    obtain ⟨q17, e17, hf⟩ := Option.bind_eq_some_iff.mp hf
    refine ym_callV (pc := 17) (G2 := g_X7_refuse) (dep2 := 4) (As := [.int 14]) (st := []) (stk2 := [.long q17.1]) (r2 := (some (.long q17.1))) (h1 := q17.2) dX7_undo_17 (ok_X7_refuse e17) (sc_X7_undo_X7_refuse) wd_229 wd_231 wd_1 (ci := 7) (q0 := (RX7, TX7, 10)) rfl (by decide) rfl f17 rfl rfl (ym_st4 (Nat.le_of_ble_eq_true rfl)) rfl ?_
    cases hf
    exact ym_lret (pc := 20) dX7_undo_20 rfl
  · rw [if_neg c11] at hf
    refine ym_if_ne_n (pc := 11) (tgt := 21) dX7_undo_11 (by decide) c11 ?_
    refine ym_aload_n (pc := 21) 0 dX7_undo_21 rfl rfl ?_
    obtain ⟨v22, e22, hf⟩ := Option.bind_eq_some_iff.mp hf
    refine ym_get (pc := 22) dX7_undo_22 rfl (by decide) iX7 (k := 0) (by decide) wd_186 (ym_gR_v e22) ?_
    obtain ⟨o25, f25, hf⟩ := Option.bind_eq_some_iff.mp hf
    obtain ⟨q25, e25, hf⟩ := Option.bind_eq_some_iff.mp hf
    refine ym_callV (pc := 25) (G2 := g_X3_takeBackBatch) (dep2 := 3) (As := []) (st := []) (stk2 := []) (r2 := none) (h1 := q25.2) dX7_undo_25 (ok_X3_takeBackBatch e25) (sc_X7_undo_X3_takeBackBatch) wd_757 wd_758 wd_759 (ci := 3) (q0 := (RX3, TX3, 6)) rfl (by decide) rfl f25 rfl rfl (ym_st4 (Nat.le_of_ble_eq_true rfl)) rfl ?_
    refine ym_aload_n (pc := 28) 0 dX7_undo_28 rfl rfl ?_
    obtain ⟨v29, e29, hf⟩ := Option.bind_eq_some_iff.mp hf
    refine ym_get (pc := 29) dX7_undo_29 rfl (by decide) iX7 (k := 0) (by decide) wd_186 (ym_gR_v e29) ?_
    obtain ⟨o32, f32, hf⟩ := Option.bind_eq_some_iff.mp hf
    obtain ⟨q32, e32, hf⟩ := Option.bind_eq_some_iff.mp hf
    refine ym_callV (pc := 32) (G2 := g_X3_depth) (dep2 := 1) (As := []) (st := []) (stk2 := [.int q32.1]) (r2 := (some (.int q32.1))) (h1 := q32.2) dX7_undo_32 (ok_X3_depth e32) (sc_X7_undo_X3_depth) wd_737 wd_738 wd_739 (ci := 3) (q0 := (RX3, TX3, 6)) rfl (by decide) rfl f32 rfl rfl (ym_st4 (Nat.le_of_ble_eq_true rfl)) rfl ?_
    refine ym_i2l (pc := 35) dX7_undo_35 ?_
    cases hf
    exact ym_lret (pc := 36) dX7_undo_36 rfl
theorem dX7_why_0 : decode cX7_why 0 = .ok (.aload_n 0, 1) := by decide +kernel
theorem dX7_why_1 : decode cX7_why 1 = .ok (.getfield 279, 3) := by decide +kernel
theorem dX7_why_4 : decode cX7_why 4 = .ok (.ireturn, 1) := by decide +kernel
def fn_X7_why (N : Nat) (a0 : Option Nat) (h : ym_H) : Option (Int32 × ym_H) :=
  Option.bind (ym_gI h a0 7 9) fun v1 =>
  some (v1, h)
set_option maxRecDepth 20000 in
set_option maxHeartbeats 4000000 in
theorem ok_X7_why {D : ym_D} {b0 : Nat} {N : Nat} {a0 : Option Nat} {h h' : ym_H} {r : Int32} (hf : fn_X7_why N a0 h = some (r, h')) : ym_M D b0 g_X7_why 1 [va_rf a0] h (some (.int r)) h' := by
  unfold fn_X7_why at hf
  refine ym_meth (lv := [(0, va_rf a0)]) (by decide) (by simp [lg_sl, ym_c1, ym_cI, ym_cL, g_X7_why]) (by simp [lv_args, ym_c1, ym_cI, ym_cL]) ?_
  refine ym_aload_n (pc := 0) 0 dX7_why_0 rfl rfl ?_
  obtain ⟨v1, e1, hf⟩ := Option.bind_eq_some_iff.mp hf
  refine ym_get (pc := 1) dX7_why_1 rfl (by decide) iX7 (k := 9) (by decide) wd_195 (ym_gI_v e1) ?_
  cases hf
  exact ym_iret (pc := 4) dX7_why_4 rfl
theorem dX8_account_0 : decode cX8_account 0 = .ok (.iload_n 1, 1) := by decide +kernel
theorem dX8_account_1 : decode cX8_account 1 = .ok (.ifCond .lt 8, 3) := by decide +kernel
theorem dX8_account_4 : decode cX8_account 4 = .ok (.iload_n 1, 1) := by decide +kernel
theorem dX8_account_5 : decode cX8_account 5 = .ok (.iconst 2, 1) := by decide +kernel
theorem dX8_account_6 : decode cX8_account 6 = .ok (.if_icmp .le 7, 3) := by decide +kernel
theorem dX8_account_9 : decode cX8_account 9 = .ok (.lconst 0, 1) := by decide +kernel
theorem dX8_account_10 : decode cX8_account 10 = .ok (.goto 9, 3) := by decide +kernel
theorem dX8_account_13 : decode cX8_account 13 = .ok (.aload_n 0, 1) := by decide +kernel
theorem dX8_account_14 : decode cX8_account 14 = .ok (.getfield 117, 3) := by decide +kernel
theorem dX8_account_17 : decode cX8_account 17 = .ok (.iload_n 1, 1) := by decide +kernel
theorem dX8_account_18 : decode cX8_account 18 = .ok (.laload, 1) := by decide +kernel
theorem dX8_account_19 : decode cX8_account 19 = .ok (.lreturn, 1) := by decide +kernel
def fn_X8_account (N : Nat) (a0 : Option Nat) (a1 : Int32) (h : ym_H) : Option (Int64 × ym_H) :=
  if a1 < 0 then
    some (0, h)
  else
    if a1 ≤ 2 then
      Option.bind (ym_gR h a0 8 40) fun v14 =>
      Option.bind (ym_ldL h v14 a1) fun v18 =>
      some (v18, h)
    else
      some (0, h)
set_option maxRecDepth 20000 in
set_option maxHeartbeats 4000000 in
theorem ok_X8_account {D : ym_D} {b0 : Nat} {N : Nat} {a0 : Option Nat} {a1 : Int32} {h h' : ym_H} {r : Int64} (hf : fn_X8_account N a0 a1 h = some (r, h')) : ym_M D b0 g_X8_account 1 [va_rf a0, .int a1] h (some (.long r)) h' := by
  unfold fn_X8_account at hf
  refine ym_meth (lv := [(0, va_rf a0), (1, .int a1)]) (by decide) (by simp [lg_sl, ym_c1, ym_cI, ym_cL, g_X8_account]) (by simp [lv_args, ym_c1, ym_cI, ym_cL]) ?_
  refine ym_iload_n (pc := 0) 1 dX8_account_0 rfl rfl ?_
  by_cases c1 : a1 < 0
  · rw [if_pos c1] at hf
    refine ym_if_lt_y (pc := 1) (tgt := 9) dX8_account_1 (by decide) c1 ?_
    refine ym_lconst (pc := 9) (v := 0) dX8_account_9 (by decide) ?_
    refine ym_goto (pc := 10) (tgt := 19) dX8_account_10 (by decide) ?_
    cases hf
    exact ym_lret (pc := 19) dX8_account_19 rfl
  · rw [if_neg c1] at hf
    refine ym_if_lt_n (pc := 1) (tgt := 9) dX8_account_1 (by decide) c1 ?_
    refine ym_iload_n (pc := 4) 1 dX8_account_4 rfl rfl ?_
    refine ym_iconst (pc := 5) (v := 2) dX8_account_5 (by decide) ?_
    by_cases c6 : a1 ≤ 2
    · rw [if_pos c6] at hf
      refine ym_icmp_le_y (pc := 6) (tgt := 13) dX8_account_6 (by decide) c6 ?_
      refine ym_aload_n (pc := 13) 0 dX8_account_13 rfl rfl ?_
      obtain ⟨v14, e14, hf⟩ := Option.bind_eq_some_iff.mp hf
      refine ym_get (pc := 14) dX8_account_14 rfl (by decide) iX8 (k := 40) (by decide) wd_885 (ym_gR_v e14) ?_
      refine ym_iload_n (pc := 17) 1 dX8_account_17 rfl rfl ?_
      obtain ⟨v18, e18, hf⟩ := Option.bind_eq_some_iff.mp hf
      refine ym_lald (pc := 18) dX8_account_18 rfl (ym_ldL_v e18) ?_
      cases hf
      exact ym_lret (pc := 19) dX8_account_19 rfl
    · rw [if_neg c6] at hf
      refine ym_icmp_le_n (pc := 6) (tgt := 13) dX8_account_6 (by decide) c6 ?_
      refine ym_lconst (pc := 9) (v := 0) dX8_account_9 (by decide) ?_
      refine ym_goto (pc := 10) (tgt := 19) dX8_account_10 (by decide) ?_
      cases hf
      exact ym_lret (pc := 19) dX8_account_19 rfl
theorem dX8_newBidder_0 : decode cX8_newBidder 0 = .ok (.iload_n 1, 1) := by decide +kernel
theorem dX8_newBidder_1 : decode cX8_newBidder 1 = .ok (.iconst 1, 1) := by decide +kernel
theorem dX8_newBidder_2 : decode cX8_newBidder 2 = .ok (.if_icmp .lt 27, 3) := by decide +kernel
theorem dX8_newBidder_5 : decode cX8_newBidder 5 = .ok (.iload_n 1, 1) := by decide +kernel
theorem dX8_newBidder_6 : decode cX8_newBidder 6 = .ok (.iconst 4, 1) := by decide +kernel
theorem dX8_newBidder_7 : decode cX8_newBidder 7 = .ok (.if_icmp .gt 22, 3) := by decide +kernel
theorem dX8_newBidder_10 : decode cX8_newBidder 10 = .ok (.iload_n 1, 1) := by decide +kernel
theorem dX8_newBidder_11 : decode cX8_newBidder 11 = .ok (.iconst 3, 1) := by decide +kernel
theorem dX8_newBidder_12 : decode cX8_newBidder 12 = .ok (.if_icmp .ne 21, 3) := by decide +kernel
theorem dX8_newBidder_15 : decode cX8_newBidder 15 = .ok (.lload_n 2, 1) := by decide +kernel
theorem dX8_newBidder_16 : decode cX8_newBidder 16 = .ok (.lconst 0, 1) := by decide +kernel
theorem dX8_newBidder_17 : decode cX8_newBidder 17 = .ok (.lcmp, 1) := by decide +kernel
theorem dX8_newBidder_18 : decode cX8_newBidder 18 = .ok (.ifCond .lt 11, 3) := by decide +kernel
theorem dX8_newBidder_21 : decode cX8_newBidder 21 = .ok (.lload_n 2, 1) := by decide +kernel
theorem dX8_newBidder_22 : decode cX8_newBidder 22 = .ok (.ldc2_w 292, 3) := by decide +kernel
theorem dX8_newBidder_25 : decode cX8_newBidder 25 = .ok (.lcmp, 1) := by decide +kernel
theorem dX8_newBidder_26 : decode cX8_newBidder 26 = .ok (.ifCond .le 7, 3) := by decide +kernel
theorem dX8_newBidder_29 : decode cX8_newBidder 29 = .ok (.ldc2_w 331, 3) := by decide +kernel
theorem dX8_newBidder_32 : decode cX8_newBidder 32 = .ok (.lreturn, 1) := by decide +kernel
theorem dX8_newBidder_33 : decode cX8_newBidder 33 = .ok (.aload_n 0, 1) := by decide +kernel
theorem dX8_newBidder_34 : decode cX8_newBidder 34 = .ok (.getfield 185, 3) := by decide +kernel
theorem dX8_newBidder_37 : decode cX8_newBidder 37 = .ok (.sipush 200, 3) := by decide +kernel
theorem dX8_newBidder_40 : decode cX8_newBidder 40 = .ok (.if_icmp .ne 7, 3) := by decide +kernel
theorem dX8_newBidder_43 : decode cX8_newBidder 43 = .ok (.ldc2_w 333, 3) := by decide +kernel
theorem dX8_newBidder_46 : decode cX8_newBidder 46 = .ok (.lreturn, 1) := by decide +kernel
theorem dX8_newBidder_47 : decode cX8_newBidder 47 = .ok (.aload_n 0, 1) := by decide +kernel
theorem dX8_newBidder_48 : decode cX8_newBidder 48 = .ok (.getfield 9, 3) := by decide +kernel
theorem dX8_newBidder_51 : decode cX8_newBidder 51 = .ok (.aload_n 0, 1) := by decide +kernel
theorem dX8_newBidder_52 : decode cX8_newBidder 52 = .ok (.getfield 185, 3) := by decide +kernel
theorem dX8_newBidder_55 : decode cX8_newBidder 55 = .ok (.iload_n 1, 1) := by decide +kernel
theorem dX8_newBidder_56 : decode cX8_newBidder 56 = .ok (.iastore, 1) := by decide +kernel
theorem dX8_newBidder_57 : decode cX8_newBidder 57 = .ok (.aload_n 0, 1) := by decide +kernel
theorem dX8_newBidder_58 : decode cX8_newBidder 58 = .ok (.getfield 13, 3) := by decide +kernel
theorem dX8_newBidder_61 : decode cX8_newBidder 61 = .ok (.aload_n 0, 1) := by decide +kernel
theorem dX8_newBidder_62 : decode cX8_newBidder 62 = .ok (.getfield 185, 3) := by decide +kernel
theorem dX8_newBidder_65 : decode cX8_newBidder 65 = .ok (.lload_n 2, 1) := by decide +kernel
theorem dX8_newBidder_66 : decode cX8_newBidder 66 = .ok (.lastore, 1) := by decide +kernel
theorem dX8_newBidder_67 : decode cX8_newBidder 67 = .ok (.aload_n 0, 1) := by decide +kernel
theorem dX8_newBidder_68 : decode cX8_newBidder 68 = .ok (.getfield 17, 3) := by decide +kernel
theorem dX8_newBidder_71 : decode cX8_newBidder 71 = .ok (.aload_n 0, 1) := by decide +kernel
theorem dX8_newBidder_72 : decode cX8_newBidder 72 = .ok (.getfield 185, 3) := by decide +kernel
theorem dX8_newBidder_75 : decode cX8_newBidder 75 = .ok (.lconst 0, 1) := by decide +kernel
theorem dX8_newBidder_76 : decode cX8_newBidder 76 = .ok (.lastore, 1) := by decide +kernel
theorem dX8_newBidder_77 : decode cX8_newBidder 77 = .ok (.aload_n 0, 1) := by decide +kernel
theorem dX8_newBidder_78 : decode cX8_newBidder 78 = .ok (.dup, 1) := by decide +kernel
theorem dX8_newBidder_79 : decode cX8_newBidder 79 = .ok (.getfield 185, 3) := by decide +kernel
theorem dX8_newBidder_82 : decode cX8_newBidder 82 = .ok (.iconst 1, 1) := by decide +kernel
theorem dX8_newBidder_83 : decode cX8_newBidder 83 = .ok (.iadd, 1) := by decide +kernel
theorem dX8_newBidder_84 : decode cX8_newBidder 84 = .ok (.putfield 185, 3) := by decide +kernel
theorem dX8_newBidder_87 : decode cX8_newBidder 87 = .ok (.aload_n 0, 1) := by decide +kernel
theorem dX8_newBidder_88 : decode cX8_newBidder 88 = .ok (.getfield 185, 3) := by decide +kernel
theorem dX8_newBidder_91 : decode cX8_newBidder 91 = .ok (.i2l, 1) := by decide +kernel
theorem dX8_newBidder_92 : decode cX8_newBidder 92 = .ok (.lconst 1, 1) := by decide +kernel
theorem dX8_newBidder_93 : decode cX8_newBidder 93 = .ok (.lsub, 1) := by decide +kernel
theorem dX8_newBidder_94 : decode cX8_newBidder 94 = .ok (.lreturn, 1) := by decide +kernel
def bl_X8_newBidder_33 (N : Nat) (w0 : Option Nat) (w1 : Int32) (w2 : Int64) (h : ym_H) : Option (Int64 × ym_H) :=
  Option.bind (ym_gI h w0 8 0) fun v34 =>
  if v34 = 200 then
    some ((-12), h)
  else
    Option.bind (ym_gR h w0 8 1) fun v48 =>
    Option.bind (ym_gI h w0 8 0) fun v52 =>
    Option.bind (ym_as h v48 0 v52 (.int w1)) fun h56 =>
    Option.bind (ym_gR h56 w0 8 2) fun v58 =>
    Option.bind (ym_gI h56 w0 8 0) fun v62 =>
    Option.bind (ym_as h56 v58 1 v62 (.long w2)) fun h66 =>
    Option.bind (ym_gR h66 w0 8 3) fun v68 =>
    Option.bind (ym_gI h66 w0 8 0) fun v72 =>
    Option.bind (ym_as h66 v68 1 v72 (.long 0)) fun h76 =>
    Option.bind (ym_gI h76 w0 8 0) fun v79 =>
    Option.bind (ym_pf h76 w0 8 0 (.int (v79 + 1))) fun h84 =>
    Option.bind (ym_gI h84 w0 8 0) fun v88 =>
    some (((Int32.toInt64 v88) - 1), h84)
set_option maxRecDepth 20000 in
set_option maxHeartbeats 4000000 in
theorem ob_X8_newBidder_33 {D : ym_D} {b0 : Nat} {N : Nat} {w0 : Option Nat} {w1 : Int32} {w2 : Int64} {h h' : ym_H} {r : Int64} (hf : bl_X8_newBidder_33 N w0 w1 w2 h = some (r, h')) : ym_Y D b0 g_X8_newBidder 1 33 [(0, va_rf w0), (1, .int w1), (2, .long w2)] [] h (some (.long r)) h' := by
  unfold bl_X8_newBidder_33 at hf
  refine ym_aload_n (pc := 33) 0 dX8_newBidder_33 rfl rfl ?_
  obtain ⟨v34, e34, hf⟩ := Option.bind_eq_some_iff.mp hf
  refine ym_get (pc := 34) dX8_newBidder_34 rfl (by decide) iX8 (k := 0) (by decide) wd_845 (ym_gI_v e34) ?_
  refine ym_sipush (pc := 37) (v := 200) dX8_newBidder_37 (by decide) ?_
  by_cases c40 : v34 = 200
  · rw [if_pos c40] at hf
    refine ym_icmp_ne_y (pc := 40) (tgt := 47) dX8_newBidder_40 (by decide) c40 ?_
    refine ym_ldc2 (pc := 43) dX8_newBidder_43 wd_1039 ?_
    cases hf
    exact ym_lret (pc := 46) dX8_newBidder_46 rfl
  · rw [if_neg c40] at hf
    refine ym_icmp_ne_n (pc := 40) (tgt := 47) dX8_newBidder_40 (by decide) c40 ?_
    refine ym_aload_n (pc := 47) 0 dX8_newBidder_47 rfl rfl ?_
    obtain ⟨v48, e48, hf⟩ := Option.bind_eq_some_iff.mp hf
    refine ym_get (pc := 48) dX8_newBidder_48 rfl (by decide) iX8 (k := 1) (by decide) wd_846 (ym_gR_v e48) ?_
    refine ym_aload_n (pc := 51) 0 dX8_newBidder_51 rfl rfl ?_
    obtain ⟨v52, e52, hf⟩ := Option.bind_eq_some_iff.mp hf
    refine ym_get (pc := 52) dX8_newBidder_52 rfl (by decide) iX8 (k := 0) (by decide) wd_845 (ym_gI_v e52) ?_
    refine ym_iload_n (pc := 55) 1 dX8_newBidder_55 rfl rfl ?_
    obtain ⟨h56, e56, hf⟩ := Option.bind_eq_some_iff.mp hf
    refine ym_iast (pc := 56) dX8_newBidder_56 rfl e56 ?_
    refine ym_aload_n (pc := 57) 0 dX8_newBidder_57 rfl rfl ?_
    obtain ⟨v58, e58, hf⟩ := Option.bind_eq_some_iff.mp hf
    refine ym_get (pc := 58) dX8_newBidder_58 rfl (by decide) iX8 (k := 2) (by decide) wd_847 (ym_gR_v e58) ?_
    refine ym_aload_n (pc := 61) 0 dX8_newBidder_61 rfl rfl ?_
    obtain ⟨v62, e62, hf⟩ := Option.bind_eq_some_iff.mp hf
    refine ym_get (pc := 62) dX8_newBidder_62 rfl (by decide) iX8 (k := 0) (by decide) wd_845 (ym_gI_v e62) ?_
    refine ym_lload_n (pc := 65) 2 dX8_newBidder_65 rfl rfl ?_
    obtain ⟨h66, e66, hf⟩ := Option.bind_eq_some_iff.mp hf
    refine ym_last (pc := 66) dX8_newBidder_66 rfl e66 ?_
    refine ym_aload_n (pc := 67) 0 dX8_newBidder_67 rfl rfl ?_
    obtain ⟨v68, e68, hf⟩ := Option.bind_eq_some_iff.mp hf
    refine ym_get (pc := 68) dX8_newBidder_68 rfl (by decide) iX8 (k := 3) (by decide) wd_848 (ym_gR_v e68) ?_
    refine ym_aload_n (pc := 71) 0 dX8_newBidder_71 rfl rfl ?_
    obtain ⟨v72, e72, hf⟩ := Option.bind_eq_some_iff.mp hf
    refine ym_get (pc := 72) dX8_newBidder_72 rfl (by decide) iX8 (k := 0) (by decide) wd_845 (ym_gI_v e72) ?_
    refine ym_lconst (pc := 75) (v := 0) dX8_newBidder_75 (by decide) ?_
    obtain ⟨h76, e76, hf⟩ := Option.bind_eq_some_iff.mp hf
    refine ym_last (pc := 76) dX8_newBidder_76 rfl e76 ?_
    refine ym_aload_n (pc := 77) 0 dX8_newBidder_77 rfl rfl ?_
    refine ym_dup (pc := 78) dX8_newBidder_78 (ym_c1 w0) ?_
    obtain ⟨v79, e79, hf⟩ := Option.bind_eq_some_iff.mp hf
    refine ym_get (pc := 79) dX8_newBidder_79 rfl (by decide) iX8 (k := 0) (by decide) wd_845 (ym_gI_v e79) ?_
    refine ym_iconst (pc := 82) (v := 1) dX8_newBidder_82 (by decide) ?_
    refine ym_iadd (pc := 83) dX8_newBidder_83 ?_
    obtain ⟨h84, e84, hf⟩ := Option.bind_eq_some_iff.mp hf
    refine ym_put (pc := 84) (h1 := h84) dX8_newBidder_84 rfl (by decide) iX8 tyX8 tyX8_ok nmX8 (k := 0) (by decide) wd_845 rfl (tyX8_ok 0 (by decide)) rfl rfl e84 ?_
    refine ym_aload_n (pc := 87) 0 dX8_newBidder_87 rfl rfl ?_
    obtain ⟨v88, e88, hf⟩ := Option.bind_eq_some_iff.mp hf
    refine ym_get (pc := 88) dX8_newBidder_88 rfl (by decide) iX8 (k := 0) (by decide) wd_845 (ym_gI_v e88) ?_
    refine ym_i2l (pc := 91) dX8_newBidder_91 ?_
    refine ym_lconst (pc := 92) (v := 1) dX8_newBidder_92 (by decide) ?_
    refine ym_lsub (pc := 93) dX8_newBidder_93 ?_
    cases hf
    exact ym_lret (pc := 94) dX8_newBidder_94 rfl
def fn_X8_newBidder (N : Nat) (a0 : Option Nat) (a1 : Int32) (a2 : Int64) (h : ym_H) : Option (Int64 × ym_H) :=
  if a1 < 1 then
    some ((-1), h)
  else
    if 4 < a1 then
      some ((-1), h)
    else
      if a1 = 3 then
        if a2 < 0 then
          some ((-1), h)
        else
          if a2 ≤ 1000000000000 then
            bl_X8_newBidder_33 N a0 a1 a2 h
          else
            some ((-1), h)
      else
        bl_X8_newBidder_33 N a0 a1 a2 h
set_option maxRecDepth 20000 in
set_option maxHeartbeats 4000000 in
theorem ok_X8_newBidder {D : ym_D} {b0 : Nat} {N : Nat} {a0 : Option Nat} {a1 : Int32} {a2 : Int64} {h h' : ym_H} {r : Int64} (hf : fn_X8_newBidder N a0 a1 a2 h = some (r, h')) : ym_M D b0 g_X8_newBidder 1 [va_rf a0, .int a1, .long a2] h (some (.long r)) h' := by
  unfold fn_X8_newBidder at hf
  refine ym_meth (lv := [(0, va_rf a0), (1, .int a1), (2, .long a2)]) (by decide) (by simp [lg_sl, ym_c1, ym_cI, ym_cL, g_X8_newBidder]) (by simp [lv_args, ym_c1, ym_cI, ym_cL]) ?_
  refine ym_iload_n (pc := 0) 1 dX8_newBidder_0 rfl rfl ?_
  refine ym_iconst (pc := 1) (v := 1) dX8_newBidder_1 (by decide) ?_
  by_cases c2 : a1 < 1
  · rw [if_pos c2] at hf
    refine ym_icmp_lt_y (pc := 2) (tgt := 29) dX8_newBidder_2 (by decide) c2 ?_
    refine ym_ldc2 (pc := 29) dX8_newBidder_29 wd_1038 ?_
    cases hf
    exact ym_lret (pc := 32) dX8_newBidder_32 rfl
  · rw [if_neg c2] at hf
    refine ym_icmp_lt_n (pc := 2) (tgt := 29) dX8_newBidder_2 (by decide) c2 ?_
    refine ym_iload_n (pc := 5) 1 dX8_newBidder_5 rfl rfl ?_
    refine ym_iconst (pc := 6) (v := 4) dX8_newBidder_6 (by decide) ?_
    by_cases c7 : 4 < a1
    · rw [if_pos c7] at hf
      refine ym_icmp_gt_y (pc := 7) (tgt := 29) dX8_newBidder_7 (by decide) c7 ?_
      refine ym_ldc2 (pc := 29) dX8_newBidder_29 wd_1038 ?_
      cases hf
      exact ym_lret (pc := 32) dX8_newBidder_32 rfl
    · rw [if_neg c7] at hf
      refine ym_icmp_gt_n (pc := 7) (tgt := 29) dX8_newBidder_7 (by decide) c7 ?_
      refine ym_iload_n (pc := 10) 1 dX8_newBidder_10 rfl rfl ?_
      refine ym_iconst (pc := 11) (v := 3) dX8_newBidder_11 (by decide) ?_
      by_cases c12 : a1 = 3
      · rw [if_pos c12] at hf
        refine ym_icmp_ne_y (pc := 12) (tgt := 33) dX8_newBidder_12 (by decide) c12 ?_
        refine ym_lload_n (pc := 15) 2 dX8_newBidder_15 rfl rfl ?_
        refine ym_lconst (pc := 16) (v := 0) dX8_newBidder_16 (by decide) ?_
        by_cases c17 : a2 < 0
        · rw [if_pos c17] at hf
          refine ym_lcmp_lt_y (pc := 17) (tgt := 29) dX8_newBidder_17 dX8_newBidder_18 (by decide) c17 ?_
          refine ym_ldc2 (pc := 29) dX8_newBidder_29 wd_1038 ?_
          cases hf
          exact ym_lret (pc := 32) dX8_newBidder_32 rfl
        · rw [if_neg c17] at hf
          refine ym_lcmp_lt_n (pc := 17) (tgt := 29) dX8_newBidder_17 dX8_newBidder_18 (by decide) c17 ?_
          refine ym_lload_n (pc := 21) 2 dX8_newBidder_21 rfl rfl ?_
          refine ym_ldc2 (pc := 22) dX8_newBidder_22 wd_1037 ?_
          by_cases c25 : a2 ≤ 1000000000000
          · rw [if_pos c25] at hf
            refine ym_lcmp_le_y (pc := 25) (tgt := 33) dX8_newBidder_25 dX8_newBidder_26 (by decide) c25 ?_
            exact ym_sub [0, 1, 2] rfl (ob_X8_newBidder_33 hf)
          · rw [if_neg c25] at hf
            refine ym_lcmp_le_n (pc := 25) (tgt := 33) dX8_newBidder_25 dX8_newBidder_26 (by decide) c25 ?_
            refine ym_ldc2 (pc := 29) dX8_newBidder_29 wd_1038 ?_
            cases hf
            exact ym_lret (pc := 32) dX8_newBidder_32 rfl
      · rw [if_neg c12] at hf
        refine ym_icmp_ne_n (pc := 12) (tgt := 33) dX8_newBidder_12 (by decide) c12 ?_
        exact ym_sub [0, 1, 2] rfl (ob_X8_newBidder_33 hf)
theorem dX8_isSum_0 : decode cX8_isSum 0 = .ok (.lload_n 0, 1) := by decide +kernel
theorem dX8_isSum_1 : decode cX8_isSum 1 = .ok (.lconst 1, 1) := by decide +kernel
theorem dX8_isSum_2 : decode cX8_isSum 2 = .ok (.lcmp, 1) := by decide +kernel
theorem dX8_isSum_3 : decode cX8_isSum 3 = .ok (.ifCond .lt 15, 3) := by decide +kernel
theorem dX8_isSum_6 : decode cX8_isSum 6 = .ok (.lload_n 0, 1) := by decide +kernel
theorem dX8_isSum_7 : decode cX8_isSum 7 = .ok (.ldc2_w 292, 3) := by decide +kernel
theorem dX8_isSum_10 : decode cX8_isSum 10 = .ok (.lcmp, 1) := by decide +kernel
theorem dX8_isSum_11 : decode cX8_isSum 11 = .ok (.ifCond .gt 7, 3) := by decide +kernel
theorem dX8_isSum_14 : decode cX8_isSum 14 = .ok (.iconst 1, 1) := by decide +kernel
theorem dX8_isSum_15 : decode cX8_isSum 15 = .ok (.goto 4, 3) := by decide +kernel
theorem dX8_isSum_18 : decode cX8_isSum 18 = .ok (.iconst 0, 1) := by decide +kernel
theorem dX8_isSum_19 : decode cX8_isSum 19 = .ok (.ireturn, 1) := by decide +kernel
def fn_X8_isSum (N : Nat) (a0 : Int64) (h : ym_H) : Option (Int32 × ym_H) :=
  if a0 < 1 then
    some (0, h)
  else
    if 1000000000000 < a0 then
      some (0, h)
    else
      some (1, h)
set_option maxRecDepth 20000 in
set_option maxHeartbeats 4000000 in
theorem ok_X8_isSum {D : ym_D} {b0 : Nat} {N : Nat} {a0 : Int64} {h h' : ym_H} {r : Int32} (hf : fn_X8_isSum N a0 h = some (r, h')) : ym_M D b0 g_X8_isSum 1 [.long a0] h (some (.int r)) h' := by
  unfold fn_X8_isSum at hf
  refine ym_meth (lv := [(0, .long a0)]) (by decide) (by simp [lg_sl, ym_c1, ym_cI, ym_cL, g_X8_isSum]) (by simp [lv_args, ym_c1, ym_cI, ym_cL]) ?_
  refine ym_lload_n (pc := 0) 0 dX8_isSum_0 rfl rfl ?_
  refine ym_lconst (pc := 1) (v := 1) dX8_isSum_1 (by decide) ?_
  by_cases c2 : a0 < 1
  · rw [if_pos c2] at hf
    refine ym_lcmp_lt_y (pc := 2) (tgt := 18) dX8_isSum_2 dX8_isSum_3 (by decide) c2 ?_
    refine ym_iconst (pc := 18) (v := 0) dX8_isSum_18 (by decide) ?_
    cases hf
    exact ym_zret (pc := 19) dX8_isSum_19 rfl rfl
  · rw [if_neg c2] at hf
    refine ym_lcmp_lt_n (pc := 2) (tgt := 18) dX8_isSum_2 dX8_isSum_3 (by decide) c2 ?_
    refine ym_lload_n (pc := 6) 0 dX8_isSum_6 rfl rfl ?_
    refine ym_ldc2 (pc := 7) dX8_isSum_7 wd_1037 ?_
    by_cases c10 : 1000000000000 < a0
    · rw [if_pos c10] at hf
      refine ym_lcmp_gt_y (pc := 10) (tgt := 18) dX8_isSum_10 dX8_isSum_11 (by decide) c10 ?_
      refine ym_iconst (pc := 18) (v := 0) dX8_isSum_18 (by decide) ?_
      cases hf
      exact ym_zret (pc := 19) dX8_isSum_19 rfl rfl
    · rw [if_neg c10] at hf
      refine ym_lcmp_gt_n (pc := 10) (tgt := 18) dX8_isSum_10 dX8_isSum_11 (by decide) c10 ?_
      refine ym_iconst (pc := 14) (v := 1) dX8_isSum_14 (by decide) ?_
      refine ym_goto (pc := 15) (tgt := 19) dX8_isSum_15 (by decide) ?_
      cases hf
      exact ym_zret (pc := 19) dX8_isSum_19 rfl rfl
theorem dX8_renew_0 : decode cX8_renew 0 = .ok (.aload_n 0, 1) := by decide +kernel
theorem dX8_renew_1 : decode cX8_renew 1 = .ok (.getfield 23, 3) := by decide +kernel
theorem dX8_renew_4 : decode cX8_renew 4 = .ok (.iload_n 1, 1) := by decide +kernel
theorem dX8_renew_5 : decode cX8_renew 5 = .ok (.lload_n 2, 1) := by decide +kernel
theorem dX8_renew_6 : decode cX8_renew 6 = .ok (.lastore, 1) := by decide +kernel
theorem dX8_renew_7 : decode cX8_renew 7 = .ok (.aload_n 0, 1) := by decide +kernel
theorem dX8_renew_8 : decode cX8_renew 8 = .ok (.getfield 32, 3) := by decide +kernel
theorem dX8_renew_11 : decode cX8_renew 11 = .ok (.iload_n 1, 1) := by decide +kernel
theorem dX8_renew_12 : decode cX8_renew 12 = .ok (.iconst 0, 1) := by decide +kernel
theorem dX8_renew_13 : decode cX8_renew 13 = .ok (.iastore, 1) := by decide +kernel
theorem dX8_renew_14 : decode cX8_renew 14 = .ok (.aload_n 0, 1) := by decide +kernel
theorem dX8_renew_15 : decode cX8_renew 15 = .ok (.getfield 35, 3) := by decide +kernel
theorem dX8_renew_18 : decode cX8_renew 18 = .ok (.iload_n 1, 1) := by decide +kernel
theorem dX8_renew_19 : decode cX8_renew 19 = .ok (.lconst 0, 1) := by decide +kernel
theorem dX8_renew_20 : decode cX8_renew 20 = .ok (.lastore, 1) := by decide +kernel
theorem dX8_renew_21 : decode cX8_renew 21 = .ok (.aload_n 0, 1) := by decide +kernel
theorem dX8_renew_22 : decode cX8_renew 22 = .ok (.getfield 44, 3) := by decide +kernel
theorem dX8_renew_25 : decode cX8_renew 25 = .ok (.iload_n 1, 1) := by decide +kernel
theorem dX8_renew_26 : decode cX8_renew 26 = .ok (.iconst (-1), 1) := by decide +kernel
theorem dX8_renew_27 : decode cX8_renew 27 = .ok (.iastore, 1) := by decide +kernel
theorem dX8_renew_28 : decode cX8_renew 28 = .ok (.aload_n 0, 1) := by decide +kernel
theorem dX8_renew_29 : decode cX8_renew 29 = .ok (.getfield 47, 3) := by decide +kernel
theorem dX8_renew_32 : decode cX8_renew 32 = .ok (.iload_n 1, 1) := by decide +kernel
theorem dX8_renew_33 : decode cX8_renew 33 = .ok (.iconst (-1), 1) := by decide +kernel
theorem dX8_renew_34 : decode cX8_renew 34 = .ok (.iastore, 1) := by decide +kernel
theorem dX8_renew_35 : decode cX8_renew 35 = .ok (.aload_n 0, 1) := by decide +kernel
theorem dX8_renew_36 : decode cX8_renew 36 = .ok (.getfield 59, 3) := by decide +kernel
theorem dX8_renew_39 : decode cX8_renew 39 = .ok (.iload_n 1, 1) := by decide +kernel
theorem dX8_renew_40 : decode cX8_renew 40 = .ok (.iconst 0, 1) := by decide +kernel
theorem dX8_renew_41 : decode cX8_renew 41 = .ok (.iastore, 1) := by decide +kernel
theorem dX8_renew_42 : decode cX8_renew 42 = .ok (.aload_n 0, 1) := by decide +kernel
theorem dX8_renew_43 : decode cX8_renew 43 = .ok (.getfield 71, 3) := by decide +kernel
theorem dX8_renew_46 : decode cX8_renew 46 = .ok (.iload_n 1, 1) := by decide +kernel
theorem dX8_renew_47 : decode cX8_renew 47 = .ok (.iconst 0, 1) := by decide +kernel
theorem dX8_renew_48 : decode cX8_renew 48 = .ok (.iastore, 1) := by decide +kernel
theorem dX8_renew_49 : decode cX8_renew 49 = .ok (.aload_n 0, 1) := by decide +kernel
theorem dX8_renew_50 : decode cX8_renew 50 = .ok (.getfield 77, 3) := by decide +kernel
theorem dX8_renew_53 : decode cX8_renew 53 = .ok (.iload_n 1, 1) := by decide +kernel
theorem dX8_renew_54 : decode cX8_renew 54 = .ok (.iconst 0, 1) := by decide +kernel
theorem dX8_renew_55 : decode cX8_renew 55 = .ok (.bastore, 1) := by decide +kernel
theorem dX8_renew_56 : decode cX8_renew 56 = .ok (.aload_n 0, 1) := by decide +kernel
theorem dX8_renew_57 : decode cX8_renew 57 = .ok (.getfield 87, 3) := by decide +kernel
theorem dX8_renew_60 : decode cX8_renew 60 = .ok (.iload_n 1, 1) := by decide +kernel
theorem dX8_renew_61 : decode cX8_renew 61 = .ok (.iconst 0, 1) := by decide +kernel
theorem dX8_renew_62 : decode cX8_renew 62 = .ok (.iastore, 1) := by decide +kernel
theorem dX8_renew_63 : decode cX8_renew 63 = .ok (.aload_n 0, 1) := by decide +kernel
theorem dX8_renew_64 : decode cX8_renew 64 = .ok (.getfield 90, 3) := by decide +kernel
theorem dX8_renew_67 : decode cX8_renew 67 = .ok (.iload_n 1, 1) := by decide +kernel
theorem dX8_renew_68 : decode cX8_renew 68 = .ok (.iconst 0, 1) := by decide +kernel
theorem dX8_renew_69 : decode cX8_renew 69 = .ok (.iastore, 1) := by decide +kernel
theorem dX8_renew_70 : decode cX8_renew 70 = .ok (.return_, 1) := by decide +kernel
def fn_X8_renew (N : Nat) (a0 : Option Nat) (a1 : Int32) (a2 : Int64) (h : ym_H) : Option (Unit × ym_H) :=
  Option.bind (ym_gR h a0 8 6) fun v1 =>
  Option.bind (ym_as h v1 1 a1 (.long a2)) fun h6 =>
  Option.bind (ym_gR h6 a0 8 9) fun v8 =>
  Option.bind (ym_as h6 v8 0 a1 (.int 0)) fun h13 =>
  Option.bind (ym_gR h13 a0 8 10) fun v15 =>
  Option.bind (ym_as h13 v15 1 a1 (.long 0)) fun h20 =>
  Option.bind (ym_gR h20 a0 8 13) fun v22 =>
  Option.bind (ym_as h20 v22 0 a1 (.int (-1))) fun h27 =>
  Option.bind (ym_gR h27 a0 8 14) fun v29 =>
  Option.bind (ym_as h27 v29 0 a1 (.int (-1))) fun h34 =>
  Option.bind (ym_gR h34 a0 8 19) fun v36 =>
  Option.bind (ym_as h34 v36 0 a1 (.int 0)) fun h41 =>
  Option.bind (ym_gR h41 a0 8 23) fun v43 =>
  Option.bind (ym_as h41 v43 0 a1 (.int 0)) fun h48 =>
  Option.bind (ym_gR h48 a0 8 25) fun v50 =>
  Option.bind (ym_as h48 v50 2 a1 (.int 0)) fun h55 =>
  Option.bind (ym_gR h55 a0 8 28) fun v57 =>
  Option.bind (ym_as h55 v57 0 a1 (.int 0)) fun h62 =>
  Option.bind (ym_gR h62 a0 8 29) fun v64 =>
  Option.bind (ym_as h62 v64 0 a1 (.int 0)) fun h69 =>
  some ((), h69)
set_option maxRecDepth 20000 in
set_option maxHeartbeats 4000000 in
theorem ok_X8_renew {D : ym_D} {b0 : Nat} {N : Nat} {a0 : Option Nat} {a1 : Int32} {a2 : Int64} {h h' : ym_H} {r : Unit} (hf : fn_X8_renew N a0 a1 a2 h = some (r, h')) : ym_M D b0 g_X8_renew 1 [va_rf a0, .int a1, .long a2] h none h' := by
  unfold fn_X8_renew at hf
  refine ym_meth (lv := [(0, va_rf a0), (1, .int a1), (2, .long a2)]) (by decide) (by simp [lg_sl, ym_c1, ym_cI, ym_cL, g_X8_renew]) (by simp [lv_args, ym_c1, ym_cI, ym_cL]) ?_
  refine ym_aload_n (pc := 0) 0 dX8_renew_0 rfl rfl ?_
  obtain ⟨v1, e1, hf⟩ := Option.bind_eq_some_iff.mp hf
  refine ym_get (pc := 1) dX8_renew_1 rfl (by decide) iX8 (k := 6) (by decide) wd_851 (ym_gR_v e1) ?_
  refine ym_iload_n (pc := 4) 1 dX8_renew_4 rfl rfl ?_
  refine ym_lload_n (pc := 5) 2 dX8_renew_5 rfl rfl ?_
  obtain ⟨h6, e6, hf⟩ := Option.bind_eq_some_iff.mp hf
  refine ym_last (pc := 6) dX8_renew_6 rfl e6 ?_
  refine ym_aload_n (pc := 7) 0 dX8_renew_7 rfl rfl ?_
  obtain ⟨v8, e8, hf⟩ := Option.bind_eq_some_iff.mp hf
  refine ym_get (pc := 8) dX8_renew_8 rfl (by decide) iX8 (k := 9) (by decide) wd_854 (ym_gR_v e8) ?_
  refine ym_iload_n (pc := 11) 1 dX8_renew_11 rfl rfl ?_
  refine ym_iconst (pc := 12) (v := 0) dX8_renew_12 (by decide) ?_
  obtain ⟨h13, e13, hf⟩ := Option.bind_eq_some_iff.mp hf
  refine ym_iast (pc := 13) dX8_renew_13 rfl e13 ?_
  refine ym_aload_n (pc := 14) 0 dX8_renew_14 rfl rfl ?_
  obtain ⟨v15, e15, hf⟩ := Option.bind_eq_some_iff.mp hf
  refine ym_get (pc := 15) dX8_renew_15 rfl (by decide) iX8 (k := 10) (by decide) wd_855 (ym_gR_v e15) ?_
  refine ym_iload_n (pc := 18) 1 dX8_renew_18 rfl rfl ?_
  refine ym_lconst (pc := 19) (v := 0) dX8_renew_19 (by decide) ?_
  obtain ⟨h20, e20, hf⟩ := Option.bind_eq_some_iff.mp hf
  refine ym_last (pc := 20) dX8_renew_20 rfl e20 ?_
  refine ym_aload_n (pc := 21) 0 dX8_renew_21 rfl rfl ?_
  obtain ⟨v22, e22, hf⟩ := Option.bind_eq_some_iff.mp hf
  refine ym_get (pc := 22) dX8_renew_22 rfl (by decide) iX8 (k := 13) (by decide) wd_858 (ym_gR_v e22) ?_
  refine ym_iload_n (pc := 25) 1 dX8_renew_25 rfl rfl ?_
  refine ym_iconst (pc := 26) (v := (-1)) dX8_renew_26 (by decide) ?_
  obtain ⟨h27, e27, hf⟩ := Option.bind_eq_some_iff.mp hf
  refine ym_iast (pc := 27) dX8_renew_27 rfl e27 ?_
  refine ym_aload_n (pc := 28) 0 dX8_renew_28 rfl rfl ?_
  obtain ⟨v29, e29, hf⟩ := Option.bind_eq_some_iff.mp hf
  refine ym_get (pc := 29) dX8_renew_29 rfl (by decide) iX8 (k := 14) (by decide) wd_859 (ym_gR_v e29) ?_
  refine ym_iload_n (pc := 32) 1 dX8_renew_32 rfl rfl ?_
  refine ym_iconst (pc := 33) (v := (-1)) dX8_renew_33 (by decide) ?_
  obtain ⟨h34, e34, hf⟩ := Option.bind_eq_some_iff.mp hf
  refine ym_iast (pc := 34) dX8_renew_34 rfl e34 ?_
  refine ym_aload_n (pc := 35) 0 dX8_renew_35 rfl rfl ?_
  obtain ⟨v36, e36, hf⟩ := Option.bind_eq_some_iff.mp hf
  refine ym_get (pc := 36) dX8_renew_36 rfl (by decide) iX8 (k := 19) (by decide) wd_864 (ym_gR_v e36) ?_
  refine ym_iload_n (pc := 39) 1 dX8_renew_39 rfl rfl ?_
  refine ym_iconst (pc := 40) (v := 0) dX8_renew_40 (by decide) ?_
  obtain ⟨h41, e41, hf⟩ := Option.bind_eq_some_iff.mp hf
  refine ym_iast (pc := 41) dX8_renew_41 rfl e41 ?_
  refine ym_aload_n (pc := 42) 0 dX8_renew_42 rfl rfl ?_
  obtain ⟨v43, e43, hf⟩ := Option.bind_eq_some_iff.mp hf
  refine ym_get (pc := 43) dX8_renew_43 rfl (by decide) iX8 (k := 23) (by decide) wd_868 (ym_gR_v e43) ?_
  refine ym_iload_n (pc := 46) 1 dX8_renew_46 rfl rfl ?_
  refine ym_iconst (pc := 47) (v := 0) dX8_renew_47 (by decide) ?_
  obtain ⟨h48, e48, hf⟩ := Option.bind_eq_some_iff.mp hf
  refine ym_iast (pc := 48) dX8_renew_48 rfl e48 ?_
  refine ym_aload_n (pc := 49) 0 dX8_renew_49 rfl rfl ?_
  obtain ⟨v50, e50, hf⟩ := Option.bind_eq_some_iff.mp hf
  refine ym_get (pc := 50) dX8_renew_50 rfl (by decide) iX8 (k := 25) (by decide) wd_870 (ym_gR_v e50) ?_
  refine ym_iload_n (pc := 53) 1 dX8_renew_53 rfl rfl ?_
  refine ym_iconst (pc := 54) (v := 0) dX8_renew_54 (by decide) ?_
  obtain ⟨h55, e55, hf⟩ := Option.bind_eq_some_iff.mp hf
  refine ym_zast (pc := 55) dX8_renew_55 rfl rfl e55 ?_
  refine ym_aload_n (pc := 56) 0 dX8_renew_56 rfl rfl ?_
  obtain ⟨v57, e57, hf⟩ := Option.bind_eq_some_iff.mp hf
  refine ym_get (pc := 57) dX8_renew_57 rfl (by decide) iX8 (k := 28) (by decide) wd_873 (ym_gR_v e57) ?_
  refine ym_iload_n (pc := 60) 1 dX8_renew_60 rfl rfl ?_
  refine ym_iconst (pc := 61) (v := 0) dX8_renew_61 (by decide) ?_
  obtain ⟨h62, e62, hf⟩ := Option.bind_eq_some_iff.mp hf
  refine ym_iast (pc := 62) dX8_renew_62 rfl e62 ?_
  refine ym_aload_n (pc := 63) 0 dX8_renew_63 rfl rfl ?_
  obtain ⟨v64, e64, hf⟩ := Option.bind_eq_some_iff.mp hf
  refine ym_get (pc := 64) dX8_renew_64 rfl (by decide) iX8 (k := 29) (by decide) wd_874 (ym_gR_v e64) ?_
  refine ym_iload_n (pc := 67) 1 dX8_renew_67 rfl rfl ?_
  refine ym_iconst (pc := 68) (v := 0) dX8_renew_68 (by decide) ?_
  obtain ⟨h69, e69, hf⟩ := Option.bind_eq_some_iff.mp hf
  refine ym_iast (pc := 69) dX8_renew_69 rfl e69 ?_
  cases hf
  exact ym_vret (pc := 70) dX8_renew_70 rfl
theorem dX8_newLot_0 : decode cX8_newLot 0 = .ok (.iload_n 1, 1) := by decide +kernel
theorem dX8_newLot_1 : decode cX8_newLot 1 = .ok (.iconst 1, 1) := by decide +kernel
theorem dX8_newLot_2 : decode cX8_newLot 2 = .ok (.if_icmp .lt 42, 3) := by decide +kernel
theorem dX8_newLot_5 : decode cX8_newLot 5 = .ok (.iload_n 1, 1) := by decide +kernel
theorem dX8_newLot_6 : decode cX8_newLot 6 = .ok (.iconst 5, 1) := by decide +kernel
theorem dX8_newLot_7 : decode cX8_newLot 7 = .ok (.if_icmp .gt 37, 3) := by decide +kernel
theorem dX8_newLot_10 : decode cX8_newLot 10 = .ok (.lload_n 2, 1) := by decide +kernel
theorem dX8_newLot_11 : decode cX8_newLot 11 = .ok (.invokestatic 335, 3) := by decide +kernel
theorem dX8_newLot_14 : decode cX8_newLot 14 = .ok (.ifCond .eq 30, 3) := by decide +kernel
theorem dX8_newLot_17 : decode cX8_newLot 17 = .ok (.lload 4, 2) := by decide +kernel
theorem dX8_newLot_19 : decode cX8_newLot 19 = .ok (.lconst 0, 1) := by decide +kernel
theorem dX8_newLot_20 : decode cX8_newLot 20 = .ok (.lcmp, 1) := by decide +kernel
theorem dX8_newLot_21 : decode cX8_newLot 21 = .ok (.ifCond .eq 11, 3) := by decide +kernel
theorem dX8_newLot_24 : decode cX8_newLot 24 = .ok (.lload 4, 2) := by decide +kernel
theorem dX8_newLot_26 : decode cX8_newLot 26 = .ok (.invokestatic 335, 3) := by decide +kernel
theorem dX8_newLot_29 : decode cX8_newLot 29 = .ok (.ifCond .eq 15, 3) := by decide +kernel
theorem dX8_newLot_32 : decode cX8_newLot 32 = .ok (.iload_n 1, 1) := by decide +kernel
theorem dX8_newLot_33 : decode cX8_newLot 33 = .ok (.iconst 5, 1) := by decide +kernel
theorem dX8_newLot_34 : decode cX8_newLot 34 = .ok (.if_icmp .ne 14, 3) := by decide +kernel
theorem dX8_newLot_37 : decode cX8_newLot 37 = .ok (.lload 4, 2) := by decide +kernel
theorem dX8_newLot_39 : decode cX8_newLot 39 = .ok (.lload_n 2, 1) := by decide +kernel
theorem dX8_newLot_40 : decode cX8_newLot 40 = .ok (.lcmp, 1) := by decide +kernel
theorem dX8_newLot_41 : decode cX8_newLot 41 = .ok (.ifCond .le 7, 3) := by decide +kernel
theorem dX8_newLot_44 : decode cX8_newLot 44 = .ok (.ldc2_w 331, 3) := by decide +kernel
theorem dX8_newLot_47 : decode cX8_newLot 47 = .ok (.lreturn, 1) := by decide +kernel
theorem dX8_newLot_48 : decode cX8_newLot 48 = .ok (.aload_n 0, 1) := by decide +kernel
theorem dX8_newLot_49 : decode cX8_newLot 49 = .ok (.getfield 188, 3) := by decide +kernel
theorem dX8_newLot_52 : decode cX8_newLot 52 = .ok (.sipush 400, 3) := by decide +kernel
theorem dX8_newLot_55 : decode cX8_newLot 55 = .ok (.if_icmp .ne 7, 3) := by decide +kernel
theorem dX8_newLot_58 : decode cX8_newLot 58 = .ok (.ldc2_w 333, 3) := by decide +kernel
theorem dX8_newLot_61 : decode cX8_newLot 61 = .ok (.lreturn, 1) := by decide +kernel
theorem dX8_newLot_62 : decode cX8_newLot 62 = .ok (.aload_n 0, 1) := by decide +kernel
theorem dX8_newLot_63 : decode cX8_newLot 63 = .ok (.getfield 188, 3) := by decide +kernel
theorem dX8_newLot_66 : decode cX8_newLot 66 = .ok (.istore 6, 2) := by decide +kernel
theorem dX8_newLot_68 : decode cX8_newLot 68 = .ok (.aload_n 0, 1) := by decide +kernel
theorem dX8_newLot_69 : decode cX8_newLot 69 = .ok (.getfield 20, 3) := by decide +kernel
theorem dX8_newLot_72 : decode cX8_newLot 72 = .ok (.iload 6, 2) := by decide +kernel
theorem dX8_newLot_74 : decode cX8_newLot 74 = .ok (.iload_n 1, 1) := by decide +kernel
theorem dX8_newLot_75 : decode cX8_newLot 75 = .ok (.iastore, 1) := by decide +kernel
theorem dX8_newLot_76 : decode cX8_newLot 76 = .ok (.aload_n 0, 1) := by decide +kernel
theorem dX8_newLot_77 : decode cX8_newLot 77 = .ok (.getfield 26, 3) := by decide +kernel
theorem dX8_newLot_80 : decode cX8_newLot 80 = .ok (.iload 6, 2) := by decide +kernel
theorem dX8_newLot_82 : decode cX8_newLot 82 = .ok (.lload 4, 2) := by decide +kernel
theorem dX8_newLot_84 : decode cX8_newLot 84 = .ok (.lastore, 1) := by decide +kernel
theorem dX8_newLot_85 : decode cX8_newLot 85 = .ok (.aload_n 0, 1) := by decide +kernel
theorem dX8_newLot_86 : decode cX8_newLot 86 = .ok (.getfield 29, 3) := by decide +kernel
theorem dX8_newLot_89 : decode cX8_newLot 89 = .ok (.iload 6, 2) := by decide +kernel
theorem dX8_newLot_91 : decode cX8_newLot 91 = .ok (.iconst 0, 1) := by decide +kernel
theorem dX8_newLot_92 : decode cX8_newLot 92 = .ok (.iastore, 1) := by decide +kernel
theorem dX8_newLot_93 : decode cX8_newLot 93 = .ok (.aload_n 0, 1) := by decide +kernel
theorem dX8_newLot_94 : decode cX8_newLot 94 = .ok (.getfield 41, 3) := by decide +kernel
theorem dX8_newLot_97 : decode cX8_newLot 97 = .ok (.iload 6, 2) := by decide +kernel
theorem dX8_newLot_99 : decode cX8_newLot 99 = .ok (.iconst 0, 1) := by decide +kernel
theorem dX8_newLot_100 : decode cX8_newLot 100 = .ok (.iastore, 1) := by decide +kernel
theorem dX8_newLot_101 : decode cX8_newLot 101 = .ok (.aload_n 0, 1) := by decide +kernel
theorem dX8_newLot_102 : decode cX8_newLot 102 = .ok (.getfield 93, 3) := by decide +kernel
theorem dX8_newLot_105 : decode cX8_newLot 105 = .ok (.iload 6, 2) := by decide +kernel
theorem dX8_newLot_107 : decode cX8_newLot 107 = .ok (.iconst (-1), 1) := by decide +kernel
theorem dX8_newLot_108 : decode cX8_newLot 108 = .ok (.iastore, 1) := by decide +kernel
theorem dX8_newLot_109 : decode cX8_newLot 109 = .ok (.aload_n 0, 1) := by decide +kernel
theorem dX8_newLot_110 : decode cX8_newLot 110 = .ok (.dup, 1) := by decide +kernel
theorem dX8_newLot_111 : decode cX8_newLot 111 = .ok (.getfield 188, 3) := by decide +kernel
theorem dX8_newLot_114 : decode cX8_newLot 114 = .ok (.iconst 1, 1) := by decide +kernel
theorem dX8_newLot_115 : decode cX8_newLot 115 = .ok (.iadd, 1) := by decide +kernel
theorem dX8_newLot_116 : decode cX8_newLot 116 = .ok (.putfield 188, 3) := by decide +kernel
theorem dX8_newLot_119 : decode cX8_newLot 119 = .ok (.aload_n 0, 1) := by decide +kernel
theorem dX8_newLot_120 : decode cX8_newLot 120 = .ok (.iload 6, 2) := by decide +kernel
theorem dX8_newLot_122 : decode cX8_newLot 122 = .ok (.lload_n 2, 1) := by decide +kernel
theorem dX8_newLot_123 : decode cX8_newLot 123 = .ok (.invokevirtual 339, 3) := by decide +kernel
theorem dX8_newLot_126 : decode cX8_newLot 126 = .ok (.iload 6, 2) := by decide +kernel
theorem dX8_newLot_128 : decode cX8_newLot 128 = .ok (.i2l, 1) := by decide +kernel
theorem dX8_newLot_129 : decode cX8_newLot 129 = .ok (.lreturn, 1) := by decide +kernel
theorem sc_X8_newLot_X8_isSum : ym_site g_X8_newLot g_X8_isSum 2 1 1 := ⟨by decide, by decide, wd_1046, wd_83, by decide +kernel⟩
theorem sc_X8_newLot_X8_renew : ym_site g_X8_newLot g_X8_renew 2 1 2 := ⟨by decide, by decide, wd_1050, wd_83, by decide +kernel⟩
def bl_X8_newLot_48 (N : Nat) (w0 : Option Nat) (w1 : Int32) (w2 : Int64) (w4 : Int64) (h : ym_H) : Option (Int64 × ym_H) :=
  Option.bind (ym_gI h w0 8 4) fun v49 =>
  if v49 = 400 then
    some ((-12), h)
  else
    Option.bind (ym_gI h w0 8 4) fun v63 =>
    Option.bind (ym_gR h w0 8 5) fun v69 =>
    Option.bind (ym_as h v69 0 v63 (.int w1)) fun h75 =>
    Option.bind (ym_gR h75 w0 8 7) fun v77 =>
    Option.bind (ym_as h75 v77 1 v63 (.long w4)) fun h84 =>
    Option.bind (ym_gR h84 w0 8 8) fun v86 =>
    Option.bind (ym_as h84 v86 0 v63 (.int 0)) fun h92 =>
    Option.bind (ym_gR h92 w0 8 12) fun v94 =>
    Option.bind (ym_as h92 v94 0 v63 (.int 0)) fun h100 =>
    Option.bind (ym_gR h100 w0 8 30) fun v102 =>
    Option.bind (ym_as h100 v102 0 v63 (.int (-1))) fun h108 =>
    Option.bind (ym_gI h108 w0 8 4) fun v111 =>
    Option.bind (ym_pf h108 w0 8 4 (.int (v111 + 1))) fun h116 =>
    Option.bind (ym_ob h116 w0 8) fun o123 =>
    Option.bind (fn_X8_renew N w0 v63 w2 h116) fun q123 =>
    some ((Int32.toInt64 v63), q123.2)
set_option maxRecDepth 20000 in
set_option maxHeartbeats 4000000 in
theorem ob_X8_newLot_48 {D : ym_D} {b0 : Nat} {N : Nat} {w0 : Option Nat} {w1 : Int32} {w2 : Int64} {w4 : Int64} {h h' : ym_H} {r : Int64} (hf : bl_X8_newLot_48 N w0 w1 w2 w4 h = some (r, h')) : ym_Y D b0 g_X8_newLot 2 48 [(0, va_rf w0), (1, .int w1), (2, .long w2), (4, .long w4)] [] h (some (.long r)) h' := by
  unfold bl_X8_newLot_48 at hf
  refine ym_aload_n (pc := 48) 0 dX8_newLot_48 rfl rfl ?_
  obtain ⟨v49, e49, hf⟩ := Option.bind_eq_some_iff.mp hf
  refine ym_get (pc := 49) dX8_newLot_49 rfl (by decide) iX8 (k := 4) (by decide) wd_849 (ym_gI_v e49) ?_
  refine ym_sipush (pc := 52) (v := 400) dX8_newLot_52 (by decide) ?_
  by_cases c55 : v49 = 400
  · rw [if_pos c55] at hf
    refine ym_icmp_ne_y (pc := 55) (tgt := 62) dX8_newLot_55 (by decide) c55 ?_
    refine ym_ldc2 (pc := 58) dX8_newLot_58 wd_1039 ?_
    cases hf
    exact ym_lret (pc := 61) dX8_newLot_61 rfl
  · rw [if_neg c55] at hf
    refine ym_icmp_ne_n (pc := 55) (tgt := 62) dX8_newLot_55 (by decide) c55 ?_
    refine ym_aload_n (pc := 62) 0 dX8_newLot_62 rfl rfl ?_
    obtain ⟨v63, e63, hf⟩ := Option.bind_eq_some_iff.mp hf
    refine ym_get (pc := 63) dX8_newLot_63 rfl (by decide) iX8 (k := 4) (by decide) wd_849 (ym_gI_v e63) ?_
    refine ym_istore (pc := 66) (lv' := [(6, .int v63), (0, va_rf w0), (1, .int w1), (2, .long w2), (4, .long w4)]) dX8_newLot_66 (by decide) ⟨trivial, trivial, trivial, trivial, trivial⟩ rfl ?_
    refine ym_aload_n (pc := 68) 1 dX8_newLot_68 rfl rfl ?_
    obtain ⟨v69, e69, hf⟩ := Option.bind_eq_some_iff.mp hf
    refine ym_get (pc := 69) dX8_newLot_69 rfl (by decide) iX8 (k := 5) (by decide) wd_850 (ym_gR_v e69) ?_
    refine ym_iload (pc := 72) 0 dX8_newLot_72 rfl ?_
    refine ym_iload_n (pc := 74) 2 dX8_newLot_74 rfl rfl ?_
    obtain ⟨h75, e75, hf⟩ := Option.bind_eq_some_iff.mp hf
    refine ym_iast (pc := 75) dX8_newLot_75 rfl e75 ?_
    refine ym_aload_n (pc := 76) 1 dX8_newLot_76 rfl rfl ?_
    obtain ⟨v77, e77, hf⟩ := Option.bind_eq_some_iff.mp hf
    refine ym_get (pc := 77) dX8_newLot_77 rfl (by decide) iX8 (k := 7) (by decide) wd_852 (ym_gR_v e77) ?_
    refine ym_iload (pc := 80) 0 dX8_newLot_80 rfl ?_
    refine ym_lload (pc := 82) 4 dX8_newLot_82 rfl ?_
    obtain ⟨h84, e84, hf⟩ := Option.bind_eq_some_iff.mp hf
    refine ym_last (pc := 84) dX8_newLot_84 rfl e84 ?_
    refine ym_aload_n (pc := 85) 1 dX8_newLot_85 rfl rfl ?_
    obtain ⟨v86, e86, hf⟩ := Option.bind_eq_some_iff.mp hf
    refine ym_get (pc := 86) dX8_newLot_86 rfl (by decide) iX8 (k := 8) (by decide) wd_853 (ym_gR_v e86) ?_
    refine ym_iload (pc := 89) 0 dX8_newLot_89 rfl ?_
    refine ym_iconst (pc := 91) (v := 0) dX8_newLot_91 (by decide) ?_
    obtain ⟨h92, e92, hf⟩ := Option.bind_eq_some_iff.mp hf
    refine ym_iast (pc := 92) dX8_newLot_92 rfl e92 ?_
    refine ym_aload_n (pc := 93) 1 dX8_newLot_93 rfl rfl ?_
    obtain ⟨v94, e94, hf⟩ := Option.bind_eq_some_iff.mp hf
    refine ym_get (pc := 94) dX8_newLot_94 rfl (by decide) iX8 (k := 12) (by decide) wd_857 (ym_gR_v e94) ?_
    refine ym_iload (pc := 97) 0 dX8_newLot_97 rfl ?_
    refine ym_iconst (pc := 99) (v := 0) dX8_newLot_99 (by decide) ?_
    obtain ⟨h100, e100, hf⟩ := Option.bind_eq_some_iff.mp hf
    refine ym_iast (pc := 100) dX8_newLot_100 rfl e100 ?_
    refine ym_aload_n (pc := 101) 1 dX8_newLot_101 rfl rfl ?_
    obtain ⟨v102, e102, hf⟩ := Option.bind_eq_some_iff.mp hf
    refine ym_get (pc := 102) dX8_newLot_102 rfl (by decide) iX8 (k := 30) (by decide) wd_875 (ym_gR_v e102) ?_
    refine ym_iload (pc := 105) 0 dX8_newLot_105 rfl ?_
    refine ym_iconst (pc := 107) (v := (-1)) dX8_newLot_107 (by decide) ?_
    obtain ⟨h108, e108, hf⟩ := Option.bind_eq_some_iff.mp hf
    refine ym_iast (pc := 108) dX8_newLot_108 rfl e108 ?_
    refine ym_aload_n (pc := 109) 1 dX8_newLot_109 rfl rfl ?_
    refine ym_dup (pc := 110) dX8_newLot_110 (ym_c1 w0) ?_
    obtain ⟨v111, e111, hf⟩ := Option.bind_eq_some_iff.mp hf
    refine ym_get (pc := 111) dX8_newLot_111 rfl (by decide) iX8 (k := 4) (by decide) wd_849 (ym_gI_v e111) ?_
    refine ym_iconst (pc := 114) (v := 1) dX8_newLot_114 (by decide) ?_
    refine ym_iadd (pc := 115) dX8_newLot_115 ?_
    obtain ⟨h116, e116, hf⟩ := Option.bind_eq_some_iff.mp hf
    refine ym_put (pc := 116) (h1 := h116) dX8_newLot_116 rfl (by decide) iX8 tyX8 tyX8_ok nmX8 (k := 4) (by decide) wd_849 rfl (tyX8_ok 4 (by decide)) rfl rfl e116 ?_
    refine ym_aload_n (pc := 119) 1 dX8_newLot_119 rfl rfl ?_
    refine ym_iload (pc := 120) 0 dX8_newLot_120 rfl ?_
    refine ym_lload_n (pc := 122) 3 dX8_newLot_122 rfl rfl ?_
    obtain ⟨o123, f123, hf⟩ := Option.bind_eq_some_iff.mp hf
    obtain ⟨q123, e123, hf⟩ := Option.bind_eq_some_iff.mp hf
    refine ym_callV (pc := 123) (G2 := g_X8_renew) (dep2 := 1) (As := [.int v63, .long w2]) (st := []) (stk2 := []) (r2 := none) (h1 := q123.2) dX8_newLot_123 (ok_X8_renew e123) (sc_X8_newLot_X8_renew) wd_1047 wd_1049 wd_25 (ci := 8) (q0 := (RX8, TX8, 58)) rfl (by decide) rfl f123 rfl rfl (ym_st4 (Nat.le_of_ble_eq_true rfl)) rfl ?_
    refine ym_iload (pc := 126) 0 dX8_newLot_126 rfl ?_
    refine ym_i2l (pc := 128) dX8_newLot_128 ?_
    cases hf
    exact ym_lret (pc := 129) dX8_newLot_129 rfl
def bl_X8_newLot_32 (N : Nat) (w0 : Option Nat) (w1 : Int32) (w2 : Int64) (w4 : Int64) (h : ym_H) : Option (Int64 × ym_H) :=
  if w1 = 5 then
    if w4 ≤ w2 then
      bl_X8_newLot_48 N w0 w1 w2 w4 h
    else
      some ((-1), h)
  else
    bl_X8_newLot_48 N w0 w1 w2 w4 h
set_option maxRecDepth 20000 in
set_option maxHeartbeats 4000000 in
theorem ob_X8_newLot_32 {D : ym_D} {b0 : Nat} {N : Nat} {w0 : Option Nat} {w1 : Int32} {w2 : Int64} {w4 : Int64} {h h' : ym_H} {r : Int64} (hf : bl_X8_newLot_32 N w0 w1 w2 w4 h = some (r, h')) : ym_Y D b0 g_X8_newLot 2 32 [(0, va_rf w0), (1, .int w1), (2, .long w2), (4, .long w4)] [] h (some (.long r)) h' := by
  unfold bl_X8_newLot_32 at hf
  refine ym_iload_n (pc := 32) 1 dX8_newLot_32 rfl rfl ?_
  refine ym_iconst (pc := 33) (v := 5) dX8_newLot_33 (by decide) ?_
  by_cases c34 : w1 = 5
  · rw [if_pos c34] at hf
    refine ym_icmp_ne_y (pc := 34) (tgt := 48) dX8_newLot_34 (by decide) c34 ?_
    refine ym_lload (pc := 37) 3 dX8_newLot_37 rfl ?_
    refine ym_lload_n (pc := 39) 2 dX8_newLot_39 rfl rfl ?_
    by_cases c40 : w4 ≤ w2
    · rw [if_pos c40] at hf
      refine ym_lcmp_le_y (pc := 40) (tgt := 48) dX8_newLot_40 dX8_newLot_41 (by decide) c40 ?_
      exact ym_sub [0, 1, 2, 3] rfl (ob_X8_newLot_48 hf)
    · rw [if_neg c40] at hf
      refine ym_lcmp_le_n (pc := 40) (tgt := 48) dX8_newLot_40 dX8_newLot_41 (by decide) c40 ?_
      refine ym_ldc2 (pc := 44) dX8_newLot_44 wd_1038 ?_
      cases hf
      exact ym_lret (pc := 47) dX8_newLot_47 rfl
  · rw [if_neg c34] at hf
    refine ym_icmp_ne_n (pc := 34) (tgt := 48) dX8_newLot_34 (by decide) c34 ?_
    exact ym_sub [0, 1, 2, 3] rfl (ob_X8_newLot_48 hf)
def fn_X8_newLot (N : Nat) (a0 : Option Nat) (a1 : Int32) (a2 : Int64) (a4 : Int64) (h : ym_H) : Option (Int64 × ym_H) :=
  if a1 < 1 then
    some ((-1), h)
  else
    if 5 < a1 then
      some ((-1), h)
    else
      Option.bind (fn_X8_isSum N a2 h) fun q11 =>
      if q11.1 = 0 then
        some ((-1), q11.2)
      else
        if a4 = 0 then
          bl_X8_newLot_32 N a0 a1 a2 a4 q11.2
        else
          Option.bind (fn_X8_isSum N a4 q11.2) fun q26 =>
          if q26.1 = 0 then
            some ((-1), q26.2)
          else
            bl_X8_newLot_32 N a0 a1 a2 a4 q26.2
set_option maxRecDepth 20000 in
set_option maxHeartbeats 4000000 in
theorem ok_X8_newLot {D : ym_D} {b0 : Nat} {N : Nat} {a0 : Option Nat} {a1 : Int32} {a2 : Int64} {a4 : Int64} {h h' : ym_H} {r : Int64} (hf : fn_X8_newLot N a0 a1 a2 a4 h = some (r, h')) : ym_M D b0 g_X8_newLot 2 [va_rf a0, .int a1, .long a2, .long a4] h (some (.long r)) h' := by
  unfold fn_X8_newLot at hf
  refine ym_meth (lv := [(0, va_rf a0), (1, .int a1), (2, .long a2), (4, .long a4)]) (by decide) (by simp [lg_sl, ym_c1, ym_cI, ym_cL, g_X8_newLot]) (by simp [lv_args, ym_c1, ym_cI, ym_cL]) ?_
  refine ym_iload_n (pc := 0) 1 dX8_newLot_0 rfl rfl ?_
  refine ym_iconst (pc := 1) (v := 1) dX8_newLot_1 (by decide) ?_
  by_cases c2 : a1 < 1
  · rw [if_pos c2] at hf
    refine ym_icmp_lt_y (pc := 2) (tgt := 44) dX8_newLot_2 (by decide) c2 ?_
    refine ym_ldc2 (pc := 44) dX8_newLot_44 wd_1038 ?_
    cases hf
    exact ym_lret (pc := 47) dX8_newLot_47 rfl
  · rw [if_neg c2] at hf
    refine ym_icmp_lt_n (pc := 2) (tgt := 44) dX8_newLot_2 (by decide) c2 ?_
    refine ym_iload_n (pc := 5) 1 dX8_newLot_5 rfl rfl ?_
    refine ym_iconst (pc := 6) (v := 5) dX8_newLot_6 (by decide) ?_
    by_cases c7 : 5 < a1
    · rw [if_pos c7] at hf
      refine ym_icmp_gt_y (pc := 7) (tgt := 44) dX8_newLot_7 (by decide) c7 ?_
      refine ym_ldc2 (pc := 44) dX8_newLot_44 wd_1038 ?_
      cases hf
      exact ym_lret (pc := 47) dX8_newLot_47 rfl
    · rw [if_neg c7] at hf
      refine ym_icmp_gt_n (pc := 7) (tgt := 44) dX8_newLot_7 (by decide) c7 ?_
      refine ym_lload_n (pc := 10) 2 dX8_newLot_10 rfl rfl ?_
      obtain ⟨q11, e11, hf⟩ := Option.bind_eq_some_iff.mp hf
      refine ym_callS (pc := 11) (G2 := g_X8_isSum) (dep2 := 1) (As := [.long a2]) (st := []) (stk2 := [.int q11.1]) (r2 := (some (.int q11.1))) (h1 := q11.2) dX8_newLot_11 (ok_X8_isSum e11) (sc_X8_newLot_X8_isSum) wd_1044 wd_1045 rfl rfl (ym_st4 (Nat.le_of_ble_eq_true rfl)) rfl ?_
      by_cases c14 : q11.1 = 0
      · rw [if_pos c14] at hf
        refine ym_if_eq_y (pc := 14) (tgt := 44) dX8_newLot_14 (by decide) c14 ?_
        refine ym_ldc2 (pc := 44) dX8_newLot_44 wd_1038 ?_
        cases hf
        exact ym_lret (pc := 47) dX8_newLot_47 rfl
      · rw [if_neg c14] at hf
        refine ym_if_eq_n (pc := 14) (tgt := 44) dX8_newLot_14 (by decide) c14 ?_
        refine ym_lload (pc := 17) 3 dX8_newLot_17 rfl ?_
        refine ym_lconst (pc := 19) (v := 0) dX8_newLot_19 (by decide) ?_
        by_cases c20 : a4 = 0
        · rw [if_pos c20] at hf
          refine ym_lcmp_eq_y (pc := 20) (tgt := 32) dX8_newLot_20 dX8_newLot_21 (by decide) c20 ?_
          exact ym_sub [0, 1, 2, 3] rfl (ob_X8_newLot_32 hf)
        · rw [if_neg c20] at hf
          refine ym_lcmp_eq_n (pc := 20) (tgt := 32) dX8_newLot_20 dX8_newLot_21 (by decide) c20 ?_
          refine ym_lload (pc := 24) 3 dX8_newLot_24 rfl ?_
          obtain ⟨q26, e26, hf⟩ := Option.bind_eq_some_iff.mp hf
          refine ym_callS (pc := 26) (G2 := g_X8_isSum) (dep2 := 1) (As := [.long a4]) (st := []) (stk2 := [.int q26.1]) (r2 := (some (.int q26.1))) (h1 := q26.2) dX8_newLot_26 (ok_X8_isSum e26) (sc_X8_newLot_X8_isSum) wd_1044 wd_1045 rfl rfl (ym_st4 (Nat.le_of_ble_eq_true rfl)) rfl ?_
          by_cases c29 : q26.1 = 0
          · rw [if_pos c29] at hf
            refine ym_if_eq_y (pc := 29) (tgt := 44) dX8_newLot_29 (by decide) c29 ?_
            refine ym_ldc2 (pc := 44) dX8_newLot_44 wd_1038 ?_
            cases hf
            exact ym_lret (pc := 47) dX8_newLot_47 rfl
          · rw [if_neg c29] at hf
            refine ym_if_eq_n (pc := 29) (tgt := 44) dX8_newLot_29 (by decide) c29 ?_
            exact ym_sub [0, 1, 2, 3] rfl (ob_X8_newLot_32 hf)
theorem dX8_noLot_0 : decode cX8_noLot 0 = .ok (.iload_n 1, 1) := by decide +kernel
theorem dX8_noLot_1 : decode cX8_noLot 1 = .ok (.ifCond .lt 10, 3) := by decide +kernel
theorem dX8_noLot_4 : decode cX8_noLot 4 = .ok (.iload_n 1, 1) := by decide +kernel
theorem dX8_noLot_5 : decode cX8_noLot 5 = .ok (.sipush 400, 3) := by decide +kernel
theorem dX8_noLot_8 : decode cX8_noLot 8 = .ok (.if_icmp .lt 7, 3) := by decide +kernel
theorem dX8_noLot_11 : decode cX8_noLot 11 = .ok (.iconst 3, 1) := by decide +kernel
theorem dX8_noLot_12 : decode cX8_noLot 12 = .ok (.goto 16, 3) := by decide +kernel
theorem dX8_noLot_15 : decode cX8_noLot 15 = .ok (.iload_n 1, 1) := by decide +kernel
theorem dX8_noLot_16 : decode cX8_noLot 16 = .ok (.aload_n 0, 1) := by decide +kernel
theorem dX8_noLot_17 : decode cX8_noLot 17 = .ok (.getfield 188, 3) := by decide +kernel
theorem dX8_noLot_20 : decode cX8_noLot 20 = .ok (.if_icmp .lt 7, 3) := by decide +kernel
theorem dX8_noLot_23 : decode cX8_noLot 23 = .ok (.iconst 2, 1) := by decide +kernel
theorem dX8_noLot_24 : decode cX8_noLot 24 = .ok (.goto 4, 3) := by decide +kernel
theorem dX8_noLot_27 : decode cX8_noLot 27 = .ok (.iconst 0, 1) := by decide +kernel
theorem dX8_noLot_28 : decode cX8_noLot 28 = .ok (.ireturn, 1) := by decide +kernel
def fn_X8_noLot (N : Nat) (a0 : Option Nat) (a1 : Int32) (h : ym_H) : Option (Int32 × ym_H) :=
  if a1 < 0 then
    some (3, h)
  else
    if a1 < 400 then
      Option.bind (ym_gI h a0 8 4) fun v17 =>
      if a1 < v17 then
        some (0, h)
      else
        some (2, h)
    else
      some (3, h)
set_option maxRecDepth 20000 in
set_option maxHeartbeats 4000000 in
theorem ok_X8_noLot {D : ym_D} {b0 : Nat} {N : Nat} {a0 : Option Nat} {a1 : Int32} {h h' : ym_H} {r : Int32} (hf : fn_X8_noLot N a0 a1 h = some (r, h')) : ym_M D b0 g_X8_noLot 1 [va_rf a0, .int a1] h (some (.int r)) h' := by
  unfold fn_X8_noLot at hf
  refine ym_meth (lv := [(0, va_rf a0), (1, .int a1)]) (by decide) (by simp [lg_sl, ym_c1, ym_cI, ym_cL, g_X8_noLot]) (by simp [lv_args, ym_c1, ym_cI, ym_cL]) ?_
  refine ym_iload_n (pc := 0) 1 dX8_noLot_0 rfl rfl ?_
  by_cases c1 : a1 < 0
  · rw [if_pos c1] at hf
    refine ym_if_lt_y (pc := 1) (tgt := 11) dX8_noLot_1 (by decide) c1 ?_
    refine ym_iconst (pc := 11) (v := 3) dX8_noLot_11 (by decide) ?_
    refine ym_goto (pc := 12) (tgt := 28) dX8_noLot_12 (by decide) ?_
    cases hf
    exact ym_iret (pc := 28) dX8_noLot_28 rfl
  · rw [if_neg c1] at hf
    refine ym_if_lt_n (pc := 1) (tgt := 11) dX8_noLot_1 (by decide) c1 ?_
    refine ym_iload_n (pc := 4) 1 dX8_noLot_4 rfl rfl ?_
    refine ym_sipush (pc := 5) (v := 400) dX8_noLot_5 (by decide) ?_
    by_cases c8 : a1 < 400
    · rw [if_pos c8] at hf
      refine ym_icmp_lt_y (pc := 8) (tgt := 15) dX8_noLot_8 (by decide) c8 ?_
      refine ym_iload_n (pc := 15) 1 dX8_noLot_15 rfl rfl ?_
      refine ym_aload_n (pc := 16) 0 dX8_noLot_16 rfl rfl ?_
      obtain ⟨v17, e17, hf⟩ := Option.bind_eq_some_iff.mp hf
      refine ym_get (pc := 17) dX8_noLot_17 rfl (by decide) iX8 (k := 4) (by decide) wd_849 (ym_gI_v e17) ?_
      by_cases c20 : a1 < v17
      · rw [if_pos c20] at hf
        refine ym_icmp_lt_y (pc := 20) (tgt := 27) dX8_noLot_20 (by decide) c20 ?_
        refine ym_iconst (pc := 27) (v := 0) dX8_noLot_27 (by decide) ?_
        cases hf
        exact ym_iret (pc := 28) dX8_noLot_28 rfl
      · rw [if_neg c20] at hf
        refine ym_icmp_lt_n (pc := 20) (tgt := 27) dX8_noLot_20 (by decide) c20 ?_
        refine ym_iconst (pc := 23) (v := 2) dX8_noLot_23 (by decide) ?_
        refine ym_goto (pc := 24) (tgt := 28) dX8_noLot_24 (by decide) ?_
        cases hf
        exact ym_iret (pc := 28) dX8_noLot_28 rfl
    · rw [if_neg c8] at hf
      refine ym_icmp_lt_n (pc := 8) (tgt := 15) dX8_noLot_8 (by decide) c8 ?_
      refine ym_iconst (pc := 11) (v := 3) dX8_noLot_11 (by decide) ?_
      refine ym_goto (pc := 12) (tgt := 28) dX8_noLot_12 (by decide) ?_
      cases hf
      exact ym_iret (pc := 28) dX8_noLot_28 rfl
theorem dX8_noBidder_0 : decode cX8_noBidder 0 = .ok (.iload_n 1, 1) := by decide +kernel
theorem dX8_noBidder_1 : decode cX8_noBidder 1 = .ok (.ifCond .lt 10, 3) := by decide +kernel
theorem dX8_noBidder_4 : decode cX8_noBidder 4 = .ok (.iload_n 1, 1) := by decide +kernel
theorem dX8_noBidder_5 : decode cX8_noBidder 5 = .ok (.sipush 200, 3) := by decide +kernel
theorem dX8_noBidder_8 : decode cX8_noBidder 8 = .ok (.if_icmp .lt 7, 3) := by decide +kernel
theorem dX8_noBidder_11 : decode cX8_noBidder 11 = .ok (.iconst 3, 1) := by decide +kernel
theorem dX8_noBidder_12 : decode cX8_noBidder 12 = .ok (.goto 16, 3) := by decide +kernel
theorem dX8_noBidder_15 : decode cX8_noBidder 15 = .ok (.iload_n 1, 1) := by decide +kernel
theorem dX8_noBidder_16 : decode cX8_noBidder 16 = .ok (.aload_n 0, 1) := by decide +kernel
theorem dX8_noBidder_17 : decode cX8_noBidder 17 = .ok (.getfield 185, 3) := by decide +kernel
theorem dX8_noBidder_20 : decode cX8_noBidder 20 = .ok (.if_icmp .lt 7, 3) := by decide +kernel
theorem dX8_noBidder_23 : decode cX8_noBidder 23 = .ok (.iconst 2, 1) := by decide +kernel
theorem dX8_noBidder_24 : decode cX8_noBidder 24 = .ok (.goto 4, 3) := by decide +kernel
theorem dX8_noBidder_27 : decode cX8_noBidder 27 = .ok (.iconst 0, 1) := by decide +kernel
theorem dX8_noBidder_28 : decode cX8_noBidder 28 = .ok (.ireturn, 1) := by decide +kernel
def fn_X8_noBidder (N : Nat) (a0 : Option Nat) (a1 : Int32) (h : ym_H) : Option (Int32 × ym_H) :=
  if a1 < 0 then
    some (3, h)
  else
    if a1 < 200 then
      Option.bind (ym_gI h a0 8 0) fun v17 =>
      if a1 < v17 then
        some (0, h)
      else
        some (2, h)
    else
      some (3, h)
set_option maxRecDepth 20000 in
set_option maxHeartbeats 4000000 in
theorem ok_X8_noBidder {D : ym_D} {b0 : Nat} {N : Nat} {a0 : Option Nat} {a1 : Int32} {h h' : ym_H} {r : Int32} (hf : fn_X8_noBidder N a0 a1 h = some (r, h')) : ym_M D b0 g_X8_noBidder 1 [va_rf a0, .int a1] h (some (.int r)) h' := by
  unfold fn_X8_noBidder at hf
  refine ym_meth (lv := [(0, va_rf a0), (1, .int a1)]) (by decide) (by simp [lg_sl, ym_c1, ym_cI, ym_cL, g_X8_noBidder]) (by simp [lv_args, ym_c1, ym_cI, ym_cL]) ?_
  refine ym_iload_n (pc := 0) 1 dX8_noBidder_0 rfl rfl ?_
  by_cases c1 : a1 < 0
  · rw [if_pos c1] at hf
    refine ym_if_lt_y (pc := 1) (tgt := 11) dX8_noBidder_1 (by decide) c1 ?_
    refine ym_iconst (pc := 11) (v := 3) dX8_noBidder_11 (by decide) ?_
    refine ym_goto (pc := 12) (tgt := 28) dX8_noBidder_12 (by decide) ?_
    cases hf
    exact ym_iret (pc := 28) dX8_noBidder_28 rfl
  · rw [if_neg c1] at hf
    refine ym_if_lt_n (pc := 1) (tgt := 11) dX8_noBidder_1 (by decide) c1 ?_
    refine ym_iload_n (pc := 4) 1 dX8_noBidder_4 rfl rfl ?_
    refine ym_sipush (pc := 5) (v := 200) dX8_noBidder_5 (by decide) ?_
    by_cases c8 : a1 < 200
    · rw [if_pos c8] at hf
      refine ym_icmp_lt_y (pc := 8) (tgt := 15) dX8_noBidder_8 (by decide) c8 ?_
      refine ym_iload_n (pc := 15) 1 dX8_noBidder_15 rfl rfl ?_
      refine ym_aload_n (pc := 16) 0 dX8_noBidder_16 rfl rfl ?_
      obtain ⟨v17, e17, hf⟩ := Option.bind_eq_some_iff.mp hf
      refine ym_get (pc := 17) dX8_noBidder_17 rfl (by decide) iX8 (k := 0) (by decide) wd_845 (ym_gI_v e17) ?_
      by_cases c20 : a1 < v17
      · rw [if_pos c20] at hf
        refine ym_icmp_lt_y (pc := 20) (tgt := 27) dX8_noBidder_20 (by decide) c20 ?_
        refine ym_iconst (pc := 27) (v := 0) dX8_noBidder_27 (by decide) ?_
        cases hf
        exact ym_iret (pc := 28) dX8_noBidder_28 rfl
      · rw [if_neg c20] at hf
        refine ym_icmp_lt_n (pc := 20) (tgt := 27) dX8_noBidder_20 (by decide) c20 ?_
        refine ym_iconst (pc := 23) (v := 2) dX8_noBidder_23 (by decide) ?_
        refine ym_goto (pc := 24) (tgt := 28) dX8_noBidder_24 (by decide) ?_
        cases hf
        exact ym_iret (pc := 28) dX8_noBidder_28 rfl
    · rw [if_neg c8] at hf
      refine ym_icmp_lt_n (pc := 8) (tgt := 15) dX8_noBidder_8 (by decide) c8 ?_
      refine ym_iconst (pc := 11) (v := 3) dX8_noBidder_11 (by decide) ?_
      refine ym_goto (pc := 12) (tgt := 28) dX8_noBidder_12 (by decide) ?_
      cases hf
      exact ym_iret (pc := 28) dX8_noBidder_28 rfl
