theorem dX8_offered_0 : decode cX8_offered 0 = .ok (.lload_n 2, 1) := by decide +kernel
theorem dX8_offered_1 : decode cX8_offered 1 = .ok (.invokestatic 335, 3) := by decide +kernel
theorem dX8_offered_4 : decode cX8_offered 4 = .ok (.ifCond .ne 7, 3) := by decide +kernel
theorem dX8_offered_7 : decode cX8_offered 7 = .ok (.ldc2_w 331, 3) := by decide +kernel
theorem dX8_offered_10 : decode cX8_offered 10 = .ok (.lreturn, 1) := by decide +kernel
theorem dX8_offered_11 : decode cX8_offered 11 = .ok (.aload_n 0, 1) := by decide +kernel
theorem dX8_offered_12 : decode cX8_offered 12 = .ok (.iload_n 1, 1) := by decide +kernel
theorem dX8_offered_13 : decode cX8_offered 13 = .ok (.invokevirtual 294, 3) := by decide +kernel
theorem dX8_offered_16 : decode cX8_offered 16 = .ok (.ifCond .le 11, 3) := by decide +kernel
theorem dX8_offered_19 : decode cX8_offered 19 = .ok (.aload_n 0, 1) := by decide +kernel
theorem dX8_offered_20 : decode cX8_offered 20 = .ok (.iload_n 1, 1) := by decide +kernel
theorem dX8_offered_21 : decode cX8_offered 21 = .ok (.invokevirtual 294, 3) := by decide +kernel
theorem dX8_offered_24 : decode cX8_offered 24 = .ok (.ineg, 1) := by decide +kernel
theorem dX8_offered_25 : decode cX8_offered 25 = .ok (.i2l, 1) := by decide +kernel
theorem dX8_offered_26 : decode cX8_offered 26 = .ok (.lreturn, 1) := by decide +kernel
theorem dX8_offered_27 : decode cX8_offered 27 = .ok (.aload_n 0, 1) := by decide +kernel
theorem dX8_offered_28 : decode cX8_offered 28 = .ok (.getfield 32, 3) := by decide +kernel
theorem dX8_offered_31 : decode cX8_offered 31 = .ok (.iload_n 1, 1) := by decide +kernel
theorem dX8_offered_32 : decode cX8_offered 32 = .ok (.iaload, 1) := by decide +kernel
theorem dX8_offered_33 : decode cX8_offered 33 = .ok (.iconst 3, 1) := by decide +kernel
theorem dX8_offered_34 : decode cX8_offered 34 = .ok (.if_icmp .eq 7, 3) := by decide +kernel
theorem dX8_offered_37 : decode cX8_offered 37 = .ok (.ldc2_w 346, 3) := by decide +kernel
theorem dX8_offered_40 : decode cX8_offered 40 = .ok (.lreturn, 1) := by decide +kernel
theorem dX8_offered_41 : decode cX8_offered 41 = .ok (.aload_n 0, 1) := by decide +kernel
theorem dX8_offered_42 : decode cX8_offered 42 = .ok (.getfield 20, 3) := by decide +kernel
theorem dX8_offered_45 : decode cX8_offered 45 = .ok (.iload_n 1, 1) := by decide +kernel
theorem dX8_offered_46 : decode cX8_offered 46 = .ok (.iaload, 1) := by decide +kernel
theorem dX8_offered_47 : decode cX8_offered 47 = .ok (.iconst 5, 1) := by decide +kernel
theorem dX8_offered_48 : decode cX8_offered 48 = .ok (.if_icmp .ne 18, 3) := by decide +kernel
theorem dX8_offered_51 : decode cX8_offered 51 = .ok (.lload_n 2, 1) := by decide +kernel
theorem dX8_offered_52 : decode cX8_offered 52 = .ok (.aload_n 0, 1) := by decide +kernel
theorem dX8_offered_53 : decode cX8_offered 53 = .ok (.getfield 26, 3) := by decide +kernel
theorem dX8_offered_56 : decode cX8_offered 56 = .ok (.iload_n 1, 1) := by decide +kernel
theorem dX8_offered_57 : decode cX8_offered 57 = .ok (.laload, 1) := by decide +kernel
theorem dX8_offered_58 : decode cX8_offered 58 = .ok (.lcmp, 1) := by decide +kernel
theorem dX8_offered_59 : decode cX8_offered 59 = .ok (.ifCond .ge 7, 3) := by decide +kernel
theorem dX8_offered_62 : decode cX8_offered 62 = .ok (.ldc2_w 354, 3) := by decide +kernel
theorem dX8_offered_65 : decode cX8_offered 65 = .ok (.lreturn, 1) := by decide +kernel
theorem dX8_offered_66 : decode cX8_offered 66 = .ok (.aload_n 0, 1) := by decide +kernel
theorem dX8_offered_67 : decode cX8_offered 67 = .ok (.getfield 93, 3) := by decide +kernel
theorem dX8_offered_70 : decode cX8_offered 70 = .ok (.iload_n 1, 1) := by decide +kernel
theorem dX8_offered_71 : decode cX8_offered 71 = .ok (.iaload, 1) := by decide +kernel
theorem dX8_offered_72 : decode cX8_offered 72 = .ok (.istore 4, 2) := by decide +kernel
theorem dX8_offered_74 : decode cX8_offered 74 = .ok (.iload 4, 2) := by decide +kernel
theorem dX8_offered_76 : decode cX8_offered 76 = .ok (.ifCond .lt 37, 3) := by decide +kernel
theorem dX8_offered_79 : decode cX8_offered 79 = .ok (.aload_n 0, 1) := by decide +kernel
theorem dX8_offered_80 : decode cX8_offered 80 = .ok (.getfield 93, 3) := by decide +kernel
theorem dX8_offered_83 : decode cX8_offered 83 = .ok (.aload_n 0, 1) := by decide +kernel
theorem dX8_offered_84 : decode cX8_offered 84 = .ok (.getfield 96, 3) := by decide +kernel
theorem dX8_offered_87 : decode cX8_offered 87 = .ok (.iload 4, 2) := by decide +kernel
theorem dX8_offered_89 : decode cX8_offered 89 = .ok (.iaload, 1) := by decide +kernel
theorem dX8_offered_90 : decode cX8_offered 90 = .ok (.iconst (-1), 1) := by decide +kernel
theorem dX8_offered_91 : decode cX8_offered 91 = .ok (.iastore, 1) := by decide +kernel
theorem dX8_offered_92 : decode cX8_offered 92 = .ok (.aload_n 0, 1) := by decide +kernel
theorem dX8_offered_93 : decode cX8_offered 93 = .ok (.getfield 93, 3) := by decide +kernel
theorem dX8_offered_96 : decode cX8_offered 96 = .ok (.aload_n 0, 1) := by decide +kernel
theorem dX8_offered_97 : decode cX8_offered 97 = .ok (.getfield 99, 3) := by decide +kernel
theorem dX8_offered_100 : decode cX8_offered 100 = .ok (.iload 4, 2) := by decide +kernel
theorem dX8_offered_102 : decode cX8_offered 102 = .ok (.iaload, 1) := by decide +kernel
theorem dX8_offered_103 : decode cX8_offered 103 = .ok (.iconst (-1), 1) := by decide +kernel
theorem dX8_offered_104 : decode cX8_offered 104 = .ok (.iastore, 1) := by decide +kernel
theorem dX8_offered_105 : decode cX8_offered 105 = .ok (.aload_n 0, 1) := by decide +kernel
theorem dX8_offered_106 : decode cX8_offered 106 = .ok (.getfield 93, 3) := by decide +kernel
theorem dX8_offered_109 : decode cX8_offered 109 = .ok (.iload 4, 2) := by decide +kernel
theorem dX8_offered_111 : decode cX8_offered 111 = .ok (.iconst (-1), 1) := by decide +kernel
theorem dX8_offered_112 : decode cX8_offered 112 = .ok (.iastore, 1) := by decide +kernel
theorem dX8_offered_113 : decode cX8_offered 113 = .ok (.aload_n 0, 1) := by decide +kernel
theorem dX8_offered_114 : decode cX8_offered 114 = .ok (.iload_n 1, 1) := by decide +kernel
theorem dX8_offered_115 : decode cX8_offered 115 = .ok (.lload_n 2, 1) := by decide +kernel
theorem dX8_offered_116 : decode cX8_offered 116 = .ok (.invokevirtual 339, 3) := by decide +kernel
theorem dX8_offered_119 : decode cX8_offered 119 = .ok (.lconst 1, 1) := by decide +kernel
theorem dX8_offered_120 : decode cX8_offered 120 = .ok (.lreturn, 1) := by decide +kernel
theorem sc_X8_offered_X8_isSum : ym_site g_X8_offered g_X8_isSum 2 1 1 := ⟨by decide, by decide, wd_1046, wd_83, by decide +kernel⟩
theorem sc_X8_offered_X8_noLot : ym_site g_X8_offered g_X8_noLot 2 1 1 := ⟨by decide, by decide, wd_1058, wd_83, by decide +kernel⟩
theorem sc_X8_offered_X8_renew : ym_site g_X8_offered g_X8_renew 2 1 2 := ⟨by decide, by decide, wd_1050, wd_83, by decide +kernel⟩
def bl_X8_offered_113 (N : Nat) (w0 : Option Nat) (w1 : Int32) (w2 : Int64) (h : ym_H) : Option (Int64 × ym_H) :=
  Option.bind (ym_ob h w0 8) fun o116 =>
  Option.bind (fn_X8_renew N w0 w1 w2 h) fun q116 =>
  some (1, q116.2)
set_option maxRecDepth 20000 in
set_option maxHeartbeats 4000000 in
theorem ob_X8_offered_113 {D : ym_D} {b0 : Nat} {N : Nat} {w0 : Option Nat} {w1 : Int32} {w2 : Int64} {h h' : ym_H} {r : Int64} (hf : bl_X8_offered_113 N w0 w1 w2 h = some (r, h')) : ym_Y D b0 g_X8_offered 2 113 [(0, va_rf w0), (1, .int w1), (2, .long w2)] [] h (some (.long r)) h' := by
  unfold bl_X8_offered_113 at hf
  refine ym_aload_n (pc := 113) 0 dX8_offered_113 rfl rfl ?_
  refine ym_iload_n (pc := 114) 1 dX8_offered_114 rfl rfl ?_
  refine ym_lload_n (pc := 115) 2 dX8_offered_115 rfl rfl ?_
  obtain ⟨o116, f116, hf⟩ := Option.bind_eq_some_iff.mp hf
  obtain ⟨q116, e116, hf⟩ := Option.bind_eq_some_iff.mp hf
  refine ym_callV (pc := 116) (G2 := g_X8_renew) (dep2 := 1) (As := [.int w1, .long w2]) (st := []) (stk2 := []) (r2 := none) (h1 := q116.2) dX8_offered_116 (ok_X8_renew e116) (sc_X8_offered_X8_renew) wd_1047 wd_1049 wd_25 (ci := 8) (q0 := (RX8, TX8, 58)) rfl (by decide) rfl f116 rfl rfl (ym_st4 (Nat.le_of_ble_eq_true rfl)) rfl ?_
  refine ym_lconst (pc := 119) (v := 1) dX8_offered_119 (by decide) ?_
  cases hf
  exact ym_lret (pc := 120) dX8_offered_120 rfl
def bl_X8_offered_66 (N : Nat) (w0 : Option Nat) (w1 : Int32) (w2 : Int64) (h : ym_H) : Option (Int64 × ym_H) :=
  Option.bind (ym_gR h w0 8 30) fun v67 =>
  Option.bind (ym_ldI h v67 w1) fun v71 =>
  if v71 < 0 then
    bl_X8_offered_113 N w0 w1 w2 h
  else
    Option.bind (ym_gR h w0 8 30) fun v80 =>
    Option.bind (ym_gR h w0 8 31) fun v84 =>
    Option.bind (ym_ldI h v84 v71) fun v89 =>
    Option.bind (ym_as h v80 0 v89 (.int (-1))) fun h91 =>
    Option.bind (ym_gR h91 w0 8 30) fun v93 =>
    Option.bind (ym_gR h91 w0 8 32) fun v97 =>
    Option.bind (ym_ldI h91 v97 v71) fun v102 =>
    Option.bind (ym_as h91 v93 0 v102 (.int (-1))) fun h104 =>
    Option.bind (ym_gR h104 w0 8 30) fun v106 =>
    Option.bind (ym_as h104 v106 0 v71 (.int (-1))) fun h112 =>
    bl_X8_offered_113 N w0 w1 w2 h112
set_option maxRecDepth 20000 in
set_option maxHeartbeats 4000000 in
theorem ob_X8_offered_66 {D : ym_D} {b0 : Nat} {N : Nat} {w0 : Option Nat} {w1 : Int32} {w2 : Int64} {h h' : ym_H} {r : Int64} (hf : bl_X8_offered_66 N w0 w1 w2 h = some (r, h')) : ym_Y D b0 g_X8_offered 2 66 [(0, va_rf w0), (1, .int w1), (2, .long w2)] [] h (some (.long r)) h' := by
  unfold bl_X8_offered_66 at hf
  refine ym_aload_n (pc := 66) 0 dX8_offered_66 rfl rfl ?_
  obtain ⟨v67, e67, hf⟩ := Option.bind_eq_some_iff.mp hf
  refine ym_get (pc := 67) dX8_offered_67 rfl (by decide) iX8 (k := 30) (by decide) wd_875 (ym_gR_v e67) ?_
  refine ym_iload_n (pc := 70) 1 dX8_offered_70 rfl rfl ?_
  obtain ⟨v71, e71, hf⟩ := Option.bind_eq_some_iff.mp hf
  refine ym_iald (pc := 71) dX8_offered_71 rfl (ym_ldI_v e71) ?_
  refine ym_istore (pc := 72) (lv' := [(4, .int v71), (0, va_rf w0), (1, .int w1), (2, .long w2)]) dX8_offered_72 (by decide) ⟨trivial, trivial, trivial, trivial⟩ rfl ?_
  refine ym_iload (pc := 74) 0 dX8_offered_74 rfl ?_
  by_cases c76 : v71 < 0
  · rw [if_pos c76] at hf
    refine ym_if_lt_y (pc := 76) (tgt := 113) dX8_offered_76 (by decide) c76 ?_
    exact ym_sub [1, 2, 3] rfl (ob_X8_offered_113 hf)
  · rw [if_neg c76] at hf
    refine ym_if_lt_n (pc := 76) (tgt := 113) dX8_offered_76 (by decide) c76 ?_
    refine ym_aload_n (pc := 79) 1 dX8_offered_79 rfl rfl ?_
    obtain ⟨v80, e80, hf⟩ := Option.bind_eq_some_iff.mp hf
    refine ym_get (pc := 80) dX8_offered_80 rfl (by decide) iX8 (k := 30) (by decide) wd_875 (ym_gR_v e80) ?_
    refine ym_aload_n (pc := 83) 1 dX8_offered_83 rfl rfl ?_
    obtain ⟨v84, e84, hf⟩ := Option.bind_eq_some_iff.mp hf
    refine ym_get (pc := 84) dX8_offered_84 rfl (by decide) iX8 (k := 31) (by decide) wd_876 (ym_gR_v e84) ?_
    refine ym_iload (pc := 87) 0 dX8_offered_87 rfl ?_
    obtain ⟨v89, e89, hf⟩ := Option.bind_eq_some_iff.mp hf
    refine ym_iald (pc := 89) dX8_offered_89 rfl (ym_ldI_v e89) ?_
    refine ym_iconst (pc := 90) (v := (-1)) dX8_offered_90 (by decide) ?_
    obtain ⟨h91, e91, hf⟩ := Option.bind_eq_some_iff.mp hf
    refine ym_iast (pc := 91) dX8_offered_91 rfl e91 ?_
    refine ym_aload_n (pc := 92) 1 dX8_offered_92 rfl rfl ?_
    obtain ⟨v93, e93, hf⟩ := Option.bind_eq_some_iff.mp hf
    refine ym_get (pc := 93) dX8_offered_93 rfl (by decide) iX8 (k := 30) (by decide) wd_875 (ym_gR_v e93) ?_
    refine ym_aload_n (pc := 96) 1 dX8_offered_96 rfl rfl ?_
    obtain ⟨v97, e97, hf⟩ := Option.bind_eq_some_iff.mp hf
    refine ym_get (pc := 97) dX8_offered_97 rfl (by decide) iX8 (k := 32) (by decide) wd_877 (ym_gR_v e97) ?_
    refine ym_iload (pc := 100) 0 dX8_offered_100 rfl ?_
    obtain ⟨v102, e102, hf⟩ := Option.bind_eq_some_iff.mp hf
    refine ym_iald (pc := 102) dX8_offered_102 rfl (ym_ldI_v e102) ?_
    refine ym_iconst (pc := 103) (v := (-1)) dX8_offered_103 (by decide) ?_
    obtain ⟨h104, e104, hf⟩ := Option.bind_eq_some_iff.mp hf
    refine ym_iast (pc := 104) dX8_offered_104 rfl e104 ?_
    refine ym_aload_n (pc := 105) 1 dX8_offered_105 rfl rfl ?_
    obtain ⟨v106, e106, hf⟩ := Option.bind_eq_some_iff.mp hf
    refine ym_get (pc := 106) dX8_offered_106 rfl (by decide) iX8 (k := 30) (by decide) wd_875 (ym_gR_v e106) ?_
    refine ym_iload (pc := 109) 0 dX8_offered_109 rfl ?_
    refine ym_iconst (pc := 111) (v := (-1)) dX8_offered_111 (by decide) ?_
    obtain ⟨h112, e112, hf⟩ := Option.bind_eq_some_iff.mp hf
    refine ym_iast (pc := 112) dX8_offered_112 rfl e112 ?_
    exact ym_sub [1, 2, 3] rfl (ob_X8_offered_113 hf)
def fn_X8_offered (N : Nat) (a0 : Option Nat) (a1 : Int32) (a2 : Int64) (h : ym_H) : Option (Int64 × ym_H) :=
  Option.bind (fn_X8_isSum N a2 h) fun q1 =>
  if q1.1 = 0 then
    some ((-1), q1.2)
  else
    Option.bind (ym_ob q1.2 a0 8) fun o13 =>
    Option.bind (fn_X8_noLot N a0 a1 q1.2) fun q13 =>
    if q13.1 ≤ 0 then
      Option.bind (ym_gR q13.2 a0 8 9) fun v28 =>
      Option.bind (ym_ldI q13.2 v28 a1) fun v32 =>
      if v32 = 3 then
        Option.bind (ym_gR q13.2 a0 8 5) fun v42 =>
        Option.bind (ym_ldI q13.2 v42 a1) fun v46 =>
        if v46 = 5 then
          Option.bind (ym_gR q13.2 a0 8 7) fun v53 =>
          Option.bind (ym_ldL q13.2 v53 a1) fun v57 =>
          if v57 ≤ a2 then
            bl_X8_offered_66 N a0 a1 a2 q13.2
          else
            some ((-10), q13.2)
        else
          bl_X8_offered_66 N a0 a1 a2 q13.2
      else
        some ((-9), q13.2)
    else
      Option.bind (ym_ob q13.2 a0 8) fun o21 =>
      Option.bind (fn_X8_noLot N a0 a1 q13.2) fun q21 =>
      some ((Int32.toInt64 (-q21.1)), q21.2)
set_option maxRecDepth 20000 in
set_option maxHeartbeats 4000000 in
theorem ok_X8_offered {D : ym_D} {b0 : Nat} {N : Nat} {a0 : Option Nat} {a1 : Int32} {a2 : Int64} {h h' : ym_H} {r : Int64} (hf : fn_X8_offered N a0 a1 a2 h = some (r, h')) : ym_M D b0 g_X8_offered 2 [va_rf a0, .int a1, .long a2] h (some (.long r)) h' := by
  unfold fn_X8_offered at hf
  refine ym_meth (lv := [(0, va_rf a0), (1, .int a1), (2, .long a2)]) (by decide) (by simp [lg_sl, ym_c1, ym_cI, ym_cL, g_X8_offered]) (by simp [lv_args, ym_c1, ym_cI, ym_cL]) ?_
  refine ym_lload_n (pc := 0) 2 dX8_offered_0 rfl rfl ?_
  obtain ⟨q1, e1, hf⟩ := Option.bind_eq_some_iff.mp hf
  refine ym_callS (pc := 1) (G2 := g_X8_isSum) (dep2 := 1) (As := [.long a2]) (st := []) (stk2 := [.int q1.1]) (r2 := (some (.int q1.1))) (h1 := q1.2) dX8_offered_1 (ok_X8_isSum e1) (sc_X8_offered_X8_isSum) wd_1044 wd_1045 rfl rfl (ym_st4 (Nat.le_of_ble_eq_true rfl)) rfl ?_
  by_cases c4 : q1.1 = 0
  · rw [if_pos c4] at hf
    refine ym_if_ne_y (pc := 4) (tgt := 11) dX8_offered_4 (by decide) c4 ?_
    refine ym_ldc2 (pc := 7) dX8_offered_7 wd_1038 ?_
    cases hf
    exact ym_lret (pc := 10) dX8_offered_10 rfl
  · rw [if_neg c4] at hf
    refine ym_if_ne_n (pc := 4) (tgt := 11) dX8_offered_4 (by decide) c4 ?_
    refine ym_aload_n (pc := 11) 0 dX8_offered_11 rfl rfl ?_
    refine ym_iload_n (pc := 12) 1 dX8_offered_12 rfl rfl ?_
    obtain ⟨o13, f13, hf⟩ := Option.bind_eq_some_iff.mp hf
    obtain ⟨q13, e13, hf⟩ := Option.bind_eq_some_iff.mp hf
    refine ym_callV (pc := 13) (G2 := g_X8_noLot) (dep2 := 1) (As := [.int a1]) (st := []) (stk2 := [.int q13.1]) (r2 := (some (.int q13.1))) (h1 := q13.2) dX8_offered_13 (ok_X8_noLot e13) (sc_X8_offered_X8_noLot) wd_1055 wd_1057 wd_27 (ci := 8) (q0 := (RX8, TX8, 58)) rfl (by decide) rfl f13 rfl rfl (ym_st4 (Nat.le_of_ble_eq_true rfl)) rfl ?_
    by_cases c16 : q13.1 ≤ 0
    · rw [if_pos c16] at hf
      refine ym_if_le_y (pc := 16) (tgt := 27) dX8_offered_16 (by decide) c16 ?_
      refine ym_aload_n (pc := 27) 0 dX8_offered_27 rfl rfl ?_
      obtain ⟨v28, e28, hf⟩ := Option.bind_eq_some_iff.mp hf
      refine ym_get (pc := 28) dX8_offered_28 rfl (by decide) iX8 (k := 9) (by decide) wd_854 (ym_gR_v e28) ?_
      refine ym_iload_n (pc := 31) 1 dX8_offered_31 rfl rfl ?_
      obtain ⟨v32, e32, hf⟩ := Option.bind_eq_some_iff.mp hf
      refine ym_iald (pc := 32) dX8_offered_32 rfl (ym_ldI_v e32) ?_
      refine ym_iconst (pc := 33) (v := 3) dX8_offered_33 (by decide) ?_
      by_cases c34 : v32 = 3
      · rw [if_pos c34] at hf
        refine ym_icmp_eq_y (pc := 34) (tgt := 41) dX8_offered_34 (by decide) c34 ?_
        refine ym_aload_n (pc := 41) 0 dX8_offered_41 rfl rfl ?_
        obtain ⟨v42, e42, hf⟩ := Option.bind_eq_some_iff.mp hf
        refine ym_get (pc := 42) dX8_offered_42 rfl (by decide) iX8 (k := 5) (by decide) wd_850 (ym_gR_v e42) ?_
        refine ym_iload_n (pc := 45) 1 dX8_offered_45 rfl rfl ?_
        obtain ⟨v46, e46, hf⟩ := Option.bind_eq_some_iff.mp hf
        refine ym_iald (pc := 46) dX8_offered_46 rfl (ym_ldI_v e46) ?_
        refine ym_iconst (pc := 47) (v := 5) dX8_offered_47 (by decide) ?_
        by_cases c48 : v46 = 5
        · rw [if_pos c48] at hf
          refine ym_icmp_ne_y (pc := 48) (tgt := 66) dX8_offered_48 (by decide) c48 ?_
          refine ym_lload_n (pc := 51) 2 dX8_offered_51 rfl rfl ?_
          refine ym_aload_n (pc := 52) 0 dX8_offered_52 rfl rfl ?_
          obtain ⟨v53, e53, hf⟩ := Option.bind_eq_some_iff.mp hf
          refine ym_get (pc := 53) dX8_offered_53 rfl (by decide) iX8 (k := 7) (by decide) wd_852 (ym_gR_v e53) ?_
          refine ym_iload_n (pc := 56) 1 dX8_offered_56 rfl rfl ?_
          obtain ⟨v57, e57, hf⟩ := Option.bind_eq_some_iff.mp hf
          refine ym_lald (pc := 57) dX8_offered_57 rfl (ym_ldL_v e57) ?_
          by_cases c58 : v57 ≤ a2
          · rw [if_pos c58] at hf
            refine ym_lcmp_ge_y (pc := 58) (tgt := 66) dX8_offered_58 dX8_offered_59 (by decide) c58 ?_
            exact ym_sub [0, 1, 2] rfl (ob_X8_offered_66 hf)
          · rw [if_neg c58] at hf
            refine ym_lcmp_ge_n (pc := 58) (tgt := 66) dX8_offered_58 dX8_offered_59 (by decide) c58 ?_
            refine ym_ldc2 (pc := 62) dX8_offered_62 wd_1076 ?_
            cases hf
            exact ym_lret (pc := 65) dX8_offered_65 rfl
        · rw [if_neg c48] at hf
          refine ym_icmp_ne_n (pc := 48) (tgt := 66) dX8_offered_48 (by decide) c48 ?_
          exact ym_sub [0, 1, 2] rfl (ob_X8_offered_66 hf)
      · rw [if_neg c34] at hf
        refine ym_icmp_eq_n (pc := 34) (tgt := 41) dX8_offered_34 (by decide) c34 ?_
        refine ym_ldc2 (pc := 37) dX8_offered_37 wd_1063 ?_
        cases hf
        exact ym_lret (pc := 40) dX8_offered_40 rfl
    · rw [if_neg c16] at hf
      refine ym_if_le_n (pc := 16) (tgt := 27) dX8_offered_16 (by decide) c16 ?_
      refine ym_aload_n (pc := 19) 0 dX8_offered_19 rfl rfl ?_
      refine ym_iload_n (pc := 20) 1 dX8_offered_20 rfl rfl ?_
      obtain ⟨o21, f21, hf⟩ := Option.bind_eq_some_iff.mp hf
      obtain ⟨q21, e21, hf⟩ := Option.bind_eq_some_iff.mp hf
      refine ym_callV (pc := 21) (G2 := g_X8_noLot) (dep2 := 1) (As := [.int a1]) (st := []) (stk2 := [.int q21.1]) (r2 := (some (.int q21.1))) (h1 := q21.2) dX8_offered_21 (ok_X8_noLot e21) (sc_X8_offered_X8_noLot) wd_1055 wd_1057 wd_27 (ci := 8) (q0 := (RX8, TX8, 58)) rfl (by decide) rfl f21 rfl rfl (ym_st4 (Nat.le_of_ble_eq_true rfl)) rfl ?_
      refine ym_ineg (pc := 24) dX8_offered_24 ?_
      refine ym_i2l (pc := 25) dX8_offered_25 ?_
      cases hf
      exact ym_lret (pc := 26) dX8_offered_26 rfl
theorem dX8_paid_0 : decode cX8_paid 0 = .ok (.lload_n 2, 1) := by decide +kernel
theorem dX8_paid_1 : decode cX8_paid 1 = .ok (.invokestatic 335, 3) := by decide +kernel
theorem dX8_paid_4 : decode cX8_paid 4 = .ok (.ifCond .ne 7, 3) := by decide +kernel
theorem dX8_paid_7 : decode cX8_paid 7 = .ok (.ldc2_w 331, 3) := by decide +kernel
theorem dX8_paid_10 : decode cX8_paid 10 = .ok (.lreturn, 1) := by decide +kernel
theorem dX8_paid_11 : decode cX8_paid 11 = .ok (.aload_n 0, 1) := by decide +kernel
theorem dX8_paid_12 : decode cX8_paid 12 = .ok (.iload_n 1, 1) := by decide +kernel
theorem dX8_paid_13 : decode cX8_paid 13 = .ok (.invokevirtual 343, 3) := by decide +kernel
theorem dX8_paid_16 : decode cX8_paid 16 = .ok (.ifCond .le 11, 3) := by decide +kernel
theorem dX8_paid_19 : decode cX8_paid 19 = .ok (.aload_n 0, 1) := by decide +kernel
theorem dX8_paid_20 : decode cX8_paid 20 = .ok (.iload_n 1, 1) := by decide +kernel
theorem dX8_paid_21 : decode cX8_paid 21 = .ok (.invokevirtual 343, 3) := by decide +kernel
theorem dX8_paid_24 : decode cX8_paid 24 = .ok (.ineg, 1) := by decide +kernel
theorem dX8_paid_25 : decode cX8_paid 25 = .ok (.i2l, 1) := by decide +kernel
theorem dX8_paid_26 : decode cX8_paid 26 = .ok (.lreturn, 1) := by decide +kernel
theorem dX8_paid_27 : decode cX8_paid 27 = .ok (.aload_n 0, 1) := by decide +kernel
theorem dX8_paid_28 : decode cX8_paid 28 = .ok (.getfield 17, 3) := by decide +kernel
theorem dX8_paid_31 : decode cX8_paid 31 = .ok (.iload_n 1, 1) := by decide +kernel
theorem dX8_paid_32 : decode cX8_paid 32 = .ok (.laload, 1) := by decide +kernel
theorem dX8_paid_33 : decode cX8_paid 33 = .ok (.lload_n 2, 1) := by decide +kernel
theorem dX8_paid_34 : decode cX8_paid 34 = .ok (.ladd, 1) := by decide +kernel
theorem dX8_paid_35 : decode cX8_paid 35 = .ok (.ldc2_w 418, 3) := by decide +kernel
theorem dX8_paid_38 : decode cX8_paid 38 = .ok (.lcmp, 1) := by decide +kernel
theorem dX8_paid_39 : decode cX8_paid 39 = .ok (.ifCond .le 7, 3) := by decide +kernel
theorem dX8_paid_42 : decode cX8_paid 42 = .ok (.ldc2_w 376, 3) := by decide +kernel
theorem dX8_paid_45 : decode cX8_paid 45 = .ok (.lreturn, 1) := by decide +kernel
theorem dX8_paid_46 : decode cX8_paid 46 = .ok (.aload_n 0, 1) := by decide +kernel
theorem dX8_paid_47 : decode cX8_paid 47 = .ok (.getfield 17, 3) := by decide +kernel
theorem dX8_paid_50 : decode cX8_paid 50 = .ok (.iload_n 1, 1) := by decide +kernel
theorem dX8_paid_51 : decode cX8_paid 51 = .ok (.dup2, 1) := by decide +kernel
theorem dX8_paid_52 : decode cX8_paid 52 = .ok (.laload, 1) := by decide +kernel
theorem dX8_paid_53 : decode cX8_paid 53 = .ok (.lload_n 2, 1) := by decide +kernel
theorem dX8_paid_54 : decode cX8_paid 54 = .ok (.ladd, 1) := by decide +kernel
theorem dX8_paid_55 : decode cX8_paid 55 = .ok (.lastore, 1) := by decide +kernel
theorem dX8_paid_56 : decode cX8_paid 56 = .ok (.aload_n 0, 1) := by decide +kernel
theorem dX8_paid_57 : decode cX8_paid 57 = .ok (.getfield 117, 3) := by decide +kernel
theorem dX8_paid_60 : decode cX8_paid 60 = .ok (.iconst 2, 1) := by decide +kernel
theorem dX8_paid_61 : decode cX8_paid 61 = .ok (.dup2, 1) := by decide +kernel
theorem dX8_paid_62 : decode cX8_paid 62 = .ok (.laload, 1) := by decide +kernel
theorem dX8_paid_63 : decode cX8_paid 63 = .ok (.lload_n 2, 1) := by decide +kernel
theorem dX8_paid_64 : decode cX8_paid 64 = .ok (.lsub, 1) := by decide +kernel
theorem dX8_paid_65 : decode cX8_paid 65 = .ok (.lastore, 1) := by decide +kernel
theorem dX8_paid_66 : decode cX8_paid 66 = .ok (.lload_n 2, 1) := by decide +kernel
theorem dX8_paid_67 : decode cX8_paid 67 = .ok (.lreturn, 1) := by decide +kernel
theorem sc_X8_paid_X8_isSum : ym_site g_X8_paid g_X8_isSum 2 1 1 := ⟨by decide, by decide, wd_1046, wd_83, by decide +kernel⟩
theorem sc_X8_paid_X8_noBidder : ym_site g_X8_paid g_X8_noBidder 2 1 1 := ⟨by decide, by decide, wd_1062, wd_83, by decide +kernel⟩
def fn_X8_paid (N : Nat) (a0 : Option Nat) (a1 : Int32) (a2 : Int64) (h : ym_H) : Option (Int64 × ym_H) :=
  Option.bind (fn_X8_isSum N a2 h) fun q1 =>
  if q1.1 = 0 then
    some ((-1), q1.2)
  else
    Option.bind (ym_ob q1.2 a0 8) fun o13 =>
    Option.bind (fn_X8_noBidder N a0 a1 q1.2) fun q13 =>
    if q13.1 ≤ 0 then
      Option.bind (ym_gR q13.2 a0 8 3) fun v28 =>
      Option.bind (ym_ldL q13.2 v28 a1) fun v32 =>
      if (v32 + a2) ≤ 1000000000000000 then
        Option.bind (ym_gR q13.2 a0 8 3) fun v47 =>
        Option.bind (ym_ldL q13.2 v47 a1) fun v52 =>
        Option.bind (ym_as q13.2 v47 1 a1 (.long (v52 + a2))) fun h55 =>
        Option.bind (ym_gR h55 a0 8 40) fun v57 =>
        Option.bind (ym_ldL h55 v57 2) fun v62 =>
        Option.bind (ym_as h55 v57 1 2 (.long (v62 - a2))) fun h65 =>
        some (a2, h65)
      else
        some ((-11), q13.2)
    else
      Option.bind (ym_ob q13.2 a0 8) fun o21 =>
      Option.bind (fn_X8_noBidder N a0 a1 q13.2) fun q21 =>
      some ((Int32.toInt64 (-q21.1)), q21.2)
set_option maxRecDepth 20000 in
set_option maxHeartbeats 4000000 in
theorem ok_X8_paid {D : ym_D} {b0 : Nat} {N : Nat} {a0 : Option Nat} {a1 : Int32} {a2 : Int64} {h h' : ym_H} {r : Int64} (hf : fn_X8_paid N a0 a1 a2 h = some (r, h')) : ym_M D b0 g_X8_paid 2 [va_rf a0, .int a1, .long a2] h (some (.long r)) h' := by
  unfold fn_X8_paid at hf
  refine ym_meth (lv := [(0, va_rf a0), (1, .int a1), (2, .long a2)]) (by decide) (by simp [lg_sl, ym_c1, ym_cI, ym_cL, g_X8_paid]) (by simp [lv_args, ym_c1, ym_cI, ym_cL]) ?_
  refine ym_lload_n (pc := 0) 2 dX8_paid_0 rfl rfl ?_
  obtain ⟨q1, e1, hf⟩ := Option.bind_eq_some_iff.mp hf
  refine ym_callS (pc := 1) (G2 := g_X8_isSum) (dep2 := 1) (As := [.long a2]) (st := []) (stk2 := [.int q1.1]) (r2 := (some (.int q1.1))) (h1 := q1.2) dX8_paid_1 (ok_X8_isSum e1) (sc_X8_paid_X8_isSum) wd_1044 wd_1045 rfl rfl (ym_st4 (Nat.le_of_ble_eq_true rfl)) rfl ?_
  by_cases c4 : q1.1 = 0
  · rw [if_pos c4] at hf
    refine ym_if_ne_y (pc := 4) (tgt := 11) dX8_paid_4 (by decide) c4 ?_
    refine ym_ldc2 (pc := 7) dX8_paid_7 wd_1038 ?_
    cases hf
    exact ym_lret (pc := 10) dX8_paid_10 rfl
  · rw [if_neg c4] at hf
    refine ym_if_ne_n (pc := 4) (tgt := 11) dX8_paid_4 (by decide) c4 ?_
    refine ym_aload_n (pc := 11) 0 dX8_paid_11 rfl rfl ?_
    refine ym_iload_n (pc := 12) 1 dX8_paid_12 rfl rfl ?_
    obtain ⟨o13, f13, hf⟩ := Option.bind_eq_some_iff.mp hf
    obtain ⟨q13, e13, hf⟩ := Option.bind_eq_some_iff.mp hf
    refine ym_callV (pc := 13) (G2 := g_X8_noBidder) (dep2 := 1) (As := [.int a1]) (st := []) (stk2 := [.int q13.1]) (r2 := (some (.int q13.1))) (h1 := q13.2) dX8_paid_13 (ok_X8_noBidder e13) (sc_X8_paid_X8_noBidder) wd_1059 wd_1061 wd_28 (ci := 8) (q0 := (RX8, TX8, 58)) rfl (by decide) rfl f13 rfl rfl (ym_st4 (Nat.le_of_ble_eq_true rfl)) rfl ?_
    by_cases c16 : q13.1 ≤ 0
    · rw [if_pos c16] at hf
      refine ym_if_le_y (pc := 16) (tgt := 27) dX8_paid_16 (by decide) c16 ?_
      refine ym_aload_n (pc := 27) 0 dX8_paid_27 rfl rfl ?_
      obtain ⟨v28, e28, hf⟩ := Option.bind_eq_some_iff.mp hf
      refine ym_get (pc := 28) dX8_paid_28 rfl (by decide) iX8 (k := 3) (by decide) wd_848 (ym_gR_v e28) ?_
      refine ym_iload_n (pc := 31) 1 dX8_paid_31 rfl rfl ?_
      obtain ⟨v32, e32, hf⟩ := Option.bind_eq_some_iff.mp hf
      refine ym_lald (pc := 32) dX8_paid_32 rfl (ym_ldL_v e32) ?_
      refine ym_lload_n (pc := 33) 2 dX8_paid_33 rfl rfl ?_
      refine ym_ladd (pc := 34) dX8_paid_34 ?_
      refine ym_ldc2 (pc := 35) dX8_paid_35 wd_1233 ?_
      by_cases c38 : (v32 + a2) ≤ 1000000000000000
      · rw [if_pos c38] at hf
        refine ym_lcmp_le_y (pc := 38) (tgt := 46) dX8_paid_38 dX8_paid_39 (by decide) c38 ?_
        refine ym_aload_n (pc := 46) 0 dX8_paid_46 rfl rfl ?_
        obtain ⟨v47, e47, hf⟩ := Option.bind_eq_some_iff.mp hf
        refine ym_get (pc := 47) dX8_paid_47 rfl (by decide) iX8 (k := 3) (by decide) wd_848 (ym_gR_v e47) ?_
        refine ym_iload_n (pc := 50) 1 dX8_paid_50 rfl rfl ?_
        refine ym_dup2_11 (pc := 51) dX8_paid_51 rfl (ym_c1 v47) ?_
        obtain ⟨v52, e52, hf⟩ := Option.bind_eq_some_iff.mp hf
        refine ym_lald (pc := 52) dX8_paid_52 rfl (ym_ldL_v e52) ?_
        refine ym_lload_n (pc := 53) 2 dX8_paid_53 rfl rfl ?_
        refine ym_ladd (pc := 54) dX8_paid_54 ?_
        obtain ⟨h55, e55, hf⟩ := Option.bind_eq_some_iff.mp hf
        refine ym_last (pc := 55) dX8_paid_55 rfl e55 ?_
        refine ym_aload_n (pc := 56) 0 dX8_paid_56 rfl rfl ?_
        obtain ⟨v57, e57, hf⟩ := Option.bind_eq_some_iff.mp hf
        refine ym_get (pc := 57) dX8_paid_57 rfl (by decide) iX8 (k := 40) (by decide) wd_885 (ym_gR_v e57) ?_
        refine ym_iconst (pc := 60) (v := 2) dX8_paid_60 (by decide) ?_
        refine ym_dup2_11 (pc := 61) dX8_paid_61 rfl (ym_c1 v57) ?_
        obtain ⟨v62, e62, hf⟩ := Option.bind_eq_some_iff.mp hf
        refine ym_lald (pc := 62) dX8_paid_62 rfl (ym_ldL_v e62) ?_
        refine ym_lload_n (pc := 63) 2 dX8_paid_63 rfl rfl ?_
        refine ym_lsub (pc := 64) dX8_paid_64 ?_
        obtain ⟨h65, e65, hf⟩ := Option.bind_eq_some_iff.mp hf
        refine ym_last (pc := 65) dX8_paid_65 rfl e65 ?_
        refine ym_lload_n (pc := 66) 2 dX8_paid_66 rfl rfl ?_
        cases hf
        exact ym_lret (pc := 67) dX8_paid_67 rfl
      · rw [if_neg c38] at hf
        refine ym_lcmp_le_n (pc := 38) (tgt := 46) dX8_paid_38 dX8_paid_39 (by decide) c38 ?_
        refine ym_ldc2 (pc := 42) dX8_paid_42 wd_1162 ?_
        cases hf
        exact ym_lret (pc := 45) dX8_paid_45 rfl
    · rw [if_neg c16] at hf
      refine ym_if_le_n (pc := 16) (tgt := 27) dX8_paid_16 (by decide) c16 ?_
      refine ym_aload_n (pc := 19) 0 dX8_paid_19 rfl rfl ?_
      refine ym_iload_n (pc := 20) 1 dX8_paid_20 rfl rfl ?_
      obtain ⟨o21, f21, hf⟩ := Option.bind_eq_some_iff.mp hf
      obtain ⟨q21, e21, hf⟩ := Option.bind_eq_some_iff.mp hf
      refine ym_callV (pc := 21) (G2 := g_X8_noBidder) (dep2 := 1) (As := [.int a1]) (st := []) (stk2 := [.int q21.1]) (r2 := (some (.int q21.1))) (h1 := q21.2) dX8_paid_21 (ok_X8_noBidder e21) (sc_X8_paid_X8_noBidder) wd_1059 wd_1061 wd_28 (ci := 8) (q0 := (RX8, TX8, 58)) rfl (by decide) rfl f21 rfl rfl (ym_st4 (Nat.le_of_ble_eq_true rfl)) rfl ?_
      refine ym_ineg (pc := 24) dX8_paid_24 ?_
      refine ym_i2l (pc := 25) dX8_paid_25 ?_
      cases hf
      exact ym_lret (pc := 26) dX8_paid_26 rfl
theorem dX8_paidOut_0 : decode cX8_paidOut 0 = .ok (.lload_n 2, 1) := by decide +kernel
theorem dX8_paidOut_1 : decode cX8_paidOut 1 = .ok (.invokestatic 335, 3) := by decide +kernel
theorem dX8_paidOut_4 : decode cX8_paidOut 4 = .ok (.ifCond .ne 7, 3) := by decide +kernel
theorem dX8_paidOut_7 : decode cX8_paidOut 7 = .ok (.ldc2_w 331, 3) := by decide +kernel
theorem dX8_paidOut_10 : decode cX8_paidOut 10 = .ok (.lreturn, 1) := by decide +kernel
theorem dX8_paidOut_11 : decode cX8_paidOut 11 = .ok (.aload_n 0, 1) := by decide +kernel
theorem dX8_paidOut_12 : decode cX8_paidOut 12 = .ok (.iload_n 1, 1) := by decide +kernel
theorem dX8_paidOut_13 : decode cX8_paidOut 13 = .ok (.invokevirtual 343, 3) := by decide +kernel
theorem dX8_paidOut_16 : decode cX8_paidOut 16 = .ok (.ifCond .le 11, 3) := by decide +kernel
theorem dX8_paidOut_19 : decode cX8_paidOut 19 = .ok (.aload_n 0, 1) := by decide +kernel
theorem dX8_paidOut_20 : decode cX8_paidOut 20 = .ok (.iload_n 1, 1) := by decide +kernel
theorem dX8_paidOut_21 : decode cX8_paidOut 21 = .ok (.invokevirtual 343, 3) := by decide +kernel
theorem dX8_paidOut_24 : decode cX8_paidOut 24 = .ok (.ineg, 1) := by decide +kernel
theorem dX8_paidOut_25 : decode cX8_paidOut 25 = .ok (.i2l, 1) := by decide +kernel
theorem dX8_paidOut_26 : decode cX8_paidOut 26 = .ok (.lreturn, 1) := by decide +kernel
theorem dX8_paidOut_27 : decode cX8_paidOut 27 = .ok (.aload_n 0, 1) := by decide +kernel
theorem dX8_paidOut_28 : decode cX8_paidOut 28 = .ok (.getfield 17, 3) := by decide +kernel
theorem dX8_paidOut_31 : decode cX8_paidOut 31 = .ok (.iload_n 1, 1) := by decide +kernel
theorem dX8_paidOut_32 : decode cX8_paidOut 32 = .ok (.laload, 1) := by decide +kernel
theorem dX8_paidOut_33 : decode cX8_paidOut 33 = .ok (.lload_n 2, 1) := by decide +kernel
theorem dX8_paidOut_34 : decode cX8_paidOut 34 = .ok (.lcmp, 1) := by decide +kernel
theorem dX8_paidOut_35 : decode cX8_paidOut 35 = .ok (.ifCond .ge 7, 3) := by decide +kernel
theorem dX8_paidOut_38 : decode cX8_paidOut 38 = .ok (.ldc2_w 354, 3) := by decide +kernel
theorem dX8_paidOut_41 : decode cX8_paidOut 41 = .ok (.lreturn, 1) := by decide +kernel
theorem dX8_paidOut_42 : decode cX8_paidOut 42 = .ok (.aload_n 0, 1) := by decide +kernel
theorem dX8_paidOut_43 : decode cX8_paidOut 43 = .ok (.getfield 17, 3) := by decide +kernel
theorem dX8_paidOut_46 : decode cX8_paidOut 46 = .ok (.iload_n 1, 1) := by decide +kernel
theorem dX8_paidOut_47 : decode cX8_paidOut 47 = .ok (.dup2, 1) := by decide +kernel
theorem dX8_paidOut_48 : decode cX8_paidOut 48 = .ok (.laload, 1) := by decide +kernel
theorem dX8_paidOut_49 : decode cX8_paidOut 49 = .ok (.lload_n 2, 1) := by decide +kernel
theorem dX8_paidOut_50 : decode cX8_paidOut 50 = .ok (.lsub, 1) := by decide +kernel
theorem dX8_paidOut_51 : decode cX8_paidOut 51 = .ok (.lastore, 1) := by decide +kernel
theorem dX8_paidOut_52 : decode cX8_paidOut 52 = .ok (.aload_n 0, 1) := by decide +kernel
theorem dX8_paidOut_53 : decode cX8_paidOut 53 = .ok (.getfield 117, 3) := by decide +kernel
theorem dX8_paidOut_56 : decode cX8_paidOut 56 = .ok (.iconst 2, 1) := by decide +kernel
theorem dX8_paidOut_57 : decode cX8_paidOut 57 = .ok (.dup2, 1) := by decide +kernel
theorem dX8_paidOut_58 : decode cX8_paidOut 58 = .ok (.laload, 1) := by decide +kernel
theorem dX8_paidOut_59 : decode cX8_paidOut 59 = .ok (.lload_n 2, 1) := by decide +kernel
theorem dX8_paidOut_60 : decode cX8_paidOut 60 = .ok (.ladd, 1) := by decide +kernel
theorem dX8_paidOut_61 : decode cX8_paidOut 61 = .ok (.lastore, 1) := by decide +kernel
theorem dX8_paidOut_62 : decode cX8_paidOut 62 = .ok (.lload_n 2, 1) := by decide +kernel
theorem dX8_paidOut_63 : decode cX8_paidOut 63 = .ok (.lreturn, 1) := by decide +kernel
theorem sc_X8_paidOut_X8_isSum : ym_site g_X8_paidOut g_X8_isSum 2 1 1 := ⟨by decide, by decide, wd_1046, wd_83, by decide +kernel⟩
theorem sc_X8_paidOut_X8_noBidder : ym_site g_X8_paidOut g_X8_noBidder 2 1 1 := ⟨by decide, by decide, wd_1062, wd_83, by decide +kernel⟩
def fn_X8_paidOut (N : Nat) (a0 : Option Nat) (a1 : Int32) (a2 : Int64) (h : ym_H) : Option (Int64 × ym_H) :=
  Option.bind (fn_X8_isSum N a2 h) fun q1 =>
  if q1.1 = 0 then
    some ((-1), q1.2)
  else
    Option.bind (ym_ob q1.2 a0 8) fun o13 =>
    Option.bind (fn_X8_noBidder N a0 a1 q1.2) fun q13 =>
    if q13.1 ≤ 0 then
      Option.bind (ym_gR q13.2 a0 8 3) fun v28 =>
      Option.bind (ym_ldL q13.2 v28 a1) fun v32 =>
      if a2 ≤ v32 then
        Option.bind (ym_gR q13.2 a0 8 3) fun v43 =>
        Option.bind (ym_ldL q13.2 v43 a1) fun v48 =>
        Option.bind (ym_as q13.2 v43 1 a1 (.long (v48 - a2))) fun h51 =>
        Option.bind (ym_gR h51 a0 8 40) fun v53 =>
        Option.bind (ym_ldL h51 v53 2) fun v58 =>
        Option.bind (ym_as h51 v53 1 2 (.long (v58 + a2))) fun h61 =>
        some (a2, h61)
      else
        some ((-10), q13.2)
    else
      Option.bind (ym_ob q13.2 a0 8) fun o21 =>
      Option.bind (fn_X8_noBidder N a0 a1 q13.2) fun q21 =>
      some ((Int32.toInt64 (-q21.1)), q21.2)
set_option maxRecDepth 20000 in
set_option maxHeartbeats 4000000 in
theorem ok_X8_paidOut {D : ym_D} {b0 : Nat} {N : Nat} {a0 : Option Nat} {a1 : Int32} {a2 : Int64} {h h' : ym_H} {r : Int64} (hf : fn_X8_paidOut N a0 a1 a2 h = some (r, h')) : ym_M D b0 g_X8_paidOut 2 [va_rf a0, .int a1, .long a2] h (some (.long r)) h' := by
  unfold fn_X8_paidOut at hf
  refine ym_meth (lv := [(0, va_rf a0), (1, .int a1), (2, .long a2)]) (by decide) (by simp [lg_sl, ym_c1, ym_cI, ym_cL, g_X8_paidOut]) (by simp [lv_args, ym_c1, ym_cI, ym_cL]) ?_
  refine ym_lload_n (pc := 0) 2 dX8_paidOut_0 rfl rfl ?_
  obtain ⟨q1, e1, hf⟩ := Option.bind_eq_some_iff.mp hf
  refine ym_callS (pc := 1) (G2 := g_X8_isSum) (dep2 := 1) (As := [.long a2]) (st := []) (stk2 := [.int q1.1]) (r2 := (some (.int q1.1))) (h1 := q1.2) dX8_paidOut_1 (ok_X8_isSum e1) (sc_X8_paidOut_X8_isSum) wd_1044 wd_1045 rfl rfl (ym_st4 (Nat.le_of_ble_eq_true rfl)) rfl ?_
  by_cases c4 : q1.1 = 0
  · rw [if_pos c4] at hf
    refine ym_if_ne_y (pc := 4) (tgt := 11) dX8_paidOut_4 (by decide) c4 ?_
    refine ym_ldc2 (pc := 7) dX8_paidOut_7 wd_1038 ?_
    cases hf
    exact ym_lret (pc := 10) dX8_paidOut_10 rfl
  · rw [if_neg c4] at hf
    refine ym_if_ne_n (pc := 4) (tgt := 11) dX8_paidOut_4 (by decide) c4 ?_
    refine ym_aload_n (pc := 11) 0 dX8_paidOut_11 rfl rfl ?_
    refine ym_iload_n (pc := 12) 1 dX8_paidOut_12 rfl rfl ?_
    obtain ⟨o13, f13, hf⟩ := Option.bind_eq_some_iff.mp hf
    obtain ⟨q13, e13, hf⟩ := Option.bind_eq_some_iff.mp hf
    refine ym_callV (pc := 13) (G2 := g_X8_noBidder) (dep2 := 1) (As := [.int a1]) (st := []) (stk2 := [.int q13.1]) (r2 := (some (.int q13.1))) (h1 := q13.2) dX8_paidOut_13 (ok_X8_noBidder e13) (sc_X8_paidOut_X8_noBidder) wd_1059 wd_1061 wd_28 (ci := 8) (q0 := (RX8, TX8, 58)) rfl (by decide) rfl f13 rfl rfl (ym_st4 (Nat.le_of_ble_eq_true rfl)) rfl ?_
    by_cases c16 : q13.1 ≤ 0
    · rw [if_pos c16] at hf
      refine ym_if_le_y (pc := 16) (tgt := 27) dX8_paidOut_16 (by decide) c16 ?_
      refine ym_aload_n (pc := 27) 0 dX8_paidOut_27 rfl rfl ?_
      obtain ⟨v28, e28, hf⟩ := Option.bind_eq_some_iff.mp hf
      refine ym_get (pc := 28) dX8_paidOut_28 rfl (by decide) iX8 (k := 3) (by decide) wd_848 (ym_gR_v e28) ?_
      refine ym_iload_n (pc := 31) 1 dX8_paidOut_31 rfl rfl ?_
      obtain ⟨v32, e32, hf⟩ := Option.bind_eq_some_iff.mp hf
      refine ym_lald (pc := 32) dX8_paidOut_32 rfl (ym_ldL_v e32) ?_
      refine ym_lload_n (pc := 33) 2 dX8_paidOut_33 rfl rfl ?_
      by_cases c34 : a2 ≤ v32
      · rw [if_pos c34] at hf
        refine ym_lcmp_ge_y (pc := 34) (tgt := 42) dX8_paidOut_34 dX8_paidOut_35 (by decide) c34 ?_
        refine ym_aload_n (pc := 42) 0 dX8_paidOut_42 rfl rfl ?_
        obtain ⟨v43, e43, hf⟩ := Option.bind_eq_some_iff.mp hf
        refine ym_get (pc := 43) dX8_paidOut_43 rfl (by decide) iX8 (k := 3) (by decide) wd_848 (ym_gR_v e43) ?_
        refine ym_iload_n (pc := 46) 1 dX8_paidOut_46 rfl rfl ?_
        refine ym_dup2_11 (pc := 47) dX8_paidOut_47 rfl (ym_c1 v43) ?_
        obtain ⟨v48, e48, hf⟩ := Option.bind_eq_some_iff.mp hf
        refine ym_lald (pc := 48) dX8_paidOut_48 rfl (ym_ldL_v e48) ?_
        refine ym_lload_n (pc := 49) 2 dX8_paidOut_49 rfl rfl ?_
        refine ym_lsub (pc := 50) dX8_paidOut_50 ?_
        obtain ⟨h51, e51, hf⟩ := Option.bind_eq_some_iff.mp hf
        refine ym_last (pc := 51) dX8_paidOut_51 rfl e51 ?_
        refine ym_aload_n (pc := 52) 0 dX8_paidOut_52 rfl rfl ?_
        obtain ⟨v53, e53, hf⟩ := Option.bind_eq_some_iff.mp hf
        refine ym_get (pc := 53) dX8_paidOut_53 rfl (by decide) iX8 (k := 40) (by decide) wd_885 (ym_gR_v e53) ?_
        refine ym_iconst (pc := 56) (v := 2) dX8_paidOut_56 (by decide) ?_
        refine ym_dup2_11 (pc := 57) dX8_paidOut_57 rfl (ym_c1 v53) ?_
        obtain ⟨v58, e58, hf⟩ := Option.bind_eq_some_iff.mp hf
        refine ym_lald (pc := 58) dX8_paidOut_58 rfl (ym_ldL_v e58) ?_
        refine ym_lload_n (pc := 59) 2 dX8_paidOut_59 rfl rfl ?_
        refine ym_ladd (pc := 60) dX8_paidOut_60 ?_
        obtain ⟨h61, e61, hf⟩ := Option.bind_eq_some_iff.mp hf
        refine ym_last (pc := 61) dX8_paidOut_61 rfl e61 ?_
        refine ym_lload_n (pc := 62) 2 dX8_paidOut_62 rfl rfl ?_
        cases hf
        exact ym_lret (pc := 63) dX8_paidOut_63 rfl
      · rw [if_neg c34] at hf
        refine ym_lcmp_ge_n (pc := 34) (tgt := 42) dX8_paidOut_34 dX8_paidOut_35 (by decide) c34 ?_
        refine ym_ldc2 (pc := 38) dX8_paidOut_38 wd_1076 ?_
        cases hf
        exact ym_lret (pc := 41) dX8_paidOut_41 rfl
    · rw [if_neg c16] at hf
      refine ym_if_le_n (pc := 16) (tgt := 27) dX8_paidOut_16 (by decide) c16 ?_
      refine ym_aload_n (pc := 19) 0 dX8_paidOut_19 rfl rfl ?_
      refine ym_iload_n (pc := 20) 1 dX8_paidOut_20 rfl rfl ?_
      obtain ⟨o21, f21, hf⟩ := Option.bind_eq_some_iff.mp hf
      obtain ⟨q21, e21, hf⟩ := Option.bind_eq_some_iff.mp hf
      refine ym_callV (pc := 21) (G2 := g_X8_noBidder) (dep2 := 1) (As := [.int a1]) (st := []) (stk2 := [.int q21.1]) (r2 := (some (.int q21.1))) (h1 := q21.2) dX8_paidOut_21 (ok_X8_noBidder e21) (sc_X8_paidOut_X8_noBidder) wd_1059 wd_1061 wd_28 (ci := 8) (q0 := (RX8, TX8, 58)) rfl (by decide) rfl f21 rfl rfl (ym_st4 (Nat.le_of_ble_eq_true rfl)) rfl ?_
      refine ym_ineg (pc := 24) dX8_paidOut_24 ?_
      refine ym_i2l (pc := 25) dX8_paidOut_25 ?_
      cases hf
      exact ym_lret (pc := 26) dX8_paidOut_26 rfl
theorem dX8_asked_0 : decode cX8_asked 0 = .ok (.aload_n 0, 1) := by decide +kernel
theorem dX8_asked_1 : decode cX8_asked 1 = .ok (.iload_n 1, 1) := by decide +kernel
theorem dX8_asked_2 : decode cX8_asked 2 = .ok (.invokevirtual 294, 3) := by decide +kernel
theorem dX8_asked_5 : decode cX8_asked 5 = .ok (.ifCond .le 11, 3) := by decide +kernel
theorem dX8_asked_8 : decode cX8_asked 8 = .ok (.aload_n 0, 1) := by decide +kernel
theorem dX8_asked_9 : decode cX8_asked 9 = .ok (.iload_n 1, 1) := by decide +kernel
theorem dX8_asked_10 : decode cX8_asked 10 = .ok (.invokevirtual 294, 3) := by decide +kernel
theorem dX8_asked_13 : decode cX8_asked 13 = .ok (.ineg, 1) := by decide +kernel
theorem dX8_asked_14 : decode cX8_asked 14 = .ok (.i2l, 1) := by decide +kernel
theorem dX8_asked_15 : decode cX8_asked 15 = .ok (.lreturn, 1) := by decide +kernel
theorem dX8_asked_16 : decode cX8_asked 16 = .ok (.aload_n 0, 1) := by decide +kernel
theorem dX8_asked_17 : decode cX8_asked 17 = .ok (.iload_n 1, 1) := by decide +kernel
theorem dX8_asked_18 : decode cX8_asked 18 = .ok (.invokevirtual 361, 3) := by decide +kernel
theorem dX8_asked_21 : decode cX8_asked 21 = .ok (.ifCond .le 11, 3) := by decide +kernel
theorem dX8_asked_24 : decode cX8_asked 24 = .ok (.aload_n 0, 1) := by decide +kernel
theorem dX8_asked_25 : decode cX8_asked 25 = .ok (.iload_n 1, 1) := by decide +kernel
theorem dX8_asked_26 : decode cX8_asked 26 = .ok (.invokevirtual 361, 3) := by decide +kernel
theorem dX8_asked_29 : decode cX8_asked 29 = .ok (.ineg, 1) := by decide +kernel
theorem dX8_asked_30 : decode cX8_asked 30 = .ok (.i2l, 1) := by decide +kernel
theorem dX8_asked_31 : decode cX8_asked 31 = .ok (.lreturn, 1) := by decide +kernel
theorem dX8_asked_32 : decode cX8_asked 32 = .ok (.aload_n 0, 1) := by decide +kernel
theorem dX8_asked_33 : decode cX8_asked 33 = .ok (.iload_n 1, 1) := by decide +kernel
theorem dX8_asked_34 : decode cX8_asked 34 = .ok (.invokevirtual 370, 3) := by decide +kernel
theorem dX8_asked_37 : decode cX8_asked 37 = .ok (.lreturn, 1) := by decide +kernel
theorem sc_X8_asked_X8_noLot : ym_site g_X8_asked g_X8_noLot 4 1 1 := ⟨by decide, by decide, wd_1058, wd_83, by decide +kernel⟩
theorem sc_X8_asked_X8_notOpen : ym_site g_X8_asked g_X8_notOpen 4 1 1 := ⟨by decide, by decide, wd_1130, wd_83, by decide +kernel⟩
theorem sc_X8_asked_X8_askOf : ym_site g_X8_asked g_X8_askOf 4 3 1 := ⟨by decide, by decide, wd_1139, wd_83, by decide +kernel⟩
def fn_X8_asked (N : Nat) (a0 : Option Nat) (a1 : Int32) (h : ym_H) : Option (Int64 × ym_H) :=
  Option.bind (ym_ob h a0 8) fun o2 =>
  Option.bind (fn_X8_noLot N a0 a1 h) fun q2 =>
  if q2.1 ≤ 0 then
    Option.bind (ym_ob q2.2 a0 8) fun o18 =>
    Option.bind (fn_X8_notOpen N a0 a1 q2.2) fun q18 =>
    if q18.1 ≤ 0 then
      Option.bind (ym_ob q18.2 a0 8) fun o34 =>
      Option.bind (fn_X8_askOf N a0 a1 q18.2) fun q34 =>
      some (q34.1, q34.2)
    else
      Option.bind (ym_ob q18.2 a0 8) fun o26 =>
      Option.bind (fn_X8_notOpen N a0 a1 q18.2) fun q26 =>
      some ((Int32.toInt64 (-q26.1)), q26.2)
  else
    Option.bind (ym_ob q2.2 a0 8) fun o10 =>
    Option.bind (fn_X8_noLot N a0 a1 q2.2) fun q10 =>
    some ((Int32.toInt64 (-q10.1)), q10.2)
set_option maxRecDepth 20000 in
set_option maxHeartbeats 4000000 in
theorem ok_X8_asked {D : ym_D} {b0 : Nat} {N : Nat} {a0 : Option Nat} {a1 : Int32} {h h' : ym_H} {r : Int64} (hf : fn_X8_asked N a0 a1 h = some (r, h')) : ym_M D b0 g_X8_asked 4 [va_rf a0, .int a1] h (some (.long r)) h' := by
  unfold fn_X8_asked at hf
  refine ym_meth (lv := [(0, va_rf a0), (1, .int a1)]) (by decide) (by simp [lg_sl, ym_c1, ym_cI, ym_cL, g_X8_asked]) (by simp [lv_args, ym_c1, ym_cI, ym_cL]) ?_
  refine ym_aload_n (pc := 0) 0 dX8_asked_0 rfl rfl ?_
  refine ym_iload_n (pc := 1) 1 dX8_asked_1 rfl rfl ?_
  obtain ⟨o2, f2, hf⟩ := Option.bind_eq_some_iff.mp hf
  obtain ⟨q2, e2, hf⟩ := Option.bind_eq_some_iff.mp hf
  refine ym_callV (pc := 2) (G2 := g_X8_noLot) (dep2 := 1) (As := [.int a1]) (st := []) (stk2 := [.int q2.1]) (r2 := (some (.int q2.1))) (h1 := q2.2) dX8_asked_2 (ok_X8_noLot e2) (sc_X8_asked_X8_noLot) wd_1055 wd_1057 wd_27 (ci := 8) (q0 := (RX8, TX8, 58)) rfl (by decide) rfl f2 rfl rfl (ym_st4 (Nat.le_of_ble_eq_true rfl)) rfl ?_
  by_cases c5 : q2.1 ≤ 0
  · rw [if_pos c5] at hf
    refine ym_if_le_y (pc := 5) (tgt := 16) dX8_asked_5 (by decide) c5 ?_
    refine ym_aload_n (pc := 16) 0 dX8_asked_16 rfl rfl ?_
    refine ym_iload_n (pc := 17) 1 dX8_asked_17 rfl rfl ?_
    obtain ⟨o18, f18, hf⟩ := Option.bind_eq_some_iff.mp hf
    obtain ⟨q18, e18, hf⟩ := Option.bind_eq_some_iff.mp hf
    refine ym_callV (pc := 18) (G2 := g_X8_notOpen) (dep2 := 1) (As := [.int a1]) (st := []) (stk2 := [.int q18.1]) (r2 := (some (.int q18.1))) (h1 := q18.2) dX8_asked_18 (ok_X8_notOpen e18) (sc_X8_asked_X8_notOpen) wd_1127 wd_1129 wd_41 (ci := 8) (q0 := (RX8, TX8, 58)) rfl (by decide) rfl f18 rfl rfl (ym_st4 (Nat.le_of_ble_eq_true rfl)) rfl ?_
    by_cases c21 : q18.1 ≤ 0
    · rw [if_pos c21] at hf
      refine ym_if_le_y (pc := 21) (tgt := 32) dX8_asked_21 (by decide) c21 ?_
      refine ym_aload_n (pc := 32) 0 dX8_asked_32 rfl rfl ?_
      refine ym_iload_n (pc := 33) 1 dX8_asked_33 rfl rfl ?_
      obtain ⟨o34, f34, hf⟩ := Option.bind_eq_some_iff.mp hf
      obtain ⟨q34, e34, hf⟩ := Option.bind_eq_some_iff.mp hf
      refine ym_callV (pc := 34) (G2 := g_X8_askOf) (dep2 := 3) (As := [.int a1]) (st := []) (stk2 := [.long q34.1]) (r2 := (some (.long q34.1))) (h1 := q34.2) dX8_asked_34 (ok_X8_askOf e34) (sc_X8_asked_X8_askOf) wd_1136 wd_1138 wd_43 (ci := 8) (q0 := (RX8, TX8, 58)) rfl (by decide) rfl f34 rfl rfl (ym_st4 (Nat.le_of_ble_eq_true rfl)) rfl ?_
      cases hf
      exact ym_lret (pc := 37) dX8_asked_37 rfl
    · rw [if_neg c21] at hf
      refine ym_if_le_n (pc := 21) (tgt := 32) dX8_asked_21 (by decide) c21 ?_
      refine ym_aload_n (pc := 24) 0 dX8_asked_24 rfl rfl ?_
      refine ym_iload_n (pc := 25) 1 dX8_asked_25 rfl rfl ?_
      obtain ⟨o26, f26, hf⟩ := Option.bind_eq_some_iff.mp hf
      obtain ⟨q26, e26, hf⟩ := Option.bind_eq_some_iff.mp hf
      refine ym_callV (pc := 26) (G2 := g_X8_notOpen) (dep2 := 1) (As := [.int a1]) (st := []) (stk2 := [.int q26.1]) (r2 := (some (.int q26.1))) (h1 := q26.2) dX8_asked_26 (ok_X8_notOpen e26) (sc_X8_asked_X8_notOpen) wd_1127 wd_1129 wd_41 (ci := 8) (q0 := (RX8, TX8, 58)) rfl (by decide) rfl f26 rfl rfl (ym_st4 (Nat.le_of_ble_eq_true rfl)) rfl ?_
      refine ym_ineg (pc := 29) dX8_asked_29 ?_
      refine ym_i2l (pc := 30) dX8_asked_30 ?_
      cases hf
      exact ym_lret (pc := 31) dX8_asked_31 rfl
  · rw [if_neg c5] at hf
    refine ym_if_le_n (pc := 5) (tgt := 16) dX8_asked_5 (by decide) c5 ?_
    refine ym_aload_n (pc := 8) 0 dX8_asked_8 rfl rfl ?_
    refine ym_iload_n (pc := 9) 1 dX8_asked_9 rfl rfl ?_
    obtain ⟨o10, f10, hf⟩ := Option.bind_eq_some_iff.mp hf
    obtain ⟨q10, e10, hf⟩ := Option.bind_eq_some_iff.mp hf
    refine ym_callV (pc := 10) (G2 := g_X8_noLot) (dep2 := 1) (As := [.int a1]) (st := []) (stk2 := [.int q10.1]) (r2 := (some (.int q10.1))) (h1 := q10.2) dX8_asked_10 (ok_X8_noLot e10) (sc_X8_asked_X8_noLot) wd_1055 wd_1057 wd_27 (ci := 8) (q0 := (RX8, TX8, 58)) rfl (by decide) rfl f10 rfl rfl (ym_st4 (Nat.le_of_ble_eq_true rfl)) rfl ?_
    refine ym_ineg (pc := 13) dX8_asked_13 ?_
    refine ym_i2l (pc := 14) dX8_asked_14 ?_
    cases hf
    exact ym_lret (pc := 15) dX8_asked_15 rfl
theorem dX8_entryAt_0 : decode cX8_entryAt 0 = .ok (.aload_n 0, 1) := by decide +kernel
theorem dX8_entryAt_1 : decode cX8_entryAt 1 = .ok (.iload_n 2, 1) := by decide +kernel
theorem dX8_entryAt_2 : decode cX8_entryAt 2 = .ok (.invokevirtual 294, 3) := by decide +kernel
theorem dX8_entryAt_5 : decode cX8_entryAt 5 = .ok (.ifCond .le 11, 3) := by decide +kernel
theorem dX8_entryAt_8 : decode cX8_entryAt 8 = .ok (.aload_n 0, 1) := by decide +kernel
theorem dX8_entryAt_9 : decode cX8_entryAt 9 = .ok (.iload_n 2, 1) := by decide +kernel
theorem dX8_entryAt_10 : decode cX8_entryAt 10 = .ok (.invokevirtual 294, 3) := by decide +kernel
theorem dX8_entryAt_13 : decode cX8_entryAt 13 = .ok (.ineg, 1) := by decide +kernel
theorem dX8_entryAt_14 : decode cX8_entryAt 14 = .ok (.i2l, 1) := by decide +kernel
theorem dX8_entryAt_15 : decode cX8_entryAt 15 = .ok (.lreturn, 1) := by decide +kernel
theorem dX8_entryAt_16 : decode cX8_entryAt 16 = .ok (.aload_n 0, 1) := by decide +kernel
theorem dX8_entryAt_17 : decode cX8_entryAt 17 = .ok (.getfield 44, 3) := by decide +kernel
theorem dX8_entryAt_20 : decode cX8_entryAt 20 = .ok (.iload_n 2, 1) := by decide +kernel
theorem dX8_entryAt_21 : decode cX8_entryAt 21 = .ok (.iaload, 1) := by decide +kernel
theorem dX8_entryAt_22 : decode cX8_entryAt 22 = .ok (.ifCond .ge 7, 3) := by decide +kernel
theorem dX8_entryAt_25 : decode cX8_entryAt 25 = .ok (.ldc2_w 398, 3) := by decide +kernel
theorem dX8_entryAt_28 : decode cX8_entryAt 28 = .ok (.lreturn, 1) := by decide +kernel
theorem dX8_entryAt_29 : decode cX8_entryAt 29 = .ok (.aload_n 0, 1) := by decide +kernel
theorem dX8_entryAt_30 : decode cX8_entryAt 30 = .ok (.getfield 20, 3) := by decide +kernel
theorem dX8_entryAt_33 : decode cX8_entryAt 33 = .ok (.iload_n 2, 1) := by decide +kernel
theorem dX8_entryAt_34 : decode cX8_entryAt 34 = .ok (.iaload, 1) := by decide +kernel
theorem dX8_entryAt_35 : decode cX8_entryAt 35 = .ok (.iconst 4, 1) := by decide +kernel
theorem dX8_entryAt_36 : decode cX8_entryAt 36 = .ok (.if_icmp .ne 26, 3) := by decide +kernel
theorem dX8_entryAt_39 : decode cX8_entryAt 39 = .ok (.aload_n 0, 1) := by decide +kernel
theorem dX8_entryAt_40 : decode cX8_entryAt 40 = .ok (.getfield 32, 3) := by decide +kernel
theorem dX8_entryAt_43 : decode cX8_entryAt 43 = .ok (.iload_n 2, 1) := by decide +kernel
theorem dX8_entryAt_44 : decode cX8_entryAt 44 = .ok (.iaload, 1) := by decide +kernel
theorem dX8_entryAt_45 : decode cX8_entryAt 45 = .ok (.iconst 1, 1) := by decide +kernel
theorem dX8_entryAt_46 : decode cX8_entryAt 46 = .ok (.if_icmp .ne 16, 3) := by decide +kernel
theorem dX8_entryAt_49 : decode cX8_entryAt 49 = .ok (.aload_n 0, 1) := by decide +kernel
theorem dX8_entryAt_50 : decode cX8_entryAt 50 = .ok (.getfield 77, 3) := by decide +kernel
theorem dX8_entryAt_53 : decode cX8_entryAt 53 = .ok (.iload_n 2, 1) := by decide +kernel
theorem dX8_entryAt_54 : decode cX8_entryAt 54 = .ok (.baload, 1) := by decide +kernel
theorem dX8_entryAt_55 : decode cX8_entryAt 55 = .ok (.ifCond .ne 7, 3) := by decide +kernel
theorem dX8_entryAt_58 : decode cX8_entryAt 58 = .ok (.ldc2_w 400, 3) := by decide +kernel
theorem dX8_entryAt_61 : decode cX8_entryAt 61 = .ok (.lreturn, 1) := by decide +kernel
theorem dX8_entryAt_62 : decode cX8_entryAt 62 = .ok (.iload_n 3, 1) := by decide +kernel
theorem dX8_entryAt_63 : decode cX8_entryAt 63 = .ok (.ifCond .lt 13, 3) := by decide +kernel
theorem dX8_entryAt_66 : decode cX8_entryAt 66 = .ok (.iload_n 3, 1) := by decide +kernel
theorem dX8_entryAt_67 : decode cX8_entryAt 67 = .ok (.aload_n 0, 1) := by decide +kernel
theorem dX8_entryAt_68 : decode cX8_entryAt 68 = .ok (.getfield 44, 3) := by decide +kernel
theorem dX8_entryAt_71 : decode cX8_entryAt 71 = .ok (.iload_n 2, 1) := by decide +kernel
theorem dX8_entryAt_72 : decode cX8_entryAt 72 = .ok (.iaload, 1) := by decide +kernel
theorem dX8_entryAt_73 : decode cX8_entryAt 73 = .ok (.if_icmp .lt 7, 3) := by decide +kernel
theorem dX8_entryAt_76 : decode cX8_entryAt 76 = .ok (.ldc2_w 402, 3) := by decide +kernel
theorem dX8_entryAt_79 : decode cX8_entryAt 79 = .ok (.lreturn, 1) := by decide +kernel
theorem dX8_entryAt_80 : decode cX8_entryAt 80 = .ok (.aload_n 0, 1) := by decide +kernel
theorem dX8_entryAt_81 : decode cX8_entryAt 81 = .ok (.getfield 47, 3) := by decide +kernel
theorem dX8_entryAt_84 : decode cX8_entryAt 84 = .ok (.iload_n 2, 1) := by decide +kernel
theorem dX8_entryAt_85 : decode cX8_entryAt 85 = .ok (.iaload, 1) := by decide +kernel
theorem dX8_entryAt_86 : decode cX8_entryAt 86 = .ok (.istore 4, 2) := by decide +kernel
theorem dX8_entryAt_88 : decode cX8_entryAt 88 = .ok (.aload_n 0, 1) := by decide +kernel
theorem dX8_entryAt_89 : decode cX8_entryAt 89 = .ok (.getfield 44, 3) := by decide +kernel
theorem dX8_entryAt_92 : decode cX8_entryAt 92 = .ok (.iload_n 2, 1) := by decide +kernel
theorem dX8_entryAt_93 : decode cX8_entryAt 93 = .ok (.iaload, 1) := by decide +kernel
theorem dX8_entryAt_94 : decode cX8_entryAt 94 = .ok (.iconst 1, 1) := by decide +kernel
theorem dX8_entryAt_95 : decode cX8_entryAt 95 = .ok (.isub, 1) := by decide +kernel
theorem dX8_entryAt_96 : decode cX8_entryAt 96 = .ok (.istore 5, 2) := by decide +kernel
theorem dX8_entryAt_98 : decode cX8_entryAt 98 = .ok (.iload 5, 2) := by decide +kernel
theorem dX8_entryAt_100 : decode cX8_entryAt 100 = .ok (.iload_n 3, 1) := by decide +kernel
theorem dX8_entryAt_101 : decode cX8_entryAt 101 = .ok (.if_icmp .le 18, 3) := by decide +kernel
theorem dX8_entryAt_104 : decode cX8_entryAt 104 = .ok (.aload_n 0, 1) := by decide +kernel
theorem dX8_entryAt_105 : decode cX8_entryAt 105 = .ok (.getfield 56, 3) := by decide +kernel
theorem dX8_entryAt_108 : decode cX8_entryAt 108 = .ok (.iload 4, 2) := by decide +kernel
theorem dX8_entryAt_110 : decode cX8_entryAt 110 = .ok (.iaload, 1) := by decide +kernel
theorem dX8_entryAt_111 : decode cX8_entryAt 111 = .ok (.istore 4, 2) := by decide +kernel
theorem dX8_entryAt_113 : decode cX8_entryAt 113 = .ok (.iinc 5 (-1), 3) := by decide +kernel
theorem dX8_entryAt_116 : decode cX8_entryAt 116 = .ok (.goto (-18), 3) := by decide +kernel
theorem dX8_entryAt_119 : decode cX8_entryAt 119 = .ok (.iload_n 1, 1) := by decide +kernel
theorem dX8_entryAt_120 : decode cX8_entryAt 120 = .ok (.bipush 21, 2) := by decide +kernel
theorem dX8_entryAt_122 : decode cX8_entryAt 122 = .ok (.if_icmp .ne 14, 3) := by decide +kernel
theorem dX8_entryAt_125 : decode cX8_entryAt 125 = .ok (.aload_n 0, 1) := by decide +kernel
theorem dX8_entryAt_126 : decode cX8_entryAt 126 = .ok (.getfield 50, 3) := by decide +kernel
theorem dX8_entryAt_129 : decode cX8_entryAt 129 = .ok (.iload 4, 2) := by decide +kernel
theorem dX8_entryAt_131 : decode cX8_entryAt 131 = .ok (.iaload, 1) := by decide +kernel
theorem dX8_entryAt_132 : decode cX8_entryAt 132 = .ok (.i2l, 1) := by decide +kernel
theorem dX8_entryAt_133 : decode cX8_entryAt 133 = .ok (.goto 10, 3) := by decide +kernel
theorem dX8_entryAt_136 : decode cX8_entryAt 136 = .ok (.aload_n 0, 1) := by decide +kernel
theorem dX8_entryAt_137 : decode cX8_entryAt 137 = .ok (.getfield 53, 3) := by decide +kernel
theorem dX8_entryAt_140 : decode cX8_entryAt 140 = .ok (.iload 4, 2) := by decide +kernel
theorem dX8_entryAt_142 : decode cX8_entryAt 142 = .ok (.laload, 1) := by decide +kernel
theorem dX8_entryAt_143 : decode cX8_entryAt 143 = .ok (.lreturn, 1) := by decide +kernel
theorem sc_X8_entryAt_X8_noLot : ym_site g_X8_entryAt g_X8_noLot 2 1 1 := ⟨by decide, by decide, wd_1058, wd_83, by decide +kernel⟩
def lb_X8_entryAt_98 (K : Option Nat → Int32 → Int32 → Int32 → Int32 → ym_H → Option ((Int32) × ym_H)) (N : Nat) (w0 : Option Nat) (w1 : Int32) (w3 : Int32) (w4 : Int32) (w5 : Int32) (h : ym_H) : Option ((Int32) × ym_H) :=
  if w5 ≤ w3 then
    some (w4, h)
  else
    Option.bind (ym_gR h w0 8 18) fun v105 =>
    Option.bind (ym_ldI h v105 w4) fun v110 =>
    K w0 w1 w3 v110 (w5 + (-1)) h
set_option maxRecDepth 20000 in
set_option maxHeartbeats 4000000 in
theorem ol_X8_entryAt_98 {D : ym_D} {b0 : Nat} {K : Option Nat → Int32 → Int32 → Int32 → Int32 → ym_H → Option ((Int32) × ym_H)} {N : Nat} {w0 : Option Nat} {w1 : Int32} {w3 : Int32} {w4 : Int32} {w5 : Int32} {h h1 : ym_H} {x : (Int32)} (hKl : ∀ (u3 : Int32) (u4 : Int32) (u5 : Int32) (h h1 : ym_H) (x : (Int32)), K w0 w1 u3 u4 u5 h = some (x, h1) → ∀ {r0 : Option Value} {h' : ym_H}, ym_Y D b0 g_X8_entryAt 2 119 [(0, va_rf w0), (1, .int w1), (4, .int x)] [] h1 r0 h' → ym_Y D b0 g_X8_entryAt 2 98 [(0, va_rf w0), (1, .int w1), (3, .int u3), (4, .int u4), (5, .int u5)] [] h r0 h') (hf : lb_X8_entryAt_98 K N w0 w1 w3 w4 w5 h = some (x, h1)) {r0 : Option Value} {h' : ym_H} (k : ym_Y D b0 g_X8_entryAt 2 119 [(0, va_rf w0), (1, .int w1), (4, .int x)] [] h1 r0 h') : ym_Y D b0 g_X8_entryAt 2 98 [(0, va_rf w0), (1, .int w1), (3, .int w3), (4, .int w4), (5, .int w5)] [] h r0 h' := by
  unfold lb_X8_entryAt_98 at hf
  refine ym_iload (pc := 98) 4 dX8_entryAt_98 rfl ?_
  refine ym_iload_n (pc := 100) 2 dX8_entryAt_100 rfl rfl ?_
  by_cases c101 : w5 ≤ w3
  · rw [if_pos c101] at hf
    refine ym_icmp_le_y (pc := 101) (tgt := 119) dX8_entryAt_101 (by decide) c101 ?_
    cases hf
    exact ym_sub [0, 1, 3] rfl k
  · rw [if_neg c101] at hf
    refine ym_icmp_le_n (pc := 101) (tgt := 119) dX8_entryAt_101 (by decide) c101 ?_
    refine ym_aload_n (pc := 104) 0 dX8_entryAt_104 rfl rfl ?_
    obtain ⟨v105, e105, hf⟩ := Option.bind_eq_some_iff.mp hf
    refine ym_get (pc := 105) dX8_entryAt_105 rfl (by decide) iX8 (k := 18) (by decide) wd_863 (ym_gR_v e105) ?_
    refine ym_iload (pc := 108) 3 dX8_entryAt_108 rfl ?_
    obtain ⟨v110, e110, hf⟩ := Option.bind_eq_some_iff.mp hf
    refine ym_iald (pc := 110) dX8_entryAt_110 rfl (ym_ldI_v e110) ?_
    refine ym_istore (pc := 111) (lv' := [(4, .int v110), (0, va_rf w0), (1, .int w1), (3, .int w3), (5, .int w5)]) dX8_entryAt_111 (by decide) ⟨trivial, trivial, rfl, trivial, trivial, trivial⟩ rfl ?_
    refine ym_iinc (pc := 113) (lv' := [(5, .int (w5 + (-1))), (4, .int v110), (0, va_rf w0), (1, .int w1), (3, .int w3)]) (v := (w5 + (-1))) 4 dX8_entryAt_113 rfl (by rw [show Int32.ofInt (-1) = (-1) by decide]) (by decide) ⟨rfl, trivial, trivial, trivial, trivial, trivial⟩ rfl ?_
    refine ym_goto (pc := 116) (tgt := 98) dX8_entryAt_116 (by decide) ?_
    exact ym_sub [2, 3, 4, 1, 0] rfl (hKl _ _ _ _ _ _ hf k)
def lp_X8_entryAt_98 (N : Nat) : Nat → Option Nat → Int32 → Int32 → Int32 → Int32 → ym_H → Option ((Int32) × ym_H)
  | 0, _, _, _, _, _, _ => none
  | n + 1, w0, w1, w3, w4, w5, h => lb_X8_entryAt_98 (lp_X8_entryAt_98 N n) N w0 w1 w3 w4 w5 h
set_option maxRecDepth 20000 in
set_option maxHeartbeats 4000000 in
theorem ok_lp_X8_entryAt_98 {D : ym_D} {b0 : Nat} {N : Nat} {w0 : Option Nat} {w1 : Int32} : ∀ (n : Nat) (w3 : Int32) (w4 : Int32) (w5 : Int32) (h h1 : ym_H) (x : (Int32)), lp_X8_entryAt_98 N n w0 w1 w3 w4 w5 h = some (x, h1) → ∀ {r0 : Option Value} {h' : ym_H}, ym_Y D b0 g_X8_entryAt 2 119 [(0, va_rf w0), (1, .int w1), (4, .int x)] [] h1 r0 h' → ym_Y D b0 g_X8_entryAt 2 98 [(0, va_rf w0), (1, .int w1), (3, .int w3), (4, .int w4), (5, .int w5)] [] h r0 h' := by
  intro n
  induction n with
  | zero =>
    intro w3 w4 w5 h h1 x hf
    cases hf
  | succ n ih =>
    intro w3 w4 w5 h h1 x hf r0 h' k
    exact ol_X8_entryAt_98 (fun w3 w4 w5 h h1 x z r0 h' k => ih w3 w4 w5 h h1 x z k) hf k
def bl_X8_entryAt_62 (N : Nat) (w0 : Option Nat) (w1 : Int32) (w2 : Int32) (w3 : Int32) (h : ym_H) : Option (Int64 × ym_H) :=
  if w3 < 0 then
    some ((-3), h)
  else
    Option.bind (ym_gR h w0 8 13) fun v68 =>
    Option.bind (ym_ldI h v68 w2) fun v72 =>
    if w3 < v72 then
      Option.bind (ym_gR h w0 8 14) fun v81 =>
      Option.bind (ym_ldI h v81 w2) fun v85 =>
      Option.bind (ym_gR h w0 8 13) fun v89 =>
      Option.bind (ym_ldI h v89 w2) fun v93 =>
      Option.bind (lp_X8_entryAt_98 N N w0 w1 w3 v85 (v93 - 1) h) fun q98 =>
      if w1 = 21 then
        Option.bind (ym_gR q98.2 w0 8 16) fun v126 =>
        Option.bind (ym_ldI q98.2 v126 q98.1) fun v131 =>
        some ((Int32.toInt64 v131), q98.2)
      else
        Option.bind (ym_gR q98.2 w0 8 17) fun v137 =>
        Option.bind (ym_ldL q98.2 v137 q98.1) fun v142 =>
        some (v142, q98.2)
    else
      some ((-3), h)
set_option maxRecDepth 20000 in
set_option maxHeartbeats 4000000 in
theorem ob_X8_entryAt_62 {D : ym_D} {b0 : Nat} {N : Nat} {w0 : Option Nat} {w1 : Int32} {w2 : Int32} {w3 : Int32} {h h' : ym_H} {r : Int64} (hf : bl_X8_entryAt_62 N w0 w1 w2 w3 h = some (r, h')) : ym_Y D b0 g_X8_entryAt 2 62 [(0, va_rf w0), (1, .int w1), (2, .int w2), (3, .int w3)] [] h (some (.long r)) h' := by
  unfold bl_X8_entryAt_62 at hf
  refine ym_iload_n (pc := 62) 3 dX8_entryAt_62 rfl rfl ?_
  by_cases c63 : w3 < 0
  · rw [if_pos c63] at hf
    refine ym_if_lt_y (pc := 63) (tgt := 76) dX8_entryAt_63 (by decide) c63 ?_
    refine ym_ldc2 (pc := 76) dX8_entryAt_76 wd_1248 ?_
    cases hf
    exact ym_lret (pc := 79) dX8_entryAt_79 rfl
  · rw [if_neg c63] at hf
    refine ym_if_lt_n (pc := 63) (tgt := 76) dX8_entryAt_63 (by decide) c63 ?_
    refine ym_iload_n (pc := 66) 3 dX8_entryAt_66 rfl rfl ?_
    refine ym_aload_n (pc := 67) 0 dX8_entryAt_67 rfl rfl ?_
    obtain ⟨v68, e68, hf⟩ := Option.bind_eq_some_iff.mp hf
    refine ym_get (pc := 68) dX8_entryAt_68 rfl (by decide) iX8 (k := 13) (by decide) wd_858 (ym_gR_v e68) ?_
    refine ym_iload_n (pc := 71) 2 dX8_entryAt_71 rfl rfl ?_
    obtain ⟨v72, e72, hf⟩ := Option.bind_eq_some_iff.mp hf
    refine ym_iald (pc := 72) dX8_entryAt_72 rfl (ym_ldI_v e72) ?_
    by_cases c73 : w3 < v72
    · rw [if_pos c73] at hf
      refine ym_icmp_lt_y (pc := 73) (tgt := 80) dX8_entryAt_73 (by decide) c73 ?_
      refine ym_aload_n (pc := 80) 0 dX8_entryAt_80 rfl rfl ?_
      obtain ⟨v81, e81, hf⟩ := Option.bind_eq_some_iff.mp hf
      refine ym_get (pc := 81) dX8_entryAt_81 rfl (by decide) iX8 (k := 14) (by decide) wd_859 (ym_gR_v e81) ?_
      refine ym_iload_n (pc := 84) 2 dX8_entryAt_84 rfl rfl ?_
      obtain ⟨v85, e85, hf⟩ := Option.bind_eq_some_iff.mp hf
      refine ym_iald (pc := 85) dX8_entryAt_85 rfl (ym_ldI_v e85) ?_
      refine ym_istore (pc := 86) (lv' := [(4, .int v85), (0, va_rf w0), (1, .int w1), (2, .int w2), (3, .int w3)]) dX8_entryAt_86 (by decide) ⟨trivial, trivial, trivial, rfl, trivial⟩ rfl ?_
      refine ym_aload_n (pc := 88) 1 dX8_entryAt_88 rfl rfl ?_
      obtain ⟨v89, e89, hf⟩ := Option.bind_eq_some_iff.mp hf
      refine ym_get (pc := 89) dX8_entryAt_89 rfl (by decide) iX8 (k := 13) (by decide) wd_858 (ym_gR_v e89) ?_
      refine ym_iload_n (pc := 92) 3 dX8_entryAt_92 rfl rfl ?_
      obtain ⟨v93, e93, hf⟩ := Option.bind_eq_some_iff.mp hf
      refine ym_iald (pc := 93) dX8_entryAt_93 rfl (ym_ldI_v e93) ?_
      refine ym_iconst (pc := 94) (v := 1) dX8_entryAt_94 (by decide) ?_
      refine ym_isub (pc := 95) dX8_entryAt_95 ?_
      refine ym_sub (lv' := [(4, .int v85), (0, va_rf w0), (1, .int w1), (3, .int w3)]) [0, 1, 2, 4] rfl ?_
      refine ym_istore (pc := 96) (lv' := [(5, .int (v93 - 1)), (4, .int v85), (0, va_rf w0), (1, .int w1), (3, .int w3)]) dX8_entryAt_96 (by decide) ⟨rfl, trivial, trivial, trivial, trivial⟩ rfl ?_
      obtain ⟨q98, e98, hf⟩ := Option.bind_eq_some_iff.mp hf
      refine ym_sub (lv' := [(0, va_rf w0), (1, .int w1), (3, .int w3), (4, .int v85), (5, .int (v93 - 1))]) [2, 3, 4, 1, 0] rfl ?_
      refine ok_lp_X8_entryAt_98 N _ _ _ _ _ _ e98 ?_
      refine ym_iload_n (pc := 119) 1 dX8_entryAt_119 rfl rfl ?_
      refine ym_bipush (pc := 120) (v := 21) dX8_entryAt_120 (by decide) ?_
      by_cases c122 : w1 = 21
      · rw [if_pos c122] at hf
        refine ym_icmp_ne_y (pc := 122) (tgt := 136) dX8_entryAt_122 (by decide) c122 ?_
        refine ym_aload_n (pc := 125) 0 dX8_entryAt_125 rfl rfl ?_
        obtain ⟨v126, e126, hf⟩ := Option.bind_eq_some_iff.mp hf
        refine ym_get (pc := 126) dX8_entryAt_126 rfl (by decide) iX8 (k := 16) (by decide) wd_861 (ym_gR_v e126) ?_
        refine ym_iload (pc := 129) 2 dX8_entryAt_129 rfl ?_
        obtain ⟨v131, e131, hf⟩ := Option.bind_eq_some_iff.mp hf
        refine ym_iald (pc := 131) dX8_entryAt_131 rfl (ym_ldI_v e131) ?_
        refine ym_i2l (pc := 132) dX8_entryAt_132 ?_
        refine ym_goto (pc := 133) (tgt := 143) dX8_entryAt_133 (by decide) ?_
        cases hf
        exact ym_lret (pc := 143) dX8_entryAt_143 rfl
      · rw [if_neg c122] at hf
        refine ym_icmp_ne_n (pc := 122) (tgt := 136) dX8_entryAt_122 (by decide) c122 ?_
        refine ym_aload_n (pc := 136) 0 dX8_entryAt_136 rfl rfl ?_
        obtain ⟨v137, e137, hf⟩ := Option.bind_eq_some_iff.mp hf
        refine ym_get (pc := 137) dX8_entryAt_137 rfl (by decide) iX8 (k := 17) (by decide) wd_862 (ym_gR_v e137) ?_
        refine ym_iload (pc := 140) 2 dX8_entryAt_140 rfl ?_
        obtain ⟨v142, e142, hf⟩ := Option.bind_eq_some_iff.mp hf
        refine ym_lald (pc := 142) dX8_entryAt_142 rfl (ym_ldL_v e142) ?_
        cases hf
        exact ym_lret (pc := 143) dX8_entryAt_143 rfl
    · rw [if_neg c73] at hf
      refine ym_icmp_lt_n (pc := 73) (tgt := 80) dX8_entryAt_73 (by decide) c73 ?_
      refine ym_ldc2 (pc := 76) dX8_entryAt_76 wd_1248 ?_
      cases hf
      exact ym_lret (pc := 79) dX8_entryAt_79 rfl
def fn_X8_entryAt (N : Nat) (a0 : Option Nat) (a1 : Int32) (a2 : Int32) (a3 : Int32) (h : ym_H) : Option (Int64 × ym_H) :=
  Option.bind (ym_ob h a0 8) fun o2 =>
  Option.bind (fn_X8_noLot N a0 a2 h) fun q2 =>
  if q2.1 ≤ 0 then
    Option.bind (ym_gR q2.2 a0 8 13) fun v17 =>
    Option.bind (ym_ldI q2.2 v17 a2) fun v21 =>
    if 0 ≤ v21 then
      Option.bind (ym_gR q2.2 a0 8 5) fun v30 =>
      Option.bind (ym_ldI q2.2 v30 a2) fun v34 =>
      if v34 = 4 then
        Option.bind (ym_gR q2.2 a0 8 9) fun v40 =>
        Option.bind (ym_ldI q2.2 v40 a2) fun v44 =>
        if v44 = 1 then
          Option.bind (ym_gR q2.2 a0 8 25) fun v50 =>
          Option.bind (ym_ldZ q2.2 v50 a2) fun v54 =>
          if v54 = 0 then
            some ((-7), q2.2)
          else
            bl_X8_entryAt_62 N a0 a1 a2 a3 q2.2
        else
          bl_X8_entryAt_62 N a0 a1 a2 a3 q2.2
      else
        bl_X8_entryAt_62 N a0 a1 a2 a3 q2.2
    else
      some ((-6), q2.2)
  else
    Option.bind (ym_ob q2.2 a0 8) fun o10 =>
    Option.bind (fn_X8_noLot N a0 a2 q2.2) fun q10 =>
    some ((Int32.toInt64 (-q10.1)), q10.2)
set_option maxRecDepth 20000 in
set_option maxHeartbeats 4000000 in
theorem ok_X8_entryAt {D : ym_D} {b0 : Nat} {N : Nat} {a0 : Option Nat} {a1 : Int32} {a2 : Int32} {a3 : Int32} {h h' : ym_H} {r : Int64} (hf : fn_X8_entryAt N a0 a1 a2 a3 h = some (r, h')) : ym_M D b0 g_X8_entryAt 2 [va_rf a0, .int a1, .int a2, .int a3] h (some (.long r)) h' := by
  unfold fn_X8_entryAt at hf
  refine ym_meth (lv := [(0, va_rf a0), (1, .int a1), (2, .int a2), (3, .int a3)]) (by decide) (by simp [lg_sl, ym_c1, ym_cI, ym_cL, g_X8_entryAt]) (by simp [lv_args, ym_c1, ym_cI, ym_cL]) ?_
  refine ym_aload_n (pc := 0) 0 dX8_entryAt_0 rfl rfl ?_
  refine ym_iload_n (pc := 1) 2 dX8_entryAt_1 rfl rfl ?_
  obtain ⟨o2, f2, hf⟩ := Option.bind_eq_some_iff.mp hf
  obtain ⟨q2, e2, hf⟩ := Option.bind_eq_some_iff.mp hf
  refine ym_callV (pc := 2) (G2 := g_X8_noLot) (dep2 := 1) (As := [.int a2]) (st := []) (stk2 := [.int q2.1]) (r2 := (some (.int q2.1))) (h1 := q2.2) dX8_entryAt_2 (ok_X8_noLot e2) (sc_X8_entryAt_X8_noLot) wd_1055 wd_1057 wd_27 (ci := 8) (q0 := (RX8, TX8, 58)) rfl (by decide) rfl f2 rfl rfl (ym_st4 (Nat.le_of_ble_eq_true rfl)) rfl ?_
  by_cases c5 : q2.1 ≤ 0
  · rw [if_pos c5] at hf
    refine ym_if_le_y (pc := 5) (tgt := 16) dX8_entryAt_5 (by decide) c5 ?_
    refine ym_aload_n (pc := 16) 0 dX8_entryAt_16 rfl rfl ?_
    obtain ⟨v17, e17, hf⟩ := Option.bind_eq_some_iff.mp hf
    refine ym_get (pc := 17) dX8_entryAt_17 rfl (by decide) iX8 (k := 13) (by decide) wd_858 (ym_gR_v e17) ?_
    refine ym_iload_n (pc := 20) 2 dX8_entryAt_20 rfl rfl ?_
    obtain ⟨v21, e21, hf⟩ := Option.bind_eq_some_iff.mp hf
    refine ym_iald (pc := 21) dX8_entryAt_21 rfl (ym_ldI_v e21) ?_
    by_cases c22 : 0 ≤ v21
    · rw [if_pos c22] at hf
      refine ym_if_ge_y (pc := 22) (tgt := 29) dX8_entryAt_22 (by decide) c22 ?_
      refine ym_aload_n (pc := 29) 0 dX8_entryAt_29 rfl rfl ?_
      obtain ⟨v30, e30, hf⟩ := Option.bind_eq_some_iff.mp hf
      refine ym_get (pc := 30) dX8_entryAt_30 rfl (by decide) iX8 (k := 5) (by decide) wd_850 (ym_gR_v e30) ?_
      refine ym_iload_n (pc := 33) 2 dX8_entryAt_33 rfl rfl ?_
      obtain ⟨v34, e34, hf⟩ := Option.bind_eq_some_iff.mp hf
      refine ym_iald (pc := 34) dX8_entryAt_34 rfl (ym_ldI_v e34) ?_
      refine ym_iconst (pc := 35) (v := 4) dX8_entryAt_35 (by decide) ?_
      by_cases c36 : v34 = 4
      · rw [if_pos c36] at hf
        refine ym_icmp_ne_y (pc := 36) (tgt := 62) dX8_entryAt_36 (by decide) c36 ?_
        refine ym_aload_n (pc := 39) 0 dX8_entryAt_39 rfl rfl ?_
        obtain ⟨v40, e40, hf⟩ := Option.bind_eq_some_iff.mp hf
        refine ym_get (pc := 40) dX8_entryAt_40 rfl (by decide) iX8 (k := 9) (by decide) wd_854 (ym_gR_v e40) ?_
        refine ym_iload_n (pc := 43) 2 dX8_entryAt_43 rfl rfl ?_
        obtain ⟨v44, e44, hf⟩ := Option.bind_eq_some_iff.mp hf
        refine ym_iald (pc := 44) dX8_entryAt_44 rfl (ym_ldI_v e44) ?_
        refine ym_iconst (pc := 45) (v := 1) dX8_entryAt_45 (by decide) ?_
        by_cases c46 : v44 = 1
        · rw [if_pos c46] at hf
          refine ym_icmp_ne_y (pc := 46) (tgt := 62) dX8_entryAt_46 (by decide) c46 ?_
          refine ym_aload_n (pc := 49) 0 dX8_entryAt_49 rfl rfl ?_
          obtain ⟨v50, e50, hf⟩ := Option.bind_eq_some_iff.mp hf
          refine ym_get (pc := 50) dX8_entryAt_50 rfl (by decide) iX8 (k := 25) (by decide) wd_870 (ym_gR_v e50) ?_
          refine ym_iload_n (pc := 53) 2 dX8_entryAt_53 rfl rfl ?_
          obtain ⟨v54, e54, hf⟩ := Option.bind_eq_some_iff.mp hf
          refine ym_zald (pc := 54) dX8_entryAt_54 rfl (ym_ldZ_v e54) ?_
          by_cases c55 : v54 = 0
          · rw [if_pos c55] at hf
            refine ym_if_ne_y (pc := 55) (tgt := 62) dX8_entryAt_55 (by decide) c55 ?_
            refine ym_ldc2 (pc := 58) dX8_entryAt_58 wd_1247 ?_
            cases hf
            exact ym_lret (pc := 61) dX8_entryAt_61 rfl
          · rw [if_neg c55] at hf
            refine ym_if_ne_n (pc := 55) (tgt := 62) dX8_entryAt_55 (by decide) c55 ?_
            exact ym_sub [0, 1, 2, 3] rfl (ob_X8_entryAt_62 hf)
        · rw [if_neg c46] at hf
          refine ym_icmp_ne_n (pc := 46) (tgt := 62) dX8_entryAt_46 (by decide) c46 ?_
          exact ym_sub [0, 1, 2, 3] rfl (ob_X8_entryAt_62 hf)
      · rw [if_neg c36] at hf
        refine ym_icmp_ne_n (pc := 36) (tgt := 62) dX8_entryAt_36 (by decide) c36 ?_
        exact ym_sub [0, 1, 2, 3] rfl (ob_X8_entryAt_62 hf)
    · rw [if_neg c22] at hf
      refine ym_if_ge_n (pc := 22) (tgt := 29) dX8_entryAt_22 (by decide) c22 ?_
      refine ym_ldc2 (pc := 25) dX8_entryAt_25 wd_1246 ?_
      cases hf
      exact ym_lret (pc := 28) dX8_entryAt_28 rfl
  · rw [if_neg c5] at hf
    refine ym_if_le_n (pc := 5) (tgt := 16) dX8_entryAt_5 (by decide) c5 ?_
    refine ym_aload_n (pc := 8) 0 dX8_entryAt_8 rfl rfl ?_
    refine ym_iload_n (pc := 9) 2 dX8_entryAt_9 rfl rfl ?_
    obtain ⟨o10, f10, hf⟩ := Option.bind_eq_some_iff.mp hf
    obtain ⟨q10, e10, hf⟩ := Option.bind_eq_some_iff.mp hf
    refine ym_callV (pc := 10) (G2 := g_X8_noLot) (dep2 := 1) (As := [.int a2]) (st := []) (stk2 := [.int q10.1]) (r2 := (some (.int q10.1))) (h1 := q10.2) dX8_entryAt_10 (ok_X8_noLot e10) (sc_X8_entryAt_X8_noLot) wd_1055 wd_1057 wd_27 (ci := 8) (q0 := (RX8, TX8, 58)) rfl (by decide) rfl f10 rfl rfl (ym_st4 (Nat.le_of_ble_eq_true rfl)) rfl ?_
    refine ym_ineg (pc := 13) dX8_entryAt_13 ?_
    refine ym_i2l (pc := 14) dX8_entryAt_14 ?_
    cases hf
    exact ym_lret (pc := 15) dX8_entryAt_15 rfl
theorem dX8_opensBatch_0 : decode cX8_opensBatch 0 = .ok (.aload_n 0, 1) := by decide +kernel
theorem dX8_opensBatch_1 : decode cX8_opensBatch 1 = .ok (.getfield 164, 3) := by decide +kernel
theorem dX8_opensBatch_4 : decode cX8_opensBatch 4 = .ok (.bipush 8, 2) := by decide +kernel
theorem dX8_opensBatch_6 : decode cX8_opensBatch 6 = .ok (.if_icmp .ne 7, 3) := by decide +kernel
theorem dX8_opensBatch_9 : decode cX8_opensBatch 9 = .ok (.ldc2_w 333, 3) := by decide +kernel
theorem dX8_opensBatch_12 : decode cX8_opensBatch 12 = .ok (.lreturn, 1) := by decide +kernel
theorem dX8_opensBatch_13 : decode cX8_opensBatch 13 = .ok (.aload_n 0, 1) := by decide +kernel
theorem dX8_opensBatch_14 : decode cX8_opensBatch 14 = .ok (.getfield 141, 3) := by decide +kernel
theorem dX8_opensBatch_17 : decode cX8_opensBatch 17 = .ok (.aload_n 0, 1) := by decide +kernel
theorem dX8_opensBatch_18 : decode cX8_opensBatch 18 = .ok (.getfield 164, 3) := by decide +kernel
theorem dX8_opensBatch_21 : decode cX8_opensBatch 21 = .ok (.aload_n 0, 1) := by decide +kernel
theorem dX8_opensBatch_22 : decode cX8_opensBatch 22 = .ok (.getfield 175, 3) := by decide +kernel
theorem dX8_opensBatch_25 : decode cX8_opensBatch 25 = .ok (.iastore, 1) := by decide +kernel
theorem dX8_opensBatch_26 : decode cX8_opensBatch 26 = .ok (.aload_n 0, 1) := by decide +kernel
theorem dX8_opensBatch_27 : decode cX8_opensBatch 27 = .ok (.dup, 1) := by decide +kernel
theorem dX8_opensBatch_28 : decode cX8_opensBatch 28 = .ok (.getfield 164, 3) := by decide +kernel
theorem dX8_opensBatch_31 : decode cX8_opensBatch 31 = .ok (.iconst 1, 1) := by decide +kernel
theorem dX8_opensBatch_32 : decode cX8_opensBatch 32 = .ok (.iadd, 1) := by decide +kernel
theorem dX8_opensBatch_33 : decode cX8_opensBatch 33 = .ok (.putfield 164, 3) := by decide +kernel
theorem dX8_opensBatch_36 : decode cX8_opensBatch 36 = .ok (.aload_n 0, 1) := by decide +kernel
theorem dX8_opensBatch_37 : decode cX8_opensBatch 37 = .ok (.getfield 164, 3) := by decide +kernel
theorem dX8_opensBatch_40 : decode cX8_opensBatch 40 = .ok (.i2l, 1) := by decide +kernel
theorem dX8_opensBatch_41 : decode cX8_opensBatch 41 = .ok (.lreturn, 1) := by decide +kernel
def fn_X8_opensBatch (N : Nat) (a0 : Option Nat) (h : ym_H) : Option (Int64 × ym_H) :=
  Option.bind (ym_gI h a0 8 49) fun v1 =>
  if v1 = 8 then
    some ((-12), h)
  else
    Option.bind (ym_gR h a0 8 50) fun v14 =>
    Option.bind (ym_gI h a0 8 49) fun v18 =>
    Option.bind (ym_gI h a0 8 41) fun v22 =>
    Option.bind (ym_as h v14 0 v18 (.int v22)) fun h25 =>
    Option.bind (ym_gI h25 a0 8 49) fun v28 =>
    Option.bind (ym_pf h25 a0 8 49 (.int (v28 + 1))) fun h33 =>
    Option.bind (ym_gI h33 a0 8 49) fun v37 =>
    some ((Int32.toInt64 v37), h33)
set_option maxRecDepth 20000 in
set_option maxHeartbeats 4000000 in
theorem ok_X8_opensBatch {D : ym_D} {b0 : Nat} {N : Nat} {a0 : Option Nat} {h h' : ym_H} {r : Int64} (hf : fn_X8_opensBatch N a0 h = some (r, h')) : ym_M D b0 g_X8_opensBatch 1 [va_rf a0] h (some (.long r)) h' := by
  unfold fn_X8_opensBatch at hf
  refine ym_meth (lv := [(0, va_rf a0)]) (by decide) (by simp [lg_sl, ym_c1, ym_cI, ym_cL, g_X8_opensBatch]) (by simp [lv_args, ym_c1, ym_cI, ym_cL]) ?_
  refine ym_aload_n (pc := 0) 0 dX8_opensBatch_0 rfl rfl ?_
  obtain ⟨v1, e1, hf⟩ := Option.bind_eq_some_iff.mp hf
  refine ym_get (pc := 1) dX8_opensBatch_1 rfl (by decide) iX8 (k := 49) (by decide) wd_894 (ym_gI_v e1) ?_
  refine ym_bipush (pc := 4) (v := 8) dX8_opensBatch_4 (by decide) ?_
  by_cases c6 : v1 = 8
  · rw [if_pos c6] at hf
    refine ym_icmp_ne_y (pc := 6) (tgt := 13) dX8_opensBatch_6 (by decide) c6 ?_
    refine ym_ldc2 (pc := 9) dX8_opensBatch_9 wd_1039 ?_
    cases hf
    exact ym_lret (pc := 12) dX8_opensBatch_12 rfl
  · rw [if_neg c6] at hf
    refine ym_icmp_ne_n (pc := 6) (tgt := 13) dX8_opensBatch_6 (by decide) c6 ?_
    refine ym_aload_n (pc := 13) 0 dX8_opensBatch_13 rfl rfl ?_
    obtain ⟨v14, e14, hf⟩ := Option.bind_eq_some_iff.mp hf
    refine ym_get (pc := 14) dX8_opensBatch_14 rfl (by decide) iX8 (k := 50) (by decide) wd_895 (ym_gR_v e14) ?_
    refine ym_aload_n (pc := 17) 0 dX8_opensBatch_17 rfl rfl ?_
    obtain ⟨v18, e18, hf⟩ := Option.bind_eq_some_iff.mp hf
    refine ym_get (pc := 18) dX8_opensBatch_18 rfl (by decide) iX8 (k := 49) (by decide) wd_894 (ym_gI_v e18) ?_
    refine ym_aload_n (pc := 21) 0 dX8_opensBatch_21 rfl rfl ?_
    obtain ⟨v22, e22, hf⟩ := Option.bind_eq_some_iff.mp hf
    refine ym_get (pc := 22) dX8_opensBatch_22 rfl (by decide) iX8 (k := 41) (by decide) wd_886 (ym_gI_v e22) ?_
    obtain ⟨h25, e25, hf⟩ := Option.bind_eq_some_iff.mp hf
    refine ym_iast (pc := 25) dX8_opensBatch_25 rfl e25 ?_
    refine ym_aload_n (pc := 26) 0 dX8_opensBatch_26 rfl rfl ?_
    refine ym_dup (pc := 27) dX8_opensBatch_27 (ym_c1 a0) ?_
    obtain ⟨v28, e28, hf⟩ := Option.bind_eq_some_iff.mp hf
    refine ym_get (pc := 28) dX8_opensBatch_28 rfl (by decide) iX8 (k := 49) (by decide) wd_894 (ym_gI_v e28) ?_
    refine ym_iconst (pc := 31) (v := 1) dX8_opensBatch_31 (by decide) ?_
    refine ym_iadd (pc := 32) dX8_opensBatch_32 ?_
    obtain ⟨h33, e33, hf⟩ := Option.bind_eq_some_iff.mp hf
    refine ym_put (pc := 33) (h1 := h33) dX8_opensBatch_33 rfl (by decide) iX8 tyX8 tyX8_ok nmX8 (k := 49) (by decide) wd_894 rfl (tyX8_ok 49 (by decide)) rfl rfl e33 ?_
    refine ym_aload_n (pc := 36) 0 dX8_opensBatch_36 rfl rfl ?_
    obtain ⟨v37, e37, hf⟩ := Option.bind_eq_some_iff.mp hf
    refine ym_get (pc := 37) dX8_opensBatch_37 rfl (by decide) iX8 (k := 49) (by decide) wd_894 (ym_gI_v e37) ?_
    refine ym_i2l (pc := 40) dX8_opensBatch_40 ?_
    cases hf
    exact ym_lret (pc := 41) dX8_opensBatch_41 rfl
theorem dX8_endsBatch_0 : decode cX8_endsBatch 0 = .ok (.aload_n 0, 1) := by decide +kernel
theorem dX8_endsBatch_1 : decode cX8_endsBatch 1 = .ok (.getfield 164, 3) := by decide +kernel
theorem dX8_endsBatch_4 : decode cX8_endsBatch 4 = .ok (.ifCond .ne 7, 3) := by decide +kernel
theorem dX8_endsBatch_7 : decode cX8_endsBatch 7 = .ok (.ldc2_w 396, 3) := by decide +kernel
theorem dX8_endsBatch_10 : decode cX8_endsBatch 10 = .ok (.lreturn, 1) := by decide +kernel
theorem dX8_endsBatch_11 : decode cX8_endsBatch 11 = .ok (.aload_n 0, 1) := by decide +kernel
theorem dX8_endsBatch_12 : decode cX8_endsBatch 12 = .ok (.dup, 1) := by decide +kernel
theorem dX8_endsBatch_13 : decode cX8_endsBatch 13 = .ok (.getfield 164, 3) := by decide +kernel
theorem dX8_endsBatch_16 : decode cX8_endsBatch 16 = .ok (.iconst 1, 1) := by decide +kernel
theorem dX8_endsBatch_17 : decode cX8_endsBatch 17 = .ok (.isub, 1) := by decide +kernel
theorem dX8_endsBatch_18 : decode cX8_endsBatch 18 = .ok (.putfield 164, 3) := by decide +kernel
theorem dX8_endsBatch_21 : decode cX8_endsBatch 21 = .ok (.aload_n 0, 1) := by decide +kernel
theorem dX8_endsBatch_22 : decode cX8_endsBatch 22 = .ok (.getfield 164, 3) := by decide +kernel
theorem dX8_endsBatch_25 : decode cX8_endsBatch 25 = .ok (.i2l, 1) := by decide +kernel
theorem dX8_endsBatch_26 : decode cX8_endsBatch 26 = .ok (.lreturn, 1) := by decide +kernel
def fn_X8_endsBatch (N : Nat) (a0 : Option Nat) (h : ym_H) : Option (Int64 × ym_H) :=
  Option.bind (ym_gI h a0 8 49) fun v1 =>
  if v1 = 0 then
    some ((-14), h)
  else
    Option.bind (ym_gI h a0 8 49) fun v13 =>
    Option.bind (ym_pf h a0 8 49 (.int (v13 - 1))) fun h18 =>
    Option.bind (ym_gI h18 a0 8 49) fun v22 =>
    some ((Int32.toInt64 v22), h18)
set_option maxRecDepth 20000 in
set_option maxHeartbeats 4000000 in
theorem ok_X8_endsBatch {D : ym_D} {b0 : Nat} {N : Nat} {a0 : Option Nat} {h h' : ym_H} {r : Int64} (hf : fn_X8_endsBatch N a0 h = some (r, h')) : ym_M D b0 g_X8_endsBatch 1 [va_rf a0] h (some (.long r)) h' := by
  unfold fn_X8_endsBatch at hf
  refine ym_meth (lv := [(0, va_rf a0)]) (by decide) (by simp [lg_sl, ym_c1, ym_cI, ym_cL, g_X8_endsBatch]) (by simp [lv_args, ym_c1, ym_cI, ym_cL]) ?_
  refine ym_aload_n (pc := 0) 0 dX8_endsBatch_0 rfl rfl ?_
  obtain ⟨v1, e1, hf⟩ := Option.bind_eq_some_iff.mp hf
  refine ym_get (pc := 1) dX8_endsBatch_1 rfl (by decide) iX8 (k := 49) (by decide) wd_894 (ym_gI_v e1) ?_
  by_cases c4 : v1 = 0
  · rw [if_pos c4] at hf
    refine ym_if_ne_y (pc := 4) (tgt := 11) dX8_endsBatch_4 (by decide) c4 ?_
    refine ym_ldc2 (pc := 7) dX8_endsBatch_7 wd_1179 ?_
    cases hf
    exact ym_lret (pc := 10) dX8_endsBatch_10 rfl
  · rw [if_neg c4] at hf
    refine ym_if_ne_n (pc := 4) (tgt := 11) dX8_endsBatch_4 (by decide) c4 ?_
    refine ym_aload_n (pc := 11) 0 dX8_endsBatch_11 rfl rfl ?_
    refine ym_dup (pc := 12) dX8_endsBatch_12 (ym_c1 a0) ?_
    obtain ⟨v13, e13, hf⟩ := Option.bind_eq_some_iff.mp hf
    refine ym_get (pc := 13) dX8_endsBatch_13 rfl (by decide) iX8 (k := 49) (by decide) wd_894 (ym_gI_v e13) ?_
    refine ym_iconst (pc := 16) (v := 1) dX8_endsBatch_16 (by decide) ?_
    refine ym_isub (pc := 17) dX8_endsBatch_17 ?_
    obtain ⟨h18, e18, hf⟩ := Option.bind_eq_some_iff.mp hf
    refine ym_put (pc := 18) (h1 := h18) dX8_endsBatch_18 rfl (by decide) iX8 tyX8 tyX8_ok nmX8 (k := 49) (by decide) wd_894 rfl (tyX8_ok 49 (by decide)) rfl rfl e18 ?_
    refine ym_aload_n (pc := 21) 0 dX8_endsBatch_21 rfl rfl ?_
    obtain ⟨v22, e22, hf⟩ := Option.bind_eq_some_iff.mp hf
    refine ym_get (pc := 22) dX8_endsBatch_22 rfl (by decide) iX8 (k := 49) (by decide) wd_894 (ym_gI_v e22) ?_
    refine ym_i2l (pc := 25) dX8_endsBatch_25 ?_
    cases hf
    exact ym_lret (pc := 26) dX8_endsBatch_26 rfl
theorem dX8_undoes_0 : decode cX8_undoes 0 = .ok (.aload_n 0, 1) := by decide +kernel
theorem dX8_undoes_1 : decode cX8_undoes 1 = .ok (.getfield 164, 3) := by decide +kernel
theorem dX8_undoes_4 : decode cX8_undoes 4 = .ok (.ifCond .ne 7, 3) := by decide +kernel
theorem dX8_undoes_7 : decode cX8_undoes 7 = .ok (.ldc2_w 396, 3) := by decide +kernel
theorem dX8_undoes_10 : decode cX8_undoes 10 = .ok (.lreturn, 1) := by decide +kernel
theorem dX8_undoes_11 : decode cX8_undoes 11 = .ok (.aload_n 0, 1) := by decide +kernel
theorem dX8_undoes_12 : decode cX8_undoes 12 = .ok (.dup, 1) := by decide +kernel
theorem dX8_undoes_13 : decode cX8_undoes 13 = .ok (.getfield 164, 3) := by decide +kernel
theorem dX8_undoes_16 : decode cX8_undoes 16 = .ok (.iconst 1, 1) := by decide +kernel
theorem dX8_undoes_17 : decode cX8_undoes 17 = .ok (.isub, 1) := by decide +kernel
theorem dX8_undoes_18 : decode cX8_undoes 18 = .ok (.putfield 164, 3) := by decide +kernel
theorem dX8_undoes_21 : decode cX8_undoes 21 = .ok (.aload_n 0, 1) := by decide +kernel
theorem dX8_undoes_22 : decode cX8_undoes 22 = .ok (.aload_n 0, 1) := by decide +kernel
theorem dX8_undoes_23 : decode cX8_undoes 23 = .ok (.getfield 141, 3) := by decide +kernel
theorem dX8_undoes_26 : decode cX8_undoes 26 = .ok (.aload_n 0, 1) := by decide +kernel
theorem dX8_undoes_27 : decode cX8_undoes 27 = .ok (.getfield 164, 3) := by decide +kernel
theorem dX8_undoes_30 : decode cX8_undoes 30 = .ok (.iaload, 1) := by decide +kernel
theorem dX8_undoes_31 : decode cX8_undoes 31 = .ok (.invokevirtual 167, 3) := by decide +kernel
theorem dX8_undoes_34 : decode cX8_undoes 34 = .ok (.aload_n 0, 1) := by decide +kernel
theorem dX8_undoes_35 : decode cX8_undoes 35 = .ok (.getfield 164, 3) := by decide +kernel
theorem dX8_undoes_38 : decode cX8_undoes 38 = .ok (.i2l, 1) := by decide +kernel
theorem dX8_undoes_39 : decode cX8_undoes 39 = .ok (.lreturn, 1) := by decide +kernel
theorem sc_X8_undoes_X8_back {dk : Nat} (hdk : 10 ≤ dk) : ym_site g_X8_undoes g_X8_back (dk + 1) dk 1 := ⟨by omega, by decide, wd_1264, wd_83, by decide +kernel⟩
def fn_X8_undoes (Kb : Option Nat → Int32 → ym_H → Option (Unit × ym_H)) (N : Nat) (a0 : Option Nat) (h : ym_H) : Option (Int64 × ym_H) :=
  Option.bind (ym_gI h a0 8 49) fun v1 =>
  if v1 = 0 then
    some ((-14), h)
  else
    Option.bind (ym_gI h a0 8 49) fun v13 =>
    Option.bind (ym_pf h a0 8 49 (.int (v13 - 1))) fun h18 =>
    Option.bind (ym_gR h18 a0 8 50) fun v23 =>
    Option.bind (ym_gI h18 a0 8 49) fun v27 =>
    Option.bind (ym_ldI h18 v23 v27) fun v30 =>
    Option.bind (ym_ob h18 a0 8) fun o31 =>
    Option.bind (Kb a0 v30 h18) fun q31 =>
    Option.bind (ym_gI q31.2 a0 8 49) fun v35 =>
    some ((Int32.toInt64 v35), q31.2)
set_option maxRecDepth 20000 in
set_option maxHeartbeats 4000000 in
theorem ok_X8_undoes {D : ym_D} {b0 : Nat} {dk : Nat} (hdk : 10 ≤ dk) {Kb : Option Nat → Int32 → ym_H → Option (Unit × ym_H)} (hK : ∀ (a0 : Option Nat) (a1 : Int32) (h h1 : ym_H) (r : Unit), Kb a0 a1 h = some (r, h1) → ym_M D b0 g_X8_back dk [va_rf a0, .int a1] h none h1) {N : Nat} {a0 : Option Nat} {h h' : ym_H} {r : Int64} (hf : fn_X8_undoes Kb N a0 h = some (r, h')) : ym_M D b0 g_X8_undoes (dk + 1) [va_rf a0] h (some (.long r)) h' := by
  unfold fn_X8_undoes at hf
  refine ym_meth (lv := [(0, va_rf a0)]) (by decide) (by simp [lg_sl, ym_c1, ym_cI, ym_cL, g_X8_undoes]) (by simp [lv_args, ym_c1, ym_cI, ym_cL]) ?_
  refine ym_aload_n (pc := 0) 0 dX8_undoes_0 rfl rfl ?_
  obtain ⟨v1, e1, hf⟩ := Option.bind_eq_some_iff.mp hf
  refine ym_get (pc := 1) dX8_undoes_1 rfl (by decide) iX8 (k := 49) (by decide) wd_894 (ym_gI_v e1) ?_
  by_cases c4 : v1 = 0
  · rw [if_pos c4] at hf
    refine ym_if_ne_y (pc := 4) (tgt := 11) dX8_undoes_4 (by decide) c4 ?_
    refine ym_ldc2 (pc := 7) dX8_undoes_7 wd_1179 ?_
    cases hf
    exact ym_lret (pc := 10) dX8_undoes_10 rfl
  · rw [if_neg c4] at hf
    refine ym_if_ne_n (pc := 4) (tgt := 11) dX8_undoes_4 (by decide) c4 ?_
    refine ym_aload_n (pc := 11) 0 dX8_undoes_11 rfl rfl ?_
    refine ym_dup (pc := 12) dX8_undoes_12 (ym_c1 a0) ?_
    obtain ⟨v13, e13, hf⟩ := Option.bind_eq_some_iff.mp hf
    refine ym_get (pc := 13) dX8_undoes_13 rfl (by decide) iX8 (k := 49) (by decide) wd_894 (ym_gI_v e13) ?_
    refine ym_iconst (pc := 16) (v := 1) dX8_undoes_16 (by decide) ?_
    refine ym_isub (pc := 17) dX8_undoes_17 ?_
    obtain ⟨h18, e18, hf⟩ := Option.bind_eq_some_iff.mp hf
    refine ym_put (pc := 18) (h1 := h18) dX8_undoes_18 rfl (by decide) iX8 tyX8 tyX8_ok nmX8 (k := 49) (by decide) wd_894 rfl (tyX8_ok 49 (by decide)) rfl rfl e18 ?_
    refine ym_aload_n (pc := 21) 0 dX8_undoes_21 rfl rfl ?_
    refine ym_aload_n (pc := 22) 0 dX8_undoes_22 rfl rfl ?_
    obtain ⟨v23, e23, hf⟩ := Option.bind_eq_some_iff.mp hf
    refine ym_get (pc := 23) dX8_undoes_23 rfl (by decide) iX8 (k := 50) (by decide) wd_895 (ym_gR_v e23) ?_
    refine ym_aload_n (pc := 26) 0 dX8_undoes_26 rfl rfl ?_
    obtain ⟨v27, e27, hf⟩ := Option.bind_eq_some_iff.mp hf
    refine ym_get (pc := 27) dX8_undoes_27 rfl (by decide) iX8 (k := 49) (by decide) wd_894 (ym_gI_v e27) ?_
    obtain ⟨v30, e30, hf⟩ := Option.bind_eq_some_iff.mp hf
    refine ym_iald (pc := 30) dX8_undoes_30 rfl (ym_ldI_v e30) ?_
    obtain ⟨o31, f31, hf⟩ := Option.bind_eq_some_iff.mp hf
    obtain ⟨q31, e31, hf⟩ := Option.bind_eq_some_iff.mp hf
    refine ym_callV (pc := 31) (G2 := g_X8_back) (dep2 := dk) (As := [.int v30]) (st := []) (stk2 := []) (r2 := none) (h1 := q31.2) dX8_undoes_31 (hK _ _ _ _ _ e31) (sc_X8_undoes_X8_back hdk) wd_1261 wd_1263 wd_71 (ci := 8) (q0 := (RX8, TX8, 58)) rfl (by decide) rfl f31 rfl rfl (ym_st4 (Nat.le_of_ble_eq_true rfl)) rfl ?_
    refine ym_aload_n (pc := 34) 0 dX8_undoes_34 rfl rfl ?_
    obtain ⟨v35, e35, hf⟩ := Option.bind_eq_some_iff.mp hf
    refine ym_get (pc := 35) dX8_undoes_35 rfl (by decide) iX8 (k := 49) (by decide) wd_894 (ym_gI_v e35) ?_
    refine ym_i2l (pc := 38) dX8_undoes_38 ?_
    cases hf
    exact ym_lret (pc := 39) dX8_undoes_39 rfl
theorem dX8_doneElse_0 : decode cX8_doneElse 0 = .ok (.iload_n 1, 1) := by decide +kernel
theorem dX8_doneElse_1 : decode cX8_doneElse 1 = .ok (.tableswitch 128 14 24 #[59, 65, 74, 80, 88, 96, 104, 110, 110, 118, 123], 59) := by decide +kernel
theorem dX8_doneElse_60 : decode cX8_doneElse 60 = .ok (.aload_n 0, 1) := by decide +kernel
theorem dX8_doneElse_61 : decode cX8_doneElse 61 = .ok (.iload_n 2, 1) := by decide +kernel
theorem dX8_doneElse_62 : decode cX8_doneElse 62 = .ok (.invokevirtual 257, 3) := by decide +kernel
theorem dX8_doneElse_65 : decode cX8_doneElse 65 = .ok (.lreturn, 1) := by decide +kernel
theorem dX8_doneElse_66 : decode cX8_doneElse 66 = .ok (.aload_n 0, 1) := by decide +kernel
theorem dX8_doneElse_67 : decode cX8_doneElse 67 = .ok (.iload_n 2, 1) := by decide +kernel
theorem dX8_doneElse_68 : decode cX8_doneElse 68 = .ok (.iload_n 3, 1) := by decide +kernel
theorem dX8_doneElse_69 : decode cX8_doneElse 69 = .ok (.iload 4, 2) := by decide +kernel
theorem dX8_doneElse_71 : decode cX8_doneElse 71 = .ok (.invokevirtual 260, 3) := by decide +kernel
theorem dX8_doneElse_74 : decode cX8_doneElse 74 = .ok (.lreturn, 1) := by decide +kernel
theorem dX8_doneElse_75 : decode cX8_doneElse 75 = .ok (.aload_n 0, 1) := by decide +kernel
theorem dX8_doneElse_76 : decode cX8_doneElse 76 = .ok (.iload_n 2, 1) := by decide +kernel
theorem dX8_doneElse_77 : decode cX8_doneElse 77 = .ok (.invokevirtual 264, 3) := by decide +kernel
theorem dX8_doneElse_80 : decode cX8_doneElse 80 = .ok (.lreturn, 1) := by decide +kernel
theorem dX8_doneElse_81 : decode cX8_doneElse 81 = .ok (.aload_n 0, 1) := by decide +kernel
theorem dX8_doneElse_82 : decode cX8_doneElse 82 = .ok (.iload_n 2, 1) := by decide +kernel
theorem dX8_doneElse_83 : decode cX8_doneElse 83 = .ok (.lload 5, 2) := by decide +kernel
theorem dX8_doneElse_85 : decode cX8_doneElse 85 = .ok (.invokevirtual 267, 3) := by decide +kernel
theorem dX8_doneElse_88 : decode cX8_doneElse 88 = .ok (.lreturn, 1) := by decide +kernel
theorem dX8_doneElse_89 : decode cX8_doneElse 89 = .ok (.aload_n 0, 1) := by decide +kernel
theorem dX8_doneElse_90 : decode cX8_doneElse 90 = .ok (.iload_n 2, 1) := by decide +kernel
theorem dX8_doneElse_91 : decode cX8_doneElse 91 = .ok (.lload 5, 2) := by decide +kernel
theorem dX8_doneElse_93 : decode cX8_doneElse 93 = .ok (.invokevirtual 270, 3) := by decide +kernel
theorem dX8_doneElse_96 : decode cX8_doneElse 96 = .ok (.lreturn, 1) := by decide +kernel
theorem dX8_doneElse_97 : decode cX8_doneElse 97 = .ok (.aload_n 0, 1) := by decide +kernel
theorem dX8_doneElse_98 : decode cX8_doneElse 98 = .ok (.iload_n 2, 1) := by decide +kernel
theorem dX8_doneElse_99 : decode cX8_doneElse 99 = .ok (.lload 5, 2) := by decide +kernel
theorem dX8_doneElse_101 : decode cX8_doneElse 101 = .ok (.invokevirtual 273, 3) := by decide +kernel
theorem dX8_doneElse_104 : decode cX8_doneElse 104 = .ok (.lreturn, 1) := by decide +kernel
theorem dX8_doneElse_105 : decode cX8_doneElse 105 = .ok (.aload_n 0, 1) := by decide +kernel
theorem dX8_doneElse_106 : decode cX8_doneElse 106 = .ok (.iload_n 2, 1) := by decide +kernel
theorem dX8_doneElse_107 : decode cX8_doneElse 107 = .ok (.invokevirtual 276, 3) := by decide +kernel
theorem dX8_doneElse_110 : decode cX8_doneElse 110 = .ok (.lreturn, 1) := by decide +kernel
theorem dX8_doneElse_111 : decode cX8_doneElse 111 = .ok (.aload_n 0, 1) := by decide +kernel
theorem dX8_doneElse_112 : decode cX8_doneElse 112 = .ok (.iload_n 1, 1) := by decide +kernel
theorem dX8_doneElse_113 : decode cX8_doneElse 113 = .ok (.iload_n 2, 1) := by decide +kernel
theorem dX8_doneElse_114 : decode cX8_doneElse 114 = .ok (.iload_n 3, 1) := by decide +kernel
theorem dX8_doneElse_115 : decode cX8_doneElse 115 = .ok (.invokevirtual 279, 3) := by decide +kernel
theorem dX8_doneElse_118 : decode cX8_doneElse 118 = .ok (.lreturn, 1) := by decide +kernel
theorem dX8_doneElse_119 : decode cX8_doneElse 119 = .ok (.aload_n 0, 1) := by decide +kernel
theorem dX8_doneElse_120 : decode cX8_doneElse 120 = .ok (.invokevirtual 282, 3) := by decide +kernel
theorem dX8_doneElse_123 : decode cX8_doneElse 123 = .ok (.lreturn, 1) := by decide +kernel
theorem dX8_doneElse_124 : decode cX8_doneElse 124 = .ok (.aload_n 0, 1) := by decide +kernel
theorem dX8_doneElse_125 : decode cX8_doneElse 125 = .ok (.invokevirtual 286, 3) := by decide +kernel
theorem dX8_doneElse_128 : decode cX8_doneElse 128 = .ok (.lreturn, 1) := by decide +kernel
theorem dX8_doneElse_129 : decode cX8_doneElse 129 = .ok (.aload_n 0, 1) := by decide +kernel
theorem dX8_doneElse_130 : decode cX8_doneElse 130 = .ok (.invokevirtual 289, 3) := by decide +kernel
theorem dX8_doneElse_133 : decode cX8_doneElse 133 = .ok (.lreturn, 1) := by decide +kernel
theorem sc_X8_doneElse_X8_hammered {dk : Nat} (hdk : 10 ≤ dk) : ym_site g_X8_doneElse g_X8_hammered (dk + 2) 4 1 := ⟨by omega, by decide, wd_1195, wd_83, by decide +kernel⟩
theorem sc_X8_doneElse_X8_joined {dk : Nat} (hdk : 10 ≤ dk) : ym_site g_X8_doneElse g_X8_joined (dk + 2) 2 3 := ⟨by omega, by decide, wd_1216, wd_83, by decide +kernel⟩
theorem sc_X8_doneElse_X8_settled {dk : Nat} (hdk : 10 ≤ dk) : ym_site g_X8_doneElse g_X8_settled (dk + 2) 5 1 := ⟨by omega, by decide, wd_1220, wd_83, by decide +kernel⟩
theorem sc_X8_doneElse_X8_offered {dk : Nat} (hdk : 10 ≤ dk) : ym_site g_X8_doneElse g_X8_offered (dk + 2) 2 2 := ⟨by omega, by decide, wd_1228, wd_83, by decide +kernel⟩
theorem sc_X8_doneElse_X8_paid {dk : Nat} (hdk : 10 ≤ dk) : ym_site g_X8_doneElse g_X8_paid (dk + 2) 2 2 := ⟨by omega, by decide, wd_1232, wd_83, by decide +kernel⟩
theorem sc_X8_doneElse_X8_paidOut {dk : Nat} (hdk : 10 ≤ dk) : ym_site g_X8_doneElse g_X8_paidOut (dk + 2) 2 2 := ⟨by omega, by decide, wd_1237, wd_83, by decide +kernel⟩
theorem sc_X8_doneElse_X8_asked {dk : Nat} (hdk : 10 ≤ dk) : ym_site g_X8_doneElse g_X8_asked (dk + 2) 4 1 := ⟨by omega, by decide, wd_1241, wd_83, by decide +kernel⟩
theorem sc_X8_doneElse_X8_entryAt {dk : Nat} (hdk : 10 ≤ dk) : ym_site g_X8_doneElse g_X8_entryAt (dk + 2) 2 3 := ⟨by omega, by decide, wd_1245, wd_83, by decide +kernel⟩
theorem sc_X8_doneElse_X8_opensBatch {dk : Nat} (hdk : 10 ≤ dk) : ym_site g_X8_doneElse g_X8_opensBatch (dk + 2) 1 0 := ⟨by omega, by decide, wd_1252, wd_83, by decide +kernel⟩
theorem sc_X8_doneElse_X8_endsBatch {dk : Nat} (hdk : 10 ≤ dk) : ym_site g_X8_doneElse g_X8_endsBatch (dk + 2) 1 0 := ⟨by omega, by decide, wd_1256, wd_83, by decide +kernel⟩
theorem sc_X8_doneElse_X8_undoes {dk : Nat} (hdk : 10 ≤ dk) : ym_site g_X8_doneElse g_X8_undoes (dk + 2) (dk + 1) 0 := ⟨by omega, by decide, wd_1260, wd_83, by decide +kernel⟩
theorem sw_X8_doneElse_1 {x : Int32} (c14 : ¬ x = 14) (c15 : ¬ x = 15) (c16 : ¬ x = 16) (c17 : ¬ x = 17) (c18 : ¬ x = 18) (c19 : ¬ x = 19) (c20 : ¬ x = 20) (c21 : ¬ x = 21) (c22 : ¬ x = 22) (c23 : ¬ x = 23) (c24 : ¬ x = 24) : x.toInt < (14) ∨ (24) < x.toInt := by
  have d14 : ¬ x.toInt = (14) := fun q => c14 (Int32.toInt_inj.mp (by rw [q]; rfl))
  have d15 : ¬ x.toInt = (15) := fun q => c15 (Int32.toInt_inj.mp (by rw [q]; rfl))
  have d16 : ¬ x.toInt = (16) := fun q => c16 (Int32.toInt_inj.mp (by rw [q]; rfl))
  have d17 : ¬ x.toInt = (17) := fun q => c17 (Int32.toInt_inj.mp (by rw [q]; rfl))
  have d18 : ¬ x.toInt = (18) := fun q => c18 (Int32.toInt_inj.mp (by rw [q]; rfl))
  have d19 : ¬ x.toInt = (19) := fun q => c19 (Int32.toInt_inj.mp (by rw [q]; rfl))
  have d20 : ¬ x.toInt = (20) := fun q => c20 (Int32.toInt_inj.mp (by rw [q]; rfl))
  have d21 : ¬ x.toInt = (21) := fun q => c21 (Int32.toInt_inj.mp (by rw [q]; rfl))
  have d22 : ¬ x.toInt = (22) := fun q => c22 (Int32.toInt_inj.mp (by rw [q]; rfl))
  have d23 : ¬ x.toInt = (23) := fun q => c23 (Int32.toInt_inj.mp (by rw [q]; rfl))
  have d24 : ¬ x.toInt = (24) := fun q => c24 (Int32.toInt_inj.mp (by rw [q]; rfl))
  omega
def fn_X8_doneElse (Kb : Option Nat → Int32 → ym_H → Option (Unit × ym_H)) (N : Nat) (a0 : Option Nat) (a1 : Int32) (a2 : Int32) (a3 : Int32) (a4 : Int32) (a5 : Int64) (h : ym_H) : Option (Int64 × ym_H) :=
  if a1 = 14 then
    Option.bind (ym_ob h a0 8) fun o62 =>
    Option.bind (fn_X8_hammered N a0 a2 h) fun q62 =>
    some (q62.1, q62.2)
  else
  if a1 = 15 then
    Option.bind (ym_ob h a0 8) fun o71 =>
    Option.bind (fn_X8_joined N a0 a2 a3 a4 h) fun q71 =>
    some (q71.1, q71.2)
  else
  if a1 = 16 then
    Option.bind (ym_ob h a0 8) fun o77 =>
    Option.bind (fn_X8_settled N a0 a2 h) fun q77 =>
    some (q77.1, q77.2)
  else
  if a1 = 17 then
    Option.bind (ym_ob h a0 8) fun o85 =>
    Option.bind (fn_X8_offered N a0 a2 a5 h) fun q85 =>
    some (q85.1, q85.2)
  else
  if a1 = 18 then
    Option.bind (ym_ob h a0 8) fun o93 =>
    Option.bind (fn_X8_paid N a0 a2 a5 h) fun q93 =>
    some (q93.1, q93.2)
  else
  if a1 = 19 then
    Option.bind (ym_ob h a0 8) fun o101 =>
    Option.bind (fn_X8_paidOut N a0 a2 a5 h) fun q101 =>
    some (q101.1, q101.2)
  else
  if a1 = 20 then
    Option.bind (ym_ob h a0 8) fun o107 =>
    Option.bind (fn_X8_asked N a0 a2 h) fun q107 =>
    some (q107.1, q107.2)
  else
  if a1 = 21 then
    Option.bind (ym_ob h a0 8) fun o115 =>
    Option.bind (fn_X8_entryAt N a0 a1 a2 a3 h) fun q115 =>
    some (q115.1, q115.2)
  else
  if a1 = 22 then
    Option.bind (ym_ob h a0 8) fun o115 =>
    Option.bind (fn_X8_entryAt N a0 a1 a2 a3 h) fun q115 =>
    some (q115.1, q115.2)
  else
  if a1 = 23 then
    Option.bind (ym_ob h a0 8) fun o120 =>
    Option.bind (fn_X8_opensBatch N a0 h) fun q120 =>
    some (q120.1, q120.2)
  else
  if a1 = 24 then
    Option.bind (ym_ob h a0 8) fun o125 =>
    Option.bind (fn_X8_endsBatch N a0 h) fun q125 =>
    some (q125.1, q125.2)
  else
  Option.bind (ym_ob h a0 8) fun o130 =>
  Option.bind (fn_X8_undoes Kb N a0 h) fun q130 =>
  some (q130.1, q130.2)
set_option maxRecDepth 20000 in
set_option maxHeartbeats 4000000 in
theorem ok_X8_doneElse {D : ym_D} {b0 : Nat} {dk : Nat} (hdk : 10 ≤ dk) {Kb : Option Nat → Int32 → ym_H → Option (Unit × ym_H)} (hK : ∀ (a0 : Option Nat) (a1 : Int32) (h h1 : ym_H) (r : Unit), Kb a0 a1 h = some (r, h1) → ym_M D b0 g_X8_back dk [va_rf a0, .int a1] h none h1) {N : Nat} {a0 : Option Nat} {a1 : Int32} {a2 : Int32} {a3 : Int32} {a4 : Int32} {a5 : Int64} {h h' : ym_H} {r : Int64} (hf : fn_X8_doneElse Kb N a0 a1 a2 a3 a4 a5 h = some (r, h')) : ym_M D b0 g_X8_doneElse (dk + 2) [va_rf a0, .int a1, .int a2, .int a3, .int a4, .long a5] h (some (.long r)) h' := by
  unfold fn_X8_doneElse at hf
  refine ym_meth (lv := [(0, va_rf a0), (1, .int a1), (2, .int a2), (3, .int a3), (4, .int a4), (5, .long a5)]) (by decide) (by simp [lg_sl, ym_c1, ym_cI, ym_cL, g_X8_doneElse]) (by simp [lv_args, ym_c1, ym_cI, ym_cL]) ?_
  refine ym_iload_n (pc := 0) 1 dX8_doneElse_0 rfl rfl ?_
  by_cases c1_14 : a1 = 14
  · rw [if_pos c1_14] at hf
    refine ym_swIn (pc := 1) (off := 59) (tgt := 60) dX8_doneElse_1 (by rw [c1_14]; decide) (by rw [c1_14]; decide) (by rw [c1_14]; decide) (by decide) ?_
    refine ym_aload_n (pc := 60) 0 dX8_doneElse_60 rfl rfl ?_
    refine ym_iload_n (pc := 61) 2 dX8_doneElse_61 rfl rfl ?_
    obtain ⟨o62, f62, hf⟩ := Option.bind_eq_some_iff.mp hf
    obtain ⟨q62, e62, hf⟩ := Option.bind_eq_some_iff.mp hf
    refine ym_callV (pc := 62) (G2 := g_X8_hammered) (dep2 := 4) (As := [.int a2]) (st := []) (stk2 := [.long q62.1]) (r2 := (some (.long q62.1))) (h1 := q62.2) dX8_doneElse_62 (ok_X8_hammered e62) (sc_X8_doneElse_X8_hammered hdk) wd_1192 wd_1194 wd_56 (ci := 8) (q0 := (RX8, TX8, 58)) rfl (by decide) rfl f62 rfl rfl (ym_st4 (Nat.le_of_ble_eq_true rfl)) rfl ?_
    cases hf
    exact ym_lret (pc := 65) dX8_doneElse_65 rfl
  rw [if_neg c1_14] at hf
  by_cases c1_15 : a1 = 15
  · rw [if_pos c1_15] at hf
    refine ym_swIn (pc := 1) (off := 65) (tgt := 66) dX8_doneElse_1 (by rw [c1_15]; decide) (by rw [c1_15]; decide) (by rw [c1_15]; decide) (by decide) ?_
    refine ym_aload_n (pc := 66) 0 dX8_doneElse_66 rfl rfl ?_
    refine ym_iload_n (pc := 67) 2 dX8_doneElse_67 rfl rfl ?_
    refine ym_iload_n (pc := 68) 3 dX8_doneElse_68 rfl rfl ?_
    refine ym_iload (pc := 69) 4 dX8_doneElse_69 rfl ?_
    obtain ⟨o71, f71, hf⟩ := Option.bind_eq_some_iff.mp hf
    obtain ⟨q71, e71, hf⟩ := Option.bind_eq_some_iff.mp hf
    refine ym_callV (pc := 71) (G2 := g_X8_joined) (dep2 := 2) (As := [.int a2, .int a3, .int a4]) (st := []) (stk2 := [.long q71.1]) (r2 := (some (.long q71.1))) (h1 := q71.2) dX8_doneElse_71 (ok_X8_joined e71) (sc_X8_doneElse_X8_joined hdk) wd_1213 wd_1215 wd_60 (ci := 8) (q0 := (RX8, TX8, 58)) rfl (by decide) rfl f71 rfl rfl (ym_st4 (Nat.le_of_ble_eq_true rfl)) rfl ?_
    cases hf
    exact ym_lret (pc := 74) dX8_doneElse_74 rfl
  rw [if_neg c1_15] at hf
  by_cases c1_16 : a1 = 16
  · rw [if_pos c1_16] at hf
    refine ym_swIn (pc := 1) (off := 74) (tgt := 75) dX8_doneElse_1 (by rw [c1_16]; decide) (by rw [c1_16]; decide) (by rw [c1_16]; decide) (by decide) ?_
    refine ym_aload_n (pc := 75) 0 dX8_doneElse_75 rfl rfl ?_
    refine ym_iload_n (pc := 76) 2 dX8_doneElse_76 rfl rfl ?_
    obtain ⟨o77, f77, hf⟩ := Option.bind_eq_some_iff.mp hf
    obtain ⟨q77, e77, hf⟩ := Option.bind_eq_some_iff.mp hf
    refine ym_callV (pc := 77) (G2 := g_X8_settled) (dep2 := 5) (As := [.int a2]) (st := []) (stk2 := [.long q77.1]) (r2 := (some (.long q77.1))) (h1 := q77.2) dX8_doneElse_77 (ok_X8_settled e77) (sc_X8_doneElse_X8_settled hdk) wd_1217 wd_1219 wd_61 (ci := 8) (q0 := (RX8, TX8, 58)) rfl (by decide) rfl f77 rfl rfl (ym_st4 (Nat.le_of_ble_eq_true rfl)) rfl ?_
    cases hf
    exact ym_lret (pc := 80) dX8_doneElse_80 rfl
  rw [if_neg c1_16] at hf
  by_cases c1_17 : a1 = 17
  · rw [if_pos c1_17] at hf
    refine ym_swIn (pc := 1) (off := 80) (tgt := 81) dX8_doneElse_1 (by rw [c1_17]; decide) (by rw [c1_17]; decide) (by rw [c1_17]; decide) (by decide) ?_
    refine ym_aload_n (pc := 81) 0 dX8_doneElse_81 rfl rfl ?_
    refine ym_iload_n (pc := 82) 2 dX8_doneElse_82 rfl rfl ?_
    refine ym_lload (pc := 83) 5 dX8_doneElse_83 rfl ?_
    obtain ⟨o85, f85, hf⟩ := Option.bind_eq_some_iff.mp hf
    obtain ⟨q85, e85, hf⟩ := Option.bind_eq_some_iff.mp hf
    refine ym_callV (pc := 85) (G2 := g_X8_offered) (dep2 := 2) (As := [.int a2, .long a5]) (st := []) (stk2 := [.long q85.1]) (r2 := (some (.long q85.1))) (h1 := q85.2) dX8_doneElse_85 (ok_X8_offered e85) (sc_X8_doneElse_X8_offered hdk) wd_1225 wd_1227 wd_63 (ci := 8) (q0 := (RX8, TX8, 58)) rfl (by decide) rfl f85 rfl rfl (ym_st4 (Nat.le_of_ble_eq_true rfl)) rfl ?_
    cases hf
    exact ym_lret (pc := 88) dX8_doneElse_88 rfl
  rw [if_neg c1_17] at hf
  by_cases c1_18 : a1 = 18
  · rw [if_pos c1_18] at hf
    refine ym_swIn (pc := 1) (off := 88) (tgt := 89) dX8_doneElse_1 (by rw [c1_18]; decide) (by rw [c1_18]; decide) (by rw [c1_18]; decide) (by decide) ?_
    refine ym_aload_n (pc := 89) 0 dX8_doneElse_89 rfl rfl ?_
    refine ym_iload_n (pc := 90) 2 dX8_doneElse_90 rfl rfl ?_
    refine ym_lload (pc := 91) 5 dX8_doneElse_91 rfl ?_
    obtain ⟨o93, f93, hf⟩ := Option.bind_eq_some_iff.mp hf
    obtain ⟨q93, e93, hf⟩ := Option.bind_eq_some_iff.mp hf
    refine ym_callV (pc := 93) (G2 := g_X8_paid) (dep2 := 2) (As := [.int a2, .long a5]) (st := []) (stk2 := [.long q93.1]) (r2 := (some (.long q93.1))) (h1 := q93.2) dX8_doneElse_93 (ok_X8_paid e93) (sc_X8_doneElse_X8_paid hdk) wd_1229 wd_1231 wd_64 (ci := 8) (q0 := (RX8, TX8, 58)) rfl (by decide) rfl f93 rfl rfl (ym_st4 (Nat.le_of_ble_eq_true rfl)) rfl ?_
    cases hf
    exact ym_lret (pc := 96) dX8_doneElse_96 rfl
  rw [if_neg c1_18] at hf
  by_cases c1_19 : a1 = 19
  · rw [if_pos c1_19] at hf
    refine ym_swIn (pc := 1) (off := 96) (tgt := 97) dX8_doneElse_1 (by rw [c1_19]; decide) (by rw [c1_19]; decide) (by rw [c1_19]; decide) (by decide) ?_
    refine ym_aload_n (pc := 97) 0 dX8_doneElse_97 rfl rfl ?_
    refine ym_iload_n (pc := 98) 2 dX8_doneElse_98 rfl rfl ?_
    refine ym_lload (pc := 99) 5 dX8_doneElse_99 rfl ?_
    obtain ⟨o101, f101, hf⟩ := Option.bind_eq_some_iff.mp hf
    obtain ⟨q101, e101, hf⟩ := Option.bind_eq_some_iff.mp hf
    refine ym_callV (pc := 101) (G2 := g_X8_paidOut) (dep2 := 2) (As := [.int a2, .long a5]) (st := []) (stk2 := [.long q101.1]) (r2 := (some (.long q101.1))) (h1 := q101.2) dX8_doneElse_101 (ok_X8_paidOut e101) (sc_X8_doneElse_X8_paidOut hdk) wd_1234 wd_1236 wd_65 (ci := 8) (q0 := (RX8, TX8, 58)) rfl (by decide) rfl f101 rfl rfl (ym_st4 (Nat.le_of_ble_eq_true rfl)) rfl ?_
    cases hf
    exact ym_lret (pc := 104) dX8_doneElse_104 rfl
  rw [if_neg c1_19] at hf
  by_cases c1_20 : a1 = 20
  · rw [if_pos c1_20] at hf
    refine ym_swIn (pc := 1) (off := 104) (tgt := 105) dX8_doneElse_1 (by rw [c1_20]; decide) (by rw [c1_20]; decide) (by rw [c1_20]; decide) (by decide) ?_
    refine ym_aload_n (pc := 105) 0 dX8_doneElse_105 rfl rfl ?_
    refine ym_iload_n (pc := 106) 2 dX8_doneElse_106 rfl rfl ?_
    obtain ⟨o107, f107, hf⟩ := Option.bind_eq_some_iff.mp hf
    obtain ⟨q107, e107, hf⟩ := Option.bind_eq_some_iff.mp hf
    refine ym_callV (pc := 107) (G2 := g_X8_asked) (dep2 := 4) (As := [.int a2]) (st := []) (stk2 := [.long q107.1]) (r2 := (some (.long q107.1))) (h1 := q107.2) dX8_doneElse_107 (ok_X8_asked e107) (sc_X8_doneElse_X8_asked hdk) wd_1238 wd_1240 wd_66 (ci := 8) (q0 := (RX8, TX8, 58)) rfl (by decide) rfl f107 rfl rfl (ym_st4 (Nat.le_of_ble_eq_true rfl)) rfl ?_
    cases hf
    exact ym_lret (pc := 110) dX8_doneElse_110 rfl
  rw [if_neg c1_20] at hf
  by_cases c1_21 : a1 = 21
  · rw [if_pos c1_21] at hf
    refine ym_swIn (pc := 1) (off := 110) (tgt := 111) dX8_doneElse_1 (by rw [c1_21]; decide) (by rw [c1_21]; decide) (by rw [c1_21]; decide) (by decide) ?_
    refine ym_aload_n (pc := 111) 0 dX8_doneElse_111 rfl rfl ?_
    refine ym_iload_n (pc := 112) 1 dX8_doneElse_112 rfl rfl ?_
    refine ym_iload_n (pc := 113) 2 dX8_doneElse_113 rfl rfl ?_
    refine ym_iload_n (pc := 114) 3 dX8_doneElse_114 rfl rfl ?_
    obtain ⟨o115, f115, hf⟩ := Option.bind_eq_some_iff.mp hf
    obtain ⟨q115, e115, hf⟩ := Option.bind_eq_some_iff.mp hf
    refine ym_callV (pc := 115) (G2 := g_X8_entryAt) (dep2 := 2) (As := [.int a1, .int a2, .int a3]) (st := []) (stk2 := [.long q115.1]) (r2 := (some (.long q115.1))) (h1 := q115.2) dX8_doneElse_115 (ok_X8_entryAt e115) (sc_X8_doneElse_X8_entryAt hdk) wd_1242 wd_1244 wd_67 (ci := 8) (q0 := (RX8, TX8, 58)) rfl (by decide) rfl f115 rfl rfl (ym_st4 (Nat.le_of_ble_eq_true rfl)) rfl ?_
    cases hf
    exact ym_lret (pc := 118) dX8_doneElse_118 rfl
  rw [if_neg c1_21] at hf
  by_cases c1_22 : a1 = 22
  · rw [if_pos c1_22] at hf
    refine ym_swIn (pc := 1) (off := 110) (tgt := 111) dX8_doneElse_1 (by rw [c1_22]; decide) (by rw [c1_22]; decide) (by rw [c1_22]; decide) (by decide) ?_
    refine ym_aload_n (pc := 111) 0 dX8_doneElse_111 rfl rfl ?_
    refine ym_iload_n (pc := 112) 1 dX8_doneElse_112 rfl rfl ?_
    refine ym_iload_n (pc := 113) 2 dX8_doneElse_113 rfl rfl ?_
    refine ym_iload_n (pc := 114) 3 dX8_doneElse_114 rfl rfl ?_
    obtain ⟨o115, f115, hf⟩ := Option.bind_eq_some_iff.mp hf
    obtain ⟨q115, e115, hf⟩ := Option.bind_eq_some_iff.mp hf
    refine ym_callV (pc := 115) (G2 := g_X8_entryAt) (dep2 := 2) (As := [.int a1, .int a2, .int a3]) (st := []) (stk2 := [.long q115.1]) (r2 := (some (.long q115.1))) (h1 := q115.2) dX8_doneElse_115 (ok_X8_entryAt e115) (sc_X8_doneElse_X8_entryAt hdk) wd_1242 wd_1244 wd_67 (ci := 8) (q0 := (RX8, TX8, 58)) rfl (by decide) rfl f115 rfl rfl (ym_st4 (Nat.le_of_ble_eq_true rfl)) rfl ?_
    cases hf
    exact ym_lret (pc := 118) dX8_doneElse_118 rfl
  rw [if_neg c1_22] at hf
  by_cases c1_23 : a1 = 23
  · rw [if_pos c1_23] at hf
    refine ym_swIn (pc := 1) (off := 118) (tgt := 119) dX8_doneElse_1 (by rw [c1_23]; decide) (by rw [c1_23]; decide) (by rw [c1_23]; decide) (by decide) ?_
    refine ym_aload_n (pc := 119) 0 dX8_doneElse_119 rfl rfl ?_
    obtain ⟨o120, f120, hf⟩ := Option.bind_eq_some_iff.mp hf
    obtain ⟨q120, e120, hf⟩ := Option.bind_eq_some_iff.mp hf
    refine ym_callV (pc := 120) (G2 := g_X8_opensBatch) (dep2 := 1) (As := []) (st := []) (stk2 := [.long q120.1]) (r2 := (some (.long q120.1))) (h1 := q120.2) dX8_doneElse_120 (ok_X8_opensBatch e120) (sc_X8_doneElse_X8_opensBatch hdk) wd_1249 wd_1251 wd_68 (ci := 8) (q0 := (RX8, TX8, 58)) rfl (by decide) rfl f120 rfl rfl (ym_st4 (Nat.le_of_ble_eq_true rfl)) rfl ?_
    cases hf
    exact ym_lret (pc := 123) dX8_doneElse_123 rfl
  rw [if_neg c1_23] at hf
  by_cases c1_24 : a1 = 24
  · rw [if_pos c1_24] at hf
    refine ym_swIn (pc := 1) (off := 123) (tgt := 124) dX8_doneElse_1 (by rw [c1_24]; decide) (by rw [c1_24]; decide) (by rw [c1_24]; decide) (by decide) ?_
    refine ym_aload_n (pc := 124) 0 dX8_doneElse_124 rfl rfl ?_
    obtain ⟨o125, f125, hf⟩ := Option.bind_eq_some_iff.mp hf
    obtain ⟨q125, e125, hf⟩ := Option.bind_eq_some_iff.mp hf
    refine ym_callV (pc := 125) (G2 := g_X8_endsBatch) (dep2 := 1) (As := []) (st := []) (stk2 := [.long q125.1]) (r2 := (some (.long q125.1))) (h1 := q125.2) dX8_doneElse_125 (ok_X8_endsBatch e125) (sc_X8_doneElse_X8_endsBatch hdk) wd_1253 wd_1255 wd_69 (ci := 8) (q0 := (RX8, TX8, 58)) rfl (by decide) rfl f125 rfl rfl (ym_st4 (Nat.le_of_ble_eq_true rfl)) rfl ?_
    cases hf
    exact ym_lret (pc := 128) dX8_doneElse_128 rfl
  rw [if_neg c1_24] at hf
  refine ym_swOut (pc := 1) (tgt := 129) dX8_doneElse_1 (sw_X8_doneElse_1 c1_14 c1_15 c1_16 c1_17 c1_18 c1_19 c1_20 c1_21 c1_22 c1_23 c1_24) (by decide) ?_
  refine ym_aload_n (pc := 129) 0 dX8_doneElse_129 rfl rfl ?_
  obtain ⟨o130, f130, hf⟩ := Option.bind_eq_some_iff.mp hf
  obtain ⟨q130, e130, hf⟩ := Option.bind_eq_some_iff.mp hf
  refine ym_callV (pc := 130) (G2 := g_X8_undoes) (dep2 := (dk + 1)) (As := []) (st := []) (stk2 := [.long q130.1]) (r2 := (some (.long q130.1))) (h1 := q130.2) dX8_doneElse_130 (ok_X8_undoes hdk hK e130) (sc_X8_doneElse_X8_undoes hdk) wd_1257 wd_1259 wd_70 (ci := 8) (q0 := (RX8, TX8, 58)) rfl (by decide) rfl f130 rfl rfl (ym_st4 (Nat.le_of_ble_eq_true rfl)) rfl ?_
  cases hf
  exact ym_lret (pc := 133) dX8_doneElse_133 rfl
