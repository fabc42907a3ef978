theorem dX8_enter_0 : decode cX8_enter 0 = .ok (.aload_n 0, 1) := by decide +kernel
theorem dX8_enter_1 : decode cX8_enter 1 = .ok (.getfield 191, 3) := by decide +kernel
theorem dX8_enter_4 : decode cX8_enter 4 = .ok (.aload_n 0, 1) := by decide +kernel
theorem dX8_enter_5 : decode cX8_enter 5 = .ok (.getfield 50, 3) := by decide +kernel
theorem dX8_enter_8 : decode cX8_enter 8 = .ok (.arraylength, 1) := by decide +kernel
theorem dX8_enter_9 : decode cX8_enter 9 = .ok (.if_icmp .ne 36, 3) := by decide +kernel
theorem dX8_enter_12 : decode cX8_enter 12 = .ok (.aload_n 0, 1) := by decide +kernel
theorem dX8_enter_13 : decode cX8_enter 13 = .ok (.aload_n 0, 1) := by decide +kernel
theorem dX8_enter_14 : decode cX8_enter 14 = .ok (.getfield 50, 3) := by decide +kernel
theorem dX8_enter_17 : decode cX8_enter 17 = .ok (.invokestatic 178, 3) := by decide +kernel
theorem dX8_enter_20 : decode cX8_enter 20 = .ok (.putfield 50, 3) := by decide +kernel
theorem dX8_enter_23 : decode cX8_enter 23 = .ok (.aload_n 0, 1) := by decide +kernel
theorem dX8_enter_24 : decode cX8_enter 24 = .ok (.aload_n 0, 1) := by decide +kernel
theorem dX8_enter_25 : decode cX8_enter 25 = .ok (.getfield 53, 3) := by decide +kernel
theorem dX8_enter_28 : decode cX8_enter 28 = .ok (.invokestatic 182, 3) := by decide +kernel
theorem dX8_enter_31 : decode cX8_enter 31 = .ok (.putfield 53, 3) := by decide +kernel
theorem dX8_enter_34 : decode cX8_enter 34 = .ok (.aload_n 0, 1) := by decide +kernel
theorem dX8_enter_35 : decode cX8_enter 35 = .ok (.aload_n 0, 1) := by decide +kernel
theorem dX8_enter_36 : decode cX8_enter 36 = .ok (.getfield 56, 3) := by decide +kernel
theorem dX8_enter_39 : decode cX8_enter 39 = .ok (.invokestatic 178, 3) := by decide +kernel
theorem dX8_enter_42 : decode cX8_enter 42 = .ok (.putfield 56, 3) := by decide +kernel
theorem dX8_enter_45 : decode cX8_enter 45 = .ok (.aload_n 0, 1) := by decide +kernel
theorem dX8_enter_46 : decode cX8_enter 46 = .ok (.getfield 50, 3) := by decide +kernel
theorem dX8_enter_49 : decode cX8_enter 49 = .ok (.aload_n 0, 1) := by decide +kernel
theorem dX8_enter_50 : decode cX8_enter 50 = .ok (.getfield 191, 3) := by decide +kernel
theorem dX8_enter_53 : decode cX8_enter 53 = .ok (.iload_n 2, 1) := by decide +kernel
theorem dX8_enter_54 : decode cX8_enter 54 = .ok (.iastore, 1) := by decide +kernel
theorem dX8_enter_55 : decode cX8_enter 55 = .ok (.aload_n 0, 1) := by decide +kernel
theorem dX8_enter_56 : decode cX8_enter 56 = .ok (.getfield 53, 3) := by decide +kernel
theorem dX8_enter_59 : decode cX8_enter 59 = .ok (.aload_n 0, 1) := by decide +kernel
theorem dX8_enter_60 : decode cX8_enter 60 = .ok (.getfield 191, 3) := by decide +kernel
theorem dX8_enter_63 : decode cX8_enter 63 = .ok (.lload_n 3, 1) := by decide +kernel
theorem dX8_enter_64 : decode cX8_enter 64 = .ok (.lastore, 1) := by decide +kernel
theorem dX8_enter_65 : decode cX8_enter 65 = .ok (.aload_n 0, 1) := by decide +kernel
theorem dX8_enter_66 : decode cX8_enter 66 = .ok (.getfield 56, 3) := by decide +kernel
theorem dX8_enter_69 : decode cX8_enter 69 = .ok (.aload_n 0, 1) := by decide +kernel
theorem dX8_enter_70 : decode cX8_enter 70 = .ok (.getfield 191, 3) := by decide +kernel
theorem dX8_enter_73 : decode cX8_enter 73 = .ok (.aload_n 0, 1) := by decide +kernel
theorem dX8_enter_74 : decode cX8_enter 74 = .ok (.getfield 47, 3) := by decide +kernel
theorem dX8_enter_77 : decode cX8_enter 77 = .ok (.iload_n 1, 1) := by decide +kernel
theorem dX8_enter_78 : decode cX8_enter 78 = .ok (.iaload, 1) := by decide +kernel
theorem dX8_enter_79 : decode cX8_enter 79 = .ok (.iastore, 1) := by decide +kernel
theorem dX8_enter_80 : decode cX8_enter 80 = .ok (.aload_n 0, 1) := by decide +kernel
theorem dX8_enter_81 : decode cX8_enter 81 = .ok (.getfield 47, 3) := by decide +kernel
theorem dX8_enter_84 : decode cX8_enter 84 = .ok (.iload_n 1, 1) := by decide +kernel
theorem dX8_enter_85 : decode cX8_enter 85 = .ok (.aload_n 0, 1) := by decide +kernel
theorem dX8_enter_86 : decode cX8_enter 86 = .ok (.getfield 191, 3) := by decide +kernel
theorem dX8_enter_89 : decode cX8_enter 89 = .ok (.iastore, 1) := by decide +kernel
theorem dX8_enter_90 : decode cX8_enter 90 = .ok (.aload_n 0, 1) := by decide +kernel
theorem dX8_enter_91 : decode cX8_enter 91 = .ok (.dup, 1) := by decide +kernel
theorem dX8_enter_92 : decode cX8_enter 92 = .ok (.getfield 191, 3) := by decide +kernel
theorem dX8_enter_95 : decode cX8_enter 95 = .ok (.iconst 1, 1) := by decide +kernel
theorem dX8_enter_96 : decode cX8_enter 96 = .ok (.iadd, 1) := by decide +kernel
theorem dX8_enter_97 : decode cX8_enter 97 = .ok (.putfield 191, 3) := by decide +kernel
theorem dX8_enter_100 : decode cX8_enter 100 = .ok (.aload_n 0, 1) := by decide +kernel
theorem dX8_enter_101 : decode cX8_enter 101 = .ok (.getfield 44, 3) := by decide +kernel
theorem dX8_enter_104 : decode cX8_enter 104 = .ok (.iload_n 1, 1) := by decide +kernel
theorem dX8_enter_105 : decode cX8_enter 105 = .ok (.dup2, 1) := by decide +kernel
theorem dX8_enter_106 : decode cX8_enter 106 = .ok (.iaload, 1) := by decide +kernel
theorem dX8_enter_107 : decode cX8_enter 107 = .ok (.iconst 1, 1) := by decide +kernel
theorem dX8_enter_108 : decode cX8_enter 108 = .ok (.iadd, 1) := by decide +kernel
theorem dX8_enter_109 : decode cX8_enter 109 = .ok (.iastore, 1) := by decide +kernel
theorem dX8_enter_110 : decode cX8_enter 110 = .ok (.return_, 1) := by decide +kernel
theorem sc_X8_enter_X8_longer : ym_site g_X8_enter g_X8_longer 2 1 1 := ⟨by decide, by decide, wd_1118, wd_83, by decide +kernel⟩
theorem sc_X8_enter_X8_longer_ : ym_site g_X8_enter g_X8_longer_ 2 1 1 := ⟨by decide, by decide, wd_1121, wd_83, by decide +kernel⟩
def bl_X8_enter_45 (N : Nat) (w0 : Option Nat) (w1 : Int32) (w2 : Int32) (w3 : Int64) (h : ym_H) : Option (Unit × ym_H) :=
  Option.bind (ym_gR h w0 8 16) fun v46 =>
  Option.bind (ym_gI h w0 8 15) fun v50 =>
  Option.bind (ym_as h v46 0 v50 (.int w2)) fun h54 =>
  Option.bind (ym_gR h54 w0 8 17) fun v56 =>
  Option.bind (ym_gI h54 w0 8 15) fun v60 =>
  Option.bind (ym_as h54 v56 1 v60 (.long w3)) fun h64 =>
  Option.bind (ym_gR h64 w0 8 18) fun v66 =>
  Option.bind (ym_gI h64 w0 8 15) fun v70 =>
  Option.bind (ym_gR h64 w0 8 14) fun v74 =>
  Option.bind (ym_ldI h64 v74 w1) fun v78 =>
  Option.bind (ym_as h64 v66 0 v70 (.int v78)) fun h79 =>
  Option.bind (ym_gR h79 w0 8 14) fun v81 =>
  Option.bind (ym_gI h79 w0 8 15) fun v86 =>
  Option.bind (ym_as h79 v81 0 w1 (.int v86)) fun h89 =>
  Option.bind (ym_gI h89 w0 8 15) fun v92 =>
  Option.bind (ym_pf h89 w0 8 15 (.int (v92 + 1))) fun h97 =>
  Option.bind (ym_gR h97 w0 8 13) fun v101 =>
  Option.bind (ym_ldI h97 v101 w1) fun v106 =>
  Option.bind (ym_as h97 v101 0 w1 (.int (v106 + 1))) fun h109 =>
  some ((), h109)
set_option maxRecDepth 20000 in
set_option maxHeartbeats 4000000 in
theorem ob_X8_enter_45 {D : ym_D} {b0 : Nat} {N : Nat} {w0 : Option Nat} {w1 : Int32} {w2 : Int32} {w3 : Int64} {h h' : ym_H} {r : Unit} (hf : bl_X8_enter_45 N w0 w1 w2 w3 h = some (r, h')) : ym_Y D b0 g_X8_enter 2 45 [(0, va_rf w0), (1, .int w1), (2, .int w2), (3, .long w3)] [] h none h' := by
  unfold bl_X8_enter_45 at hf
  refine ym_aload_n (pc := 45) 0 dX8_enter_45 rfl rfl ?_
  obtain ⟨v46, e46, hf⟩ := Option.bind_eq_some_iff.mp hf
  refine ym_get (pc := 46) dX8_enter_46 rfl (by decide) iX8 (k := 16) (by decide) wd_861 (ym_gR_v e46) ?_
  refine ym_aload_n (pc := 49) 0 dX8_enter_49 rfl rfl ?_
  obtain ⟨v50, e50, hf⟩ := Option.bind_eq_some_iff.mp hf
  refine ym_get (pc := 50) dX8_enter_50 rfl (by decide) iX8 (k := 15) (by decide) wd_860 (ym_gI_v e50) ?_
  refine ym_iload_n (pc := 53) 2 dX8_enter_53 rfl rfl ?_
  obtain ⟨h54, e54, hf⟩ := Option.bind_eq_some_iff.mp hf
  refine ym_iast (pc := 54) dX8_enter_54 rfl e54 ?_
  refine ym_aload_n (pc := 55) 0 dX8_enter_55 rfl rfl ?_
  obtain ⟨v56, e56, hf⟩ := Option.bind_eq_some_iff.mp hf
  refine ym_get (pc := 56) dX8_enter_56 rfl (by decide) iX8 (k := 17) (by decide) wd_862 (ym_gR_v e56) ?_
  refine ym_aload_n (pc := 59) 0 dX8_enter_59 rfl rfl ?_
  obtain ⟨v60, e60, hf⟩ := Option.bind_eq_some_iff.mp hf
  refine ym_get (pc := 60) dX8_enter_60 rfl (by decide) iX8 (k := 15) (by decide) wd_860 (ym_gI_v e60) ?_
  refine ym_lload_n (pc := 63) 3 dX8_enter_63 rfl rfl ?_
  obtain ⟨h64, e64, hf⟩ := Option.bind_eq_some_iff.mp hf
  refine ym_last (pc := 64) dX8_enter_64 rfl e64 ?_
  refine ym_aload_n (pc := 65) 0 dX8_enter_65 rfl rfl ?_
  obtain ⟨v66, e66, hf⟩ := Option.bind_eq_some_iff.mp hf
  refine ym_get (pc := 66) dX8_enter_66 rfl (by decide) iX8 (k := 18) (by decide) wd_863 (ym_gR_v e66) ?_
  refine ym_aload_n (pc := 69) 0 dX8_enter_69 rfl rfl ?_
  obtain ⟨v70, e70, hf⟩ := Option.bind_eq_some_iff.mp hf
  refine ym_get (pc := 70) dX8_enter_70 rfl (by decide) iX8 (k := 15) (by decide) wd_860 (ym_gI_v e70) ?_
  refine ym_aload_n (pc := 73) 0 dX8_enter_73 rfl rfl ?_
  obtain ⟨v74, e74, hf⟩ := Option.bind_eq_some_iff.mp hf
  refine ym_get (pc := 74) dX8_enter_74 rfl (by decide) iX8 (k := 14) (by decide) wd_859 (ym_gR_v e74) ?_
  refine ym_iload_n (pc := 77) 1 dX8_enter_77 rfl rfl ?_
  obtain ⟨v78, e78, hf⟩ := Option.bind_eq_some_iff.mp hf
  refine ym_iald (pc := 78) dX8_enter_78 rfl (ym_ldI_v e78) ?_
  obtain ⟨h79, e79, hf⟩ := Option.bind_eq_some_iff.mp hf
  refine ym_iast (pc := 79) dX8_enter_79 rfl e79 ?_
  refine ym_aload_n (pc := 80) 0 dX8_enter_80 rfl rfl ?_
  obtain ⟨v81, e81, hf⟩ := Option.bind_eq_some_iff.mp hf
  refine ym_get (pc := 81) dX8_enter_81 rfl (by decide) iX8 (k := 14) (by decide) wd_859 (ym_gR_v e81) ?_
  refine ym_iload_n (pc := 84) 1 dX8_enter_84 rfl rfl ?_
  refine ym_aload_n (pc := 85) 0 dX8_enter_85 rfl rfl ?_
  obtain ⟨v86, e86, hf⟩ := Option.bind_eq_some_iff.mp hf
  refine ym_get (pc := 86) dX8_enter_86 rfl (by decide) iX8 (k := 15) (by decide) wd_860 (ym_gI_v e86) ?_
  obtain ⟨h89, e89, hf⟩ := Option.bind_eq_some_iff.mp hf
  refine ym_iast (pc := 89) dX8_enter_89 rfl e89 ?_
  refine ym_aload_n (pc := 90) 0 dX8_enter_90 rfl rfl ?_
  refine ym_dup (pc := 91) dX8_enter_91 (ym_c1 w0) ?_
  obtain ⟨v92, e92, hf⟩ := Option.bind_eq_some_iff.mp hf
  refine ym_get (pc := 92) dX8_enter_92 rfl (by decide) iX8 (k := 15) (by decide) wd_860 (ym_gI_v e92) ?_
  refine ym_iconst (pc := 95) (v := 1) dX8_enter_95 (by decide) ?_
  refine ym_iadd (pc := 96) dX8_enter_96 ?_
  obtain ⟨h97, e97, hf⟩ := Option.bind_eq_some_iff.mp hf
  refine ym_put (pc := 97) (h1 := h97) dX8_enter_97 rfl (by decide) iX8 tyX8 tyX8_ok nmX8 (k := 15) (by decide) wd_860 rfl (tyX8_ok 15 (by decide)) rfl rfl e97 ?_
  refine ym_aload_n (pc := 100) 0 dX8_enter_100 rfl rfl ?_
  obtain ⟨v101, e101, hf⟩ := Option.bind_eq_some_iff.mp hf
  refine ym_get (pc := 101) dX8_enter_101 rfl (by decide) iX8 (k := 13) (by decide) wd_858 (ym_gR_v e101) ?_
  refine ym_iload_n (pc := 104) 1 dX8_enter_104 rfl rfl ?_
  refine ym_dup2_11 (pc := 105) dX8_enter_105 rfl (ym_c1 v101) ?_
  obtain ⟨v106, e106, hf⟩ := Option.bind_eq_some_iff.mp hf
  refine ym_iald (pc := 106) dX8_enter_106 rfl (ym_ldI_v e106) ?_
  refine ym_iconst (pc := 107) (v := 1) dX8_enter_107 (by decide) ?_
  refine ym_iadd (pc := 108) dX8_enter_108 ?_
  obtain ⟨h109, e109, hf⟩ := Option.bind_eq_some_iff.mp hf
  refine ym_iast (pc := 109) dX8_enter_109 rfl e109 ?_
  cases hf
  exact ym_vret (pc := 110) dX8_enter_110 rfl
def fn_X8_enter (N : Nat) (a0 : Option Nat) (a1 : Int32) (a2 : Int32) (a3 : Int64) (h : ym_H) : Option (Unit × ym_H) :=
  Option.bind (ym_gI h a0 8 15) fun v1 =>
  Option.bind (ym_gR h a0 8 16) fun v5 =>
  Option.bind (ym_len h v5) fun v8 =>
  if v1 = v8 then
    Option.bind (ym_gR h a0 8 16) fun v14 =>
    Option.bind (fn_X8_longer N v14 h) fun q17 =>
    Option.bind (ym_pf q17.2 a0 8 16 (va_rf q17.1)) fun h20 =>
    Option.bind (ym_gR h20 a0 8 17) fun v25 =>
    Option.bind (fn_X8_longer_ N v25 h20) fun q28 =>
    Option.bind (ym_pf q28.2 a0 8 17 (va_rf q28.1)) fun h31 =>
    Option.bind (ym_gR h31 a0 8 18) fun v36 =>
    Option.bind (fn_X8_longer N v36 h31) fun q39 =>
    Option.bind (ym_pf q39.2 a0 8 18 (va_rf q39.1)) fun h42 =>
    bl_X8_enter_45 N a0 a1 a2 a3 h42
  else
    bl_X8_enter_45 N a0 a1 a2 a3 h
set_option maxRecDepth 20000 in
set_option maxHeartbeats 4000000 in
theorem ok_X8_enter {D : ym_D} {b0 : Nat} {N : Nat} {a0 : Option Nat} {a1 : Int32} {a2 : Int32} {a3 : Int64} {h h' : ym_H} {r : Unit} (hf : fn_X8_enter N a0 a1 a2 a3 h = some (r, h')) : ym_M D b0 g_X8_enter 2 [va_rf a0, .int a1, .int a2, .long a3] h none h' := by
  unfold fn_X8_enter at hf
  refine ym_meth (lv := [(0, va_rf a0), (1, .int a1), (2, .int a2), (3, .long a3)]) (by decide) (by simp [lg_sl, ym_c1, ym_cI, ym_cL, g_X8_enter]) (by simp [lv_args, ym_c1, ym_cI, ym_cL]) ?_
  refine ym_aload_n (pc := 0) 0 dX8_enter_0 rfl rfl ?_
  obtain ⟨v1, e1, hf⟩ := Option.bind_eq_some_iff.mp hf
  refine ym_get (pc := 1) dX8_enter_1 rfl (by decide) iX8 (k := 15) (by decide) wd_860 (ym_gI_v e1) ?_
  refine ym_aload_n (pc := 4) 0 dX8_enter_4 rfl rfl ?_
  obtain ⟨v5, e5, hf⟩ := Option.bind_eq_some_iff.mp hf
  refine ym_get (pc := 5) dX8_enter_5 rfl (by decide) iX8 (k := 16) (by decide) wd_861 (ym_gR_v e5) ?_
  obtain ⟨v8, e8, hf⟩ := Option.bind_eq_some_iff.mp hf
  refine ym_alen (pc := 8) dX8_enter_8 e8 ?_
  by_cases c9 : v1 = v8
  · rw [if_pos c9] at hf
    refine ym_icmp_ne_y (pc := 9) (tgt := 45) dX8_enter_9 (by decide) c9 ?_
    refine ym_aload_n (pc := 12) 0 dX8_enter_12 rfl rfl ?_
    refine ym_aload_n (pc := 13) 0 dX8_enter_13 rfl rfl ?_
    obtain ⟨v14, e14, hf⟩ := Option.bind_eq_some_iff.mp hf
    refine ym_get (pc := 14) dX8_enter_14 rfl (by decide) iX8 (k := 16) (by decide) wd_861 (ym_gR_v e14) ?_
    obtain ⟨q17, e17, hf⟩ := Option.bind_eq_some_iff.mp hf
    refine ym_callS (pc := 17) (G2 := g_X8_longer) (dep2 := 1) (As := [va_rf v14]) (st := [va_rf a0]) (stk2 := [va_rf q17.1, va_rf a0]) (r2 := (some (va_rf q17.1))) (h1 := q17.2) dX8_enter_17 (ok_X8_longer e17) (sc_X8_enter_X8_longer) wd_1116 wd_1117 rfl rfl (ym_st4 (Nat.le_of_ble_eq_true rfl)) rfl ?_
    obtain ⟨h20, e20, hf⟩ := Option.bind_eq_some_iff.mp hf
    refine ym_put (pc := 20) (h1 := h20) dX8_enter_20 rfl (by decide) iX8 tyX8 tyX8_ok nmX8 (k := 16) (by decide) wd_861 rfl (tyX8_ok 16 (by decide)) (ym_nrA _ _) (ym_fiA _ _) e20 ?_
    refine ym_aload_n (pc := 23) 0 dX8_enter_23 rfl rfl ?_
    refine ym_aload_n (pc := 24) 0 dX8_enter_24 rfl rfl ?_
    obtain ⟨v25, e25, hf⟩ := Option.bind_eq_some_iff.mp hf
    refine ym_get (pc := 25) dX8_enter_25 rfl (by decide) iX8 (k := 17) (by decide) wd_862 (ym_gR_v e25) ?_
    obtain ⟨q28, e28, hf⟩ := Option.bind_eq_some_iff.mp hf
    refine ym_callS (pc := 28) (G2 := g_X8_longer_) (dep2 := 1) (As := [va_rf v25]) (st := [va_rf a0]) (stk2 := [va_rf q28.1, va_rf a0]) (r2 := (some (va_rf q28.1))) (h1 := q28.2) dX8_enter_28 (ok_X8_longer_ e28) (sc_X8_enter_X8_longer_) wd_1119 wd_1120 rfl rfl (ym_st4 (Nat.le_of_ble_eq_true rfl)) rfl ?_
    obtain ⟨h31, e31, hf⟩ := Option.bind_eq_some_iff.mp hf
    refine ym_put (pc := 31) (h1 := h31) dX8_enter_31 rfl (by decide) iX8 tyX8 tyX8_ok nmX8 (k := 17) (by decide) wd_862 rfl (tyX8_ok 17 (by decide)) (ym_nrA _ _) (ym_fiA _ _) e31 ?_
    refine ym_aload_n (pc := 34) 0 dX8_enter_34 rfl rfl ?_
    refine ym_aload_n (pc := 35) 0 dX8_enter_35 rfl rfl ?_
    obtain ⟨v36, e36, hf⟩ := Option.bind_eq_some_iff.mp hf
    refine ym_get (pc := 36) dX8_enter_36 rfl (by decide) iX8 (k := 18) (by decide) wd_863 (ym_gR_v e36) ?_
    obtain ⟨q39, e39, hf⟩ := Option.bind_eq_some_iff.mp hf
    refine ym_callS (pc := 39) (G2 := g_X8_longer) (dep2 := 1) (As := [va_rf v36]) (st := [va_rf a0]) (stk2 := [va_rf q39.1, va_rf a0]) (r2 := (some (va_rf q39.1))) (h1 := q39.2) dX8_enter_39 (ok_X8_longer e39) (sc_X8_enter_X8_longer) wd_1116 wd_1117 rfl rfl (ym_st4 (Nat.le_of_ble_eq_true rfl)) rfl ?_
    obtain ⟨h42, e42, hf⟩ := Option.bind_eq_some_iff.mp hf
    refine ym_put (pc := 42) (h1 := h42) dX8_enter_42 rfl (by decide) iX8 tyX8 tyX8_ok nmX8 (k := 18) (by decide) wd_863 rfl (tyX8_ok 18 (by decide)) (ym_nrA _ _) (ym_fiA _ _) e42 ?_
    exact ym_sub [0, 1, 2, 3] rfl (ob_X8_enter_45 hf)
  · rw [if_neg c9] at hf
    refine ym_icmp_ne_n (pc := 9) (tgt := 45) dX8_enter_9 (by decide) c9 ?_
    exact ym_sub [0, 1, 2, 3] rfl (ob_X8_enter_45 hf)
theorem dX8_askPapers_0 : decode cX8_askPapers 0 = .ok (.aload_n 0, 1) := by decide +kernel
theorem dX8_askPapers_1 : decode cX8_askPapers 1 = .ok (.iload_n 1, 1) := by decide +kernel
theorem dX8_askPapers_2 : decode cX8_askPapers 2 = .ok (.invokevirtual 386, 3) := by decide +kernel
theorem dX8_askPapers_5 : decode cX8_askPapers 5 = .ok (.ifCond .ne 4, 3) := by decide +kernel
theorem dX8_askPapers_8 : decode cX8_askPapers 8 = .ok (.return_, 1) := by decide +kernel
theorem dX8_askPapers_9 : decode cX8_askPapers 9 = .ok (.iconst (-1), 1) := by decide +kernel
theorem dX8_askPapers_10 : decode cX8_askPapers 10 = .ok (.istore_n 2, 1) := by decide +kernel
theorem dX8_askPapers_11 : decode cX8_askPapers 11 = .ok (.aload_n 0, 1) := by decide +kernel
theorem dX8_askPapers_12 : decode cX8_askPapers 12 = .ok (.getfield 71, 3) := by decide +kernel
theorem dX8_askPapers_15 : decode cX8_askPapers 15 = .ok (.iload_n 1, 1) := by decide +kernel
theorem dX8_askPapers_16 : decode cX8_askPapers 16 = .ok (.iaload, 1) := by decide +kernel
theorem dX8_askPapers_17 : decode cX8_askPapers 17 = .ok (.istore_n 3, 1) := by decide +kernel
theorem dX8_askPapers_18 : decode cX8_askPapers 18 = .ok (.iload_n 3, 1) := by decide +kernel
theorem dX8_askPapers_19 : decode cX8_askPapers 19 = .ok (.ifCond .le 12, 3) := by decide +kernel
theorem dX8_askPapers_22 : decode cX8_askPapers 22 = .ok (.aload_n 0, 1) := by decide +kernel
theorem dX8_askPapers_23 : decode cX8_askPapers 23 = .ok (.getfield 74, 3) := by decide +kernel
theorem dX8_askPapers_26 : decode cX8_askPapers 26 = .ok (.iload_n 1, 1) := by decide +kernel
theorem dX8_askPapers_27 : decode cX8_askPapers 27 = .ok (.laload, 1) := by decide +kernel
theorem dX8_askPapers_28 : decode cX8_askPapers 28 = .ok (.goto 4, 3) := by decide +kernel
theorem dX8_askPapers_31 : decode cX8_askPapers 31 = .ok (.lconst 0, 1) := by decide +kernel
theorem dX8_askPapers_32 : decode cX8_askPapers 32 = .ok (.lstore 4, 2) := by decide +kernel
theorem dX8_askPapers_34 : decode cX8_askPapers 34 = .ok (.iconst 0, 1) := by decide +kernel
theorem dX8_askPapers_35 : decode cX8_askPapers 35 = .ok (.istore 6, 2) := by decide +kernel
theorem dX8_askPapers_37 : decode cX8_askPapers 37 = .ok (.lconst 0, 1) := by decide +kernel
theorem dX8_askPapers_38 : decode cX8_askPapers 38 = .ok (.lstore 7, 2) := by decide +kernel
theorem dX8_askPapers_40 : decode cX8_askPapers 40 = .ok (.bipush 40, 2) := by decide +kernel
theorem dX8_askPapers_42 : decode cX8_askPapers 42 = .ok (.iload_n 1, 1) := by decide +kernel
theorem dX8_askPapers_43 : decode cX8_askPapers 43 = .ok (.imul, 1) := by decide +kernel
theorem dX8_askPapers_44 : decode cX8_askPapers 44 = .ok (.istore 9, 2) := by decide +kernel
theorem dX8_askPapers_46 : decode cX8_askPapers 46 = .ok (.iload 9, 2) := by decide +kernel
theorem dX8_askPapers_48 : decode cX8_askPapers 48 = .ok (.bipush 40, 2) := by decide +kernel
theorem dX8_askPapers_50 : decode cX8_askPapers 50 = .ok (.iload_n 1, 1) := by decide +kernel
theorem dX8_askPapers_51 : decode cX8_askPapers 51 = .ok (.imul, 1) := by decide +kernel
theorem dX8_askPapers_52 : decode cX8_askPapers 52 = .ok (.aload_n 0, 1) := by decide +kernel
theorem dX8_askPapers_53 : decode cX8_askPapers 53 = .ok (.getfield 59, 3) := by decide +kernel
theorem dX8_askPapers_56 : decode cX8_askPapers 56 = .ok (.iload_n 1, 1) := by decide +kernel
theorem dX8_askPapers_57 : decode cX8_askPapers 57 = .ok (.iaload, 1) := by decide +kernel
theorem dX8_askPapers_58 : decode cX8_askPapers 58 = .ok (.iadd, 1) := by decide +kernel
theorem dX8_askPapers_59 : decode cX8_askPapers 59 = .ok (.if_icmp .ge 133, 3) := by decide +kernel
theorem dX8_askPapers_62 : decode cX8_askPapers 62 = .ok (.aload_n 0, 1) := by decide +kernel
theorem dX8_askPapers_63 : decode cX8_askPapers 63 = .ok (.getfield 65, 3) := by decide +kernel
theorem dX8_askPapers_66 : decode cX8_askPapers 66 = .ok (.iload 9, 2) := by decide +kernel
theorem dX8_askPapers_68 : decode cX8_askPapers 68 = .ok (.laload, 1) := by decide +kernel
theorem dX8_askPapers_69 : decode cX8_askPapers 69 = .ok (.aload_n 0, 1) := by decide +kernel
theorem dX8_askPapers_70 : decode cX8_askPapers 70 = .ok (.getfield 23, 3) := by decide +kernel
theorem dX8_askPapers_73 : decode cX8_askPapers 73 = .ok (.iload_n 1, 1) := by decide +kernel
theorem dX8_askPapers_74 : decode cX8_askPapers 74 = .ok (.laload, 1) := by decide +kernel
theorem dX8_askPapers_75 : decode cX8_askPapers 75 = .ok (.lcmp, 1) := by decide +kernel
theorem dX8_askPapers_76 : decode cX8_askPapers 76 = .ok (.ifCond .ge 6, 3) := by decide +kernel
theorem dX8_askPapers_79 : decode cX8_askPapers 79 = .ok (.goto 107, 3) := by decide +kernel
theorem dX8_askPapers_82 : decode cX8_askPapers 82 = .ok (.iload_n 3, 1) := by decide +kernel
theorem dX8_askPapers_83 : decode cX8_askPapers 83 = .ok (.ifCond .eq 26, 3) := by decide +kernel
theorem dX8_askPapers_86 : decode cX8_askPapers 86 = .ok (.aload_n 0, 1) := by decide +kernel
theorem dX8_askPapers_87 : decode cX8_askPapers 87 = .ok (.getfield 65, 3) := by decide +kernel
theorem dX8_askPapers_90 : decode cX8_askPapers 90 = .ok (.iload 9, 2) := by decide +kernel
theorem dX8_askPapers_92 : decode cX8_askPapers 92 = .ok (.laload, 1) := by decide +kernel
theorem dX8_askPapers_93 : decode cX8_askPapers 93 = .ok (.aload_n 0, 1) := by decide +kernel
theorem dX8_askPapers_94 : decode cX8_askPapers 94 = .ok (.getfield 68, 3) := by decide +kernel
theorem dX8_askPapers_97 : decode cX8_askPapers 97 = .ok (.iload 9, 2) := by decide +kernel
theorem dX8_askPapers_99 : decode cX8_askPapers 99 = .ok (.iaload, 1) := by decide +kernel
theorem dX8_askPapers_100 : decode cX8_askPapers 100 = .ok (.lload 4, 2) := by decide +kernel
theorem dX8_askPapers_102 : decode cX8_askPapers 102 = .ok (.iload_n 3, 1) := by decide +kernel
theorem dX8_askPapers_103 : decode cX8_askPapers 103 = .ok (.invokestatic 389, 3) := by decide +kernel
theorem dX8_askPapers_106 : decode cX8_askPapers 106 = .ok (.ifCond .eq 33, 3) := by decide +kernel
theorem dX8_askPapers_109 : decode cX8_askPapers 109 = .ok (.iload_n 3, 1) := by decide +kernel
theorem dX8_askPapers_110 : decode cX8_askPapers 110 = .ok (.istore 6, 2) := by decide +kernel
theorem dX8_askPapers_112 : decode cX8_askPapers 112 = .ok (.lload 4, 2) := by decide +kernel
theorem dX8_askPapers_114 : decode cX8_askPapers 114 = .ok (.lstore 7, 2) := by decide +kernel
theorem dX8_askPapers_116 : decode cX8_askPapers 116 = .ok (.iload 9, 2) := by decide +kernel
theorem dX8_askPapers_118 : decode cX8_askPapers 118 = .ok (.istore_n 2, 1) := by decide +kernel
theorem dX8_askPapers_119 : decode cX8_askPapers 119 = .ok (.aload_n 0, 1) := by decide +kernel
theorem dX8_askPapers_120 : decode cX8_askPapers 120 = .ok (.getfield 68, 3) := by decide +kernel
theorem dX8_askPapers_123 : decode cX8_askPapers 123 = .ok (.iload 9, 2) := by decide +kernel
theorem dX8_askPapers_125 : decode cX8_askPapers 125 = .ok (.iaload, 1) := by decide +kernel
theorem dX8_askPapers_126 : decode cX8_askPapers 126 = .ok (.istore_n 3, 1) := by decide +kernel
theorem dX8_askPapers_127 : decode cX8_askPapers 127 = .ok (.aload_n 0, 1) := by decide +kernel
theorem dX8_askPapers_128 : decode cX8_askPapers 128 = .ok (.getfield 65, 3) := by decide +kernel
theorem dX8_askPapers_131 : decode cX8_askPapers 131 = .ok (.iload 9, 2) := by decide +kernel
theorem dX8_askPapers_133 : decode cX8_askPapers 133 = .ok (.laload, 1) := by decide +kernel
theorem dX8_askPapers_134 : decode cX8_askPapers 134 = .ok (.lstore 4, 2) := by decide +kernel
theorem dX8_askPapers_136 : decode cX8_askPapers 136 = .ok (.goto 50, 3) := by decide +kernel
theorem dX8_askPapers_139 : decode cX8_askPapers 139 = .ok (.iload 6, 2) := by decide +kernel
theorem dX8_askPapers_141 : decode cX8_askPapers 141 = .ok (.ifCond .eq 27, 3) := by decide +kernel
theorem dX8_askPapers_144 : decode cX8_askPapers 144 = .ok (.aload_n 0, 1) := by decide +kernel
theorem dX8_askPapers_145 : decode cX8_askPapers 145 = .ok (.getfield 65, 3) := by decide +kernel
theorem dX8_askPapers_148 : decode cX8_askPapers 148 = .ok (.iload 9, 2) := by decide +kernel
theorem dX8_askPapers_150 : decode cX8_askPapers 150 = .ok (.laload, 1) := by decide +kernel
theorem dX8_askPapers_151 : decode cX8_askPapers 151 = .ok (.aload_n 0, 1) := by decide +kernel
theorem dX8_askPapers_152 : decode cX8_askPapers 152 = .ok (.getfield 68, 3) := by decide +kernel
theorem dX8_askPapers_155 : decode cX8_askPapers 155 = .ok (.iload 9, 2) := by decide +kernel
theorem dX8_askPapers_157 : decode cX8_askPapers 157 = .ok (.iaload, 1) := by decide +kernel
theorem dX8_askPapers_158 : decode cX8_askPapers 158 = .ok (.lload 7, 2) := by decide +kernel
theorem dX8_askPapers_160 : decode cX8_askPapers 160 = .ok (.iload 6, 2) := by decide +kernel
theorem dX8_askPapers_162 : decode cX8_askPapers 162 = .ok (.invokestatic 389, 3) := by decide +kernel
theorem dX8_askPapers_165 : decode cX8_askPapers 165 = .ok (.ifCond .eq 21, 3) := by decide +kernel
theorem dX8_askPapers_168 : decode cX8_askPapers 168 = .ok (.aload_n 0, 1) := by decide +kernel
theorem dX8_askPapers_169 : decode cX8_askPapers 169 = .ok (.getfield 68, 3) := by decide +kernel
theorem dX8_askPapers_172 : decode cX8_askPapers 172 = .ok (.iload 9, 2) := by decide +kernel
theorem dX8_askPapers_174 : decode cX8_askPapers 174 = .ok (.iaload, 1) := by decide +kernel
theorem dX8_askPapers_175 : decode cX8_askPapers 175 = .ok (.istore 6, 2) := by decide +kernel
theorem dX8_askPapers_177 : decode cX8_askPapers 177 = .ok (.aload_n 0, 1) := by decide +kernel
theorem dX8_askPapers_178 : decode cX8_askPapers 178 = .ok (.getfield 65, 3) := by decide +kernel
theorem dX8_askPapers_181 : decode cX8_askPapers 181 = .ok (.iload 9, 2) := by decide +kernel
theorem dX8_askPapers_183 : decode cX8_askPapers 183 = .ok (.laload, 1) := by decide +kernel
theorem dX8_askPapers_184 : decode cX8_askPapers 184 = .ok (.lstore 7, 2) := by decide +kernel
theorem dX8_askPapers_186 : decode cX8_askPapers 186 = .ok (.iinc 9 1, 3) := by decide +kernel
theorem dX8_askPapers_189 : decode cX8_askPapers 189 = .ok (.goto (-143), 3) := by decide +kernel
theorem dX8_askPapers_192 : decode cX8_askPapers 192 = .ok (.aload_n 0, 1) := by decide +kernel
theorem dX8_askPapers_193 : decode cX8_askPapers 193 = .ok (.getfield 87, 3) := by decide +kernel
theorem dX8_askPapers_196 : decode cX8_askPapers 196 = .ok (.iload_n 1, 1) := by decide +kernel
theorem dX8_askPapers_197 : decode cX8_askPapers 197 = .ok (.iload_n 3, 1) := by decide +kernel
theorem dX8_askPapers_198 : decode cX8_askPapers 198 = .ok (.iastore, 1) := by decide +kernel
theorem dX8_askPapers_199 : decode cX8_askPapers 199 = .ok (.aload_n 0, 1) := by decide +kernel
theorem dX8_askPapers_200 : decode cX8_askPapers 200 = .ok (.getfield 90, 3) := by decide +kernel
theorem dX8_askPapers_203 : decode cX8_askPapers 203 = .ok (.iload_n 1, 1) := by decide +kernel
theorem dX8_askPapers_204 : decode cX8_askPapers 204 = .ok (.iload 6, 2) := by decide +kernel
theorem dX8_askPapers_206 : decode cX8_askPapers 206 = .ok (.iastore, 1) := by decide +kernel
theorem dX8_askPapers_207 : decode cX8_askPapers 207 = .ok (.iload_n 2, 1) := by decide +kernel
theorem dX8_askPapers_208 : decode cX8_askPapers 208 = .ok (.ifCond .ge 4, 3) := by decide +kernel
theorem dX8_askPapers_211 : decode cX8_askPapers 211 = .ok (.return_, 1) := by decide +kernel
theorem dX8_askPapers_212 : decode cX8_askPapers 212 = .ok (.iload 6, 2) := by decide +kernel
theorem dX8_askPapers_214 : decode cX8_askPapers 214 = .ok (.ifCond .le 12, 3) := by decide +kernel
theorem dX8_askPapers_217 : decode cX8_askPapers 217 = .ok (.aload_n 0, 1) := by decide +kernel
theorem dX8_askPapers_218 : decode cX8_askPapers 218 = .ok (.lload 7, 2) := by decide +kernel
theorem dX8_askPapers_220 : decode cX8_askPapers 220 = .ok (.invokevirtual 315, 3) := by decide +kernel
theorem dX8_askPapers_223 : decode cX8_askPapers 223 = .ok (.goto 9, 3) := by decide +kernel
theorem dX8_askPapers_226 : decode cX8_askPapers 226 = .ok (.aload_n 0, 1) := by decide +kernel
theorem dX8_askPapers_227 : decode cX8_askPapers 227 = .ok (.getfield 23, 3) := by decide +kernel
theorem dX8_askPapers_230 : decode cX8_askPapers 230 = .ok (.iload_n 1, 1) := by decide +kernel
theorem dX8_askPapers_231 : decode cX8_askPapers 231 = .ok (.laload, 1) := by decide +kernel
theorem dX8_askPapers_232 : decode cX8_askPapers 232 = .ok (.lstore 9, 2) := by decide +kernel
theorem dX8_askPapers_234 : decode cX8_askPapers 234 = .ok (.lload 9, 2) := by decide +kernel
theorem dX8_askPapers_236 : decode cX8_askPapers 236 = .ok (.aload_n 0, 1) := by decide +kernel
theorem dX8_askPapers_237 : decode cX8_askPapers 237 = .ok (.getfield 26, 3) := by decide +kernel
theorem dX8_askPapers_240 : decode cX8_askPapers 240 = .ok (.iload_n 1, 1) := by decide +kernel
theorem dX8_askPapers_241 : decode cX8_askPapers 241 = .ok (.laload, 1) := by decide +kernel
theorem dX8_askPapers_242 : decode cX8_askPapers 242 = .ok (.lcmp, 1) := by decide +kernel
theorem dX8_askPapers_243 : decode cX8_askPapers 243 = .ok (.ifCond .ge 11, 3) := by decide +kernel
theorem dX8_askPapers_246 : decode cX8_askPapers 246 = .ok (.aload_n 0, 1) := by decide +kernel
theorem dX8_askPapers_247 : decode cX8_askPapers 247 = .ok (.getfield 26, 3) := by decide +kernel
theorem dX8_askPapers_250 : decode cX8_askPapers 250 = .ok (.iload_n 1, 1) := by decide +kernel
theorem dX8_askPapers_251 : decode cX8_askPapers 251 = .ok (.laload, 1) := by decide +kernel
theorem dX8_askPapers_252 : decode cX8_askPapers 252 = .ok (.lstore 9, 2) := by decide +kernel
theorem dX8_askPapers_254 : decode cX8_askPapers 254 = .ok (.lload 9, 2) := by decide +kernel
theorem dX8_askPapers_256 : decode cX8_askPapers 256 = .ok (.lload 4, 2) := by decide +kernel
theorem dX8_askPapers_258 : decode cX8_askPapers 258 = .ok (.lcmp, 1) := by decide +kernel
theorem dX8_askPapers_259 : decode cX8_askPapers 259 = .ok (.ifCond .le 7, 3) := by decide +kernel
theorem dX8_askPapers_262 : decode cX8_askPapers 262 = .ok (.lload 4, 2) := by decide +kernel
theorem dX8_askPapers_264 : decode cX8_askPapers 264 = .ok (.lstore 9, 2) := by decide +kernel
theorem dX8_askPapers_266 : decode cX8_askPapers 266 = .ok (.aload_n 0, 1) := by decide +kernel
theorem dX8_askPapers_267 : decode cX8_askPapers 267 = .ok (.getfield 62, 3) := by decide +kernel
theorem dX8_askPapers_270 : decode cX8_askPapers 270 = .ok (.iload_n 2, 1) := by decide +kernel
theorem dX8_askPapers_271 : decode cX8_askPapers 271 = .ok (.iaload, 1) := by decide +kernel
theorem dX8_askPapers_272 : decode cX8_askPapers 272 = .ok (.istore 11, 2) := by decide +kernel
theorem dX8_askPapers_274 : decode cX8_askPapers 274 = .ok (.aload_n 0, 1) := by decide +kernel
theorem dX8_askPapers_275 : decode cX8_askPapers 275 = .ok (.iload_n 1, 1) := by decide +kernel
theorem dX8_askPapers_276 : decode cX8_askPapers 276 = .ok (.invokevirtual 298, 3) := by decide +kernel
theorem dX8_askPapers_279 : decode cX8_askPapers 279 = .ok (.iload 11, 2) := by decide +kernel
theorem dX8_askPapers_281 : decode cX8_askPapers 281 = .ok (.if_icmp .ne 14, 3) := by decide +kernel
theorem dX8_askPapers_284 : decode cX8_askPapers 284 = .ok (.aload_n 0, 1) := by decide +kernel
theorem dX8_askPapers_285 : decode cX8_askPapers 285 = .ok (.iload_n 1, 1) := by decide +kernel
theorem dX8_askPapers_286 : decode cX8_askPapers 286 = .ok (.invokevirtual 312, 3) := by decide +kernel
theorem dX8_askPapers_289 : decode cX8_askPapers 289 = .ok (.lload 9, 2) := by decide +kernel
theorem dX8_askPapers_291 : decode cX8_askPapers 291 = .ok (.lcmp, 1) := by decide +kernel
theorem dX8_askPapers_292 : decode cX8_askPapers 292 = .ok (.ifCond .ge 12, 3) := by decide +kernel
theorem dX8_askPapers_295 : decode cX8_askPapers 295 = .ok (.aload_n 0, 1) := by decide +kernel
theorem dX8_askPapers_296 : decode cX8_askPapers 296 = .ok (.iload_n 1, 1) := by decide +kernel
theorem dX8_askPapers_297 : decode cX8_askPapers 297 = .ok (.iload 11, 2) := by decide +kernel
theorem dX8_askPapers_299 : decode cX8_askPapers 299 = .ok (.lload 9, 2) := by decide +kernel
theorem dX8_askPapers_301 : decode cX8_askPapers 301 = .ok (.invokevirtual 382, 3) := by decide +kernel
theorem dX8_askPapers_304 : decode cX8_askPapers 304 = .ok (.return_, 1) := by decide +kernel
theorem sc_X8_askPapers_X8_isPlain : ym_site g_X8_askPapers g_X8_isPlain 3 1 1 := ⟨by decide, by decide, wd_1096, wd_83, by decide +kernel⟩
def bl_X8_askPapers_186_46 (K : Option Nat → Int32 → Int32 → Int32 → Int64 → Int32 → Int64 → Int32 → ym_H → Option ((Int32 × Int32 × Int64 × Int32 × Int64) × ym_H)) (N : Nat) (w0 : Option Nat) (w1 : Int32) (w2 : Int32) (w3 : Int32) (w4 : Int64) (w6 : Int32) (w7 : Int64) (w9 : Int32) (h : ym_H) : Option ((Int32 × Int32 × Int64 × Int32 × Int64) × ym_H) :=
  K w0 w1 w2 w3 w4 w6 w7 (w9 + 1) h
set_option maxRecDepth 20000 in
set_option maxHeartbeats 4000000 in
theorem ob_X8_askPapers_186_46 {D : ym_D} {b0 : Nat} {K : Option Nat → Int32 → Int32 → Int32 → Int64 → Int32 → Int64 → Int32 → ym_H → Option ((Int32 × Int32 × Int64 × Int32 × Int64) × ym_H)} {N : Nat} {w0 : Option Nat} {w1 : Int32} {w2 : Int32} {w3 : Int32} {w4 : Int64} {w6 : Int32} {w7 : Int64} {w9 : Int32} {h h1 : ym_H} {x : (Int32 × Int32 × Int64 × Int32 × Int64)} (hKl : ∀ (u2 : Int32) (u3 : Int32) (u4 : Int64) (u6 : Int32) (u7 : Int64) (u9 : Int32) (h h1 : ym_H) (x : (Int32 × Int32 × Int64 × Int32 × Int64)), K w0 w1 u2 u3 u4 u6 u7 u9 h = some (x, h1) → ∀ {r0 : Option Value} {h' : ym_H}, ym_Y D b0 g_X8_askPapers 3 192 [(0, va_rf w0), (1, .int w1), (2, .int x.1), (3, .int x.2.1), (4, .long x.2.2.1), (6, .int x.2.2.2.1), (7, .long x.2.2.2.2)] [] h1 r0 h' → ym_Y D b0 g_X8_askPapers 3 46 [(0, va_rf w0), (1, .int w1), (2, .int u2), (3, .int u3), (4, .long u4), (6, .int u6), (7, .long u7), (9, .int u9)] [] h r0 h') (hf : bl_X8_askPapers_186_46 K N w0 w1 w2 w3 w4 w6 w7 w9 h = some (x, h1)) {r0 : Option Value} {h' : ym_H} (k : ym_Y D b0 g_X8_askPapers 3 192 [(0, va_rf w0), (1, .int w1), (2, .int x.1), (3, .int x.2.1), (4, .long x.2.2.1), (6, .int x.2.2.2.1), (7, .long x.2.2.2.2)] [] h1 r0 h') : ym_Y D b0 g_X8_askPapers 3 186 [(0, va_rf w0), (1, .int w1), (2, .int w2), (3, .int w3), (4, .long w4), (6, .int w6), (7, .long w7), (9, .int w9)] [] h r0 h' := by
  unfold bl_X8_askPapers_186_46 at hf
  refine ym_iinc (pc := 186) (lv' := [(9, .int (w9 + 1)), (0, va_rf w0), (1, .int w1), (2, .int w2), (3, .int w3), (4, .long w4), (6, .int w6), (7, .long w7)]) (v := (w9 + 1)) 7 dX8_askPapers_186 rfl (by rw [show Int32.ofInt 1 = 1 by decide]) (by decide) ⟨trivial, trivial, trivial, trivial, trivial, trivial, trivial, trivial, trivial⟩ rfl ?_
  refine ym_goto (pc := 189) (tgt := 46) dX8_askPapers_189 (by decide) ?_
  exact ym_sub [1, 2, 3, 4, 5, 6, 7, 0] rfl (hKl _ _ _ _ _ _ _ _ _ hf k)
def bl_X8_askPapers_109_46 (K : Option Nat → Int32 → Int32 → Int32 → Int64 → Int32 → Int64 → Int32 → ym_H → Option ((Int32 × Int32 × Int64 × Int32 × Int64) × ym_H)) (N : Nat) (w0 : Option Nat) (w1 : Int32) (w3 : Int32) (w4 : Int64) (w9 : Int32) (h : ym_H) : Option ((Int32 × Int32 × Int64 × Int32 × Int64) × ym_H) :=
  Option.bind (ym_gR h w0 8 22) fun v120 =>
  Option.bind (ym_ldI h v120 w9) fun v125 =>
  Option.bind (ym_gR h w0 8 21) fun v128 =>
  Option.bind (ym_ldL h v128 w9) fun v133 =>
  bl_X8_askPapers_186_46 K N w0 w1 w9 v125 v133 w3 w4 w9 h
set_option maxRecDepth 20000 in
set_option maxHeartbeats 4000000 in
theorem ob_X8_askPapers_109_46 {D : ym_D} {b0 : Nat} {K : Option Nat → Int32 → Int32 → Int32 → Int64 → Int32 → Int64 → Int32 → ym_H → Option ((Int32 × Int32 × Int64 × Int32 × Int64) × ym_H)} {N : Nat} {w0 : Option Nat} {w1 : Int32} {w3 : Int32} {w4 : Int64} {w9 : Int32} {h h1 : ym_H} {x : (Int32 × Int32 × Int64 × Int32 × Int64)} (hKl : ∀ (u2 : Int32) (u3 : Int32) (u4 : Int64) (u6 : Int32) (u7 : Int64) (u9 : Int32) (h h1 : ym_H) (x : (Int32 × Int32 × Int64 × Int32 × Int64)), K w0 w1 u2 u3 u4 u6 u7 u9 h = some (x, h1) → ∀ {r0 : Option Value} {h' : ym_H}, ym_Y D b0 g_X8_askPapers 3 192 [(0, va_rf w0), (1, .int w1), (2, .int x.1), (3, .int x.2.1), (4, .long x.2.2.1), (6, .int x.2.2.2.1), (7, .long x.2.2.2.2)] [] h1 r0 h' → ym_Y D b0 g_X8_askPapers 3 46 [(0, va_rf w0), (1, .int w1), (2, .int u2), (3, .int u3), (4, .long u4), (6, .int u6), (7, .long u7), (9, .int u9)] [] h r0 h') (hf : bl_X8_askPapers_109_46 K N w0 w1 w3 w4 w9 h = some (x, h1)) {r0 : Option Value} {h' : ym_H} (k : ym_Y D b0 g_X8_askPapers 3 192 [(0, va_rf w0), (1, .int w1), (2, .int x.1), (3, .int x.2.1), (4, .long x.2.2.1), (6, .int x.2.2.2.1), (7, .long x.2.2.2.2)] [] h1 r0 h') : ym_Y D b0 g_X8_askPapers 3 109 [(0, va_rf w0), (1, .int w1), (3, .int w3), (4, .long w4), (9, .int w9)] [] h r0 h' := by
  unfold bl_X8_askPapers_109_46 at hf
  refine ym_iload_n (pc := 109) 2 dX8_askPapers_109 rfl rfl ?_
  refine ym_sub (lv' := [(0, va_rf w0), (1, .int w1), (4, .long w4), (9, .int w9)]) [0, 1, 3, 4] rfl ?_
  refine ym_istore (pc := 110) (lv' := [(6, .int w3), (0, va_rf w0), (1, .int w1), (4, .long w4), (9, .int w9)]) dX8_askPapers_110 (by decide) ⟨trivial, trivial, trivial, trivial, trivial⟩ rfl ?_
  refine ym_lload (pc := 112) 3 dX8_askPapers_112 rfl ?_
  refine ym_sub (lv' := [(6, .int w3), (0, va_rf w0), (1, .int w1), (9, .int w9)]) [0, 1, 2, 4] rfl ?_
  refine ym_lstore (pc := 114) (lv' := [(7, .long w4), (6, .int w3), (0, va_rf w0), (1, .int w1), (9, .int w9)]) dX8_askPapers_114 (by decide) ⟨rfl, trivial, trivial, trivial, trivial⟩ rfl ?_
  refine ym_iload (pc := 116) 4 dX8_askPapers_116 rfl ?_
  refine ym_istore_n (pc := 118) (lv' := [(2, .int w9), (7, .long w4), (6, .int w3), (0, va_rf w0), (1, .int w1), (9, .int w9)]) dX8_askPapers_118 rfl (by decide) ⟨trivial, trivial, trivial, rfl, trivial, trivial⟩ rfl ?_
  refine ym_aload_n (pc := 119) 3 dX8_askPapers_119 rfl rfl ?_
  obtain ⟨v120, e120, hf⟩ := Option.bind_eq_some_iff.mp hf
  refine ym_get (pc := 120) dX8_askPapers_120 rfl (by decide) iX8 (k := 22) (by decide) wd_867 (ym_gR_v e120) ?_
  refine ym_iload (pc := 123) 5 dX8_askPapers_123 rfl ?_
  obtain ⟨v125, e125, hf⟩ := Option.bind_eq_some_iff.mp hf
  refine ym_iald (pc := 125) dX8_askPapers_125 rfl (ym_ldI_v e125) ?_
  refine ym_istore_n (pc := 126) (lv' := [(3, .int v125), (2, .int w9), (7, .long w4), (6, .int w3), (0, va_rf w0), (1, .int w1), (9, .int w9)]) dX8_askPapers_126 rfl (by decide) ⟨rfl, trivial, trivial, trivial, trivial, trivial, trivial⟩ rfl ?_
  refine ym_aload_n (pc := 127) 4 dX8_askPapers_127 rfl rfl ?_
  obtain ⟨v128, e128, hf⟩ := Option.bind_eq_some_iff.mp hf
  refine ym_get (pc := 128) dX8_askPapers_128 rfl (by decide) iX8 (k := 21) (by decide) wd_866 (ym_gR_v e128) ?_
  refine ym_iload (pc := 131) 6 dX8_askPapers_131 rfl ?_
  obtain ⟨v133, e133, hf⟩ := Option.bind_eq_some_iff.mp hf
  refine ym_lald (pc := 133) dX8_askPapers_133 rfl (ym_ldL_v e133) ?_
  refine ym_lstore (pc := 134) (lv' := [(4, .long v133), (3, .int v125), (2, .int w9), (7, .long w4), (6, .int w3), (0, va_rf w0), (1, .int w1), (9, .int w9)]) dX8_askPapers_134 (by decide) ⟨rfl, trivial, trivial, trivial, trivial, trivial, trivial, trivial⟩ rfl ?_
  refine ym_goto (pc := 136) (tgt := 186) dX8_askPapers_136 (by decide) ?_
  exact ym_sub [5, 6, 2, 1, 0, 4, 3, 7] rfl (ob_X8_askPapers_186_46 hKl hf k)
theorem sc_X8_askPapers_X8_isAhead : ym_site g_X8_askPapers g_X8_isAhead 3 1 4 := ⟨by decide, by decide, wd_1099, wd_83, by decide +kernel⟩
def bl_X8_askPapers_168_46 (K : Option Nat → Int32 → Int32 → Int32 → Int64 → Int32 → Int64 → Int32 → ym_H → Option ((Int32 × Int32 × Int64 × Int32 × Int64) × ym_H)) (N : Nat) (w0 : Option Nat) (w1 : Int32) (w2 : Int32) (w3 : Int32) (w4 : Int64) (w9 : Int32) (h : ym_H) : Option ((Int32 × Int32 × Int64 × Int32 × Int64) × ym_H) :=
  Option.bind (ym_gR h w0 8 22) fun v169 =>
  Option.bind (ym_ldI h v169 w9) fun v174 =>
  Option.bind (ym_gR h w0 8 21) fun v178 =>
  Option.bind (ym_ldL h v178 w9) fun v183 =>
  bl_X8_askPapers_186_46 K N w0 w1 w2 w3 w4 v174 v183 w9 h
set_option maxRecDepth 20000 in
set_option maxHeartbeats 4000000 in
theorem ob_X8_askPapers_168_46 {D : ym_D} {b0 : Nat} {K : Option Nat → Int32 → Int32 → Int32 → Int64 → Int32 → Int64 → Int32 → ym_H → Option ((Int32 × Int32 × Int64 × Int32 × Int64) × ym_H)} {N : Nat} {w0 : Option Nat} {w1 : Int32} {w2 : Int32} {w3 : Int32} {w4 : Int64} {w9 : Int32} {h h1 : ym_H} {x : (Int32 × Int32 × Int64 × Int32 × Int64)} (hKl : ∀ (u2 : Int32) (u3 : Int32) (u4 : Int64) (u6 : Int32) (u7 : Int64) (u9 : Int32) (h h1 : ym_H) (x : (Int32 × Int32 × Int64 × Int32 × Int64)), K w0 w1 u2 u3 u4 u6 u7 u9 h = some (x, h1) → ∀ {r0 : Option Value} {h' : ym_H}, ym_Y D b0 g_X8_askPapers 3 192 [(0, va_rf w0), (1, .int w1), (2, .int x.1), (3, .int x.2.1), (4, .long x.2.2.1), (6, .int x.2.2.2.1), (7, .long x.2.2.2.2)] [] h1 r0 h' → ym_Y D b0 g_X8_askPapers 3 46 [(0, va_rf w0), (1, .int w1), (2, .int u2), (3, .int u3), (4, .long u4), (6, .int u6), (7, .long u7), (9, .int u9)] [] h r0 h') (hf : bl_X8_askPapers_168_46 K N w0 w1 w2 w3 w4 w9 h = some (x, h1)) {r0 : Option Value} {h' : ym_H} (k : ym_Y D b0 g_X8_askPapers 3 192 [(0, va_rf w0), (1, .int w1), (2, .int x.1), (3, .int x.2.1), (4, .long x.2.2.1), (6, .int x.2.2.2.1), (7, .long x.2.2.2.2)] [] h1 r0 h') : ym_Y D b0 g_X8_askPapers 3 168 [(0, va_rf w0), (1, .int w1), (2, .int w2), (3, .int w3), (4, .long w4), (9, .int w9)] [] h r0 h' := by
  unfold bl_X8_askPapers_168_46 at hf
  refine ym_aload_n (pc := 168) 0 dX8_askPapers_168 rfl rfl ?_
  obtain ⟨v169, e169, hf⟩ := Option.bind_eq_some_iff.mp hf
  refine ym_get (pc := 169) dX8_askPapers_169 rfl (by decide) iX8 (k := 22) (by decide) wd_867 (ym_gR_v e169) ?_
  refine ym_iload (pc := 172) 5 dX8_askPapers_172 rfl ?_
  obtain ⟨v174, e174, hf⟩ := Option.bind_eq_some_iff.mp hf
  refine ym_iald (pc := 174) dX8_askPapers_174 rfl (ym_ldI_v e174) ?_
  refine ym_istore (pc := 175) (lv' := [(6, .int v174), (0, va_rf w0), (1, .int w1), (2, .int w2), (3, .int w3), (4, .long w4), (9, .int w9)]) dX8_askPapers_175 (by decide) ⟨trivial, trivial, trivial, trivial, trivial, trivial, trivial⟩ rfl ?_
  refine ym_aload_n (pc := 177) 1 dX8_askPapers_177 rfl rfl ?_
  obtain ⟨v178, e178, hf⟩ := Option.bind_eq_some_iff.mp hf
  refine ym_get (pc := 178) dX8_askPapers_178 rfl (by decide) iX8 (k := 21) (by decide) wd_866 (ym_gR_v e178) ?_
  refine ym_iload (pc := 181) 6 dX8_askPapers_181 rfl ?_
  obtain ⟨v183, e183, hf⟩ := Option.bind_eq_some_iff.mp hf
  refine ym_lald (pc := 183) dX8_askPapers_183 rfl (ym_ldL_v e183) ?_
  refine ym_lstore (pc := 184) (lv' := [(7, .long v183), (6, .int v174), (0, va_rf w0), (1, .int w1), (2, .int w2), (3, .int w3), (4, .long w4), (9, .int w9)]) dX8_askPapers_184 (by decide) ⟨rfl, trivial, trivial, trivial, trivial, trivial, trivial, trivial⟩ rfl ?_
  exact ym_sub [2, 3, 4, 5, 6, 1, 0, 7] rfl (ob_X8_askPapers_186_46 hKl hf k)
def lb_X8_askPapers_46 (K : Option Nat → Int32 → Int32 → Int32 → Int64 → Int32 → Int64 → Int32 → ym_H → Option ((Int32 × Int32 × Int64 × Int32 × Int64) × ym_H)) (N : Nat) (w0 : Option Nat) (w1 : Int32) (w2 : Int32) (w3 : Int32) (w4 : Int64) (w6 : Int32) (w7 : Int64) (w9 : Int32) (h : ym_H) : Option ((Int32 × Int32 × Int64 × Int32 × Int64) × ym_H) :=
  Option.bind (ym_gR h w0 8 19) fun v53 =>
  Option.bind (ym_ldI h v53 w1) fun v57 =>
  if ((40 * w1) + v57) ≤ w9 then
    some ((w2, w3, w4, w6, w7), h)
  else
    Option.bind (ym_gR h w0 8 21) fun v63 =>
    Option.bind (ym_ldL h v63 w9) fun v68 =>
    Option.bind (ym_gR h w0 8 6) fun v70 =>
    Option.bind (ym_ldL h v70 w1) fun v74 =>
    if v74 ≤ v68 then
      if w3 = 0 then
        bl_X8_askPapers_109_46 K N w0 w1 w3 w4 w9 h
      else
        Option.bind (ym_gR h w0 8 21) fun v87 =>
        Option.bind (ym_ldL h v87 w9) fun v92 =>
        Option.bind (ym_gR h w0 8 22) fun v94 =>
        Option.bind (ym_ldI h v94 w9) fun v99 =>
        Option.bind (fn_X8_isAhead N v92 v99 w4 w3 h) fun q103 =>
        if q103.1 = 0 then
          if w6 = 0 then
            bl_X8_askPapers_168_46 K N w0 w1 w2 w3 w4 w9 q103.2
          else
            Option.bind (ym_gR q103.2 w0 8 21) fun v145 =>
            Option.bind (ym_ldL q103.2 v145 w9) fun v150 =>
            Option.bind (ym_gR q103.2 w0 8 22) fun v152 =>
            Option.bind (ym_ldI q103.2 v152 w9) fun v157 =>
            Option.bind (fn_X8_isAhead N v150 v157 w7 w6 q103.2) fun q162 =>
            if q162.1 = 0 then
              bl_X8_askPapers_186_46 K N w0 w1 w2 w3 w4 w6 w7 w9 q162.2
            else
              bl_X8_askPapers_168_46 K N w0 w1 w2 w3 w4 w9 q162.2
        else
          bl_X8_askPapers_109_46 K N w0 w1 w3 w4 w9 q103.2
    else
      bl_X8_askPapers_186_46 K N w0 w1 w2 w3 w4 w6 w7 w9 h
set_option maxRecDepth 20000 in
set_option maxHeartbeats 4000000 in
theorem ol_X8_askPapers_46 {D : ym_D} {b0 : Nat} {K : Option Nat → Int32 → Int32 → Int32 → Int64 → Int32 → Int64 → Int32 → ym_H → Option ((Int32 × Int32 × Int64 × Int32 × Int64) × ym_H)} {N : Nat} {w0 : Option Nat} {w1 : Int32} {w2 : Int32} {w3 : Int32} {w4 : Int64} {w6 : Int32} {w7 : Int64} {w9 : Int32} {h h1 : ym_H} {x : (Int32 × Int32 × Int64 × Int32 × Int64)} (hKl : ∀ (u2 : Int32) (u3 : Int32) (u4 : Int64) (u6 : Int32) (u7 : Int64) (u9 : Int32) (h h1 : ym_H) (x : (Int32 × Int32 × Int64 × Int32 × Int64)), K w0 w1 u2 u3 u4 u6 u7 u9 h = some (x, h1) → ∀ {r0 : Option Value} {h' : ym_H}, ym_Y D b0 g_X8_askPapers 3 192 [(0, va_rf w0), (1, .int w1), (2, .int x.1), (3, .int x.2.1), (4, .long x.2.2.1), (6, .int x.2.2.2.1), (7, .long x.2.2.2.2)] [] h1 r0 h' → ym_Y D b0 g_X8_askPapers 3 46 [(0, va_rf w0), (1, .int w1), (2, .int u2), (3, .int u3), (4, .long u4), (6, .int u6), (7, .long u7), (9, .int u9)] [] h r0 h') (hf : lb_X8_askPapers_46 K N w0 w1 w2 w3 w4 w6 w7 w9 h = some (x, h1)) {r0 : Option Value} {h' : ym_H} (k : ym_Y D b0 g_X8_askPapers 3 192 [(0, va_rf w0), (1, .int w1), (2, .int x.1), (3, .int x.2.1), (4, .long x.2.2.1), (6, .int x.2.2.2.1), (7, .long x.2.2.2.2)] [] h1 r0 h') : ym_Y D b0 g_X8_askPapers 3 46 [(0, va_rf w0), (1, .int w1), (2, .int w2), (3, .int w3), (4, .long w4), (6, .int w6), (7, .long w7), (9, .int w9)] [] h r0 h' := by
  unfold lb_X8_askPapers_46 at hf
  refine ym_iload (pc := 46) 7 dX8_askPapers_46 rfl ?_
  refine ym_bipush (pc := 48) (v := 40) dX8_askPapers_48 (by decide) ?_
  refine ym_iload_n (pc := 50) 1 dX8_askPapers_50 rfl rfl ?_
  refine ym_imul (pc := 51) dX8_askPapers_51 ?_
  refine ym_aload_n (pc := 52) 0 dX8_askPapers_52 rfl rfl ?_
  obtain ⟨v53, e53, hf⟩ := Option.bind_eq_some_iff.mp hf
  refine ym_get (pc := 53) dX8_askPapers_53 rfl (by decide) iX8 (k := 19) (by decide) wd_864 (ym_gR_v e53) ?_
  refine ym_iload_n (pc := 56) 1 dX8_askPapers_56 rfl rfl ?_
  obtain ⟨v57, e57, hf⟩ := Option.bind_eq_some_iff.mp hf
  refine ym_iald (pc := 57) dX8_askPapers_57 rfl (ym_ldI_v e57) ?_
  refine ym_iadd (pc := 58) dX8_askPapers_58 ?_
  by_cases c59 : ((40 * w1) + v57) ≤ w9
  · rw [if_pos c59] at hf
    refine ym_icmp_ge_y (pc := 59) (tgt := 192) dX8_askPapers_59 (by decide) c59 ?_
    cases hf
    exact ym_sub [0, 1, 2, 3, 4, 5, 6] rfl k
  · rw [if_neg c59] at hf
    refine ym_icmp_ge_n (pc := 59) (tgt := 192) dX8_askPapers_59 (by decide) c59 ?_
    refine ym_aload_n (pc := 62) 0 dX8_askPapers_62 rfl rfl ?_
    obtain ⟨v63, e63, hf⟩ := Option.bind_eq_some_iff.mp hf
    refine ym_get (pc := 63) dX8_askPapers_63 rfl (by decide) iX8 (k := 21) (by decide) wd_866 (ym_gR_v e63) ?_
    refine ym_iload (pc := 66) 7 dX8_askPapers_66 rfl ?_
    obtain ⟨v68, e68, hf⟩ := Option.bind_eq_some_iff.mp hf
    refine ym_lald (pc := 68) dX8_askPapers_68 rfl (ym_ldL_v e68) ?_
    refine ym_aload_n (pc := 69) 0 dX8_askPapers_69 rfl rfl ?_
    obtain ⟨v70, e70, hf⟩ := Option.bind_eq_some_iff.mp hf
    refine ym_get (pc := 70) dX8_askPapers_70 rfl (by decide) iX8 (k := 6) (by decide) wd_851 (ym_gR_v e70) ?_
    refine ym_iload_n (pc := 73) 1 dX8_askPapers_73 rfl rfl ?_
    obtain ⟨v74, e74, hf⟩ := Option.bind_eq_some_iff.mp hf
    refine ym_lald (pc := 74) dX8_askPapers_74 rfl (ym_ldL_v e74) ?_
    by_cases c75 : v74 ≤ v68
    · rw [if_pos c75] at hf
      refine ym_lcmp_ge_y (pc := 75) (tgt := 82) dX8_askPapers_75 dX8_askPapers_76 (by decide) c75 ?_
      refine ym_iload_n (pc := 82) 3 dX8_askPapers_82 rfl rfl ?_
      by_cases c83 : w3 = 0
      · rw [if_pos c83] at hf
        refine ym_if_eq_y (pc := 83) (tgt := 109) dX8_askPapers_83 (by decide) c83 ?_
        exact ym_sub [0, 1, 3, 4, 7] rfl (ob_X8_askPapers_109_46 hKl hf k)
      · rw [if_neg c83] at hf
        refine ym_if_eq_n (pc := 83) (tgt := 109) dX8_askPapers_83 (by decide) c83 ?_
        refine ym_aload_n (pc := 86) 0 dX8_askPapers_86 rfl rfl ?_
        obtain ⟨v87, e87, hf⟩ := Option.bind_eq_some_iff.mp hf
        refine ym_get (pc := 87) dX8_askPapers_87 rfl (by decide) iX8 (k := 21) (by decide) wd_866 (ym_gR_v e87) ?_
        refine ym_iload (pc := 90) 7 dX8_askPapers_90 rfl ?_
        obtain ⟨v92, e92, hf⟩ := Option.bind_eq_some_iff.mp hf
        refine ym_lald (pc := 92) dX8_askPapers_92 rfl (ym_ldL_v e92) ?_
        refine ym_aload_n (pc := 93) 0 dX8_askPapers_93 rfl rfl ?_
        obtain ⟨v94, e94, hf⟩ := Option.bind_eq_some_iff.mp hf
        refine ym_get (pc := 94) dX8_askPapers_94 rfl (by decide) iX8 (k := 22) (by decide) wd_867 (ym_gR_v e94) ?_
        refine ym_iload (pc := 97) 7 dX8_askPapers_97 rfl ?_
        obtain ⟨v99, e99, hf⟩ := Option.bind_eq_some_iff.mp hf
        refine ym_iald (pc := 99) dX8_askPapers_99 rfl (ym_ldI_v e99) ?_
        refine ym_lload (pc := 100) 4 dX8_askPapers_100 rfl ?_
        refine ym_iload_n (pc := 102) 3 dX8_askPapers_102 rfl rfl ?_
        obtain ⟨q103, e103, hf⟩ := Option.bind_eq_some_iff.mp hf
        refine ym_callS (pc := 103) (G2 := g_X8_isAhead) (dep2 := 1) (As := [.long v92, .int v99, .long w4, .int w3]) (st := []) (stk2 := [.int q103.1]) (r2 := (some (.int q103.1))) (h1 := q103.2) dX8_askPapers_103 (ok_X8_isAhead e103) (sc_X8_askPapers_X8_isAhead) wd_1097 wd_1098 rfl rfl (ym_st4 (Nat.le_of_ble_eq_true rfl)) rfl ?_
        by_cases c106 : q103.1 = 0
        · rw [if_pos c106] at hf
          refine ym_if_eq_y (pc := 106) (tgt := 139) dX8_askPapers_106 (by decide) c106 ?_
          refine ym_iload (pc := 139) 5 dX8_askPapers_139 rfl ?_
          by_cases c141 : w6 = 0
          · rw [if_pos c141] at hf
            refine ym_if_eq_y (pc := 141) (tgt := 168) dX8_askPapers_141 (by decide) c141 ?_
            exact ym_sub [0, 1, 2, 3, 4, 7] rfl (ob_X8_askPapers_168_46 hKl hf k)
          · rw [if_neg c141] at hf
            refine ym_if_eq_n (pc := 141) (tgt := 168) dX8_askPapers_141 (by decide) c141 ?_
            refine ym_aload_n (pc := 144) 0 dX8_askPapers_144 rfl rfl ?_
            obtain ⟨v145, e145, hf⟩ := Option.bind_eq_some_iff.mp hf
            refine ym_get (pc := 145) dX8_askPapers_145 rfl (by decide) iX8 (k := 21) (by decide) wd_866 (ym_gR_v e145) ?_
            refine ym_iload (pc := 148) 7 dX8_askPapers_148 rfl ?_
            obtain ⟨v150, e150, hf⟩ := Option.bind_eq_some_iff.mp hf
            refine ym_lald (pc := 150) dX8_askPapers_150 rfl (ym_ldL_v e150) ?_
            refine ym_aload_n (pc := 151) 0 dX8_askPapers_151 rfl rfl ?_
            obtain ⟨v152, e152, hf⟩ := Option.bind_eq_some_iff.mp hf
            refine ym_get (pc := 152) dX8_askPapers_152 rfl (by decide) iX8 (k := 22) (by decide) wd_867 (ym_gR_v e152) ?_
            refine ym_iload (pc := 155) 7 dX8_askPapers_155 rfl ?_
            obtain ⟨v157, e157, hf⟩ := Option.bind_eq_some_iff.mp hf
            refine ym_iald (pc := 157) dX8_askPapers_157 rfl (ym_ldI_v e157) ?_
            refine ym_lload (pc := 158) 6 dX8_askPapers_158 rfl ?_
            refine ym_iload (pc := 160) 5 dX8_askPapers_160 rfl ?_
            obtain ⟨q162, e162, hf⟩ := Option.bind_eq_some_iff.mp hf
            refine ym_callS (pc := 162) (G2 := g_X8_isAhead) (dep2 := 1) (As := [.long v150, .int v157, .long w7, .int w6]) (st := []) (stk2 := [.int q162.1]) (r2 := (some (.int q162.1))) (h1 := q162.2) dX8_askPapers_162 (ok_X8_isAhead e162) (sc_X8_askPapers_X8_isAhead) wd_1097 wd_1098 rfl rfl (ym_st4 (Nat.le_of_ble_eq_true rfl)) rfl ?_
            by_cases c165 : q162.1 = 0
            · rw [if_pos c165] at hf
              refine ym_if_eq_y (pc := 165) (tgt := 186) dX8_askPapers_165 (by decide) c165 ?_
              exact ym_sub [0, 1, 2, 3, 4, 5, 6, 7] rfl (ob_X8_askPapers_186_46 hKl hf k)
            · rw [if_neg c165] at hf
              refine ym_if_eq_n (pc := 165) (tgt := 186) dX8_askPapers_165 (by decide) c165 ?_
              exact ym_sub [0, 1, 2, 3, 4, 7] rfl (ob_X8_askPapers_168_46 hKl hf k)
        · rw [if_neg c106] at hf
          refine ym_if_eq_n (pc := 106) (tgt := 139) dX8_askPapers_106 (by decide) c106 ?_
          exact ym_sub [0, 1, 3, 4, 7] rfl (ob_X8_askPapers_109_46 hKl hf k)
    · rw [if_neg c75] at hf
      refine ym_lcmp_ge_n (pc := 75) (tgt := 82) dX8_askPapers_75 dX8_askPapers_76 (by decide) c75 ?_
      refine ym_goto (pc := 79) (tgt := 186) dX8_askPapers_79 (by decide) ?_
      exact ym_sub [0, 1, 2, 3, 4, 5, 6, 7] rfl (ob_X8_askPapers_186_46 hKl hf k)
def lp_X8_askPapers_46 (N : Nat) : Nat → Option Nat → Int32 → Int32 → Int32 → Int64 → Int32 → Int64 → Int32 → ym_H → Option ((Int32 × Int32 × Int64 × Int32 × Int64) × ym_H)
  | 0, _, _, _, _, _, _, _, _, _ => none
  | n + 1, w0, w1, w2, w3, w4, w6, w7, w9, h => lb_X8_askPapers_46 (lp_X8_askPapers_46 N n) N w0 w1 w2 w3 w4 w6 w7 w9 h
set_option maxRecDepth 20000 in
set_option maxHeartbeats 4000000 in
theorem ok_lp_X8_askPapers_46 {D : ym_D} {b0 : Nat} {N : Nat} {w0 : Option Nat} {w1 : Int32} : ∀ (n : Nat) (w2 : Int32) (w3 : Int32) (w4 : Int64) (w6 : Int32) (w7 : Int64) (w9 : Int32) (h h1 : ym_H) (x : (Int32 × Int32 × Int64 × Int32 × Int64)), lp_X8_askPapers_46 N n w0 w1 w2 w3 w4 w6 w7 w9 h = some (x, h1) → ∀ {r0 : Option Value} {h' : ym_H}, ym_Y D b0 g_X8_askPapers 3 192 [(0, va_rf w0), (1, .int w1), (2, .int x.1), (3, .int x.2.1), (4, .long x.2.2.1), (6, .int x.2.2.2.1), (7, .long x.2.2.2.2)] [] h1 r0 h' → ym_Y D b0 g_X8_askPapers 3 46 [(0, va_rf w0), (1, .int w1), (2, .int w2), (3, .int w3), (4, .long w4), (6, .int w6), (7, .long w7), (9, .int w9)] [] h r0 h' := by
  intro n
  induction n with
  | zero =>
    intro w2 w3 w4 w6 w7 w9 h h1 x hf
    cases hf
  | succ n ih =>
    intro w2 w3 w4 w6 w7 w9 h h1 x hf r0 h' k
    exact ol_X8_askPapers_46 (fun w2 w3 w4 w6 w7 w9 h h1 x z r0 h' k => ih w2 w3 w4 w6 w7 w9 h h1 x z k) hf k
theorem sc_X8_askPapers_X8_standing : ym_site g_X8_askPapers g_X8_standing 3 1 1 := ⟨by decide, by decide, wd_1107, wd_83, by decide +kernel⟩
theorem sc_X8_askPapers_X8_standingSum : ym_site g_X8_askPapers g_X8_standingSum 3 2 1 := ⟨by decide, by decide, wd_1111, wd_83, by decide +kernel⟩
theorem sc_X8_askPapers_X8_enter : ym_site g_X8_askPapers g_X8_enter 3 2 3 := ⟨by decide, by decide, wd_1115, wd_83, by decide +kernel⟩
def bl_X8_askPapers_295 (N : Nat) (w0 : Option Nat) (w1 : Int32) (w9 : Int64) (w11 : Int32) (h : ym_H) : Option (Unit × ym_H) :=
  Option.bind (ym_ob h w0 8) fun o301 =>
  Option.bind (fn_X8_enter N w0 w1 w11 w9 h) fun q301 =>
  some ((), q301.2)
set_option maxRecDepth 20000 in
set_option maxHeartbeats 4000000 in
theorem ob_X8_askPapers_295 {D : ym_D} {b0 : Nat} {N : Nat} {w0 : Option Nat} {w1 : Int32} {w9 : Int64} {w11 : Int32} {h h' : ym_H} {r : Unit} (hf : bl_X8_askPapers_295 N w0 w1 w9 w11 h = some (r, h')) : ym_Y D b0 g_X8_askPapers 3 295 [(0, va_rf w0), (1, .int w1), (9, .long w9), (11, .int w11)] [] h none h' := by
  unfold bl_X8_askPapers_295 at hf
  refine ym_aload_n (pc := 295) 0 dX8_askPapers_295 rfl rfl ?_
  refine ym_iload_n (pc := 296) 1 dX8_askPapers_296 rfl rfl ?_
  refine ym_iload (pc := 297) 3 dX8_askPapers_297 rfl ?_
  refine ym_lload (pc := 299) 2 dX8_askPapers_299 rfl ?_
  obtain ⟨o301, f301, hf⟩ := Option.bind_eq_some_iff.mp hf
  obtain ⟨q301, e301, hf⟩ := Option.bind_eq_some_iff.mp hf
  refine ym_callV (pc := 301) (G2 := g_X8_enter) (dep2 := 2) (As := [.int w1, .int w11, .long w9]) (st := []) (stk2 := []) (r2 := none) (h1 := q301.2) dX8_askPapers_301 (ok_X8_enter e301) (sc_X8_askPapers_X8_enter) wd_1112 wd_1114 wd_39 (ci := 8) (q0 := (RX8, TX8, 58)) rfl (by decide) rfl f301 rfl rfl (ym_st4 (Nat.le_of_ble_eq_true rfl)) rfl ?_
  cases hf
  exact ym_vret (pc := 304) dX8_askPapers_304 rfl
def bl_X8_askPapers_266 (N : Nat) (w0 : Option Nat) (w1 : Int32) (w2 : Int32) (w9 : Int64) (h : ym_H) : Option (Unit × ym_H) :=
  Option.bind (ym_gR h w0 8 20) fun v267 =>
  Option.bind (ym_ldI h v267 w2) fun v271 =>
  Option.bind (ym_ob h w0 8) fun o276 =>
  Option.bind (fn_X8_standing N w0 w1 h) fun q276 =>
  if q276.1 = v271 then
    Option.bind (ym_ob q276.2 w0 8) fun o286 =>
    Option.bind (fn_X8_standingSum N w0 w1 q276.2) fun q286 =>
    if w9 ≤ q286.1 then
      some ((), q286.2)
    else
      bl_X8_askPapers_295 N w0 w1 w9 v271 q286.2
  else
    bl_X8_askPapers_295 N w0 w1 w9 v271 q276.2
set_option maxRecDepth 20000 in
set_option maxHeartbeats 4000000 in
theorem ob_X8_askPapers_266 {D : ym_D} {b0 : Nat} {N : Nat} {w0 : Option Nat} {w1 : Int32} {w2 : Int32} {w9 : Int64} {h h' : ym_H} {r : Unit} (hf : bl_X8_askPapers_266 N w0 w1 w2 w9 h = some (r, h')) : ym_Y D b0 g_X8_askPapers 3 266 [(0, va_rf w0), (1, .int w1), (2, .int w2), (9, .long w9)] [] h none h' := by
  unfold bl_X8_askPapers_266 at hf
  refine ym_aload_n (pc := 266) 0 dX8_askPapers_266 rfl rfl ?_
  obtain ⟨v267, e267, hf⟩ := Option.bind_eq_some_iff.mp hf
  refine ym_get (pc := 267) dX8_askPapers_267 rfl (by decide) iX8 (k := 20) (by decide) wd_865 (ym_gR_v e267) ?_
  refine ym_iload_n (pc := 270) 2 dX8_askPapers_270 rfl rfl ?_
  obtain ⟨v271, e271, hf⟩ := Option.bind_eq_some_iff.mp hf
  refine ym_iald (pc := 271) dX8_askPapers_271 rfl (ym_ldI_v e271) ?_
  refine ym_sub (lv' := [(0, va_rf w0), (1, .int w1), (9, .long w9)]) [0, 1, 3] rfl ?_
  refine ym_istore (pc := 272) (lv' := [(11, .int v271), (0, va_rf w0), (1, .int w1), (9, .long w9)]) dX8_askPapers_272 (by decide) ⟨trivial, trivial, trivial, trivial⟩ rfl ?_
  refine ym_aload_n (pc := 274) 1 dX8_askPapers_274 rfl rfl ?_
  refine ym_iload_n (pc := 275) 2 dX8_askPapers_275 rfl rfl ?_
  obtain ⟨o276, f276, hf⟩ := Option.bind_eq_some_iff.mp hf
  obtain ⟨q276, e276, hf⟩ := Option.bind_eq_some_iff.mp hf
  refine ym_callV (pc := 276) (G2 := g_X8_standing) (dep2 := 1) (As := [.int w1]) (st := []) (stk2 := [.int q276.1]) (r2 := (some (.int q276.1))) (h1 := q276.2) dX8_askPapers_276 (ok_X8_standing e276) (sc_X8_askPapers_X8_standing) wd_1104 wd_1106 wd_37 (ci := 8) (q0 := (RX8, TX8, 58)) rfl (by decide) rfl f276 rfl rfl (ym_st4 (Nat.le_of_ble_eq_true rfl)) rfl ?_
  refine ym_iload (pc := 279) 0 dX8_askPapers_279 rfl ?_
  by_cases c281 : q276.1 = v271
  · rw [if_pos c281] at hf
    refine ym_icmp_ne_y (pc := 281) (tgt := 295) dX8_askPapers_281 (by decide) c281 ?_
    refine ym_aload_n (pc := 284) 1 dX8_askPapers_284 rfl rfl ?_
    refine ym_iload_n (pc := 285) 2 dX8_askPapers_285 rfl rfl ?_
    obtain ⟨o286, f286, hf⟩ := Option.bind_eq_some_iff.mp hf
    obtain ⟨q286, e286, hf⟩ := Option.bind_eq_some_iff.mp hf
    refine ym_callV (pc := 286) (G2 := g_X8_standingSum) (dep2 := 2) (As := [.int w1]) (st := []) (stk2 := [.long q286.1]) (r2 := (some (.long q286.1))) (h1 := q286.2) dX8_askPapers_286 (ok_X8_standingSum e286) (sc_X8_askPapers_X8_standingSum) wd_1108 wd_1110 wd_38 (ci := 8) (q0 := (RX8, TX8, 58)) rfl (by decide) rfl f286 rfl rfl (ym_st4 (Nat.le_of_ble_eq_true rfl)) rfl ?_
    refine ym_lload (pc := 289) 3 dX8_askPapers_289 rfl ?_
    by_cases c291 : w9 ≤ q286.1
    · rw [if_pos c291] at hf
      refine ym_lcmp_ge_y (pc := 291) (tgt := 304) dX8_askPapers_291 dX8_askPapers_292 (by decide) c291 ?_
      cases hf
      exact ym_vret (pc := 304) dX8_askPapers_304 rfl
    · rw [if_neg c291] at hf
      refine ym_lcmp_ge_n (pc := 291) (tgt := 304) dX8_askPapers_291 dX8_askPapers_292 (by decide) c291 ?_
      exact ym_sub [1, 2, 3, 0] rfl (ob_X8_askPapers_295 hf)
  · rw [if_neg c281] at hf
    refine ym_icmp_ne_n (pc := 281) (tgt := 295) dX8_askPapers_281 (by decide) c281 ?_
    exact ym_sub [1, 2, 3, 0] rfl (ob_X8_askPapers_295 hf)
def bl_X8_askPapers_254 (N : Nat) (w0 : Option Nat) (w1 : Int32) (w2 : Int32) (w4 : Int64) (w9 : Int64) (h : ym_H) : Option (Unit × ym_H) :=
  if w9 ≤ w4 then
    bl_X8_askPapers_266 N w0 w1 w2 w9 h
  else
    bl_X8_askPapers_266 N w0 w1 w2 w4 h
set_option maxRecDepth 20000 in
set_option maxHeartbeats 4000000 in
theorem ob_X8_askPapers_254 {D : ym_D} {b0 : Nat} {N : Nat} {w0 : Option Nat} {w1 : Int32} {w2 : Int32} {w4 : Int64} {w9 : Int64} {h h' : ym_H} {r : Unit} (hf : bl_X8_askPapers_254 N w0 w1 w2 w4 w9 h = some (r, h')) : ym_Y D b0 g_X8_askPapers 3 254 [(0, va_rf w0), (1, .int w1), (2, .int w2), (4, .long w4), (9, .long w9)] [] h none h' := by
  unfold bl_X8_askPapers_254 at hf
  refine ym_lload (pc := 254) 4 dX8_askPapers_254 rfl ?_
  refine ym_lload (pc := 256) 3 dX8_askPapers_256 rfl ?_
  by_cases c258 : w9 ≤ w4
  · rw [if_pos c258] at hf
    refine ym_lcmp_le_y (pc := 258) (tgt := 266) dX8_askPapers_258 dX8_askPapers_259 (by decide) c258 ?_
    exact ym_sub [0, 1, 2, 4] rfl (ob_X8_askPapers_266 hf)
  · rw [if_neg c258] at hf
    refine ym_lcmp_le_n (pc := 258) (tgt := 266) dX8_askPapers_258 dX8_askPapers_259 (by decide) c258 ?_
    refine ym_lload (pc := 262) 3 dX8_askPapers_262 rfl ?_
    refine ym_sub (lv' := [(0, va_rf w0), (1, .int w1), (2, .int w2)]) [0, 1, 2] rfl ?_
    refine ym_lstore (pc := 264) (lv' := [(9, .long w4), (0, va_rf w0), (1, .int w1), (2, .int w2)]) dX8_askPapers_264 (by decide) ⟨trivial, trivial, trivial, trivial⟩ rfl ?_
    exact ym_sub [1, 2, 3, 0] rfl (ob_X8_askPapers_266 hf)
def bl_X8_askPapers_232 (N : Nat) (w0 : Option Nat) (w1 : Int32) (w2 : Int32) (w4 : Int64) (s0 : Int64) (h : ym_H) : Option (Unit × ym_H) :=
  Option.bind (ym_gR h w0 8 7) fun v237 =>
  Option.bind (ym_ldL h v237 w1) fun v241 =>
  if v241 ≤ s0 then
    bl_X8_askPapers_254 N w0 w1 w2 w4 s0 h
  else
    Option.bind (ym_gR h w0 8 7) fun v247 =>
    Option.bind (ym_ldL h v247 w1) fun v251 =>
    bl_X8_askPapers_254 N w0 w1 w2 w4 v251 h
set_option maxRecDepth 20000 in
set_option maxHeartbeats 4000000 in
theorem ob_X8_askPapers_232 {D : ym_D} {b0 : Nat} {N : Nat} {w0 : Option Nat} {w1 : Int32} {w2 : Int32} {w4 : Int64} {s0 : Int64} {h h' : ym_H} {r : Unit} (hf : bl_X8_askPapers_232 N w0 w1 w2 w4 s0 h = some (r, h')) : ym_Y D b0 g_X8_askPapers 3 232 [(0, va_rf w0), (1, .int w1), (2, .int w2), (4, .long w4)] [.long s0] h none h' := by
  unfold bl_X8_askPapers_232 at hf
  refine ym_lstore (pc := 232) (lv' := [(9, .long s0), (0, va_rf w0), (1, .int w1), (2, .int w2), (4, .long w4)]) dX8_askPapers_232 (by decide) ⟨trivial, trivial, trivial, trivial, trivial⟩ rfl ?_
  refine ym_lload (pc := 234) 0 dX8_askPapers_234 rfl ?_
  refine ym_aload_n (pc := 236) 1 dX8_askPapers_236 rfl rfl ?_
  obtain ⟨v237, e237, hf⟩ := Option.bind_eq_some_iff.mp hf
  refine ym_get (pc := 237) dX8_askPapers_237 rfl (by decide) iX8 (k := 7) (by decide) wd_852 (ym_gR_v e237) ?_
  refine ym_iload_n (pc := 240) 2 dX8_askPapers_240 rfl rfl ?_
  obtain ⟨v241, e241, hf⟩ := Option.bind_eq_some_iff.mp hf
  refine ym_lald (pc := 241) dX8_askPapers_241 rfl (ym_ldL_v e241) ?_
  by_cases c242 : v241 ≤ s0
  · rw [if_pos c242] at hf
    refine ym_lcmp_ge_y (pc := 242) (tgt := 254) dX8_askPapers_242 dX8_askPapers_243 (by decide) c242 ?_
    exact ym_sub [1, 2, 3, 4, 0] rfl (ob_X8_askPapers_254 hf)
  · rw [if_neg c242] at hf
    refine ym_lcmp_ge_n (pc := 242) (tgt := 254) dX8_askPapers_242 dX8_askPapers_243 (by decide) c242 ?_
    refine ym_aload_n (pc := 246) 1 dX8_askPapers_246 rfl rfl ?_
    obtain ⟨v247, e247, hf⟩ := Option.bind_eq_some_iff.mp hf
    refine ym_get (pc := 247) dX8_askPapers_247 rfl (by decide) iX8 (k := 7) (by decide) wd_852 (ym_gR_v e247) ?_
    refine ym_iload_n (pc := 250) 2 dX8_askPapers_250 rfl rfl ?_
    obtain ⟨v251, e251, hf⟩ := Option.bind_eq_some_iff.mp hf
    refine ym_lald (pc := 251) dX8_askPapers_251 rfl (ym_ldL_v e251) ?_
    refine ym_lstore (pc := 252) (lv' := [(9, .long v251), (0, va_rf w0), (1, .int w1), (2, .int w2), (4, .long w4)]) dX8_askPapers_252 (by decide) ⟨trivial, trivial, trivial, trivial, trivial, trivial⟩ rfl ?_
    exact ym_sub [1, 2, 3, 4, 0] rfl (ob_X8_askPapers_254 hf)
theorem sc_X8_askPapers_X8_after : ym_site g_X8_askPapers g_X8_after 3 1 1 := ⟨by decide, by decide, wd_1103, wd_83, by decide +kernel⟩
def bl_X8_askPapers_32 (N : Nat) (w0 : Option Nat) (w1 : Int32) (w2 : Int32) (w3 : Int32) (s0 : Int64) (h : ym_H) : Option (Unit × ym_H) :=
  Option.bind (lp_X8_askPapers_46 N N w0 w1 w2 w3 s0 0 0 (40 * w1) h) fun q46 =>
  Option.bind (ym_gR q46.2 w0 8 28) fun v193 =>
  Option.bind (ym_as q46.2 v193 0 w1 (.int q46.1.2.1)) fun h198 =>
  Option.bind (ym_gR h198 w0 8 29) fun v200 =>
  Option.bind (ym_as h198 v200 0 w1 (.int q46.1.2.2.2.1)) fun h206 =>
  if 0 ≤ q46.1.1 then
    if q46.1.2.2.2.1 ≤ 0 then
      Option.bind (ym_gR h206 w0 8 6) fun v227 =>
      Option.bind (ym_ldL h206 v227 w1) fun v231 =>
      bl_X8_askPapers_232 N w0 w1 q46.1.1 q46.1.2.2.1 v231 h206
    else
      Option.bind (ym_ob h206 w0 8) fun o220 =>
      Option.bind (fn_X8_after N w0 q46.1.2.2.2.2 h206) fun q220 =>
      bl_X8_askPapers_232 N w0 w1 q46.1.1 q46.1.2.2.1 q220.1 q220.2
  else
    some ((), h206)
set_option maxRecDepth 20000 in
set_option maxHeartbeats 4000000 in
theorem ob_X8_askPapers_32 {D : ym_D} {b0 : Nat} {N : Nat} {w0 : Option Nat} {w1 : Int32} {w2 : Int32} {w3 : Int32} {s0 : Int64} {h h' : ym_H} {r : Unit} (hf : bl_X8_askPapers_32 N w0 w1 w2 w3 s0 h = some (r, h')) : ym_Y D b0 g_X8_askPapers 3 32 [(0, va_rf w0), (1, .int w1), (2, .int w2), (3, .int w3)] [.long s0] h none h' := by
  unfold bl_X8_askPapers_32 at hf
  refine ym_lstore (pc := 32) (lv' := [(4, .long s0), (0, va_rf w0), (1, .int w1), (2, .int w2), (3, .int w3)]) dX8_askPapers_32 (by decide) ⟨trivial, trivial, trivial, rfl, trivial⟩ rfl ?_
  refine ym_iconst (pc := 34) (v := 0) dX8_askPapers_34 (by decide) ?_
  refine ym_istore (pc := 35) (lv' := [(6, .int 0), (4, .long s0), (0, va_rf w0), (1, .int w1), (2, .int w2), (3, .int w3)]) dX8_askPapers_35 (by decide) ⟨trivial, trivial, trivial, trivial, trivial, trivial⟩ rfl ?_
  refine ym_lconst (pc := 37) (v := 0) dX8_askPapers_37 (by decide) ?_
  refine ym_lstore (pc := 38) (lv' := [(7, .long 0), (6, .int 0), (4, .long s0), (0, va_rf w0), (1, .int w1), (2, .int w2), (3, .int w3)]) dX8_askPapers_38 (by decide) ⟨rfl, trivial, trivial, trivial, trivial, trivial, trivial⟩ rfl ?_
  refine ym_bipush (pc := 40) (v := 40) dX8_askPapers_40 (by decide) ?_
  refine ym_iload_n (pc := 42) 4 dX8_askPapers_42 rfl rfl ?_
  refine ym_imul (pc := 43) dX8_askPapers_43 ?_
  refine ym_istore (pc := 44) (lv' := [(9, .int (40 * w1)), (7, .long 0), (6, .int 0), (4, .long s0), (0, va_rf w0), (1, .int w1), (2, .int w2), (3, .int w3)]) dX8_askPapers_44 (by decide) ⟨trivial, trivial, trivial, trivial, trivial, trivial, trivial, trivial⟩ rfl ?_
  obtain ⟨q46, e46, hf⟩ := Option.bind_eq_some_iff.mp hf
  refine ym_sub (lv' := [(0, va_rf w0), (1, .int w1), (2, .int w2), (3, .int w3), (4, .long s0), (6, .int 0), (7, .long 0), (9, .int (40 * w1))]) [4, 5, 6, 7, 3, 2, 1, 0] rfl ?_
  refine ok_lp_X8_askPapers_46 N _ _ _ _ _ _ _ _ _ e46 ?_
  refine ym_aload_n (pc := 192) 0 dX8_askPapers_192 rfl rfl ?_
  obtain ⟨v193, e193, hf⟩ := Option.bind_eq_some_iff.mp hf
  refine ym_get (pc := 193) dX8_askPapers_193 rfl (by decide) iX8 (k := 28) (by decide) wd_873 (ym_gR_v e193) ?_
  refine ym_iload_n (pc := 196) 1 dX8_askPapers_196 rfl rfl ?_
  refine ym_iload_n (pc := 197) 3 dX8_askPapers_197 rfl rfl ?_
  obtain ⟨h198, e198, hf⟩ := Option.bind_eq_some_iff.mp hf
  refine ym_iast (pc := 198) dX8_askPapers_198 rfl e198 ?_
  refine ym_aload_n (pc := 199) 0 dX8_askPapers_199 rfl rfl ?_
  obtain ⟨v200, e200, hf⟩ := Option.bind_eq_some_iff.mp hf
  refine ym_get (pc := 200) dX8_askPapers_200 rfl (by decide) iX8 (k := 29) (by decide) wd_874 (ym_gR_v e200) ?_
  refine ym_iload_n (pc := 203) 1 dX8_askPapers_203 rfl rfl ?_
  refine ym_iload (pc := 204) 5 dX8_askPapers_204 rfl ?_
  obtain ⟨h206, e206, hf⟩ := Option.bind_eq_some_iff.mp hf
  refine ym_iast (pc := 206) dX8_askPapers_206 rfl e206 ?_
  refine ym_iload_n (pc := 207) 2 dX8_askPapers_207 rfl rfl ?_
  by_cases c208 : 0 ≤ q46.1.1
  · rw [if_pos c208] at hf
    refine ym_if_ge_y (pc := 208) (tgt := 212) dX8_askPapers_208 (by decide) c208 ?_
    refine ym_iload (pc := 212) 5 dX8_askPapers_212 rfl ?_
    by_cases c214 : q46.1.2.2.2.1 ≤ 0
    · rw [if_pos c214] at hf
      refine ym_if_le_y (pc := 214) (tgt := 226) dX8_askPapers_214 (by decide) c214 ?_
      refine ym_aload_n (pc := 226) 0 dX8_askPapers_226 rfl rfl ?_
      obtain ⟨v227, e227, hf⟩ := Option.bind_eq_some_iff.mp hf
      refine ym_get (pc := 227) dX8_askPapers_227 rfl (by decide) iX8 (k := 6) (by decide) wd_851 (ym_gR_v e227) ?_
      refine ym_iload_n (pc := 230) 1 dX8_askPapers_230 rfl rfl ?_
      obtain ⟨v231, e231, hf⟩ := Option.bind_eq_some_iff.mp hf
      refine ym_lald (pc := 231) dX8_askPapers_231 rfl (ym_ldL_v e231) ?_
      exact ym_sub [0, 1, 2, 4] rfl (ob_X8_askPapers_232 hf)
    · rw [if_neg c214] at hf
      refine ym_if_le_n (pc := 214) (tgt := 226) dX8_askPapers_214 (by decide) c214 ?_
      refine ym_aload_n (pc := 217) 0 dX8_askPapers_217 rfl rfl ?_
      refine ym_lload (pc := 218) 6 dX8_askPapers_218 rfl ?_
      obtain ⟨o220, f220, hf⟩ := Option.bind_eq_some_iff.mp hf
      obtain ⟨q220, e220, hf⟩ := Option.bind_eq_some_iff.mp hf
      refine ym_callV (pc := 220) (G2 := g_X8_after) (dep2 := 1) (As := [.long q46.1.2.2.2.2]) (st := []) (stk2 := [.long q220.1]) (r2 := (some (.long q220.1))) (h1 := q220.2) dX8_askPapers_220 (ok_X8_after e220) (sc_X8_askPapers_X8_after) wd_1100 wd_1102 wd_36 (ci := 8) (q0 := (RX8, TX8, 58)) rfl (by decide) rfl f220 rfl rfl (ym_st4 (Nat.le_of_ble_eq_true rfl)) rfl ?_
      refine ym_goto (pc := 223) (tgt := 232) dX8_askPapers_223 (by decide) ?_
      exact ym_sub [0, 1, 2, 4] rfl (ob_X8_askPapers_232 hf)
  · rw [if_neg c208] at hf
    refine ym_if_ge_n (pc := 208) (tgt := 212) dX8_askPapers_208 (by decide) c208 ?_
    cases hf
    exact ym_vret (pc := 211) dX8_askPapers_211 rfl
def fn_X8_askPapers (N : Nat) (a0 : Option Nat) (a1 : Int32) (h : ym_H) : Option (Unit × ym_H) :=
  Option.bind (ym_ob h a0 8) fun o2 =>
  Option.bind (fn_X8_isPlain N a0 a1 h) fun q2 =>
  if q2.1 = 0 then
    some ((), q2.2)
  else
    Option.bind (ym_gR q2.2 a0 8 23) fun v12 =>
    Option.bind (ym_ldI q2.2 v12 a1) fun v16 =>
    if v16 ≤ 0 then
      bl_X8_askPapers_32 N a0 a1 (-1) v16 0 q2.2
    else
      Option.bind (ym_gR q2.2 a0 8 24) fun v23 =>
      Option.bind (ym_ldL q2.2 v23 a1) fun v27 =>
      bl_X8_askPapers_32 N a0 a1 (-1) v16 v27 q2.2
set_option maxRecDepth 20000 in
set_option maxHeartbeats 4000000 in
theorem ok_X8_askPapers {D : ym_D} {b0 : Nat} {N : Nat} {a0 : Option Nat} {a1 : Int32} {h h' : ym_H} {r : Unit} (hf : fn_X8_askPapers N a0 a1 h = some (r, h')) : ym_M D b0 g_X8_askPapers 3 [va_rf a0, .int a1] h none h' := by
  unfold fn_X8_askPapers at hf
  refine ym_meth (lv := [(0, va_rf a0), (1, .int a1)]) (by decide) (by simp [lg_sl, ym_c1, ym_cI, ym_cL, g_X8_askPapers]) (by simp [lv_args, ym_c1, ym_cI, ym_cL]) ?_
  refine ym_aload_n (pc := 0) 0 dX8_askPapers_0 rfl rfl ?_
  refine ym_iload_n (pc := 1) 1 dX8_askPapers_1 rfl rfl ?_
  obtain ⟨o2, f2, hf⟩ := Option.bind_eq_some_iff.mp hf
  obtain ⟨q2, e2, hf⟩ := Option.bind_eq_some_iff.mp hf
  refine ym_callV (pc := 2) (G2 := g_X8_isPlain) (dep2 := 1) (As := [.int a1]) (st := []) (stk2 := [.int q2.1]) (r2 := (some (.int q2.1))) (h1 := q2.2) dX8_askPapers_2 (ok_X8_isPlain e2) (sc_X8_askPapers_X8_isPlain) wd_1093 wd_1095 wd_35 (ci := 8) (q0 := (RX8, TX8, 58)) rfl (by decide) rfl f2 rfl rfl (ym_st4 (Nat.le_of_ble_eq_true rfl)) rfl ?_
  by_cases c5 : q2.1 = 0
  · rw [if_pos c5] at hf
    refine ym_if_ne_y (pc := 5) (tgt := 9) dX8_askPapers_5 (by decide) c5 ?_
    cases hf
    exact ym_vret (pc := 8) dX8_askPapers_8 rfl
  · rw [if_neg c5] at hf
    refine ym_if_ne_n (pc := 5) (tgt := 9) dX8_askPapers_5 (by decide) c5 ?_
    refine ym_iconst (pc := 9) (v := (-1)) dX8_askPapers_9 (by decide) ?_
    refine ym_istore_n (pc := 10) (lv' := [(2, .int (-1)), (0, va_rf a0), (1, .int a1)]) dX8_askPapers_10 rfl (by decide) ⟨trivial, rfl, trivial⟩ rfl ?_
    refine ym_aload_n (pc := 11) 1 dX8_askPapers_11 rfl rfl ?_
    obtain ⟨v12, e12, hf⟩ := Option.bind_eq_some_iff.mp hf
    refine ym_get (pc := 12) dX8_askPapers_12 rfl (by decide) iX8 (k := 23) (by decide) wd_868 (ym_gR_v e12) ?_
    refine ym_iload_n (pc := 15) 2 dX8_askPapers_15 rfl rfl ?_
    obtain ⟨v16, e16, hf⟩ := Option.bind_eq_some_iff.mp hf
    refine ym_iald (pc := 16) dX8_askPapers_16 rfl (ym_ldI_v e16) ?_
    refine ym_istore_n (pc := 17) (lv' := [(3, .int v16), (2, .int (-1)), (0, va_rf a0), (1, .int a1)]) dX8_askPapers_17 rfl (by decide) ⟨rfl, trivial, trivial, trivial⟩ rfl ?_
    refine ym_iload_n (pc := 18) 0 dX8_askPapers_18 rfl rfl ?_
    by_cases c19 : v16 ≤ 0
    · rw [if_pos c19] at hf
      refine ym_if_le_y (pc := 19) (tgt := 31) dX8_askPapers_19 (by decide) c19 ?_
      refine ym_lconst (pc := 31) (v := 0) dX8_askPapers_31 (by decide) ?_
      exact ym_sub [2, 3, 1, 0] rfl (ob_X8_askPapers_32 hf)
    · rw [if_neg c19] at hf
      refine ym_if_le_n (pc := 19) (tgt := 31) dX8_askPapers_19 (by decide) c19 ?_
      refine ym_aload_n (pc := 22) 2 dX8_askPapers_22 rfl rfl ?_
      obtain ⟨v23, e23, hf⟩ := Option.bind_eq_some_iff.mp hf
      refine ym_get (pc := 23) dX8_askPapers_23 rfl (by decide) iX8 (k := 24) (by decide) wd_869 (ym_gR_v e23) ?_
      refine ym_iload_n (pc := 26) 3 dX8_askPapers_26 rfl rfl ?_
      obtain ⟨v27, e27, hf⟩ := Option.bind_eq_some_iff.mp hf
      refine ym_lald (pc := 27) dX8_askPapers_27 rfl (ym_ldL_v e27) ?_
      refine ym_goto (pc := 28) (tgt := 32) dX8_askPapers_28 (by decide) ?_
      exact ym_sub [2, 3, 1, 0] rfl (ob_X8_askPapers_32 hf)
theorem dX8_called_0 : decode cX8_called 0 = .ok (.aload_n 0, 1) := by decide +kernel
theorem dX8_called_1 : decode cX8_called 1 = .ok (.iload_n 1, 1) := by decide +kernel
theorem dX8_called_2 : decode cX8_called 2 = .ok (.invokevirtual 294, 3) := by decide +kernel
theorem dX8_called_5 : decode cX8_called 5 = .ok (.ifCond .le 11, 3) := by decide +kernel
theorem dX8_called_8 : decode cX8_called 8 = .ok (.aload_n 0, 1) := by decide +kernel
theorem dX8_called_9 : decode cX8_called 9 = .ok (.iload_n 1, 1) := by decide +kernel
theorem dX8_called_10 : decode cX8_called 10 = .ok (.invokevirtual 294, 3) := by decide +kernel
theorem dX8_called_13 : decode cX8_called 13 = .ok (.ineg, 1) := by decide +kernel
theorem dX8_called_14 : decode cX8_called 14 = .ok (.i2l, 1) := by decide +kernel
theorem dX8_called_15 : decode cX8_called 15 = .ok (.lreturn, 1) := by decide +kernel
theorem dX8_called_16 : decode cX8_called 16 = .ok (.aload_n 0, 1) := by decide +kernel
theorem dX8_called_17 : decode cX8_called 17 = .ok (.getfield 32, 3) := by decide +kernel
theorem dX8_called_20 : decode cX8_called 20 = .ok (.iload_n 1, 1) := by decide +kernel
theorem dX8_called_21 : decode cX8_called 21 = .ok (.iaload, 1) := by decide +kernel
theorem dX8_called_22 : decode cX8_called 22 = .ok (.ifCond .eq 7, 3) := by decide +kernel
theorem dX8_called_25 : decode cX8_called 25 = .ok (.ldc2_w 346, 3) := by decide +kernel
theorem dX8_called_28 : decode cX8_called 28 = .ok (.lreturn, 1) := by decide +kernel
theorem dX8_called_29 : decode cX8_called 29 = .ok (.aload_n 0, 1) := by decide +kernel
theorem dX8_called_30 : decode cX8_called 30 = .ok (.getfield 32, 3) := by decide +kernel
theorem dX8_called_33 : decode cX8_called 33 = .ok (.iload_n 1, 1) := by decide +kernel
theorem dX8_called_34 : decode cX8_called 34 = .ok (.iconst 1, 1) := by decide +kernel
theorem dX8_called_35 : decode cX8_called 35 = .ok (.iastore, 1) := by decide +kernel
theorem dX8_called_36 : decode cX8_called 36 = .ok (.aload_n 0, 1) := by decide +kernel
theorem dX8_called_37 : decode cX8_called 37 = .ok (.getfield 44, 3) := by decide +kernel
theorem dX8_called_40 : decode cX8_called 40 = .ok (.iload_n 1, 1) := by decide +kernel
theorem dX8_called_41 : decode cX8_called 41 = .ok (.iconst 0, 1) := by decide +kernel
theorem dX8_called_42 : decode cX8_called 42 = .ok (.iastore, 1) := by decide +kernel
theorem dX8_called_43 : decode cX8_called 43 = .ok (.aload_n 0, 1) := by decide +kernel
theorem dX8_called_44 : decode cX8_called 44 = .ok (.getfield 20, 3) := by decide +kernel
theorem dX8_called_47 : decode cX8_called 47 = .ok (.iload_n 1, 1) := by decide +kernel
theorem dX8_called_48 : decode cX8_called 48 = .ok (.iaload, 1) := by decide +kernel
theorem dX8_called_49 : decode cX8_called 49 = .ok (.iconst 5, 1) := by decide +kernel
theorem dX8_called_50 : decode cX8_called 50 = .ok (.if_icmp .ne 15, 3) := by decide +kernel
theorem dX8_called_53 : decode cX8_called 53 = .ok (.aload_n 0, 1) := by decide +kernel
theorem dX8_called_54 : decode cX8_called 54 = .ok (.getfield 35, 3) := by decide +kernel
theorem dX8_called_57 : decode cX8_called 57 = .ok (.iload_n 1, 1) := by decide +kernel
theorem dX8_called_58 : decode cX8_called 58 = .ok (.aload_n 0, 1) := by decide +kernel
theorem dX8_called_59 : decode cX8_called 59 = .ok (.getfield 23, 3) := by decide +kernel
theorem dX8_called_62 : decode cX8_called 62 = .ok (.iload_n 1, 1) := by decide +kernel
theorem dX8_called_63 : decode cX8_called 63 = .ok (.laload, 1) := by decide +kernel
theorem dX8_called_64 : decode cX8_called 64 = .ok (.lastore, 1) := by decide +kernel
theorem dX8_called_65 : decode cX8_called 65 = .ok (.aload_n 0, 1) := by decide +kernel
theorem dX8_called_66 : decode cX8_called 66 = .ok (.iload_n 1, 1) := by decide +kernel
theorem dX8_called_67 : decode cX8_called 67 = .ok (.invokevirtual 356, 3) := by decide +kernel
theorem dX8_called_70 : decode cX8_called 70 = .ok (.aload_n 0, 1) := by decide +kernel
theorem dX8_called_71 : decode cX8_called 71 = .ok (.getfield 44, 3) := by decide +kernel
theorem dX8_called_74 : decode cX8_called 74 = .ok (.iload_n 1, 1) := by decide +kernel
theorem dX8_called_75 : decode cX8_called 75 = .ok (.iaload, 1) := by decide +kernel
theorem dX8_called_76 : decode cX8_called 76 = .ok (.i2l, 1) := by decide +kernel
theorem dX8_called_77 : decode cX8_called 77 = .ok (.lreturn, 1) := by decide +kernel
theorem sc_X8_called_X8_noLot : ym_site g_X8_called g_X8_noLot 4 1 1 := ⟨by decide, by decide, wd_1058, wd_83, by decide +kernel⟩
theorem sc_X8_called_X8_askPapers : ym_site g_X8_called g_X8_askPapers 4 3 1 := ⟨by decide, by decide, wd_1092, wd_83, by decide +kernel⟩
def bl_X8_called_65 (N : Nat) (w0 : Option Nat) (w1 : Int32) (h : ym_H) : Option (Int64 × ym_H) :=
  Option.bind (ym_ob h w0 8) fun o67 =>
  Option.bind (fn_X8_askPapers N w0 w1 h) fun q67 =>
  Option.bind (ym_gR q67.2 w0 8 13) fun v71 =>
  Option.bind (ym_ldI q67.2 v71 w1) fun v75 =>
  some ((Int32.toInt64 v75), q67.2)
set_option maxRecDepth 20000 in
set_option maxHeartbeats 4000000 in
theorem ob_X8_called_65 {D : ym_D} {b0 : Nat} {N : Nat} {w0 : Option Nat} {w1 : Int32} {h h' : ym_H} {r : Int64} (hf : bl_X8_called_65 N w0 w1 h = some (r, h')) : ym_Y D b0 g_X8_called 4 65 [(0, va_rf w0), (1, .int w1)] [] h (some (.long r)) h' := by
  unfold bl_X8_called_65 at hf
  refine ym_aload_n (pc := 65) 0 dX8_called_65 rfl rfl ?_
  refine ym_iload_n (pc := 66) 1 dX8_called_66 rfl rfl ?_
  obtain ⟨o67, f67, hf⟩ := Option.bind_eq_some_iff.mp hf
  obtain ⟨q67, e67, hf⟩ := Option.bind_eq_some_iff.mp hf
  refine ym_callV (pc := 67) (G2 := g_X8_askPapers) (dep2 := 3) (As := [.int w1]) (st := []) (stk2 := []) (r2 := none) (h1 := q67.2) dX8_called_67 (ok_X8_askPapers e67) (sc_X8_called_X8_askPapers) wd_1089 wd_1091 wd_34 (ci := 8) (q0 := (RX8, TX8, 58)) rfl (by decide) rfl f67 rfl rfl (ym_st4 (Nat.le_of_ble_eq_true rfl)) rfl ?_
  refine ym_aload_n (pc := 70) 0 dX8_called_70 rfl rfl ?_
  obtain ⟨v71, e71, hf⟩ := Option.bind_eq_some_iff.mp hf
  refine ym_get (pc := 71) dX8_called_71 rfl (by decide) iX8 (k := 13) (by decide) wd_858 (ym_gR_v e71) ?_
  refine ym_iload_n (pc := 74) 1 dX8_called_74 rfl rfl ?_
  obtain ⟨v75, e75, hf⟩ := Option.bind_eq_some_iff.mp hf
  refine ym_iald (pc := 75) dX8_called_75 rfl (ym_ldI_v e75) ?_
  refine ym_i2l (pc := 76) dX8_called_76 ?_
  cases hf
  exact ym_lret (pc := 77) dX8_called_77 rfl
def fn_X8_called (N : Nat) (a0 : Option Nat) (a1 : Int32) (h : ym_H) : Option (Int64 × ym_H) :=
  Option.bind (ym_ob h a0 8) fun o2 =>
  Option.bind (fn_X8_noLot N a0 a1 h) fun q2 =>
  if q2.1 ≤ 0 then
    Option.bind (ym_gR q2.2 a0 8 9) fun v17 =>
    Option.bind (ym_ldI q2.2 v17 a1) fun v21 =>
    if v21 = 0 then
      Option.bind (ym_gR q2.2 a0 8 9) fun v30 =>
      Option.bind (ym_as q2.2 v30 0 a1 (.int 1)) fun h35 =>
      Option.bind (ym_gR h35 a0 8 13) fun v37 =>
      Option.bind (ym_as h35 v37 0 a1 (.int 0)) fun h42 =>
      Option.bind (ym_gR h42 a0 8 5) fun v44 =>
      Option.bind (ym_ldI h42 v44 a1) fun v48 =>
      if v48 = 5 then
        Option.bind (ym_gR h42 a0 8 10) fun v54 =>
        Option.bind (ym_gR h42 a0 8 6) fun v59 =>
        Option.bind (ym_ldL h42 v59 a1) fun v63 =>
        Option.bind (ym_as h42 v54 1 a1 (.long v63)) fun h64 =>
        bl_X8_called_65 N a0 a1 h64
      else
        bl_X8_called_65 N a0 a1 h42
    else
      some ((-9), q2.2)
  else
    Option.bind (ym_ob q2.2 a0 8) fun o10 =>
    Option.bind (fn_X8_noLot N a0 a1 q2.2) fun q10 =>
    some ((Int32.toInt64 (-q10.1)), q10.2)
set_option maxRecDepth 20000 in
set_option maxHeartbeats 4000000 in
theorem ok_X8_called {D : ym_D} {b0 : Nat} {N : Nat} {a0 : Option Nat} {a1 : Int32} {h h' : ym_H} {r : Int64} (hf : fn_X8_called N a0 a1 h = some (r, h')) : ym_M D b0 g_X8_called 4 [va_rf a0, .int a1] h (some (.long r)) h' := by
  unfold fn_X8_called at hf
  refine ym_meth (lv := [(0, va_rf a0), (1, .int a1)]) (by decide) (by simp [lg_sl, ym_c1, ym_cI, ym_cL, g_X8_called]) (by simp [lv_args, ym_c1, ym_cI, ym_cL]) ?_
  refine ym_aload_n (pc := 0) 0 dX8_called_0 rfl rfl ?_
  refine ym_iload_n (pc := 1) 1 dX8_called_1 rfl rfl ?_
  obtain ⟨o2, f2, hf⟩ := Option.bind_eq_some_iff.mp hf
  obtain ⟨q2, e2, hf⟩ := Option.bind_eq_some_iff.mp hf
  refine ym_callV (pc := 2) (G2 := g_X8_noLot) (dep2 := 1) (As := [.int a1]) (st := []) (stk2 := [.int q2.1]) (r2 := (some (.int q2.1))) (h1 := q2.2) dX8_called_2 (ok_X8_noLot e2) (sc_X8_called_X8_noLot) wd_1055 wd_1057 wd_27 (ci := 8) (q0 := (RX8, TX8, 58)) rfl (by decide) rfl f2 rfl rfl (ym_st4 (Nat.le_of_ble_eq_true rfl)) rfl ?_
  by_cases c5 : q2.1 ≤ 0
  · rw [if_pos c5] at hf
    refine ym_if_le_y (pc := 5) (tgt := 16) dX8_called_5 (by decide) c5 ?_
    refine ym_aload_n (pc := 16) 0 dX8_called_16 rfl rfl ?_
    obtain ⟨v17, e17, hf⟩ := Option.bind_eq_some_iff.mp hf
    refine ym_get (pc := 17) dX8_called_17 rfl (by decide) iX8 (k := 9) (by decide) wd_854 (ym_gR_v e17) ?_
    refine ym_iload_n (pc := 20) 1 dX8_called_20 rfl rfl ?_
    obtain ⟨v21, e21, hf⟩ := Option.bind_eq_some_iff.mp hf
    refine ym_iald (pc := 21) dX8_called_21 rfl (ym_ldI_v e21) ?_
    by_cases c22 : v21 = 0
    · rw [if_pos c22] at hf
      refine ym_if_eq_y (pc := 22) (tgt := 29) dX8_called_22 (by decide) c22 ?_
      refine ym_aload_n (pc := 29) 0 dX8_called_29 rfl rfl ?_
      obtain ⟨v30, e30, hf⟩ := Option.bind_eq_some_iff.mp hf
      refine ym_get (pc := 30) dX8_called_30 rfl (by decide) iX8 (k := 9) (by decide) wd_854 (ym_gR_v e30) ?_
      refine ym_iload_n (pc := 33) 1 dX8_called_33 rfl rfl ?_
      refine ym_iconst (pc := 34) (v := 1) dX8_called_34 (by decide) ?_
      obtain ⟨h35, e35, hf⟩ := Option.bind_eq_some_iff.mp hf
      refine ym_iast (pc := 35) dX8_called_35 rfl e35 ?_
      refine ym_aload_n (pc := 36) 0 dX8_called_36 rfl rfl ?_
      obtain ⟨v37, e37, hf⟩ := Option.bind_eq_some_iff.mp hf
      refine ym_get (pc := 37) dX8_called_37 rfl (by decide) iX8 (k := 13) (by decide) wd_858 (ym_gR_v e37) ?_
      refine ym_iload_n (pc := 40) 1 dX8_called_40 rfl rfl ?_
      refine ym_iconst (pc := 41) (v := 0) dX8_called_41 (by decide) ?_
      obtain ⟨h42, e42, hf⟩ := Option.bind_eq_some_iff.mp hf
      refine ym_iast (pc := 42) dX8_called_42 rfl e42 ?_
      refine ym_aload_n (pc := 43) 0 dX8_called_43 rfl rfl ?_
      obtain ⟨v44, e44, hf⟩ := Option.bind_eq_some_iff.mp hf
      refine ym_get (pc := 44) dX8_called_44 rfl (by decide) iX8 (k := 5) (by decide) wd_850 (ym_gR_v e44) ?_
      refine ym_iload_n (pc := 47) 1 dX8_called_47 rfl rfl ?_
      obtain ⟨v48, e48, hf⟩ := Option.bind_eq_some_iff.mp hf
      refine ym_iald (pc := 48) dX8_called_48 rfl (ym_ldI_v e48) ?_
      refine ym_iconst (pc := 49) (v := 5) dX8_called_49 (by decide) ?_
      by_cases c50 : v48 = 5
      · rw [if_pos c50] at hf
        refine ym_icmp_ne_y (pc := 50) (tgt := 65) dX8_called_50 (by decide) c50 ?_
        refine ym_aload_n (pc := 53) 0 dX8_called_53 rfl rfl ?_
        obtain ⟨v54, e54, hf⟩ := Option.bind_eq_some_iff.mp hf
        refine ym_get (pc := 54) dX8_called_54 rfl (by decide) iX8 (k := 10) (by decide) wd_855 (ym_gR_v e54) ?_
        refine ym_iload_n (pc := 57) 1 dX8_called_57 rfl rfl ?_
        refine ym_aload_n (pc := 58) 0 dX8_called_58 rfl rfl ?_
        obtain ⟨v59, e59, hf⟩ := Option.bind_eq_some_iff.mp hf
        refine ym_get (pc := 59) dX8_called_59 rfl (by decide) iX8 (k := 6) (by decide) wd_851 (ym_gR_v e59) ?_
        refine ym_iload_n (pc := 62) 1 dX8_called_62 rfl rfl ?_
        obtain ⟨v63, e63, hf⟩ := Option.bind_eq_some_iff.mp hf
        refine ym_lald (pc := 63) dX8_called_63 rfl (ym_ldL_v e63) ?_
        obtain ⟨h64, e64, hf⟩ := Option.bind_eq_some_iff.mp hf
        refine ym_last (pc := 64) dX8_called_64 rfl e64 ?_
        exact ym_sub [0, 1] rfl (ob_X8_called_65 hf)
      · rw [if_neg c50] at hf
        refine ym_icmp_ne_n (pc := 50) (tgt := 65) dX8_called_50 (by decide) c50 ?_
        exact ym_sub [0, 1] rfl (ob_X8_called_65 hf)
    · rw [if_neg c22] at hf
      refine ym_if_eq_n (pc := 22) (tgt := 29) dX8_called_22 (by decide) c22 ?_
      refine ym_ldc2 (pc := 25) dX8_called_25 wd_1063 ?_
      cases hf
      exact ym_lret (pc := 28) dX8_called_28 rfl
  · rw [if_neg c5] at hf
    refine ym_if_le_n (pc := 5) (tgt := 16) dX8_called_5 (by decide) c5 ?_
    refine ym_aload_n (pc := 8) 0 dX8_called_8 rfl rfl ?_
    refine ym_iload_n (pc := 9) 1 dX8_called_9 rfl rfl ?_
    obtain ⟨o10, f10, hf⟩ := Option.bind_eq_some_iff.mp hf
    obtain ⟨q10, e10, hf⟩ := Option.bind_eq_some_iff.mp hf
    refine ym_callV (pc := 10) (G2 := g_X8_noLot) (dep2 := 1) (As := [.int a1]) (st := []) (stk2 := [.int q10.1]) (r2 := (some (.int q10.1))) (h1 := q10.2) dX8_called_10 (ok_X8_noLot e10) (sc_X8_called_X8_noLot) wd_1055 wd_1057 wd_27 (ci := 8) (q0 := (RX8, TX8, 58)) rfl (by decide) rfl f10 rfl rfl (ym_st4 (Nat.le_of_ble_eq_true rfl)) rfl ?_
    refine ym_ineg (pc := 13) dX8_called_13 ?_
    refine ym_i2l (pc := 14) dX8_called_14 ?_
    cases hf
    exact ym_lret (pc := 15) dX8_called_15 rfl
theorem dX8_notOpen_0 : decode cX8_notOpen 0 = .ok (.aload_n 0, 1) := by decide +kernel
theorem dX8_notOpen_1 : decode cX8_notOpen 1 = .ok (.getfield 44, 3) := by decide +kernel
theorem dX8_notOpen_4 : decode cX8_notOpen 4 = .ok (.iload_n 1, 1) := by decide +kernel
theorem dX8_notOpen_5 : decode cX8_notOpen 5 = .ok (.iaload, 1) := by decide +kernel
theorem dX8_notOpen_6 : decode cX8_notOpen 6 = .ok (.ifCond .ge 8, 3) := by decide +kernel
theorem dX8_notOpen_9 : decode cX8_notOpen 9 = .ok (.bipush 6, 2) := by decide +kernel
theorem dX8_notOpen_11 : decode cX8_notOpen 11 = .ok (.goto 19, 3) := by decide +kernel
theorem dX8_notOpen_14 : decode cX8_notOpen 14 = .ok (.aload_n 0, 1) := by decide +kernel
theorem dX8_notOpen_15 : decode cX8_notOpen 15 = .ok (.getfield 32, 3) := by decide +kernel
theorem dX8_notOpen_18 : decode cX8_notOpen 18 = .ok (.iload_n 1, 1) := by decide +kernel
theorem dX8_notOpen_19 : decode cX8_notOpen 19 = .ok (.iaload, 1) := by decide +kernel
theorem dX8_notOpen_20 : decode cX8_notOpen 20 = .ok (.iconst 1, 1) := by decide +kernel
theorem dX8_notOpen_21 : decode cX8_notOpen 21 = .ok (.if_icmp .eq 8, 3) := by decide +kernel
theorem dX8_notOpen_24 : decode cX8_notOpen 24 = .ok (.bipush 9, 2) := by decide +kernel
theorem dX8_notOpen_26 : decode cX8_notOpen 26 = .ok (.goto 4, 3) := by decide +kernel
theorem dX8_notOpen_29 : decode cX8_notOpen 29 = .ok (.iconst 0, 1) := by decide +kernel
theorem dX8_notOpen_30 : decode cX8_notOpen 30 = .ok (.ireturn, 1) := by decide +kernel
def fn_X8_notOpen (N : Nat) (a0 : Option Nat) (a1 : Int32) (h : ym_H) : Option (Int32 × ym_H) :=
  Option.bind (ym_gR h a0 8 13) fun v1 =>
  Option.bind (ym_ldI h v1 a1) fun v5 =>
  if 0 ≤ v5 then
    Option.bind (ym_gR h a0 8 9) fun v15 =>
    Option.bind (ym_ldI h v15 a1) fun v19 =>
    if v19 = 1 then
      some (0, h)
    else
      some (9, h)
  else
    some (6, h)
set_option maxRecDepth 20000 in
set_option maxHeartbeats 4000000 in
theorem ok_X8_notOpen {D : ym_D} {b0 : Nat} {N : Nat} {a0 : Option Nat} {a1 : Int32} {h h' : ym_H} {r : Int32} (hf : fn_X8_notOpen N a0 a1 h = some (r, h')) : ym_M D b0 g_X8_notOpen 1 [va_rf a0, .int a1] h (some (.int r)) h' := by
  unfold fn_X8_notOpen at hf
  refine ym_meth (lv := [(0, va_rf a0), (1, .int a1)]) (by decide) (by simp [lg_sl, ym_c1, ym_cI, ym_cL, g_X8_notOpen]) (by simp [lv_args, ym_c1, ym_cI, ym_cL]) ?_
  refine ym_aload_n (pc := 0) 0 dX8_notOpen_0 rfl rfl ?_
  obtain ⟨v1, e1, hf⟩ := Option.bind_eq_some_iff.mp hf
  refine ym_get (pc := 1) dX8_notOpen_1 rfl (by decide) iX8 (k := 13) (by decide) wd_858 (ym_gR_v e1) ?_
  refine ym_iload_n (pc := 4) 1 dX8_notOpen_4 rfl rfl ?_
  obtain ⟨v5, e5, hf⟩ := Option.bind_eq_some_iff.mp hf
  refine ym_iald (pc := 5) dX8_notOpen_5 rfl (ym_ldI_v e5) ?_
  by_cases c6 : 0 ≤ v5
  · rw [if_pos c6] at hf
    refine ym_if_ge_y (pc := 6) (tgt := 14) dX8_notOpen_6 (by decide) c6 ?_
    refine ym_aload_n (pc := 14) 0 dX8_notOpen_14 rfl rfl ?_
    obtain ⟨v15, e15, hf⟩ := Option.bind_eq_some_iff.mp hf
    refine ym_get (pc := 15) dX8_notOpen_15 rfl (by decide) iX8 (k := 9) (by decide) wd_854 (ym_gR_v e15) ?_
    refine ym_iload_n (pc := 18) 1 dX8_notOpen_18 rfl rfl ?_
    obtain ⟨v19, e19, hf⟩ := Option.bind_eq_some_iff.mp hf
    refine ym_iald (pc := 19) dX8_notOpen_19 rfl (ym_ldI_v e19) ?_
    refine ym_iconst (pc := 20) (v := 1) dX8_notOpen_20 (by decide) ?_
    by_cases c21 : v19 = 1
    · rw [if_pos c21] at hf
      refine ym_icmp_eq_y (pc := 21) (tgt := 29) dX8_notOpen_21 (by decide) c21 ?_
      refine ym_iconst (pc := 29) (v := 0) dX8_notOpen_29 (by decide) ?_
      cases hf
      exact ym_iret (pc := 30) dX8_notOpen_30 rfl
    · rw [if_neg c21] at hf
      refine ym_icmp_eq_n (pc := 21) (tgt := 29) dX8_notOpen_21 (by decide) c21 ?_
      refine ym_bipush (pc := 24) (v := 9) dX8_notOpen_24 (by decide) ?_
      refine ym_goto (pc := 26) (tgt := 30) dX8_notOpen_26 (by decide) ?_
      cases hf
      exact ym_iret (pc := 30) dX8_notOpen_30 rfl
  · rw [if_neg c6] at hf
    refine ym_if_ge_n (pc := 6) (tgt := 14) dX8_notOpen_6 (by decide) c6 ?_
    refine ym_bipush (pc := 9) (v := 6) dX8_notOpen_9 (by decide) ?_
    refine ym_goto (pc := 11) (tgt := 30) dX8_notOpen_11 (by decide) ?_
    cases hf
    exact ym_iret (pc := 30) dX8_notOpen_30 rfl
theorem dX8_hasEntry_0 : decode cX8_hasEntry 0 = .ok (.aload_n 0, 1) := by decide +kernel
theorem dX8_hasEntry_1 : decode cX8_hasEntry 1 = .ok (.getfield 47, 3) := by decide +kernel
theorem dX8_hasEntry_4 : decode cX8_hasEntry 4 = .ok (.iload_n 1, 1) := by decide +kernel
theorem dX8_hasEntry_5 : decode cX8_hasEntry 5 = .ok (.iaload, 1) := by decide +kernel
theorem dX8_hasEntry_6 : decode cX8_hasEntry 6 = .ok (.istore_n 3, 1) := by decide +kernel
theorem dX8_hasEntry_7 : decode cX8_hasEntry 7 = .ok (.iload_n 3, 1) := by decide +kernel
theorem dX8_hasEntry_8 : decode cX8_hasEntry 8 = .ok (.ifCond .lt 25, 3) := by decide +kernel
theorem dX8_hasEntry_11 : decode cX8_hasEntry 11 = .ok (.aload_n 0, 1) := by decide +kernel
theorem dX8_hasEntry_12 : decode cX8_hasEntry 12 = .ok (.getfield 50, 3) := by decide +kernel
theorem dX8_hasEntry_15 : decode cX8_hasEntry 15 = .ok (.iload_n 3, 1) := by decide +kernel
theorem dX8_hasEntry_16 : decode cX8_hasEntry 16 = .ok (.iaload, 1) := by decide +kernel
theorem dX8_hasEntry_17 : decode cX8_hasEntry 17 = .ok (.iload_n 2, 1) := by decide +kernel
theorem dX8_hasEntry_18 : decode cX8_hasEntry 18 = .ok (.if_icmp .ne 5, 3) := by decide +kernel
theorem dX8_hasEntry_21 : decode cX8_hasEntry 21 = .ok (.iconst 1, 1) := by decide +kernel
theorem dX8_hasEntry_22 : decode cX8_hasEntry 22 = .ok (.ireturn, 1) := by decide +kernel
theorem dX8_hasEntry_23 : decode cX8_hasEntry 23 = .ok (.aload_n 0, 1) := by decide +kernel
theorem dX8_hasEntry_24 : decode cX8_hasEntry 24 = .ok (.getfield 56, 3) := by decide +kernel
theorem dX8_hasEntry_27 : decode cX8_hasEntry 27 = .ok (.iload_n 3, 1) := by decide +kernel
theorem dX8_hasEntry_28 : decode cX8_hasEntry 28 = .ok (.iaload, 1) := by decide +kernel
theorem dX8_hasEntry_29 : decode cX8_hasEntry 29 = .ok (.istore_n 3, 1) := by decide +kernel
theorem dX8_hasEntry_30 : decode cX8_hasEntry 30 = .ok (.goto (-23), 3) := by decide +kernel
theorem dX8_hasEntry_33 : decode cX8_hasEntry 33 = .ok (.iconst 0, 1) := by decide +kernel
theorem dX8_hasEntry_34 : decode cX8_hasEntry 34 = .ok (.ireturn, 1) := by decide +kernel
def lb_X8_hasEntry_7 (K : Option Nat → Int32 → Int32 → ym_H → Option (((Unit) ⊕ Int32) × ym_H)) (N : Nat) (w0 : Option Nat) (w2 : Int32) (w3 : Int32) (h : ym_H) : Option (((Unit) ⊕ Int32) × ym_H) :=
  if w3 < 0 then
    some ((.inl ()), h)
  else
    Option.bind (ym_gR h w0 8 16) fun v12 =>
    Option.bind (ym_ldI h v12 w3) fun v16 =>
    if v16 = w2 then
      some ((.inr 1), h)
    else
      Option.bind (ym_gR h w0 8 18) fun v24 =>
      Option.bind (ym_ldI h v24 w3) fun v28 =>
      K w0 w2 v28 h
set_option maxRecDepth 20000 in
set_option maxHeartbeats 4000000 in
theorem ol_X8_hasEntry_7 {D : ym_D} {b0 : Nat} {K : Option Nat → Int32 → Int32 → ym_H → Option (((Unit) ⊕ Int32) × ym_H)} {N : Nat} {w0 : Option Nat} {w2 : Int32} {w3 : Int32} {h h1 : ym_H} {x : ((Unit) ⊕ Int32)} (hKl : ∀ (u0 : Option Nat) (u2 : Int32) (u3 : Int32) (h h1 : ym_H) (x : ((Unit) ⊕ Int32)), K u0 u2 u3 h = some (x, h1) → ∀ {r0 : Option Value} {h' : ym_H}, Sum.elim (fun z => ym_Y D b0 g_X8_hasEntry 1 33 [] [] h1 r0 h') (fun z => r0 = (some (.int z)) ∧ h' = h1) x → ym_Y D b0 g_X8_hasEntry 1 7 [(0, va_rf u0), (2, .int u2), (3, .int u3)] [] h r0 h') (hf : lb_X8_hasEntry_7 K N w0 w2 w3 h = some (x, h1)) {r0 : Option Value} {h' : ym_H} (k : Sum.elim (fun z => ym_Y D b0 g_X8_hasEntry 1 33 [] [] h1 r0 h') (fun z => r0 = (some (.int z)) ∧ h' = h1) x) : ym_Y D b0 g_X8_hasEntry 1 7 [(0, va_rf w0), (2, .int w2), (3, .int w3)] [] h r0 h' := by
  unfold lb_X8_hasEntry_7 at hf
  refine ym_iload_n (pc := 7) 2 dX8_hasEntry_7 rfl rfl ?_
  by_cases c8 : w3 < 0
  · rw [if_pos c8] at hf
    refine ym_if_lt_y (pc := 8) (tgt := 33) dX8_hasEntry_8 (by decide) c8 ?_
    cases hf
    exact ym_sub [] rfl k
  · rw [if_neg c8] at hf
    refine ym_if_lt_n (pc := 8) (tgt := 33) dX8_hasEntry_8 (by decide) c8 ?_
    refine ym_aload_n (pc := 11) 0 dX8_hasEntry_11 rfl rfl ?_
    obtain ⟨v12, e12, hf⟩ := Option.bind_eq_some_iff.mp hf
    refine ym_get (pc := 12) dX8_hasEntry_12 rfl (by decide) iX8 (k := 16) (by decide) wd_861 (ym_gR_v e12) ?_
    refine ym_iload_n (pc := 15) 2 dX8_hasEntry_15 rfl rfl ?_
    obtain ⟨v16, e16, hf⟩ := Option.bind_eq_some_iff.mp hf
    refine ym_iald (pc := 16) dX8_hasEntry_16 rfl (ym_ldI_v e16) ?_
    refine ym_iload_n (pc := 17) 1 dX8_hasEntry_17 rfl rfl ?_
    by_cases c18 : v16 = w2
    · rw [if_pos c18] at hf
      refine ym_icmp_ne_y (pc := 18) (tgt := 23) dX8_hasEntry_18 (by decide) c18 ?_
      refine ym_iconst (pc := 21) (v := 1) dX8_hasEntry_21 (by decide) ?_
      cases hf
      obtain ⟨rfl, rfl⟩ := k
      exact ym_zret (pc := 22) dX8_hasEntry_22 rfl rfl
    · rw [if_neg c18] at hf
      refine ym_icmp_ne_n (pc := 18) (tgt := 23) dX8_hasEntry_18 (by decide) c18 ?_
      refine ym_aload_n (pc := 23) 0 dX8_hasEntry_23 rfl rfl ?_
      obtain ⟨v24, e24, hf⟩ := Option.bind_eq_some_iff.mp hf
      refine ym_get (pc := 24) dX8_hasEntry_24 rfl (by decide) iX8 (k := 18) (by decide) wd_863 (ym_gR_v e24) ?_
      refine ym_iload_n (pc := 27) 2 dX8_hasEntry_27 rfl rfl ?_
      obtain ⟨v28, e28, hf⟩ := Option.bind_eq_some_iff.mp hf
      refine ym_iald (pc := 28) dX8_hasEntry_28 rfl (ym_ldI_v e28) ?_
      refine ym_istore_n (pc := 29) (lv' := [(3, .int v28), (0, va_rf w0), (2, .int w2)]) dX8_hasEntry_29 rfl (by decide) ⟨trivial, rfl, trivial, trivial⟩ rfl ?_
      refine ym_goto (pc := 30) (tgt := 7) dX8_hasEntry_30 (by decide) ?_
      exact ym_sub [1, 2, 0] rfl (hKl _ _ _ _ _ _ hf k)
def lp_X8_hasEntry_7 (N : Nat) : Nat → Option Nat → Int32 → Int32 → ym_H → Option (((Unit) ⊕ Int32) × ym_H)
  | 0, _, _, _, _ => none
  | n + 1, w0, w2, w3, h => lb_X8_hasEntry_7 (lp_X8_hasEntry_7 N n) N w0 w2 w3 h
set_option maxRecDepth 20000 in
set_option maxHeartbeats 4000000 in
theorem ok_lp_X8_hasEntry_7 {D : ym_D} {b0 : Nat} {N : Nat}  : ∀ (n : Nat) (w0 : Option Nat) (w2 : Int32) (w3 : Int32) (h h1 : ym_H) (x : ((Unit) ⊕ Int32)), lp_X8_hasEntry_7 N n w0 w2 w3 h = some (x, h1) → ∀ {r0 : Option Value} {h' : ym_H}, Sum.elim (fun z => ym_Y D b0 g_X8_hasEntry 1 33 [] [] h1 r0 h') (fun z => r0 = (some (.int z)) ∧ h' = h1) x → ym_Y D b0 g_X8_hasEntry 1 7 [(0, va_rf w0), (2, .int w2), (3, .int w3)] [] h r0 h' := by
  intro n
  induction n with
  | zero =>
    intro w0 w2 w3 h h1 x hf
    cases hf
  | succ n ih =>
    intro w0 w2 w3 h h1 x hf r0 h' k
    exact ol_X8_hasEntry_7 (fun w0 w2 w3 h h1 x z r0 h' k => ih w0 w2 w3 h h1 x z k) hf k
def fn_X8_hasEntry (N : Nat) (a0 : Option Nat) (a1 : Int32) (a2 : Int32) (h : ym_H) : Option (Int32 × ym_H) :=
  Option.bind (ym_gR h a0 8 14) fun v1 =>
  Option.bind (ym_ldI h v1 a1) fun v5 =>
  Option.bind (lp_X8_hasEntry_7 N N a0 a2 v5 h) fun q7 =>
  match q7.1 with
  | .inr y7 => some (y7, q7.2)
  | .inl z7 =>
    some (0, q7.2)
set_option maxRecDepth 20000 in
set_option maxHeartbeats 4000000 in
theorem ok_X8_hasEntry {D : ym_D} {b0 : Nat} {N : Nat} {a0 : Option Nat} {a1 : Int32} {a2 : Int32} {h h' : ym_H} {r : Int32} (hf : fn_X8_hasEntry N a0 a1 a2 h = some (r, h')) : ym_M D b0 g_X8_hasEntry 1 [va_rf a0, .int a1, .int a2] h (some (.int r)) h' := by
  unfold fn_X8_hasEntry at hf
  refine ym_meth (lv := [(0, va_rf a0), (1, .int a1), (2, .int a2)]) (by decide) (by simp [lg_sl, ym_c1, ym_cI, ym_cL, g_X8_hasEntry]) (by simp [lv_args, ym_c1, ym_cI, ym_cL]) ?_
  refine ym_aload_n (pc := 0) 0 dX8_hasEntry_0 rfl rfl ?_
  obtain ⟨v1, e1, hf⟩ := Option.bind_eq_some_iff.mp hf
  refine ym_get (pc := 1) dX8_hasEntry_1 rfl (by decide) iX8 (k := 14) (by decide) wd_859 (ym_gR_v e1) ?_
  refine ym_iload_n (pc := 4) 1 dX8_hasEntry_4 rfl rfl ?_
  obtain ⟨v5, e5, hf⟩ := Option.bind_eq_some_iff.mp hf
  refine ym_iald (pc := 5) dX8_hasEntry_5 rfl (ym_ldI_v e5) ?_
  refine ym_sub (lv' := [(0, va_rf a0), (2, .int a2)]) [0, 2] rfl ?_
  refine ym_istore_n (pc := 6) (lv' := [(3, .int v5), (0, va_rf a0), (2, .int a2)]) dX8_hasEntry_6 rfl (by decide) ⟨trivial, rfl, trivial⟩ rfl ?_
  obtain ⟨⟨x7, g7⟩, e7, hf⟩ := Option.bind_eq_some_iff.mp hf
  refine ym_sub (lv' := [(0, va_rf a0), (2, .int a2), (3, .int v5)]) [1, 2, 0] rfl ?_
  refine ok_lp_X8_hasEntry_7 N _ _ _ _ _ _ e7 ?_
  cases x7 with
  | inr y7 =>
    cases hf
    exact ⟨rfl, rfl⟩
  | inl z7 =>
    dsimp only [Sum.elim_inl] at hf ⊢
    refine ym_iconst (pc := 33) (v := 0) dX8_hasEntry_33 (by decide) ?_
    cases hf
    exact ym_zret (pc := 34) dX8_hasEntry_34 rfl rfl
theorem dX8_mark_0 : decode cX8_mark 0 = .ok (.aload_n 0, 1) := by decide +kernel
theorem dX8_mark_1 : decode cX8_mark 1 = .ok (.getfield 200, 3) := by decide +kernel
theorem dX8_mark_4 : decode cX8_mark 4 = .ok (.ifCond .ne 15, 3) := by decide +kernel
theorem dX8_mark_7 : decode cX8_mark 7 = .ok (.aload_n 0, 1) := by decide +kernel
theorem dX8_mark_8 : decode cX8_mark 8 = .ok (.getfield 151, 3) := by decide +kernel
theorem dX8_mark_11 : decode cX8_mark 11 = .ok (.aload_n 0, 1) := by decide +kernel
theorem dX8_mark_12 : decode cX8_mark 12 = .ok (.getfield 144, 3) := by decide +kernel
theorem dX8_mark_15 : decode cX8_mark 15 = .ok (.arraylength, 1) := by decide +kernel
theorem dX8_mark_16 : decode cX8_mark 16 = .ok (.if_icmp .ne 4, 3) := by decide +kernel
theorem dX8_mark_19 : decode cX8_mark 19 = .ok (.return_, 1) := by decide +kernel
theorem dX8_mark_20 : decode cX8_mark 20 = .ok (.aload_n 0, 1) := by decide +kernel
theorem dX8_mark_21 : decode cX8_mark 21 = .ok (.getfield 144, 3) := by decide +kernel
theorem dX8_mark_24 : decode cX8_mark 24 = .ok (.aload_n 0, 1) := by decide +kernel
theorem dX8_mark_25 : decode cX8_mark 25 = .ok (.getfield 151, 3) := by decide +kernel
theorem dX8_mark_28 : decode cX8_mark 28 = .ok (.iload_n 1, 1) := by decide +kernel
theorem dX8_mark_29 : decode cX8_mark 29 = .ok (.iastore, 1) := by decide +kernel
theorem dX8_mark_30 : decode cX8_mark 30 = .ok (.aload_n 0, 1) := by decide +kernel
theorem dX8_mark_31 : decode cX8_mark 31 = .ok (.dup, 1) := by decide +kernel
theorem dX8_mark_32 : decode cX8_mark 32 = .ok (.getfield 151, 3) := by decide +kernel
theorem dX8_mark_35 : decode cX8_mark 35 = .ok (.iconst 1, 1) := by decide +kernel
theorem dX8_mark_36 : decode cX8_mark 36 = .ok (.iadd, 1) := by decide +kernel
theorem dX8_mark_37 : decode cX8_mark 37 = .ok (.putfield 151, 3) := by decide +kernel
theorem dX8_mark_40 : decode cX8_mark 40 = .ok (.return_, 1) := by decide +kernel
def fn_X8_mark (N : Nat) (a0 : Option Nat) (a1 : Int32) (h : ym_H) : Option (Unit × ym_H) :=
  Option.bind (ym_gI h a0 8 56) fun v1 =>
  if v1 = 0 then
    Option.bind (ym_gI h a0 8 55) fun v8 =>
    Option.bind (ym_gR h a0 8 54) fun v12 =>
    Option.bind (ym_len h v12) fun v15 =>
    if v8 = v15 then
      some ((), h)
    else
      Option.bind (ym_gR h a0 8 54) fun v21 =>
      Option.bind (ym_gI h a0 8 55) fun v25 =>
      Option.bind (ym_as h v21 0 v25 (.int a1)) fun h29 =>
      Option.bind (ym_gI h29 a0 8 55) fun v32 =>
      Option.bind (ym_pf h29 a0 8 55 (.int (v32 + 1))) fun h37 =>
      some ((), h37)
  else
    some ((), h)
set_option maxRecDepth 20000 in
set_option maxHeartbeats 4000000 in
theorem ok_X8_mark {D : ym_D} {b0 : Nat} {N : Nat} {a0 : Option Nat} {a1 : Int32} {h h' : ym_H} {r : Unit} (hf : fn_X8_mark N a0 a1 h = some (r, h')) : ym_M D b0 g_X8_mark 1 [va_rf a0, .int a1] h none h' := by
  unfold fn_X8_mark at hf
  refine ym_meth (lv := [(0, va_rf a0), (1, .int a1)]) (by decide) (by simp [lg_sl, ym_c1, ym_cI, ym_cL, g_X8_mark]) (by simp [lv_args, ym_c1, ym_cI, ym_cL]) ?_
  refine ym_aload_n (pc := 0) 0 dX8_mark_0 rfl rfl ?_
  obtain ⟨v1, e1, hf⟩ := Option.bind_eq_some_iff.mp hf
  refine ym_get (pc := 1) dX8_mark_1 rfl (by decide) iX8 (k := 56) (by decide) wd_901 (ym_gI_v e1) ?_
  by_cases c4 : v1 = 0
  · rw [if_pos c4] at hf
    refine ym_if_ne_y (pc := 4) (tgt := 19) dX8_mark_4 (by decide) c4 ?_
    refine ym_aload_n (pc := 7) 0 dX8_mark_7 rfl rfl ?_
    obtain ⟨v8, e8, hf⟩ := Option.bind_eq_some_iff.mp hf
    refine ym_get (pc := 8) dX8_mark_8 rfl (by decide) iX8 (k := 55) (by decide) wd_900 (ym_gI_v e8) ?_
    refine ym_aload_n (pc := 11) 0 dX8_mark_11 rfl rfl ?_
    obtain ⟨v12, e12, hf⟩ := Option.bind_eq_some_iff.mp hf
    refine ym_get (pc := 12) dX8_mark_12 rfl (by decide) iX8 (k := 54) (by decide) wd_899 (ym_gR_v e12) ?_
    obtain ⟨v15, e15, hf⟩ := Option.bind_eq_some_iff.mp hf
    refine ym_alen (pc := 15) dX8_mark_15 e15 ?_
    by_cases c16 : v8 = v15
    · rw [if_pos c16] at hf
      refine ym_icmp_ne_y (pc := 16) (tgt := 20) dX8_mark_16 (by decide) c16 ?_
      cases hf
      exact ym_vret (pc := 19) dX8_mark_19 rfl
    · rw [if_neg c16] at hf
      refine ym_icmp_ne_n (pc := 16) (tgt := 20) dX8_mark_16 (by decide) c16 ?_
      refine ym_aload_n (pc := 20) 0 dX8_mark_20 rfl rfl ?_
      obtain ⟨v21, e21, hf⟩ := Option.bind_eq_some_iff.mp hf
      refine ym_get (pc := 21) dX8_mark_21 rfl (by decide) iX8 (k := 54) (by decide) wd_899 (ym_gR_v e21) ?_
      refine ym_aload_n (pc := 24) 0 dX8_mark_24 rfl rfl ?_
      obtain ⟨v25, e25, hf⟩ := Option.bind_eq_some_iff.mp hf
      refine ym_get (pc := 25) dX8_mark_25 rfl (by decide) iX8 (k := 55) (by decide) wd_900 (ym_gI_v e25) ?_
      refine ym_iload_n (pc := 28) 1 dX8_mark_28 rfl rfl ?_
      obtain ⟨h29, e29, hf⟩ := Option.bind_eq_some_iff.mp hf
      refine ym_iast (pc := 29) dX8_mark_29 rfl e29 ?_
      refine ym_aload_n (pc := 30) 0 dX8_mark_30 rfl rfl ?_
      refine ym_dup (pc := 31) dX8_mark_31 (ym_c1 a0) ?_
      obtain ⟨v32, e32, hf⟩ := Option.bind_eq_some_iff.mp hf
      refine ym_get (pc := 32) dX8_mark_32 rfl (by decide) iX8 (k := 55) (by decide) wd_900 (ym_gI_v e32) ?_
      refine ym_iconst (pc := 35) (v := 1) dX8_mark_35 (by decide) ?_
      refine ym_iadd (pc := 36) dX8_mark_36 ?_
      obtain ⟨h37, e37, hf⟩ := Option.bind_eq_some_iff.mp hf
      refine ym_put (pc := 37) (h1 := h37) dX8_mark_37 rfl (by decide) iX8 tyX8 tyX8_ok nmX8 (k := 55) (by decide) wd_900 rfl (tyX8_ok 55 (by decide)) rfl rfl e37 ?_
      cases hf
      exact ym_vret (pc := 40) dX8_mark_40 rfl
  · rw [if_neg c4] at hf
    refine ym_if_ne_n (pc := 4) (tgt := 19) dX8_mark_4 (by decide) c4 ?_
    cases hf
    exact ym_vret (pc := 19) dX8_mark_19 rfl
theorem dX8_askOf_0 : decode cX8_askOf 0 = .ok (.aload_n 0, 1) := by decide +kernel
theorem dX8_askOf_1 : decode cX8_askOf 1 = .ok (.getfield 20, 3) := by decide +kernel
theorem dX8_askOf_4 : decode cX8_askOf 4 = .ok (.iload_n 1, 1) := by decide +kernel
theorem dX8_askOf_5 : decode cX8_askOf 5 = .ok (.iaload, 1) := by decide +kernel
theorem dX8_askOf_6 : decode cX8_askOf 6 = .ok (.iconst 5, 1) := by decide +kernel
theorem dX8_askOf_7 : decode cX8_askOf 7 = .ok (.if_icmp .ne 15, 3) := by decide +kernel
theorem dX8_askOf_10 : decode cX8_askOf 10 = .ok (.aload_n 0, 1) := by decide +kernel
theorem dX8_askOf_11 : decode cX8_askOf 11 = .ok (.iconst 3, 1) := by decide +kernel
theorem dX8_askOf_12 : decode cX8_askOf 12 = .ok (.invokevirtual 309, 3) := by decide +kernel
theorem dX8_askOf_15 : decode cX8_askOf 15 = .ok (.aload_n 0, 1) := by decide +kernel
theorem dX8_askOf_16 : decode cX8_askOf 16 = .ok (.getfield 35, 3) := by decide +kernel
theorem dX8_askOf_19 : decode cX8_askOf 19 = .ok (.iload_n 1, 1) := by decide +kernel
theorem dX8_askOf_20 : decode cX8_askOf 20 = .ok (.laload, 1) := by decide +kernel
theorem dX8_askOf_21 : decode cX8_askOf 21 = .ok (.lreturn, 1) := by decide +kernel
theorem dX8_askOf_22 : decode cX8_askOf 22 = .ok (.aload_n 0, 1) := by decide +kernel
theorem dX8_askOf_23 : decode cX8_askOf 23 = .ok (.getfield 20, 3) := by decide +kernel
theorem dX8_askOf_26 : decode cX8_askOf 26 = .ok (.iload_n 1, 1) := by decide +kernel
theorem dX8_askOf_27 : decode cX8_askOf 27 = .ok (.iaload, 1) := by decide +kernel
theorem dX8_askOf_28 : decode cX8_askOf 28 = .ok (.iconst 4, 1) := by decide +kernel
theorem dX8_askOf_29 : decode cX8_askOf 29 = .ok (.if_icmp .ne 8, 3) := by decide +kernel
theorem dX8_askOf_32 : decode cX8_askOf 32 = .ok (.aload_n 0, 1) := by decide +kernel
theorem dX8_askOf_33 : decode cX8_askOf 33 = .ok (.iconst 2, 1) := by decide +kernel
theorem dX8_askOf_34 : decode cX8_askOf 34 = .ok (.invokevirtual 309, 3) := by decide +kernel
theorem dX8_askOf_37 : decode cX8_askOf 37 = .ok (.aload_n 0, 1) := by decide +kernel
theorem dX8_askOf_38 : decode cX8_askOf 38 = .ok (.iconst 1, 1) := by decide +kernel
theorem dX8_askOf_39 : decode cX8_askOf 39 = .ok (.invokevirtual 309, 3) := by decide +kernel
theorem dX8_askOf_42 : decode cX8_askOf 42 = .ok (.aload_n 0, 1) := by decide +kernel
theorem dX8_askOf_43 : decode cX8_askOf 43 = .ok (.getfield 20, 3) := by decide +kernel
theorem dX8_askOf_46 : decode cX8_askOf 46 = .ok (.iload_n 1, 1) := by decide +kernel
theorem dX8_askOf_47 : decode cX8_askOf 47 = .ok (.iaload, 1) := by decide +kernel
theorem dX8_askOf_48 : decode cX8_askOf 48 = .ok (.iconst 4, 1) := by decide +kernel
theorem dX8_askOf_49 : decode cX8_askOf 49 = .ok (.if_icmp .eq 11, 3) := by decide +kernel
theorem dX8_askOf_52 : decode cX8_askOf 52 = .ok (.aload_n 0, 1) := by decide +kernel
theorem dX8_askOf_53 : decode cX8_askOf 53 = .ok (.iload_n 1, 1) := by decide +kernel
theorem dX8_askOf_54 : decode cX8_askOf 54 = .ok (.invokevirtual 298, 3) := by decide +kernel
theorem dX8_askOf_57 : decode cX8_askOf 57 = .ok (.ifCond .ge 12, 3) := by decide +kernel
theorem dX8_askOf_60 : decode cX8_askOf 60 = .ok (.aload_n 0, 1) := by decide +kernel
theorem dX8_askOf_61 : decode cX8_askOf 61 = .ok (.getfield 23, 3) := by decide +kernel
theorem dX8_askOf_64 : decode cX8_askOf 64 = .ok (.iload_n 1, 1) := by decide +kernel
theorem dX8_askOf_65 : decode cX8_askOf 65 = .ok (.laload, 1) := by decide +kernel
theorem dX8_askOf_66 : decode cX8_askOf 66 = .ok (.goto 12, 3) := by decide +kernel
theorem dX8_askOf_69 : decode cX8_askOf 69 = .ok (.aload_n 0, 1) := by decide +kernel
theorem dX8_askOf_70 : decode cX8_askOf 70 = .ok (.aload_n 0, 1) := by decide +kernel
theorem dX8_askOf_71 : decode cX8_askOf 71 = .ok (.iload_n 1, 1) := by decide +kernel
theorem dX8_askOf_72 : decode cX8_askOf 72 = .ok (.invokevirtual 312, 3) := by decide +kernel
theorem dX8_askOf_75 : decode cX8_askOf 75 = .ok (.invokevirtual 315, 3) := by decide +kernel
theorem dX8_askOf_78 : decode cX8_askOf 78 = .ok (.lreturn, 1) := by decide +kernel
theorem sc_X8_askOf_X8_mark : ym_site g_X8_askOf g_X8_mark 3 1 1 := ⟨by decide, by decide, wd_1143, wd_83, by decide +kernel⟩
theorem sc_X8_askOf_X8_standing : ym_site g_X8_askOf g_X8_standing 3 1 1 := ⟨by decide, by decide, wd_1107, wd_83, by decide +kernel⟩
theorem sc_X8_askOf_X8_standingSum : ym_site g_X8_askOf g_X8_standingSum 3 2 1 := ⟨by decide, by decide, wd_1111, wd_83, by decide +kernel⟩
theorem sc_X8_askOf_X8_after : ym_site g_X8_askOf g_X8_after 3 1 1 := ⟨by decide, by decide, wd_1103, wd_83, by decide +kernel⟩
def bl_X8_askOf_37 (N : Nat) (w0 : Option Nat) (w1 : Int32) (h : ym_H) : Option (Int64 × ym_H) :=
  Option.bind (ym_ob h w0 8) fun o39 =>
  Option.bind (fn_X8_mark N w0 1 h) fun q39 =>
  Option.bind (ym_gR q39.2 w0 8 5) fun v43 =>
  Option.bind (ym_ldI q39.2 v43 w1) fun v47 =>
  if v47 = 4 then
    Option.bind (ym_gR q39.2 w0 8 6) fun v61 =>
    Option.bind (ym_ldL q39.2 v61 w1) fun v65 =>
    some (v65, q39.2)
  else
    Option.bind (ym_ob q39.2 w0 8) fun o54 =>
    Option.bind (fn_X8_standing N w0 w1 q39.2) fun q54 =>
    if 0 ≤ q54.1 then
      Option.bind (ym_ob q54.2 w0 8) fun o72 =>
      Option.bind (fn_X8_standingSum N w0 w1 q54.2) fun q72 =>
      Option.bind (ym_ob q72.2 w0 8) fun o75 =>
      Option.bind (fn_X8_after N w0 q72.1 q72.2) fun q75 =>
      some (q75.1, q75.2)
    else
      Option.bind (ym_gR q54.2 w0 8 6) fun v61 =>
      Option.bind (ym_ldL q54.2 v61 w1) fun v65 =>
      some (v65, q54.2)
set_option maxRecDepth 20000 in
set_option maxHeartbeats 4000000 in
theorem ob_X8_askOf_37 {D : ym_D} {b0 : Nat} {N : Nat} {w0 : Option Nat} {w1 : Int32} {h h' : ym_H} {r : Int64} (hf : bl_X8_askOf_37 N w0 w1 h = some (r, h')) : ym_Y D b0 g_X8_askOf 3 37 [(0, va_rf w0), (1, .int w1)] [] h (some (.long r)) h' := by
  unfold bl_X8_askOf_37 at hf
  refine ym_aload_n (pc := 37) 0 dX8_askOf_37 rfl rfl ?_
  refine ym_iconst (pc := 38) (v := 1) dX8_askOf_38 (by decide) ?_
  obtain ⟨o39, f39, hf⟩ := Option.bind_eq_some_iff.mp hf
  obtain ⟨q39, e39, hf⟩ := Option.bind_eq_some_iff.mp hf
  refine ym_callV (pc := 39) (G2 := g_X8_mark) (dep2 := 1) (As := [.int 1]) (st := []) (stk2 := []) (r2 := none) (h1 := q39.2) dX8_askOf_39 (ok_X8_mark e39) (sc_X8_askOf_X8_mark) wd_1140 wd_1142 wd_44 (ci := 8) (q0 := (RX8, TX8, 58)) rfl (by decide) rfl f39 rfl rfl (ym_st4 (Nat.le_of_ble_eq_true rfl)) rfl ?_
  refine ym_aload_n (pc := 42) 0 dX8_askOf_42 rfl rfl ?_
  obtain ⟨v43, e43, hf⟩ := Option.bind_eq_some_iff.mp hf
  refine ym_get (pc := 43) dX8_askOf_43 rfl (by decide) iX8 (k := 5) (by decide) wd_850 (ym_gR_v e43) ?_
  refine ym_iload_n (pc := 46) 1 dX8_askOf_46 rfl rfl ?_
  obtain ⟨v47, e47, hf⟩ := Option.bind_eq_some_iff.mp hf
  refine ym_iald (pc := 47) dX8_askOf_47 rfl (ym_ldI_v e47) ?_
  refine ym_iconst (pc := 48) (v := 4) dX8_askOf_48 (by decide) ?_
  by_cases c49 : v47 = 4
  · rw [if_pos c49] at hf
    refine ym_icmp_eq_y (pc := 49) (tgt := 60) dX8_askOf_49 (by decide) c49 ?_
    refine ym_aload_n (pc := 60) 0 dX8_askOf_60 rfl rfl ?_
    obtain ⟨v61, e61, hf⟩ := Option.bind_eq_some_iff.mp hf
    refine ym_get (pc := 61) dX8_askOf_61 rfl (by decide) iX8 (k := 6) (by decide) wd_851 (ym_gR_v e61) ?_
    refine ym_iload_n (pc := 64) 1 dX8_askOf_64 rfl rfl ?_
    obtain ⟨v65, e65, hf⟩ := Option.bind_eq_some_iff.mp hf
    refine ym_lald (pc := 65) dX8_askOf_65 rfl (ym_ldL_v e65) ?_
    refine ym_goto (pc := 66) (tgt := 78) dX8_askOf_66 (by decide) ?_
    cases hf
    exact ym_lret (pc := 78) dX8_askOf_78 rfl
  · rw [if_neg c49] at hf
    refine ym_icmp_eq_n (pc := 49) (tgt := 60) dX8_askOf_49 (by decide) c49 ?_
    refine ym_aload_n (pc := 52) 0 dX8_askOf_52 rfl rfl ?_
    refine ym_iload_n (pc := 53) 1 dX8_askOf_53 rfl rfl ?_
    obtain ⟨o54, f54, hf⟩ := Option.bind_eq_some_iff.mp hf
    obtain ⟨q54, e54, hf⟩ := Option.bind_eq_some_iff.mp hf
    refine ym_callV (pc := 54) (G2 := g_X8_standing) (dep2 := 1) (As := [.int w1]) (st := []) (stk2 := [.int q54.1]) (r2 := (some (.int q54.1))) (h1 := q54.2) dX8_askOf_54 (ok_X8_standing e54) (sc_X8_askOf_X8_standing) wd_1104 wd_1106 wd_37 (ci := 8) (q0 := (RX8, TX8, 58)) rfl (by decide) rfl f54 rfl rfl (ym_st4 (Nat.le_of_ble_eq_true rfl)) rfl ?_
    by_cases c57 : 0 ≤ q54.1
    · rw [if_pos c57] at hf
      refine ym_if_ge_y (pc := 57) (tgt := 69) dX8_askOf_57 (by decide) c57 ?_
      refine ym_aload_n (pc := 69) 0 dX8_askOf_69 rfl rfl ?_
      refine ym_aload_n (pc := 70) 0 dX8_askOf_70 rfl rfl ?_
      refine ym_iload_n (pc := 71) 1 dX8_askOf_71 rfl rfl ?_
      obtain ⟨o72, f72, hf⟩ := Option.bind_eq_some_iff.mp hf
      obtain ⟨q72, e72, hf⟩ := Option.bind_eq_some_iff.mp hf
      refine ym_callV (pc := 72) (G2 := g_X8_standingSum) (dep2 := 2) (As := [.int w1]) (st := [va_rf w0]) (stk2 := [.long q72.1, va_rf w0]) (r2 := (some (.long q72.1))) (h1 := q72.2) dX8_askOf_72 (ok_X8_standingSum e72) (sc_X8_askOf_X8_standingSum) wd_1108 wd_1110 wd_38 (ci := 8) (q0 := (RX8, TX8, 58)) rfl (by decide) rfl f72 rfl rfl (ym_st4 (Nat.le_of_ble_eq_true rfl)) rfl ?_
      obtain ⟨o75, f75, hf⟩ := Option.bind_eq_some_iff.mp hf
      obtain ⟨q75, e75, hf⟩ := Option.bind_eq_some_iff.mp hf
      refine ym_callV (pc := 75) (G2 := g_X8_after) (dep2 := 1) (As := [.long q72.1]) (st := []) (stk2 := [.long q75.1]) (r2 := (some (.long q75.1))) (h1 := q75.2) dX8_askOf_75 (ok_X8_after e75) (sc_X8_askOf_X8_after) wd_1100 wd_1102 wd_36 (ci := 8) (q0 := (RX8, TX8, 58)) rfl (by decide) rfl f75 rfl rfl (ym_st4 (Nat.le_of_ble_eq_true rfl)) rfl ?_
      cases hf
      exact ym_lret (pc := 78) dX8_askOf_78 rfl
    · rw [if_neg c57] at hf
      refine ym_if_ge_n (pc := 57) (tgt := 69) dX8_askOf_57 (by decide) c57 ?_
      refine ym_aload_n (pc := 60) 0 dX8_askOf_60 rfl rfl ?_
      obtain ⟨v61, e61, hf⟩ := Option.bind_eq_some_iff.mp hf
      refine ym_get (pc := 61) dX8_askOf_61 rfl (by decide) iX8 (k := 6) (by decide) wd_851 (ym_gR_v e61) ?_
      refine ym_iload_n (pc := 64) 1 dX8_askOf_64 rfl rfl ?_
      obtain ⟨v65, e65, hf⟩ := Option.bind_eq_some_iff.mp hf
      refine ym_lald (pc := 65) dX8_askOf_65 rfl (ym_ldL_v e65) ?_
      refine ym_goto (pc := 66) (tgt := 78) dX8_askOf_66 (by decide) ?_
      cases hf
      exact ym_lret (pc := 78) dX8_askOf_78 rfl
def fn_X8_askOf (N : Nat) (a0 : Option Nat) (a1 : Int32) (h : ym_H) : Option (Int64 × ym_H) :=
  Option.bind (ym_gR h a0 8 5) fun v1 =>
  Option.bind (ym_ldI h v1 a1) fun v5 =>
  if v5 = 5 then
    Option.bind (ym_ob h a0 8) fun o12 =>
    Option.bind (fn_X8_mark N a0 3 h) fun q12 =>
    Option.bind (ym_gR q12.2 a0 8 10) fun v16 =>
    Option.bind (ym_ldL q12.2 v16 a1) fun v20 =>
    some (v20, q12.2)
  else
    Option.bind (ym_gR h a0 8 5) fun v23 =>
    Option.bind (ym_ldI h v23 a1) fun v27 =>
    if v27 = 4 then
      Option.bind (ym_ob h a0 8) fun o34 =>
      Option.bind (fn_X8_mark N a0 2 h) fun q34 =>
      bl_X8_askOf_37 N a0 a1 q34.2
    else
      bl_X8_askOf_37 N a0 a1 h
set_option maxRecDepth 20000 in
set_option maxHeartbeats 4000000 in
theorem ok_X8_askOf {D : ym_D} {b0 : Nat} {N : Nat} {a0 : Option Nat} {a1 : Int32} {h h' : ym_H} {r : Int64} (hf : fn_X8_askOf N a0 a1 h = some (r, h')) : ym_M D b0 g_X8_askOf 3 [va_rf a0, .int a1] h (some (.long r)) h' := by
  unfold fn_X8_askOf at hf
  refine ym_meth (lv := [(0, va_rf a0), (1, .int a1)]) (by decide) (by simp [lg_sl, ym_c1, ym_cI, ym_cL, g_X8_askOf]) (by simp [lv_args, ym_c1, ym_cI, ym_cL]) ?_
  refine ym_aload_n (pc := 0) 0 dX8_askOf_0 rfl rfl ?_
  obtain ⟨v1, e1, hf⟩ := Option.bind_eq_some_iff.mp hf
  refine ym_get (pc := 1) dX8_askOf_1 rfl (by decide) iX8 (k := 5) (by decide) wd_850 (ym_gR_v e1) ?_
  refine ym_iload_n (pc := 4) 1 dX8_askOf_4 rfl rfl ?_
  obtain ⟨v5, e5, hf⟩ := Option.bind_eq_some_iff.mp hf
  refine ym_iald (pc := 5) dX8_askOf_5 rfl (ym_ldI_v e5) ?_
  refine ym_iconst (pc := 6) (v := 5) dX8_askOf_6 (by decide) ?_
  by_cases c7 : v5 = 5
  · rw [if_pos c7] at hf
    refine ym_icmp_ne_y (pc := 7) (tgt := 22) dX8_askOf_7 (by decide) c7 ?_
    refine ym_aload_n (pc := 10) 0 dX8_askOf_10 rfl rfl ?_
    refine ym_iconst (pc := 11) (v := 3) dX8_askOf_11 (by decide) ?_
    obtain ⟨o12, f12, hf⟩ := Option.bind_eq_some_iff.mp hf
    obtain ⟨q12, e12, hf⟩ := Option.bind_eq_some_iff.mp hf
    refine ym_callV (pc := 12) (G2 := g_X8_mark) (dep2 := 1) (As := [.int 3]) (st := []) (stk2 := []) (r2 := none) (h1 := q12.2) dX8_askOf_12 (ok_X8_mark e12) (sc_X8_askOf_X8_mark) wd_1140 wd_1142 wd_44 (ci := 8) (q0 := (RX8, TX8, 58)) rfl (by decide) rfl f12 rfl rfl (ym_st4 (Nat.le_of_ble_eq_true rfl)) rfl ?_
    refine ym_aload_n (pc := 15) 0 dX8_askOf_15 rfl rfl ?_
    obtain ⟨v16, e16, hf⟩ := Option.bind_eq_some_iff.mp hf
    refine ym_get (pc := 16) dX8_askOf_16 rfl (by decide) iX8 (k := 10) (by decide) wd_855 (ym_gR_v e16) ?_
    refine ym_iload_n (pc := 19) 1 dX8_askOf_19 rfl rfl ?_
    obtain ⟨v20, e20, hf⟩ := Option.bind_eq_some_iff.mp hf
    refine ym_lald (pc := 20) dX8_askOf_20 rfl (ym_ldL_v e20) ?_
    cases hf
    exact ym_lret (pc := 21) dX8_askOf_21 rfl
  · rw [if_neg c7] at hf
    refine ym_icmp_ne_n (pc := 7) (tgt := 22) dX8_askOf_7 (by decide) c7 ?_
    refine ym_aload_n (pc := 22) 0 dX8_askOf_22 rfl rfl ?_
    obtain ⟨v23, e23, hf⟩ := Option.bind_eq_some_iff.mp hf
    refine ym_get (pc := 23) dX8_askOf_23 rfl (by decide) iX8 (k := 5) (by decide) wd_850 (ym_gR_v e23) ?_
    refine ym_iload_n (pc := 26) 1 dX8_askOf_26 rfl rfl ?_
    obtain ⟨v27, e27, hf⟩ := Option.bind_eq_some_iff.mp hf
    refine ym_iald (pc := 27) dX8_askOf_27 rfl (ym_ldI_v e27) ?_
    refine ym_iconst (pc := 28) (v := 4) dX8_askOf_28 (by decide) ?_
    by_cases c29 : v27 = 4
    · rw [if_pos c29] at hf
      refine ym_icmp_ne_y (pc := 29) (tgt := 37) dX8_askOf_29 (by decide) c29 ?_
      refine ym_aload_n (pc := 32) 0 dX8_askOf_32 rfl rfl ?_
      refine ym_iconst (pc := 33) (v := 2) dX8_askOf_33 (by decide) ?_
      obtain ⟨o34, f34, hf⟩ := Option.bind_eq_some_iff.mp hf
      obtain ⟨q34, e34, hf⟩ := Option.bind_eq_some_iff.mp hf
      refine ym_callV (pc := 34) (G2 := g_X8_mark) (dep2 := 1) (As := [.int 2]) (st := []) (stk2 := []) (r2 := none) (h1 := q34.2) dX8_askOf_34 (ok_X8_mark e34) (sc_X8_askOf_X8_mark) wd_1140 wd_1142 wd_44 (ci := 8) (q0 := (RX8, TX8, 58)) rfl (by decide) rfl f34 rfl rfl (ym_st4 (Nat.le_of_ble_eq_true rfl)) rfl ?_
      exact ym_sub [0, 1] rfl (ob_X8_askOf_37 hf)
    · rw [if_neg c29] at hf
      refine ym_icmp_ne_n (pc := 29) (tgt := 37) dX8_askOf_29 (by decide) c29 ?_
      exact ym_sub [0, 1] rfl (ob_X8_askOf_37 hf)
