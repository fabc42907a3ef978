theorem dX8_piecesOf_0 : decode cX8_piecesOf 0 = .ok (.aload_n 0, 1) := by decide +kernel
theorem dX8_piecesOf_1 : decode cX8_piecesOf 1 = .ok (.getfield 20, 3) := by decide +kernel
theorem dX8_piecesOf_4 : decode cX8_piecesOf 4 = .ok (.iload_n 1, 1) := by decide +kernel
theorem dX8_piecesOf_5 : decode cX8_piecesOf 5 = .ok (.iaload, 1) := by decide +kernel
theorem dX8_piecesOf_6 : decode cX8_piecesOf 6 = .ok (.iconst 3, 1) := by decide +kernel
theorem dX8_piecesOf_7 : decode cX8_piecesOf 7 = .ok (.if_icmp .ne 9, 3) := by decide +kernel
theorem dX8_piecesOf_10 : decode cX8_piecesOf 10 = .ok (.aload_n 0, 1) := by decide +kernel
theorem dX8_piecesOf_11 : decode cX8_piecesOf 11 = .ok (.bipush 6, 2) := by decide +kernel
theorem dX8_piecesOf_13 : decode cX8_piecesOf 13 = .ok (.invokevirtual 309, 3) := by decide +kernel
theorem dX8_piecesOf_16 : decode cX8_piecesOf 16 = .ok (.aload_n 0, 1) := by decide +kernel
theorem dX8_piecesOf_17 : decode cX8_piecesOf 17 = .ok (.aload_n 0, 1) := by decide +kernel
theorem dX8_piecesOf_18 : decode cX8_piecesOf 18 = .ok (.getfield 20, 3) := by decide +kernel
theorem dX8_piecesOf_21 : decode cX8_piecesOf 21 = .ok (.iload_n 1, 1) := by decide +kernel
theorem dX8_piecesOf_22 : decode cX8_piecesOf 22 = .ok (.iaload, 1) := by decide +kernel
theorem dX8_piecesOf_23 : decode cX8_piecesOf 23 = .ok (.iconst 2, 1) := by decide +kernel
theorem dX8_piecesOf_24 : decode cX8_piecesOf 24 = .ok (.if_icmp .eq 13, 3) := by decide +kernel
theorem dX8_piecesOf_27 : decode cX8_piecesOf 27 = .ok (.aload_n 0, 1) := by decide +kernel
theorem dX8_piecesOf_28 : decode cX8_piecesOf 28 = .ok (.getfield 20, 3) := by decide +kernel
theorem dX8_piecesOf_31 : decode cX8_piecesOf 31 = .ok (.iload_n 1, 1) := by decide +kernel
theorem dX8_piecesOf_32 : decode cX8_piecesOf 32 = .ok (.iaload, 1) := by decide +kernel
theorem dX8_piecesOf_33 : decode cX8_piecesOf 33 = .ok (.iconst 3, 1) := by decide +kernel
theorem dX8_piecesOf_34 : decode cX8_piecesOf 34 = .ok (.if_icmp .ne 7, 3) := by decide +kernel
theorem dX8_piecesOf_37 : decode cX8_piecesOf 37 = .ok (.iconst 5, 1) := by decide +kernel
theorem dX8_piecesOf_38 : decode cX8_piecesOf 38 = .ok (.goto 4, 3) := by decide +kernel
theorem dX8_piecesOf_41 : decode cX8_piecesOf 41 = .ok (.iconst 4, 1) := by decide +kernel
theorem dX8_piecesOf_42 : decode cX8_piecesOf 42 = .ok (.invokevirtual 309, 3) := by decide +kernel
theorem dX8_piecesOf_45 : decode cX8_piecesOf 45 = .ok (.aload_n 0, 1) := by decide +kernel
theorem dX8_piecesOf_46 : decode cX8_piecesOf 46 = .ok (.getfield 20, 3) := by decide +kernel
theorem dX8_piecesOf_49 : decode cX8_piecesOf 49 = .ok (.iload_n 1, 1) := by decide +kernel
theorem dX8_piecesOf_50 : decode cX8_piecesOf 50 = .ok (.iaload, 1) := by decide +kernel
theorem dX8_piecesOf_51 : decode cX8_piecesOf 51 = .ok (.iconst 2, 1) := by decide +kernel
theorem dX8_piecesOf_52 : decode cX8_piecesOf 52 = .ok (.if_icmp .ne 9, 3) := by decide +kernel
theorem dX8_piecesOf_55 : decode cX8_piecesOf 55 = .ok (.ldc2_w 303, 3) := by decide +kernel
theorem dX8_piecesOf_58 : decode cX8_piecesOf 58 = .ok (.goto 20, 3) := by decide +kernel
theorem dX8_piecesOf_61 : decode cX8_piecesOf 61 = .ok (.aload_n 0, 1) := by decide +kernel
theorem dX8_piecesOf_62 : decode cX8_piecesOf 62 = .ok (.getfield 20, 3) := by decide +kernel
theorem dX8_piecesOf_65 : decode cX8_piecesOf 65 = .ok (.iload_n 1, 1) := by decide +kernel
theorem dX8_piecesOf_66 : decode cX8_piecesOf 66 = .ok (.iaload, 1) := by decide +kernel
theorem dX8_piecesOf_67 : decode cX8_piecesOf 67 = .ok (.iconst 3, 1) := by decide +kernel
theorem dX8_piecesOf_68 : decode cX8_piecesOf 68 = .ok (.if_icmp .ne 9, 3) := by decide +kernel
theorem dX8_piecesOf_71 : decode cX8_piecesOf 71 = .ok (.ldc2_w 318, 3) := by decide +kernel
theorem dX8_piecesOf_74 : decode cX8_piecesOf 74 = .ok (.goto 4, 3) := by decide +kernel
theorem dX8_piecesOf_77 : decode cX8_piecesOf 77 = .ok (.lconst 1, 1) := by decide +kernel
theorem dX8_piecesOf_78 : decode cX8_piecesOf 78 = .ok (.lreturn, 1) := by decide +kernel
theorem sc_X8_piecesOf_X8_mark : ym_site g_X8_piecesOf g_X8_mark 2 1 1 := ⟨by decide, by decide, wd_1143, wd_83, by decide +kernel⟩
def bl_X8_piecesOf_42 (N : Nat) (w0 : Option Nat) (w1 : Int32) (s0 : Int32) (s1 : Option Nat) (h : ym_H) : Option (Int64 × ym_H) :=
  Option.bind (ym_ob h s1 8) fun o42 =>
  Option.bind (fn_X8_mark N s1 s0 h) fun q42 =>
  Option.bind (ym_gR q42.2 w0 8 5) fun v46 =>
  Option.bind (ym_ldI q42.2 v46 w1) fun v50 =>
  if v50 = 2 then
    some (2, q42.2)
  else
    Option.bind (ym_gR q42.2 w0 8 5) fun v62 =>
    Option.bind (ym_ldI q42.2 v62 w1) fun v66 =>
    if v66 = 3 then
      some (12, q42.2)
    else
      some (1, q42.2)
set_option maxRecDepth 20000 in
set_option maxHeartbeats 4000000 in
theorem ob_X8_piecesOf_42 {D : ym_D} {b0 : Nat} {N : Nat} {w0 : Option Nat} {w1 : Int32} {s0 : Int32} {s1 : Option Nat} {h h' : ym_H} {r : Int64} (hf : bl_X8_piecesOf_42 N w0 w1 s0 s1 h = some (r, h')) : ym_Y D b0 g_X8_piecesOf 2 42 [(0, va_rf w0), (1, .int w1)] [.int s0, va_rf s1] h (some (.long r)) h' := by
  unfold bl_X8_piecesOf_42 at hf
  obtain ⟨o42, f42, hf⟩ := Option.bind_eq_some_iff.mp hf
  obtain ⟨q42, e42, hf⟩ := Option.bind_eq_some_iff.mp hf
  refine ym_callV (pc := 42) (G2 := g_X8_mark) (dep2 := 1) (As := [.int s0]) (st := []) (stk2 := []) (r2 := none) (h1 := q42.2) dX8_piecesOf_42 (ok_X8_mark e42) (sc_X8_piecesOf_X8_mark) wd_1140 wd_1142 wd_44 (ci := 8) (q0 := (RX8, TX8, 58)) rfl (by decide) rfl f42 rfl rfl (ym_st4 (Nat.le_of_ble_eq_true rfl)) rfl ?_
  refine ym_aload_n (pc := 45) 0 dX8_piecesOf_45 rfl rfl ?_
  obtain ⟨v46, e46, hf⟩ := Option.bind_eq_some_iff.mp hf
  refine ym_get (pc := 46) dX8_piecesOf_46 rfl (by decide) iX8 (k := 5) (by decide) wd_850 (ym_gR_v e46) ?_
  refine ym_iload_n (pc := 49) 1 dX8_piecesOf_49 rfl rfl ?_
  obtain ⟨v50, e50, hf⟩ := Option.bind_eq_some_iff.mp hf
  refine ym_iald (pc := 50) dX8_piecesOf_50 rfl (ym_ldI_v e50) ?_
  refine ym_iconst (pc := 51) (v := 2) dX8_piecesOf_51 (by decide) ?_
  by_cases c52 : v50 = 2
  · rw [if_pos c52] at hf
    refine ym_icmp_ne_y (pc := 52) (tgt := 61) dX8_piecesOf_52 (by decide) c52 ?_
    refine ym_ldc2 (pc := 55) dX8_piecesOf_55 wd_1156 ?_
    refine ym_goto (pc := 58) (tgt := 78) dX8_piecesOf_58 (by decide) ?_
    cases hf
    exact ym_lret (pc := 78) dX8_piecesOf_78 rfl
  · rw [if_neg c52] at hf
    refine ym_icmp_ne_n (pc := 52) (tgt := 61) dX8_piecesOf_52 (by decide) c52 ?_
    refine ym_aload_n (pc := 61) 0 dX8_piecesOf_61 rfl rfl ?_
    obtain ⟨v62, e62, hf⟩ := Option.bind_eq_some_iff.mp hf
    refine ym_get (pc := 62) dX8_piecesOf_62 rfl (by decide) iX8 (k := 5) (by decide) wd_850 (ym_gR_v e62) ?_
    refine ym_iload_n (pc := 65) 1 dX8_piecesOf_65 rfl rfl ?_
    obtain ⟨v66, e66, hf⟩ := Option.bind_eq_some_iff.mp hf
    refine ym_iald (pc := 66) dX8_piecesOf_66 rfl (ym_ldI_v e66) ?_
    refine ym_iconst (pc := 67) (v := 3) dX8_piecesOf_67 (by decide) ?_
    by_cases c68 : v66 = 3
    · rw [if_pos c68] at hf
      refine ym_icmp_ne_y (pc := 68) (tgt := 77) dX8_piecesOf_68 (by decide) c68 ?_
      refine ym_ldc2 (pc := 71) dX8_piecesOf_71 wd_1157 ?_
      refine ym_goto (pc := 74) (tgt := 78) dX8_piecesOf_74 (by decide) ?_
      cases hf
      exact ym_lret (pc := 78) dX8_piecesOf_78 rfl
    · rw [if_neg c68] at hf
      refine ym_icmp_ne_n (pc := 68) (tgt := 77) dX8_piecesOf_68 (by decide) c68 ?_
      refine ym_lconst (pc := 77) (v := 1) dX8_piecesOf_77 (by decide) ?_
      cases hf
      exact ym_lret (pc := 78) dX8_piecesOf_78 rfl
def bl_X8_piecesOf_37 (N : Nat) (w0 : Option Nat) (w1 : Int32) (s0 : Option Nat) (h : ym_H) : Option (Int64 × ym_H) :=
  bl_X8_piecesOf_42 N w0 w1 5 s0 h
set_option maxRecDepth 20000 in
set_option maxHeartbeats 4000000 in
theorem ob_X8_piecesOf_37 {D : ym_D} {b0 : Nat} {N : Nat} {w0 : Option Nat} {w1 : Int32} {s0 : Option Nat} {h h' : ym_H} {r : Int64} (hf : bl_X8_piecesOf_37 N w0 w1 s0 h = some (r, h')) : ym_Y D b0 g_X8_piecesOf 2 37 [(0, va_rf w0), (1, .int w1)] [va_rf s0] h (some (.long r)) h' := by
  unfold bl_X8_piecesOf_37 at hf
  refine ym_iconst (pc := 37) (v := 5) dX8_piecesOf_37 (by decide) ?_
  refine ym_goto (pc := 38) (tgt := 42) dX8_piecesOf_38 (by decide) ?_
  exact ym_sub [0, 1] rfl (ob_X8_piecesOf_42 hf)
def bl_X8_piecesOf_16 (N : Nat) (w0 : Option Nat) (w1 : Int32) (h : ym_H) : Option (Int64 × ym_H) :=
  Option.bind (ym_gR h w0 8 5) fun v18 =>
  Option.bind (ym_ldI h v18 w1) fun v22 =>
  if v22 = 2 then
    bl_X8_piecesOf_37 N w0 w1 w0 h
  else
    Option.bind (ym_gR h w0 8 5) fun v28 =>
    Option.bind (ym_ldI h v28 w1) fun v32 =>
    if v32 = 3 then
      bl_X8_piecesOf_37 N w0 w1 w0 h
    else
      bl_X8_piecesOf_42 N w0 w1 4 w0 h
set_option maxRecDepth 20000 in
set_option maxHeartbeats 4000000 in
theorem ob_X8_piecesOf_16 {D : ym_D} {b0 : Nat} {N : Nat} {w0 : Option Nat} {w1 : Int32} {h h' : ym_H} {r : Int64} (hf : bl_X8_piecesOf_16 N w0 w1 h = some (r, h')) : ym_Y D b0 g_X8_piecesOf 2 16 [(0, va_rf w0), (1, .int w1)] [] h (some (.long r)) h' := by
  unfold bl_X8_piecesOf_16 at hf
  refine ym_aload_n (pc := 16) 0 dX8_piecesOf_16 rfl rfl ?_
  refine ym_aload_n (pc := 17) 0 dX8_piecesOf_17 rfl rfl ?_
  obtain ⟨v18, e18, hf⟩ := Option.bind_eq_some_iff.mp hf
  refine ym_get (pc := 18) dX8_piecesOf_18 rfl (by decide) iX8 (k := 5) (by decide) wd_850 (ym_gR_v e18) ?_
  refine ym_iload_n (pc := 21) 1 dX8_piecesOf_21 rfl rfl ?_
  obtain ⟨v22, e22, hf⟩ := Option.bind_eq_some_iff.mp hf
  refine ym_iald (pc := 22) dX8_piecesOf_22 rfl (ym_ldI_v e22) ?_
  refine ym_iconst (pc := 23) (v := 2) dX8_piecesOf_23 (by decide) ?_
  by_cases c24 : v22 = 2
  · rw [if_pos c24] at hf
    refine ym_icmp_eq_y (pc := 24) (tgt := 37) dX8_piecesOf_24 (by decide) c24 ?_
    exact ym_sub [0, 1] rfl (ob_X8_piecesOf_37 hf)
  · rw [if_neg c24] at hf
    refine ym_icmp_eq_n (pc := 24) (tgt := 37) dX8_piecesOf_24 (by decide) c24 ?_
    refine ym_aload_n (pc := 27) 0 dX8_piecesOf_27 rfl rfl ?_
    obtain ⟨v28, e28, hf⟩ := Option.bind_eq_some_iff.mp hf
    refine ym_get (pc := 28) dX8_piecesOf_28 rfl (by decide) iX8 (k := 5) (by decide) wd_850 (ym_gR_v e28) ?_
    refine ym_iload_n (pc := 31) 1 dX8_piecesOf_31 rfl rfl ?_
    obtain ⟨v32, e32, hf⟩ := Option.bind_eq_some_iff.mp hf
    refine ym_iald (pc := 32) dX8_piecesOf_32 rfl (ym_ldI_v e32) ?_
    refine ym_iconst (pc := 33) (v := 3) dX8_piecesOf_33 (by decide) ?_
    by_cases c34 : v32 = 3
    · rw [if_pos c34] at hf
      refine ym_icmp_ne_y (pc := 34) (tgt := 41) dX8_piecesOf_34 (by decide) c34 ?_
      exact ym_sub [0, 1] rfl (ob_X8_piecesOf_37 hf)
    · rw [if_neg c34] at hf
      refine ym_icmp_ne_n (pc := 34) (tgt := 41) dX8_piecesOf_34 (by decide) c34 ?_
      refine ym_iconst (pc := 41) (v := 4) dX8_piecesOf_41 (by decide) ?_
      exact ym_sub [0, 1] rfl (ob_X8_piecesOf_42 hf)
def fn_X8_piecesOf (N : Nat) (a0 : Option Nat) (a1 : Int32) (h : ym_H) : Option (Int64 × ym_H) :=
  Option.bind (ym_gR h a0 8 5) fun v1 =>
  Option.bind (ym_ldI h v1 a1) fun v5 =>
  if v5 = 3 then
    Option.bind (ym_ob h a0 8) fun o13 =>
    Option.bind (fn_X8_mark N a0 6 h) fun q13 =>
    bl_X8_piecesOf_16 N a0 a1 q13.2
  else
    bl_X8_piecesOf_16 N a0 a1 h
set_option maxRecDepth 20000 in
set_option maxHeartbeats 4000000 in
theorem ok_X8_piecesOf {D : ym_D} {b0 : Nat} {N : Nat} {a0 : Option Nat} {a1 : Int32} {h h' : ym_H} {r : Int64} (hf : fn_X8_piecesOf N a0 a1 h = some (r, h')) : ym_M D b0 g_X8_piecesOf 2 [va_rf a0, .int a1] h (some (.long r)) h' := by
  unfold fn_X8_piecesOf at hf
  refine ym_meth (lv := [(0, va_rf a0), (1, .int a1)]) (by decide) (by simp [lg_sl, ym_c1, ym_cI, ym_cL, g_X8_piecesOf]) (by simp [lv_args, ym_c1, ym_cI, ym_cL]) ?_
  refine ym_aload_n (pc := 0) 0 dX8_piecesOf_0 rfl rfl ?_
  obtain ⟨v1, e1, hf⟩ := Option.bind_eq_some_iff.mp hf
  refine ym_get (pc := 1) dX8_piecesOf_1 rfl (by decide) iX8 (k := 5) (by decide) wd_850 (ym_gR_v e1) ?_
  refine ym_iload_n (pc := 4) 1 dX8_piecesOf_4 rfl rfl ?_
  obtain ⟨v5, e5, hf⟩ := Option.bind_eq_some_iff.mp hf
  refine ym_iald (pc := 5) dX8_piecesOf_5 rfl (ym_ldI_v e5) ?_
  refine ym_iconst (pc := 6) (v := 3) dX8_piecesOf_6 (by decide) ?_
  by_cases c7 : v5 = 3
  · rw [if_pos c7] at hf
    refine ym_icmp_ne_y (pc := 7) (tgt := 16) dX8_piecesOf_7 (by decide) c7 ?_
    refine ym_aload_n (pc := 10) 0 dX8_piecesOf_10 rfl rfl ?_
    refine ym_bipush (pc := 11) (v := 6) dX8_piecesOf_11 (by decide) ?_
    obtain ⟨o13, f13, hf⟩ := Option.bind_eq_some_iff.mp hf
    obtain ⟨q13, e13, hf⟩ := Option.bind_eq_some_iff.mp hf
    refine ym_callV (pc := 13) (G2 := g_X8_mark) (dep2 := 1) (As := [.int 6]) (st := []) (stk2 := []) (r2 := none) (h1 := q13.2) dX8_piecesOf_13 (ok_X8_mark e13) (sc_X8_piecesOf_X8_mark) wd_1140 wd_1142 wd_44 (ci := 8) (q0 := (RX8, TX8, 58)) rfl (by decide) rfl f13 rfl rfl (ym_st4 (Nat.le_of_ble_eq_true rfl)) rfl ?_
    exact ym_sub [0, 1] rfl (ob_X8_piecesOf_16 hf)
  · rw [if_neg c7] at hf
    refine ym_icmp_ne_n (pc := 7) (tgt := 16) dX8_piecesOf_7 (by decide) c7 ?_
    exact ym_sub [0, 1] rfl (ob_X8_piecesOf_16 hf)
theorem dX8_limitOf_0 : decode cX8_limitOf 0 = .ok (.iconst 0, 1) := by decide +kernel
theorem dX8_limitOf_1 : decode cX8_limitOf 1 = .ok (.istore_n 3, 1) := by decide +kernel
theorem dX8_limitOf_2 : decode cX8_limitOf 2 = .ok (.iload_n 3, 1) := by decide +kernel
theorem dX8_limitOf_3 : decode cX8_limitOf 3 = .ok (.aload_n 0, 1) := by decide +kernel
theorem dX8_limitOf_4 : decode cX8_limitOf 4 = .ok (.getfield 59, 3) := by decide +kernel
theorem dX8_limitOf_7 : decode cX8_limitOf 7 = .ok (.iload_n 1, 1) := by decide +kernel
theorem dX8_limitOf_8 : decode cX8_limitOf 8 = .ok (.iaload, 1) := by decide +kernel
theorem dX8_limitOf_9 : decode cX8_limitOf 9 = .ok (.if_icmp .ge 31, 3) := by decide +kernel
theorem dX8_limitOf_12 : decode cX8_limitOf 12 = .ok (.aload_n 0, 1) := by decide +kernel
theorem dX8_limitOf_13 : decode cX8_limitOf 13 = .ok (.getfield 62, 3) := by decide +kernel
theorem dX8_limitOf_16 : decode cX8_limitOf 16 = .ok (.bipush 40, 2) := by decide +kernel
theorem dX8_limitOf_18 : decode cX8_limitOf 18 = .ok (.iload_n 1, 1) := by decide +kernel
theorem dX8_limitOf_19 : decode cX8_limitOf 19 = .ok (.imul, 1) := by decide +kernel
theorem dX8_limitOf_20 : decode cX8_limitOf 20 = .ok (.iload_n 3, 1) := by decide +kernel
theorem dX8_limitOf_21 : decode cX8_limitOf 21 = .ok (.iadd, 1) := by decide +kernel
theorem dX8_limitOf_22 : decode cX8_limitOf 22 = .ok (.iaload, 1) := by decide +kernel
theorem dX8_limitOf_23 : decode cX8_limitOf 23 = .ok (.iload_n 2, 1) := by decide +kernel
theorem dX8_limitOf_24 : decode cX8_limitOf 24 = .ok (.if_icmp .ne 10, 3) := by decide +kernel
theorem dX8_limitOf_27 : decode cX8_limitOf 27 = .ok (.bipush 40, 2) := by decide +kernel
theorem dX8_limitOf_29 : decode cX8_limitOf 29 = .ok (.iload_n 1, 1) := by decide +kernel
theorem dX8_limitOf_30 : decode cX8_limitOf 30 = .ok (.imul, 1) := by decide +kernel
theorem dX8_limitOf_31 : decode cX8_limitOf 31 = .ok (.iload_n 3, 1) := by decide +kernel
theorem dX8_limitOf_32 : decode cX8_limitOf 32 = .ok (.iadd, 1) := by decide +kernel
theorem dX8_limitOf_33 : decode cX8_limitOf 33 = .ok (.ireturn, 1) := by decide +kernel
theorem dX8_limitOf_34 : decode cX8_limitOf 34 = .ok (.iinc 3 1, 3) := by decide +kernel
theorem dX8_limitOf_37 : decode cX8_limitOf 37 = .ok (.goto (-35), 3) := by decide +kernel
theorem dX8_limitOf_40 : decode cX8_limitOf 40 = .ok (.iconst (-1), 1) := by decide +kernel
theorem dX8_limitOf_41 : decode cX8_limitOf 41 = .ok (.ireturn, 1) := by decide +kernel
def lb_X8_limitOf_2 (K : Option Nat → Int32 → Int32 → Int32 → ym_H → Option (((Unit) ⊕ Int32) × ym_H)) (N : Nat) (w0 : Option Nat) (w1 : Int32) (w2 : Int32) (w3 : Int32) (h : ym_H) : Option (((Unit) ⊕ Int32) × ym_H) :=
  Option.bind (ym_gR h w0 8 19) fun v4 =>
  Option.bind (ym_ldI h v4 w1) fun v8 =>
  if v8 ≤ w3 then
    some ((.inl ()), h)
  else
    Option.bind (ym_gR h w0 8 20) fun v13 =>
    Option.bind (ym_ldI h v13 ((40 * w1) + w3)) fun v22 =>
    if v22 = w2 then
      some ((.inr ((40 * w1) + w3)), h)
    else
      K w0 w1 w2 (w3 + 1) h
set_option maxRecDepth 20000 in
set_option maxHeartbeats 4000000 in
theorem ol_X8_limitOf_2 {D : ym_D} {b0 : Nat} {K : Option Nat → Int32 → Int32 → Int32 → ym_H → Option (((Unit) ⊕ Int32) × ym_H)} {N : Nat} {w0 : Option Nat} {w1 : Int32} {w2 : Int32} {w3 : Int32} {h h1 : ym_H} {x : ((Unit) ⊕ Int32)} (hKl : ∀ (u0 : Option Nat) (u1 : Int32) (u2 : Int32) (u3 : Int32) (h h1 : ym_H) (x : ((Unit) ⊕ Int32)), K u0 u1 u2 u3 h = some (x, h1) → ∀ {r0 : Option Value} {h' : ym_H}, Sum.elim (fun z => ym_Y D b0 g_X8_limitOf 1 40 [] [] h1 r0 h') (fun z => r0 = (some (.int z)) ∧ h' = h1) x → ym_Y D b0 g_X8_limitOf 1 2 [(0, va_rf u0), (1, .int u1), (2, .int u2), (3, .int u3)] [] h r0 h') (hf : lb_X8_limitOf_2 K N w0 w1 w2 w3 h = some (x, h1)) {r0 : Option Value} {h' : ym_H} (k : Sum.elim (fun z => ym_Y D b0 g_X8_limitOf 1 40 [] [] h1 r0 h') (fun z => r0 = (some (.int z)) ∧ h' = h1) x) : ym_Y D b0 g_X8_limitOf 1 2 [(0, va_rf w0), (1, .int w1), (2, .int w2), (3, .int w3)] [] h r0 h' := by
  unfold lb_X8_limitOf_2 at hf
  refine ym_iload_n (pc := 2) 3 dX8_limitOf_2 rfl rfl ?_
  refine ym_aload_n (pc := 3) 0 dX8_limitOf_3 rfl rfl ?_
  obtain ⟨v4, e4, hf⟩ := Option.bind_eq_some_iff.mp hf
  refine ym_get (pc := 4) dX8_limitOf_4 rfl (by decide) iX8 (k := 19) (by decide) wd_864 (ym_gR_v e4) ?_
  refine ym_iload_n (pc := 7) 1 dX8_limitOf_7 rfl rfl ?_
  obtain ⟨v8, e8, hf⟩ := Option.bind_eq_some_iff.mp hf
  refine ym_iald (pc := 8) dX8_limitOf_8 rfl (ym_ldI_v e8) ?_
  by_cases c9 : v8 ≤ w3
  · rw [if_pos c9] at hf
    refine ym_icmp_ge_y (pc := 9) (tgt := 40) dX8_limitOf_9 (by decide) c9 ?_
    cases hf
    exact ym_sub [] rfl k
  · rw [if_neg c9] at hf
    refine ym_icmp_ge_n (pc := 9) (tgt := 40) dX8_limitOf_9 (by decide) c9 ?_
    refine ym_aload_n (pc := 12) 0 dX8_limitOf_12 rfl rfl ?_
    obtain ⟨v13, e13, hf⟩ := Option.bind_eq_some_iff.mp hf
    refine ym_get (pc := 13) dX8_limitOf_13 rfl (by decide) iX8 (k := 20) (by decide) wd_865 (ym_gR_v e13) ?_
    refine ym_bipush (pc := 16) (v := 40) dX8_limitOf_16 (by decide) ?_
    refine ym_iload_n (pc := 18) 1 dX8_limitOf_18 rfl rfl ?_
    refine ym_imul (pc := 19) dX8_limitOf_19 ?_
    refine ym_iload_n (pc := 20) 3 dX8_limitOf_20 rfl rfl ?_
    refine ym_iadd (pc := 21) dX8_limitOf_21 ?_
    obtain ⟨v22, e22, hf⟩ := Option.bind_eq_some_iff.mp hf
    refine ym_iald (pc := 22) dX8_limitOf_22 rfl (ym_ldI_v e22) ?_
    refine ym_iload_n (pc := 23) 2 dX8_limitOf_23 rfl rfl ?_
    by_cases c24 : v22 = w2
    · rw [if_pos c24] at hf
      refine ym_icmp_ne_y (pc := 24) (tgt := 34) dX8_limitOf_24 (by decide) c24 ?_
      refine ym_bipush (pc := 27) (v := 40) dX8_limitOf_27 (by decide) ?_
      refine ym_iload_n (pc := 29) 1 dX8_limitOf_29 rfl rfl ?_
      refine ym_imul (pc := 30) dX8_limitOf_30 ?_
      refine ym_iload_n (pc := 31) 3 dX8_limitOf_31 rfl rfl ?_
      refine ym_iadd (pc := 32) dX8_limitOf_32 ?_
      cases hf
      obtain ⟨rfl, rfl⟩ := k
      exact ym_iret (pc := 33) dX8_limitOf_33 rfl
    · rw [if_neg c24] at hf
      refine ym_icmp_ne_n (pc := 24) (tgt := 34) dX8_limitOf_24 (by decide) c24 ?_
      refine ym_iinc (pc := 34) (lv' := [(3, .int (w3 + 1)), (0, va_rf w0), (1, .int w1), (2, .int w2)]) (v := (w3 + 1)) 3 dX8_limitOf_34 rfl (by rw [show Int32.ofInt 1 = 1 by decide]) (by decide) ⟨trivial, trivial, rfl, trivial, trivial⟩ rfl ?_
      refine ym_goto (pc := 37) (tgt := 2) dX8_limitOf_37 (by decide) ?_
      exact ym_sub [1, 2, 3, 0] rfl (hKl _ _ _ _ _ _ _ hf k)
def lp_X8_limitOf_2 (N : Nat) : Nat → Option Nat → Int32 → Int32 → Int32 → ym_H → Option (((Unit) ⊕ Int32) × ym_H)
  | 0, _, _, _, _, _ => none
  | n + 1, w0, w1, w2, w3, h => lb_X8_limitOf_2 (lp_X8_limitOf_2 N n) N w0 w1 w2 w3 h
set_option maxRecDepth 20000 in
set_option maxHeartbeats 4000000 in
theorem ok_lp_X8_limitOf_2 {D : ym_D} {b0 : Nat} {N : Nat}  : ∀ (n : Nat) (w0 : Option Nat) (w1 : Int32) (w2 : Int32) (w3 : Int32) (h h1 : ym_H) (x : ((Unit) ⊕ Int32)), lp_X8_limitOf_2 N n w0 w1 w2 w3 h = some (x, h1) → ∀ {r0 : Option Value} {h' : ym_H}, Sum.elim (fun z => ym_Y D b0 g_X8_limitOf 1 40 [] [] h1 r0 h') (fun z => r0 = (some (.int z)) ∧ h' = h1) x → ym_Y D b0 g_X8_limitOf 1 2 [(0, va_rf w0), (1, .int w1), (2, .int w2), (3, .int w3)] [] h r0 h' := by
  intro n
  induction n with
  | zero =>
    intro w0 w1 w2 w3 h h1 x hf
    cases hf
  | succ n ih =>
    intro w0 w1 w2 w3 h h1 x hf r0 h' k
    exact ol_X8_limitOf_2 (fun w0 w1 w2 w3 h h1 x z r0 h' k => ih w0 w1 w2 w3 h h1 x z k) hf k
def fn_X8_limitOf (N : Nat) (a0 : Option Nat) (a1 : Int32) (a2 : Int32) (h : ym_H) : Option (Int32 × ym_H) :=
  Option.bind (lp_X8_limitOf_2 N N a0 a1 a2 0 h) fun q2 =>
  match q2.1 with
  | .inr y2 => some (y2, q2.2)
  | .inl z2 =>
    some ((-1), q2.2)
set_option maxRecDepth 20000 in
set_option maxHeartbeats 4000000 in
theorem ok_X8_limitOf {D : ym_D} {b0 : Nat} {N : Nat} {a0 : Option Nat} {a1 : Int32} {a2 : Int32} {h h' : ym_H} {r : Int32} (hf : fn_X8_limitOf N a0 a1 a2 h = some (r, h')) : ym_M D b0 g_X8_limitOf 1 [va_rf a0, .int a1, .int a2] h (some (.int r)) h' := by
  unfold fn_X8_limitOf at hf
  refine ym_meth (lv := [(0, va_rf a0), (1, .int a1), (2, .int a2)]) (by decide) (by simp [lg_sl, ym_c1, ym_cI, ym_cL, g_X8_limitOf]) (by simp [lv_args, ym_c1, ym_cI, ym_cL]) ?_
  refine ym_iconst (pc := 0) (v := 0) dX8_limitOf_0 (by decide) ?_
  refine ym_istore_n (pc := 1) (lv' := [(3, .int 0), (0, va_rf a0), (1, .int a1), (2, .int a2)]) dX8_limitOf_1 rfl (by decide) ⟨trivial, trivial, rfl, trivial⟩ rfl ?_
  obtain ⟨⟨x2, g2⟩, e2, hf⟩ := Option.bind_eq_some_iff.mp hf
  refine ym_sub (lv' := [(0, va_rf a0), (1, .int a1), (2, .int a2), (3, .int 0)]) [1, 2, 3, 0] rfl ?_
  refine ok_lp_X8_limitOf_2 N _ _ _ _ _ _ _ e2 ?_
  cases x2 with
  | inr y2 =>
    cases hf
    exact ⟨rfl, rfl⟩
  | inl z2 =>
    dsimp only [Sum.elim_inl] at hf ⊢
    refine ym_iconst (pc := 40) (v := (-1)) dX8_limitOf_40 (by decide) ?_
    cases hf
    exact ym_iret (pc := 41) dX8_limitOf_41 rfl
theorem dX8_mayAgent_0 : decode cX8_mayAgent 0 = .ok (.lload_n 3, 1) := by decide +kernel
theorem dX8_mayAgent_1 : decode cX8_mayAgent 1 = .ok (.aload_n 0, 1) := by decide +kernel
theorem dX8_mayAgent_2 : decode cX8_mayAgent 2 = .ok (.iload_n 2, 1) := by decide +kernel
theorem dX8_mayAgent_3 : decode cX8_mayAgent 3 = .ok (.invokevirtual 324, 3) := by decide +kernel
theorem dX8_mayAgent_6 : decode cX8_mayAgent 6 = .ok (.lmul, 1) := by decide +kernel
theorem dX8_mayAgent_7 : decode cX8_mayAgent 7 = .ok (.lstore 5, 2) := by decide +kernel
theorem dX8_mayAgent_9 : decode cX8_mayAgent 9 = .ok (.iconst 0, 1) := by decide +kernel
theorem dX8_mayAgent_10 : decode cX8_mayAgent 10 = .ok (.istore 7, 2) := by decide +kernel
theorem dX8_mayAgent_12 : decode cX8_mayAgent 12 = .ok (.iload 7, 2) := by decide +kernel
theorem dX8_mayAgent_14 : decode cX8_mayAgent 14 = .ok (.aload_n 0, 1) := by decide +kernel
theorem dX8_mayAgent_15 : decode cX8_mayAgent 15 = .ok (.getfield 188, 3) := by decide +kernel
theorem dX8_mayAgent_18 : decode cX8_mayAgent 18 = .ok (.if_icmp .ge 57, 3) := by decide +kernel
theorem dX8_mayAgent_21 : decode cX8_mayAgent 21 = .ok (.aload_n 0, 1) := by decide +kernel
theorem dX8_mayAgent_22 : decode cX8_mayAgent 22 = .ok (.getfield 32, 3) := by decide +kernel
theorem dX8_mayAgent_25 : decode cX8_mayAgent 25 = .ok (.iload 7, 2) := by decide +kernel
theorem dX8_mayAgent_27 : decode cX8_mayAgent 27 = .ok (.iaload, 1) := by decide +kernel
theorem dX8_mayAgent_28 : decode cX8_mayAgent 28 = .ok (.iconst 1, 1) := by decide +kernel
theorem dX8_mayAgent_29 : decode cX8_mayAgent 29 = .ok (.if_icmp .le 7, 3) := by decide +kernel
theorem dX8_mayAgent_32 : decode cX8_mayAgent 32 = .ok (.iconst (-1), 1) := by decide +kernel
theorem dX8_mayAgent_33 : decode cX8_mayAgent 33 = .ok (.goto 10, 3) := by decide +kernel
theorem dX8_mayAgent_36 : decode cX8_mayAgent 36 = .ok (.aload_n 0, 1) := by decide +kernel
theorem dX8_mayAgent_37 : decode cX8_mayAgent 37 = .ok (.iload 7, 2) := by decide +kernel
theorem dX8_mayAgent_39 : decode cX8_mayAgent 39 = .ok (.iload_n 1, 1) := by decide +kernel
theorem dX8_mayAgent_40 : decode cX8_mayAgent 40 = .ok (.invokevirtual 327, 3) := by decide +kernel
theorem dX8_mayAgent_43 : decode cX8_mayAgent 43 = .ok (.istore 8, 2) := by decide +kernel
theorem dX8_mayAgent_45 : decode cX8_mayAgent 45 = .ok (.iload 8, 2) := by decide +kernel
theorem dX8_mayAgent_47 : decode cX8_mayAgent 47 = .ok (.ifCond .lt 22, 3) := by decide +kernel
theorem dX8_mayAgent_50 : decode cX8_mayAgent 50 = .ok (.lload 5, 2) := by decide +kernel
theorem dX8_mayAgent_52 : decode cX8_mayAgent 52 = .ok (.aload_n 0, 1) := by decide +kernel
theorem dX8_mayAgent_53 : decode cX8_mayAgent 53 = .ok (.getfield 65, 3) := by decide +kernel
theorem dX8_mayAgent_56 : decode cX8_mayAgent 56 = .ok (.iload 8, 2) := by decide +kernel
theorem dX8_mayAgent_58 : decode cX8_mayAgent 58 = .ok (.laload, 1) := by decide +kernel
theorem dX8_mayAgent_59 : decode cX8_mayAgent 59 = .ok (.aload_n 0, 1) := by decide +kernel
theorem dX8_mayAgent_60 : decode cX8_mayAgent 60 = .ok (.iload 7, 2) := by decide +kernel
theorem dX8_mayAgent_62 : decode cX8_mayAgent 62 = .ok (.invokevirtual 324, 3) := by decide +kernel
theorem dX8_mayAgent_65 : decode cX8_mayAgent 65 = .ok (.lmul, 1) := by decide +kernel
theorem dX8_mayAgent_66 : decode cX8_mayAgent 66 = .ok (.ladd, 1) := by decide +kernel
theorem dX8_mayAgent_67 : decode cX8_mayAgent 67 = .ok (.lstore 5, 2) := by decide +kernel
theorem dX8_mayAgent_69 : decode cX8_mayAgent 69 = .ok (.iinc 7 1, 3) := by decide +kernel
theorem dX8_mayAgent_72 : decode cX8_mayAgent 72 = .ok (.goto (-60), 3) := by decide +kernel
theorem dX8_mayAgent_75 : decode cX8_mayAgent 75 = .ok (.lload 5, 2) := by decide +kernel
theorem dX8_mayAgent_77 : decode cX8_mayAgent 77 = .ok (.aload_n 0, 1) := by decide +kernel
theorem dX8_mayAgent_78 : decode cX8_mayAgent 78 = .ok (.getfield 13, 3) := by decide +kernel
theorem dX8_mayAgent_81 : decode cX8_mayAgent 81 = .ok (.iload_n 1, 1) := by decide +kernel
theorem dX8_mayAgent_82 : decode cX8_mayAgent 82 = .ok (.laload, 1) := by decide +kernel
theorem dX8_mayAgent_83 : decode cX8_mayAgent 83 = .ok (.lcmp, 1) := by decide +kernel
theorem dX8_mayAgent_84 : decode cX8_mayAgent 84 = .ok (.ifCond .gt 7, 3) := by decide +kernel
theorem dX8_mayAgent_87 : decode cX8_mayAgent 87 = .ok (.iconst 1, 1) := by decide +kernel
theorem dX8_mayAgent_88 : decode cX8_mayAgent 88 = .ok (.goto 4, 3) := by decide +kernel
theorem dX8_mayAgent_91 : decode cX8_mayAgent 91 = .ok (.iconst 0, 1) := by decide +kernel
theorem dX8_mayAgent_92 : decode cX8_mayAgent 92 = .ok (.ireturn, 1) := by decide +kernel
theorem sc_X8_mayAgent_X8_piecesOf : ym_site g_X8_mayAgent g_X8_piecesOf 3 2 1 := ⟨by decide, by decide, wd_1155, wd_83, by decide +kernel⟩
theorem sc_X8_mayAgent_X8_limitOf : ym_site g_X8_mayAgent g_X8_limitOf 3 1 2 := ⟨by decide, by decide, wd_1161, wd_83, by decide +kernel⟩
def bl_X8_mayAgent_69_12 (K : Option Nat → Int32 → Int64 → Int32 → ym_H → Option ((Int64) × ym_H)) (N : Nat) (w0 : Option Nat) (w1 : Int32) (w5 : Int64) (w7 : Int32) (h : ym_H) : Option ((Int64) × ym_H) :=
  K w0 w1 w5 (w7 + 1) h
set_option maxRecDepth 20000 in
set_option maxHeartbeats 4000000 in
theorem ob_X8_mayAgent_69_12 {D : ym_D} {b0 : Nat} {K : Option Nat → Int32 → Int64 → Int32 → ym_H → Option ((Int64) × ym_H)} {N : Nat} {w0 : Option Nat} {w1 : Int32} {w5 : Int64} {w7 : Int32} {h h1 : ym_H} {x : (Int64)} (hKl : ∀ (u5 : Int64) (u7 : Int32) (h h1 : ym_H) (x : (Int64)), K w0 w1 u5 u7 h = some (x, h1) → ∀ {r0 : Option Value} {h' : ym_H}, ym_Y D b0 g_X8_mayAgent 3 75 [(0, va_rf w0), (1, .int w1), (5, .long x)] [] h1 r0 h' → ym_Y D b0 g_X8_mayAgent 3 12 [(0, va_rf w0), (1, .int w1), (5, .long u5), (7, .int u7)] [] h r0 h') (hf : bl_X8_mayAgent_69_12 K N w0 w1 w5 w7 h = some (x, h1)) {r0 : Option Value} {h' : ym_H} (k : ym_Y D b0 g_X8_mayAgent 3 75 [(0, va_rf w0), (1, .int w1), (5, .long x)] [] h1 r0 h') : ym_Y D b0 g_X8_mayAgent 3 69 [(0, va_rf w0), (1, .int w1), (5, .long w5), (7, .int w7)] [] h r0 h' := by
  unfold bl_X8_mayAgent_69_12 at hf
  refine ym_iinc (pc := 69) (lv' := [(7, .int (w7 + 1)), (0, va_rf w0), (1, .int w1), (5, .long w5)]) (v := (w7 + 1)) 3 dX8_mayAgent_69 rfl (by rw [show Int32.ofInt 1 = 1 by decide]) (by decide) ⟨trivial, trivial, trivial, trivial, trivial⟩ rfl ?_
  refine ym_goto (pc := 72) (tgt := 12) dX8_mayAgent_72 (by decide) ?_
  exact ym_sub [1, 2, 3, 0] rfl (hKl _ _ _ _ _ hf k)
def bl_X8_mayAgent_43_12 (K : Option Nat → Int32 → Int64 → Int32 → ym_H → Option ((Int64) × ym_H)) (N : Nat) (w0 : Option Nat) (w1 : Int32) (w5 : Int64) (w7 : Int32) (s0 : Int32) (h : ym_H) : Option ((Int64) × ym_H) :=
  if s0 < 0 then
    bl_X8_mayAgent_69_12 K N w0 w1 w5 w7 h
  else
    Option.bind (ym_gR h w0 8 21) fun v53 =>
    Option.bind (ym_ldL h v53 s0) fun v58 =>
    Option.bind (ym_ob h w0 8) fun o62 =>
    Option.bind (fn_X8_piecesOf N w0 w7 h) fun q62 =>
    bl_X8_mayAgent_69_12 K N w0 w1 (w5 + (v58 * q62.1)) w7 q62.2
set_option maxRecDepth 20000 in
set_option maxHeartbeats 4000000 in
theorem ob_X8_mayAgent_43_12 {D : ym_D} {b0 : Nat} {K : Option Nat → Int32 → Int64 → Int32 → ym_H → Option ((Int64) × ym_H)} {N : Nat} {w0 : Option Nat} {w1 : Int32} {w5 : Int64} {w7 : Int32} {s0 : Int32} {h h1 : ym_H} {x : (Int64)} (hKl : ∀ (u5 : Int64) (u7 : Int32) (h h1 : ym_H) (x : (Int64)), K w0 w1 u5 u7 h = some (x, h1) → ∀ {r0 : Option Value} {h' : ym_H}, ym_Y D b0 g_X8_mayAgent 3 75 [(0, va_rf w0), (1, .int w1), (5, .long x)] [] h1 r0 h' → ym_Y D b0 g_X8_mayAgent 3 12 [(0, va_rf w0), (1, .int w1), (5, .long u5), (7, .int u7)] [] h r0 h') (hf : bl_X8_mayAgent_43_12 K N w0 w1 w5 w7 s0 h = some (x, h1)) {r0 : Option Value} {h' : ym_H} (k : ym_Y D b0 g_X8_mayAgent 3 75 [(0, va_rf w0), (1, .int w1), (5, .long x)] [] h1 r0 h') : ym_Y D b0 g_X8_mayAgent 3 43 [(0, va_rf w0), (1, .int w1), (5, .long w5), (7, .int w7)] [.int s0] h r0 h' := by
  unfold bl_X8_mayAgent_43_12 at hf
  refine ym_istore (pc := 43) (lv' := [(8, .int s0), (0, va_rf w0), (1, .int w1), (5, .long w5), (7, .int w7)]) dX8_mayAgent_43 (by decide) ⟨trivial, trivial, trivial, rfl, trivial⟩ rfl ?_
  refine ym_iload (pc := 45) 0 dX8_mayAgent_45 rfl ?_
  by_cases c47 : s0 < 0
  · rw [if_pos c47] at hf
    refine ym_if_lt_y (pc := 47) (tgt := 69) dX8_mayAgent_47 (by decide) c47 ?_
    exact ym_sub [1, 2, 3, 4] rfl (ob_X8_mayAgent_69_12 hKl hf k)
  · rw [if_neg c47] at hf
    refine ym_if_lt_n (pc := 47) (tgt := 69) dX8_mayAgent_47 (by decide) c47 ?_
    refine ym_lload (pc := 50) 3 dX8_mayAgent_50 rfl ?_
    refine ym_aload_n (pc := 52) 1 dX8_mayAgent_52 rfl rfl ?_
    obtain ⟨v53, e53, hf⟩ := Option.bind_eq_some_iff.mp hf
    refine ym_get (pc := 53) dX8_mayAgent_53 rfl (by decide) iX8 (k := 21) (by decide) wd_866 (ym_gR_v e53) ?_
    refine ym_iload (pc := 56) 0 dX8_mayAgent_56 rfl ?_
    obtain ⟨v58, e58, hf⟩ := Option.bind_eq_some_iff.mp hf
    refine ym_lald (pc := 58) dX8_mayAgent_58 rfl (ym_ldL_v e58) ?_
    refine ym_aload_n (pc := 59) 1 dX8_mayAgent_59 rfl rfl ?_
    refine ym_iload (pc := 60) 4 dX8_mayAgent_60 rfl ?_
    obtain ⟨o62, f62, hf⟩ := Option.bind_eq_some_iff.mp hf
    obtain ⟨q62, e62, hf⟩ := Option.bind_eq_some_iff.mp hf
    refine ym_callV (pc := 62) (G2 := g_X8_piecesOf) (dep2 := 2) (As := [.int w7]) (st := [.long v58, .long w5]) (stk2 := [.long q62.1, .long v58, .long w5]) (r2 := (some (.long q62.1))) (h1 := q62.2) dX8_mayAgent_62 (ok_X8_piecesOf e62) (sc_X8_mayAgent_X8_piecesOf) wd_1152 wd_1154 wd_47 (ci := 8) (q0 := (RX8, TX8, 58)) rfl (by decide) rfl f62 rfl rfl (ym_st4 (Nat.le_of_ble_eq_true rfl)) rfl ?_
    refine ym_lmul (pc := 65) dX8_mayAgent_65 ?_
    refine ym_ladd (pc := 66) dX8_mayAgent_66 ?_
    refine ym_sub (lv' := [(0, va_rf w0), (1, .int w1), (7, .int w7)]) [1, 2, 4] rfl ?_
    refine ym_lstore (pc := 67) (lv' := [(5, .long (w5 + (v58 * q62.1))), (0, va_rf w0), (1, .int w1), (7, .int w7)]) dX8_mayAgent_67 (by decide) ⟨trivial, trivial, trivial, trivial⟩ rfl ?_
    exact ym_sub [1, 2, 0, 3] rfl (ob_X8_mayAgent_69_12 hKl hf k)
def lb_X8_mayAgent_12 (K : Option Nat → Int32 → Int64 → Int32 → ym_H → Option ((Int64) × ym_H)) (N : Nat) (w0 : Option Nat) (w1 : Int32) (w5 : Int64) (w7 : Int32) (h : ym_H) : Option ((Int64) × ym_H) :=
  Option.bind (ym_gI h w0 8 4) fun v15 =>
  if v15 ≤ w7 then
    some (w5, h)
  else
    Option.bind (ym_gR h w0 8 9) fun v22 =>
    Option.bind (ym_ldI h v22 w7) fun v27 =>
    if v27 ≤ 1 then
      Option.bind (ym_ob h w0 8) fun o40 =>
      Option.bind (fn_X8_limitOf N w0 w7 w1 h) fun q40 =>
      bl_X8_mayAgent_43_12 K N w0 w1 w5 w7 q40.1 q40.2
    else
      bl_X8_mayAgent_43_12 K N w0 w1 w5 w7 (-1) h
set_option maxRecDepth 20000 in
set_option maxHeartbeats 4000000 in
theorem ol_X8_mayAgent_12 {D : ym_D} {b0 : Nat} {K : Option Nat → Int32 → Int64 → Int32 → ym_H → Option ((Int64) × ym_H)} {N : Nat} {w0 : Option Nat} {w1 : Int32} {w5 : Int64} {w7 : Int32} {h h1 : ym_H} {x : (Int64)} (hKl : ∀ (u5 : Int64) (u7 : Int32) (h h1 : ym_H) (x : (Int64)), K w0 w1 u5 u7 h = some (x, h1) → ∀ {r0 : Option Value} {h' : ym_H}, ym_Y D b0 g_X8_mayAgent 3 75 [(0, va_rf w0), (1, .int w1), (5, .long x)] [] h1 r0 h' → ym_Y D b0 g_X8_mayAgent 3 12 [(0, va_rf w0), (1, .int w1), (5, .long u5), (7, .int u7)] [] h r0 h') (hf : lb_X8_mayAgent_12 K N w0 w1 w5 w7 h = some (x, h1)) {r0 : Option Value} {h' : ym_H} (k : ym_Y D b0 g_X8_mayAgent 3 75 [(0, va_rf w0), (1, .int w1), (5, .long x)] [] h1 r0 h') : ym_Y D b0 g_X8_mayAgent 3 12 [(0, va_rf w0), (1, .int w1), (5, .long w5), (7, .int w7)] [] h r0 h' := by
  unfold lb_X8_mayAgent_12 at hf
  refine ym_iload (pc := 12) 3 dX8_mayAgent_12 rfl ?_
  refine ym_aload_n (pc := 14) 0 dX8_mayAgent_14 rfl rfl ?_
  obtain ⟨v15, e15, hf⟩ := Option.bind_eq_some_iff.mp hf
  refine ym_get (pc := 15) dX8_mayAgent_15 rfl (by decide) iX8 (k := 4) (by decide) wd_849 (ym_gI_v e15) ?_
  by_cases c18 : v15 ≤ w7
  · rw [if_pos c18] at hf
    refine ym_icmp_ge_y (pc := 18) (tgt := 75) dX8_mayAgent_18 (by decide) c18 ?_
    cases hf
    exact ym_sub [0, 1, 2] rfl k
  · rw [if_neg c18] at hf
    refine ym_icmp_ge_n (pc := 18) (tgt := 75) dX8_mayAgent_18 (by decide) c18 ?_
    refine ym_aload_n (pc := 21) 0 dX8_mayAgent_21 rfl rfl ?_
    obtain ⟨v22, e22, hf⟩ := Option.bind_eq_some_iff.mp hf
    refine ym_get (pc := 22) dX8_mayAgent_22 rfl (by decide) iX8 (k := 9) (by decide) wd_854 (ym_gR_v e22) ?_
    refine ym_iload (pc := 25) 3 dX8_mayAgent_25 rfl ?_
    obtain ⟨v27, e27, hf⟩ := Option.bind_eq_some_iff.mp hf
    refine ym_iald (pc := 27) dX8_mayAgent_27 rfl (ym_ldI_v e27) ?_
    refine ym_iconst (pc := 28) (v := 1) dX8_mayAgent_28 (by decide) ?_
    by_cases c29 : v27 ≤ 1
    · rw [if_pos c29] at hf
      refine ym_icmp_le_y (pc := 29) (tgt := 36) dX8_mayAgent_29 (by decide) c29 ?_
      refine ym_aload_n (pc := 36) 0 dX8_mayAgent_36 rfl rfl ?_
      refine ym_iload (pc := 37) 3 dX8_mayAgent_37 rfl ?_
      refine ym_iload_n (pc := 39) 1 dX8_mayAgent_39 rfl rfl ?_
      obtain ⟨o40, f40, hf⟩ := Option.bind_eq_some_iff.mp hf
      obtain ⟨q40, e40, hf⟩ := Option.bind_eq_some_iff.mp hf
      refine ym_callV (pc := 40) (G2 := g_X8_limitOf) (dep2 := 1) (As := [.int w7, .int w1]) (st := []) (stk2 := [.int q40.1]) (r2 := (some (.int q40.1))) (h1 := q40.2) dX8_mayAgent_40 (ok_X8_limitOf e40) (sc_X8_mayAgent_X8_limitOf) wd_1158 wd_1160 wd_48 (ci := 8) (q0 := (RX8, TX8, 58)) rfl (by decide) rfl f40 rfl rfl (ym_st4 (Nat.le_of_ble_eq_true rfl)) rfl ?_
      exact ym_sub [0, 1, 2, 3] rfl (ob_X8_mayAgent_43_12 hKl hf k)
    · rw [if_neg c29] at hf
      refine ym_icmp_le_n (pc := 29) (tgt := 36) dX8_mayAgent_29 (by decide) c29 ?_
      refine ym_iconst (pc := 32) (v := (-1)) dX8_mayAgent_32 (by decide) ?_
      refine ym_goto (pc := 33) (tgt := 43) dX8_mayAgent_33 (by decide) ?_
      exact ym_sub [0, 1, 2, 3] rfl (ob_X8_mayAgent_43_12 hKl hf k)
def lp_X8_mayAgent_12 (N : Nat) : Nat → Option Nat → Int32 → Int64 → Int32 → ym_H → Option ((Int64) × ym_H)
  | 0, _, _, _, _, _ => none
  | n + 1, w0, w1, w5, w7, h => lb_X8_mayAgent_12 (lp_X8_mayAgent_12 N n) N w0 w1 w5 w7 h
set_option maxRecDepth 20000 in
set_option maxHeartbeats 4000000 in
theorem ok_lp_X8_mayAgent_12 {D : ym_D} {b0 : Nat} {N : Nat} {w0 : Option Nat} {w1 : Int32} : ∀ (n : Nat) (w5 : Int64) (w7 : Int32) (h h1 : ym_H) (x : (Int64)), lp_X8_mayAgent_12 N n w0 w1 w5 w7 h = some (x, h1) → ∀ {r0 : Option Value} {h' : ym_H}, ym_Y D b0 g_X8_mayAgent 3 75 [(0, va_rf w0), (1, .int w1), (5, .long x)] [] h1 r0 h' → ym_Y D b0 g_X8_mayAgent 3 12 [(0, va_rf w0), (1, .int w1), (5, .long w5), (7, .int w7)] [] h r0 h' := by
  intro n
  induction n with
  | zero =>
    intro w5 w7 h h1 x hf
    cases hf
  | succ n ih =>
    intro w5 w7 h h1 x hf r0 h' k
    exact ol_X8_mayAgent_12 (fun w5 w7 h h1 x z r0 h' k => ih w5 w7 h h1 x z k) hf k
def fn_X8_mayAgent (N : Nat) (a0 : Option Nat) (a1 : Int32) (a2 : Int32) (a3 : Int64) (h : ym_H) : Option (Int32 × ym_H) :=
  Option.bind (ym_ob h a0 8) fun o3 =>
  Option.bind (fn_X8_piecesOf N a0 a2 h) fun q3 =>
  Option.bind (lp_X8_mayAgent_12 N N a0 a1 (a3 * q3.1) 0 q3.2) fun q12 =>
  Option.bind (ym_gR q12.2 a0 8 2) fun v78 =>
  Option.bind (ym_ldL q12.2 v78 a1) fun v82 =>
  if v82 < q12.1 then
    some (0, q12.2)
  else
    some (1, q12.2)
set_option maxRecDepth 20000 in
set_option maxHeartbeats 4000000 in
theorem ok_X8_mayAgent {D : ym_D} {b0 : Nat} {N : Nat} {a0 : Option Nat} {a1 : Int32} {a2 : Int32} {a3 : Int64} {h h' : ym_H} {r : Int32} (hf : fn_X8_mayAgent N a0 a1 a2 a3 h = some (r, h')) : ym_M D b0 g_X8_mayAgent 3 [va_rf a0, .int a1, .int a2, .long a3] h (some (.int r)) h' := by
  unfold fn_X8_mayAgent at hf
  refine ym_meth (lv := [(0, va_rf a0), (1, .int a1), (2, .int a2), (3, .long a3)]) (by decide) (by simp [lg_sl, ym_c1, ym_cI, ym_cL, g_X8_mayAgent]) (by simp [lv_args, ym_c1, ym_cI, ym_cL]) ?_
  refine ym_lload_n (pc := 0) 3 dX8_mayAgent_0 rfl rfl ?_
  refine ym_aload_n (pc := 1) 0 dX8_mayAgent_1 rfl rfl ?_
  refine ym_iload_n (pc := 2) 2 dX8_mayAgent_2 rfl rfl ?_
  obtain ⟨o3, f3, hf⟩ := Option.bind_eq_some_iff.mp hf
  obtain ⟨q3, e3, hf⟩ := Option.bind_eq_some_iff.mp hf
  refine ym_callV (pc := 3) (G2 := g_X8_piecesOf) (dep2 := 2) (As := [.int a2]) (st := [.long a3]) (stk2 := [.long q3.1, .long a3]) (r2 := (some (.long q3.1))) (h1 := q3.2) dX8_mayAgent_3 (ok_X8_piecesOf e3) (sc_X8_mayAgent_X8_piecesOf) wd_1152 wd_1154 wd_47 (ci := 8) (q0 := (RX8, TX8, 58)) rfl (by decide) rfl f3 rfl rfl (ym_st4 (Nat.le_of_ble_eq_true rfl)) rfl ?_
  refine ym_lmul (pc := 6) dX8_mayAgent_6 ?_
  refine ym_sub (lv' := [(0, va_rf a0), (1, .int a1)]) [0, 1] rfl ?_
  refine ym_lstore (pc := 7) (lv' := [(5, .long (a3 * q3.1)), (0, va_rf a0), (1, .int a1)]) dX8_mayAgent_7 (by decide) ⟨trivial, trivial, trivial⟩ rfl ?_
  refine ym_iconst (pc := 9) (v := 0) dX8_mayAgent_9 (by decide) ?_
  refine ym_istore (pc := 10) (lv' := [(7, .int 0), (5, .long (a3 * q3.1)), (0, va_rf a0), (1, .int a1)]) dX8_mayAgent_10 (by decide) ⟨trivial, trivial, trivial, trivial⟩ rfl ?_
  obtain ⟨q12, e12, hf⟩ := Option.bind_eq_some_iff.mp hf
  refine ym_sub (lv' := [(0, va_rf a0), (1, .int a1), (5, .long (a3 * q3.1)), (7, .int 0)]) [2, 3, 1, 0] rfl ?_
  refine ok_lp_X8_mayAgent_12 N _ _ _ _ _ e12 ?_
  refine ym_lload (pc := 75) 2 dX8_mayAgent_75 rfl ?_
  refine ym_aload_n (pc := 77) 0 dX8_mayAgent_77 rfl rfl ?_
  obtain ⟨v78, e78, hf⟩ := Option.bind_eq_some_iff.mp hf
  refine ym_get (pc := 78) dX8_mayAgent_78 rfl (by decide) iX8 (k := 2) (by decide) wd_847 (ym_gR_v e78) ?_
  refine ym_iload_n (pc := 81) 1 dX8_mayAgent_81 rfl rfl ?_
  obtain ⟨v82, e82, hf⟩ := Option.bind_eq_some_iff.mp hf
  refine ym_lald (pc := 82) dX8_mayAgent_82 rfl (ym_ldL_v e82) ?_
  by_cases c83 : v82 < q12.1
  · rw [if_pos c83] at hf
    refine ym_lcmp_gt_y (pc := 83) (tgt := 91) dX8_mayAgent_83 dX8_mayAgent_84 (by decide) c83 ?_
    refine ym_iconst (pc := 91) (v := 0) dX8_mayAgent_91 (by decide) ?_
    cases hf
    exact ym_zret (pc := 92) dX8_mayAgent_92 rfl rfl
  · rw [if_neg c83] at hf
    refine ym_lcmp_gt_n (pc := 83) (tgt := 91) dX8_mayAgent_83 dX8_mayAgent_84 (by decide) c83 ?_
    refine ym_iconst (pc := 87) (v := 1) dX8_mayAgent_87 (by decide) ?_
    refine ym_goto (pc := 88) (tgt := 92) dX8_mayAgent_88 (by decide) ?_
    cases hf
    exact ym_zret (pc := 92) dX8_mayAgent_92 rfl rfl
theorem dX8_may_0 : decode cX8_may 0 = .ok (.aload_n 0, 1) := by decide +kernel
theorem dX8_may_1 : decode cX8_may 1 = .ok (.getfield 9, 3) := by decide +kernel
theorem dX8_may_4 : decode cX8_may 4 = .ok (.iload_n 1, 1) := by decide +kernel
theorem dX8_may_5 : decode cX8_may 5 = .ok (.iaload, 1) := by decide +kernel
theorem dX8_may_6 : decode cX8_may 6 = .ok (.tableswitch 69 1 4 #[30, 61, 69, 38], 30) := by decide +kernel
theorem dX8_may_36 : decode cX8_may 36 = .ok (.aload_n 0, 1) := by decide +kernel
theorem dX8_may_37 : decode cX8_may 37 = .ok (.bipush 7, 2) := by decide +kernel
theorem dX8_may_39 : decode cX8_may 39 = .ok (.invokevirtual 309, 3) := by decide +kernel
theorem dX8_may_42 : decode cX8_may 42 = .ok (.iconst 1, 1) := by decide +kernel
theorem dX8_may_43 : decode cX8_may 43 = .ok (.ireturn, 1) := by decide +kernel
theorem dX8_may_44 : decode cX8_may 44 = .ok (.aload_n 0, 1) := by decide +kernel
theorem dX8_may_45 : decode cX8_may 45 = .ok (.bipush 8, 2) := by decide +kernel
theorem dX8_may_47 : decode cX8_may 47 = .ok (.invokevirtual 309, 3) := by decide +kernel
theorem dX8_may_50 : decode cX8_may 50 = .ok (.lload_n 3, 1) := by decide +kernel
theorem dX8_may_51 : decode cX8_may 51 = .ok (.aload_n 0, 1) := by decide +kernel
theorem dX8_may_52 : decode cX8_may 52 = .ok (.getfield 26, 3) := by decide +kernel
theorem dX8_may_55 : decode cX8_may 55 = .ok (.iload_n 2, 1) := by decide +kernel
theorem dX8_may_56 : decode cX8_may 56 = .ok (.laload, 1) := by decide +kernel
theorem dX8_may_57 : decode cX8_may 57 = .ok (.lcmp, 1) := by decide +kernel
theorem dX8_may_58 : decode cX8_may 58 = .ok (.ifCond .ge 7, 3) := by decide +kernel
theorem dX8_may_61 : decode cX8_may 61 = .ok (.iconst 1, 1) := by decide +kernel
theorem dX8_may_62 : decode cX8_may 62 = .ok (.goto 4, 3) := by decide +kernel
theorem dX8_may_65 : decode cX8_may 65 = .ok (.iconst 0, 1) := by decide +kernel
theorem dX8_may_66 : decode cX8_may 66 = .ok (.ireturn, 1) := by decide +kernel
theorem dX8_may_67 : decode cX8_may 67 = .ok (.aload_n 0, 1) := by decide +kernel
theorem dX8_may_68 : decode cX8_may 68 = .ok (.bipush 9, 2) := by decide +kernel
theorem dX8_may_70 : decode cX8_may 70 = .ok (.invokevirtual 309, 3) := by decide +kernel
theorem dX8_may_73 : decode cX8_may 73 = .ok (.iconst 1, 1) := by decide +kernel
theorem dX8_may_74 : decode cX8_may 74 = .ok (.ireturn, 1) := by decide +kernel
theorem dX8_may_75 : decode cX8_may 75 = .ok (.aload_n 0, 1) := by decide +kernel
theorem dX8_may_76 : decode cX8_may 76 = .ok (.bipush 10, 2) := by decide +kernel
theorem dX8_may_78 : decode cX8_may 78 = .ok (.invokevirtual 309, 3) := by decide +kernel
theorem dX8_may_81 : decode cX8_may 81 = .ok (.aload_n 0, 1) := by decide +kernel
theorem dX8_may_82 : decode cX8_may 82 = .ok (.bipush 9, 2) := by decide +kernel
theorem dX8_may_84 : decode cX8_may 84 = .ok (.invokevirtual 309, 3) := by decide +kernel
theorem dX8_may_87 : decode cX8_may 87 = .ok (.aload_n 0, 1) := by decide +kernel
theorem dX8_may_88 : decode cX8_may 88 = .ok (.iload_n 1, 1) := by decide +kernel
theorem dX8_may_89 : decode cX8_may 89 = .ok (.iload_n 2, 1) := by decide +kernel
theorem dX8_may_90 : decode cX8_may 90 = .ok (.lload_n 3, 1) := by decide +kernel
theorem dX8_may_91 : decode cX8_may 91 = .ok (.invokevirtual 320, 3) := by decide +kernel
theorem dX8_may_94 : decode cX8_may 94 = .ok (.ireturn, 1) := by decide +kernel
theorem sc_X8_may_X8_mark : ym_site g_X8_may g_X8_mark 4 1 1 := ⟨by decide, by decide, wd_1143, wd_83, by decide +kernel⟩
theorem sc_X8_may_X8_mayAgent : ym_site g_X8_may g_X8_mayAgent 4 3 3 := ⟨by decide, by decide, wd_1151, wd_83, by decide +kernel⟩
theorem sw_X8_may_6 {x : Int32} (c1 : ¬ x = 1) (c2 : ¬ x = 2) (c3 : ¬ x = 3) (c4 : ¬ x = 4) : x.toInt < (1) ∨ (4) < x.toInt := by
  have d1 : ¬ x.toInt = (1) := fun q => c1 (Int32.toInt_inj.mp (by rw [q]; rfl))
  have d2 : ¬ x.toInt = (2) := fun q => c2 (Int32.toInt_inj.mp (by rw [q]; rfl))
  have d3 : ¬ x.toInt = (3) := fun q => c3 (Int32.toInt_inj.mp (by rw [q]; rfl))
  have d4 : ¬ x.toInt = (4) := fun q => c4 (Int32.toInt_inj.mp (by rw [q]; rfl))
  omega
def fn_X8_may (N : Nat) (a0 : Option Nat) (a1 : Int32) (a2 : Int32) (a3 : Int64) (h : ym_H) : Option (Int32 × ym_H) :=
  Option.bind (ym_gR h a0 8 1) fun v1 =>
  Option.bind (ym_ldI h v1 a1) fun v5 =>
  if v5 = 1 then
    Option.bind (ym_ob h a0 8) fun o39 =>
    Option.bind (fn_X8_mark N a0 7 h) fun q39 =>
    some (1, q39.2)
  else
  if v5 = 2 then
    Option.bind (ym_ob h a0 8) fun o70 =>
    Option.bind (fn_X8_mark N a0 9 h) fun q70 =>
    some (1, q70.2)
  else
  if v5 = 3 then
    Option.bind (ym_ob h a0 8) fun o78 =>
    Option.bind (fn_X8_mark N a0 10 h) fun q78 =>
    Option.bind (ym_ob q78.2 a0 8) fun o84 =>
    Option.bind (fn_X8_mark N a0 9 q78.2) fun q84 =>
    Option.bind (ym_ob q84.2 a0 8) fun o91 =>
    Option.bind (fn_X8_mayAgent N a0 a1 a2 a3 q84.2) fun q91 =>
    if q91.1 = 0 ∨ q91.1 = 1 then some (q91.1, q91.2) else none
  else
  if v5 = 4 then
    Option.bind (ym_ob h a0 8) fun o47 =>
    Option.bind (fn_X8_mark N a0 8 h) fun q47 =>
    Option.bind (ym_gR q47.2 a0 8 7) fun v52 =>
    Option.bind (ym_ldL q47.2 v52 a2) fun v56 =>
    if v56 ≤ a3 then
      some (0, q47.2)
    else
      some (1, q47.2)
  else
  Option.bind (ym_ob h a0 8) fun o78 =>
  Option.bind (fn_X8_mark N a0 10 h) fun q78 =>
  Option.bind (ym_ob q78.2 a0 8) fun o84 =>
  Option.bind (fn_X8_mark N a0 9 q78.2) fun q84 =>
  Option.bind (ym_ob q84.2 a0 8) fun o91 =>
  Option.bind (fn_X8_mayAgent N a0 a1 a2 a3 q84.2) fun q91 =>
  if q91.1 = 0 ∨ q91.1 = 1 then some (q91.1, q91.2) else none
set_option maxRecDepth 20000 in
set_option maxHeartbeats 4000000 in
theorem ok_X8_may {D : ym_D} {b0 : Nat} {N : Nat} {a0 : Option Nat} {a1 : Int32} {a2 : Int32} {a3 : Int64} {h h' : ym_H} {r : Int32} (hf : fn_X8_may N a0 a1 a2 a3 h = some (r, h')) : ym_M D b0 g_X8_may 4 [va_rf a0, .int a1, .int a2, .long a3] h (some (.int r)) h' := by
  unfold fn_X8_may at hf
  refine ym_meth (lv := [(0, va_rf a0), (1, .int a1), (2, .int a2), (3, .long a3)]) (by decide) (by simp [lg_sl, ym_c1, ym_cI, ym_cL, g_X8_may]) (by simp [lv_args, ym_c1, ym_cI, ym_cL]) ?_
  refine ym_aload_n (pc := 0) 0 dX8_may_0 rfl rfl ?_
  obtain ⟨v1, e1, hf⟩ := Option.bind_eq_some_iff.mp hf
  refine ym_get (pc := 1) dX8_may_1 rfl (by decide) iX8 (k := 1) (by decide) wd_846 (ym_gR_v e1) ?_
  refine ym_iload_n (pc := 4) 1 dX8_may_4 rfl rfl ?_
  obtain ⟨v5, e5, hf⟩ := Option.bind_eq_some_iff.mp hf
  refine ym_iald (pc := 5) dX8_may_5 rfl (ym_ldI_v e5) ?_
  by_cases c6_1 : v5 = 1
  · rw [if_pos c6_1] at hf
    refine ym_swIn (pc := 6) (off := 30) (tgt := 36) dX8_may_6 (by rw [c6_1]; decide) (by rw [c6_1]; decide) (by rw [c6_1]; decide) (by decide) ?_
    refine ym_aload_n (pc := 36) 0 dX8_may_36 rfl rfl ?_
    refine ym_bipush (pc := 37) (v := 7) dX8_may_37 (by decide) ?_
    obtain ⟨o39, f39, hf⟩ := Option.bind_eq_some_iff.mp hf
    obtain ⟨q39, e39, hf⟩ := Option.bind_eq_some_iff.mp hf
    refine ym_callV (pc := 39) (G2 := g_X8_mark) (dep2 := 1) (As := [.int 7]) (st := []) (stk2 := []) (r2 := none) (h1 := q39.2) dX8_may_39 (ok_X8_mark e39) (sc_X8_may_X8_mark) wd_1140 wd_1142 wd_44 (ci := 8) (q0 := (RX8, TX8, 58)) rfl (by decide) rfl f39 rfl rfl (ym_st4 (Nat.le_of_ble_eq_true rfl)) rfl ?_
    refine ym_iconst (pc := 42) (v := 1) dX8_may_42 (by decide) ?_
    cases hf
    exact ym_zret (pc := 43) dX8_may_43 rfl rfl
  rw [if_neg c6_1] at hf
  by_cases c6_2 : v5 = 2
  · rw [if_pos c6_2] at hf
    refine ym_swIn (pc := 6) (off := 61) (tgt := 67) dX8_may_6 (by rw [c6_2]; decide) (by rw [c6_2]; decide) (by rw [c6_2]; decide) (by decide) ?_
    refine ym_aload_n (pc := 67) 0 dX8_may_67 rfl rfl ?_
    refine ym_bipush (pc := 68) (v := 9) dX8_may_68 (by decide) ?_
    obtain ⟨o70, f70, hf⟩ := Option.bind_eq_some_iff.mp hf
    obtain ⟨q70, e70, hf⟩ := Option.bind_eq_some_iff.mp hf
    refine ym_callV (pc := 70) (G2 := g_X8_mark) (dep2 := 1) (As := [.int 9]) (st := []) (stk2 := []) (r2 := none) (h1 := q70.2) dX8_may_70 (ok_X8_mark e70) (sc_X8_may_X8_mark) wd_1140 wd_1142 wd_44 (ci := 8) (q0 := (RX8, TX8, 58)) rfl (by decide) rfl f70 rfl rfl (ym_st4 (Nat.le_of_ble_eq_true rfl)) rfl ?_
    refine ym_iconst (pc := 73) (v := 1) dX8_may_73 (by decide) ?_
    cases hf
    exact ym_zret (pc := 74) dX8_may_74 rfl rfl
  rw [if_neg c6_2] at hf
  by_cases c6_3 : v5 = 3
  · rw [if_pos c6_3] at hf
    refine ym_swIn (pc := 6) (off := 69) (tgt := 75) dX8_may_6 (by rw [c6_3]; decide) (by rw [c6_3]; decide) (by rw [c6_3]; decide) (by decide) ?_
    refine ym_aload_n (pc := 75) 0 dX8_may_75 rfl rfl ?_
    refine ym_bipush (pc := 76) (v := 10) dX8_may_76 (by decide) ?_
    obtain ⟨o78, f78, hf⟩ := Option.bind_eq_some_iff.mp hf
    obtain ⟨q78, e78, hf⟩ := Option.bind_eq_some_iff.mp hf
    refine ym_callV (pc := 78) (G2 := g_X8_mark) (dep2 := 1) (As := [.int 10]) (st := []) (stk2 := []) (r2 := none) (h1 := q78.2) dX8_may_78 (ok_X8_mark e78) (sc_X8_may_X8_mark) wd_1140 wd_1142 wd_44 (ci := 8) (q0 := (RX8, TX8, 58)) rfl (by decide) rfl f78 rfl rfl (ym_st4 (Nat.le_of_ble_eq_true rfl)) rfl ?_
    refine ym_aload_n (pc := 81) 0 dX8_may_81 rfl rfl ?_
    refine ym_bipush (pc := 82) (v := 9) dX8_may_82 (by decide) ?_
    obtain ⟨o84, f84, hf⟩ := Option.bind_eq_some_iff.mp hf
    obtain ⟨q84, e84, hf⟩ := Option.bind_eq_some_iff.mp hf
    refine ym_callV (pc := 84) (G2 := g_X8_mark) (dep2 := 1) (As := [.int 9]) (st := []) (stk2 := []) (r2 := none) (h1 := q84.2) dX8_may_84 (ok_X8_mark e84) (sc_X8_may_X8_mark) wd_1140 wd_1142 wd_44 (ci := 8) (q0 := (RX8, TX8, 58)) rfl (by decide) rfl f84 rfl rfl (ym_st4 (Nat.le_of_ble_eq_true rfl)) rfl ?_
    refine ym_aload_n (pc := 87) 0 dX8_may_87 rfl rfl ?_
    refine ym_iload_n (pc := 88) 1 dX8_may_88 rfl rfl ?_
    refine ym_iload_n (pc := 89) 2 dX8_may_89 rfl rfl ?_
    refine ym_lload_n (pc := 90) 3 dX8_may_90 rfl rfl ?_
    obtain ⟨o91, f91, hf⟩ := Option.bind_eq_some_iff.mp hf
    obtain ⟨q91, e91, hf⟩ := Option.bind_eq_some_iff.mp hf
    refine ym_callV (pc := 91) (G2 := g_X8_mayAgent) (dep2 := 3) (As := [.int a1, .int a2, .long a3]) (st := []) (stk2 := [.int q91.1]) (r2 := (some (.int q91.1))) (h1 := q91.2) dX8_may_91 (ok_X8_mayAgent e91) (sc_X8_may_X8_mayAgent) wd_1148 wd_1150 wd_46 (ci := 8) (q0 := (RX8, TX8, 58)) rfl (by decide) rfl f91 rfl rfl (ym_st4 (Nat.le_of_ble_eq_true rfl)) rfl ?_
    by_cases z94 : q91.1 = 0 ∨ q91.1 = 1
    · rw [if_pos z94] at hf
      cases hf
      exact ym_zret (pc := 94) dX8_may_94 rfl (ym_zn z94)
    · rw [if_neg z94] at hf
      cases hf
  rw [if_neg c6_3] at hf
  by_cases c6_4 : v5 = 4
  · rw [if_pos c6_4] at hf
    refine ym_swIn (pc := 6) (off := 38) (tgt := 44) dX8_may_6 (by rw [c6_4]; decide) (by rw [c6_4]; decide) (by rw [c6_4]; decide) (by decide) ?_
    refine ym_aload_n (pc := 44) 0 dX8_may_44 rfl rfl ?_
    refine ym_bipush (pc := 45) (v := 8) dX8_may_45 (by decide) ?_
    obtain ⟨o47, f47, hf⟩ := Option.bind_eq_some_iff.mp hf
    obtain ⟨q47, e47, hf⟩ := Option.bind_eq_some_iff.mp hf
    refine ym_callV (pc := 47) (G2 := g_X8_mark) (dep2 := 1) (As := [.int 8]) (st := []) (stk2 := []) (r2 := none) (h1 := q47.2) dX8_may_47 (ok_X8_mark e47) (sc_X8_may_X8_mark) wd_1140 wd_1142 wd_44 (ci := 8) (q0 := (RX8, TX8, 58)) rfl (by decide) rfl f47 rfl rfl (ym_st4 (Nat.le_of_ble_eq_true rfl)) rfl ?_
    refine ym_lload_n (pc := 50) 3 dX8_may_50 rfl rfl ?_
    refine ym_aload_n (pc := 51) 0 dX8_may_51 rfl rfl ?_
    obtain ⟨v52, e52, hf⟩ := Option.bind_eq_some_iff.mp hf
    refine ym_get (pc := 52) dX8_may_52 rfl (by decide) iX8 (k := 7) (by decide) wd_852 (ym_gR_v e52) ?_
    refine ym_iload_n (pc := 55) 2 dX8_may_55 rfl rfl ?_
    obtain ⟨v56, e56, hf⟩ := Option.bind_eq_some_iff.mp hf
    refine ym_lald (pc := 56) dX8_may_56 rfl (ym_ldL_v e56) ?_
    by_cases c57 : v56 ≤ a3
    · rw [if_pos c57] at hf
      refine ym_lcmp_ge_y (pc := 57) (tgt := 65) dX8_may_57 dX8_may_58 (by decide) c57 ?_
      refine ym_iconst (pc := 65) (v := 0) dX8_may_65 (by decide) ?_
      cases hf
      exact ym_zret (pc := 66) dX8_may_66 rfl rfl
    · rw [if_neg c57] at hf
      refine ym_lcmp_ge_n (pc := 57) (tgt := 65) dX8_may_57 dX8_may_58 (by decide) c57 ?_
      refine ym_iconst (pc := 61) (v := 1) dX8_may_61 (by decide) ?_
      refine ym_goto (pc := 62) (tgt := 66) dX8_may_62 (by decide) ?_
      cases hf
      exact ym_zret (pc := 66) dX8_may_66 rfl rfl
  rw [if_neg c6_4] at hf
  refine ym_swOut (pc := 6) (tgt := 75) dX8_may_6 (sw_X8_may_6 c6_1 c6_2 c6_3 c6_4) (by decide) ?_
  refine ym_aload_n (pc := 75) 0 dX8_may_75 rfl rfl ?_
  refine ym_bipush (pc := 76) (v := 10) dX8_may_76 (by decide) ?_
  obtain ⟨o78, f78, hf⟩ := Option.bind_eq_some_iff.mp hf
  obtain ⟨q78, e78, hf⟩ := Option.bind_eq_some_iff.mp hf
  refine ym_callV (pc := 78) (G2 := g_X8_mark) (dep2 := 1) (As := [.int 10]) (st := []) (stk2 := []) (r2 := none) (h1 := q78.2) dX8_may_78 (ok_X8_mark e78) (sc_X8_may_X8_mark) wd_1140 wd_1142 wd_44 (ci := 8) (q0 := (RX8, TX8, 58)) rfl (by decide) rfl f78 rfl rfl (ym_st4 (Nat.le_of_ble_eq_true rfl)) rfl ?_
  refine ym_aload_n (pc := 81) 0 dX8_may_81 rfl rfl ?_
  refine ym_bipush (pc := 82) (v := 9) dX8_may_82 (by decide) ?_
  obtain ⟨o84, f84, hf⟩ := Option.bind_eq_some_iff.mp hf
  obtain ⟨q84, e84, hf⟩ := Option.bind_eq_some_iff.mp hf
  refine ym_callV (pc := 84) (G2 := g_X8_mark) (dep2 := 1) (As := [.int 9]) (st := []) (stk2 := []) (r2 := none) (h1 := q84.2) dX8_may_84 (ok_X8_mark e84) (sc_X8_may_X8_mark) wd_1140 wd_1142 wd_44 (ci := 8) (q0 := (RX8, TX8, 58)) rfl (by decide) rfl f84 rfl rfl (ym_st4 (Nat.le_of_ble_eq_true rfl)) rfl ?_
  refine ym_aload_n (pc := 87) 0 dX8_may_87 rfl rfl ?_
  refine ym_iload_n (pc := 88) 1 dX8_may_88 rfl rfl ?_
  refine ym_iload_n (pc := 89) 2 dX8_may_89 rfl rfl ?_
  refine ym_lload_n (pc := 90) 3 dX8_may_90 rfl rfl ?_
  obtain ⟨o91, f91, hf⟩ := Option.bind_eq_some_iff.mp hf
  obtain ⟨q91, e91, hf⟩ := Option.bind_eq_some_iff.mp hf
  refine ym_callV (pc := 91) (G2 := g_X8_mayAgent) (dep2 := 3) (As := [.int a1, .int a2, .long a3]) (st := []) (stk2 := [.int q91.1]) (r2 := (some (.int q91.1))) (h1 := q91.2) dX8_may_91 (ok_X8_mayAgent e91) (sc_X8_may_X8_mayAgent) wd_1148 wd_1150 wd_46 (ci := 8) (q0 := (RX8, TX8, 58)) rfl (by decide) rfl f91 rfl rfl (ym_st4 (Nat.le_of_ble_eq_true rfl)) rfl ?_
  by_cases z94 : q91.1 = 0 ∨ q91.1 = 1
  · rw [if_pos z94] at hf
    cases hf
    exact ym_zret (pc := 94) dX8_may_94 rfl (ym_zn z94)
  · rw [if_neg z94] at hf
    cases hf
theorem dX8_number_0 : decode cX8_number 0 = .ok (.aload_n 0, 1) := by decide +kernel
theorem dX8_number_1 : decode cX8_number 1 = .ok (.getfield 200, 3) := by decide +kernel
theorem dX8_number_4 : decode cX8_number 4 = .ok (.ifCond .eq 8, 3) := by decide +kernel
theorem dX8_number_7 : decode cX8_number 7 = .ok (.aload_n 0, 1) := by decide +kernel
theorem dX8_number_8 : decode cX8_number 8 = .ok (.getfield 154, 3) := by decide +kernel
theorem dX8_number_11 : decode cX8_number 11 = .ok (.ireturn, 1) := by decide +kernel
theorem dX8_number_12 : decode cX8_number 12 = .ok (.aload_n 0, 1) := by decide +kernel
theorem dX8_number_13 : decode cX8_number 13 = .ok (.dup, 1) := by decide +kernel
theorem dX8_number_14 : decode cX8_number 14 = .ok (.getfield 204, 3) := by decide +kernel
theorem dX8_number_17 : decode cX8_number 17 = .ok (.iconst 1, 1) := by decide +kernel
theorem dX8_number_18 : decode cX8_number 18 = .ok (.iadd, 1) := by decide +kernel
theorem dX8_number_19 : decode cX8_number 19 = .ok (.putfield 204, 3) := by decide +kernel
theorem dX8_number_22 : decode cX8_number 22 = .ok (.aload_n 0, 1) := by decide +kernel
theorem dX8_number_23 : decode cX8_number 23 = .ok (.aload_n 0, 1) := by decide +kernel
theorem dX8_number_24 : decode cX8_number 24 = .ok (.getfield 204, 3) := by decide +kernel
theorem dX8_number_27 : decode cX8_number 27 = .ok (.putfield 154, 3) := by decide +kernel
theorem dX8_number_30 : decode cX8_number 30 = .ok (.aload_n 0, 1) := by decide +kernel
theorem dX8_number_31 : decode cX8_number 31 = .ok (.getfield 154, 3) := by decide +kernel
theorem dX8_number_34 : decode cX8_number 34 = .ok (.ireturn, 1) := by decide +kernel
def fn_X8_number (N : Nat) (a0 : Option Nat) (h : ym_H) : Option (Int32 × ym_H) :=
  Option.bind (ym_gI h a0 8 56) fun v1 =>
  if v1 = 0 then
    Option.bind (ym_gI h a0 8 51) fun v14 =>
    Option.bind (ym_pf h a0 8 51 (.int (v14 + 1))) fun h19 =>
    Option.bind (ym_gI h19 a0 8 51) fun v24 =>
    Option.bind (ym_pf h19 a0 8 57 (.int v24)) fun h27 =>
    Option.bind (ym_gI h27 a0 8 57) fun v31 =>
    some (v31, h27)
  else
    Option.bind (ym_gI h a0 8 57) fun v8 =>
    some (v8, h)
set_option maxRecDepth 20000 in
set_option maxHeartbeats 4000000 in
theorem ok_X8_number {D : ym_D} {b0 : Nat} {N : Nat} {a0 : Option Nat} {h h' : ym_H} {r : Int32} (hf : fn_X8_number N a0 h = some (r, h')) : ym_M D b0 g_X8_number 1 [va_rf a0] h (some (.int r)) h' := by
  unfold fn_X8_number at hf
  refine ym_meth (lv := [(0, va_rf a0)]) (by decide) (by simp [lg_sl, ym_c1, ym_cI, ym_cL, g_X8_number]) (by simp [lv_args, ym_c1, ym_cI, ym_cL]) ?_
  refine ym_aload_n (pc := 0) 0 dX8_number_0 rfl rfl ?_
  obtain ⟨v1, e1, hf⟩ := Option.bind_eq_some_iff.mp hf
  refine ym_get (pc := 1) dX8_number_1 rfl (by decide) iX8 (k := 56) (by decide) wd_901 (ym_gI_v e1) ?_
  by_cases c4 : v1 = 0
  · rw [if_pos c4] at hf
    refine ym_if_eq_y (pc := 4) (tgt := 12) dX8_number_4 (by decide) c4 ?_
    refine ym_aload_n (pc := 12) 0 dX8_number_12 rfl rfl ?_
    refine ym_dup (pc := 13) dX8_number_13 (ym_c1 a0) ?_
    obtain ⟨v14, e14, hf⟩ := Option.bind_eq_some_iff.mp hf
    refine ym_get (pc := 14) dX8_number_14 rfl (by decide) iX8 (k := 51) (by decide) wd_896 (ym_gI_v e14) ?_
    refine ym_iconst (pc := 17) (v := 1) dX8_number_17 (by decide) ?_
    refine ym_iadd (pc := 18) dX8_number_18 ?_
    obtain ⟨h19, e19, hf⟩ := Option.bind_eq_some_iff.mp hf
    refine ym_put (pc := 19) (h1 := h19) dX8_number_19 rfl (by decide) iX8 tyX8 tyX8_ok nmX8 (k := 51) (by decide) wd_896 rfl (tyX8_ok 51 (by decide)) rfl rfl e19 ?_
    refine ym_aload_n (pc := 22) 0 dX8_number_22 rfl rfl ?_
    refine ym_aload_n (pc := 23) 0 dX8_number_23 rfl rfl ?_
    obtain ⟨v24, e24, hf⟩ := Option.bind_eq_some_iff.mp hf
    refine ym_get (pc := 24) dX8_number_24 rfl (by decide) iX8 (k := 51) (by decide) wd_896 (ym_gI_v e24) ?_
    obtain ⟨h27, e27, hf⟩ := Option.bind_eq_some_iff.mp hf
    refine ym_put (pc := 27) (h1 := h27) dX8_number_27 rfl (by decide) iX8 tyX8 tyX8_ok nmX8 (k := 57) (by decide) wd_902 rfl (tyX8_ok 57 (by decide)) rfl rfl e27 ?_
    refine ym_aload_n (pc := 30) 0 dX8_number_30 rfl rfl ?_
    obtain ⟨v31, e31, hf⟩ := Option.bind_eq_some_iff.mp hf
    refine ym_get (pc := 31) dX8_number_31 rfl (by decide) iX8 (k := 57) (by decide) wd_902 (ym_gI_v e31) ?_
    cases hf
    exact ym_iret (pc := 34) dX8_number_34 rfl
  · rw [if_neg c4] at hf
    refine ym_if_eq_n (pc := 4) (tgt := 12) dX8_number_4 (by decide) c4 ?_
    refine ym_aload_n (pc := 7) 0 dX8_number_7 rfl rfl ?_
    obtain ⟨v8, e8, hf⟩ := Option.bind_eq_some_iff.mp hf
    refine ym_get (pc := 8) dX8_number_8 rfl (by decide) iX8 (k := 57) (by decide) wd_902 (ym_gI_v e8) ?_
    cases hf
    exact ym_iret (pc := 11) dX8_number_11 rfl
theorem dX8_bidden_0 : decode cX8_bidden 0 = .ok (.lload_n 3, 1) := by decide +kernel
theorem dX8_bidden_1 : decode cX8_bidden 1 = .ok (.invokestatic 335, 3) := by decide +kernel
theorem dX8_bidden_4 : decode cX8_bidden 4 = .ok (.ifCond .ne 7, 3) := by decide +kernel
theorem dX8_bidden_7 : decode cX8_bidden 7 = .ok (.ldc2_w 331, 3) := by decide +kernel
theorem dX8_bidden_10 : decode cX8_bidden 10 = .ok (.lreturn, 1) := by decide +kernel
theorem dX8_bidden_11 : decode cX8_bidden 11 = .ok (.aload_n 0, 1) := by decide +kernel
theorem dX8_bidden_12 : decode cX8_bidden 12 = .ok (.iload_n 1, 1) := by decide +kernel
theorem dX8_bidden_13 : decode cX8_bidden 13 = .ok (.invokevirtual 294, 3) := by decide +kernel
theorem dX8_bidden_16 : decode cX8_bidden 16 = .ok (.ifCond .le 11, 3) := by decide +kernel
theorem dX8_bidden_19 : decode cX8_bidden 19 = .ok (.aload_n 0, 1) := by decide +kernel
theorem dX8_bidden_20 : decode cX8_bidden 20 = .ok (.iload_n 1, 1) := by decide +kernel
theorem dX8_bidden_21 : decode cX8_bidden 21 = .ok (.invokevirtual 294, 3) := by decide +kernel
theorem dX8_bidden_24 : decode cX8_bidden 24 = .ok (.ineg, 1) := by decide +kernel
theorem dX8_bidden_25 : decode cX8_bidden 25 = .ok (.i2l, 1) := by decide +kernel
theorem dX8_bidden_26 : decode cX8_bidden 26 = .ok (.lreturn, 1) := by decide +kernel
theorem dX8_bidden_27 : decode cX8_bidden 27 = .ok (.aload_n 0, 1) := by decide +kernel
theorem dX8_bidden_28 : decode cX8_bidden 28 = .ok (.getfield 20, 3) := by decide +kernel
theorem dX8_bidden_31 : decode cX8_bidden 31 = .ok (.iload_n 1, 1) := by decide +kernel
theorem dX8_bidden_32 : decode cX8_bidden 32 = .ok (.iaload, 1) := by decide +kernel
theorem dX8_bidden_33 : decode cX8_bidden 33 = .ok (.iconst 5, 1) := by decide +kernel
theorem dX8_bidden_34 : decode cX8_bidden 34 = .ok (.if_icmp .ne 7, 3) := by decide +kernel
theorem dX8_bidden_37 : decode cX8_bidden 37 = .ok (.ldc2_w 359, 3) := by decide +kernel
theorem dX8_bidden_40 : decode cX8_bidden 40 = .ok (.lreturn, 1) := by decide +kernel
theorem dX8_bidden_41 : decode cX8_bidden 41 = .ok (.aload_n 0, 1) := by decide +kernel
theorem dX8_bidden_42 : decode cX8_bidden 42 = .ok (.iload_n 2, 1) := by decide +kernel
theorem dX8_bidden_43 : decode cX8_bidden 43 = .ok (.invokevirtual 343, 3) := by decide +kernel
theorem dX8_bidden_46 : decode cX8_bidden 46 = .ok (.ifCond .le 11, 3) := by decide +kernel
theorem dX8_bidden_49 : decode cX8_bidden 49 = .ok (.aload_n 0, 1) := by decide +kernel
theorem dX8_bidden_50 : decode cX8_bidden 50 = .ok (.iload_n 2, 1) := by decide +kernel
theorem dX8_bidden_51 : decode cX8_bidden 51 = .ok (.invokevirtual 343, 3) := by decide +kernel
theorem dX8_bidden_54 : decode cX8_bidden 54 = .ok (.ineg, 1) := by decide +kernel
theorem dX8_bidden_55 : decode cX8_bidden 55 = .ok (.i2l, 1) := by decide +kernel
theorem dX8_bidden_56 : decode cX8_bidden 56 = .ok (.lreturn, 1) := by decide +kernel
theorem dX8_bidden_57 : decode cX8_bidden 57 = .ok (.aload_n 0, 1) := by decide +kernel
theorem dX8_bidden_58 : decode cX8_bidden 58 = .ok (.getfield 9, 3) := by decide +kernel
theorem dX8_bidden_61 : decode cX8_bidden 61 = .ok (.iload_n 2, 1) := by decide +kernel
theorem dX8_bidden_62 : decode cX8_bidden 62 = .ok (.iaload, 1) := by decide +kernel
theorem dX8_bidden_63 : decode cX8_bidden 63 = .ok (.iconst 2, 1) := by decide +kernel
theorem dX8_bidden_64 : decode cX8_bidden 64 = .ok (.if_icmp .eq 13, 3) := by decide +kernel
theorem dX8_bidden_67 : decode cX8_bidden 67 = .ok (.aload_n 0, 1) := by decide +kernel
theorem dX8_bidden_68 : decode cX8_bidden 68 = .ok (.getfield 9, 3) := by decide +kernel
theorem dX8_bidden_71 : decode cX8_bidden 71 = .ok (.iload_n 2, 1) := by decide +kernel
theorem dX8_bidden_72 : decode cX8_bidden 72 = .ok (.iaload, 1) := by decide +kernel
theorem dX8_bidden_73 : decode cX8_bidden 73 = .ok (.iconst 3, 1) := by decide +kernel
theorem dX8_bidden_74 : decode cX8_bidden 74 = .ok (.if_icmp .ne 7, 3) := by decide +kernel
theorem dX8_bidden_77 : decode cX8_bidden 77 = .ok (.ldc2_w 359, 3) := by decide +kernel
theorem dX8_bidden_80 : decode cX8_bidden 80 = .ok (.lreturn, 1) := by decide +kernel
theorem dX8_bidden_81 : decode cX8_bidden 81 = .ok (.aload_n 0, 1) := by decide +kernel
theorem dX8_bidden_82 : decode cX8_bidden 82 = .ok (.iload_n 1, 1) := by decide +kernel
theorem dX8_bidden_83 : decode cX8_bidden 83 = .ok (.invokevirtual 361, 3) := by decide +kernel
theorem dX8_bidden_86 : decode cX8_bidden 86 = .ok (.ifCond .le 11, 3) := by decide +kernel
theorem dX8_bidden_89 : decode cX8_bidden 89 = .ok (.aload_n 0, 1) := by decide +kernel
theorem dX8_bidden_90 : decode cX8_bidden 90 = .ok (.iload_n 1, 1) := by decide +kernel
theorem dX8_bidden_91 : decode cX8_bidden 91 = .ok (.invokevirtual 361, 3) := by decide +kernel
theorem dX8_bidden_94 : decode cX8_bidden 94 = .ok (.ineg, 1) := by decide +kernel
theorem dX8_bidden_95 : decode cX8_bidden 95 = .ok (.i2l, 1) := by decide +kernel
theorem dX8_bidden_96 : decode cX8_bidden 96 = .ok (.lreturn, 1) := by decide +kernel
theorem dX8_bidden_97 : decode cX8_bidden 97 = .ok (.aload_n 0, 1) := by decide +kernel
theorem dX8_bidden_98 : decode cX8_bidden 98 = .ok (.getfield 20, 3) := by decide +kernel
theorem dX8_bidden_101 : decode cX8_bidden 101 = .ok (.iload_n 1, 1) := by decide +kernel
theorem dX8_bidden_102 : decode cX8_bidden 102 = .ok (.iaload, 1) := by decide +kernel
theorem dX8_bidden_103 : decode cX8_bidden 103 = .ok (.iconst 4, 1) := by decide +kernel
theorem dX8_bidden_104 : decode cX8_bidden 104 = .ok (.if_icmp .ne 16, 3) := by decide +kernel
theorem dX8_bidden_107 : decode cX8_bidden 107 = .ok (.aload_n 0, 1) := by decide +kernel
theorem dX8_bidden_108 : decode cX8_bidden 108 = .ok (.getfield 77, 3) := by decide +kernel
theorem dX8_bidden_111 : decode cX8_bidden 111 = .ok (.iload_n 1, 1) := by decide +kernel
theorem dX8_bidden_112 : decode cX8_bidden 112 = .ok (.baload, 1) := by decide +kernel
theorem dX8_bidden_113 : decode cX8_bidden 113 = .ok (.ifCond .eq 7, 3) := by decide +kernel
theorem dX8_bidden_116 : decode cX8_bidden 116 = .ok (.ldc2_w 348, 3) := by decide +kernel
theorem dX8_bidden_119 : decode cX8_bidden 119 = .ok (.lreturn, 1) := by decide +kernel
theorem dX8_bidden_120 : decode cX8_bidden 120 = .ok (.aload_n 0, 1) := by decide +kernel
theorem dX8_bidden_121 : decode cX8_bidden 121 = .ok (.getfield 20, 3) := by decide +kernel
theorem dX8_bidden_124 : decode cX8_bidden 124 = .ok (.iload_n 1, 1) := by decide +kernel
theorem dX8_bidden_125 : decode cX8_bidden 125 = .ok (.iaload, 1) := by decide +kernel
theorem dX8_bidden_126 : decode cX8_bidden 126 = .ok (.iconst 4, 1) := by decide +kernel
theorem dX8_bidden_127 : decode cX8_bidden 127 = .ok (.if_icmp .ne 15, 3) := by decide +kernel
theorem dX8_bidden_130 : decode cX8_bidden 130 = .ok (.aload_n 0, 1) := by decide +kernel
theorem dX8_bidden_131 : decode cX8_bidden 131 = .ok (.iload_n 1, 1) := by decide +kernel
theorem dX8_bidden_132 : decode cX8_bidden 132 = .ok (.iload_n 2, 1) := by decide +kernel
theorem dX8_bidden_133 : decode cX8_bidden 133 = .ok (.invokevirtual 364, 3) := by decide +kernel
theorem dX8_bidden_136 : decode cX8_bidden 136 = .ok (.ifCond .eq 19, 3) := by decide +kernel
theorem dX8_bidden_139 : decode cX8_bidden 139 = .ok (.goto 12, 3) := by decide +kernel
theorem dX8_bidden_142 : decode cX8_bidden 142 = .ok (.aload_n 0, 1) := by decide +kernel
theorem dX8_bidden_143 : decode cX8_bidden 143 = .ok (.iload_n 1, 1) := by decide +kernel
theorem dX8_bidden_144 : decode cX8_bidden 144 = .ok (.invokevirtual 298, 3) := by decide +kernel
theorem dX8_bidden_147 : decode cX8_bidden 147 = .ok (.iload_n 2, 1) := by decide +kernel
theorem dX8_bidden_148 : decode cX8_bidden 148 = .ok (.if_icmp .ne 7, 3) := by decide +kernel
theorem dX8_bidden_151 : decode cX8_bidden 151 = .ok (.ldc2_w 368, 3) := by decide +kernel
theorem dX8_bidden_154 : decode cX8_bidden 154 = .ok (.lreturn, 1) := by decide +kernel
theorem dX8_bidden_155 : decode cX8_bidden 155 = .ok (.lload_n 3, 1) := by decide +kernel
theorem dX8_bidden_156 : decode cX8_bidden 156 = .ok (.aload_n 0, 1) := by decide +kernel
theorem dX8_bidden_157 : decode cX8_bidden 157 = .ok (.iload_n 1, 1) := by decide +kernel
theorem dX8_bidden_158 : decode cX8_bidden 158 = .ok (.invokevirtual 370, 3) := by decide +kernel
theorem dX8_bidden_161 : decode cX8_bidden 161 = .ok (.lcmp, 1) := by decide +kernel
theorem dX8_bidden_162 : decode cX8_bidden 162 = .ok (.ifCond .ge 7, 3) := by decide +kernel
theorem dX8_bidden_165 : decode cX8_bidden 165 = .ok (.ldc2_w 354, 3) := by decide +kernel
theorem dX8_bidden_168 : decode cX8_bidden 168 = .ok (.lreturn, 1) := by decide +kernel
theorem dX8_bidden_169 : decode cX8_bidden 169 = .ok (.aload_n 0, 1) := by decide +kernel
theorem dX8_bidden_170 : decode cX8_bidden 170 = .ok (.iload_n 2, 1) := by decide +kernel
theorem dX8_bidden_171 : decode cX8_bidden 171 = .ok (.iload_n 1, 1) := by decide +kernel
theorem dX8_bidden_172 : decode cX8_bidden 172 = .ok (.lload_n 3, 1) := by decide +kernel
theorem dX8_bidden_173 : decode cX8_bidden 173 = .ok (.invokevirtual 373, 3) := by decide +kernel
theorem dX8_bidden_176 : decode cX8_bidden 176 = .ok (.ifCond .ne 7, 3) := by decide +kernel
theorem dX8_bidden_179 : decode cX8_bidden 179 = .ok (.ldc2_w 376, 3) := by decide +kernel
theorem dX8_bidden_182 : decode cX8_bidden 182 = .ok (.lreturn, 1) := by decide +kernel
theorem dX8_bidden_183 : decode cX8_bidden 183 = .ok (.aload_n 0, 1) := by decide +kernel
theorem dX8_bidden_184 : decode cX8_bidden 184 = .ok (.getfield 44, 3) := by decide +kernel
theorem dX8_bidden_187 : decode cX8_bidden 187 = .ok (.iload_n 1, 1) := by decide +kernel
theorem dX8_bidden_188 : decode cX8_bidden 188 = .ok (.iaload, 1) := by decide +kernel
theorem dX8_bidden_189 : decode cX8_bidden 189 = .ok (.sipush 299, 3) := by decide +kernel
theorem dX8_bidden_192 : decode cX8_bidden 192 = .ok (.if_icmp .lt 7, 3) := by decide +kernel
theorem dX8_bidden_195 : decode cX8_bidden 195 = .ok (.ldc2_w 333, 3) := by decide +kernel
theorem dX8_bidden_198 : decode cX8_bidden 198 = .ok (.lreturn, 1) := by decide +kernel
theorem dX8_bidden_199 : decode cX8_bidden 199 = .ok (.aload_n 0, 1) := by decide +kernel
theorem dX8_bidden_200 : decode cX8_bidden 200 = .ok (.invokevirtual 378, 3) := by decide +kernel
theorem dX8_bidden_203 : decode cX8_bidden 203 = .ok (.istore 5, 2) := by decide +kernel
theorem dX8_bidden_205 : decode cX8_bidden 205 = .ok (.aload_n 0, 1) := by decide +kernel
theorem dX8_bidden_206 : decode cX8_bidden 206 = .ok (.iload_n 1, 1) := by decide +kernel
theorem dX8_bidden_207 : decode cX8_bidden 207 = .ok (.iload_n 2, 1) := by decide +kernel
theorem dX8_bidden_208 : decode cX8_bidden 208 = .ok (.lload_n 3, 1) := by decide +kernel
theorem dX8_bidden_209 : decode cX8_bidden 209 = .ok (.invokevirtual 382, 3) := by decide +kernel
theorem dX8_bidden_212 : decode cX8_bidden 212 = .ok (.aload_n 0, 1) := by decide +kernel
theorem dX8_bidden_213 : decode cX8_bidden 213 = .ok (.getfield 71, 3) := by decide +kernel
theorem dX8_bidden_216 : decode cX8_bidden 216 = .ok (.iload_n 1, 1) := by decide +kernel
theorem dX8_bidden_217 : decode cX8_bidden 217 = .ok (.iload 5, 2) := by decide +kernel
theorem dX8_bidden_219 : decode cX8_bidden 219 = .ok (.iastore, 1) := by decide +kernel
theorem dX8_bidden_220 : decode cX8_bidden 220 = .ok (.aload_n 0, 1) := by decide +kernel
theorem dX8_bidden_221 : decode cX8_bidden 221 = .ok (.getfield 74, 3) := by decide +kernel
theorem dX8_bidden_224 : decode cX8_bidden 224 = .ok (.iload_n 1, 1) := by decide +kernel
theorem dX8_bidden_225 : decode cX8_bidden 225 = .ok (.lload_n 3, 1) := by decide +kernel
theorem dX8_bidden_226 : decode cX8_bidden 226 = .ok (.lastore, 1) := by decide +kernel
theorem dX8_bidden_227 : decode cX8_bidden 227 = .ok (.aload_n 0, 1) := by decide +kernel
theorem dX8_bidden_228 : decode cX8_bidden 228 = .ok (.iload_n 1, 1) := by decide +kernel
theorem dX8_bidden_229 : decode cX8_bidden 229 = .ok (.invokevirtual 356, 3) := by decide +kernel
theorem dX8_bidden_232 : decode cX8_bidden 232 = .ok (.iload 5, 2) := by decide +kernel
theorem dX8_bidden_234 : decode cX8_bidden 234 = .ok (.i2l, 1) := by decide +kernel
theorem dX8_bidden_235 : decode cX8_bidden 235 = .ok (.lreturn, 1) := by decide +kernel
theorem sc_X8_bidden_X8_isSum : ym_site g_X8_bidden g_X8_isSum 5 1 1 := ⟨by decide, by decide, wd_1046, wd_83, by decide +kernel⟩
theorem sc_X8_bidden_X8_noLot : ym_site g_X8_bidden g_X8_noLot 5 1 1 := ⟨by decide, by decide, wd_1058, wd_83, by decide +kernel⟩
theorem sc_X8_bidden_X8_noBidder : ym_site g_X8_bidden g_X8_noBidder 5 1 1 := ⟨by decide, by decide, wd_1062, wd_83, by decide +kernel⟩
theorem sc_X8_bidden_X8_notOpen : ym_site g_X8_bidden g_X8_notOpen 5 1 1 := ⟨by decide, by decide, wd_1130, wd_83, by decide +kernel⟩
theorem sc_X8_bidden_X8_hasEntry : ym_site g_X8_bidden g_X8_hasEntry 5 1 2 := ⟨by decide, by decide, wd_1134, wd_83, by decide +kernel⟩
theorem sc_X8_bidden_X8_askOf : ym_site g_X8_bidden g_X8_askOf 5 3 1 := ⟨by decide, by decide, wd_1139, wd_83, by decide +kernel⟩
theorem sc_X8_bidden_X8_may : ym_site g_X8_bidden g_X8_may 5 4 3 := ⟨by decide, by decide, wd_1147, wd_83, by decide +kernel⟩
theorem sc_X8_bidden_X8_number : ym_site g_X8_bidden g_X8_number 5 1 0 := ⟨by decide, by decide, wd_1166, wd_83, by decide +kernel⟩
theorem sc_X8_bidden_X8_enter : ym_site g_X8_bidden g_X8_enter 5 2 3 := ⟨by decide, by decide, wd_1115, wd_83, by decide +kernel⟩
theorem sc_X8_bidden_X8_askPapers : ym_site g_X8_bidden g_X8_askPapers 5 3 1 := ⟨by decide, by decide, wd_1092, wd_83, by decide +kernel⟩
def bl_X8_bidden_155 (N : Nat) (w0 : Option Nat) (w1 : Int32) (w2 : Int32) (w3 : Int64) (h : ym_H) : Option (Int64 × ym_H) :=
  Option.bind (ym_ob h w0 8) fun o158 =>
  Option.bind (fn_X8_askOf N w0 w1 h) fun q158 =>
  if q158.1 ≤ w3 then
    Option.bind (ym_ob q158.2 w0 8) fun o173 =>
    Option.bind (fn_X8_may N w0 w2 w1 w3 q158.2) fun q173 =>
    if q173.1 = 0 then
      some ((-11), q173.2)
    else
      Option.bind (ym_gR q173.2 w0 8 13) fun v184 =>
      Option.bind (ym_ldI q173.2 v184 w1) fun v188 =>
      if v188 < 299 then
        Option.bind (ym_ob q173.2 w0 8) fun o200 =>
        Option.bind (fn_X8_number N w0 q173.2) fun q200 =>
        Option.bind (ym_ob q200.2 w0 8) fun o209 =>
        Option.bind (fn_X8_enter N w0 w1 w2 w3 q200.2) fun q209 =>
        Option.bind (ym_gR q209.2 w0 8 23) fun v213 =>
        Option.bind (ym_as q209.2 v213 0 w1 (.int q200.1)) fun h219 =>
        Option.bind (ym_gR h219 w0 8 24) fun v221 =>
        Option.bind (ym_as h219 v221 1 w1 (.long w3)) fun h226 =>
        Option.bind (ym_ob h226 w0 8) fun o229 =>
        Option.bind (fn_X8_askPapers N w0 w1 h226) fun q229 =>
        some ((Int32.toInt64 q200.1), q229.2)
      else
        some ((-12), q173.2)
  else
    some ((-10), q158.2)
set_option maxRecDepth 20000 in
set_option maxHeartbeats 4000000 in
theorem ob_X8_bidden_155 {D : ym_D} {b0 : Nat} {N : Nat} {w0 : Option Nat} {w1 : Int32} {w2 : Int32} {w3 : Int64} {h h' : ym_H} {r : Int64} (hf : bl_X8_bidden_155 N w0 w1 w2 w3 h = some (r, h')) : ym_Y D b0 g_X8_bidden 5 155 [(0, va_rf w0), (1, .int w1), (2, .int w2), (3, .long w3)] [] h (some (.long r)) h' := by
  unfold bl_X8_bidden_155 at hf
  refine ym_lload_n (pc := 155) 3 dX8_bidden_155 rfl rfl ?_
  refine ym_aload_n (pc := 156) 0 dX8_bidden_156 rfl rfl ?_
  refine ym_iload_n (pc := 157) 1 dX8_bidden_157 rfl rfl ?_
  obtain ⟨o158, f158, hf⟩ := Option.bind_eq_some_iff.mp hf
  obtain ⟨q158, e158, hf⟩ := Option.bind_eq_some_iff.mp hf
  refine ym_callV (pc := 158) (G2 := g_X8_askOf) (dep2 := 3) (As := [.int w1]) (st := [.long w3]) (stk2 := [.long q158.1, .long w3]) (r2 := (some (.long q158.1))) (h1 := q158.2) dX8_bidden_158 (ok_X8_askOf e158) (sc_X8_bidden_X8_askOf) wd_1136 wd_1138 wd_43 (ci := 8) (q0 := (RX8, TX8, 58)) rfl (by decide) rfl f158 rfl rfl (ym_st4 (Nat.le_of_ble_eq_true rfl)) rfl ?_
  by_cases c161 : q158.1 ≤ w3
  · rw [if_pos c161] at hf
    refine ym_lcmp_ge_y (pc := 161) (tgt := 169) dX8_bidden_161 dX8_bidden_162 (by decide) c161 ?_
    refine ym_aload_n (pc := 169) 0 dX8_bidden_169 rfl rfl ?_
    refine ym_iload_n (pc := 170) 2 dX8_bidden_170 rfl rfl ?_
    refine ym_iload_n (pc := 171) 1 dX8_bidden_171 rfl rfl ?_
    refine ym_lload_n (pc := 172) 3 dX8_bidden_172 rfl rfl ?_
    obtain ⟨o173, f173, hf⟩ := Option.bind_eq_some_iff.mp hf
    obtain ⟨q173, e173, hf⟩ := Option.bind_eq_some_iff.mp hf
    refine ym_callV (pc := 173) (G2 := g_X8_may) (dep2 := 4) (As := [.int w2, .int w1, .long w3]) (st := []) (stk2 := [.int q173.1]) (r2 := (some (.int q173.1))) (h1 := q173.2) dX8_bidden_173 (ok_X8_may e173) (sc_X8_bidden_X8_may) wd_1144 wd_1146 wd_45 (ci := 8) (q0 := (RX8, TX8, 58)) rfl (by decide) rfl f173 rfl rfl (ym_st4 (Nat.le_of_ble_eq_true rfl)) rfl ?_
    by_cases c176 : q173.1 = 0
    · rw [if_pos c176] at hf
      refine ym_if_ne_y (pc := 176) (tgt := 183) dX8_bidden_176 (by decide) c176 ?_
      refine ym_ldc2 (pc := 179) dX8_bidden_179 wd_1162 ?_
      cases hf
      exact ym_lret (pc := 182) dX8_bidden_182 rfl
    · rw [if_neg c176] at hf
      refine ym_if_ne_n (pc := 176) (tgt := 183) dX8_bidden_176 (by decide) c176 ?_
      refine ym_aload_n (pc := 183) 0 dX8_bidden_183 rfl rfl ?_
      obtain ⟨v184, e184, hf⟩ := Option.bind_eq_some_iff.mp hf
      refine ym_get (pc := 184) dX8_bidden_184 rfl (by decide) iX8 (k := 13) (by decide) wd_858 (ym_gR_v e184) ?_
      refine ym_iload_n (pc := 187) 1 dX8_bidden_187 rfl rfl ?_
      obtain ⟨v188, e188, hf⟩ := Option.bind_eq_some_iff.mp hf
      refine ym_iald (pc := 188) dX8_bidden_188 rfl (ym_ldI_v e188) ?_
      refine ym_sipush (pc := 189) (v := 299) dX8_bidden_189 (by decide) ?_
      by_cases c192 : v188 < 299
      · rw [if_pos c192] at hf
        refine ym_icmp_lt_y (pc := 192) (tgt := 199) dX8_bidden_192 (by decide) c192 ?_
        refine ym_aload_n (pc := 199) 0 dX8_bidden_199 rfl rfl ?_
        obtain ⟨o200, f200, hf⟩ := Option.bind_eq_some_iff.mp hf
        obtain ⟨q200, e200, hf⟩ := Option.bind_eq_some_iff.mp hf
        refine ym_callV (pc := 200) (G2 := g_X8_number) (dep2 := 1) (As := []) (st := []) (stk2 := [.int q200.1]) (r2 := (some (.int q200.1))) (h1 := q200.2) dX8_bidden_200 (ok_X8_number e200) (sc_X8_bidden_X8_number) wd_1163 wd_1165 wd_49 (ci := 8) (q0 := (RX8, TX8, 58)) rfl (by decide) rfl f200 rfl rfl (ym_st4 (Nat.le_of_ble_eq_true rfl)) rfl ?_
        refine ym_istore (pc := 203) (lv' := [(5, .int q200.1), (0, va_rf w0), (1, .int w1), (2, .int w2), (3, .long w3)]) dX8_bidden_203 (by decide) ⟨trivial, trivial, trivial, trivial, trivial⟩ rfl ?_
        refine ym_aload_n (pc := 205) 1 dX8_bidden_205 rfl rfl ?_
        refine ym_iload_n (pc := 206) 2 dX8_bidden_206 rfl rfl ?_
        refine ym_iload_n (pc := 207) 3 dX8_bidden_207 rfl rfl ?_
        refine ym_lload_n (pc := 208) 4 dX8_bidden_208 rfl rfl ?_
        obtain ⟨o209, f209, hf⟩ := Option.bind_eq_some_iff.mp hf
        obtain ⟨q209, e209, hf⟩ := Option.bind_eq_some_iff.mp hf
        refine ym_callV (pc := 209) (G2 := g_X8_enter) (dep2 := 2) (As := [.int w1, .int w2, .long w3]) (st := []) (stk2 := []) (r2 := none) (h1 := q209.2) dX8_bidden_209 (ok_X8_enter e209) (sc_X8_bidden_X8_enter) wd_1112 wd_1114 wd_39 (ci := 8) (q0 := (RX8, TX8, 58)) rfl (by decide) rfl f209 rfl rfl (ym_st4 (Nat.le_of_ble_eq_true rfl)) rfl ?_
        refine ym_aload_n (pc := 212) 1 dX8_bidden_212 rfl rfl ?_
        obtain ⟨v213, e213, hf⟩ := Option.bind_eq_some_iff.mp hf
        refine ym_get (pc := 213) dX8_bidden_213 rfl (by decide) iX8 (k := 23) (by decide) wd_868 (ym_gR_v e213) ?_
        refine ym_iload_n (pc := 216) 2 dX8_bidden_216 rfl rfl ?_
        refine ym_iload (pc := 217) 0 dX8_bidden_217 rfl ?_
        obtain ⟨h219, e219, hf⟩ := Option.bind_eq_some_iff.mp hf
        refine ym_iast (pc := 219) dX8_bidden_219 rfl e219 ?_
        refine ym_aload_n (pc := 220) 1 dX8_bidden_220 rfl rfl ?_
        obtain ⟨v221, e221, hf⟩ := Option.bind_eq_some_iff.mp hf
        refine ym_get (pc := 221) dX8_bidden_221 rfl (by decide) iX8 (k := 24) (by decide) wd_869 (ym_gR_v e221) ?_
        refine ym_iload_n (pc := 224) 2 dX8_bidden_224 rfl rfl ?_
        refine ym_lload_n (pc := 225) 4 dX8_bidden_225 rfl rfl ?_
        obtain ⟨h226, e226, hf⟩ := Option.bind_eq_some_iff.mp hf
        refine ym_last (pc := 226) dX8_bidden_226 rfl e226 ?_
        refine ym_aload_n (pc := 227) 1 dX8_bidden_227 rfl rfl ?_
        refine ym_iload_n (pc := 228) 2 dX8_bidden_228 rfl rfl ?_
        obtain ⟨o229, f229, hf⟩ := Option.bind_eq_some_iff.mp hf
        obtain ⟨q229, e229, hf⟩ := Option.bind_eq_some_iff.mp hf
        refine ym_callV (pc := 229) (G2 := g_X8_askPapers) (dep2 := 3) (As := [.int w1]) (st := []) (stk2 := []) (r2 := none) (h1 := q229.2) dX8_bidden_229 (ok_X8_askPapers e229) (sc_X8_bidden_X8_askPapers) wd_1089 wd_1091 wd_34 (ci := 8) (q0 := (RX8, TX8, 58)) rfl (by decide) rfl f229 rfl rfl (ym_st4 (Nat.le_of_ble_eq_true rfl)) rfl ?_
        refine ym_iload (pc := 232) 0 dX8_bidden_232 rfl ?_
        refine ym_i2l (pc := 234) dX8_bidden_234 ?_
        cases hf
        exact ym_lret (pc := 235) dX8_bidden_235 rfl
      · rw [if_neg c192] at hf
        refine ym_icmp_lt_n (pc := 192) (tgt := 199) dX8_bidden_192 (by decide) c192 ?_
        refine ym_ldc2 (pc := 195) dX8_bidden_195 wd_1039 ?_
        cases hf
        exact ym_lret (pc := 198) dX8_bidden_198 rfl
  · rw [if_neg c161] at hf
    refine ym_lcmp_ge_n (pc := 161) (tgt := 169) dX8_bidden_161 dX8_bidden_162 (by decide) c161 ?_
    refine ym_ldc2 (pc := 165) dX8_bidden_165 wd_1076 ?_
    cases hf
    exact ym_lret (pc := 168) dX8_bidden_168 rfl
theorem sc_X8_bidden_X8_standing : ym_site g_X8_bidden g_X8_standing 5 1 1 := ⟨by decide, by decide, wd_1107, wd_83, by decide +kernel⟩
def bl_X8_bidden_120 (N : Nat) (w0 : Option Nat) (w1 : Int32) (w2 : Int32) (w3 : Int64) (h : ym_H) : Option (Int64 × ym_H) :=
  Option.bind (ym_gR h w0 8 5) fun v121 =>
  Option.bind (ym_ldI h v121 w1) fun v125 =>
  if v125 = 4 then
    Option.bind (ym_ob h w0 8) fun o133 =>
    Option.bind (fn_X8_hasEntry N w0 w1 w2 h) fun q133 =>
    if q133.1 = 0 then
      bl_X8_bidden_155 N w0 w1 w2 w3 q133.2
    else
      some ((-13), q133.2)
  else
    Option.bind (ym_ob h w0 8) fun o144 =>
    Option.bind (fn_X8_standing N w0 w1 h) fun q144 =>
    if q144.1 = w2 then
      some ((-13), q144.2)
    else
      bl_X8_bidden_155 N w0 w1 w2 w3 q144.2
set_option maxRecDepth 20000 in
set_option maxHeartbeats 4000000 in
theorem ob_X8_bidden_120 {D : ym_D} {b0 : Nat} {N : Nat} {w0 : Option Nat} {w1 : Int32} {w2 : Int32} {w3 : Int64} {h h' : ym_H} {r : Int64} (hf : bl_X8_bidden_120 N w0 w1 w2 w3 h = some (r, h')) : ym_Y D b0 g_X8_bidden 5 120 [(0, va_rf w0), (1, .int w1), (2, .int w2), (3, .long w3)] [] h (some (.long r)) h' := by
  unfold bl_X8_bidden_120 at hf
  refine ym_aload_n (pc := 120) 0 dX8_bidden_120 rfl rfl ?_
  obtain ⟨v121, e121, hf⟩ := Option.bind_eq_some_iff.mp hf
  refine ym_get (pc := 121) dX8_bidden_121 rfl (by decide) iX8 (k := 5) (by decide) wd_850 (ym_gR_v e121) ?_
  refine ym_iload_n (pc := 124) 1 dX8_bidden_124 rfl rfl ?_
  obtain ⟨v125, e125, hf⟩ := Option.bind_eq_some_iff.mp hf
  refine ym_iald (pc := 125) dX8_bidden_125 rfl (ym_ldI_v e125) ?_
  refine ym_iconst (pc := 126) (v := 4) dX8_bidden_126 (by decide) ?_
  by_cases c127 : v125 = 4
  · rw [if_pos c127] at hf
    refine ym_icmp_ne_y (pc := 127) (tgt := 142) dX8_bidden_127 (by decide) c127 ?_
    refine ym_aload_n (pc := 130) 0 dX8_bidden_130 rfl rfl ?_
    refine ym_iload_n (pc := 131) 1 dX8_bidden_131 rfl rfl ?_
    refine ym_iload_n (pc := 132) 2 dX8_bidden_132 rfl rfl ?_
    obtain ⟨o133, f133, hf⟩ := Option.bind_eq_some_iff.mp hf
    obtain ⟨q133, e133, hf⟩ := Option.bind_eq_some_iff.mp hf
    refine ym_callV (pc := 133) (G2 := g_X8_hasEntry) (dep2 := 1) (As := [.int w1, .int w2]) (st := []) (stk2 := [.int q133.1]) (r2 := (some (.int q133.1))) (h1 := q133.2) dX8_bidden_133 (ok_X8_hasEntry e133) (sc_X8_bidden_X8_hasEntry) wd_1131 wd_1133 wd_42 (ci := 8) (q0 := (RX8, TX8, 58)) rfl (by decide) rfl f133 rfl rfl (ym_st4 (Nat.le_of_ble_eq_true rfl)) rfl ?_
    by_cases c136 : q133.1 = 0
    · rw [if_pos c136] at hf
      refine ym_if_eq_y (pc := 136) (tgt := 155) dX8_bidden_136 (by decide) c136 ?_
      exact ym_sub [0, 1, 2, 3] rfl (ob_X8_bidden_155 hf)
    · rw [if_neg c136] at hf
      refine ym_if_eq_n (pc := 136) (tgt := 155) dX8_bidden_136 (by decide) c136 ?_
      refine ym_goto (pc := 139) (tgt := 151) dX8_bidden_139 (by decide) ?_
      refine ym_ldc2 (pc := 151) dX8_bidden_151 wd_1135 ?_
      cases hf
      exact ym_lret (pc := 154) dX8_bidden_154 rfl
  · rw [if_neg c127] at hf
    refine ym_icmp_ne_n (pc := 127) (tgt := 142) dX8_bidden_127 (by decide) c127 ?_
    refine ym_aload_n (pc := 142) 0 dX8_bidden_142 rfl rfl ?_
    refine ym_iload_n (pc := 143) 1 dX8_bidden_143 rfl rfl ?_
    obtain ⟨o144, f144, hf⟩ := Option.bind_eq_some_iff.mp hf
    obtain ⟨q144, e144, hf⟩ := Option.bind_eq_some_iff.mp hf
    refine ym_callV (pc := 144) (G2 := g_X8_standing) (dep2 := 1) (As := [.int w1]) (st := []) (stk2 := [.int q144.1]) (r2 := (some (.int q144.1))) (h1 := q144.2) dX8_bidden_144 (ok_X8_standing e144) (sc_X8_bidden_X8_standing) wd_1104 wd_1106 wd_37 (ci := 8) (q0 := (RX8, TX8, 58)) rfl (by decide) rfl f144 rfl rfl (ym_st4 (Nat.le_of_ble_eq_true rfl)) rfl ?_
    refine ym_iload_n (pc := 147) 2 dX8_bidden_147 rfl rfl ?_
    by_cases c148 : q144.1 = w2
    · rw [if_pos c148] at hf
      refine ym_icmp_ne_y (pc := 148) (tgt := 155) dX8_bidden_148 (by decide) c148 ?_
      refine ym_ldc2 (pc := 151) dX8_bidden_151 wd_1135 ?_
      cases hf
      exact ym_lret (pc := 154) dX8_bidden_154 rfl
    · rw [if_neg c148] at hf
      refine ym_icmp_ne_n (pc := 148) (tgt := 155) dX8_bidden_148 (by decide) c148 ?_
      exact ym_sub [0, 1, 2, 3] rfl (ob_X8_bidden_155 hf)
def fn_X8_bidden (N : Nat) (a0 : Option Nat) (a1 : Int32) (a2 : Int32) (a3 : Int64) (h : ym_H) : Option (Int64 × ym_H) :=
  Option.bind (fn_X8_isSum N a3 h) fun q1 =>
  if q1.1 = 0 then
    some ((-1), q1.2)
  else
    Option.bind (ym_ob q1.2 a0 8) fun o13 =>
    Option.bind (fn_X8_noLot N a0 a1 q1.2) fun q13 =>
    if q13.1 ≤ 0 then
      Option.bind (ym_gR q13.2 a0 8 5) fun v28 =>
      Option.bind (ym_ldI q13.2 v28 a1) fun v32 =>
      if v32 = 5 then
        some ((-4), q13.2)
      else
        Option.bind (ym_ob q13.2 a0 8) fun o43 =>
        Option.bind (fn_X8_noBidder N a0 a2 q13.2) fun q43 =>
        if q43.1 ≤ 0 then
          Option.bind (ym_gR q43.2 a0 8 1) fun v58 =>
          Option.bind (ym_ldI q43.2 v58 a2) fun v62 =>
          if v62 = 2 then
            some ((-4), q43.2)
          else
            Option.bind (ym_gR q43.2 a0 8 1) fun v68 =>
            Option.bind (ym_ldI q43.2 v68 a2) fun v72 =>
            if v72 = 3 then
              some ((-4), q43.2)
            else
              Option.bind (ym_ob q43.2 a0 8) fun o83 =>
              Option.bind (fn_X8_notOpen N a0 a1 q43.2) fun q83 =>
              if q83.1 ≤ 0 then
                Option.bind (ym_gR q83.2 a0 8 5) fun v98 =>
                Option.bind (ym_ldI q83.2 v98 a1) fun v102 =>
                if v102 = 4 then
                  Option.bind (ym_gR q83.2 a0 8 25) fun v108 =>
                  Option.bind (ym_ldZ q83.2 v108 a1) fun v112 =>
                  if v112 = 0 then
                    bl_X8_bidden_120 N a0 a1 a2 a3 q83.2
                  else
                    some ((-8), q83.2)
                else
                  bl_X8_bidden_120 N a0 a1 a2 a3 q83.2
              else
                Option.bind (ym_ob q83.2 a0 8) fun o91 =>
                Option.bind (fn_X8_notOpen N a0 a1 q83.2) fun q91 =>
                some ((Int32.toInt64 (-q91.1)), q91.2)
        else
          Option.bind (ym_ob q43.2 a0 8) fun o51 =>
          Option.bind (fn_X8_noBidder N a0 a2 q43.2) fun q51 =>
          some ((Int32.toInt64 (-q51.1)), q51.2)
    else
      Option.bind (ym_ob q13.2 a0 8) fun o21 =>
      Option.bind (fn_X8_noLot N a0 a1 q13.2) fun q21 =>
      some ((Int32.toInt64 (-q21.1)), q21.2)
set_option maxRecDepth 20000 in
set_option maxHeartbeats 4000000 in
theorem ok_X8_bidden {D : ym_D} {b0 : Nat} {N : Nat} {a0 : Option Nat} {a1 : Int32} {a2 : Int32} {a3 : Int64} {h h' : ym_H} {r : Int64} (hf : fn_X8_bidden N a0 a1 a2 a3 h = some (r, h')) : ym_M D b0 g_X8_bidden 5 [va_rf a0, .int a1, .int a2, .long a3] h (some (.long r)) h' := by
  unfold fn_X8_bidden at hf
  refine ym_meth (lv := [(0, va_rf a0), (1, .int a1), (2, .int a2), (3, .long a3)]) (by decide) (by simp [lg_sl, ym_c1, ym_cI, ym_cL, g_X8_bidden]) (by simp [lv_args, ym_c1, ym_cI, ym_cL]) ?_
  refine ym_lload_n (pc := 0) 3 dX8_bidden_0 rfl rfl ?_
  obtain ⟨q1, e1, hf⟩ := Option.bind_eq_some_iff.mp hf
  refine ym_callS (pc := 1) (G2 := g_X8_isSum) (dep2 := 1) (As := [.long a3]) (st := []) (stk2 := [.int q1.1]) (r2 := (some (.int q1.1))) (h1 := q1.2) dX8_bidden_1 (ok_X8_isSum e1) (sc_X8_bidden_X8_isSum) wd_1044 wd_1045 rfl rfl (ym_st4 (Nat.le_of_ble_eq_true rfl)) rfl ?_
  by_cases c4 : q1.1 = 0
  · rw [if_pos c4] at hf
    refine ym_if_ne_y (pc := 4) (tgt := 11) dX8_bidden_4 (by decide) c4 ?_
    refine ym_ldc2 (pc := 7) dX8_bidden_7 wd_1038 ?_
    cases hf
    exact ym_lret (pc := 10) dX8_bidden_10 rfl
  · rw [if_neg c4] at hf
    refine ym_if_ne_n (pc := 4) (tgt := 11) dX8_bidden_4 (by decide) c4 ?_
    refine ym_aload_n (pc := 11) 0 dX8_bidden_11 rfl rfl ?_
    refine ym_iload_n (pc := 12) 1 dX8_bidden_12 rfl rfl ?_
    obtain ⟨o13, f13, hf⟩ := Option.bind_eq_some_iff.mp hf
    obtain ⟨q13, e13, hf⟩ := Option.bind_eq_some_iff.mp hf
    refine ym_callV (pc := 13) (G2 := g_X8_noLot) (dep2 := 1) (As := [.int a1]) (st := []) (stk2 := [.int q13.1]) (r2 := (some (.int q13.1))) (h1 := q13.2) dX8_bidden_13 (ok_X8_noLot e13) (sc_X8_bidden_X8_noLot) wd_1055 wd_1057 wd_27 (ci := 8) (q0 := (RX8, TX8, 58)) rfl (by decide) rfl f13 rfl rfl (ym_st4 (Nat.le_of_ble_eq_true rfl)) rfl ?_
    by_cases c16 : q13.1 ≤ 0
    · rw [if_pos c16] at hf
      refine ym_if_le_y (pc := 16) (tgt := 27) dX8_bidden_16 (by decide) c16 ?_
      refine ym_aload_n (pc := 27) 0 dX8_bidden_27 rfl rfl ?_
      obtain ⟨v28, e28, hf⟩ := Option.bind_eq_some_iff.mp hf
      refine ym_get (pc := 28) dX8_bidden_28 rfl (by decide) iX8 (k := 5) (by decide) wd_850 (ym_gR_v e28) ?_
      refine ym_iload_n (pc := 31) 1 dX8_bidden_31 rfl rfl ?_
      obtain ⟨v32, e32, hf⟩ := Option.bind_eq_some_iff.mp hf
      refine ym_iald (pc := 32) dX8_bidden_32 rfl (ym_ldI_v e32) ?_
      refine ym_iconst (pc := 33) (v := 5) dX8_bidden_33 (by decide) ?_
      by_cases c34 : v32 = 5
      · rw [if_pos c34] at hf
        refine ym_icmp_ne_y (pc := 34) (tgt := 41) dX8_bidden_34 (by decide) c34 ?_
        refine ym_ldc2 (pc := 37) dX8_bidden_37 wd_1126 ?_
        cases hf
        exact ym_lret (pc := 40) dX8_bidden_40 rfl
      · rw [if_neg c34] at hf
        refine ym_icmp_ne_n (pc := 34) (tgt := 41) dX8_bidden_34 (by decide) c34 ?_
        refine ym_aload_n (pc := 41) 0 dX8_bidden_41 rfl rfl ?_
        refine ym_iload_n (pc := 42) 2 dX8_bidden_42 rfl rfl ?_
        obtain ⟨o43, f43, hf⟩ := Option.bind_eq_some_iff.mp hf
        obtain ⟨q43, e43, hf⟩ := Option.bind_eq_some_iff.mp hf
        refine ym_callV (pc := 43) (G2 := g_X8_noBidder) (dep2 := 1) (As := [.int a2]) (st := []) (stk2 := [.int q43.1]) (r2 := (some (.int q43.1))) (h1 := q43.2) dX8_bidden_43 (ok_X8_noBidder e43) (sc_X8_bidden_X8_noBidder) wd_1059 wd_1061 wd_28 (ci := 8) (q0 := (RX8, TX8, 58)) rfl (by decide) rfl f43 rfl rfl (ym_st4 (Nat.le_of_ble_eq_true rfl)) rfl ?_
        by_cases c46 : q43.1 ≤ 0
        · rw [if_pos c46] at hf
          refine ym_if_le_y (pc := 46) (tgt := 57) dX8_bidden_46 (by decide) c46 ?_
          refine ym_aload_n (pc := 57) 0 dX8_bidden_57 rfl rfl ?_
          obtain ⟨v58, e58, hf⟩ := Option.bind_eq_some_iff.mp hf
          refine ym_get (pc := 58) dX8_bidden_58 rfl (by decide) iX8 (k := 1) (by decide) wd_846 (ym_gR_v e58) ?_
          refine ym_iload_n (pc := 61) 2 dX8_bidden_61 rfl rfl ?_
          obtain ⟨v62, e62, hf⟩ := Option.bind_eq_some_iff.mp hf
          refine ym_iald (pc := 62) dX8_bidden_62 rfl (ym_ldI_v e62) ?_
          refine ym_iconst (pc := 63) (v := 2) dX8_bidden_63 (by decide) ?_
          by_cases c64 : v62 = 2
          · rw [if_pos c64] at hf
            refine ym_icmp_eq_y (pc := 64) (tgt := 77) dX8_bidden_64 (by decide) c64 ?_
            refine ym_ldc2 (pc := 77) dX8_bidden_77 wd_1126 ?_
            cases hf
            exact ym_lret (pc := 80) dX8_bidden_80 rfl
          · rw [if_neg c64] at hf
            refine ym_icmp_eq_n (pc := 64) (tgt := 77) dX8_bidden_64 (by decide) c64 ?_
            refine ym_aload_n (pc := 67) 0 dX8_bidden_67 rfl rfl ?_
            obtain ⟨v68, e68, hf⟩ := Option.bind_eq_some_iff.mp hf
            refine ym_get (pc := 68) dX8_bidden_68 rfl (by decide) iX8 (k := 1) (by decide) wd_846 (ym_gR_v e68) ?_
            refine ym_iload_n (pc := 71) 2 dX8_bidden_71 rfl rfl ?_
            obtain ⟨v72, e72, hf⟩ := Option.bind_eq_some_iff.mp hf
            refine ym_iald (pc := 72) dX8_bidden_72 rfl (ym_ldI_v e72) ?_
            refine ym_iconst (pc := 73) (v := 3) dX8_bidden_73 (by decide) ?_
            by_cases c74 : v72 = 3
            · rw [if_pos c74] at hf
              refine ym_icmp_ne_y (pc := 74) (tgt := 81) dX8_bidden_74 (by decide) c74 ?_
              refine ym_ldc2 (pc := 77) dX8_bidden_77 wd_1126 ?_
              cases hf
              exact ym_lret (pc := 80) dX8_bidden_80 rfl
            · rw [if_neg c74] at hf
              refine ym_icmp_ne_n (pc := 74) (tgt := 81) dX8_bidden_74 (by decide) c74 ?_
              refine ym_aload_n (pc := 81) 0 dX8_bidden_81 rfl rfl ?_
              refine ym_iload_n (pc := 82) 1 dX8_bidden_82 rfl rfl ?_
              obtain ⟨o83, f83, hf⟩ := Option.bind_eq_some_iff.mp hf
              obtain ⟨q83, e83, hf⟩ := Option.bind_eq_some_iff.mp hf
              refine ym_callV (pc := 83) (G2 := g_X8_notOpen) (dep2 := 1) (As := [.int a1]) (st := []) (stk2 := [.int q83.1]) (r2 := (some (.int q83.1))) (h1 := q83.2) dX8_bidden_83 (ok_X8_notOpen e83) (sc_X8_bidden_X8_notOpen) wd_1127 wd_1129 wd_41 (ci := 8) (q0 := (RX8, TX8, 58)) rfl (by decide) rfl f83 rfl rfl (ym_st4 (Nat.le_of_ble_eq_true rfl)) rfl ?_
              by_cases c86 : q83.1 ≤ 0
              · rw [if_pos c86] at hf
                refine ym_if_le_y (pc := 86) (tgt := 97) dX8_bidden_86 (by decide) c86 ?_
                refine ym_aload_n (pc := 97) 0 dX8_bidden_97 rfl rfl ?_
                obtain ⟨v98, e98, hf⟩ := Option.bind_eq_some_iff.mp hf
                refine ym_get (pc := 98) dX8_bidden_98 rfl (by decide) iX8 (k := 5) (by decide) wd_850 (ym_gR_v e98) ?_
                refine ym_iload_n (pc := 101) 1 dX8_bidden_101 rfl rfl ?_
                obtain ⟨v102, e102, hf⟩ := Option.bind_eq_some_iff.mp hf
                refine ym_iald (pc := 102) dX8_bidden_102 rfl (ym_ldI_v e102) ?_
                refine ym_iconst (pc := 103) (v := 4) dX8_bidden_103 (by decide) ?_
                by_cases c104 : v102 = 4
                · rw [if_pos c104] at hf
                  refine ym_icmp_ne_y (pc := 104) (tgt := 120) dX8_bidden_104 (by decide) c104 ?_
                  refine ym_aload_n (pc := 107) 0 dX8_bidden_107 rfl rfl ?_
                  obtain ⟨v108, e108, hf⟩ := Option.bind_eq_some_iff.mp hf
                  refine ym_get (pc := 108) dX8_bidden_108 rfl (by decide) iX8 (k := 25) (by decide) wd_870 (ym_gR_v e108) ?_
                  refine ym_iload_n (pc := 111) 1 dX8_bidden_111 rfl rfl ?_
                  obtain ⟨v112, e112, hf⟩ := Option.bind_eq_some_iff.mp hf
                  refine ym_zald (pc := 112) dX8_bidden_112 rfl (ym_ldZ_v e112) ?_
                  by_cases c113 : v112 = 0
                  · rw [if_pos c113] at hf
                    refine ym_if_eq_y (pc := 113) (tgt := 120) dX8_bidden_113 (by decide) c113 ?_
                    exact ym_sub [0, 1, 2, 3] rfl (ob_X8_bidden_120 hf)
                  · rw [if_neg c113] at hf
                    refine ym_if_eq_n (pc := 113) (tgt := 120) dX8_bidden_113 (by decide) c113 ?_
                    refine ym_ldc2 (pc := 116) dX8_bidden_116 wd_1064 ?_
                    cases hf
                    exact ym_lret (pc := 119) dX8_bidden_119 rfl
                · rw [if_neg c104] at hf
                  refine ym_icmp_ne_n (pc := 104) (tgt := 120) dX8_bidden_104 (by decide) c104 ?_
                  exact ym_sub [0, 1, 2, 3] rfl (ob_X8_bidden_120 hf)
              · rw [if_neg c86] at hf
                refine ym_if_le_n (pc := 86) (tgt := 97) dX8_bidden_86 (by decide) c86 ?_
                refine ym_aload_n (pc := 89) 0 dX8_bidden_89 rfl rfl ?_
                refine ym_iload_n (pc := 90) 1 dX8_bidden_90 rfl rfl ?_
                obtain ⟨o91, f91, hf⟩ := Option.bind_eq_some_iff.mp hf
                obtain ⟨q91, e91, hf⟩ := Option.bind_eq_some_iff.mp hf
                refine ym_callV (pc := 91) (G2 := g_X8_notOpen) (dep2 := 1) (As := [.int a1]) (st := []) (stk2 := [.int q91.1]) (r2 := (some (.int q91.1))) (h1 := q91.2) dX8_bidden_91 (ok_X8_notOpen e91) (sc_X8_bidden_X8_notOpen) wd_1127 wd_1129 wd_41 (ci := 8) (q0 := (RX8, TX8, 58)) rfl (by decide) rfl f91 rfl rfl (ym_st4 (Nat.le_of_ble_eq_true rfl)) rfl ?_
                refine ym_ineg (pc := 94) dX8_bidden_94 ?_
                refine ym_i2l (pc := 95) dX8_bidden_95 ?_
                cases hf
                exact ym_lret (pc := 96) dX8_bidden_96 rfl
        · rw [if_neg c46] at hf
          refine ym_if_le_n (pc := 46) (tgt := 57) dX8_bidden_46 (by decide) c46 ?_
          refine ym_aload_n (pc := 49) 0 dX8_bidden_49 rfl rfl ?_
          refine ym_iload_n (pc := 50) 2 dX8_bidden_50 rfl rfl ?_
          obtain ⟨o51, f51, hf⟩ := Option.bind_eq_some_iff.mp hf
          obtain ⟨q51, e51, hf⟩ := Option.bind_eq_some_iff.mp hf
          refine ym_callV (pc := 51) (G2 := g_X8_noBidder) (dep2 := 1) (As := [.int a2]) (st := []) (stk2 := [.int q51.1]) (r2 := (some (.int q51.1))) (h1 := q51.2) dX8_bidden_51 (ok_X8_noBidder e51) (sc_X8_bidden_X8_noBidder) wd_1059 wd_1061 wd_28 (ci := 8) (q0 := (RX8, TX8, 58)) rfl (by decide) rfl f51 rfl rfl (ym_st4 (Nat.le_of_ble_eq_true rfl)) rfl ?_
          refine ym_ineg (pc := 54) dX8_bidden_54 ?_
          refine ym_i2l (pc := 55) dX8_bidden_55 ?_
          cases hf
          exact ym_lret (pc := 56) dX8_bidden_56 rfl
    · rw [if_neg c16] at hf
      refine ym_if_le_n (pc := 16) (tgt := 27) dX8_bidden_16 (by decide) c16 ?_
      refine ym_aload_n (pc := 19) 0 dX8_bidden_19 rfl rfl ?_
      refine ym_iload_n (pc := 20) 1 dX8_bidden_20 rfl rfl ?_
      obtain ⟨o21, f21, hf⟩ := Option.bind_eq_some_iff.mp hf
      obtain ⟨q21, e21, hf⟩ := Option.bind_eq_some_iff.mp hf
      refine ym_callV (pc := 21) (G2 := g_X8_noLot) (dep2 := 1) (As := [.int a1]) (st := []) (stk2 := [.int q21.1]) (r2 := (some (.int q21.1))) (h1 := q21.2) dX8_bidden_21 (ok_X8_noLot e21) (sc_X8_bidden_X8_noLot) wd_1055 wd_1057 wd_27 (ci := 8) (q0 := (RX8, TX8, 58)) rfl (by decide) rfl f21 rfl rfl (ym_st4 (Nat.le_of_ble_eq_true rfl)) rfl ?_
      refine ym_ineg (pc := 24) dX8_bidden_24 ?_
      refine ym_i2l (pc := 25) dX8_bidden_25 ?_
      cases hf
      exact ym_lret (pc := 26) dX8_bidden_26 rfl
