theorem dX8_isLot_0 : decode cX8_isLot 0 = .ok (.aload_n 0, 1) := by decide +kernel
theorem dX8_isLot_1 : decode cX8_isLot 1 = .ok (.iload_n 1, 1) := by decide +kernel
theorem dX8_isLot_2 : decode cX8_isLot 2 = .ok (.invokevirtual 294, 3) := by decide +kernel
theorem dX8_isLot_5 : decode cX8_isLot 5 = .ok (.ifCond .ne 7, 3) := by decide +kernel
theorem dX8_isLot_8 : decode cX8_isLot 8 = .ok (.iconst 1, 1) := by decide +kernel
theorem dX8_isLot_9 : decode cX8_isLot 9 = .ok (.goto 4, 3) := by decide +kernel
theorem dX8_isLot_12 : decode cX8_isLot 12 = .ok (.iconst 0, 1) := by decide +kernel
theorem dX8_isLot_13 : decode cX8_isLot 13 = .ok (.ireturn, 1) := by decide +kernel
theorem sc_X8_isLot_X8_noLot : ym_site g_X8_isLot g_X8_noLot 2 1 1 := ⟨by decide, by decide, wd_1058, wd_83, by decide +kernel⟩
def fn_X8_isLot (N : Nat) (a0 : Option Nat) (a1 : Int32) (h : ym_H) : Option (Int32 × ym_H) :=
  Option.bind (ym_ob h a0 8) fun o2 =>
  Option.bind (fn_X8_noLot N a0 a1 h) fun q2 =>
  if q2.1 = 0 then
    some (1, q2.2)
  else
    some (0, q2.2)
set_option maxRecDepth 20000 in
set_option maxHeartbeats 4000000 in
theorem ok_X8_isLot {D : ym_D} {b0 : Nat} {N : Nat} {a0 : Option Nat} {a1 : Int32} {h h' : ym_H} {r : Int32} (hf : fn_X8_isLot N a0 a1 h = some (r, h')) : ym_M D b0 g_X8_isLot 2 [va_rf a0, .int a1] h (some (.int r)) h' := by
  unfold fn_X8_isLot at hf
  refine ym_meth (lv := [(0, va_rf a0), (1, .int a1)]) (by decide) (by simp [lg_sl, ym_c1, ym_cI, ym_cL, g_X8_isLot]) (by simp [lv_args, ym_c1, ym_cI, ym_cL]) ?_
  refine ym_aload_n (pc := 0) 0 dX8_isLot_0 rfl rfl ?_
  refine ym_iload_n (pc := 1) 1 dX8_isLot_1 rfl rfl ?_
  obtain ⟨o2, f2, hf⟩ := Option.bind_eq_some_iff.mp hf
  obtain ⟨q2, e2, hf⟩ := Option.bind_eq_some_iff.mp hf
  refine ym_callV (pc := 2) (G2 := g_X8_noLot) (dep2 := 1) (As := [.int a1]) (st := []) (stk2 := [.int q2.1]) (r2 := (some (.int q2.1))) (h1 := q2.2) dX8_isLot_2 (ok_X8_noLot e2) (sc_X8_isLot_X8_noLot) wd_1055 wd_1057 wd_27 (ci := 8) (q0 := (RX8, TX8, 58)) rfl (by decide) rfl f2 rfl rfl (ym_st4 (Nat.le_of_ble_eq_true rfl)) rfl ?_
  by_cases c5 : q2.1 = 0
  · rw [if_pos c5] at hf
    refine ym_if_ne_y (pc := 5) (tgt := 12) dX8_isLot_5 (by decide) c5 ?_
    refine ym_iconst (pc := 8) (v := 1) dX8_isLot_8 (by decide) ?_
    refine ym_goto (pc := 9) (tgt := 13) dX8_isLot_9 (by decide) ?_
    cases hf
    exact ym_zret (pc := 13) dX8_isLot_13 rfl rfl
  · rw [if_neg c5] at hf
    refine ym_if_ne_n (pc := 5) (tgt := 12) dX8_isLot_5 (by decide) c5 ?_
    refine ym_iconst (pc := 12) (v := 0) dX8_isLot_12 (by decide) ?_
    cases hf
    exact ym_zret (pc := 13) dX8_isLot_13 rfl rfl
theorem dX8_cause_0 : decode cX8_cause 0 = .ok (.aload_n 0, 1) := by decide +kernel
theorem dX8_cause_1 : decode cX8_cause 1 = .ok (.iload_n 1, 1) := by decide +kernel
theorem dX8_cause_2 : decode cX8_cause 2 = .ok (.invokevirtual 423, 3) := by decide +kernel
theorem dX8_cause_5 : decode cX8_cause 5 = .ok (.ifCond .ne 7, 3) := by decide +kernel
theorem dX8_cause_8 : decode cX8_cause 8 = .ok (.iconst 0, 1) := by decide +kernel
theorem dX8_cause_9 : decode cX8_cause 9 = .ok (.goto 31, 3) := by decide +kernel
theorem dX8_cause_12 : decode cX8_cause 12 = .ok (.iload_n 2, 1) := by decide +kernel
theorem dX8_cause_13 : decode cX8_cause 13 = .ok (.ifCond .ne 12, 3) := by decide +kernel
theorem dX8_cause_16 : decode cX8_cause 16 = .ok (.aload_n 0, 1) := by decide +kernel
theorem dX8_cause_17 : decode cX8_cause 17 = .ok (.getfield 87, 3) := by decide +kernel
theorem dX8_cause_20 : decode cX8_cause 20 = .ok (.iload_n 1, 1) := by decide +kernel
theorem dX8_cause_21 : decode cX8_cause 21 = .ok (.iaload, 1) := by decide +kernel
theorem dX8_cause_22 : decode cX8_cause 22 = .ok (.goto 18, 3) := by decide +kernel
theorem dX8_cause_25 : decode cX8_cause 25 = .ok (.iload_n 2, 1) := by decide +kernel
theorem dX8_cause_26 : decode cX8_cause 26 = .ok (.iconst 1, 1) := by decide +kernel
theorem dX8_cause_27 : decode cX8_cause 27 = .ok (.if_icmp .ne 12, 3) := by decide +kernel
theorem dX8_cause_30 : decode cX8_cause 30 = .ok (.aload_n 0, 1) := by decide +kernel
theorem dX8_cause_31 : decode cX8_cause 31 = .ok (.getfield 90, 3) := by decide +kernel
theorem dX8_cause_34 : decode cX8_cause 34 = .ok (.iload_n 1, 1) := by decide +kernel
theorem dX8_cause_35 : decode cX8_cause 35 = .ok (.iaload, 1) := by decide +kernel
theorem dX8_cause_36 : decode cX8_cause 36 = .ok (.goto 4, 3) := by decide +kernel
theorem dX8_cause_39 : decode cX8_cause 39 = .ok (.iconst 0, 1) := by decide +kernel
theorem dX8_cause_40 : decode cX8_cause 40 = .ok (.ireturn, 1) := by decide +kernel
theorem sc_X8_cause_X8_isLot : ym_site g_X8_cause g_X8_isLot 3 2 1 := ⟨by decide, by decide, wd_1372, wd_83, by decide +kernel⟩
def fn_X8_cause (N : Nat) (a0 : Option Nat) (a1 : Int32) (a2 : Int32) (h : ym_H) : Option (Int32 × ym_H) :=
  Option.bind (ym_ob h a0 8) fun o2 =>
  Option.bind (fn_X8_isLot N a0 a1 h) fun q2 =>
  if q2.1 = 0 then
    some (0, q2.2)
  else
    if a2 = 0 then
      Option.bind (ym_gR q2.2 a0 8 28) fun v17 =>
      Option.bind (ym_ldI q2.2 v17 a1) fun v21 =>
      some (v21, q2.2)
    else
      if a2 = 1 then
        Option.bind (ym_gR q2.2 a0 8 29) fun v31 =>
        Option.bind (ym_ldI q2.2 v31 a1) fun v35 =>
        some (v35, q2.2)
      else
        some (0, q2.2)
set_option maxRecDepth 20000 in
set_option maxHeartbeats 4000000 in
theorem ok_X8_cause {D : ym_D} {b0 : Nat} {N : Nat} {a0 : Option Nat} {a1 : Int32} {a2 : Int32} {h h' : ym_H} {r : Int32} (hf : fn_X8_cause N a0 a1 a2 h = some (r, h')) : ym_M D b0 g_X8_cause 3 [va_rf a0, .int a1, .int a2] h (some (.int r)) h' := by
  unfold fn_X8_cause at hf
  refine ym_meth (lv := [(0, va_rf a0), (1, .int a1), (2, .int a2)]) (by decide) (by simp [lg_sl, ym_c1, ym_cI, ym_cL, g_X8_cause]) (by simp [lv_args, ym_c1, ym_cI, ym_cL]) ?_
  refine ym_aload_n (pc := 0) 0 dX8_cause_0 rfl rfl ?_
  refine ym_iload_n (pc := 1) 1 dX8_cause_1 rfl rfl ?_
  obtain ⟨o2, f2, hf⟩ := Option.bind_eq_some_iff.mp hf
  obtain ⟨q2, e2, hf⟩ := Option.bind_eq_some_iff.mp hf
  refine ym_callV (pc := 2) (G2 := g_X8_isLot) (dep2 := 2) (As := [.int a1]) (st := []) (stk2 := [.int q2.1]) (r2 := (some (.int q2.1))) (h1 := q2.2) dX8_cause_2 (ok_X8_isLot e2) (sc_X8_cause_X8_isLot) wd_1369 wd_1371 wd_73 (ci := 8) (q0 := (RX8, TX8, 58)) rfl (by decide) rfl f2 rfl rfl (ym_st4 (Nat.le_of_ble_eq_true rfl)) rfl ?_
  by_cases c5 : q2.1 = 0
  · rw [if_pos c5] at hf
    refine ym_if_ne_y (pc := 5) (tgt := 12) dX8_cause_5 (by decide) c5 ?_
    refine ym_iconst (pc := 8) (v := 0) dX8_cause_8 (by decide) ?_
    refine ym_goto (pc := 9) (tgt := 40) dX8_cause_9 (by decide) ?_
    cases hf
    exact ym_iret (pc := 40) dX8_cause_40 rfl
  · rw [if_neg c5] at hf
    refine ym_if_ne_n (pc := 5) (tgt := 12) dX8_cause_5 (by decide) c5 ?_
    refine ym_iload_n (pc := 12) 2 dX8_cause_12 rfl rfl ?_
    by_cases c13 : a2 = 0
    · rw [if_pos c13] at hf
      refine ym_if_ne_y (pc := 13) (tgt := 25) dX8_cause_13 (by decide) c13 ?_
      refine ym_aload_n (pc := 16) 0 dX8_cause_16 rfl rfl ?_
      obtain ⟨v17, e17, hf⟩ := Option.bind_eq_some_iff.mp hf
      refine ym_get (pc := 17) dX8_cause_17 rfl (by decide) iX8 (k := 28) (by decide) wd_873 (ym_gR_v e17) ?_
      refine ym_iload_n (pc := 20) 1 dX8_cause_20 rfl rfl ?_
      obtain ⟨v21, e21, hf⟩ := Option.bind_eq_some_iff.mp hf
      refine ym_iald (pc := 21) dX8_cause_21 rfl (ym_ldI_v e21) ?_
      refine ym_goto (pc := 22) (tgt := 40) dX8_cause_22 (by decide) ?_
      cases hf
      exact ym_iret (pc := 40) dX8_cause_40 rfl
    · rw [if_neg c13] at hf
      refine ym_if_ne_n (pc := 13) (tgt := 25) dX8_cause_13 (by decide) c13 ?_
      refine ym_iload_n (pc := 25) 2 dX8_cause_25 rfl rfl ?_
      refine ym_iconst (pc := 26) (v := 1) dX8_cause_26 (by decide) ?_
      by_cases c27 : a2 = 1
      · rw [if_pos c27] at hf
        refine ym_icmp_ne_y (pc := 27) (tgt := 39) dX8_cause_27 (by decide) c27 ?_
        refine ym_aload_n (pc := 30) 0 dX8_cause_30 rfl rfl ?_
        obtain ⟨v31, e31, hf⟩ := Option.bind_eq_some_iff.mp hf
        refine ym_get (pc := 31) dX8_cause_31 rfl (by decide) iX8 (k := 29) (by decide) wd_874 (ym_gR_v e31) ?_
        refine ym_iload_n (pc := 34) 1 dX8_cause_34 rfl rfl ?_
        obtain ⟨v35, e35, hf⟩ := Option.bind_eq_some_iff.mp hf
        refine ym_iald (pc := 35) dX8_cause_35 rfl (ym_ldI_v e35) ?_
        refine ym_goto (pc := 36) (tgt := 40) dX8_cause_36 (by decide) ?_
        cases hf
        exact ym_iret (pc := 40) dX8_cause_40 rfl
      · rw [if_neg c27] at hf
        refine ym_icmp_ne_n (pc := 27) (tgt := 39) dX8_cause_27 (by decide) c27 ?_
        refine ym_iconst (pc := 39) (v := 0) dX8_cause_39 (by decide) ?_
        cases hf
        exact ym_iret (pc := 40) dX8_cause_40 rfl
theorem dX8_cut_0 : decode cX8_cut 0 = .ok (.aload_n 0, 1) := by decide +kernel
theorem dX8_cut_1 : decode cX8_cut 1 = .ok (.iconst 4, 1) := by decide +kernel
theorem dX8_cut_2 : decode cX8_cut 2 = .ok (.iload_n 1, 1) := by decide +kernel
theorem dX8_cut_3 : decode cX8_cut 3 = .ok (.iload_n 2, 1) := by decide +kernel
theorem dX8_cut_4 : decode cX8_cut 4 = .ok (.iconst 0, 1) := by decide +kernel
theorem dX8_cut_5 : decode cX8_cut 5 = .ok (.lconst 0, 1) := by decide +kernel
theorem dX8_cut_6 : decode cX8_cut 6 = .ok (.lconst 0, 1) := by decide +kernel
theorem dX8_cut_7 : decode cX8_cut 7 = .ok (.invokevirtual 420, 3) := by decide +kernel
theorem dX8_cut_10 : decode cX8_cut 10 = .ok (.lreturn, 1) := by decide +kernel
theorem sc_X8_cut_X8_act : ym_site g_X8_cut g_X8_act 19 18 6 := ⟨by decide, by decide, wd_1028, wd_83, by decide +kernel⟩
def fn_X8_cut (N : Nat) (a0 : Option Nat) (a1 : Int32) (a2 : Int32) (h : ym_H) : Option (Int64 × ym_H) :=
  Option.bind (ym_ob h a0 8) fun o7 =>
  Option.bind (fn_X8_act N a0 4 a1 a2 0 0 0 h) fun q7 =>
  some (q7.1, q7.2)
set_option maxRecDepth 20000 in
set_option maxHeartbeats 4000000 in
theorem ok_X8_cut {D : ym_D} {b0 : Nat} {N : Nat} {a0 : Option Nat} {a1 : Int32} {a2 : Int32} {h h' : ym_H} {r : Int64} (hf : fn_X8_cut N a0 a1 a2 h = some (r, h')) : ym_M D b0 g_X8_cut 19 [va_rf a0, .int a1, .int a2] h (some (.long r)) h' := by
  unfold fn_X8_cut at hf
  refine ym_meth (lv := [(0, va_rf a0), (1, .int a1), (2, .int a2)]) (by decide) (by simp [lg_sl, ym_c1, ym_cI, ym_cL, g_X8_cut]) (by simp [lv_args, ym_c1, ym_cI, ym_cL]) ?_
  refine ym_aload_n (pc := 0) 0 dX8_cut_0 rfl rfl ?_
  refine ym_iconst (pc := 1) (v := 4) dX8_cut_1 (by decide) ?_
  refine ym_iload_n (pc := 2) 1 dX8_cut_2 rfl rfl ?_
  refine ym_iload_n (pc := 3) 2 dX8_cut_3 rfl rfl ?_
  refine ym_iconst (pc := 4) (v := 0) dX8_cut_4 (by decide) ?_
  refine ym_lconst (pc := 5) (v := 0) dX8_cut_5 (by decide) ?_
  refine ym_lconst (pc := 6) (v := 0) dX8_cut_6 (by decide) ?_
  obtain ⟨o7, f7, hf⟩ := Option.bind_eq_some_iff.mp hf
  obtain ⟨q7, e7, hf⟩ := Option.bind_eq_some_iff.mp hf
  refine ym_callV (pc := 7) (G2 := g_X8_act) (dep2 := 18) (As := [.int 4, .int a1, .int a2, .int 0, .long 0, .long 0]) (st := []) (stk2 := [.long q7.1]) (r2 := (some (.long q7.1))) (h1 := q7.2) dX8_cut_7 (ok_X8_act e7) (sc_X8_cut_X8_act) wd_1025 wd_1027 wd_21 (ci := 8) (q0 := (RX8, TX8, 58)) rfl (by decide) rfl f7 rfl rfl (ym_st4 (Nat.le_of_ble_eq_true rfl)) rfl ?_
  cases hf
  exact ym_lret (pc := 10) dX8_cut_10 rfl
theorem dX8_digest_0 : decode cX8_digest 0 = .ok (.ldc2_w 429, 3) := by decide +kernel
theorem dX8_digest_3 : decode cX8_digest 3 = .ok (.aload_n 0, 1) := by decide +kernel
theorem dX8_digest_4 : decode cX8_digest 4 = .ok (.getfield 185, 3) := by decide +kernel
theorem dX8_digest_7 : decode cX8_digest 7 = .ok (.i2l, 1) := by decide +kernel
theorem dX8_digest_8 : decode cX8_digest 8 = .ok (.ladd, 1) := by decide +kernel
theorem dX8_digest_9 : decode cX8_digest 9 = .ok (.lstore_n 1, 1) := by decide +kernel
theorem dX8_digest_10 : decode cX8_digest 10 = .ok (.iconst 0, 1) := by decide +kernel
theorem dX8_digest_11 : decode cX8_digest 11 = .ok (.istore_n 3, 1) := by decide +kernel
theorem dX8_digest_12 : decode cX8_digest 12 = .ok (.iload_n 3, 1) := by decide +kernel
theorem dX8_digest_13 : decode cX8_digest 13 = .ok (.aload_n 0, 1) := by decide +kernel
theorem dX8_digest_14 : decode cX8_digest 14 = .ok (.getfield 185, 3) := by decide +kernel
theorem dX8_digest_17 : decode cX8_digest 17 = .ok (.if_icmp .ge 34, 3) := by decide +kernel
theorem dX8_digest_20 : decode cX8_digest 20 = .ok (.lload_n 1, 1) := by decide +kernel
theorem dX8_digest_21 : decode cX8_digest 21 = .ok (.ldc2_w 431, 3) := by decide +kernel
theorem dX8_digest_24 : decode cX8_digest 24 = .ok (.lmul, 1) := by decide +kernel
theorem dX8_digest_25 : decode cX8_digest 25 = .ok (.aload_n 0, 1) := by decide +kernel
theorem dX8_digest_26 : decode cX8_digest 26 = .ok (.getfield 9, 3) := by decide +kernel
theorem dX8_digest_29 : decode cX8_digest 29 = .ok (.iload_n 3, 1) := by decide +kernel
theorem dX8_digest_30 : decode cX8_digest 30 = .ok (.iaload, 1) := by decide +kernel
theorem dX8_digest_31 : decode cX8_digest 31 = .ok (.i2l, 1) := by decide +kernel
theorem dX8_digest_32 : decode cX8_digest 32 = .ok (.ladd, 1) := by decide +kernel
theorem dX8_digest_33 : decode cX8_digest 33 = .ok (.ldc2_w 431, 3) := by decide +kernel
theorem dX8_digest_36 : decode cX8_digest 36 = .ok (.lmul, 1) := by decide +kernel
theorem dX8_digest_37 : decode cX8_digest 37 = .ok (.aload_n 0, 1) := by decide +kernel
theorem dX8_digest_38 : decode cX8_digest 38 = .ok (.getfield 17, 3) := by decide +kernel
theorem dX8_digest_41 : decode cX8_digest 41 = .ok (.iload_n 3, 1) := by decide +kernel
theorem dX8_digest_42 : decode cX8_digest 42 = .ok (.laload, 1) := by decide +kernel
theorem dX8_digest_43 : decode cX8_digest 43 = .ok (.ladd, 1) := by decide +kernel
theorem dX8_digest_44 : decode cX8_digest 44 = .ok (.lstore_n 1, 1) := by decide +kernel
theorem dX8_digest_45 : decode cX8_digest 45 = .ok (.iinc 3 1, 3) := by decide +kernel
theorem dX8_digest_48 : decode cX8_digest 48 = .ok (.goto (-36), 3) := by decide +kernel
theorem dX8_digest_51 : decode cX8_digest 51 = .ok (.lload_n 1, 1) := by decide +kernel
theorem dX8_digest_52 : decode cX8_digest 52 = .ok (.ldc2_w 431, 3) := by decide +kernel
theorem dX8_digest_55 : decode cX8_digest 55 = .ok (.lmul, 1) := by decide +kernel
theorem dX8_digest_56 : decode cX8_digest 56 = .ok (.aload_n 0, 1) := by decide +kernel
theorem dX8_digest_57 : decode cX8_digest 57 = .ok (.getfield 188, 3) := by decide +kernel
theorem dX8_digest_60 : decode cX8_digest 60 = .ok (.i2l, 1) := by decide +kernel
theorem dX8_digest_61 : decode cX8_digest 61 = .ok (.ladd, 1) := by decide +kernel
theorem dX8_digest_62 : decode cX8_digest 62 = .ok (.lstore_n 1, 1) := by decide +kernel
theorem dX8_digest_63 : decode cX8_digest 63 = .ok (.iconst 0, 1) := by decide +kernel
theorem dX8_digest_64 : decode cX8_digest 64 = .ok (.istore_n 3, 1) := by decide +kernel
theorem dX8_digest_65 : decode cX8_digest 65 = .ok (.iload_n 3, 1) := by decide +kernel
theorem dX8_digest_66 : decode cX8_digest 66 = .ok (.aload_n 0, 1) := by decide +kernel
theorem dX8_digest_67 : decode cX8_digest 67 = .ok (.getfield 188, 3) := by decide +kernel
theorem dX8_digest_70 : decode cX8_digest 70 = .ok (.if_icmp .ge 98, 3) := by decide +kernel
theorem dX8_digest_73 : decode cX8_digest 73 = .ok (.lload_n 1, 1) := by decide +kernel
theorem dX8_digest_74 : decode cX8_digest 74 = .ok (.ldc2_w 431, 3) := by decide +kernel
theorem dX8_digest_77 : decode cX8_digest 77 = .ok (.lmul, 1) := by decide +kernel
theorem dX8_digest_78 : decode cX8_digest 78 = .ok (.aload_n 0, 1) := by decide +kernel
theorem dX8_digest_79 : decode cX8_digest 79 = .ok (.getfield 20, 3) := by decide +kernel
theorem dX8_digest_82 : decode cX8_digest 82 = .ok (.iload_n 3, 1) := by decide +kernel
theorem dX8_digest_83 : decode cX8_digest 83 = .ok (.iaload, 1) := by decide +kernel
theorem dX8_digest_84 : decode cX8_digest 84 = .ok (.i2l, 1) := by decide +kernel
theorem dX8_digest_85 : decode cX8_digest 85 = .ok (.ladd, 1) := by decide +kernel
theorem dX8_digest_86 : decode cX8_digest 86 = .ok (.ldc2_w 431, 3) := by decide +kernel
theorem dX8_digest_89 : decode cX8_digest 89 = .ok (.lmul, 1) := by decide +kernel
theorem dX8_digest_90 : decode cX8_digest 90 = .ok (.aload_n 0, 1) := by decide +kernel
theorem dX8_digest_91 : decode cX8_digest 91 = .ok (.getfield 32, 3) := by decide +kernel
theorem dX8_digest_94 : decode cX8_digest 94 = .ok (.iload_n 3, 1) := by decide +kernel
theorem dX8_digest_95 : decode cX8_digest 95 = .ok (.iaload, 1) := by decide +kernel
theorem dX8_digest_96 : decode cX8_digest 96 = .ok (.i2l, 1) := by decide +kernel
theorem dX8_digest_97 : decode cX8_digest 97 = .ok (.ladd, 1) := by decide +kernel
theorem dX8_digest_98 : decode cX8_digest 98 = .ok (.lstore_n 1, 1) := by decide +kernel
theorem dX8_digest_99 : decode cX8_digest 99 = .ok (.lload_n 1, 1) := by decide +kernel
theorem dX8_digest_100 : decode cX8_digest 100 = .ok (.ldc2_w 431, 3) := by decide +kernel
theorem dX8_digest_103 : decode cX8_digest 103 = .ok (.lmul, 1) := by decide +kernel
theorem dX8_digest_104 : decode cX8_digest 104 = .ok (.aload_n 0, 1) := by decide +kernel
theorem dX8_digest_105 : decode cX8_digest 105 = .ok (.iload_n 3, 1) := by decide +kernel
theorem dX8_digest_106 : decode cX8_digest 106 = .ok (.invokevirtual 298, 3) := by decide +kernel
theorem dX8_digest_109 : decode cX8_digest 109 = .ok (.i2l, 1) := by decide +kernel
theorem dX8_digest_110 : decode cX8_digest 110 = .ok (.ladd, 1) := by decide +kernel
theorem dX8_digest_111 : decode cX8_digest 111 = .ok (.ldc2_w 431, 3) := by decide +kernel
theorem dX8_digest_114 : decode cX8_digest 114 = .ok (.lmul, 1) := by decide +kernel
theorem dX8_digest_115 : decode cX8_digest 115 = .ok (.aload_n 0, 1) := by decide +kernel
theorem dX8_digest_116 : decode cX8_digest 116 = .ok (.iload_n 3, 1) := by decide +kernel
theorem dX8_digest_117 : decode cX8_digest 117 = .ok (.invokevirtual 312, 3) := by decide +kernel
theorem dX8_digest_120 : decode cX8_digest 120 = .ok (.ladd, 1) := by decide +kernel
theorem dX8_digest_121 : decode cX8_digest 121 = .ok (.lstore_n 1, 1) := by decide +kernel
theorem dX8_digest_122 : decode cX8_digest 122 = .ok (.lload_n 1, 1) := by decide +kernel
theorem dX8_digest_123 : decode cX8_digest 123 = .ok (.ldc2_w 431, 3) := by decide +kernel
theorem dX8_digest_126 : decode cX8_digest 126 = .ok (.lmul, 1) := by decide +kernel
theorem dX8_digest_127 : decode cX8_digest 127 = .ok (.aload_n 0, 1) := by decide +kernel
theorem dX8_digest_128 : decode cX8_digest 128 = .ok (.getfield 44, 3) := by decide +kernel
theorem dX8_digest_131 : decode cX8_digest 131 = .ok (.iload_n 3, 1) := by decide +kernel
theorem dX8_digest_132 : decode cX8_digest 132 = .ok (.iaload, 1) := by decide +kernel
theorem dX8_digest_133 : decode cX8_digest 133 = .ok (.i2l, 1) := by decide +kernel
theorem dX8_digest_134 : decode cX8_digest 134 = .ok (.ladd, 1) := by decide +kernel
theorem dX8_digest_135 : decode cX8_digest 135 = .ok (.lstore_n 1, 1) := by decide +kernel
theorem dX8_digest_136 : decode cX8_digest 136 = .ok (.lload_n 1, 1) := by decide +kernel
theorem dX8_digest_137 : decode cX8_digest 137 = .ok (.ldc2_w 431, 3) := by decide +kernel
theorem dX8_digest_140 : decode cX8_digest 140 = .ok (.lmul, 1) := by decide +kernel
theorem dX8_digest_141 : decode cX8_digest 141 = .ok (.aload_n 0, 1) := by decide +kernel
theorem dX8_digest_142 : decode cX8_digest 142 = .ok (.getfield 41, 3) := by decide +kernel
theorem dX8_digest_145 : decode cX8_digest 145 = .ok (.iload_n 3, 1) := by decide +kernel
theorem dX8_digest_146 : decode cX8_digest 146 = .ok (.iaload, 1) := by decide +kernel
theorem dX8_digest_147 : decode cX8_digest 147 = .ok (.i2l, 1) := by decide +kernel
theorem dX8_digest_148 : decode cX8_digest 148 = .ok (.ladd, 1) := by decide +kernel
theorem dX8_digest_149 : decode cX8_digest 149 = .ok (.ldc2_w 431, 3) := by decide +kernel
theorem dX8_digest_152 : decode cX8_digest 152 = .ok (.lmul, 1) := by decide +kernel
theorem dX8_digest_153 : decode cX8_digest 153 = .ok (.aload_n 0, 1) := by decide +kernel
theorem dX8_digest_154 : decode cX8_digest 154 = .ok (.getfield 59, 3) := by decide +kernel
theorem dX8_digest_157 : decode cX8_digest 157 = .ok (.iload_n 3, 1) := by decide +kernel
theorem dX8_digest_158 : decode cX8_digest 158 = .ok (.iaload, 1) := by decide +kernel
theorem dX8_digest_159 : decode cX8_digest 159 = .ok (.i2l, 1) := by decide +kernel
theorem dX8_digest_160 : decode cX8_digest 160 = .ok (.ladd, 1) := by decide +kernel
theorem dX8_digest_161 : decode cX8_digest 161 = .ok (.lstore_n 1, 1) := by decide +kernel
theorem dX8_digest_162 : decode cX8_digest 162 = .ok (.iinc 3 1, 3) := by decide +kernel
theorem dX8_digest_165 : decode cX8_digest 165 = .ok (.goto (-100), 3) := by decide +kernel
theorem dX8_digest_168 : decode cX8_digest 168 = .ok (.iconst 0, 1) := by decide +kernel
theorem dX8_digest_169 : decode cX8_digest 169 = .ok (.istore_n 3, 1) := by decide +kernel
theorem dX8_digest_170 : decode cX8_digest 170 = .ok (.iload_n 3, 1) := by decide +kernel
theorem dX8_digest_171 : decode cX8_digest 171 = .ok (.iconst 3, 1) := by decide +kernel
theorem dX8_digest_172 : decode cX8_digest 172 = .ok (.if_icmp .ge 22, 3) := by decide +kernel
theorem dX8_digest_175 : decode cX8_digest 175 = .ok (.lload_n 1, 1) := by decide +kernel
theorem dX8_digest_176 : decode cX8_digest 176 = .ok (.ldc2_w 431, 3) := by decide +kernel
theorem dX8_digest_179 : decode cX8_digest 179 = .ok (.lmul, 1) := by decide +kernel
theorem dX8_digest_180 : decode cX8_digest 180 = .ok (.aload_n 0, 1) := by decide +kernel
theorem dX8_digest_181 : decode cX8_digest 181 = .ok (.getfield 117, 3) := by decide +kernel
theorem dX8_digest_184 : decode cX8_digest 184 = .ok (.iload_n 3, 1) := by decide +kernel
theorem dX8_digest_185 : decode cX8_digest 185 = .ok (.laload, 1) := by decide +kernel
theorem dX8_digest_186 : decode cX8_digest 186 = .ok (.ladd, 1) := by decide +kernel
theorem dX8_digest_187 : decode cX8_digest 187 = .ok (.lstore_n 1, 1) := by decide +kernel
theorem dX8_digest_188 : decode cX8_digest 188 = .ok (.iinc 3 1, 3) := by decide +kernel
theorem dX8_digest_191 : decode cX8_digest 191 = .ok (.goto (-21), 3) := by decide +kernel
theorem dX8_digest_194 : decode cX8_digest 194 = .ok (.lload_n 1, 1) := by decide +kernel
theorem dX8_digest_195 : decode cX8_digest 195 = .ok (.ldc2_w 431, 3) := by decide +kernel
theorem dX8_digest_198 : decode cX8_digest 198 = .ok (.lmul, 1) := by decide +kernel
theorem dX8_digest_199 : decode cX8_digest 199 = .ok (.aload_n 0, 1) := by decide +kernel
theorem dX8_digest_200 : decode cX8_digest 200 = .ok (.getfield 194, 3) := by decide +kernel
theorem dX8_digest_203 : decode cX8_digest 203 = .ok (.i2l, 1) := by decide +kernel
theorem dX8_digest_204 : decode cX8_digest 204 = .ok (.ladd, 1) := by decide +kernel
theorem dX8_digest_205 : decode cX8_digest 205 = .ok (.ldc2_w 431, 3) := by decide +kernel
theorem dX8_digest_208 : decode cX8_digest 208 = .ok (.lmul, 1) := by decide +kernel
theorem dX8_digest_209 : decode cX8_digest 209 = .ok (.aload_n 0, 1) := by decide +kernel
theorem dX8_digest_210 : decode cX8_digest 210 = .ok (.getfield 197, 3) := by decide +kernel
theorem dX8_digest_213 : decode cX8_digest 213 = .ok (.i2l, 1) := by decide +kernel
theorem dX8_digest_214 : decode cX8_digest 214 = .ok (.ladd, 1) := by decide +kernel
theorem dX8_digest_215 : decode cX8_digest 215 = .ok (.lreturn, 1) := by decide +kernel
def lb_X8_digest_12 (K : Option Nat → Int64 → Int32 → ym_H → Option ((Int64) × ym_H)) (N : Nat) (w0 : Option Nat) (w1 : Int64) (w3 : Int32) (h : ym_H) : Option ((Int64) × ym_H) :=
  Option.bind (ym_gI h w0 8 0) fun v14 =>
  if v14 ≤ w3 then
    some (w1, h)
  else
    Option.bind (ym_gR h w0 8 1) fun v26 =>
    Option.bind (ym_ldI h v26 w3) fun v30 =>
    Option.bind (ym_gR h w0 8 3) fun v38 =>
    Option.bind (ym_ldL h v38 w3) fun v42 =>
    K w0 ((((w1 * 31) + (Int32.toInt64 v30)) * 31) + v42) (w3 + 1) h
set_option maxRecDepth 20000 in
set_option maxHeartbeats 4000000 in
theorem ol_X8_digest_12 {D : ym_D} {b0 : Nat} {K : Option Nat → Int64 → Int32 → ym_H → Option ((Int64) × ym_H)} {N : Nat} {w0 : Option Nat} {w1 : Int64} {w3 : Int32} {h h1 : ym_H} {x : (Int64)} (hKl : ∀ (u1 : Int64) (u3 : Int32) (h h1 : ym_H) (x : (Int64)), K w0 u1 u3 h = some (x, h1) → ∀ {r0 : Option Value} {h' : ym_H}, ym_Y D b0 g_X8_digest 3 51 [(0, va_rf w0), (1, .long x)] [] h1 r0 h' → ym_Y D b0 g_X8_digest 3 12 [(0, va_rf w0), (1, .long u1), (3, .int u3)] [] h r0 h') (hf : lb_X8_digest_12 K N w0 w1 w3 h = some (x, h1)) {r0 : Option Value} {h' : ym_H} (k : ym_Y D b0 g_X8_digest 3 51 [(0, va_rf w0), (1, .long x)] [] h1 r0 h') : ym_Y D b0 g_X8_digest 3 12 [(0, va_rf w0), (1, .long w1), (3, .int w3)] [] h r0 h' := by
  unfold lb_X8_digest_12 at hf
  refine ym_iload_n (pc := 12) 2 dX8_digest_12 rfl rfl ?_
  refine ym_aload_n (pc := 13) 0 dX8_digest_13 rfl rfl ?_
  obtain ⟨v14, e14, hf⟩ := Option.bind_eq_some_iff.mp hf
  refine ym_get (pc := 14) dX8_digest_14 rfl (by decide) iX8 (k := 0) (by decide) wd_845 (ym_gI_v e14) ?_
  by_cases c17 : v14 ≤ w3
  · rw [if_pos c17] at hf
    refine ym_icmp_ge_y (pc := 17) (tgt := 51) dX8_digest_17 (by decide) c17 ?_
    cases hf
    exact ym_sub [0, 1] rfl k
  · rw [if_neg c17] at hf
    refine ym_icmp_ge_n (pc := 17) (tgt := 51) dX8_digest_17 (by decide) c17 ?_
    refine ym_lload_n (pc := 20) 1 dX8_digest_20 rfl rfl ?_
    refine ym_ldc2 (pc := 21) dX8_digest_21 wd_1438 ?_
    refine ym_lmul (pc := 24) dX8_digest_24 ?_
    refine ym_aload_n (pc := 25) 0 dX8_digest_25 rfl rfl ?_
    obtain ⟨v26, e26, hf⟩ := Option.bind_eq_some_iff.mp hf
    refine ym_get (pc := 26) dX8_digest_26 rfl (by decide) iX8 (k := 1) (by decide) wd_846 (ym_gR_v e26) ?_
    refine ym_iload_n (pc := 29) 2 dX8_digest_29 rfl rfl ?_
    obtain ⟨v30, e30, hf⟩ := Option.bind_eq_some_iff.mp hf
    refine ym_iald (pc := 30) dX8_digest_30 rfl (ym_ldI_v e30) ?_
    refine ym_i2l (pc := 31) dX8_digest_31 ?_
    refine ym_ladd (pc := 32) dX8_digest_32 ?_
    refine ym_ldc2 (pc := 33) dX8_digest_33 wd_1438 ?_
    refine ym_lmul (pc := 36) dX8_digest_36 ?_
    refine ym_aload_n (pc := 37) 0 dX8_digest_37 rfl rfl ?_
    obtain ⟨v38, e38, hf⟩ := Option.bind_eq_some_iff.mp hf
    refine ym_get (pc := 38) dX8_digest_38 rfl (by decide) iX8 (k := 3) (by decide) wd_848 (ym_gR_v e38) ?_
    refine ym_iload_n (pc := 41) 2 dX8_digest_41 rfl rfl ?_
    obtain ⟨v42, e42, hf⟩ := Option.bind_eq_some_iff.mp hf
    refine ym_lald (pc := 42) dX8_digest_42 rfl (ym_ldL_v e42) ?_
    refine ym_ladd (pc := 43) dX8_digest_43 ?_
    refine ym_lstore_n (pc := 44) (lv' := [(1, .long ((((w1 * 31) + (Int32.toInt64 v30)) * 31) + v42)), (0, va_rf w0), (3, .int w3)]) dX8_digest_44 rfl (by decide) ⟨ym_c1 w0, trivial, trivial, trivial⟩ rfl ?_
    refine ym_iinc (pc := 45) (lv' := [(3, .int (w3 + 1)), (1, .long ((((w1 * 31) + (Int32.toInt64 v30)) * 31) + v42)), (0, va_rf w0)]) (v := (w3 + 1)) 2 dX8_digest_45 rfl (by rw [show Int32.ofInt 1 = 1 by decide]) (by decide) ⟨trivial, trivial, trivial, trivial⟩ rfl ?_
    refine ym_goto (pc := 48) (tgt := 12) dX8_digest_48 (by decide) ?_
    exact ym_sub [2, 1, 0] rfl (hKl _ _ _ _ _ hf k)
def lp_X8_digest_12 (N : Nat) : Nat → Option Nat → Int64 → Int32 → ym_H → Option ((Int64) × ym_H)
  | 0, _, _, _, _ => none
  | n + 1, w0, w1, w3, h => lb_X8_digest_12 (lp_X8_digest_12 N n) N w0 w1 w3 h
set_option maxRecDepth 20000 in
set_option maxHeartbeats 4000000 in
theorem ok_lp_X8_digest_12 {D : ym_D} {b0 : Nat} {N : Nat} {w0 : Option Nat} : ∀ (n : Nat) (w1 : Int64) (w3 : Int32) (h h1 : ym_H) (x : (Int64)), lp_X8_digest_12 N n w0 w1 w3 h = some (x, h1) → ∀ {r0 : Option Value} {h' : ym_H}, ym_Y D b0 g_X8_digest 3 51 [(0, va_rf w0), (1, .long x)] [] h1 r0 h' → ym_Y D b0 g_X8_digest 3 12 [(0, va_rf w0), (1, .long w1), (3, .int w3)] [] h r0 h' := by
  intro n
  induction n with
  | zero =>
    intro w1 w3 h h1 x hf
    cases hf
  | succ n ih =>
    intro w1 w3 h h1 x hf r0 h' k
    exact ol_X8_digest_12 (fun w1 w3 h h1 x z r0 h' k => ih w1 w3 h h1 x z k) hf k
theorem sc_X8_digest_X8_standing : ym_site g_X8_digest g_X8_standing 3 1 1 := ⟨by decide, by decide, wd_1107, wd_83, by decide +kernel⟩
theorem sc_X8_digest_X8_standingSum : ym_site g_X8_digest g_X8_standingSum 3 2 1 := ⟨by decide, by decide, wd_1111, wd_83, by decide +kernel⟩
def lb_X8_digest_65 (K : Option Nat → Int64 → Int32 → ym_H → Option ((Int64) × ym_H)) (N : Nat) (w0 : Option Nat) (w1 : Int64) (w3 : Int32) (h : ym_H) : Option ((Int64) × ym_H) :=
  Option.bind (ym_gI h w0 8 4) fun v67 =>
  if v67 ≤ w3 then
    some (w1, h)
  else
    Option.bind (ym_gR h w0 8 5) fun v79 =>
    Option.bind (ym_ldI h v79 w3) fun v83 =>
    Option.bind (ym_gR h w0 8 9) fun v91 =>
    Option.bind (ym_ldI h v91 w3) fun v95 =>
    Option.bind (ym_ob h w0 8) fun o106 =>
    Option.bind (fn_X8_standing N w0 w3 h) fun q106 =>
    Option.bind (ym_ob q106.2 w0 8) fun o117 =>
    Option.bind (fn_X8_standingSum N w0 w3 q106.2) fun q117 =>
    Option.bind (ym_gR q117.2 w0 8 13) fun v128 =>
    Option.bind (ym_ldI q117.2 v128 w3) fun v132 =>
    Option.bind (ym_gR q117.2 w0 8 12) fun v142 =>
    Option.bind (ym_ldI q117.2 v142 w3) fun v146 =>
    Option.bind (ym_gR q117.2 w0 8 19) fun v154 =>
    Option.bind (ym_ldI q117.2 v154 w3) fun v158 =>
    K w0 ((((((((((((((w1 * 31) + (Int32.toInt64 v83)) * 31) + (Int32.toInt64 v95)) * 31) + (Int32.toInt64 q106.1)) * 31) + q117.1) * 31) + (Int32.toInt64 v132)) * 31) + (Int32.toInt64 v146)) * 31) + (Int32.toInt64 v158)) (w3 + 1) q117.2
set_option maxRecDepth 20000 in
set_option maxHeartbeats 4000000 in
theorem ol_X8_digest_65 {D : ym_D} {b0 : Nat} {K : Option Nat → Int64 → Int32 → ym_H → Option ((Int64) × ym_H)} {N : Nat} {w0 : Option Nat} {w1 : Int64} {w3 : Int32} {h h1 : ym_H} {x : (Int64)} (hKl : ∀ (u1 : Int64) (u3 : Int32) (h h1 : ym_H) (x : (Int64)), K w0 u1 u3 h = some (x, h1) → ∀ {r0 : Option Value} {h' : ym_H}, ym_Y D b0 g_X8_digest 3 168 [(0, va_rf w0), (1, .long x)] [] h1 r0 h' → ym_Y D b0 g_X8_digest 3 65 [(0, va_rf w0), (1, .long u1), (3, .int u3)] [] h r0 h') (hf : lb_X8_digest_65 K N w0 w1 w3 h = some (x, h1)) {r0 : Option Value} {h' : ym_H} (k : ym_Y D b0 g_X8_digest 3 168 [(0, va_rf w0), (1, .long x)] [] h1 r0 h') : ym_Y D b0 g_X8_digest 3 65 [(0, va_rf w0), (1, .long w1), (3, .int w3)] [] h r0 h' := by
  unfold lb_X8_digest_65 at hf
  refine ym_iload_n (pc := 65) 2 dX8_digest_65 rfl rfl ?_
  refine ym_aload_n (pc := 66) 0 dX8_digest_66 rfl rfl ?_
  obtain ⟨v67, e67, hf⟩ := Option.bind_eq_some_iff.mp hf
  refine ym_get (pc := 67) dX8_digest_67 rfl (by decide) iX8 (k := 4) (by decide) wd_849 (ym_gI_v e67) ?_
  by_cases c70 : v67 ≤ w3
  · rw [if_pos c70] at hf
    refine ym_icmp_ge_y (pc := 70) (tgt := 168) dX8_digest_70 (by decide) c70 ?_
    cases hf
    exact ym_sub [0, 1] rfl k
  · rw [if_neg c70] at hf
    refine ym_icmp_ge_n (pc := 70) (tgt := 168) dX8_digest_70 (by decide) c70 ?_
    refine ym_lload_n (pc := 73) 1 dX8_digest_73 rfl rfl ?_
    refine ym_ldc2 (pc := 74) dX8_digest_74 wd_1438 ?_
    refine ym_lmul (pc := 77) dX8_digest_77 ?_
    refine ym_aload_n (pc := 78) 0 dX8_digest_78 rfl rfl ?_
    obtain ⟨v79, e79, hf⟩ := Option.bind_eq_some_iff.mp hf
    refine ym_get (pc := 79) dX8_digest_79 rfl (by decide) iX8 (k := 5) (by decide) wd_850 (ym_gR_v e79) ?_
    refine ym_iload_n (pc := 82) 2 dX8_digest_82 rfl rfl ?_
    obtain ⟨v83, e83, hf⟩ := Option.bind_eq_some_iff.mp hf
    refine ym_iald (pc := 83) dX8_digest_83 rfl (ym_ldI_v e83) ?_
    refine ym_i2l (pc := 84) dX8_digest_84 ?_
    refine ym_ladd (pc := 85) dX8_digest_85 ?_
    refine ym_ldc2 (pc := 86) dX8_digest_86 wd_1438 ?_
    refine ym_lmul (pc := 89) dX8_digest_89 ?_
    refine ym_aload_n (pc := 90) 0 dX8_digest_90 rfl rfl ?_
    obtain ⟨v91, e91, hf⟩ := Option.bind_eq_some_iff.mp hf
    refine ym_get (pc := 91) dX8_digest_91 rfl (by decide) iX8 (k := 9) (by decide) wd_854 (ym_gR_v e91) ?_
    refine ym_iload_n (pc := 94) 2 dX8_digest_94 rfl rfl ?_
    obtain ⟨v95, e95, hf⟩ := Option.bind_eq_some_iff.mp hf
    refine ym_iald (pc := 95) dX8_digest_95 rfl (ym_ldI_v e95) ?_
    refine ym_i2l (pc := 96) dX8_digest_96 ?_
    refine ym_ladd (pc := 97) dX8_digest_97 ?_
    refine ym_lstore_n (pc := 98) (lv' := [(1, .long ((((w1 * 31) + (Int32.toInt64 v83)) * 31) + (Int32.toInt64 v95))), (0, va_rf w0), (3, .int w3)]) dX8_digest_98 rfl (by decide) ⟨ym_c1 w0, trivial, trivial, trivial⟩ rfl ?_
    refine ym_lload_n (pc := 99) 0 dX8_digest_99 rfl rfl ?_
    refine ym_ldc2 (pc := 100) dX8_digest_100 wd_1438 ?_
    refine ym_lmul (pc := 103) dX8_digest_103 ?_
    refine ym_aload_n (pc := 104) 1 dX8_digest_104 rfl rfl ?_
    refine ym_iload_n (pc := 105) 2 dX8_digest_105 rfl rfl ?_
    obtain ⟨o106, f106, hf⟩ := Option.bind_eq_some_iff.mp hf
    obtain ⟨q106, e106, hf⟩ := Option.bind_eq_some_iff.mp hf
    refine ym_callV (pc := 106) (G2 := g_X8_standing) (dep2 := 1) (As := [.int w3]) (st := [.long (((((w1 * 31) + (Int32.toInt64 v83)) * 31) + (Int32.toInt64 v95)) * 31)]) (stk2 := [.int q106.1, .long (((((w1 * 31) + (Int32.toInt64 v83)) * 31) + (Int32.toInt64 v95)) * 31)]) (r2 := (some (.int q106.1))) (h1 := q106.2) dX8_digest_106 (ok_X8_standing e106) (sc_X8_digest_X8_standing) wd_1104 wd_1106 wd_37 (ci := 8) (q0 := (RX8, TX8, 58)) rfl (by decide) rfl f106 rfl rfl (ym_st4 (Nat.le_of_ble_eq_true rfl)) rfl ?_
    refine ym_i2l (pc := 109) dX8_digest_109 ?_
    refine ym_ladd (pc := 110) dX8_digest_110 ?_
    refine ym_ldc2 (pc := 111) dX8_digest_111 wd_1438 ?_
    refine ym_lmul (pc := 114) dX8_digest_114 ?_
    refine ym_aload_n (pc := 115) 1 dX8_digest_115 rfl rfl ?_
    refine ym_iload_n (pc := 116) 2 dX8_digest_116 rfl rfl ?_
    obtain ⟨o117, f117, hf⟩ := Option.bind_eq_some_iff.mp hf
    obtain ⟨q117, e117, hf⟩ := Option.bind_eq_some_iff.mp hf
    refine ym_callV (pc := 117) (G2 := g_X8_standingSum) (dep2 := 2) (As := [.int w3]) (st := [.long (((((((w1 * 31) + (Int32.toInt64 v83)) * 31) + (Int32.toInt64 v95)) * 31) + (Int32.toInt64 q106.1)) * 31)]) (stk2 := [.long q117.1, .long (((((((w1 * 31) + (Int32.toInt64 v83)) * 31) + (Int32.toInt64 v95)) * 31) + (Int32.toInt64 q106.1)) * 31)]) (r2 := (some (.long q117.1))) (h1 := q117.2) dX8_digest_117 (ok_X8_standingSum e117) (sc_X8_digest_X8_standingSum) wd_1108 wd_1110 wd_38 (ci := 8) (q0 := (RX8, TX8, 58)) rfl (by decide) rfl f117 rfl rfl (ym_st4 (Nat.le_of_ble_eq_true rfl)) rfl ?_
    refine ym_ladd (pc := 120) dX8_digest_120 ?_
    refine ym_lstore_n (pc := 121) (lv' := [(1, .long ((((((((w1 * 31) + (Int32.toInt64 v83)) * 31) + (Int32.toInt64 v95)) * 31) + (Int32.toInt64 q106.1)) * 31) + q117.1)), (0, va_rf w0), (3, .int w3)]) dX8_digest_121 rfl (by decide) ⟨trivial, ym_c1 w0, trivial, trivial⟩ rfl ?_
    refine ym_lload_n (pc := 122) 0 dX8_digest_122 rfl rfl ?_
    refine ym_ldc2 (pc := 123) dX8_digest_123 wd_1438 ?_
    refine ym_lmul (pc := 126) dX8_digest_126 ?_
    refine ym_aload_n (pc := 127) 1 dX8_digest_127 rfl rfl ?_
    obtain ⟨v128, e128, hf⟩ := Option.bind_eq_some_iff.mp hf
    refine ym_get (pc := 128) dX8_digest_128 rfl (by decide) iX8 (k := 13) (by decide) wd_858 (ym_gR_v e128) ?_
    refine ym_iload_n (pc := 131) 2 dX8_digest_131 rfl rfl ?_
    obtain ⟨v132, e132, hf⟩ := Option.bind_eq_some_iff.mp hf
    refine ym_iald (pc := 132) dX8_digest_132 rfl (ym_ldI_v e132) ?_
    refine ym_i2l (pc := 133) dX8_digest_133 ?_
    refine ym_ladd (pc := 134) dX8_digest_134 ?_
    refine ym_lstore_n (pc := 135) (lv' := [(1, .long ((((((((((w1 * 31) + (Int32.toInt64 v83)) * 31) + (Int32.toInt64 v95)) * 31) + (Int32.toInt64 q106.1)) * 31) + q117.1) * 31) + (Int32.toInt64 v132))), (0, va_rf w0), (3, .int w3)]) dX8_digest_135 rfl (by decide) ⟨trivial, ym_c1 w0, trivial, trivial⟩ rfl ?_
    refine ym_lload_n (pc := 136) 0 dX8_digest_136 rfl rfl ?_
    refine ym_ldc2 (pc := 137) dX8_digest_137 wd_1438 ?_
    refine ym_lmul (pc := 140) dX8_digest_140 ?_
    refine ym_aload_n (pc := 141) 1 dX8_digest_141 rfl rfl ?_
    obtain ⟨v142, e142, hf⟩ := Option.bind_eq_some_iff.mp hf
    refine ym_get (pc := 142) dX8_digest_142 rfl (by decide) iX8 (k := 12) (by decide) wd_857 (ym_gR_v e142) ?_
    refine ym_iload_n (pc := 145) 2 dX8_digest_145 rfl rfl ?_
    obtain ⟨v146, e146, hf⟩ := Option.bind_eq_some_iff.mp hf
    refine ym_iald (pc := 146) dX8_digest_146 rfl (ym_ldI_v e146) ?_
    refine ym_i2l (pc := 147) dX8_digest_147 ?_
    refine ym_ladd (pc := 148) dX8_digest_148 ?_
    refine ym_ldc2 (pc := 149) dX8_digest_149 wd_1438 ?_
    refine ym_lmul (pc := 152) dX8_digest_152 ?_
    refine ym_aload_n (pc := 153) 1 dX8_digest_153 rfl rfl ?_
    obtain ⟨v154, e154, hf⟩ := Option.bind_eq_some_iff.mp hf
    refine ym_get (pc := 154) dX8_digest_154 rfl (by decide) iX8 (k := 19) (by decide) wd_864 (ym_gR_v e154) ?_
    refine ym_iload_n (pc := 157) 2 dX8_digest_157 rfl rfl ?_
    obtain ⟨v158, e158, hf⟩ := Option.bind_eq_some_iff.mp hf
    refine ym_iald (pc := 158) dX8_digest_158 rfl (ym_ldI_v e158) ?_
    refine ym_i2l (pc := 159) dX8_digest_159 ?_
    refine ym_ladd (pc := 160) dX8_digest_160 ?_
    refine ym_lstore_n (pc := 161) (lv' := [(1, .long ((((((((((((((w1 * 31) + (Int32.toInt64 v83)) * 31) + (Int32.toInt64 v95)) * 31) + (Int32.toInt64 q106.1)) * 31) + q117.1) * 31) + (Int32.toInt64 v132)) * 31) + (Int32.toInt64 v146)) * 31) + (Int32.toInt64 v158))), (0, va_rf w0), (3, .int w3)]) dX8_digest_161 rfl (by decide) ⟨trivial, ym_c1 w0, trivial, trivial⟩ rfl ?_
    refine ym_iinc (pc := 162) (lv' := [(3, .int (w3 + 1)), (1, .long ((((((((((((((w1 * 31) + (Int32.toInt64 v83)) * 31) + (Int32.toInt64 v95)) * 31) + (Int32.toInt64 q106.1)) * 31) + q117.1) * 31) + (Int32.toInt64 v132)) * 31) + (Int32.toInt64 v146)) * 31) + (Int32.toInt64 v158))), (0, va_rf w0)]) (v := (w3 + 1)) 2 dX8_digest_162 rfl (by rw [show Int32.ofInt 1 = 1 by decide]) (by decide) ⟨trivial, trivial, trivial, trivial⟩ rfl ?_
    refine ym_goto (pc := 165) (tgt := 65) dX8_digest_165 (by decide) ?_
    exact ym_sub [2, 1, 0] rfl (hKl _ _ _ _ _ hf k)
def lp_X8_digest_65 (N : Nat) : Nat → Option Nat → Int64 → Int32 → ym_H → Option ((Int64) × ym_H)
  | 0, _, _, _, _ => none
  | n + 1, w0, w1, w3, h => lb_X8_digest_65 (lp_X8_digest_65 N n) N w0 w1 w3 h
set_option maxRecDepth 20000 in
set_option maxHeartbeats 4000000 in
theorem ok_lp_X8_digest_65 {D : ym_D} {b0 : Nat} {N : Nat} {w0 : Option Nat} : ∀ (n : Nat) (w1 : Int64) (w3 : Int32) (h h1 : ym_H) (x : (Int64)), lp_X8_digest_65 N n w0 w1 w3 h = some (x, h1) → ∀ {r0 : Option Value} {h' : ym_H}, ym_Y D b0 g_X8_digest 3 168 [(0, va_rf w0), (1, .long x)] [] h1 r0 h' → ym_Y D b0 g_X8_digest 3 65 [(0, va_rf w0), (1, .long w1), (3, .int w3)] [] h r0 h' := by
  intro n
  induction n with
  | zero =>
    intro w1 w3 h h1 x hf
    cases hf
  | succ n ih =>
    intro w1 w3 h h1 x hf r0 h' k
    exact ol_X8_digest_65 (fun w1 w3 h h1 x z r0 h' k => ih w1 w3 h h1 x z k) hf k
def lb_X8_digest_170 (K : Option Nat → Int64 → Int32 → ym_H → Option ((Int64) × ym_H)) (N : Nat) (w0 : Option Nat) (w1 : Int64) (w3 : Int32) (h : ym_H) : Option ((Int64) × ym_H) :=
  if 3 ≤ w3 then
    some (w1, h)
  else
    Option.bind (ym_gR h w0 8 40) fun v181 =>
    Option.bind (ym_ldL h v181 w3) fun v185 =>
    K w0 ((w1 * 31) + v185) (w3 + 1) h
set_option maxRecDepth 20000 in
set_option maxHeartbeats 4000000 in
theorem ol_X8_digest_170 {D : ym_D} {b0 : Nat} {K : Option Nat → Int64 → Int32 → ym_H → Option ((Int64) × ym_H)} {N : Nat} {w0 : Option Nat} {w1 : Int64} {w3 : Int32} {h h1 : ym_H} {x : (Int64)} (hKl : ∀ (u1 : Int64) (u3 : Int32) (h h1 : ym_H) (x : (Int64)), K w0 u1 u3 h = some (x, h1) → ∀ {r0 : Option Value} {h' : ym_H}, ym_Y D b0 g_X8_digest 3 194 [(0, va_rf w0), (1, .long x)] [] h1 r0 h' → ym_Y D b0 g_X8_digest 3 170 [(0, va_rf w0), (1, .long u1), (3, .int u3)] [] h r0 h') (hf : lb_X8_digest_170 K N w0 w1 w3 h = some (x, h1)) {r0 : Option Value} {h' : ym_H} (k : ym_Y D b0 g_X8_digest 3 194 [(0, va_rf w0), (1, .long x)] [] h1 r0 h') : ym_Y D b0 g_X8_digest 3 170 [(0, va_rf w0), (1, .long w1), (3, .int w3)] [] h r0 h' := by
  unfold lb_X8_digest_170 at hf
  refine ym_iload_n (pc := 170) 2 dX8_digest_170 rfl rfl ?_
  refine ym_iconst (pc := 171) (v := 3) dX8_digest_171 (by decide) ?_
  by_cases c172 : 3 ≤ w3
  · rw [if_pos c172] at hf
    refine ym_icmp_ge_y (pc := 172) (tgt := 194) dX8_digest_172 (by decide) c172 ?_
    cases hf
    exact ym_sub [0, 1] rfl k
  · rw [if_neg c172] at hf
    refine ym_icmp_ge_n (pc := 172) (tgt := 194) dX8_digest_172 (by decide) c172 ?_
    refine ym_lload_n (pc := 175) 1 dX8_digest_175 rfl rfl ?_
    refine ym_ldc2 (pc := 176) dX8_digest_176 wd_1438 ?_
    refine ym_lmul (pc := 179) dX8_digest_179 ?_
    refine ym_aload_n (pc := 180) 0 dX8_digest_180 rfl rfl ?_
    obtain ⟨v181, e181, hf⟩ := Option.bind_eq_some_iff.mp hf
    refine ym_get (pc := 181) dX8_digest_181 rfl (by decide) iX8 (k := 40) (by decide) wd_885 (ym_gR_v e181) ?_
    refine ym_iload_n (pc := 184) 2 dX8_digest_184 rfl rfl ?_
    obtain ⟨v185, e185, hf⟩ := Option.bind_eq_some_iff.mp hf
    refine ym_lald (pc := 185) dX8_digest_185 rfl (ym_ldL_v e185) ?_
    refine ym_ladd (pc := 186) dX8_digest_186 ?_
    refine ym_lstore_n (pc := 187) (lv' := [(1, .long ((w1 * 31) + v185)), (0, va_rf w0), (3, .int w3)]) dX8_digest_187 rfl (by decide) ⟨ym_c1 w0, trivial, trivial, trivial⟩ rfl ?_
    refine ym_iinc (pc := 188) (lv' := [(3, .int (w3 + 1)), (1, .long ((w1 * 31) + v185)), (0, va_rf w0)]) (v := (w3 + 1)) 2 dX8_digest_188 rfl (by rw [show Int32.ofInt 1 = 1 by decide]) (by decide) ⟨trivial, trivial, trivial, trivial⟩ rfl ?_
    refine ym_goto (pc := 191) (tgt := 170) dX8_digest_191 (by decide) ?_
    exact ym_sub [2, 1, 0] rfl (hKl _ _ _ _ _ hf k)
def lp_X8_digest_170 (N : Nat) : Nat → Option Nat → Int64 → Int32 → ym_H → Option ((Int64) × ym_H)
  | 0, _, _, _, _ => none
  | n + 1, w0, w1, w3, h => lb_X8_digest_170 (lp_X8_digest_170 N n) N w0 w1 w3 h
set_option maxRecDepth 20000 in
set_option maxHeartbeats 4000000 in
theorem ok_lp_X8_digest_170 {D : ym_D} {b0 : Nat} {N : Nat} {w0 : Option Nat} : ∀ (n : Nat) (w1 : Int64) (w3 : Int32) (h h1 : ym_H) (x : (Int64)), lp_X8_digest_170 N n w0 w1 w3 h = some (x, h1) → ∀ {r0 : Option Value} {h' : ym_H}, ym_Y D b0 g_X8_digest 3 194 [(0, va_rf w0), (1, .long x)] [] h1 r0 h' → ym_Y D b0 g_X8_digest 3 170 [(0, va_rf w0), (1, .long w1), (3, .int w3)] [] h r0 h' := by
  intro n
  induction n with
  | zero =>
    intro w1 w3 h h1 x hf
    cases hf
  | succ n ih =>
    intro w1 w3 h h1 x hf r0 h' k
    exact ol_X8_digest_170 (fun w1 w3 h h1 x z r0 h' k => ih w1 w3 h h1 x z k) hf k
def fn_X8_digest (N : Nat) (a0 : Option Nat) (h : ym_H) : Option (Int64 × ym_H) :=
  Option.bind (ym_gI h a0 8 0) fun v4 =>
  Option.bind (lp_X8_digest_12 N N a0 (217 + (Int32.toInt64 v4)) 0 h) fun q12 =>
  Option.bind (ym_gI q12.2 a0 8 4) fun v57 =>
  Option.bind (lp_X8_digest_65 N N a0 ((q12.1 * 31) + (Int32.toInt64 v57)) 0 q12.2) fun q65 =>
  Option.bind (lp_X8_digest_170 N N a0 q65.1 0 q65.2) fun q170 =>
  Option.bind (ym_gI q170.2 a0 8 33) fun v200 =>
  Option.bind (ym_gI q170.2 a0 8 36) fun v210 =>
  some (((((q170.1 * 31) + (Int32.toInt64 v200)) * 31) + (Int32.toInt64 v210)), q170.2)
set_option maxRecDepth 20000 in
set_option maxHeartbeats 4000000 in
theorem ok_X8_digest {D : ym_D} {b0 : Nat} {N : Nat} {a0 : Option Nat} {h h' : ym_H} {r : Int64} (hf : fn_X8_digest N a0 h = some (r, h')) : ym_M D b0 g_X8_digest 3 [va_rf a0] h (some (.long r)) h' := by
  unfold fn_X8_digest at hf
  refine ym_meth (lv := [(0, va_rf a0)]) (by decide) (by simp [lg_sl, ym_c1, ym_cI, ym_cL, g_X8_digest]) (by simp [lv_args, ym_c1, ym_cI, ym_cL]) ?_
  refine ym_ldc2 (pc := 0) dX8_digest_0 wd_1437 ?_
  refine ym_aload_n (pc := 3) 0 dX8_digest_3 rfl rfl ?_
  obtain ⟨v4, e4, hf⟩ := Option.bind_eq_some_iff.mp hf
  refine ym_get (pc := 4) dX8_digest_4 rfl (by decide) iX8 (k := 0) (by decide) wd_845 (ym_gI_v e4) ?_
  refine ym_i2l (pc := 7) dX8_digest_7 ?_
  refine ym_ladd (pc := 8) dX8_digest_8 ?_
  refine ym_lstore_n (pc := 9) (lv' := [(1, .long (217 + (Int32.toInt64 v4))), (0, va_rf a0)]) dX8_digest_9 rfl (by decide) ⟨ym_c1 a0, trivial⟩ rfl ?_
  refine ym_iconst (pc := 10) (v := 0) dX8_digest_10 (by decide) ?_
  refine ym_istore_n (pc := 11) (lv' := [(3, .int 0), (1, .long (217 + (Int32.toInt64 v4))), (0, va_rf a0)]) dX8_digest_11 rfl (by decide) ⟨trivial, trivial, trivial⟩ rfl ?_
  obtain ⟨q12, e12, hf⟩ := Option.bind_eq_some_iff.mp hf
  refine ym_sub (lv' := [(0, va_rf a0), (1, .long (217 + (Int32.toInt64 v4))), (3, .int 0)]) [2, 1, 0] rfl ?_
  refine ok_lp_X8_digest_12 N _ _ _ _ _ e12 ?_
  refine ym_lload_n (pc := 51) 1 dX8_digest_51 rfl rfl ?_
  refine ym_ldc2 (pc := 52) dX8_digest_52 wd_1438 ?_
  refine ym_lmul (pc := 55) dX8_digest_55 ?_
  refine ym_aload_n (pc := 56) 0 dX8_digest_56 rfl rfl ?_
  obtain ⟨v57, e57, hf⟩ := Option.bind_eq_some_iff.mp hf
  refine ym_get (pc := 57) dX8_digest_57 rfl (by decide) iX8 (k := 4) (by decide) wd_849 (ym_gI_v e57) ?_
  refine ym_i2l (pc := 60) dX8_digest_60 ?_
  refine ym_ladd (pc := 61) dX8_digest_61 ?_
  refine ym_lstore_n (pc := 62) (lv' := [(1, .long ((q12.1 * 31) + (Int32.toInt64 v57))), (0, va_rf a0)]) dX8_digest_62 rfl (by decide) ⟨ym_c1 a0, trivial, trivial⟩ rfl ?_
  refine ym_iconst (pc := 63) (v := 0) dX8_digest_63 (by decide) ?_
  refine ym_istore_n (pc := 64) (lv' := [(3, .int 0), (1, .long ((q12.1 * 31) + (Int32.toInt64 v57))), (0, va_rf a0)]) dX8_digest_64 rfl (by decide) ⟨trivial, trivial, trivial⟩ rfl ?_
  obtain ⟨q65, e65, hf⟩ := Option.bind_eq_some_iff.mp hf
  refine ym_sub (lv' := [(0, va_rf a0), (1, .long ((q12.1 * 31) + (Int32.toInt64 v57))), (3, .int 0)]) [2, 1, 0] rfl ?_
  refine ok_lp_X8_digest_65 N _ _ _ _ _ e65 ?_
  refine ym_iconst (pc := 168) (v := 0) dX8_digest_168 (by decide) ?_
  refine ym_istore_n (pc := 169) (lv' := [(3, .int 0), (0, va_rf a0), (1, .long q65.1)]) dX8_digest_169 rfl (by decide) ⟨trivial, trivial, trivial⟩ rfl ?_
  obtain ⟨q170, e170, hf⟩ := Option.bind_eq_some_iff.mp hf
  refine ym_sub (lv' := [(0, va_rf a0), (1, .long q65.1), (3, .int 0)]) [1, 2, 0] rfl ?_
  refine ok_lp_X8_digest_170 N _ _ _ _ _ e170 ?_
  refine ym_lload_n (pc := 194) 1 dX8_digest_194 rfl rfl ?_
  refine ym_ldc2 (pc := 195) dX8_digest_195 wd_1438 ?_
  refine ym_lmul (pc := 198) dX8_digest_198 ?_
  refine ym_aload_n (pc := 199) 0 dX8_digest_199 rfl rfl ?_
  obtain ⟨v200, e200, hf⟩ := Option.bind_eq_some_iff.mp hf
  refine ym_get (pc := 200) dX8_digest_200 rfl (by decide) iX8 (k := 33) (by decide) wd_878 (ym_gI_v e200) ?_
  refine ym_i2l (pc := 203) dX8_digest_203 ?_
  refine ym_ladd (pc := 204) dX8_digest_204 ?_
  refine ym_ldc2 (pc := 205) dX8_digest_205 wd_1438 ?_
  refine ym_lmul (pc := 208) dX8_digest_208 ?_
  refine ym_aload_n (pc := 209) 0 dX8_digest_209 rfl rfl ?_
  obtain ⟨v210, e210, hf⟩ := Option.bind_eq_some_iff.mp hf
  refine ym_get (pc := 210) dX8_digest_210 rfl (by decide) iX8 (k := 36) (by decide) wd_881 (ym_gI_v e210) ?_
  refine ym_i2l (pc := 213) dX8_digest_213 ?_
  refine ym_ladd (pc := 214) dX8_digest_214 ?_
  cases hf
  exact ym_lret (pc := 215) dX8_digest_215 rfl
theorem dX8_end_0 : decode cX8_end 0 = .ok (.aload_n 0, 1) := by decide +kernel
theorem dX8_end_1 : decode cX8_end 1 = .ok (.bipush 24, 2) := by decide +kernel
theorem dX8_end_3 : decode cX8_end 3 = .ok (.iconst 0, 1) := by decide +kernel
theorem dX8_end_4 : decode cX8_end 4 = .ok (.iconst 0, 1) := by decide +kernel
theorem dX8_end_5 : decode cX8_end 5 = .ok (.iconst 0, 1) := by decide +kernel
theorem dX8_end_6 : decode cX8_end 6 = .ok (.lconst 0, 1) := by decide +kernel
theorem dX8_end_7 : decode cX8_end 7 = .ok (.lconst 0, 1) := by decide +kernel
theorem dX8_end_8 : decode cX8_end 8 = .ok (.invokevirtual 420, 3) := by decide +kernel
theorem dX8_end_11 : decode cX8_end 11 = .ok (.lreturn, 1) := by decide +kernel
theorem sc_X8_end_X8_act : ym_site g_X8_end g_X8_act 19 18 6 := ⟨by decide, by decide, wd_1028, wd_83, by decide +kernel⟩
def fn_X8_end (N : Nat) (a0 : Option Nat) (h : ym_H) : Option (Int64 × ym_H) :=
  Option.bind (ym_ob h a0 8) fun o8 =>
  Option.bind (fn_X8_act N a0 24 0 0 0 0 0 h) fun q8 =>
  some (q8.1, q8.2)
set_option maxRecDepth 20000 in
set_option maxHeartbeats 4000000 in
theorem ok_X8_end {D : ym_D} {b0 : Nat} {N : Nat} {a0 : Option Nat} {h h' : ym_H} {r : Int64} (hf : fn_X8_end N a0 h = some (r, h')) : ym_M D b0 g_X8_end 19 [va_rf a0] h (some (.long r)) h' := by
  unfold fn_X8_end at hf
  refine ym_meth (lv := [(0, va_rf a0)]) (by decide) (by simp [lg_sl, ym_c1, ym_cI, ym_cL, g_X8_end]) (by simp [lv_args, ym_c1, ym_cI, ym_cL]) ?_
  refine ym_aload_n (pc := 0) 0 dX8_end_0 rfl rfl ?_
  refine ym_bipush (pc := 1) (v := 24) dX8_end_1 (by decide) ?_
  refine ym_iconst (pc := 3) (v := 0) dX8_end_3 (by decide) ?_
  refine ym_iconst (pc := 4) (v := 0) dX8_end_4 (by decide) ?_
  refine ym_iconst (pc := 5) (v := 0) dX8_end_5 (by decide) ?_
  refine ym_lconst (pc := 6) (v := 0) dX8_end_6 (by decide) ?_
  refine ym_lconst (pc := 7) (v := 0) dX8_end_7 (by decide) ?_
  obtain ⟨o8, f8, hf⟩ := Option.bind_eq_some_iff.mp hf
  obtain ⟨q8, e8, hf⟩ := Option.bind_eq_some_iff.mp hf
  refine ym_callV (pc := 8) (G2 := g_X8_act) (dep2 := 18) (As := [.int 24, .int 0, .int 0, .int 0, .long 0, .long 0]) (st := []) (stk2 := [.long q8.1]) (r2 := (some (.long q8.1))) (h1 := q8.2) dX8_end_8 (ok_X8_act e8) (sc_X8_end_X8_act) wd_1025 wd_1027 wd_21 (ci := 8) (q0 := (RX8, TX8, 58)) rfl (by decide) rfl f8 rfl rfl (ym_st4 (Nat.le_of_ble_eq_true rfl)) rfl ?_
  cases hf
  exact ym_lret (pc := 11) dX8_end_11 rfl
theorem dX8_entries_0 : decode cX8_entries 0 = .ok (.aload_n 0, 1) := by decide +kernel
theorem dX8_entries_1 : decode cX8_entries 1 = .ok (.iload_n 1, 1) := by decide +kernel
theorem dX8_entries_2 : decode cX8_entries 2 = .ok (.invokevirtual 423, 3) := by decide +kernel
theorem dX8_entries_5 : decode cX8_entries 5 = .ok (.ifCond .eq 12, 3) := by decide +kernel
theorem dX8_entries_8 : decode cX8_entries 8 = .ok (.aload_n 0, 1) := by decide +kernel
theorem dX8_entries_9 : decode cX8_entries 9 = .ok (.getfield 44, 3) := by decide +kernel
theorem dX8_entries_12 : decode cX8_entries 12 = .ok (.iload_n 1, 1) := by decide +kernel
theorem dX8_entries_13 : decode cX8_entries 13 = .ok (.iaload, 1) := by decide +kernel
theorem dX8_entries_14 : decode cX8_entries 14 = .ok (.goto 4, 3) := by decide +kernel
theorem dX8_entries_17 : decode cX8_entries 17 = .ok (.iconst (-1), 1) := by decide +kernel
theorem dX8_entries_18 : decode cX8_entries 18 = .ok (.ireturn, 1) := by decide +kernel
theorem sc_X8_entries_X8_isLot : ym_site g_X8_entries g_X8_isLot 3 2 1 := ⟨by decide, by decide, wd_1372, wd_83, by decide +kernel⟩
def fn_X8_entries (N : Nat) (a0 : Option Nat) (a1 : Int32) (h : ym_H) : Option (Int32 × ym_H) :=
  Option.bind (ym_ob h a0 8) fun o2 =>
  Option.bind (fn_X8_isLot N a0 a1 h) fun q2 =>
  if q2.1 = 0 then
    some ((-1), q2.2)
  else
    Option.bind (ym_gR q2.2 a0 8 13) fun v9 =>
    Option.bind (ym_ldI q2.2 v9 a1) fun v13 =>
    some (v13, q2.2)
set_option maxRecDepth 20000 in
set_option maxHeartbeats 4000000 in
theorem ok_X8_entries {D : ym_D} {b0 : Nat} {N : Nat} {a0 : Option Nat} {a1 : Int32} {h h' : ym_H} {r : Int32} (hf : fn_X8_entries N a0 a1 h = some (r, h')) : ym_M D b0 g_X8_entries 3 [va_rf a0, .int a1] h (some (.int r)) h' := by
  unfold fn_X8_entries at hf
  refine ym_meth (lv := [(0, va_rf a0), (1, .int a1)]) (by decide) (by simp [lg_sl, ym_c1, ym_cI, ym_cL, g_X8_entries]) (by simp [lv_args, ym_c1, ym_cI, ym_cL]) ?_
  refine ym_aload_n (pc := 0) 0 dX8_entries_0 rfl rfl ?_
  refine ym_iload_n (pc := 1) 1 dX8_entries_1 rfl rfl ?_
  obtain ⟨o2, f2, hf⟩ := Option.bind_eq_some_iff.mp hf
  obtain ⟨q2, e2, hf⟩ := Option.bind_eq_some_iff.mp hf
  refine ym_callV (pc := 2) (G2 := g_X8_isLot) (dep2 := 2) (As := [.int a1]) (st := []) (stk2 := [.int q2.1]) (r2 := (some (.int q2.1))) (h1 := q2.2) dX8_entries_2 (ok_X8_isLot e2) (sc_X8_entries_X8_isLot) wd_1369 wd_1371 wd_73 (ci := 8) (q0 := (RX8, TX8, 58)) rfl (by decide) rfl f2 rfl rfl (ym_st4 (Nat.le_of_ble_eq_true rfl)) rfl ?_
  by_cases c5 : q2.1 = 0
  · rw [if_pos c5] at hf
    refine ym_if_eq_y (pc := 5) (tgt := 17) dX8_entries_5 (by decide) c5 ?_
    refine ym_iconst (pc := 17) (v := (-1)) dX8_entries_17 (by decide) ?_
    cases hf
    exact ym_iret (pc := 18) dX8_entries_18 rfl
  · rw [if_neg c5] at hf
    refine ym_if_eq_n (pc := 5) (tgt := 17) dX8_entries_5 (by decide) c5 ?_
    refine ym_aload_n (pc := 8) 0 dX8_entries_8 rfl rfl ?_
    obtain ⟨v9, e9, hf⟩ := Option.bind_eq_some_iff.mp hf
    refine ym_get (pc := 9) dX8_entries_9 rfl (by decide) iX8 (k := 13) (by decide) wd_858 (ym_gR_v e9) ?_
    refine ym_iload_n (pc := 12) 1 dX8_entries_12 rfl rfl ?_
    obtain ⟨v13, e13, hf⟩ := Option.bind_eq_some_iff.mp hf
    refine ym_iald (pc := 13) dX8_entries_13 rfl (ym_ldI_v e13) ?_
    refine ym_goto (pc := 14) (tgt := 18) dX8_entries_14 (by decide) ?_
    cases hf
    exact ym_iret (pc := 18) dX8_entries_18 rfl
theorem dX8_hammer_0 : decode cX8_hammer 0 = .ok (.aload_n 0, 1) := by decide +kernel
theorem dX8_hammer_1 : decode cX8_hammer 1 = .ok (.bipush 14, 2) := by decide +kernel
theorem dX8_hammer_3 : decode cX8_hammer 3 = .ok (.iload_n 1, 1) := by decide +kernel
theorem dX8_hammer_4 : decode cX8_hammer 4 = .ok (.iconst 0, 1) := by decide +kernel
theorem dX8_hammer_5 : decode cX8_hammer 5 = .ok (.iconst 0, 1) := by decide +kernel
theorem dX8_hammer_6 : decode cX8_hammer 6 = .ok (.lconst 0, 1) := by decide +kernel
theorem dX8_hammer_7 : decode cX8_hammer 7 = .ok (.lconst 0, 1) := by decide +kernel
theorem dX8_hammer_8 : decode cX8_hammer 8 = .ok (.invokevirtual 420, 3) := by decide +kernel
theorem dX8_hammer_11 : decode cX8_hammer 11 = .ok (.lreturn, 1) := by decide +kernel
theorem sc_X8_hammer_X8_act : ym_site g_X8_hammer g_X8_act 19 18 6 := ⟨by decide, by decide, wd_1028, wd_83, by decide +kernel⟩
def fn_X8_hammer (N : Nat) (a0 : Option Nat) (a1 : Int32) (h : ym_H) : Option (Int64 × ym_H) :=
  Option.bind (ym_ob h a0 8) fun o8 =>
  Option.bind (fn_X8_act N a0 14 a1 0 0 0 0 h) fun q8 =>
  some (q8.1, q8.2)
set_option maxRecDepth 20000 in
set_option maxHeartbeats 4000000 in
theorem ok_X8_hammer {D : ym_D} {b0 : Nat} {N : Nat} {a0 : Option Nat} {a1 : Int32} {h h' : ym_H} {r : Int64} (hf : fn_X8_hammer N a0 a1 h = some (r, h')) : ym_M D b0 g_X8_hammer 19 [va_rf a0, .int a1] h (some (.long r)) h' := by
  unfold fn_X8_hammer at hf
  refine ym_meth (lv := [(0, va_rf a0), (1, .int a1)]) (by decide) (by simp [lg_sl, ym_c1, ym_cI, ym_cL, g_X8_hammer]) (by simp [lv_args, ym_c1, ym_cI, ym_cL]) ?_
  refine ym_aload_n (pc := 0) 0 dX8_hammer_0 rfl rfl ?_
  refine ym_bipush (pc := 1) (v := 14) dX8_hammer_1 (by decide) ?_
  refine ym_iload_n (pc := 3) 1 dX8_hammer_3 rfl rfl ?_
  refine ym_iconst (pc := 4) (v := 0) dX8_hammer_4 (by decide) ?_
  refine ym_iconst (pc := 5) (v := 0) dX8_hammer_5 (by decide) ?_
  refine ym_lconst (pc := 6) (v := 0) dX8_hammer_6 (by decide) ?_
  refine ym_lconst (pc := 7) (v := 0) dX8_hammer_7 (by decide) ?_
  obtain ⟨o8, f8, hf⟩ := Option.bind_eq_some_iff.mp hf
  obtain ⟨q8, e8, hf⟩ := Option.bind_eq_some_iff.mp hf
  refine ym_callV (pc := 8) (G2 := g_X8_act) (dep2 := 18) (As := [.int 14, .int a1, .int 0, .int 0, .long 0, .long 0]) (st := []) (stk2 := [.long q8.1]) (r2 := (some (.long q8.1))) (h1 := q8.2) dX8_hammer_8 (ok_X8_act e8) (sc_X8_hammer_X8_act) wd_1025 wd_1027 wd_21 (ci := 8) (q0 := (RX8, TX8, 58)) rfl (by decide) rfl f8 rfl rfl (ym_st4 (Nat.le_of_ble_eq_true rfl)) rfl ?_
  cases hf
  exact ym_lret (pc := 11) dX8_hammer_11 rfl
theorem dX8_init_0 : decode cX8_init 0 = .ok (.aload_n 0, 1) := by decide +kernel
theorem dX8_init_1 : decode cX8_init 1 = .ok (.invokespecial 1, 3) := by decide +kernel
theorem dX8_init_4 : decode cX8_init 4 = .ok (.aload_n 0, 1) := by decide +kernel
theorem dX8_init_5 : decode cX8_init 5 = .ok (.sipush 200, 3) := by decide +kernel
theorem dX8_init_8 : decode cX8_init 8 = .ok (.newarray .int, 2) := by decide +kernel
theorem dX8_init_10 : decode cX8_init 10 = .ok (.putfield 9, 3) := by decide +kernel
theorem dX8_init_13 : decode cX8_init 13 = .ok (.aload_n 0, 1) := by decide +kernel
theorem dX8_init_14 : decode cX8_init 14 = .ok (.sipush 200, 3) := by decide +kernel
theorem dX8_init_17 : decode cX8_init 17 = .ok (.newarray .long, 2) := by decide +kernel
theorem dX8_init_19 : decode cX8_init 19 = .ok (.putfield 13, 3) := by decide +kernel
theorem dX8_init_22 : decode cX8_init 22 = .ok (.aload_n 0, 1) := by decide +kernel
theorem dX8_init_23 : decode cX8_init 23 = .ok (.sipush 200, 3) := by decide +kernel
theorem dX8_init_26 : decode cX8_init 26 = .ok (.newarray .long, 2) := by decide +kernel
theorem dX8_init_28 : decode cX8_init 28 = .ok (.putfield 17, 3) := by decide +kernel
theorem dX8_init_31 : decode cX8_init 31 = .ok (.aload_n 0, 1) := by decide +kernel
theorem dX8_init_32 : decode cX8_init 32 = .ok (.sipush 400, 3) := by decide +kernel
theorem dX8_init_35 : decode cX8_init 35 = .ok (.newarray .int, 2) := by decide +kernel
theorem dX8_init_37 : decode cX8_init 37 = .ok (.putfield 20, 3) := by decide +kernel
theorem dX8_init_40 : decode cX8_init 40 = .ok (.aload_n 0, 1) := by decide +kernel
theorem dX8_init_41 : decode cX8_init 41 = .ok (.sipush 400, 3) := by decide +kernel
theorem dX8_init_44 : decode cX8_init 44 = .ok (.newarray .long, 2) := by decide +kernel
theorem dX8_init_46 : decode cX8_init 46 = .ok (.putfield 23, 3) := by decide +kernel
theorem dX8_init_49 : decode cX8_init 49 = .ok (.aload_n 0, 1) := by decide +kernel
theorem dX8_init_50 : decode cX8_init 50 = .ok (.sipush 400, 3) := by decide +kernel
theorem dX8_init_53 : decode cX8_init 53 = .ok (.newarray .long, 2) := by decide +kernel
theorem dX8_init_55 : decode cX8_init 55 = .ok (.putfield 26, 3) := by decide +kernel
theorem dX8_init_58 : decode cX8_init 58 = .ok (.aload_n 0, 1) := by decide +kernel
theorem dX8_init_59 : decode cX8_init 59 = .ok (.sipush 400, 3) := by decide +kernel
theorem dX8_init_62 : decode cX8_init 62 = .ok (.newarray .int, 2) := by decide +kernel
theorem dX8_init_64 : decode cX8_init 64 = .ok (.putfield 29, 3) := by decide +kernel
theorem dX8_init_67 : decode cX8_init 67 = .ok (.aload_n 0, 1) := by decide +kernel
theorem dX8_init_68 : decode cX8_init 68 = .ok (.sipush 400, 3) := by decide +kernel
theorem dX8_init_71 : decode cX8_init 71 = .ok (.newarray .int, 2) := by decide +kernel
theorem dX8_init_73 : decode cX8_init 73 = .ok (.putfield 32, 3) := by decide +kernel
theorem dX8_init_76 : decode cX8_init 76 = .ok (.aload_n 0, 1) := by decide +kernel
theorem dX8_init_77 : decode cX8_init 77 = .ok (.sipush 400, 3) := by decide +kernel
theorem dX8_init_80 : decode cX8_init 80 = .ok (.newarray .long, 2) := by decide +kernel
theorem dX8_init_82 : decode cX8_init 82 = .ok (.putfield 35, 3) := by decide +kernel
theorem dX8_init_85 : decode cX8_init 85 = .ok (.aload_n 0, 1) := by decide +kernel
theorem dX8_init_86 : decode cX8_init 86 = .ok (.sipush 1600, 3) := by decide +kernel
theorem dX8_init_89 : decode cX8_init 89 = .ok (.newarray .int, 2) := by decide +kernel
theorem dX8_init_91 : decode cX8_init 91 = .ok (.putfield 38, 3) := by decide +kernel
theorem dX8_init_94 : decode cX8_init 94 = .ok (.aload_n 0, 1) := by decide +kernel
theorem dX8_init_95 : decode cX8_init 95 = .ok (.sipush 400, 3) := by decide +kernel
theorem dX8_init_98 : decode cX8_init 98 = .ok (.newarray .int, 2) := by decide +kernel
theorem dX8_init_100 : decode cX8_init 100 = .ok (.putfield 41, 3) := by decide +kernel
theorem dX8_init_103 : decode cX8_init 103 = .ok (.aload_n 0, 1) := by decide +kernel
theorem dX8_init_104 : decode cX8_init 104 = .ok (.sipush 400, 3) := by decide +kernel
theorem dX8_init_107 : decode cX8_init 107 = .ok (.newarray .int, 2) := by decide +kernel
theorem dX8_init_109 : decode cX8_init 109 = .ok (.putfield 44, 3) := by decide +kernel
theorem dX8_init_112 : decode cX8_init 112 = .ok (.aload_n 0, 1) := by decide +kernel
theorem dX8_init_113 : decode cX8_init 113 = .ok (.sipush 400, 3) := by decide +kernel
theorem dX8_init_116 : decode cX8_init 116 = .ok (.newarray .int, 2) := by decide +kernel
theorem dX8_init_118 : decode cX8_init 118 = .ok (.putfield 47, 3) := by decide +kernel
theorem dX8_init_121 : decode cX8_init 121 = .ok (.aload_n 0, 1) := by decide +kernel
theorem dX8_init_122 : decode cX8_init 122 = .ok (.bipush 64, 2) := by decide +kernel
theorem dX8_init_124 : decode cX8_init 124 = .ok (.newarray .int, 2) := by decide +kernel
theorem dX8_init_126 : decode cX8_init 126 = .ok (.putfield 50, 3) := by decide +kernel
theorem dX8_init_129 : decode cX8_init 129 = .ok (.aload_n 0, 1) := by decide +kernel
theorem dX8_init_130 : decode cX8_init 130 = .ok (.bipush 64, 2) := by decide +kernel
theorem dX8_init_132 : decode cX8_init 132 = .ok (.newarray .long, 2) := by decide +kernel
theorem dX8_init_134 : decode cX8_init 134 = .ok (.putfield 53, 3) := by decide +kernel
theorem dX8_init_137 : decode cX8_init 137 = .ok (.aload_n 0, 1) := by decide +kernel
theorem dX8_init_138 : decode cX8_init 138 = .ok (.bipush 64, 2) := by decide +kernel
theorem dX8_init_140 : decode cX8_init 140 = .ok (.newarray .int, 2) := by decide +kernel
theorem dX8_init_142 : decode cX8_init 142 = .ok (.putfield 56, 3) := by decide +kernel
theorem dX8_init_145 : decode cX8_init 145 = .ok (.aload_n 0, 1) := by decide +kernel
theorem dX8_init_146 : decode cX8_init 146 = .ok (.sipush 400, 3) := by decide +kernel
theorem dX8_init_149 : decode cX8_init 149 = .ok (.newarray .int, 2) := by decide +kernel
theorem dX8_init_151 : decode cX8_init 151 = .ok (.putfield 59, 3) := by decide +kernel
theorem dX8_init_154 : decode cX8_init 154 = .ok (.aload_n 0, 1) := by decide +kernel
theorem dX8_init_155 : decode cX8_init 155 = .ok (.sipush 16000, 3) := by decide +kernel
theorem dX8_init_158 : decode cX8_init 158 = .ok (.newarray .int, 2) := by decide +kernel
theorem dX8_init_160 : decode cX8_init 160 = .ok (.putfield 62, 3) := by decide +kernel
theorem dX8_init_163 : decode cX8_init 163 = .ok (.aload_n 0, 1) := by decide +kernel
theorem dX8_init_164 : decode cX8_init 164 = .ok (.sipush 16000, 3) := by decide +kernel
theorem dX8_init_167 : decode cX8_init 167 = .ok (.newarray .long, 2) := by decide +kernel
theorem dX8_init_169 : decode cX8_init 169 = .ok (.putfield 65, 3) := by decide +kernel
theorem dX8_init_172 : decode cX8_init 172 = .ok (.aload_n 0, 1) := by decide +kernel
theorem dX8_init_173 : decode cX8_init 173 = .ok (.sipush 16000, 3) := by decide +kernel
theorem dX8_init_176 : decode cX8_init 176 = .ok (.newarray .int, 2) := by decide +kernel
theorem dX8_init_178 : decode cX8_init 178 = .ok (.putfield 68, 3) := by decide +kernel
theorem dX8_init_181 : decode cX8_init 181 = .ok (.aload_n 0, 1) := by decide +kernel
theorem dX8_init_182 : decode cX8_init 182 = .ok (.sipush 400, 3) := by decide +kernel
theorem dX8_init_185 : decode cX8_init 185 = .ok (.newarray .int, 2) := by decide +kernel
theorem dX8_init_187 : decode cX8_init 187 = .ok (.putfield 71, 3) := by decide +kernel
theorem dX8_init_190 : decode cX8_init 190 = .ok (.aload_n 0, 1) := by decide +kernel
theorem dX8_init_191 : decode cX8_init 191 = .ok (.sipush 400, 3) := by decide +kernel
theorem dX8_init_194 : decode cX8_init 194 = .ok (.newarray .long, 2) := by decide +kernel
theorem dX8_init_196 : decode cX8_init 196 = .ok (.putfield 74, 3) := by decide +kernel
theorem dX8_init_199 : decode cX8_init 199 = .ok (.aload_n 0, 1) := by decide +kernel
theorem dX8_init_200 : decode cX8_init 200 = .ok (.sipush 400, 3) := by decide +kernel
theorem dX8_init_203 : decode cX8_init 203 = .ok (.newarray .boolean, 2) := by decide +kernel
theorem dX8_init_205 : decode cX8_init 205 = .ok (.putfield 77, 3) := by decide +kernel
theorem dX8_init_208 : decode cX8_init 208 = .ok (.aload_n 0, 1) := by decide +kernel
theorem dX8_init_209 : decode cX8_init 209 = .ok (.sipush 400, 3) := by decide +kernel
theorem dX8_init_212 : decode cX8_init 212 = .ok (.newarray .int, 2) := by decide +kernel
theorem dX8_init_214 : decode cX8_init 214 = .ok (.putfield 81, 3) := by decide +kernel
theorem dX8_init_217 : decode cX8_init 217 = .ok (.aload_n 0, 1) := by decide +kernel
theorem dX8_init_218 : decode cX8_init 218 = .ok (.sipush 400, 3) := by decide +kernel
theorem dX8_init_221 : decode cX8_init 221 = .ok (.newarray .long, 2) := by decide +kernel
theorem dX8_init_223 : decode cX8_init 223 = .ok (.putfield 84, 3) := by decide +kernel
theorem dX8_init_226 : decode cX8_init 226 = .ok (.aload_n 0, 1) := by decide +kernel
theorem dX8_init_227 : decode cX8_init 227 = .ok (.sipush 400, 3) := by decide +kernel
theorem dX8_init_230 : decode cX8_init 230 = .ok (.newarray .int, 2) := by decide +kernel
theorem dX8_init_232 : decode cX8_init 232 = .ok (.putfield 87, 3) := by decide +kernel
theorem dX8_init_235 : decode cX8_init 235 = .ok (.aload_n 0, 1) := by decide +kernel
theorem dX8_init_236 : decode cX8_init 236 = .ok (.sipush 400, 3) := by decide +kernel
theorem dX8_init_239 : decode cX8_init 239 = .ok (.newarray .int, 2) := by decide +kernel
theorem dX8_init_241 : decode cX8_init 241 = .ok (.putfield 90, 3) := by decide +kernel
theorem dX8_init_244 : decode cX8_init 244 = .ok (.aload_n 0, 1) := by decide +kernel
theorem dX8_init_245 : decode cX8_init 245 = .ok (.sipush 400, 3) := by decide +kernel
theorem dX8_init_248 : decode cX8_init 248 = .ok (.newarray .int, 2) := by decide +kernel
theorem dX8_init_250 : decode cX8_init 250 = .ok (.putfield 93, 3) := by decide +kernel
theorem dX8_init_253 : decode cX8_init 253 = .ok (.aload_n 0, 1) := by decide +kernel
theorem dX8_init_254 : decode cX8_init 254 = .ok (.sipush 400, 3) := by decide +kernel
theorem dX8_init_257 : decode cX8_init 257 = .ok (.newarray .int, 2) := by decide +kernel
theorem dX8_init_259 : decode cX8_init 259 = .ok (.putfield 96, 3) := by decide +kernel
theorem dX8_init_262 : decode cX8_init 262 = .ok (.aload_n 0, 1) := by decide +kernel
theorem dX8_init_263 : decode cX8_init 263 = .ok (.sipush 400, 3) := by decide +kernel
theorem dX8_init_266 : decode cX8_init 266 = .ok (.newarray .int, 2) := by decide +kernel
theorem dX8_init_268 : decode cX8_init 268 = .ok (.putfield 99, 3) := by decide +kernel
theorem dX8_init_271 : decode cX8_init 271 = .ok (.aload_n 0, 1) := by decide +kernel
theorem dX8_init_272 : decode cX8_init 272 = .ok (.bipush 20, 2) := by decide +kernel
theorem dX8_init_274 : decode cX8_init 274 = .ok (.newarray .long, 2) := by decide +kernel
theorem dX8_init_276 : decode cX8_init 276 = .ok (.putfield 102, 3) := by decide +kernel
theorem dX8_init_279 : decode cX8_init 279 = .ok (.aload_n 0, 1) := by decide +kernel
theorem dX8_init_280 : decode cX8_init 280 = .ok (.bipush 20, 2) := by decide +kernel
theorem dX8_init_282 : decode cX8_init 282 = .ok (.newarray .long, 2) := by decide +kernel
theorem dX8_init_284 : decode cX8_init 284 = .ok (.putfield 105, 3) := by decide +kernel
theorem dX8_init_287 : decode cX8_init 287 = .ok (.aload_n 0, 1) := by decide +kernel
theorem dX8_init_288 : decode cX8_init 288 = .ok (.bipush 20, 2) := by decide +kernel
theorem dX8_init_290 : decode cX8_init 290 = .ok (.newarray .long, 2) := by decide +kernel
theorem dX8_init_292 : decode cX8_init 292 = .ok (.putfield 108, 3) := by decide +kernel
theorem dX8_init_295 : decode cX8_init 295 = .ok (.aload_n 0, 1) := by decide +kernel
theorem dX8_init_296 : decode cX8_init 296 = .ok (.bipush 20, 2) := by decide +kernel
theorem dX8_init_298 : decode cX8_init 298 = .ok (.newarray .int, 2) := by decide +kernel
theorem dX8_init_300 : decode cX8_init 300 = .ok (.putfield 111, 3) := by decide +kernel
theorem dX8_init_303 : decode cX8_init 303 = .ok (.aload_n 0, 1) := by decide +kernel
theorem dX8_init_304 : decode cX8_init 304 = .ok (.bipush 6, 2) := by decide +kernel
theorem dX8_init_306 : decode cX8_init 306 = .ok (.newarray .int, 2) := by decide +kernel
theorem dX8_init_308 : decode cX8_init 308 = .ok (.putfield 114, 3) := by decide +kernel
theorem dX8_init_311 : decode cX8_init 311 = .ok (.aload_n 0, 1) := by decide +kernel
theorem dX8_init_312 : decode cX8_init 312 = .ok (.iconst 3, 1) := by decide +kernel
theorem dX8_init_313 : decode cX8_init 313 = .ok (.newarray .long, 2) := by decide +kernel
theorem dX8_init_315 : decode cX8_init 315 = .ok (.putfield 117, 3) := by decide +kernel
theorem dX8_init_318 : decode cX8_init 318 = .ok (.aload_n 0, 1) := by decide +kernel
theorem dX8_init_319 : decode cX8_init 319 = .ok (.bipush 64, 2) := by decide +kernel
theorem dX8_init_321 : decode cX8_init 321 = .ok (.newarray .int, 2) := by decide +kernel
theorem dX8_init_323 : decode cX8_init 323 = .ok (.putfield 120, 3) := by decide +kernel
theorem dX8_init_326 : decode cX8_init 326 = .ok (.aload_n 0, 1) := by decide +kernel
theorem dX8_init_327 : decode cX8_init 327 = .ok (.bipush 64, 2) := by decide +kernel
theorem dX8_init_329 : decode cX8_init 329 = .ok (.newarray .int, 2) := by decide +kernel
theorem dX8_init_331 : decode cX8_init 331 = .ok (.putfield 123, 3) := by decide +kernel
theorem dX8_init_334 : decode cX8_init 334 = .ok (.aload_n 0, 1) := by decide +kernel
theorem dX8_init_335 : decode cX8_init 335 = .ok (.bipush 64, 2) := by decide +kernel
theorem dX8_init_337 : decode cX8_init 337 = .ok (.newarray .int, 2) := by decide +kernel
theorem dX8_init_339 : decode cX8_init 339 = .ok (.putfield 126, 3) := by decide +kernel
theorem dX8_init_342 : decode cX8_init 342 = .ok (.aload_n 0, 1) := by decide +kernel
theorem dX8_init_343 : decode cX8_init 343 = .ok (.bipush 64, 2) := by decide +kernel
theorem dX8_init_345 : decode cX8_init 345 = .ok (.newarray .int, 2) := by decide +kernel
theorem dX8_init_347 : decode cX8_init 347 = .ok (.putfield 129, 3) := by decide +kernel
theorem dX8_init_350 : decode cX8_init 350 = .ok (.aload_n 0, 1) := by decide +kernel
theorem dX8_init_351 : decode cX8_init 351 = .ok (.bipush 64, 2) := by decide +kernel
theorem dX8_init_353 : decode cX8_init 353 = .ok (.newarray .long, 2) := by decide +kernel
theorem dX8_init_355 : decode cX8_init 355 = .ok (.putfield 132, 3) := by decide +kernel
theorem dX8_init_358 : decode cX8_init 358 = .ok (.aload_n 0, 1) := by decide +kernel
theorem dX8_init_359 : decode cX8_init 359 = .ok (.bipush 64, 2) := by decide +kernel
theorem dX8_init_361 : decode cX8_init 361 = .ok (.newarray .long, 2) := by decide +kernel
theorem dX8_init_363 : decode cX8_init 363 = .ok (.putfield 135, 3) := by decide +kernel
theorem dX8_init_366 : decode cX8_init 366 = .ok (.aload_n 0, 1) := by decide +kernel
theorem dX8_init_367 : decode cX8_init 367 = .ok (.bipush 64, 2) := by decide +kernel
theorem dX8_init_369 : decode cX8_init 369 = .ok (.newarray .int, 2) := by decide +kernel
theorem dX8_init_371 : decode cX8_init 371 = .ok (.putfield 138, 3) := by decide +kernel
theorem dX8_init_374 : decode cX8_init 374 = .ok (.aload_n 0, 1) := by decide +kernel
theorem dX8_init_375 : decode cX8_init 375 = .ok (.bipush 8, 2) := by decide +kernel
theorem dX8_init_377 : decode cX8_init 377 = .ok (.newarray .int, 2) := by decide +kernel
theorem dX8_init_379 : decode cX8_init 379 = .ok (.putfield 141, 3) := by decide +kernel
theorem dX8_init_382 : decode cX8_init 382 = .ok (.aload_n 0, 1) := by decide +kernel
theorem dX8_init_383 : decode cX8_init 383 = .ok (.sipush 200, 3) := by decide +kernel
theorem dX8_init_386 : decode cX8_init 386 = .ok (.newarray .int, 2) := by decide +kernel
theorem dX8_init_388 : decode cX8_init 388 = .ok (.putfield 144, 3) := by decide +kernel
theorem dX8_init_391 : decode cX8_init 391 = .ok (.return_, 1) := by decide +kernel
def fn_X8_init (N : Nat) (a0 : Option Nat) (h : ym_H) : Option (Unit × ym_H) :=
  Option.bind (ym_ob h a0 8) fun o1 =>
  Option.bind (ym_na h 0 (.int 0) 200) fun h8 =>
  Option.bind (ym_pf h8 a0 8 1 (va_rf (some h.1))) fun h10 =>
  Option.bind (ym_na h10 1 (.long 0) 200) fun h17 =>
  Option.bind (ym_pf h17 a0 8 2 (va_rf (some h10.1))) fun h19 =>
  Option.bind (ym_na h19 1 (.long 0) 200) fun h26 =>
  Option.bind (ym_pf h26 a0 8 3 (va_rf (some h19.1))) fun h28 =>
  Option.bind (ym_na h28 0 (.int 0) 400) fun h35 =>
  Option.bind (ym_pf h35 a0 8 5 (va_rf (some h28.1))) fun h37 =>
  Option.bind (ym_na h37 1 (.long 0) 400) fun h44 =>
  Option.bind (ym_pf h44 a0 8 6 (va_rf (some h37.1))) fun h46 =>
  Option.bind (ym_na h46 1 (.long 0) 400) fun h53 =>
  Option.bind (ym_pf h53 a0 8 7 (va_rf (some h46.1))) fun h55 =>
  Option.bind (ym_na h55 0 (.int 0) 400) fun h62 =>
  Option.bind (ym_pf h62 a0 8 8 (va_rf (some h55.1))) fun h64 =>
  Option.bind (ym_na h64 0 (.int 0) 400) fun h71 =>
  Option.bind (ym_pf h71 a0 8 9 (va_rf (some h64.1))) fun h73 =>
  Option.bind (ym_na h73 1 (.long 0) 400) fun h80 =>
  Option.bind (ym_pf h80 a0 8 10 (va_rf (some h73.1))) fun h82 =>
  Option.bind (ym_na h82 0 (.int 0) 1600) fun h89 =>
  Option.bind (ym_pf h89 a0 8 11 (va_rf (some h82.1))) fun h91 =>
  Option.bind (ym_na h91 0 (.int 0) 400) fun h98 =>
  Option.bind (ym_pf h98 a0 8 12 (va_rf (some h91.1))) fun h100 =>
  Option.bind (ym_na h100 0 (.int 0) 400) fun h107 =>
  Option.bind (ym_pf h107 a0 8 13 (va_rf (some h100.1))) fun h109 =>
  Option.bind (ym_na h109 0 (.int 0) 400) fun h116 =>
  Option.bind (ym_pf h116 a0 8 14 (va_rf (some h109.1))) fun h118 =>
  Option.bind (ym_na h118 0 (.int 0) 64) fun h124 =>
  Option.bind (ym_pf h124 a0 8 16 (va_rf (some h118.1))) fun h126 =>
  Option.bind (ym_na h126 1 (.long 0) 64) fun h132 =>
  Option.bind (ym_pf h132 a0 8 17 (va_rf (some h126.1))) fun h134 =>
  Option.bind (ym_na h134 0 (.int 0) 64) fun h140 =>
  Option.bind (ym_pf h140 a0 8 18 (va_rf (some h134.1))) fun h142 =>
  Option.bind (ym_na h142 0 (.int 0) 400) fun h149 =>
  Option.bind (ym_pf h149 a0 8 19 (va_rf (some h142.1))) fun h151 =>
  Option.bind (ym_na h151 0 (.int 0) 16000) fun h158 =>
  Option.bind (ym_pf h158 a0 8 20 (va_rf (some h151.1))) fun h160 =>
  Option.bind (ym_na h160 1 (.long 0) 16000) fun h167 =>
  Option.bind (ym_pf h167 a0 8 21 (va_rf (some h160.1))) fun h169 =>
  Option.bind (ym_na h169 0 (.int 0) 16000) fun h176 =>
  Option.bind (ym_pf h176 a0 8 22 (va_rf (some h169.1))) fun h178 =>
  Option.bind (ym_na h178 0 (.int 0) 400) fun h185 =>
  Option.bind (ym_pf h185 a0 8 23 (va_rf (some h178.1))) fun h187 =>
  Option.bind (ym_na h187 1 (.long 0) 400) fun h194 =>
  Option.bind (ym_pf h194 a0 8 24 (va_rf (some h187.1))) fun h196 =>
  Option.bind (ym_na h196 2 (.int 0) 400) fun h203 =>
  Option.bind (ym_pf h203 a0 8 25 (va_rf (some h196.1))) fun h205 =>
  Option.bind (ym_na h205 0 (.int 0) 400) fun h212 =>
  Option.bind (ym_pf h212 a0 8 26 (va_rf (some h205.1))) fun h214 =>
  Option.bind (ym_na h214 1 (.long 0) 400) fun h221 =>
  Option.bind (ym_pf h221 a0 8 27 (va_rf (some h214.1))) fun h223 =>
  Option.bind (ym_na h223 0 (.int 0) 400) fun h230 =>
  Option.bind (ym_pf h230 a0 8 28 (va_rf (some h223.1))) fun h232 =>
  Option.bind (ym_na h232 0 (.int 0) 400) fun h239 =>
  Option.bind (ym_pf h239 a0 8 29 (va_rf (some h232.1))) fun h241 =>
  Option.bind (ym_na h241 0 (.int 0) 400) fun h248 =>
  Option.bind (ym_pf h248 a0 8 30 (va_rf (some h241.1))) fun h250 =>
  Option.bind (ym_na h250 0 (.int 0) 400) fun h257 =>
  Option.bind (ym_pf h257 a0 8 31 (va_rf (some h250.1))) fun h259 =>
  Option.bind (ym_na h259 0 (.int 0) 400) fun h266 =>
  Option.bind (ym_pf h266 a0 8 32 (va_rf (some h259.1))) fun h268 =>
  Option.bind (ym_na h268 1 (.long 0) 20) fun h274 =>
  Option.bind (ym_pf h274 a0 8 34 (va_rf (some h268.1))) fun h276 =>
  Option.bind (ym_na h276 1 (.long 0) 20) fun h282 =>
  Option.bind (ym_pf h282 a0 8 35 (va_rf (some h276.1))) fun h284 =>
  Option.bind (ym_na h284 1 (.long 0) 20) fun h290 =>
  Option.bind (ym_pf h290 a0 8 37 (va_rf (some h284.1))) fun h292 =>
  Option.bind (ym_na h292 0 (.int 0) 20) fun h298 =>
  Option.bind (ym_pf h298 a0 8 38 (va_rf (some h292.1))) fun h300 =>
  Option.bind (ym_na h300 0 (.int 0) 6) fun h306 =>
  Option.bind (ym_pf h306 a0 8 39 (va_rf (some h300.1))) fun h308 =>
  Option.bind (ym_na h308 1 (.long 0) 3) fun h313 =>
  Option.bind (ym_pf h313 a0 8 40 (va_rf (some h308.1))) fun h315 =>
  Option.bind (ym_na h315 0 (.int 0) 64) fun h321 =>
  Option.bind (ym_pf h321 a0 8 42 (va_rf (some h315.1))) fun h323 =>
  Option.bind (ym_na h323 0 (.int 0) 64) fun h329 =>
  Option.bind (ym_pf h329 a0 8 43 (va_rf (some h323.1))) fun h331 =>
  Option.bind (ym_na h331 0 (.int 0) 64) fun h337 =>
  Option.bind (ym_pf h337 a0 8 44 (va_rf (some h331.1))) fun h339 =>
  Option.bind (ym_na h339 0 (.int 0) 64) fun h345 =>
  Option.bind (ym_pf h345 a0 8 45 (va_rf (some h339.1))) fun h347 =>
  Option.bind (ym_na h347 1 (.long 0) 64) fun h353 =>
  Option.bind (ym_pf h353 a0 8 46 (va_rf (some h347.1))) fun h355 =>
  Option.bind (ym_na h355 1 (.long 0) 64) fun h361 =>
  Option.bind (ym_pf h361 a0 8 47 (va_rf (some h355.1))) fun h363 =>
  Option.bind (ym_na h363 0 (.int 0) 64) fun h369 =>
  Option.bind (ym_pf h369 a0 8 48 (va_rf (some h363.1))) fun h371 =>
  Option.bind (ym_na h371 0 (.int 0) 8) fun h377 =>
  Option.bind (ym_pf h377 a0 8 50 (va_rf (some h371.1))) fun h379 =>
  Option.bind (ym_na h379 0 (.int 0) 200) fun h386 =>
  Option.bind (ym_pf h386 a0 8 54 (va_rf (some h379.1))) fun h388 =>
  some ((), h388)
set_option maxRecDepth 20000 in
set_option maxHeartbeats 4000000 in
theorem ok_X8_init {D : ym_D} {b0 : Nat} {N : Nat} {a0 : Option Nat} {h h' : ym_H} {r : Unit} (hf : fn_X8_init N a0 h = some (r, h')) : ym_M D b0 g_X8_init 1 [va_rf a0] h none h' := by
  unfold fn_X8_init at hf
  refine ym_meth (lv := [(0, va_rf a0)]) (by decide) (by simp [lg_sl, ym_c1, ym_cI, ym_cL, g_X8_init]) (by simp [lv_args, ym_c1, ym_cI, ym_cL]) ?_
  refine ym_aload_n (pc := 0) 0 dX8_init_0 rfl rfl ?_
  obtain ⟨o1, e1, hf⟩ := Option.bind_eq_some_iff.mp hf
  refine ym_objInit (pc := 1) dX8_init_1 wd_844 wd_94 wd_95 (by decide) (ym_st4 (Nat.le_of_ble_eq_true rfl)) (ym_ob_ne e1) ?_
  refine ym_aload_n (pc := 4) 0 dX8_init_4 rfl rfl ?_
  refine ym_sipush (pc := 5) (v := 200) dX8_init_5 (by decide) ?_
  obtain ⟨h8, e8, hf⟩ := Option.bind_eq_some_iff.mp hf
  refine ym_newA (pc := 8) (h1 := h8) (ty := .int) (v := .int 0) dX8_init_8 rfl (t := 0) rfl (by decide) wd_123 (by decide) rfl e8 (fun _ _ => rfl) ?_
  obtain ⟨h10, e10, hf⟩ := Option.bind_eq_some_iff.mp hf
  refine ym_putF (pc := 10) (h1 := h10) dX8_init_10 rfl (by decide) iX8 tyX8 tyX8_ok nmX8 (k := 1) (by decide) wd_846 rfl rfl rfl (tyX8_ok 1 (by decide)) (ym_nrA _ _) (ym_fiA _ _) e10 ?_
  refine ym_aload_n (pc := 13) 0 dX8_init_13 rfl rfl ?_
  refine ym_sipush (pc := 14) (v := 200) dX8_init_14 (by decide) ?_
  obtain ⟨h17, e17, hf⟩ := Option.bind_eq_some_iff.mp hf
  refine ym_newA (pc := 17) (h1 := h17) (ty := .long) (v := .long 0) dX8_init_17 rfl (t := 1) rfl (by decide) wd_124 (by decide) rfl e17 (fun _ _ => rfl) ?_
  obtain ⟨h19, e19, hf⟩ := Option.bind_eq_some_iff.mp hf
  refine ym_putF (pc := 19) (h1 := h19) dX8_init_19 rfl (by decide) iX8 tyX8 tyX8_ok nmX8 (k := 2) (by decide) wd_847 rfl rfl rfl (tyX8_ok 2 (by decide)) (ym_nrA _ _) (ym_fiA _ _) e19 ?_
  refine ym_aload_n (pc := 22) 0 dX8_init_22 rfl rfl ?_
  refine ym_sipush (pc := 23) (v := 200) dX8_init_23 (by decide) ?_
  obtain ⟨h26, e26, hf⟩ := Option.bind_eq_some_iff.mp hf
  refine ym_newA (pc := 26) (h1 := h26) (ty := .long) (v := .long 0) dX8_init_26 rfl (t := 1) rfl (by decide) wd_124 (by decide) rfl e26 (fun _ _ => rfl) ?_
  obtain ⟨h28, e28, hf⟩ := Option.bind_eq_some_iff.mp hf
  refine ym_putF (pc := 28) (h1 := h28) dX8_init_28 rfl (by decide) iX8 tyX8 tyX8_ok nmX8 (k := 3) (by decide) wd_848 rfl rfl rfl (tyX8_ok 3 (by decide)) (ym_nrA _ _) (ym_fiA _ _) e28 ?_
  refine ym_aload_n (pc := 31) 0 dX8_init_31 rfl rfl ?_
  refine ym_sipush (pc := 32) (v := 400) dX8_init_32 (by decide) ?_
  obtain ⟨h35, e35, hf⟩ := Option.bind_eq_some_iff.mp hf
  refine ym_newA (pc := 35) (h1 := h35) (ty := .int) (v := .int 0) dX8_init_35 rfl (t := 0) rfl (by decide) wd_123 (by decide) rfl e35 (fun _ _ => rfl) ?_
  obtain ⟨h37, e37, hf⟩ := Option.bind_eq_some_iff.mp hf
  refine ym_putF (pc := 37) (h1 := h37) dX8_init_37 rfl (by decide) iX8 tyX8 tyX8_ok nmX8 (k := 5) (by decide) wd_850 rfl rfl rfl (tyX8_ok 5 (by decide)) (ym_nrA _ _) (ym_fiA _ _) e37 ?_
  refine ym_aload_n (pc := 40) 0 dX8_init_40 rfl rfl ?_
  refine ym_sipush (pc := 41) (v := 400) dX8_init_41 (by decide) ?_
  obtain ⟨h44, e44, hf⟩ := Option.bind_eq_some_iff.mp hf
  refine ym_newA (pc := 44) (h1 := h44) (ty := .long) (v := .long 0) dX8_init_44 rfl (t := 1) rfl (by decide) wd_124 (by decide) rfl e44 (fun _ _ => rfl) ?_
  obtain ⟨h46, e46, hf⟩ := Option.bind_eq_some_iff.mp hf
  refine ym_putF (pc := 46) (h1 := h46) dX8_init_46 rfl (by decide) iX8 tyX8 tyX8_ok nmX8 (k := 6) (by decide) wd_851 rfl rfl rfl (tyX8_ok 6 (by decide)) (ym_nrA _ _) (ym_fiA _ _) e46 ?_
  refine ym_aload_n (pc := 49) 0 dX8_init_49 rfl rfl ?_
  refine ym_sipush (pc := 50) (v := 400) dX8_init_50 (by decide) ?_
  obtain ⟨h53, e53, hf⟩ := Option.bind_eq_some_iff.mp hf
  refine ym_newA (pc := 53) (h1 := h53) (ty := .long) (v := .long 0) dX8_init_53 rfl (t := 1) rfl (by decide) wd_124 (by decide) rfl e53 (fun _ _ => rfl) ?_
  obtain ⟨h55, e55, hf⟩ := Option.bind_eq_some_iff.mp hf
  refine ym_putF (pc := 55) (h1 := h55) dX8_init_55 rfl (by decide) iX8 tyX8 tyX8_ok nmX8 (k := 7) (by decide) wd_852 rfl rfl rfl (tyX8_ok 7 (by decide)) (ym_nrA _ _) (ym_fiA _ _) e55 ?_
  refine ym_aload_n (pc := 58) 0 dX8_init_58 rfl rfl ?_
  refine ym_sipush (pc := 59) (v := 400) dX8_init_59 (by decide) ?_
  obtain ⟨h62, e62, hf⟩ := Option.bind_eq_some_iff.mp hf
  refine ym_newA (pc := 62) (h1 := h62) (ty := .int) (v := .int 0) dX8_init_62 rfl (t := 0) rfl (by decide) wd_123 (by decide) rfl e62 (fun _ _ => rfl) ?_
  obtain ⟨h64, e64, hf⟩ := Option.bind_eq_some_iff.mp hf
  refine ym_putF (pc := 64) (h1 := h64) dX8_init_64 rfl (by decide) iX8 tyX8 tyX8_ok nmX8 (k := 8) (by decide) wd_853 rfl rfl rfl (tyX8_ok 8 (by decide)) (ym_nrA _ _) (ym_fiA _ _) e64 ?_
  refine ym_aload_n (pc := 67) 0 dX8_init_67 rfl rfl ?_
  refine ym_sipush (pc := 68) (v := 400) dX8_init_68 (by decide) ?_
  obtain ⟨h71, e71, hf⟩ := Option.bind_eq_some_iff.mp hf
  refine ym_newA (pc := 71) (h1 := h71) (ty := .int) (v := .int 0) dX8_init_71 rfl (t := 0) rfl (by decide) wd_123 (by decide) rfl e71 (fun _ _ => rfl) ?_
  obtain ⟨h73, e73, hf⟩ := Option.bind_eq_some_iff.mp hf
  refine ym_putF (pc := 73) (h1 := h73) dX8_init_73 rfl (by decide) iX8 tyX8 tyX8_ok nmX8 (k := 9) (by decide) wd_854 rfl rfl rfl (tyX8_ok 9 (by decide)) (ym_nrA _ _) (ym_fiA _ _) e73 ?_
  refine ym_aload_n (pc := 76) 0 dX8_init_76 rfl rfl ?_
  refine ym_sipush (pc := 77) (v := 400) dX8_init_77 (by decide) ?_
  obtain ⟨h80, e80, hf⟩ := Option.bind_eq_some_iff.mp hf
  refine ym_newA (pc := 80) (h1 := h80) (ty := .long) (v := .long 0) dX8_init_80 rfl (t := 1) rfl (by decide) wd_124 (by decide) rfl e80 (fun _ _ => rfl) ?_
  obtain ⟨h82, e82, hf⟩ := Option.bind_eq_some_iff.mp hf
  refine ym_putF (pc := 82) (h1 := h82) dX8_init_82 rfl (by decide) iX8 tyX8 tyX8_ok nmX8 (k := 10) (by decide) wd_855 rfl rfl rfl (tyX8_ok 10 (by decide)) (ym_nrA _ _) (ym_fiA _ _) e82 ?_
  refine ym_aload_n (pc := 85) 0 dX8_init_85 rfl rfl ?_
  refine ym_sipush (pc := 86) (v := 1600) dX8_init_86 (by decide) ?_
  obtain ⟨h89, e89, hf⟩ := Option.bind_eq_some_iff.mp hf
  refine ym_newA (pc := 89) (h1 := h89) (ty := .int) (v := .int 0) dX8_init_89 rfl (t := 0) rfl (by decide) wd_123 (by decide) rfl e89 (fun _ _ => rfl) ?_
  obtain ⟨h91, e91, hf⟩ := Option.bind_eq_some_iff.mp hf
  refine ym_putF (pc := 91) (h1 := h91) dX8_init_91 rfl (by decide) iX8 tyX8 tyX8_ok nmX8 (k := 11) (by decide) wd_856 rfl rfl rfl (tyX8_ok 11 (by decide)) (ym_nrA _ _) (ym_fiA _ _) e91 ?_
  refine ym_aload_n (pc := 94) 0 dX8_init_94 rfl rfl ?_
  refine ym_sipush (pc := 95) (v := 400) dX8_init_95 (by decide) ?_
  obtain ⟨h98, e98, hf⟩ := Option.bind_eq_some_iff.mp hf
  refine ym_newA (pc := 98) (h1 := h98) (ty := .int) (v := .int 0) dX8_init_98 rfl (t := 0) rfl (by decide) wd_123 (by decide) rfl e98 (fun _ _ => rfl) ?_
  obtain ⟨h100, e100, hf⟩ := Option.bind_eq_some_iff.mp hf
  refine ym_putF (pc := 100) (h1 := h100) dX8_init_100 rfl (by decide) iX8 tyX8 tyX8_ok nmX8 (k := 12) (by decide) wd_857 rfl rfl rfl (tyX8_ok 12 (by decide)) (ym_nrA _ _) (ym_fiA _ _) e100 ?_
  refine ym_aload_n (pc := 103) 0 dX8_init_103 rfl rfl ?_
  refine ym_sipush (pc := 104) (v := 400) dX8_init_104 (by decide) ?_
  obtain ⟨h107, e107, hf⟩ := Option.bind_eq_some_iff.mp hf
  refine ym_newA (pc := 107) (h1 := h107) (ty := .int) (v := .int 0) dX8_init_107 rfl (t := 0) rfl (by decide) wd_123 (by decide) rfl e107 (fun _ _ => rfl) ?_
  obtain ⟨h109, e109, hf⟩ := Option.bind_eq_some_iff.mp hf
  refine ym_putF (pc := 109) (h1 := h109) dX8_init_109 rfl (by decide) iX8 tyX8 tyX8_ok nmX8 (k := 13) (by decide) wd_858 rfl rfl rfl (tyX8_ok 13 (by decide)) (ym_nrA _ _) (ym_fiA _ _) e109 ?_
  refine ym_aload_n (pc := 112) 0 dX8_init_112 rfl rfl ?_
  refine ym_sipush (pc := 113) (v := 400) dX8_init_113 (by decide) ?_
  obtain ⟨h116, e116, hf⟩ := Option.bind_eq_some_iff.mp hf
  refine ym_newA (pc := 116) (h1 := h116) (ty := .int) (v := .int 0) dX8_init_116 rfl (t := 0) rfl (by decide) wd_123 (by decide) rfl e116 (fun _ _ => rfl) ?_
  obtain ⟨h118, e118, hf⟩ := Option.bind_eq_some_iff.mp hf
  refine ym_putF (pc := 118) (h1 := h118) dX8_init_118 rfl (by decide) iX8 tyX8 tyX8_ok nmX8 (k := 14) (by decide) wd_859 rfl rfl rfl (tyX8_ok 14 (by decide)) (ym_nrA _ _) (ym_fiA _ _) e118 ?_
  refine ym_aload_n (pc := 121) 0 dX8_init_121 rfl rfl ?_
  refine ym_bipush (pc := 122) (v := 64) dX8_init_122 (by decide) ?_
  obtain ⟨h124, e124, hf⟩ := Option.bind_eq_some_iff.mp hf
  refine ym_newA (pc := 124) (h1 := h124) (ty := .int) (v := .int 0) dX8_init_124 rfl (t := 0) rfl (by decide) wd_123 (by decide) rfl e124 (fun _ _ => rfl) ?_
  obtain ⟨h126, e126, hf⟩ := Option.bind_eq_some_iff.mp hf
  refine ym_put (pc := 126) (h1 := h126) dX8_init_126 rfl (by decide) iX8 tyX8 tyX8_ok nmX8 (k := 16) (by decide) wd_861 rfl (tyX8_ok 16 (by decide)) (ym_nrA _ _) (ym_fiA _ _) e126 ?_
  refine ym_aload_n (pc := 129) 0 dX8_init_129 rfl rfl ?_
  refine ym_bipush (pc := 130) (v := 64) dX8_init_130 (by decide) ?_
  obtain ⟨h132, e132, hf⟩ := Option.bind_eq_some_iff.mp hf
  refine ym_newA (pc := 132) (h1 := h132) (ty := .long) (v := .long 0) dX8_init_132 rfl (t := 1) rfl (by decide) wd_124 (by decide) rfl e132 (fun _ _ => rfl) ?_
  obtain ⟨h134, e134, hf⟩ := Option.bind_eq_some_iff.mp hf
  refine ym_put (pc := 134) (h1 := h134) dX8_init_134 rfl (by decide) iX8 tyX8 tyX8_ok nmX8 (k := 17) (by decide) wd_862 rfl (tyX8_ok 17 (by decide)) (ym_nrA _ _) (ym_fiA _ _) e134 ?_
  refine ym_aload_n (pc := 137) 0 dX8_init_137 rfl rfl ?_
  refine ym_bipush (pc := 138) (v := 64) dX8_init_138 (by decide) ?_
  obtain ⟨h140, e140, hf⟩ := Option.bind_eq_some_iff.mp hf
  refine ym_newA (pc := 140) (h1 := h140) (ty := .int) (v := .int 0) dX8_init_140 rfl (t := 0) rfl (by decide) wd_123 (by decide) rfl e140 (fun _ _ => rfl) ?_
  obtain ⟨h142, e142, hf⟩ := Option.bind_eq_some_iff.mp hf
  refine ym_put (pc := 142) (h1 := h142) dX8_init_142 rfl (by decide) iX8 tyX8 tyX8_ok nmX8 (k := 18) (by decide) wd_863 rfl (tyX8_ok 18 (by decide)) (ym_nrA _ _) (ym_fiA _ _) e142 ?_
  refine ym_aload_n (pc := 145) 0 dX8_init_145 rfl rfl ?_
  refine ym_sipush (pc := 146) (v := 400) dX8_init_146 (by decide) ?_
  obtain ⟨h149, e149, hf⟩ := Option.bind_eq_some_iff.mp hf
  refine ym_newA (pc := 149) (h1 := h149) (ty := .int) (v := .int 0) dX8_init_149 rfl (t := 0) rfl (by decide) wd_123 (by decide) rfl e149 (fun _ _ => rfl) ?_
  obtain ⟨h151, e151, hf⟩ := Option.bind_eq_some_iff.mp hf
  refine ym_putF (pc := 151) (h1 := h151) dX8_init_151 rfl (by decide) iX8 tyX8 tyX8_ok nmX8 (k := 19) (by decide) wd_864 rfl rfl rfl (tyX8_ok 19 (by decide)) (ym_nrA _ _) (ym_fiA _ _) e151 ?_
  refine ym_aload_n (pc := 154) 0 dX8_init_154 rfl rfl ?_
  refine ym_sipush (pc := 155) (v := 16000) dX8_init_155 (by decide) ?_
  obtain ⟨h158, e158, hf⟩ := Option.bind_eq_some_iff.mp hf
  refine ym_newA (pc := 158) (h1 := h158) (ty := .int) (v := .int 0) dX8_init_158 rfl (t := 0) rfl (by decide) wd_123 (by decide) rfl e158 (fun _ _ => rfl) ?_
  obtain ⟨h160, e160, hf⟩ := Option.bind_eq_some_iff.mp hf
  refine ym_putF (pc := 160) (h1 := h160) dX8_init_160 rfl (by decide) iX8 tyX8 tyX8_ok nmX8 (k := 20) (by decide) wd_865 rfl rfl rfl (tyX8_ok 20 (by decide)) (ym_nrA _ _) (ym_fiA _ _) e160 ?_
  refine ym_aload_n (pc := 163) 0 dX8_init_163 rfl rfl ?_
  refine ym_sipush (pc := 164) (v := 16000) dX8_init_164 (by decide) ?_
  obtain ⟨h167, e167, hf⟩ := Option.bind_eq_some_iff.mp hf
  refine ym_newA (pc := 167) (h1 := h167) (ty := .long) (v := .long 0) dX8_init_167 rfl (t := 1) rfl (by decide) wd_124 (by decide) rfl e167 (fun _ _ => rfl) ?_
  obtain ⟨h169, e169, hf⟩ := Option.bind_eq_some_iff.mp hf
  refine ym_putF (pc := 169) (h1 := h169) dX8_init_169 rfl (by decide) iX8 tyX8 tyX8_ok nmX8 (k := 21) (by decide) wd_866 rfl rfl rfl (tyX8_ok 21 (by decide)) (ym_nrA _ _) (ym_fiA _ _) e169 ?_
  refine ym_aload_n (pc := 172) 0 dX8_init_172 rfl rfl ?_
  refine ym_sipush (pc := 173) (v := 16000) dX8_init_173 (by decide) ?_
  obtain ⟨h176, e176, hf⟩ := Option.bind_eq_some_iff.mp hf
  refine ym_newA (pc := 176) (h1 := h176) (ty := .int) (v := .int 0) dX8_init_176 rfl (t := 0) rfl (by decide) wd_123 (by decide) rfl e176 (fun _ _ => rfl) ?_
  obtain ⟨h178, e178, hf⟩ := Option.bind_eq_some_iff.mp hf
  refine ym_putF (pc := 178) (h1 := h178) dX8_init_178 rfl (by decide) iX8 tyX8 tyX8_ok nmX8 (k := 22) (by decide) wd_867 rfl rfl rfl (tyX8_ok 22 (by decide)) (ym_nrA _ _) (ym_fiA _ _) e178 ?_
  refine ym_aload_n (pc := 181) 0 dX8_init_181 rfl rfl ?_
  refine ym_sipush (pc := 182) (v := 400) dX8_init_182 (by decide) ?_
  obtain ⟨h185, e185, hf⟩ := Option.bind_eq_some_iff.mp hf
  refine ym_newA (pc := 185) (h1 := h185) (ty := .int) (v := .int 0) dX8_init_185 rfl (t := 0) rfl (by decide) wd_123 (by decide) rfl e185 (fun _ _ => rfl) ?_
  obtain ⟨h187, e187, hf⟩ := Option.bind_eq_some_iff.mp hf
  refine ym_putF (pc := 187) (h1 := h187) dX8_init_187 rfl (by decide) iX8 tyX8 tyX8_ok nmX8 (k := 23) (by decide) wd_868 rfl rfl rfl (tyX8_ok 23 (by decide)) (ym_nrA _ _) (ym_fiA _ _) e187 ?_
  refine ym_aload_n (pc := 190) 0 dX8_init_190 rfl rfl ?_
  refine ym_sipush (pc := 191) (v := 400) dX8_init_191 (by decide) ?_
  obtain ⟨h194, e194, hf⟩ := Option.bind_eq_some_iff.mp hf
  refine ym_newA (pc := 194) (h1 := h194) (ty := .long) (v := .long 0) dX8_init_194 rfl (t := 1) rfl (by decide) wd_124 (by decide) rfl e194 (fun _ _ => rfl) ?_
  obtain ⟨h196, e196, hf⟩ := Option.bind_eq_some_iff.mp hf
  refine ym_putF (pc := 196) (h1 := h196) dX8_init_196 rfl (by decide) iX8 tyX8 tyX8_ok nmX8 (k := 24) (by decide) wd_869 rfl rfl rfl (tyX8_ok 24 (by decide)) (ym_nrA _ _) (ym_fiA _ _) e196 ?_
  refine ym_aload_n (pc := 199) 0 dX8_init_199 rfl rfl ?_
  refine ym_sipush (pc := 200) (v := 400) dX8_init_200 (by decide) ?_
  obtain ⟨h203, e203, hf⟩ := Option.bind_eq_some_iff.mp hf
  refine ym_newA (pc := 203) (h1 := h203) (ty := .boolean) (v := .int 0) dX8_init_203 rfl (t := 2) rfl (by decide) wd_1020 (by decide) rfl e203 (fun _ _ => rfl) ?_
  obtain ⟨h205, e205, hf⟩ := Option.bind_eq_some_iff.mp hf
  refine ym_putF (pc := 205) (h1 := h205) dX8_init_205 rfl (by decide) iX8 tyX8 tyX8_ok nmX8 (k := 25) (by decide) wd_870 rfl rfl rfl (tyX8_ok 25 (by decide)) (ym_nrA _ _) (ym_fiA _ _) e205 ?_
  refine ym_aload_n (pc := 208) 0 dX8_init_208 rfl rfl ?_
  refine ym_sipush (pc := 209) (v := 400) dX8_init_209 (by decide) ?_
  obtain ⟨h212, e212, hf⟩ := Option.bind_eq_some_iff.mp hf
  refine ym_newA (pc := 212) (h1 := h212) (ty := .int) (v := .int 0) dX8_init_212 rfl (t := 0) rfl (by decide) wd_123 (by decide) rfl e212 (fun _ _ => rfl) ?_
  obtain ⟨h214, e214, hf⟩ := Option.bind_eq_some_iff.mp hf
  refine ym_putF (pc := 214) (h1 := h214) dX8_init_214 rfl (by decide) iX8 tyX8 tyX8_ok nmX8 (k := 26) (by decide) wd_871 rfl rfl rfl (tyX8_ok 26 (by decide)) (ym_nrA _ _) (ym_fiA _ _) e214 ?_
  refine ym_aload_n (pc := 217) 0 dX8_init_217 rfl rfl ?_
  refine ym_sipush (pc := 218) (v := 400) dX8_init_218 (by decide) ?_
  obtain ⟨h221, e221, hf⟩ := Option.bind_eq_some_iff.mp hf
  refine ym_newA (pc := 221) (h1 := h221) (ty := .long) (v := .long 0) dX8_init_221 rfl (t := 1) rfl (by decide) wd_124 (by decide) rfl e221 (fun _ _ => rfl) ?_
  obtain ⟨h223, e223, hf⟩ := Option.bind_eq_some_iff.mp hf
  refine ym_putF (pc := 223) (h1 := h223) dX8_init_223 rfl (by decide) iX8 tyX8 tyX8_ok nmX8 (k := 27) (by decide) wd_872 rfl rfl rfl (tyX8_ok 27 (by decide)) (ym_nrA _ _) (ym_fiA _ _) e223 ?_
  refine ym_aload_n (pc := 226) 0 dX8_init_226 rfl rfl ?_
  refine ym_sipush (pc := 227) (v := 400) dX8_init_227 (by decide) ?_
  obtain ⟨h230, e230, hf⟩ := Option.bind_eq_some_iff.mp hf
  refine ym_newA (pc := 230) (h1 := h230) (ty := .int) (v := .int 0) dX8_init_230 rfl (t := 0) rfl (by decide) wd_123 (by decide) rfl e230 (fun _ _ => rfl) ?_
  obtain ⟨h232, e232, hf⟩ := Option.bind_eq_some_iff.mp hf
  refine ym_putF (pc := 232) (h1 := h232) dX8_init_232 rfl (by decide) iX8 tyX8 tyX8_ok nmX8 (k := 28) (by decide) wd_873 rfl rfl rfl (tyX8_ok 28 (by decide)) (ym_nrA _ _) (ym_fiA _ _) e232 ?_
  refine ym_aload_n (pc := 235) 0 dX8_init_235 rfl rfl ?_
  refine ym_sipush (pc := 236) (v := 400) dX8_init_236 (by decide) ?_
  obtain ⟨h239, e239, hf⟩ := Option.bind_eq_some_iff.mp hf
  refine ym_newA (pc := 239) (h1 := h239) (ty := .int) (v := .int 0) dX8_init_239 rfl (t := 0) rfl (by decide) wd_123 (by decide) rfl e239 (fun _ _ => rfl) ?_
  obtain ⟨h241, e241, hf⟩ := Option.bind_eq_some_iff.mp hf
  refine ym_putF (pc := 241) (h1 := h241) dX8_init_241 rfl (by decide) iX8 tyX8 tyX8_ok nmX8 (k := 29) (by decide) wd_874 rfl rfl rfl (tyX8_ok 29 (by decide)) (ym_nrA _ _) (ym_fiA _ _) e241 ?_
  refine ym_aload_n (pc := 244) 0 dX8_init_244 rfl rfl ?_
  refine ym_sipush (pc := 245) (v := 400) dX8_init_245 (by decide) ?_
  obtain ⟨h248, e248, hf⟩ := Option.bind_eq_some_iff.mp hf
  refine ym_newA (pc := 248) (h1 := h248) (ty := .int) (v := .int 0) dX8_init_248 rfl (t := 0) rfl (by decide) wd_123 (by decide) rfl e248 (fun _ _ => rfl) ?_
  obtain ⟨h250, e250, hf⟩ := Option.bind_eq_some_iff.mp hf
  refine ym_putF (pc := 250) (h1 := h250) dX8_init_250 rfl (by decide) iX8 tyX8 tyX8_ok nmX8 (k := 30) (by decide) wd_875 rfl rfl rfl (tyX8_ok 30 (by decide)) (ym_nrA _ _) (ym_fiA _ _) e250 ?_
  refine ym_aload_n (pc := 253) 0 dX8_init_253 rfl rfl ?_
  refine ym_sipush (pc := 254) (v := 400) dX8_init_254 (by decide) ?_
  obtain ⟨h257, e257, hf⟩ := Option.bind_eq_some_iff.mp hf
  refine ym_newA (pc := 257) (h1 := h257) (ty := .int) (v := .int 0) dX8_init_257 rfl (t := 0) rfl (by decide) wd_123 (by decide) rfl e257 (fun _ _ => rfl) ?_
  obtain ⟨h259, e259, hf⟩ := Option.bind_eq_some_iff.mp hf
  refine ym_putF (pc := 259) (h1 := h259) dX8_init_259 rfl (by decide) iX8 tyX8 tyX8_ok nmX8 (k := 31) (by decide) wd_876 rfl rfl rfl (tyX8_ok 31 (by decide)) (ym_nrA _ _) (ym_fiA _ _) e259 ?_
  refine ym_aload_n (pc := 262) 0 dX8_init_262 rfl rfl ?_
  refine ym_sipush (pc := 263) (v := 400) dX8_init_263 (by decide) ?_
  obtain ⟨h266, e266, hf⟩ := Option.bind_eq_some_iff.mp hf
  refine ym_newA (pc := 266) (h1 := h266) (ty := .int) (v := .int 0) dX8_init_266 rfl (t := 0) rfl (by decide) wd_123 (by decide) rfl e266 (fun _ _ => rfl) ?_
  obtain ⟨h268, e268, hf⟩ := Option.bind_eq_some_iff.mp hf
  refine ym_putF (pc := 268) (h1 := h268) dX8_init_268 rfl (by decide) iX8 tyX8 tyX8_ok nmX8 (k := 32) (by decide) wd_877 rfl rfl rfl (tyX8_ok 32 (by decide)) (ym_nrA _ _) (ym_fiA _ _) e268 ?_
  refine ym_aload_n (pc := 271) 0 dX8_init_271 rfl rfl ?_
  refine ym_bipush (pc := 272) (v := 20) dX8_init_272 (by decide) ?_
  obtain ⟨h274, e274, hf⟩ := Option.bind_eq_some_iff.mp hf
  refine ym_newA (pc := 274) (h1 := h274) (ty := .long) (v := .long 0) dX8_init_274 rfl (t := 1) rfl (by decide) wd_124 (by decide) rfl e274 (fun _ _ => rfl) ?_
  obtain ⟨h276, e276, hf⟩ := Option.bind_eq_some_iff.mp hf
  refine ym_putF (pc := 276) (h1 := h276) dX8_init_276 rfl (by decide) iX8 tyX8 tyX8_ok nmX8 (k := 34) (by decide) wd_879 rfl rfl rfl (tyX8_ok 34 (by decide)) (ym_nrA _ _) (ym_fiA _ _) e276 ?_
  refine ym_aload_n (pc := 279) 0 dX8_init_279 rfl rfl ?_
  refine ym_bipush (pc := 280) (v := 20) dX8_init_280 (by decide) ?_
  obtain ⟨h282, e282, hf⟩ := Option.bind_eq_some_iff.mp hf
  refine ym_newA (pc := 282) (h1 := h282) (ty := .long) (v := .long 0) dX8_init_282 rfl (t := 1) rfl (by decide) wd_124 (by decide) rfl e282 (fun _ _ => rfl) ?_
  obtain ⟨h284, e284, hf⟩ := Option.bind_eq_some_iff.mp hf
  refine ym_putF (pc := 284) (h1 := h284) dX8_init_284 rfl (by decide) iX8 tyX8 tyX8_ok nmX8 (k := 35) (by decide) wd_880 rfl rfl rfl (tyX8_ok 35 (by decide)) (ym_nrA _ _) (ym_fiA _ _) e284 ?_
  refine ym_aload_n (pc := 287) 0 dX8_init_287 rfl rfl ?_
  refine ym_bipush (pc := 288) (v := 20) dX8_init_288 (by decide) ?_
  obtain ⟨h290, e290, hf⟩ := Option.bind_eq_some_iff.mp hf
  refine ym_newA (pc := 290) (h1 := h290) (ty := .long) (v := .long 0) dX8_init_290 rfl (t := 1) rfl (by decide) wd_124 (by decide) rfl e290 (fun _ _ => rfl) ?_
  obtain ⟨h292, e292, hf⟩ := Option.bind_eq_some_iff.mp hf
  refine ym_putF (pc := 292) (h1 := h292) dX8_init_292 rfl (by decide) iX8 tyX8 tyX8_ok nmX8 (k := 37) (by decide) wd_882 rfl rfl rfl (tyX8_ok 37 (by decide)) (ym_nrA _ _) (ym_fiA _ _) e292 ?_
  refine ym_aload_n (pc := 295) 0 dX8_init_295 rfl rfl ?_
  refine ym_bipush (pc := 296) (v := 20) dX8_init_296 (by decide) ?_
  obtain ⟨h298, e298, hf⟩ := Option.bind_eq_some_iff.mp hf
  refine ym_newA (pc := 298) (h1 := h298) (ty := .int) (v := .int 0) dX8_init_298 rfl (t := 0) rfl (by decide) wd_123 (by decide) rfl e298 (fun _ _ => rfl) ?_
  obtain ⟨h300, e300, hf⟩ := Option.bind_eq_some_iff.mp hf
  refine ym_putF (pc := 300) (h1 := h300) dX8_init_300 rfl (by decide) iX8 tyX8 tyX8_ok nmX8 (k := 38) (by decide) wd_883 rfl rfl rfl (tyX8_ok 38 (by decide)) (ym_nrA _ _) (ym_fiA _ _) e300 ?_
  refine ym_aload_n (pc := 303) 0 dX8_init_303 rfl rfl ?_
  refine ym_bipush (pc := 304) (v := 6) dX8_init_304 (by decide) ?_
  obtain ⟨h306, e306, hf⟩ := Option.bind_eq_some_iff.mp hf
  refine ym_newA (pc := 306) (h1 := h306) (ty := .int) (v := .int 0) dX8_init_306 rfl (t := 0) rfl (by decide) wd_123 (by decide) rfl e306 (fun _ _ => rfl) ?_
  obtain ⟨h308, e308, hf⟩ := Option.bind_eq_some_iff.mp hf
  refine ym_putF (pc := 308) (h1 := h308) dX8_init_308 rfl (by decide) iX8 tyX8 tyX8_ok nmX8 (k := 39) (by decide) wd_884 rfl rfl rfl (tyX8_ok 39 (by decide)) (ym_nrA _ _) (ym_fiA _ _) e308 ?_
  refine ym_aload_n (pc := 311) 0 dX8_init_311 rfl rfl ?_
  refine ym_iconst (pc := 312) (v := 3) dX8_init_312 (by decide) ?_
  obtain ⟨h313, e313, hf⟩ := Option.bind_eq_some_iff.mp hf
  refine ym_newA (pc := 313) (h1 := h313) (ty := .long) (v := .long 0) dX8_init_313 rfl (t := 1) rfl (by decide) wd_124 (by decide) rfl e313 (fun _ _ => rfl) ?_
  obtain ⟨h315, e315, hf⟩ := Option.bind_eq_some_iff.mp hf
  refine ym_putF (pc := 315) (h1 := h315) dX8_init_315 rfl (by decide) iX8 tyX8 tyX8_ok nmX8 (k := 40) (by decide) wd_885 rfl rfl rfl (tyX8_ok 40 (by decide)) (ym_nrA _ _) (ym_fiA _ _) e315 ?_
  refine ym_aload_n (pc := 318) 0 dX8_init_318 rfl rfl ?_
  refine ym_bipush (pc := 319) (v := 64) dX8_init_319 (by decide) ?_
  obtain ⟨h321, e321, hf⟩ := Option.bind_eq_some_iff.mp hf
  refine ym_newA (pc := 321) (h1 := h321) (ty := .int) (v := .int 0) dX8_init_321 rfl (t := 0) rfl (by decide) wd_123 (by decide) rfl e321 (fun _ _ => rfl) ?_
  obtain ⟨h323, e323, hf⟩ := Option.bind_eq_some_iff.mp hf
  refine ym_put (pc := 323) (h1 := h323) dX8_init_323 rfl (by decide) iX8 tyX8 tyX8_ok nmX8 (k := 42) (by decide) wd_887 rfl (tyX8_ok 42 (by decide)) (ym_nrA _ _) (ym_fiA _ _) e323 ?_
  refine ym_aload_n (pc := 326) 0 dX8_init_326 rfl rfl ?_
  refine ym_bipush (pc := 327) (v := 64) dX8_init_327 (by decide) ?_
  obtain ⟨h329, e329, hf⟩ := Option.bind_eq_some_iff.mp hf
  refine ym_newA (pc := 329) (h1 := h329) (ty := .int) (v := .int 0) dX8_init_329 rfl (t := 0) rfl (by decide) wd_123 (by decide) rfl e329 (fun _ _ => rfl) ?_
  obtain ⟨h331, e331, hf⟩ := Option.bind_eq_some_iff.mp hf
  refine ym_put (pc := 331) (h1 := h331) dX8_init_331 rfl (by decide) iX8 tyX8 tyX8_ok nmX8 (k := 43) (by decide) wd_888 rfl (tyX8_ok 43 (by decide)) (ym_nrA _ _) (ym_fiA _ _) e331 ?_
  refine ym_aload_n (pc := 334) 0 dX8_init_334 rfl rfl ?_
  refine ym_bipush (pc := 335) (v := 64) dX8_init_335 (by decide) ?_
  obtain ⟨h337, e337, hf⟩ := Option.bind_eq_some_iff.mp hf
  refine ym_newA (pc := 337) (h1 := h337) (ty := .int) (v := .int 0) dX8_init_337 rfl (t := 0) rfl (by decide) wd_123 (by decide) rfl e337 (fun _ _ => rfl) ?_
  obtain ⟨h339, e339, hf⟩ := Option.bind_eq_some_iff.mp hf
  refine ym_put (pc := 339) (h1 := h339) dX8_init_339 rfl (by decide) iX8 tyX8 tyX8_ok nmX8 (k := 44) (by decide) wd_889 rfl (tyX8_ok 44 (by decide)) (ym_nrA _ _) (ym_fiA _ _) e339 ?_
  refine ym_aload_n (pc := 342) 0 dX8_init_342 rfl rfl ?_
  refine ym_bipush (pc := 343) (v := 64) dX8_init_343 (by decide) ?_
  obtain ⟨h345, e345, hf⟩ := Option.bind_eq_some_iff.mp hf
  refine ym_newA (pc := 345) (h1 := h345) (ty := .int) (v := .int 0) dX8_init_345 rfl (t := 0) rfl (by decide) wd_123 (by decide) rfl e345 (fun _ _ => rfl) ?_
  obtain ⟨h347, e347, hf⟩ := Option.bind_eq_some_iff.mp hf
  refine ym_put (pc := 347) (h1 := h347) dX8_init_347 rfl (by decide) iX8 tyX8 tyX8_ok nmX8 (k := 45) (by decide) wd_890 rfl (tyX8_ok 45 (by decide)) (ym_nrA _ _) (ym_fiA _ _) e347 ?_
  refine ym_aload_n (pc := 350) 0 dX8_init_350 rfl rfl ?_
  refine ym_bipush (pc := 351) (v := 64) dX8_init_351 (by decide) ?_
  obtain ⟨h353, e353, hf⟩ := Option.bind_eq_some_iff.mp hf
  refine ym_newA (pc := 353) (h1 := h353) (ty := .long) (v := .long 0) dX8_init_353 rfl (t := 1) rfl (by decide) wd_124 (by decide) rfl e353 (fun _ _ => rfl) ?_
  obtain ⟨h355, e355, hf⟩ := Option.bind_eq_some_iff.mp hf
  refine ym_put (pc := 355) (h1 := h355) dX8_init_355 rfl (by decide) iX8 tyX8 tyX8_ok nmX8 (k := 46) (by decide) wd_891 rfl (tyX8_ok 46 (by decide)) (ym_nrA _ _) (ym_fiA _ _) e355 ?_
  refine ym_aload_n (pc := 358) 0 dX8_init_358 rfl rfl ?_
  refine ym_bipush (pc := 359) (v := 64) dX8_init_359 (by decide) ?_
  obtain ⟨h361, e361, hf⟩ := Option.bind_eq_some_iff.mp hf
  refine ym_newA (pc := 361) (h1 := h361) (ty := .long) (v := .long 0) dX8_init_361 rfl (t := 1) rfl (by decide) wd_124 (by decide) rfl e361 (fun _ _ => rfl) ?_
  obtain ⟨h363, e363, hf⟩ := Option.bind_eq_some_iff.mp hf
  refine ym_put (pc := 363) (h1 := h363) dX8_init_363 rfl (by decide) iX8 tyX8 tyX8_ok nmX8 (k := 47) (by decide) wd_892 rfl (tyX8_ok 47 (by decide)) (ym_nrA _ _) (ym_fiA _ _) e363 ?_
  refine ym_aload_n (pc := 366) 0 dX8_init_366 rfl rfl ?_
  refine ym_bipush (pc := 367) (v := 64) dX8_init_367 (by decide) ?_
  obtain ⟨h369, e369, hf⟩ := Option.bind_eq_some_iff.mp hf
  refine ym_newA (pc := 369) (h1 := h369) (ty := .int) (v := .int 0) dX8_init_369 rfl (t := 0) rfl (by decide) wd_123 (by decide) rfl e369 (fun _ _ => rfl) ?_
  obtain ⟨h371, e371, hf⟩ := Option.bind_eq_some_iff.mp hf
  refine ym_put (pc := 371) (h1 := h371) dX8_init_371 rfl (by decide) iX8 tyX8 tyX8_ok nmX8 (k := 48) (by decide) wd_893 rfl (tyX8_ok 48 (by decide)) (ym_nrA _ _) (ym_fiA _ _) e371 ?_
  refine ym_aload_n (pc := 374) 0 dX8_init_374 rfl rfl ?_
  refine ym_bipush (pc := 375) (v := 8) dX8_init_375 (by decide) ?_
  obtain ⟨h377, e377, hf⟩ := Option.bind_eq_some_iff.mp hf
  refine ym_newA (pc := 377) (h1 := h377) (ty := .int) (v := .int 0) dX8_init_377 rfl (t := 0) rfl (by decide) wd_123 (by decide) rfl e377 (fun _ _ => rfl) ?_
  obtain ⟨h379, e379, hf⟩ := Option.bind_eq_some_iff.mp hf
  refine ym_putF (pc := 379) (h1 := h379) dX8_init_379 rfl (by decide) iX8 tyX8 tyX8_ok nmX8 (k := 50) (by decide) wd_895 rfl rfl rfl (tyX8_ok 50 (by decide)) (ym_nrA _ _) (ym_fiA _ _) e379 ?_
  refine ym_aload_n (pc := 382) 0 dX8_init_382 rfl rfl ?_
  refine ym_sipush (pc := 383) (v := 200) dX8_init_383 (by decide) ?_
  obtain ⟨h386, e386, hf⟩ := Option.bind_eq_some_iff.mp hf
  refine ym_newA (pc := 386) (h1 := h386) (ty := .int) (v := .int 0) dX8_init_386 rfl (t := 0) rfl (by decide) wd_123 (by decide) rfl e386 (fun _ _ => rfl) ?_
  obtain ⟨h388, e388, hf⟩ := Option.bind_eq_some_iff.mp hf
  refine ym_putF (pc := 388) (h1 := h388) dX8_init_388 rfl (by decide) iX8 tyX8 tyX8_ok nmX8 (k := 54) (by decide) wd_899 rfl rfl rfl (tyX8_ok 54 (by decide)) (ym_nrA _ _) (ym_fiA _ _) e388 ?_
  cases hf
  exact ym_vret (pc := 391) dX8_init_391 rfl
theorem dX8_join_0 : decode cX8_join 0 = .ok (.aload_n 0, 1) := by decide +kernel
theorem dX8_join_1 : decode cX8_join 1 = .ok (.bipush 15, 2) := by decide +kernel
theorem dX8_join_3 : decode cX8_join 3 = .ok (.iload_n 1, 1) := by decide +kernel
theorem dX8_join_4 : decode cX8_join 4 = .ok (.iload_n 2, 1) := by decide +kernel
theorem dX8_join_5 : decode cX8_join 5 = .ok (.iload_n 3, 1) := by decide +kernel
theorem dX8_join_6 : decode cX8_join 6 = .ok (.lconst 0, 1) := by decide +kernel
theorem dX8_join_7 : decode cX8_join 7 = .ok (.lconst 0, 1) := by decide +kernel
theorem dX8_join_8 : decode cX8_join 8 = .ok (.invokevirtual 420, 3) := by decide +kernel
theorem dX8_join_11 : decode cX8_join 11 = .ok (.lreturn, 1) := by decide +kernel
theorem sc_X8_join_X8_act : ym_site g_X8_join g_X8_act 19 18 6 := ⟨by decide, by decide, wd_1028, wd_83, by decide +kernel⟩
def fn_X8_join (N : Nat) (a0 : Option Nat) (a1 : Int32) (a2 : Int32) (a3 : Int32) (h : ym_H) : Option (Int64 × ym_H) :=
  Option.bind (ym_ob h a0 8) fun o8 =>
  Option.bind (fn_X8_act N a0 15 a1 a2 a3 0 0 h) fun q8 =>
  some (q8.1, q8.2)
set_option maxRecDepth 20000 in
set_option maxHeartbeats 4000000 in
theorem ok_X8_join {D : ym_D} {b0 : Nat} {N : Nat} {a0 : Option Nat} {a1 : Int32} {a2 : Int32} {a3 : Int32} {h h' : ym_H} {r : Int64} (hf : fn_X8_join N a0 a1 a2 a3 h = some (r, h')) : ym_M D b0 g_X8_join 19 [va_rf a0, .int a1, .int a2, .int a3] h (some (.long r)) h' := by
  unfold fn_X8_join at hf
  refine ym_meth (lv := [(0, va_rf a0), (1, .int a1), (2, .int a2), (3, .int a3)]) (by decide) (by simp [lg_sl, ym_c1, ym_cI, ym_cL, g_X8_join]) (by simp [lv_args, ym_c1, ym_cI, ym_cL]) ?_
  refine ym_aload_n (pc := 0) 0 dX8_join_0 rfl rfl ?_
  refine ym_bipush (pc := 1) (v := 15) dX8_join_1 (by decide) ?_
  refine ym_iload_n (pc := 3) 1 dX8_join_3 rfl rfl ?_
  refine ym_iload_n (pc := 4) 2 dX8_join_4 rfl rfl ?_
  refine ym_iload_n (pc := 5) 3 dX8_join_5 rfl rfl ?_
  refine ym_lconst (pc := 6) (v := 0) dX8_join_6 (by decide) ?_
  refine ym_lconst (pc := 7) (v := 0) dX8_join_7 (by decide) ?_
  obtain ⟨o8, f8, hf⟩ := Option.bind_eq_some_iff.mp hf
  obtain ⟨q8, e8, hf⟩ := Option.bind_eq_some_iff.mp hf
  refine ym_callV (pc := 8) (G2 := g_X8_act) (dep2 := 18) (As := [.int 15, .int a1, .int a2, .int a3, .long 0, .long 0]) (st := []) (stk2 := [.long q8.1]) (r2 := (some (.long q8.1))) (h1 := q8.2) dX8_join_8 (ok_X8_act e8) (sc_X8_join_X8_act) wd_1025 wd_1027 wd_21 (ci := 8) (q0 := (RX8, TX8, 58)) rfl (by decide) rfl f8 rfl rfl (ym_st4 (Nat.le_of_ble_eq_true rfl)) rfl ?_
  cases hf
  exact ym_lret (pc := 11) dX8_join_11 rfl
theorem dX8_kindOf_0 : decode cX8_kindOf 0 = .ok (.aload_n 0, 1) := by decide +kernel
theorem dX8_kindOf_1 : decode cX8_kindOf 1 = .ok (.iload_n 1, 1) := by decide +kernel
theorem dX8_kindOf_2 : decode cX8_kindOf 2 = .ok (.invokevirtual 423, 3) := by decide +kernel
theorem dX8_kindOf_5 : decode cX8_kindOf 5 = .ok (.ifCond .eq 12, 3) := by decide +kernel
theorem dX8_kindOf_8 : decode cX8_kindOf 8 = .ok (.aload_n 0, 1) := by decide +kernel
theorem dX8_kindOf_9 : decode cX8_kindOf 9 = .ok (.getfield 20, 3) := by decide +kernel
theorem dX8_kindOf_12 : decode cX8_kindOf 12 = .ok (.iload_n 1, 1) := by decide +kernel
theorem dX8_kindOf_13 : decode cX8_kindOf 13 = .ok (.iaload, 1) := by decide +kernel
theorem dX8_kindOf_14 : decode cX8_kindOf 14 = .ok (.goto 4, 3) := by decide +kernel
theorem dX8_kindOf_17 : decode cX8_kindOf 17 = .ok (.iconst 0, 1) := by decide +kernel
theorem dX8_kindOf_18 : decode cX8_kindOf 18 = .ok (.ireturn, 1) := by decide +kernel
theorem sc_X8_kindOf_X8_isLot : ym_site g_X8_kindOf g_X8_isLot 3 2 1 := ⟨by decide, by decide, wd_1372, wd_83, by decide +kernel⟩
def fn_X8_kindOf (N : Nat) (a0 : Option Nat) (a1 : Int32) (h : ym_H) : Option (Int32 × ym_H) :=
  Option.bind (ym_ob h a0 8) fun o2 =>
  Option.bind (fn_X8_isLot N a0 a1 h) fun q2 =>
  if q2.1 = 0 then
    some (0, q2.2)
  else
    Option.bind (ym_gR q2.2 a0 8 5) fun v9 =>
    Option.bind (ym_ldI q2.2 v9 a1) fun v13 =>
    some (v13, q2.2)
set_option maxRecDepth 20000 in
set_option maxHeartbeats 4000000 in
theorem ok_X8_kindOf {D : ym_D} {b0 : Nat} {N : Nat} {a0 : Option Nat} {a1 : Int32} {h h' : ym_H} {r : Int32} (hf : fn_X8_kindOf N a0 a1 h = some (r, h')) : ym_M D b0 g_X8_kindOf 3 [va_rf a0, .int a1] h (some (.int r)) h' := by
  unfold fn_X8_kindOf at hf
  refine ym_meth (lv := [(0, va_rf a0), (1, .int a1)]) (by decide) (by simp [lg_sl, ym_c1, ym_cI, ym_cL, g_X8_kindOf]) (by simp [lv_args, ym_c1, ym_cI, ym_cL]) ?_
  refine ym_aload_n (pc := 0) 0 dX8_kindOf_0 rfl rfl ?_
  refine ym_iload_n (pc := 1) 1 dX8_kindOf_1 rfl rfl ?_
  obtain ⟨o2, f2, hf⟩ := Option.bind_eq_some_iff.mp hf
  obtain ⟨q2, e2, hf⟩ := Option.bind_eq_some_iff.mp hf
  refine ym_callV (pc := 2) (G2 := g_X8_isLot) (dep2 := 2) (As := [.int a1]) (st := []) (stk2 := [.int q2.1]) (r2 := (some (.int q2.1))) (h1 := q2.2) dX8_kindOf_2 (ok_X8_isLot e2) (sc_X8_kindOf_X8_isLot) wd_1369 wd_1371 wd_73 (ci := 8) (q0 := (RX8, TX8, 58)) rfl (by decide) rfl f2 rfl rfl (ym_st4 (Nat.le_of_ble_eq_true rfl)) rfl ?_
  by_cases c5 : q2.1 = 0
  · rw [if_pos c5] at hf
    refine ym_if_eq_y (pc := 5) (tgt := 17) dX8_kindOf_5 (by decide) c5 ?_
    refine ym_iconst (pc := 17) (v := 0) dX8_kindOf_17 (by decide) ?_
    cases hf
    exact ym_iret (pc := 18) dX8_kindOf_18 rfl
  · rw [if_neg c5] at hf
    refine ym_if_eq_n (pc := 5) (tgt := 17) dX8_kindOf_5 (by decide) c5 ?_
    refine ym_aload_n (pc := 8) 0 dX8_kindOf_8 rfl rfl ?_
    obtain ⟨v9, e9, hf⟩ := Option.bind_eq_some_iff.mp hf
    refine ym_get (pc := 9) dX8_kindOf_9 rfl (by decide) iX8 (k := 5) (by decide) wd_850 (ym_gR_v e9) ?_
    refine ym_iload_n (pc := 12) 1 dX8_kindOf_12 rfl rfl ?_
    obtain ⟨v13, e13, hf⟩ := Option.bind_eq_some_iff.mp hf
    refine ym_iald (pc := 13) dX8_kindOf_13 rfl (ym_ldI_v e13) ?_
    refine ym_goto (pc := 14) (tgt := 18) dX8_kindOf_14 (by decide) ?_
    cases hf
    exact ym_iret (pc := 18) dX8_kindOf_18 rfl
theorem dX8_limit_0 : decode cX8_limit 0 = .ok (.aload_n 0, 1) := by decide +kernel
theorem dX8_limit_1 : decode cX8_limit 1 = .ok (.bipush 10, 2) := by decide +kernel
theorem dX8_limit_3 : decode cX8_limit 3 = .ok (.iload_n 1, 1) := by decide +kernel
theorem dX8_limit_4 : decode cX8_limit 4 = .ok (.iload_n 2, 1) := by decide +kernel
theorem dX8_limit_5 : decode cX8_limit 5 = .ok (.iconst 0, 1) := by decide +kernel
theorem dX8_limit_6 : decode cX8_limit 6 = .ok (.lload_n 3, 1) := by decide +kernel
theorem dX8_limit_7 : decode cX8_limit 7 = .ok (.lconst 0, 1) := by decide +kernel
theorem dX8_limit_8 : decode cX8_limit 8 = .ok (.invokevirtual 420, 3) := by decide +kernel
theorem dX8_limit_11 : decode cX8_limit 11 = .ok (.lreturn, 1) := by decide +kernel
theorem sc_X8_limit_X8_act : ym_site g_X8_limit g_X8_act 19 18 6 := ⟨by decide, by decide, wd_1028, wd_83, by decide +kernel⟩
def fn_X8_limit (N : Nat) (a0 : Option Nat) (a1 : Int32) (a2 : Int32) (a3 : Int64) (h : ym_H) : Option (Int64 × ym_H) :=
  Option.bind (ym_ob h a0 8) fun o8 =>
  Option.bind (fn_X8_act N a0 10 a1 a2 0 a3 0 h) fun q8 =>
  some (q8.1, q8.2)
set_option maxRecDepth 20000 in
set_option maxHeartbeats 4000000 in
theorem ok_X8_limit {D : ym_D} {b0 : Nat} {N : Nat} {a0 : Option Nat} {a1 : Int32} {a2 : Int32} {a3 : Int64} {h h' : ym_H} {r : Int64} (hf : fn_X8_limit N a0 a1 a2 a3 h = some (r, h')) : ym_M D b0 g_X8_limit 19 [va_rf a0, .int a1, .int a2, .long a3] h (some (.long r)) h' := by
  unfold fn_X8_limit at hf
  refine ym_meth (lv := [(0, va_rf a0), (1, .int a1), (2, .int a2), (3, .long a3)]) (by decide) (by simp [lg_sl, ym_c1, ym_cI, ym_cL, g_X8_limit]) (by simp [lv_args, ym_c1, ym_cI, ym_cL]) ?_
  refine ym_aload_n (pc := 0) 0 dX8_limit_0 rfl rfl ?_
  refine ym_bipush (pc := 1) (v := 10) dX8_limit_1 (by decide) ?_
  refine ym_iload_n (pc := 3) 1 dX8_limit_3 rfl rfl ?_
  refine ym_iload_n (pc := 4) 2 dX8_limit_4 rfl rfl ?_
  refine ym_iconst (pc := 5) (v := 0) dX8_limit_5 (by decide) ?_
  refine ym_lload_n (pc := 6) 3 dX8_limit_6 rfl rfl ?_
  refine ym_lconst (pc := 7) (v := 0) dX8_limit_7 (by decide) ?_
  obtain ⟨o8, f8, hf⟩ := Option.bind_eq_some_iff.mp hf
  obtain ⟨q8, e8, hf⟩ := Option.bind_eq_some_iff.mp hf
  refine ym_callV (pc := 8) (G2 := g_X8_act) (dep2 := 18) (As := [.int 10, .int a1, .int a2, .int 0, .long a3, .long 0]) (st := []) (stk2 := [.long q8.1]) (r2 := (some (.long q8.1))) (h1 := q8.2) dX8_limit_8 (ok_X8_act e8) (sc_X8_limit_X8_act) wd_1025 wd_1027 wd_21 (ci := 8) (q0 := (RX8, TX8, 58)) rfl (by decide) rfl f8 rfl rfl (ym_st4 (Nat.le_of_ble_eq_true rfl)) rfl ?_
  cases hf
  exact ym_lret (pc := 11) dX8_limit_11 rfl
theorem dX8_lot_0 : decode cX8_lot 0 = .ok (.aload_n 0, 1) := by decide +kernel
theorem dX8_lot_1 : decode cX8_lot 1 = .ok (.iconst 2, 1) := by decide +kernel
theorem dX8_lot_2 : decode cX8_lot 2 = .ok (.iload_n 1, 1) := by decide +kernel
theorem dX8_lot_3 : decode cX8_lot 3 = .ok (.iconst 0, 1) := by decide +kernel
theorem dX8_lot_4 : decode cX8_lot 4 = .ok (.iconst 0, 1) := by decide +kernel
theorem dX8_lot_5 : decode cX8_lot 5 = .ok (.lload_n 2, 1) := by decide +kernel
theorem dX8_lot_6 : decode cX8_lot 6 = .ok (.lload 4, 2) := by decide +kernel
theorem dX8_lot_8 : decode cX8_lot 8 = .ok (.invokevirtual 420, 3) := by decide +kernel
theorem dX8_lot_11 : decode cX8_lot 11 = .ok (.lreturn, 1) := by decide +kernel
theorem sc_X8_lot_X8_act : ym_site g_X8_lot g_X8_act 19 18 6 := ⟨by decide, by decide, wd_1028, wd_83, by decide +kernel⟩
def fn_X8_lot (N : Nat) (a0 : Option Nat) (a1 : Int32) (a2 : Int64) (a4 : Int64) (h : ym_H) : Option (Int64 × ym_H) :=
  Option.bind (ym_ob h a0 8) fun o8 =>
  Option.bind (fn_X8_act N a0 2 a1 0 0 a2 a4 h) fun q8 =>
  some (q8.1, q8.2)
set_option maxRecDepth 20000 in
set_option maxHeartbeats 4000000 in
theorem ok_X8_lot {D : ym_D} {b0 : Nat} {N : Nat} {a0 : Option Nat} {a1 : Int32} {a2 : Int64} {a4 : Int64} {h h' : ym_H} {r : Int64} (hf : fn_X8_lot N a0 a1 a2 a4 h = some (r, h')) : ym_M D b0 g_X8_lot 19 [va_rf a0, .int a1, .long a2, .long a4] h (some (.long r)) h' := by
  unfold fn_X8_lot at hf
  refine ym_meth (lv := [(0, va_rf a0), (1, .int a1), (2, .long a2), (4, .long a4)]) (by decide) (by simp [lg_sl, ym_c1, ym_cI, ym_cL, g_X8_lot]) (by simp [lv_args, ym_c1, ym_cI, ym_cL]) ?_
  refine ym_aload_n (pc := 0) 0 dX8_lot_0 rfl rfl ?_
  refine ym_iconst (pc := 1) (v := 2) dX8_lot_1 (by decide) ?_
  refine ym_iload_n (pc := 2) 1 dX8_lot_2 rfl rfl ?_
  refine ym_iconst (pc := 3) (v := 0) dX8_lot_3 (by decide) ?_
  refine ym_iconst (pc := 4) (v := 0) dX8_lot_4 (by decide) ?_
  refine ym_lload_n (pc := 5) 2 dX8_lot_5 rfl rfl ?_
  refine ym_lload (pc := 6) 3 dX8_lot_6 rfl ?_
  obtain ⟨o8, f8, hf⟩ := Option.bind_eq_some_iff.mp hf
  obtain ⟨q8, e8, hf⟩ := Option.bind_eq_some_iff.mp hf
  refine ym_callV (pc := 8) (G2 := g_X8_act) (dep2 := 18) (As := [.int 2, .int a1, .int 0, .int 0, .long a2, .long a4]) (st := []) (stk2 := [.long q8.1]) (r2 := (some (.long q8.1))) (h1 := q8.2) dX8_lot_8 (ok_X8_act e8) (sc_X8_lot_X8_act) wd_1025 wd_1027 wd_21 (ci := 8) (q0 := (RX8, TX8, 58)) rfl (by decide) rfl f8 rfl rfl (ym_st4 (Nat.le_of_ble_eq_true rfl)) rfl ?_
  cases hf
  exact ym_lret (pc := 11) dX8_lot_11 rfl
theorem dX8_numbers_0 : decode cX8_numbers 0 = .ok (.iload_n 1, 1) := by decide +kernel
theorem dX8_numbers_1 : decode cX8_numbers 1 = .ok (.ifCond .eq 8, 3) := by decide +kernel
theorem dX8_numbers_4 : decode cX8_numbers 4 = .ok (.iload_n 1, 1) := by decide +kernel
theorem dX8_numbers_5 : decode cX8_numbers 5 = .ok (.iconst 1, 1) := by decide +kernel
theorem dX8_numbers_6 : decode cX8_numbers 6 = .ok (.if_icmp .ne 10, 3) := by decide +kernel
theorem dX8_numbers_9 : decode cX8_numbers 9 = .ok (.aload_n 0, 1) := by decide +kernel
theorem dX8_numbers_10 : decode cX8_numbers 10 = .ok (.getfield 204, 3) := by decide +kernel
theorem dX8_numbers_13 : decode cX8_numbers 13 = .ok (.goto 4, 3) := by decide +kernel
theorem dX8_numbers_16 : decode cX8_numbers 16 = .ok (.iconst 0, 1) := by decide +kernel
theorem dX8_numbers_17 : decode cX8_numbers 17 = .ok (.ireturn, 1) := by decide +kernel
def fn_X8_numbers (N : Nat) (a0 : Option Nat) (a1 : Int32) (h : ym_H) : Option (Int32 × ym_H) :=
  if a1 = 0 then
    Option.bind (ym_gI h a0 8 51) fun v10 =>
    some (v10, h)
  else
    if a1 = 1 then
      Option.bind (ym_gI h a0 8 51) fun v10 =>
      some (v10, h)
    else
      some (0, h)
set_option maxRecDepth 20000 in
set_option maxHeartbeats 4000000 in
theorem ok_X8_numbers {D : ym_D} {b0 : Nat} {N : Nat} {a0 : Option Nat} {a1 : Int32} {h h' : ym_H} {r : Int32} (hf : fn_X8_numbers N a0 a1 h = some (r, h')) : ym_M D b0 g_X8_numbers 1 [va_rf a0, .int a1] h (some (.int r)) h' := by
  unfold fn_X8_numbers at hf
  refine ym_meth (lv := [(0, va_rf a0), (1, .int a1)]) (by decide) (by simp [lg_sl, ym_c1, ym_cI, ym_cL, g_X8_numbers]) (by simp [lv_args, ym_c1, ym_cI, ym_cL]) ?_
  refine ym_iload_n (pc := 0) 1 dX8_numbers_0 rfl rfl ?_
  by_cases c1 : a1 = 0
  · rw [if_pos c1] at hf
    refine ym_if_eq_y (pc := 1) (tgt := 9) dX8_numbers_1 (by decide) c1 ?_
    refine ym_aload_n (pc := 9) 0 dX8_numbers_9 rfl rfl ?_
    obtain ⟨v10, e10, hf⟩ := Option.bind_eq_some_iff.mp hf
    refine ym_get (pc := 10) dX8_numbers_10 rfl (by decide) iX8 (k := 51) (by decide) wd_896 (ym_gI_v e10) ?_
    refine ym_goto (pc := 13) (tgt := 17) dX8_numbers_13 (by decide) ?_
    cases hf
    exact ym_iret (pc := 17) dX8_numbers_17 rfl
  · rw [if_neg c1] at hf
    refine ym_if_eq_n (pc := 1) (tgt := 9) dX8_numbers_1 (by decide) c1 ?_
    refine ym_iload_n (pc := 4) 1 dX8_numbers_4 rfl rfl ?_
    refine ym_iconst (pc := 5) (v := 1) dX8_numbers_5 (by decide) ?_
    by_cases c6 : a1 = 1
    · rw [if_pos c6] at hf
      refine ym_icmp_ne_y (pc := 6) (tgt := 16) dX8_numbers_6 (by decide) c6 ?_
      refine ym_aload_n (pc := 9) 0 dX8_numbers_9 rfl rfl ?_
      obtain ⟨v10, e10, hf⟩ := Option.bind_eq_some_iff.mp hf
      refine ym_get (pc := 10) dX8_numbers_10 rfl (by decide) iX8 (k := 51) (by decide) wd_896 (ym_gI_v e10) ?_
      refine ym_goto (pc := 13) (tgt := 17) dX8_numbers_13 (by decide) ?_
      cases hf
      exact ym_iret (pc := 17) dX8_numbers_17 rfl
    · rw [if_neg c6] at hf
      refine ym_icmp_ne_n (pc := 6) (tgt := 16) dX8_numbers_6 (by decide) c6 ?_
      refine ym_iconst (pc := 16) (v := 0) dX8_numbers_16 (by decide) ?_
      cases hf
      exact ym_iret (pc := 17) dX8_numbers_17 rfl
