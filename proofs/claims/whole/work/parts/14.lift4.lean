theorem dX7_lotAt_0 : decode cX7_lotAt 0 = .ok (.iload_n 1, 1) := by decide +kernel
theorem dX7_lotAt_1 : decode cX7_lotAt 1 = .ok (.ifCond .lt 20, 3) := by decide +kernel
theorem dX7_lotAt_4 : decode cX7_lotAt 4 = .ok (.iload_n 1, 1) := by decide +kernel
theorem dX7_lotAt_5 : decode cX7_lotAt 5 = .ok (.aload_n 0, 1) := by decide +kernel
theorem dX7_lotAt_6 : decode cX7_lotAt 6 = .ok (.invokevirtual 83, 3) := by decide +kernel
theorem dX7_lotAt_9 : decode cX7_lotAt 9 = .ok (.if_icmp .ge 12, 3) := by decide +kernel
theorem dX7_lotAt_12 : decode cX7_lotAt 12 = .ok (.iload_n 1, 1) := by decide +kernel
theorem dX7_lotAt_13 : decode cX7_lotAt 13 = .ok (.aload_n 0, 1) := by decide +kernel
theorem dX7_lotAt_14 : decode cX7_lotAt 14 = .ok (.getfield 54, 3) := by decide +kernel
theorem dX7_lotAt_17 : decode cX7_lotAt 17 = .ok (.arraylength, 1) := by decide +kernel
theorem dX7_lotAt_18 : decode cX7_lotAt 18 = .ok (.if_icmp .lt 7, 3) := by decide +kernel
theorem dX7_lotAt_21 : decode cX7_lotAt 21 = .ok (.aconst_null, 1) := by decide +kernel
theorem dX7_lotAt_22 : decode cX7_lotAt 22 = .ok (.goto 9, 3) := by decide +kernel
theorem dX7_lotAt_25 : decode cX7_lotAt 25 = .ok (.aload_n 0, 1) := by decide +kernel
theorem dX7_lotAt_26 : decode cX7_lotAt 26 = .ok (.getfield 54, 3) := by decide +kernel
theorem dX7_lotAt_29 : decode cX7_lotAt 29 = .ok (.iload_n 1, 1) := by decide +kernel
theorem dX7_lotAt_30 : decode cX7_lotAt 30 = .ok (.aaload, 1) := by decide +kernel
theorem dX7_lotAt_31 : decode cX7_lotAt 31 = .ok (.areturn, 1) := by decide +kernel
theorem sc_X7_lotAt_X7_lotsMade : ym_site g_X7_lotAt g_X7_lotsMade 3 2 0 := ⟨by decide, by decide, wd_326, wd_76, by decide +kernel⟩
def fn_X7_lotAt (N : Nat) (a0 : Option Nat) (a1 : Int32) (h : ym_H) : Option (Option Nat × ym_H) :=
  if a1 < 0 then
    some (none, h)
  else
    Option.bind (ym_ob h a0 7) fun o6 =>
    Option.bind (fn_X7_lotsMade N a0 h) fun q6 =>
    if q6.1 ≤ a1 then
      some (none, q6.2)
    else
      Option.bind (ym_gR q6.2 a0 7 6) fun v14 =>
      Option.bind (ym_len q6.2 v14) fun v17 =>
      if a1 < v17 then
        Option.bind (ym_gR q6.2 a0 7 6) fun v26 =>
        Option.bind (ym_ldR q6.2 v26 4 a1) fun v30 =>
        some (v30, q6.2)
      else
        some (none, q6.2)
set_option maxRecDepth 20000 in
set_option maxHeartbeats 4000000 in
theorem ok_X7_lotAt {D : ym_D} {b0 : Nat} {N : Nat} {a0 : Option Nat} {a1 : Int32} {h h' : ym_H} {r : Option Nat} (hf : fn_X7_lotAt N a0 a1 h = some (r, h')) : ym_M D b0 g_X7_lotAt 3 [va_rf a0, .int a1] h (some (va_rf r)) h' := by
  unfold fn_X7_lotAt at hf
  refine ym_meth (lv := [(0, va_rf a0), (1, .int a1)]) (by decide) (by simp [lg_sl, ym_c1, ym_cI, ym_cL, g_X7_lotAt]) (by simp [lv_args, ym_c1, ym_cI, ym_cL]) ?_
  refine ym_iload_n (pc := 0) 1 dX7_lotAt_0 rfl rfl ?_
  by_cases c1 : a1 < 0
  · rw [if_pos c1] at hf
    refine ym_if_lt_y (pc := 1) (tgt := 21) dX7_lotAt_1 (by decide) c1 ?_
    refine ym_null (pc := 21) dX7_lotAt_21 ?_
    refine ym_goto (pc := 22) (tgt := 31) dX7_lotAt_22 (by decide) ?_
    cases hf
    exact ym_aret (pc := 31) dX7_lotAt_31 rfl (Or.inl ⟨_, rfl⟩)
  · rw [if_neg c1] at hf
    refine ym_if_lt_n (pc := 1) (tgt := 21) dX7_lotAt_1 (by decide) c1 ?_
    refine ym_iload_n (pc := 4) 1 dX7_lotAt_4 rfl rfl ?_
    refine ym_aload_n (pc := 5) 0 dX7_lotAt_5 rfl rfl ?_
    obtain ⟨o6, f6, hf⟩ := Option.bind_eq_some_iff.mp hf
    obtain ⟨q6, e6, hf⟩ := Option.bind_eq_some_iff.mp hf
    refine ym_callV (pc := 6) (G2 := g_X7_lotsMade) (dep2 := 2) (As := []) (st := [.int a1]) (stk2 := [.int q6.1, .int a1]) (r2 := (some (.int q6.1))) (h1 := q6.2) dX7_lotAt_6 (ok_X7_lotsMade e6) (sc_X7_lotAt_X7_lotsMade) wd_323 wd_325 wd_4 (ci := 7) (q0 := (RX7, TX7, 10)) rfl (by decide) rfl f6 rfl rfl (ym_st4 (Nat.le_of_ble_eq_true rfl)) rfl ?_
    by_cases c9 : q6.1 ≤ a1
    · rw [if_pos c9] at hf
      refine ym_icmp_ge_y (pc := 9) (tgt := 21) dX7_lotAt_9 (by decide) c9 ?_
      refine ym_null (pc := 21) dX7_lotAt_21 ?_
      refine ym_goto (pc := 22) (tgt := 31) dX7_lotAt_22 (by decide) ?_
      cases hf
      exact ym_aret (pc := 31) dX7_lotAt_31 rfl (Or.inl ⟨_, rfl⟩)
    · rw [if_neg c9] at hf
      refine ym_icmp_ge_n (pc := 9) (tgt := 21) dX7_lotAt_9 (by decide) c9 ?_
      refine ym_iload_n (pc := 12) 1 dX7_lotAt_12 rfl rfl ?_
      refine ym_aload_n (pc := 13) 0 dX7_lotAt_13 rfl rfl ?_
      obtain ⟨v14, e14, hf⟩ := Option.bind_eq_some_iff.mp hf
      refine ym_get (pc := 14) dX7_lotAt_14 rfl (by decide) iX7 (k := 6) (by decide) wd_192 (ym_gR_v e14) ?_
      obtain ⟨v17, e17, hf⟩ := Option.bind_eq_some_iff.mp hf
      refine ym_alen (pc := 17) dX7_lotAt_17 e17 ?_
      by_cases c18 : a1 < v17
      · rw [if_pos c18] at hf
        refine ym_icmp_lt_y (pc := 18) (tgt := 25) dX7_lotAt_18 (by decide) c18 ?_
        refine ym_aload_n (pc := 25) 0 dX7_lotAt_25 rfl rfl ?_
        obtain ⟨v26, e26, hf⟩ := Option.bind_eq_some_iff.mp hf
        refine ym_get (pc := 26) dX7_lotAt_26 rfl (by decide) iX7 (k := 6) (by decide) wd_192 (ym_gR_v e26) ?_
        refine ym_iload_n (pc := 29) 1 dX7_lotAt_29 rfl rfl ?_
        obtain ⟨v30, e30, hf⟩ := Option.bind_eq_some_iff.mp hf
        refine ym_aald (pc := 30) dX7_lotAt_30 rfl (by decide) (by decide) rfl (ym_ldR_v e30) ?_
        cases hf
        exact ym_aret (pc := 31) dX7_lotAt_31 rfl (Or.inl ⟨_, rfl⟩)
      · rw [if_neg c18] at hf
        refine ym_icmp_lt_n (pc := 18) (tgt := 25) dX7_lotAt_18 (by decide) c18 ?_
        refine ym_null (pc := 21) dX7_lotAt_21 ?_
        refine ym_goto (pc := 22) (tgt := 31) dX7_lotAt_22 (by decide) ?_
        cases hf
        exact ym_aret (pc := 31) dX7_lotAt_31 rfl (Or.inl ⟨_, rfl⟩)
theorem dX7_whyNoLot_0 : decode cX7_whyNoLot 0 = .ok (.iload_n 0, 1) := by decide +kernel
theorem dX7_whyNoLot_1 : decode cX7_whyNoLot 1 = .ok (.ifCond .lt 10, 3) := by decide +kernel
theorem dX7_whyNoLot_4 : decode cX7_whyNoLot 4 = .ok (.iload_n 0, 1) := by decide +kernel
theorem dX7_whyNoLot_5 : decode cX7_whyNoLot 5 = .ok (.sipush 400, 3) := by decide +kernel
theorem dX7_whyNoLot_8 : decode cX7_whyNoLot 8 = .ok (.if_icmp .lt 7, 3) := by decide +kernel
theorem dX7_whyNoLot_11 : decode cX7_whyNoLot 11 = .ok (.iconst 3, 1) := by decide +kernel
theorem dX7_whyNoLot_12 : decode cX7_whyNoLot 12 = .ok (.goto 4, 3) := by decide +kernel
theorem dX7_whyNoLot_15 : decode cX7_whyNoLot 15 = .ok (.iconst 2, 1) := by decide +kernel
theorem dX7_whyNoLot_16 : decode cX7_whyNoLot 16 = .ok (.ireturn, 1) := by decide +kernel
def fn_X7_whyNoLot (N : Nat) (a0 : Int32) (h : ym_H) : Option (Int32 × ym_H) :=
  if a0 < 0 then
    some (3, h)
  else
    if a0 < 400 then
      some (2, h)
    else
      some (3, h)
set_option maxRecDepth 20000 in
set_option maxHeartbeats 4000000 in
theorem ok_X7_whyNoLot {D : ym_D} {b0 : Nat} {N : Nat} {a0 : Int32} {h h' : ym_H} {r : Int32} (hf : fn_X7_whyNoLot N a0 h = some (r, h')) : ym_M D b0 g_X7_whyNoLot 1 [.int a0] h (some (.int r)) h' := by
  unfold fn_X7_whyNoLot at hf
  refine ym_meth (lv := [(0, .int a0)]) (by decide) (by simp [lg_sl, ym_c1, ym_cI, ym_cL, g_X7_whyNoLot]) (by simp [lv_args, ym_c1, ym_cI, ym_cL]) ?_
  refine ym_iload_n (pc := 0) 0 dX7_whyNoLot_0 rfl rfl ?_
  by_cases c1 : a0 < 0
  · rw [if_pos c1] at hf
    refine ym_if_lt_y (pc := 1) (tgt := 11) dX7_whyNoLot_1 (by decide) c1 ?_
    refine ym_iconst (pc := 11) (v := 3) dX7_whyNoLot_11 (by decide) ?_
    refine ym_goto (pc := 12) (tgt := 16) dX7_whyNoLot_12 (by decide) ?_
    cases hf
    exact ym_iret (pc := 16) dX7_whyNoLot_16 rfl
  · rw [if_neg c1] at hf
    refine ym_if_lt_n (pc := 1) (tgt := 11) dX7_whyNoLot_1 (by decide) c1 ?_
    refine ym_iload_n (pc := 4) 0 dX7_whyNoLot_4 rfl rfl ?_
    refine ym_sipush (pc := 5) (v := 400) dX7_whyNoLot_5 (by decide) ?_
    by_cases c8 : a0 < 400
    · rw [if_pos c8] at hf
      refine ym_icmp_lt_y (pc := 8) (tgt := 15) dX7_whyNoLot_8 (by decide) c8 ?_
      refine ym_iconst (pc := 15) (v := 2) dX7_whyNoLot_15 (by decide) ?_
      cases hf
      exact ym_iret (pc := 16) dX7_whyNoLot_16 rfl
    · rw [if_neg c8] at hf
      refine ym_icmp_lt_n (pc := 8) (tgt := 15) dX7_whyNoLot_8 (by decide) c8 ?_
      refine ym_iconst (pc := 11) (v := 3) dX7_whyNoLot_11 (by decide) ?_
      refine ym_goto (pc := 12) (tgt := 16) dX7_whyNoLot_12 (by decide) ?_
      cases hf
      exact ym_iret (pc := 16) dX7_whyNoLot_16 rfl
theorem dX7_ask_0 : decode cX7_ask 0 = .ok (.aload_n 0, 1) := by decide +kernel
theorem dX7_ask_1 : decode cX7_ask 1 = .ok (.invokevirtual 58, 3) := by decide +kernel
theorem dX7_ask_4 : decode cX7_ask 4 = .ok (.aload_n 0, 1) := by decide +kernel
theorem dX7_ask_5 : decode cX7_ask 5 = .ok (.iload_n 1, 1) := by decide +kernel
theorem dX7_ask_6 : decode cX7_ask 6 = .ok (.invokevirtual 89, 3) := by decide +kernel
theorem dX7_ask_9 : decode cX7_ask 9 = .ok (.astore_n 2, 1) := by decide +kernel
theorem dX7_ask_10 : decode cX7_ask 10 = .ok (.aload_n 2, 1) := by decide +kernel
theorem dX7_ask_11 : decode cX7_ask 11 = .ok (.ifnonnull 12, 3) := by decide +kernel
theorem dX7_ask_14 : decode cX7_ask 14 = .ok (.aload_n 0, 1) := by decide +kernel
theorem dX7_ask_15 : decode cX7_ask 15 = .ok (.iload_n 1, 1) := by decide +kernel
theorem dX7_ask_16 : decode cX7_ask 16 = .ok (.invokestatic 93, 3) := by decide +kernel
theorem dX7_ask_19 : decode cX7_ask 19 = .ok (.invokevirtual 61, 3) := by decide +kernel
theorem dX7_ask_22 : decode cX7_ask 22 = .ok (.lreturn, 1) := by decide +kernel
theorem dX7_ask_23 : decode cX7_ask 23 = .ok (.aload_n 2, 1) := by decide +kernel
theorem dX7_ask_24 : decode cX7_ask 24 = .ok (.invokevirtual 156, 3) := by decide +kernel
theorem dX7_ask_27 : decode cX7_ask 27 = .ok (.ifCond .ne 12, 3) := by decide +kernel
theorem dX7_ask_30 : decode cX7_ask 30 = .ok (.aload_n 0, 1) := by decide +kernel
theorem dX7_ask_31 : decode cX7_ask 31 = .ok (.aload_n 2, 1) := by decide +kernel
theorem dX7_ask_32 : decode cX7_ask 32 = .ok (.invokevirtual 159, 3) := by decide +kernel
theorem dX7_ask_35 : decode cX7_ask 35 = .ok (.invokevirtual 61, 3) := by decide +kernel
theorem dX7_ask_38 : decode cX7_ask 38 = .ok (.lreturn, 1) := by decide +kernel
theorem dX7_ask_39 : decode cX7_ask 39 = .ok (.aload_n 0, 1) := by decide +kernel
theorem dX7_ask_40 : decode cX7_ask 40 = .ok (.getfield 42, 3) := by decide +kernel
theorem dX7_ask_43 : decode cX7_ask 43 = .ok (.aload_n 2, 1) := by decide +kernel
theorem dX7_ask_44 : decode cX7_ask 44 = .ok (.invokevirtual 168, 3) := by decide +kernel
theorem dX7_ask_47 : decode cX7_ask 47 = .ok (.lreturn, 1) := by decide +kernel
theorem sc_X7_ask_X7_startAct : ym_site g_X7_ask g_X7_startAct 5 2 0 := ⟨by decide, by decide, wd_224, wd_76, by decide +kernel⟩
theorem sc_X7_ask_X7_lotAt : ym_site g_X7_ask g_X7_lotAt 5 3 1 := ⟨by decide, by decide, wd_374, wd_76, by decide +kernel⟩
theorem sc_X7_ask_X7_whyNoLot : ym_site g_X7_ask g_X7_whyNoLot 5 1 1 := ⟨by decide, by decide, wd_377, wd_76, by decide +kernel⟩
theorem sc_X7_ask_X7_refuse : ym_site g_X7_ask g_X7_refuse 5 4 1 := ⟨by decide, by decide, wd_232, wd_76, by decide +kernel⟩
theorem sc_X7_ask_X4_isOpen : ym_site g_X7_ask g_X4_isOpen 5 3 0 := ⟨by decide, by decide, wd_538, wd_87, by decide +kernel⟩
theorem sc_X7_ask_X4_whyNotOpen : ym_site g_X7_ask g_X4_whyNotOpen 5 4 0 := ⟨by decide, by decide, wd_543, wd_87, by decide +kernel⟩
theorem sc_X7_ask_X1_askFor : ym_site g_X7_ask g_X1_askFor 5 4 1 := ⟨by decide, by decide, wd_558, wd_82, by decide +kernel⟩
def fn_X7_ask (N : Nat) (a0 : Option Nat) (a1 : Int32) (h : ym_H) : Option (Int64 × ym_H) :=
  Option.bind (ym_ob h a0 7) fun o1 =>
  Option.bind (fn_X7_startAct N a0 h) fun q1 =>
  Option.bind (ym_ob q1.2 a0 7) fun o6 =>
  Option.bind (fn_X7_lotAt N a0 a1 q1.2) fun q6 =>
  if q6.1 = none then
    Option.bind (fn_X7_whyNoLot N a1 q6.2) fun q16 =>
    Option.bind (ym_ob q16.2 a0 7) fun o19 =>
    Option.bind (fn_X7_refuse N a0 q16.1 q16.2) fun q19 =>
    some (q19.1, q19.2)
  else
    Option.bind (ym_ob q6.2 q6.1 4) fun o24 =>
    Option.bind (fn_X4_isOpen N q6.1 q6.2) fun q24 =>
    if q24.1 = 0 then
      Option.bind (ym_ob q24.2 q6.1 4) fun o32 =>
      Option.bind (fn_X4_whyNotOpen N q6.1 q24.2) fun q32 =>
      Option.bind (ym_ob q32.2 a0 7) fun o35 =>
      Option.bind (fn_X7_refuse N a0 q32.1 q32.2) fun q35 =>
      some (q35.1, q35.2)
    else
      Option.bind (ym_gR q24.2 a0 7 4) fun v40 =>
      Option.bind (ym_ob q24.2 v40 1) fun o44 =>
      Option.bind (fn_X1_askFor N v40 q6.1 q24.2) fun q44 =>
      some (q44.1, q44.2)
set_option maxRecDepth 20000 in
set_option maxHeartbeats 4000000 in
theorem ok_X7_ask {D : ym_D} {b0 : Nat} {N : Nat} {a0 : Option Nat} {a1 : Int32} {h h' : ym_H} {r : Int64} (hf : fn_X7_ask N a0 a1 h = some (r, h')) : ym_M D b0 g_X7_ask 5 [va_rf a0, .int a1] h (some (.long r)) h' := by
  unfold fn_X7_ask at hf
  refine ym_meth (lv := [(0, va_rf a0), (1, .int a1)]) (by decide) (by simp [lg_sl, ym_c1, ym_cI, ym_cL, g_X7_ask]) (by simp [lv_args, ym_c1, ym_cI, ym_cL]) ?_
  refine ym_aload_n (pc := 0) 0 dX7_ask_0 rfl rfl ?_
  obtain ⟨o1, f1, hf⟩ := Option.bind_eq_some_iff.mp hf
  obtain ⟨q1, e1, hf⟩ := Option.bind_eq_some_iff.mp hf
  refine ym_callV (pc := 1) (G2 := g_X7_startAct) (dep2 := 2) (As := []) (st := []) (stk2 := []) (r2 := none) (h1 := q1.2) dX7_ask_1 (ok_X7_startAct e1) (sc_X7_ask_X7_startAct) wd_221 wd_223 wd_0 (ci := 7) (q0 := (RX7, TX7, 10)) rfl (by decide) rfl f1 rfl rfl (ym_st4 (Nat.le_of_ble_eq_true rfl)) rfl ?_
  refine ym_aload_n (pc := 4) 0 dX7_ask_4 rfl rfl ?_
  refine ym_iload_n (pc := 5) 1 dX7_ask_5 rfl rfl ?_
  obtain ⟨o6, f6, hf⟩ := Option.bind_eq_some_iff.mp hf
  obtain ⟨q6, e6, hf⟩ := Option.bind_eq_some_iff.mp hf
  refine ym_callV (pc := 6) (G2 := g_X7_lotAt) (dep2 := 3) (As := [.int a1]) (st := []) (stk2 := [va_rf q6.1]) (r2 := (some (va_rf q6.1))) (h1 := q6.2) dX7_ask_6 (ok_X7_lotAt e6) (sc_X7_ask_X7_lotAt) wd_371 wd_373 wd_5 (ci := 7) (q0 := (RX7, TX7, 10)) rfl (by decide) rfl f6 rfl rfl (ym_st4 (Nat.le_of_ble_eq_true rfl)) rfl ?_
  refine ym_astore_n (pc := 9) (lv' := [(2, va_rf q6.1), (0, va_rf a0), (1, .int a1)]) dX7_ask_9 rfl (by decide) ⟨trivial, rfl, trivial⟩ rfl ?_
  refine ym_aload_n (pc := 10) 0 dX7_ask_10 rfl rfl ?_
  by_cases c11 : q6.1 = none
  · rw [if_pos c11] at hf
    refine ym_ifnonnull_y (pc := 11) (tgt := 23) dX7_ask_11 (by decide) c11 ?_
    refine ym_aload_n (pc := 14) 1 dX7_ask_14 rfl rfl ?_
    refine ym_iload_n (pc := 15) 2 dX7_ask_15 rfl rfl ?_
    obtain ⟨q16, e16, hf⟩ := Option.bind_eq_some_iff.mp hf
    refine ym_callS (pc := 16) (G2 := g_X7_whyNoLot) (dep2 := 1) (As := [.int a1]) (st := [va_rf a0]) (stk2 := [.int q16.1, va_rf a0]) (r2 := (some (.int q16.1))) (h1 := q16.2) dX7_ask_16 (ok_X7_whyNoLot e16) (sc_X7_ask_X7_whyNoLot) wd_375 wd_376 rfl rfl (ym_st4 (Nat.le_of_ble_eq_true rfl)) rfl ?_
    obtain ⟨o19, f19, hf⟩ := Option.bind_eq_some_iff.mp hf
    obtain ⟨q19, e19, hf⟩ := Option.bind_eq_some_iff.mp hf
    refine ym_callV (pc := 19) (G2 := g_X7_refuse) (dep2 := 4) (As := [.int q16.1]) (st := []) (stk2 := [.long q19.1]) (r2 := (some (.long q19.1))) (h1 := q19.2) dX7_ask_19 (ok_X7_refuse e19) (sc_X7_ask_X7_refuse) wd_229 wd_231 wd_1 (ci := 7) (q0 := (RX7, TX7, 10)) rfl (by decide) rfl f19 rfl rfl (ym_st4 (Nat.le_of_ble_eq_true rfl)) rfl ?_
    cases hf
    exact ym_lret (pc := 22) dX7_ask_22 rfl
  · rw [if_neg c11] at hf
    refine ym_ifnonnull_n (pc := 11) (tgt := 23) dX7_ask_11 (by decide) c11 ?_
    refine ym_aload_n (pc := 23) 0 dX7_ask_23 rfl rfl ?_
    obtain ⟨o24, f24, hf⟩ := Option.bind_eq_some_iff.mp hf
    obtain ⟨q24, e24, hf⟩ := Option.bind_eq_some_iff.mp hf
    refine ym_callV (pc := 24) (G2 := g_X4_isOpen) (dep2 := 3) (As := []) (st := []) (stk2 := [.int q24.1]) (r2 := (some (.int q24.1))) (h1 := q24.2) dX7_ask_24 (ok_X4_isOpen e24) (sc_X7_ask_X4_isOpen) wd_535 wd_536 wd_537 (ci := 4) (q0 := (RX4, TX4, 6)) rfl (by decide) rfl f24 rfl rfl (ym_st4 (Nat.le_of_ble_eq_true rfl)) rfl ?_
    by_cases c27 : q24.1 = 0
    · rw [if_pos c27] at hf
      refine ym_if_ne_y (pc := 27) (tgt := 39) dX7_ask_27 (by decide) c27 ?_
      refine ym_aload_n (pc := 30) 1 dX7_ask_30 rfl rfl ?_
      refine ym_aload_n (pc := 31) 0 dX7_ask_31 rfl rfl ?_
      obtain ⟨o32, f32, hf⟩ := Option.bind_eq_some_iff.mp hf
      obtain ⟨q32, e32, hf⟩ := Option.bind_eq_some_iff.mp hf
      refine ym_callV (pc := 32) (G2 := g_X4_whyNotOpen) (dep2 := 4) (As := []) (st := [va_rf a0]) (stk2 := [.int q32.1, va_rf a0]) (r2 := (some (.int q32.1))) (h1 := q32.2) dX7_ask_32 (ok_X4_whyNotOpen e32) (sc_X7_ask_X4_whyNotOpen) wd_540 wd_541 wd_542 (ci := 4) (q0 := (RX4, TX4, 6)) rfl (by decide) rfl f32 rfl rfl (ym_st4 (Nat.le_of_ble_eq_true rfl)) rfl ?_
      obtain ⟨o35, f35, hf⟩ := Option.bind_eq_some_iff.mp hf
      obtain ⟨q35, e35, hf⟩ := Option.bind_eq_some_iff.mp hf
      refine ym_callV (pc := 35) (G2 := g_X7_refuse) (dep2 := 4) (As := [.int q32.1]) (st := []) (stk2 := [.long q35.1]) (r2 := (some (.long q35.1))) (h1 := q35.2) dX7_ask_35 (ok_X7_refuse e35) (sc_X7_ask_X7_refuse) wd_229 wd_231 wd_1 (ci := 7) (q0 := (RX7, TX7, 10)) rfl (by decide) rfl f35 rfl rfl (ym_st4 (Nat.le_of_ble_eq_true rfl)) rfl ?_
      cases hf
      exact ym_lret (pc := 38) dX7_ask_38 rfl
    · rw [if_neg c27] at hf
      refine ym_if_ne_n (pc := 27) (tgt := 39) dX7_ask_27 (by decide) c27 ?_
      refine ym_aload_n (pc := 39) 1 dX7_ask_39 rfl rfl ?_
      obtain ⟨v40, e40, hf⟩ := Option.bind_eq_some_iff.mp hf
      refine ym_get (pc := 40) dX7_ask_40 rfl (by decide) iX7 (k := 4) (by decide) wd_190 (ym_gR_v e40) ?_
      refine ym_aload_n (pc := 43) 0 dX7_ask_43 rfl rfl ?_
      obtain ⟨o44, f44, hf⟩ := Option.bind_eq_some_iff.mp hf
      obtain ⟨q44, e44, hf⟩ := Option.bind_eq_some_iff.mp hf
      refine ym_callV (pc := 44) (G2 := g_X1_askFor) (dep2 := 4) (As := [va_rf q6.1]) (st := []) (stk2 := [.long q44.1]) (r2 := (some (.long q44.1))) (h1 := q44.2) dX7_ask_44 (ok_X1_askFor e44) (sc_X7_ask_X1_askFor) wd_555 wd_556 wd_557 (ci := 1) (q0 := (RX1, TX1, 3)) rfl (by decide) rfl f44 rfl rfl (ym_st4 (Nat.le_of_ble_eq_true rfl)) rfl ?_
      cases hf
      exact ym_lret (pc := 47) dX7_ask_47 rfl
theorem dX7_askPapers_0 : decode cX7_askPapers 0 = .ok (.aload_n 1, 1) := by decide +kernel
theorem dX7_askPapers_1 : decode cX7_askPapers 1 = .ok (.invokevirtual 183, 3) := by decide +kernel
theorem dX7_askPapers_4 : decode cX7_askPapers 4 = .ok (.ifCond .ne 4, 3) := by decide +kernel
theorem dX7_askPapers_7 : decode cX7_askPapers 7 = .ok (.return_, 1) := by decide +kernel
theorem dX7_askPapers_8 : decode cX7_askPapers 8 = .ok (.aload_n 1, 1) := by decide +kernel
theorem dX7_askPapers_9 : decode cX7_askPapers 9 = .ok (.iconst (-1), 1) := by decide +kernel
theorem dX7_askPapers_10 : decode cX7_askPapers 10 = .ok (.invokevirtual 325, 3) := by decide +kernel
theorem dX7_askPapers_13 : decode cX7_askPapers 13 = .ok (.istore_n 2, 1) := by decide +kernel
theorem dX7_askPapers_14 : decode cX7_askPapers 14 = .ok (.iload_n 2, 1) := by decide +kernel
theorem dX7_askPapers_15 : decode cX7_askPapers 15 = .ok (.iconst (-1), 1) := by decide +kernel
theorem dX7_askPapers_16 : decode cX7_askPapers 16 = .ok (.if_icmp .ne 7, 3) := by decide +kernel
theorem dX7_askPapers_19 : decode cX7_askPapers 19 = .ok (.iconst (-1), 1) := by decide +kernel
theorem dX7_askPapers_20 : decode cX7_askPapers 20 = .ok (.goto 8, 3) := by decide +kernel
theorem dX7_askPapers_23 : decode cX7_askPapers 23 = .ok (.aload_n 1, 1) := by decide +kernel
theorem dX7_askPapers_24 : decode cX7_askPapers 24 = .ok (.iload_n 2, 1) := by decide +kernel
theorem dX7_askPapers_25 : decode cX7_askPapers 25 = .ok (.invokevirtual 325, 3) := by decide +kernel
theorem dX7_askPapers_28 : decode cX7_askPapers 28 = .ok (.istore_n 3, 1) := by decide +kernel
theorem dX7_askPapers_29 : decode cX7_askPapers 29 = .ok (.aload_n 1, 1) := by decide +kernel
theorem dX7_askPapers_30 : decode cX7_askPapers 30 = .ok (.getfield 129, 3) := by decide +kernel
theorem dX7_askPapers_33 : decode cX7_askPapers 33 = .ok (.bipush 9, 2) := by decide +kernel
theorem dX7_askPapers_35 : decode cX7_askPapers 35 = .ok (.aload_n 1, 1) := by decide +kernel
theorem dX7_askPapers_36 : decode cX7_askPapers 36 = .ok (.iload_n 2, 1) := by decide +kernel
theorem dX7_askPapers_37 : decode cX7_askPapers 37 = .ok (.invokevirtual 328, 3) := by decide +kernel
theorem dX7_askPapers_40 : decode cX7_askPapers 40 = .ok (.invokevirtual 76, 3) := by decide +kernel
theorem dX7_askPapers_43 : decode cX7_askPapers 43 = .ok (.aload_n 1, 1) := by decide +kernel
theorem dX7_askPapers_44 : decode cX7_askPapers 44 = .ok (.getfield 129, 3) := by decide +kernel
theorem dX7_askPapers_47 : decode cX7_askPapers 47 = .ok (.bipush 10, 2) := by decide +kernel
theorem dX7_askPapers_49 : decode cX7_askPapers 49 = .ok (.aload_n 1, 1) := by decide +kernel
theorem dX7_askPapers_50 : decode cX7_askPapers 50 = .ok (.iload_n 3, 1) := by decide +kernel
theorem dX7_askPapers_51 : decode cX7_askPapers 51 = .ok (.invokevirtual 328, 3) := by decide +kernel
theorem dX7_askPapers_54 : decode cX7_askPapers 54 = .ok (.invokevirtual 76, 3) := by decide +kernel
theorem dX7_askPapers_57 : decode cX7_askPapers 57 = .ok (.iload_n 2, 1) := by decide +kernel
theorem dX7_askPapers_58 : decode cX7_askPapers 58 = .ok (.iconst (-1), 1) := by decide +kernel
theorem dX7_askPapers_59 : decode cX7_askPapers 59 = .ok (.if_icmp .eq 11, 3) := by decide +kernel
theorem dX7_askPapers_62 : decode cX7_askPapers 62 = .ok (.aload_n 1, 1) := by decide +kernel
theorem dX7_askPapers_63 : decode cX7_askPapers 63 = .ok (.iload_n 2, 1) := by decide +kernel
theorem dX7_askPapers_64 : decode cX7_askPapers 64 = .ok (.invokevirtual 331, 3) := by decide +kernel
theorem dX7_askPapers_67 : decode cX7_askPapers 67 = .ok (.ifCond .ne 4, 3) := by decide +kernel
theorem dX7_askPapers_70 : decode cX7_askPapers 70 = .ok (.return_, 1) := by decide +kernel
theorem dX7_askPapers_71 : decode cX7_askPapers 71 = .ok (.iload_n 3, 1) := by decide +kernel
theorem dX7_askPapers_72 : decode cX7_askPapers 72 = .ok (.iconst (-1), 1) := by decide +kernel
theorem dX7_askPapers_73 : decode cX7_askPapers 73 = .ok (.if_icmp .ne 10, 3) := by decide +kernel
theorem dX7_askPapers_76 : decode cX7_askPapers 76 = .ok (.aload_n 1, 1) := by decide +kernel
theorem dX7_askPapers_77 : decode cX7_askPapers 77 = .ok (.invokevirtual 141, 3) := by decide +kernel
theorem dX7_askPapers_80 : decode cX7_askPapers 80 = .ok (.goto 15, 3) := by decide +kernel
theorem dX7_askPapers_83 : decode cX7_askPapers 83 = .ok (.aload_n 0, 1) := by decide +kernel
theorem dX7_askPapers_84 : decode cX7_askPapers 84 = .ok (.getfield 30, 3) := by decide +kernel
theorem dX7_askPapers_87 : decode cX7_askPapers 87 = .ok (.aload_n 1, 1) := by decide +kernel
theorem dX7_askPapers_88 : decode cX7_askPapers 88 = .ok (.iload_n 3, 1) := by decide +kernel
theorem dX7_askPapers_89 : decode cX7_askPapers 89 = .ok (.invokevirtual 334, 3) := by decide +kernel
theorem dX7_askPapers_92 : decode cX7_askPapers 92 = .ok (.invokevirtual 337, 3) := by decide +kernel
theorem dX7_askPapers_95 : decode cX7_askPapers 95 = .ok (.lstore 4, 2) := by decide +kernel
theorem dX7_askPapers_97 : decode cX7_askPapers 97 = .ok (.aload_n 1, 1) := by decide +kernel
theorem dX7_askPapers_98 : decode cX7_askPapers 98 = .ok (.iload_n 2, 1) := by decide +kernel
theorem dX7_askPapers_99 : decode cX7_askPapers 99 = .ok (.invokevirtual 334, 3) := by decide +kernel
theorem dX7_askPapers_102 : decode cX7_askPapers 102 = .ok (.aload_n 1, 1) := by decide +kernel
theorem dX7_askPapers_103 : decode cX7_askPapers 103 = .ok (.getfield 204, 3) := by decide +kernel
theorem dX7_askPapers_106 : decode cX7_askPapers 106 = .ok (.lload 4, 2) := by decide +kernel
theorem dX7_askPapers_108 : decode cX7_askPapers 108 = .ok (.invokestatic 208, 3) := by decide +kernel
theorem dX7_askPapers_111 : decode cX7_askPapers 111 = .ok (.invokestatic 341, 3) := by decide +kernel
theorem dX7_askPapers_114 : decode cX7_askPapers 114 = .ok (.lstore 6, 2) := by decide +kernel
theorem dX7_askPapers_116 : decode cX7_askPapers 116 = .ok (.aload_n 1, 1) := by decide +kernel
theorem dX7_askPapers_117 : decode cX7_askPapers 117 = .ok (.getfield 189, 3) := by decide +kernel
theorem dX7_askPapers_120 : decode cX7_askPapers 120 = .ok (.iload_n 2, 1) := by decide +kernel
theorem dX7_askPapers_121 : decode cX7_askPapers 121 = .ok (.iconst 0, 1) := by decide +kernel
theorem dX7_askPapers_122 : decode cX7_askPapers 122 = .ok (.invokevirtual 321, 3) := by decide +kernel
theorem dX7_askPapers_125 : decode cX7_askPapers 125 = .ok (.l2i, 1) := by decide +kernel
theorem dX7_askPapers_126 : decode cX7_askPapers 126 = .ok (.istore 8, 2) := by decide +kernel
theorem dX7_askPapers_128 : decode cX7_askPapers 128 = .ok (.aload_n 1, 1) := by decide +kernel
theorem dX7_askPapers_129 : decode cX7_askPapers 129 = .ok (.invokevirtual 201, 3) := by decide +kernel
theorem dX7_askPapers_132 : decode cX7_askPapers 132 = .ok (.iload 8, 2) := by decide +kernel
theorem dX7_askPapers_134 : decode cX7_askPapers 134 = .ok (.if_icmp .ne 13, 3) := by decide +kernel
theorem dX7_askPapers_137 : decode cX7_askPapers 137 = .ok (.aload_n 1, 1) := by decide +kernel
theorem dX7_askPapers_138 : decode cX7_askPapers 138 = .ok (.invokevirtual 198, 3) := by decide +kernel
theorem dX7_askPapers_141 : decode cX7_askPapers 141 = .ok (.lload 6, 2) := by decide +kernel
theorem dX7_askPapers_143 : decode cX7_askPapers 143 = .ok (.lcmp, 1) := by decide +kernel
theorem dX7_askPapers_144 : decode cX7_askPapers 144 = .ok (.ifCond .ge 11, 3) := by decide +kernel
theorem dX7_askPapers_147 : decode cX7_askPapers 147 = .ok (.aload_n 1, 1) := by decide +kernel
theorem dX7_askPapers_148 : decode cX7_askPapers 148 = .ok (.iload 8, 2) := by decide +kernel
theorem dX7_askPapers_150 : decode cX7_askPapers 150 = .ok (.lload 6, 2) := by decide +kernel
theorem dX7_askPapers_152 : decode cX7_askPapers 152 = .ok (.invokevirtual 215, 3) := by decide +kernel
theorem dX7_askPapers_155 : decode cX7_askPapers 155 = .ok (.return_, 1) := by decide +kernel
theorem sc_X7_askPapers_X4_isRaised : ym_site g_X7_askPapers g_X4_isRaised 7 1 0 := ⟨by decide, by decide, wd_467, wd_87, by decide +kernel⟩
theorem sc_X7_askPapers_X4_greatestRival : ym_site g_X7_askPapers g_X4_greatestRival 7 6 1 := ⟨by decide, by decide, wd_471, wd_87, by decide +kernel⟩
theorem sc_X7_askPapers_X4_rivalNumber : ym_site g_X7_askPapers g_X4_rivalNumber 7 4 1 := ⟨by decide, by decide, wd_494, wd_87, by decide +kernel⟩
theorem sc_X7_askPapers_X2_put : ym_site g_X7_askPapers g_X2_put 7 4 2 := ⟨by decide, by decide, wd_284, wd_78, by decide +kernel⟩
theorem sc_X7_askPapers_X4_isLimit : ym_site g_X7_askPapers g_X4_isLimit 7 3 1 := ⟨by decide, by decide, wd_480, wd_87, by decide +kernel⟩
theorem sc_X7_askPapers_X4_startNow : ym_site g_X7_askPapers g_X4_startNow 7 2 0 := ⟨by decide, by decide, wd_459, wd_87, by decide +kernel⟩
theorem sc_X7_askPapers_X4_rivalSum : ym_site g_X7_askPapers g_X4_rivalSum 7 4 1 := ⟨by decide, by decide, wd_490, wd_87, by decide +kernel⟩
theorem sc_X7_askPapers_X5_at : ym_site g_X7_askPapers g_X5_at 7 2 2 := ⟨by decide, by decide, wd_402, wd_81, by decide +kernel⟩
theorem sc_X7_askPapers_X4_standingBidder : ym_site g_X7_askPapers g_X4_standingBidder 7 3 0 := ⟨by decide, by decide, wd_512, wd_87, by decide +kernel⟩
theorem sc_X7_askPapers_X4_standingSum : ym_site g_X7_askPapers g_X4_standingSum 7 3 0 := ⟨by decide, by decide, wd_520, wd_87, by decide +kernel⟩
theorem sc_X7_askPapers_X4_enter : ym_site g_X7_askPapers g_X4_enter 7 6 2 := ⟨by decide, by decide, wd_524, wd_87, by decide +kernel⟩
def bl_X7_askPapers_147 (N : Nat) (w1 : Option Nat) (w6 : Int64) (w8 : Int32) (h : ym_H) : Option (Unit × ym_H) :=
  Option.bind (ym_ob h w1 4) fun o152 =>
  Option.bind (fn_X4_enter N w1 w8 w6 h) fun q152 =>
  some ((), q152.2)
set_option maxRecDepth 20000 in
set_option maxHeartbeats 4000000 in
theorem ob_X7_askPapers_147 {D : ym_D} {b0 : Nat} {N : Nat} {w1 : Option Nat} {w6 : Int64} {w8 : Int32} {h h' : ym_H} {r : Unit} (hf : bl_X7_askPapers_147 N w1 w6 w8 h = some (r, h')) : ym_Y D b0 g_X7_askPapers 7 147 [(1, va_rf w1), (6, .long w6), (8, .int w8)] [] h none h' := by
  unfold bl_X7_askPapers_147 at hf
  refine ym_aload_n (pc := 147) 0 dX7_askPapers_147 rfl rfl ?_
  refine ym_iload (pc := 148) 2 dX7_askPapers_148 rfl ?_
  refine ym_lload (pc := 150) 1 dX7_askPapers_150 rfl ?_
  obtain ⟨o152, f152, hf⟩ := Option.bind_eq_some_iff.mp hf
  obtain ⟨q152, e152, hf⟩ := Option.bind_eq_some_iff.mp hf
  refine ym_callV (pc := 152) (G2 := g_X4_enter) (dep2 := 6) (As := [.int w8, .long w6]) (st := []) (stk2 := []) (r2 := none) (h1 := q152.2) dX7_askPapers_152 (ok_X4_enter e152) (sc_X7_askPapers_X4_enter) wd_521 wd_522 wd_523 (ci := 4) (q0 := (RX4, TX4, 6)) rfl (by decide) rfl f152 rfl rfl (ym_st4 (Nat.le_of_ble_eq_true rfl)) rfl ?_
  cases hf
  exact ym_vret (pc := 155) dX7_askPapers_155 rfl
def bl_X7_askPapers_95 (N : Nat) (w1 : Option Nat) (w2 : Int32) (s0 : Int64) (h : ym_H) : Option (Unit × ym_H) :=
  Option.bind (ym_ob h w1 4) fun o99 =>
  Option.bind (fn_X4_rivalSum N w1 w2 h) fun q99 =>
  Option.bind (ym_gL q99.2 w1 4 1) fun v103 =>
  Option.bind (ym_gR q99.2 w1 4 4) fun v117 =>
  Option.bind (ym_ob q99.2 v117 5) fun o122 =>
  Option.bind (fn_X5_at N v117 w2 0 q99.2) fun q122 =>
  Option.bind (ym_ob q122.2 w1 4) fun o129 =>
  Option.bind (fn_X4_standingBidder N w1 q122.2) fun q129 =>
  if q129.1 = (Int64.toInt32 q122.1) then
    Option.bind (ym_ob q129.2 w1 4) fun o138 =>
    Option.bind (fn_X4_standingSum N w1 q129.2) fun q138 =>
    if (if (if s0 < v103 then v103 else s0) < q99.1 then (if s0 < v103 then v103 else s0) else q99.1) ≤ q138.1 then
      some ((), q138.2)
    else
      bl_X7_askPapers_147 N w1 (if (if s0 < v103 then v103 else s0) < q99.1 then (if s0 < v103 then v103 else s0) else q99.1) (Int64.toInt32 q122.1) q138.2
  else
    bl_X7_askPapers_147 N w1 (if (if s0 < v103 then v103 else s0) < q99.1 then (if s0 < v103 then v103 else s0) else q99.1) (Int64.toInt32 q122.1) q129.2
set_option maxRecDepth 20000 in
set_option maxHeartbeats 4000000 in
theorem ob_X7_askPapers_95 {D : ym_D} {b0 : Nat} {N : Nat} {w1 : Option Nat} {w2 : Int32} {s0 : Int64} {h h' : ym_H} {r : Unit} (hf : bl_X7_askPapers_95 N w1 w2 s0 h = some (r, h')) : ym_Y D b0 g_X7_askPapers 7 95 [(1, va_rf w1), (2, .int w2)] [.long s0] h none h' := by
  unfold bl_X7_askPapers_95 at hf
  refine ym_lstore (pc := 95) (lv' := [(4, .long s0), (1, va_rf w1), (2, .int w2)]) dX7_askPapers_95 (by decide) ⟨trivial, trivial, trivial⟩ rfl ?_
  refine ym_aload_n (pc := 97) 1 dX7_askPapers_97 rfl rfl ?_
  refine ym_iload_n (pc := 98) 2 dX7_askPapers_98 rfl rfl ?_
  obtain ⟨o99, f99, hf⟩ := Option.bind_eq_some_iff.mp hf
  obtain ⟨q99, e99, hf⟩ := Option.bind_eq_some_iff.mp hf
  refine ym_callV (pc := 99) (G2 := g_X4_rivalSum) (dep2 := 4) (As := [.int w2]) (st := []) (stk2 := [.long q99.1]) (r2 := (some (.long q99.1))) (h1 := q99.2) dX7_askPapers_99 (ok_X4_rivalSum e99) (sc_X7_askPapers_X4_rivalSum) wd_497 wd_488 wd_489 (ci := 4) (q0 := (RX4, TX4, 6)) rfl (by decide) rfl f99 rfl rfl (ym_st4 (Nat.le_of_ble_eq_true rfl)) rfl ?_
  refine ym_aload_n (pc := 102) 1 dX7_askPapers_102 rfl rfl ?_
  obtain ⟨v103, e103, hf⟩ := Option.bind_eq_some_iff.mp hf
  refine ym_getN (pc := 103) dX7_askPapers_103 rfl (by decide) iX4 (k := 1) (by decide) wd_343 (ym_gL_v e103) ?_
  refine ym_lload (pc := 106) 0 dX7_askPapers_106 rfl ?_
  refine ym_mmaxL (pc := 108) dX7_askPapers_108 wd_502 wd_503 wd_79 wd_504 (by decide) (ym_st4 (Nat.le_of_ble_eq_true rfl)) ?_
  refine ym_mminL (pc := 111) dX7_askPapers_111 wd_505 wd_506 wd_79 wd_507 (by decide) (ym_st4 (Nat.le_of_ble_eq_true rfl)) ?_
  refine ym_sub (lv' := [(1, va_rf w1), (2, .int w2)]) [1, 2] rfl ?_
  refine ym_lstore (pc := 114) (lv' := [(6, .long (if (if s0 < v103 then v103 else s0) < q99.1 then (if s0 < v103 then v103 else s0) else q99.1)), (1, va_rf w1), (2, .int w2)]) dX7_askPapers_114 (by decide) ⟨trivial, trivial, trivial⟩ rfl ?_
  refine ym_aload_n (pc := 116) 1 dX7_askPapers_116 rfl rfl ?_
  obtain ⟨v117, e117, hf⟩ := Option.bind_eq_some_iff.mp hf
  refine ym_getN (pc := 117) dX7_askPapers_117 rfl (by decide) iX4 (k := 4) (by decide) wd_351 (ym_gR_v e117) ?_
  refine ym_iload_n (pc := 120) 2 dX7_askPapers_120 rfl rfl ?_
  refine ym_iconst (pc := 121) (v := 0) dX7_askPapers_121 (by decide) ?_
  obtain ⟨o122, f122, hf⟩ := Option.bind_eq_some_iff.mp hf
  obtain ⟨q122, e122, hf⟩ := Option.bind_eq_some_iff.mp hf
  refine ym_callV (pc := 122) (G2 := g_X5_at) (dep2 := 2) (As := [.int w2, .int 0]) (st := []) (stk2 := [.long q122.1]) (r2 := (some (.long q122.1))) (h1 := q122.2) dX7_askPapers_122 (ok_X5_at e122) (sc_X7_askPapers_X5_at) wd_508 wd_400 wd_401 (ci := 5) (q0 := (RX5, TX5, 2)) rfl (by decide) rfl f122 rfl rfl (ym_st4 (Nat.le_of_ble_eq_true rfl)) rfl ?_
  refine ym_l2i (pc := 125) dX7_askPapers_125 ?_
  refine ym_sub (lv' := [(6, .long (if (if s0 < v103 then v103 else s0) < q99.1 then (if s0 < v103 then v103 else s0) else q99.1)), (1, va_rf w1)]) [0, 1] rfl ?_
  refine ym_istore (pc := 126) (lv' := [(8, .int (Int64.toInt32 q122.1)), (6, .long (if (if s0 < v103 then v103 else s0) < q99.1 then (if s0 < v103 then v103 else s0) else q99.1)), (1, va_rf w1)]) dX7_askPapers_126 (by decide) ⟨trivial, trivial, trivial⟩ rfl ?_
  refine ym_aload_n (pc := 128) 2 dX7_askPapers_128 rfl rfl ?_
  obtain ⟨o129, f129, hf⟩ := Option.bind_eq_some_iff.mp hf
  obtain ⟨q129, e129, hf⟩ := Option.bind_eq_some_iff.mp hf
  refine ym_callV (pc := 129) (G2 := g_X4_standingBidder) (dep2 := 3) (As := []) (st := []) (stk2 := [.int q129.1]) (r2 := (some (.int q129.1))) (h1 := q129.2) dX7_askPapers_129 (ok_X4_standingBidder e129) (sc_X7_askPapers_X4_standingBidder) wd_509 wd_510 wd_511 (ci := 4) (q0 := (RX4, TX4, 6)) rfl (by decide) rfl f129 rfl rfl (ym_st4 (Nat.le_of_ble_eq_true rfl)) rfl ?_
  refine ym_iload (pc := 132) 0 dX7_askPapers_132 rfl ?_
  by_cases c134 : q129.1 = (Int64.toInt32 q122.1)
  · rw [if_pos c134] at hf
    refine ym_icmp_ne_y (pc := 134) (tgt := 147) dX7_askPapers_134 (by decide) c134 ?_
    refine ym_aload_n (pc := 137) 2 dX7_askPapers_137 rfl rfl ?_
    obtain ⟨o138, f138, hf⟩ := Option.bind_eq_some_iff.mp hf
    obtain ⟨q138, e138, hf⟩ := Option.bind_eq_some_iff.mp hf
    refine ym_callV (pc := 138) (G2 := g_X4_standingSum) (dep2 := 3) (As := []) (st := []) (stk2 := [.long q138.1]) (r2 := (some (.long q138.1))) (h1 := q138.2) dX7_askPapers_138 (ok_X4_standingSum e138) (sc_X7_askPapers_X4_standingSum) wd_517 wd_518 wd_519 (ci := 4) (q0 := (RX4, TX4, 6)) rfl (by decide) rfl f138 rfl rfl (ym_st4 (Nat.le_of_ble_eq_true rfl)) rfl ?_
    refine ym_lload (pc := 141) 1 dX7_askPapers_141 rfl ?_
    by_cases c143 : (if (if s0 < v103 then v103 else s0) < q99.1 then (if s0 < v103 then v103 else s0) else q99.1) ≤ q138.1
    · rw [if_pos c143] at hf
      refine ym_lcmp_ge_y (pc := 143) (tgt := 155) dX7_askPapers_143 dX7_askPapers_144 (by decide) c143 ?_
      cases hf
      exact ym_vret (pc := 155) dX7_askPapers_155 rfl
    · rw [if_neg c143] at hf
      refine ym_lcmp_ge_n (pc := 143) (tgt := 155) dX7_askPapers_143 dX7_askPapers_144 (by decide) c143 ?_
      exact ym_sub [2, 1, 0] rfl (ob_X7_askPapers_147 hf)
  · rw [if_neg c134] at hf
    refine ym_icmp_ne_n (pc := 134) (tgt := 147) dX7_askPapers_134 (by decide) c134 ?_
    exact ym_sub [2, 1, 0] rfl (ob_X7_askPapers_147 hf)
theorem sc_X7_askPapers_X6_after : ym_site g_X7_askPapers g_X6_after 7 3 1 := ⟨by decide, by decide, wd_501, wd_80, by decide +kernel⟩
def bl_X7_askPapers_28 (N : Nat) (w0 : Option Nat) (w1 : Option Nat) (w2 : Int32) (s0 : Int32) (h : ym_H) : Option (Unit × ym_H) :=
  Option.bind (ym_gR h w1 4 2) fun v30 =>
  Option.bind (ym_ob h w1 4) fun o37 =>
  Option.bind (fn_X4_rivalNumber N w1 w2 h) fun q37 =>
  Option.bind (ym_ob q37.2 v30 2) fun o40 =>
  Option.bind (fn_X2_put N v30 9 q37.1 q37.2) fun q40 =>
  Option.bind (ym_gR q40.2 w1 4 2) fun v44 =>
  Option.bind (ym_ob q40.2 w1 4) fun o51 =>
  Option.bind (fn_X4_rivalNumber N w1 s0 q40.2) fun q51 =>
  Option.bind (ym_ob q51.2 v44 2) fun o54 =>
  Option.bind (fn_X2_put N v44 10 q51.1 q51.2) fun q54 =>
  if w2 = (-1) then
    some ((), q54.2)
  else
    Option.bind (ym_ob q54.2 w1 4) fun o64 =>
    Option.bind (fn_X4_isLimit N w1 w2 q54.2) fun q64 =>
    if q64.1 = 0 then
      some ((), q64.2)
    else
      if s0 = (-1) then
        Option.bind (ym_ob q64.2 w1 4) fun o77 =>
        Option.bind (fn_X4_startNow N w1 q64.2) fun q77 =>
        bl_X7_askPapers_95 N w1 w2 q77.1 q77.2
      else
        Option.bind (ym_gR q64.2 w0 7 2) fun v84 =>
        Option.bind (ym_ob q64.2 w1 4) fun o89 =>
        Option.bind (fn_X4_rivalSum N w1 s0 q64.2) fun q89 =>
        Option.bind (ym_ob q89.2 v84 6) fun o92 =>
        Option.bind (fn_X6_after N v84 q89.1 q89.2) fun q92 =>
        bl_X7_askPapers_95 N w1 w2 q92.1 q92.2
set_option maxRecDepth 20000 in
set_option maxHeartbeats 4000000 in
theorem ob_X7_askPapers_28 {D : ym_D} {b0 : Nat} {N : Nat} {w0 : Option Nat} {w1 : Option Nat} {w2 : Int32} {s0 : Int32} {h h' : ym_H} {r : Unit} (hf : bl_X7_askPapers_28 N w0 w1 w2 s0 h = some (r, h')) : ym_Y D b0 g_X7_askPapers 7 28 [(0, va_rf w0), (1, va_rf w1), (2, .int w2)] [.int s0] h none h' := by
  unfold bl_X7_askPapers_28 at hf
  refine ym_istore_n (pc := 28) (lv' := [(3, .int s0), (0, va_rf w0), (1, va_rf w1), (2, .int w2)]) dX7_askPapers_28 rfl (by decide) ⟨trivial, trivial, rfl, trivial⟩ rfl ?_
  refine ym_aload_n (pc := 29) 2 dX7_askPapers_29 rfl rfl ?_
  obtain ⟨v30, e30, hf⟩ := Option.bind_eq_some_iff.mp hf
  refine ym_getN (pc := 30) dX7_askPapers_30 rfl (by decide) iX4 (k := 2) (by decide) wd_346 (ym_gR_v e30) ?_
  refine ym_bipush (pc := 33) (v := 9) dX7_askPapers_33 (by decide) ?_
  refine ym_aload_n (pc := 35) 2 dX7_askPapers_35 rfl rfl ?_
  refine ym_iload_n (pc := 36) 3 dX7_askPapers_36 rfl rfl ?_
  obtain ⟨o37, f37, hf⟩ := Option.bind_eq_some_iff.mp hf
  obtain ⟨q37, e37, hf⟩ := Option.bind_eq_some_iff.mp hf
  refine ym_callV (pc := 37) (G2 := g_X4_rivalNumber) (dep2 := 4) (As := [.int w2]) (st := [.int 9, va_rf v30]) (stk2 := [.long q37.1, .int 9, va_rf v30]) (r2 := (some (.long q37.1))) (h1 := q37.2) dX7_askPapers_37 (ok_X4_rivalNumber e37) (sc_X7_askPapers_X4_rivalNumber) wd_495 wd_492 wd_493 (ci := 4) (q0 := (RX4, TX4, 6)) rfl (by decide) rfl f37 rfl rfl (ym_st4 (Nat.le_of_ble_eq_true rfl)) rfl ?_
  obtain ⟨o40, f40, hf⟩ := Option.bind_eq_some_iff.mp hf
  obtain ⟨q40, e40, hf⟩ := Option.bind_eq_some_iff.mp hf
  refine ym_callV (pc := 40) (G2 := g_X2_put) (dep2 := 4) (As := [.int 9, .long q37.1]) (st := []) (stk2 := []) (r2 := none) (h1 := q40.2) dX7_askPapers_40 (ok_X2_put e40) (sc_X7_askPapers_X2_put) wd_281 wd_282 wd_283 (ci := 2) (q0 := (RX2, TX2, 2)) rfl (by decide) rfl f40 rfl rfl (ym_st4 (Nat.le_of_ble_eq_true rfl)) rfl ?_
  refine ym_aload_n (pc := 43) 2 dX7_askPapers_43 rfl rfl ?_
  obtain ⟨v44, e44, hf⟩ := Option.bind_eq_some_iff.mp hf
  refine ym_getN (pc := 44) dX7_askPapers_44 rfl (by decide) iX4 (k := 2) (by decide) wd_346 (ym_gR_v e44) ?_
  refine ym_bipush (pc := 47) (v := 10) dX7_askPapers_47 (by decide) ?_
  refine ym_aload_n (pc := 49) 2 dX7_askPapers_49 rfl rfl ?_
  refine ym_iload_n (pc := 50) 0 dX7_askPapers_50 rfl rfl ?_
  obtain ⟨o51, f51, hf⟩ := Option.bind_eq_some_iff.mp hf
  obtain ⟨q51, e51, hf⟩ := Option.bind_eq_some_iff.mp hf
  refine ym_callV (pc := 51) (G2 := g_X4_rivalNumber) (dep2 := 4) (As := [.int s0]) (st := [.int 10, va_rf v44]) (stk2 := [.long q51.1, .int 10, va_rf v44]) (r2 := (some (.long q51.1))) (h1 := q51.2) dX7_askPapers_51 (ok_X4_rivalNumber e51) (sc_X7_askPapers_X4_rivalNumber) wd_495 wd_492 wd_493 (ci := 4) (q0 := (RX4, TX4, 6)) rfl (by decide) rfl f51 rfl rfl (ym_st4 (Nat.le_of_ble_eq_true rfl)) rfl ?_
  obtain ⟨o54, f54, hf⟩ := Option.bind_eq_some_iff.mp hf
  obtain ⟨q54, e54, hf⟩ := Option.bind_eq_some_iff.mp hf
  refine ym_callV (pc := 54) (G2 := g_X2_put) (dep2 := 4) (As := [.int 10, .long q51.1]) (st := []) (stk2 := []) (r2 := none) (h1 := q54.2) dX7_askPapers_54 (ok_X2_put e54) (sc_X7_askPapers_X2_put) wd_281 wd_282 wd_283 (ci := 2) (q0 := (RX2, TX2, 2)) rfl (by decide) rfl f54 rfl rfl (ym_st4 (Nat.le_of_ble_eq_true rfl)) rfl ?_
  refine ym_iload_n (pc := 57) 3 dX7_askPapers_57 rfl rfl ?_
  refine ym_iconst (pc := 58) (v := (-1)) dX7_askPapers_58 (by decide) ?_
  by_cases c59 : w2 = (-1)
  · rw [if_pos c59] at hf
    refine ym_icmp_eq_y (pc := 59) (tgt := 70) dX7_askPapers_59 (by decide) c59 ?_
    cases hf
    exact ym_vret (pc := 70) dX7_askPapers_70 rfl
  · rw [if_neg c59] at hf
    refine ym_icmp_eq_n (pc := 59) (tgt := 70) dX7_askPapers_59 (by decide) c59 ?_
    refine ym_aload_n (pc := 62) 2 dX7_askPapers_62 rfl rfl ?_
    refine ym_iload_n (pc := 63) 3 dX7_askPapers_63 rfl rfl ?_
    obtain ⟨o64, f64, hf⟩ := Option.bind_eq_some_iff.mp hf
    obtain ⟨q64, e64, hf⟩ := Option.bind_eq_some_iff.mp hf
    refine ym_callV (pc := 64) (G2 := g_X4_isLimit) (dep2 := 3) (As := [.int w2]) (st := []) (stk2 := [.int q64.1]) (r2 := (some (.int q64.1))) (h1 := q64.2) dX7_askPapers_64 (ok_X4_isLimit e64) (sc_X7_askPapers_X4_isLimit) wd_496 wd_478 wd_479 (ci := 4) (q0 := (RX4, TX4, 6)) rfl (by decide) rfl f64 rfl rfl (ym_st4 (Nat.le_of_ble_eq_true rfl)) rfl ?_
    by_cases c67 : q64.1 = 0
    · rw [if_pos c67] at hf
      refine ym_if_ne_y (pc := 67) (tgt := 71) dX7_askPapers_67 (by decide) c67 ?_
      cases hf
      exact ym_vret (pc := 70) dX7_askPapers_70 rfl
    · rw [if_neg c67] at hf
      refine ym_if_ne_n (pc := 67) (tgt := 71) dX7_askPapers_67 (by decide) c67 ?_
      refine ym_iload_n (pc := 71) 0 dX7_askPapers_71 rfl rfl ?_
      refine ym_iconst (pc := 72) (v := (-1)) dX7_askPapers_72 (by decide) ?_
      by_cases c73 : s0 = (-1)
      · rw [if_pos c73] at hf
        refine ym_icmp_ne_y (pc := 73) (tgt := 83) dX7_askPapers_73 (by decide) c73 ?_
        refine ym_aload_n (pc := 76) 2 dX7_askPapers_76 rfl rfl ?_
        obtain ⟨o77, f77, hf⟩ := Option.bind_eq_some_iff.mp hf
        obtain ⟨q77, e77, hf⟩ := Option.bind_eq_some_iff.mp hf
        refine ym_callV (pc := 77) (G2 := g_X4_startNow) (dep2 := 2) (As := []) (st := []) (stk2 := [.long q77.1]) (r2 := (some (.long q77.1))) (h1 := q77.2) dX7_askPapers_77 (ok_X4_startNow e77) (sc_X7_askPapers_X4_startNow) wd_456 wd_457 wd_458 (ci := 4) (q0 := (RX4, TX4, 6)) rfl (by decide) rfl f77 rfl rfl (ym_st4 (Nat.le_of_ble_eq_true rfl)) rfl ?_
        refine ym_goto (pc := 80) (tgt := 95) dX7_askPapers_80 (by decide) ?_
        exact ym_sub [2, 3] rfl (ob_X7_askPapers_95 hf)
      · rw [if_neg c73] at hf
        refine ym_icmp_ne_n (pc := 73) (tgt := 83) dX7_askPapers_73 (by decide) c73 ?_
        refine ym_aload_n (pc := 83) 1 dX7_askPapers_83 rfl rfl ?_
        obtain ⟨v84, e84, hf⟩ := Option.bind_eq_some_iff.mp hf
        refine ym_get (pc := 84) dX7_askPapers_84 rfl (by decide) iX7 (k := 2) (by decide) wd_188 (ym_gR_v e84) ?_
        refine ym_aload_n (pc := 87) 2 dX7_askPapers_87 rfl rfl ?_
        refine ym_iload_n (pc := 88) 0 dX7_askPapers_88 rfl rfl ?_
        obtain ⟨o89, f89, hf⟩ := Option.bind_eq_some_iff.mp hf
        obtain ⟨q89, e89, hf⟩ := Option.bind_eq_some_iff.mp hf
        refine ym_callV (pc := 89) (G2 := g_X4_rivalSum) (dep2 := 4) (As := [.int s0]) (st := [va_rf v84]) (stk2 := [.long q89.1, va_rf v84]) (r2 := (some (.long q89.1))) (h1 := q89.2) dX7_askPapers_89 (ok_X4_rivalSum e89) (sc_X7_askPapers_X4_rivalSum) wd_497 wd_488 wd_489 (ci := 4) (q0 := (RX4, TX4, 6)) rfl (by decide) rfl f89 rfl rfl (ym_st4 (Nat.le_of_ble_eq_true rfl)) rfl ?_
        obtain ⟨o92, f92, hf⟩ := Option.bind_eq_some_iff.mp hf
        obtain ⟨q92, e92, hf⟩ := Option.bind_eq_some_iff.mp hf
        refine ym_callV (pc := 92) (G2 := g_X6_after) (dep2 := 3) (As := [.long q89.1]) (st := []) (stk2 := [.long q92.1]) (r2 := (some (.long q92.1))) (h1 := q92.2) dX7_askPapers_92 (ok_X6_after e92) (sc_X7_askPapers_X6_after) wd_498 wd_499 wd_500 (ci := 6) (q0 := (RX6, TX6, 1)) rfl (by decide) rfl f92 rfl rfl (ym_st4 (Nat.le_of_ble_eq_true rfl)) rfl ?_
        exact ym_sub [2, 3] rfl (ob_X7_askPapers_95 hf)
def fn_X7_askPapers (N : Nat) (a0 : Option Nat) (a1 : Option Nat) (h : ym_H) : Option (Unit × ym_H) :=
  Option.bind (ym_ob h a1 4) fun o1 =>
  Option.bind (fn_X4_isRaised N a1 h) fun q1 =>
  if q1.1 = 0 then
    some ((), q1.2)
  else
    Option.bind (ym_ob q1.2 a1 4) fun o10 =>
    Option.bind (fn_X4_greatestRival N a1 (-1) q1.2) fun q10 =>
    if q10.1 = (-1) then
      bl_X7_askPapers_28 N a0 a1 q10.1 (-1) q10.2
    else
      Option.bind (ym_ob q10.2 a1 4) fun o25 =>
      Option.bind (fn_X4_greatestRival N a1 q10.1 q10.2) fun q25 =>
      bl_X7_askPapers_28 N a0 a1 q10.1 q25.1 q25.2
set_option maxRecDepth 20000 in
set_option maxHeartbeats 4000000 in
theorem ok_X7_askPapers {D : ym_D} {b0 : Nat} {N : Nat} {a0 : Option Nat} {a1 : Option Nat} {h h' : ym_H} {r : Unit} (hf : fn_X7_askPapers N a0 a1 h = some (r, h')) : ym_M D b0 g_X7_askPapers 7 [va_rf a0, va_rf a1] h none h' := by
  unfold fn_X7_askPapers at hf
  refine ym_meth (lv := [(0, va_rf a0), (1, va_rf a1)]) (by decide) (by simp [lg_sl, ym_c1, ym_cI, ym_cL, g_X7_askPapers]) (by simp [lv_args, ym_c1, ym_cI, ym_cL]) ?_
  refine ym_aload_n (pc := 0) 1 dX7_askPapers_0 rfl rfl ?_
  obtain ⟨o1, f1, hf⟩ := Option.bind_eq_some_iff.mp hf
  obtain ⟨q1, e1, hf⟩ := Option.bind_eq_some_iff.mp hf
  refine ym_callV (pc := 1) (G2 := g_X4_isRaised) (dep2 := 1) (As := []) (st := []) (stk2 := [.int q1.1]) (r2 := (some (.int q1.1))) (h1 := q1.2) dX7_askPapers_1 (ok_X4_isRaised e1) (sc_X7_askPapers_X4_isRaised) wd_464 wd_465 wd_466 (ci := 4) (q0 := (RX4, TX4, 6)) rfl (by decide) rfl f1 rfl rfl (ym_st4 (Nat.le_of_ble_eq_true rfl)) rfl ?_
  by_cases c4 : q1.1 = 0
  · rw [if_pos c4] at hf
    refine ym_if_ne_y (pc := 4) (tgt := 8) dX7_askPapers_4 (by decide) c4 ?_
    cases hf
    exact ym_vret (pc := 7) dX7_askPapers_7 rfl
  · rw [if_neg c4] at hf
    refine ym_if_ne_n (pc := 4) (tgt := 8) dX7_askPapers_4 (by decide) c4 ?_
    refine ym_aload_n (pc := 8) 1 dX7_askPapers_8 rfl rfl ?_
    refine ym_iconst (pc := 9) (v := (-1)) dX7_askPapers_9 (by decide) ?_
    obtain ⟨o10, f10, hf⟩ := Option.bind_eq_some_iff.mp hf
    obtain ⟨q10, e10, hf⟩ := Option.bind_eq_some_iff.mp hf
    refine ym_callV (pc := 10) (G2 := g_X4_greatestRival) (dep2 := 6) (As := [.int (-1)]) (st := []) (stk2 := [.int q10.1]) (r2 := (some (.int q10.1))) (h1 := q10.2) dX7_askPapers_10 (ok_X4_greatestRival e10) (sc_X7_askPapers_X4_greatestRival) wd_468 wd_469 wd_470 (ci := 4) (q0 := (RX4, TX4, 6)) rfl (by decide) rfl f10 rfl rfl (ym_st4 (Nat.le_of_ble_eq_true rfl)) rfl ?_
    refine ym_istore_n (pc := 13) (lv' := [(2, .int q10.1), (0, va_rf a0), (1, va_rf a1)]) dX7_askPapers_13 rfl (by decide) ⟨trivial, ym_c1 a1, trivial⟩ rfl ?_
    refine ym_iload_n (pc := 14) 0 dX7_askPapers_14 rfl rfl ?_
    refine ym_iconst (pc := 15) (v := (-1)) dX7_askPapers_15 (by decide) ?_
    by_cases c16 : q10.1 = (-1)
    · rw [if_pos c16] at hf
      refine ym_icmp_ne_y (pc := 16) (tgt := 23) dX7_askPapers_16 (by decide) c16 ?_
      refine ym_iconst (pc := 19) (v := (-1)) dX7_askPapers_19 (by decide) ?_
      refine ym_goto (pc := 20) (tgt := 28) dX7_askPapers_20 (by decide) ?_
      exact ym_sub [1, 2, 0] rfl (ob_X7_askPapers_28 hf)
    · rw [if_neg c16] at hf
      refine ym_icmp_ne_n (pc := 16) (tgt := 23) dX7_askPapers_16 (by decide) c16 ?_
      refine ym_aload_n (pc := 23) 2 dX7_askPapers_23 rfl rfl ?_
      refine ym_iload_n (pc := 24) 0 dX7_askPapers_24 rfl rfl ?_
      obtain ⟨o25, f25, hf⟩ := Option.bind_eq_some_iff.mp hf
      obtain ⟨q25, e25, hf⟩ := Option.bind_eq_some_iff.mp hf
      refine ym_callV (pc := 25) (G2 := g_X4_greatestRival) (dep2 := 6) (As := [.int q10.1]) (st := []) (stk2 := [.int q25.1]) (r2 := (some (.int q25.1))) (h1 := q25.2) dX7_askPapers_25 (ok_X4_greatestRival e25) (sc_X7_askPapers_X4_greatestRival) wd_468 wd_469 wd_470 (ci := 4) (q0 := (RX4, TX4, 6)) rfl (by decide) rfl f25 rfl rfl (ym_st4 (Nat.le_of_ble_eq_true rfl)) rfl ?_
      exact ym_sub [1, 2, 0] rfl (ob_X7_askPapers_28 hf)
theorem dX7_biddersMade_0 : decode cX7_biddersMade 0 = .ok (.aload_n 0, 1) := by decide +kernel
theorem dX7_biddersMade_1 : decode cX7_biddersMade 1 = .ok (.getfield 21, 3) := by decide +kernel
theorem dX7_biddersMade_4 : decode cX7_biddersMade 4 = .ok (.iconst 0, 1) := by decide +kernel
theorem dX7_biddersMade_5 : decode cX7_biddersMade 5 = .ok (.invokevirtual 130, 3) := by decide +kernel
theorem dX7_biddersMade_8 : decode cX7_biddersMade 8 = .ok (.l2i, 1) := by decide +kernel
theorem dX7_biddersMade_9 : decode cX7_biddersMade 9 = .ok (.ireturn, 1) := by decide +kernel
theorem sc_X7_biddersMade_X2_get : ym_site g_X7_biddersMade g_X2_get 2 1 1 := ⟨by decide, by decide, wd_256, wd_78, by decide +kernel⟩
def fn_X7_biddersMade (N : Nat) (a0 : Option Nat) (h : ym_H) : Option (Int32 × ym_H) :=
  Option.bind (ym_gR h a0 7 1) fun v1 =>
  Option.bind (ym_ob h v1 2) fun o5 =>
  Option.bind (fn_X2_get N v1 0 h) fun q5 =>
  some ((Int64.toInt32 q5.1), q5.2)
set_option maxRecDepth 20000 in
set_option maxHeartbeats 4000000 in
theorem ok_X7_biddersMade {D : ym_D} {b0 : Nat} {N : Nat} {a0 : Option Nat} {h h' : ym_H} {r : Int32} (hf : fn_X7_biddersMade N a0 h = some (r, h')) : ym_M D b0 g_X7_biddersMade 2 [va_rf a0] h (some (.int r)) h' := by
  unfold fn_X7_biddersMade at hf
  refine ym_meth (lv := [(0, va_rf a0)]) (by decide) (by simp [lg_sl, ym_c1, ym_cI, ym_cL, g_X7_biddersMade]) (by simp [lv_args, ym_c1, ym_cI, ym_cL]) ?_
  refine ym_aload_n (pc := 0) 0 dX7_biddersMade_0 rfl rfl ?_
  obtain ⟨v1, e1, hf⟩ := Option.bind_eq_some_iff.mp hf
  refine ym_get (pc := 1) dX7_biddersMade_1 rfl (by decide) iX7 (k := 1) (by decide) wd_187 (ym_gR_v e1) ?_
  refine ym_iconst (pc := 4) (v := 0) dX7_biddersMade_4 (by decide) ?_
  obtain ⟨o5, f5, hf⟩ := Option.bind_eq_some_iff.mp hf
  obtain ⟨q5, e5, hf⟩ := Option.bind_eq_some_iff.mp hf
  refine ym_callV (pc := 5) (G2 := g_X2_get) (dep2 := 1) (As := [.int 0]) (st := []) (stk2 := [.long q5.1]) (r2 := (some (.long q5.1))) (h1 := q5.2) dX7_biddersMade_5 (ok_X2_get e5) (sc_X7_biddersMade_X2_get) wd_253 wd_254 wd_255 (ci := 2) (q0 := (RX2, TX2, 2)) rfl (by decide) rfl f5 rfl rfl (ym_st4 (Nat.le_of_ble_eq_true rfl)) rfl ?_
  refine ym_l2i (pc := 8) dX7_biddersMade_8 ?_
  cases hf
  exact ym_iret (pc := 9) dX7_biddersMade_9 rfl
theorem dX7_bidderWith_0 : decode cX7_bidderWith 0 = .ok (.iload_n 1, 1) := by decide +kernel
theorem dX7_bidderWith_1 : decode cX7_bidderWith 1 = .ok (.ifCond .lt 20, 3) := by decide +kernel
theorem dX7_bidderWith_4 : decode cX7_bidderWith 4 = .ok (.iload_n 1, 1) := by decide +kernel
theorem dX7_bidderWith_5 : decode cX7_bidderWith 5 = .ok (.aload_n 0, 1) := by decide +kernel
theorem dX7_bidderWith_6 : decode cX7_bidderWith 6 = .ok (.invokevirtual 69, 3) := by decide +kernel
theorem dX7_bidderWith_9 : decode cX7_bidderWith 9 = .ok (.if_icmp .ge 12, 3) := by decide +kernel
theorem dX7_bidderWith_12 : decode cX7_bidderWith 12 = .ok (.iload_n 1, 1) := by decide +kernel
theorem dX7_bidderWith_13 : decode cX7_bidderWith 13 = .ok (.aload_n 0, 1) := by decide +kernel
theorem dX7_bidderWith_14 : decode cX7_bidderWith 14 = .ok (.getfield 48, 3) := by decide +kernel
theorem dX7_bidderWith_17 : decode cX7_bidderWith 17 = .ok (.arraylength, 1) := by decide +kernel
theorem dX7_bidderWith_18 : decode cX7_bidderWith 18 = .ok (.if_icmp .lt 7, 3) := by decide +kernel
theorem dX7_bidderWith_21 : decode cX7_bidderWith 21 = .ok (.aconst_null, 1) := by decide +kernel
theorem dX7_bidderWith_22 : decode cX7_bidderWith 22 = .ok (.goto 9, 3) := by decide +kernel
theorem dX7_bidderWith_25 : decode cX7_bidderWith 25 = .ok (.aload_n 0, 1) := by decide +kernel
theorem dX7_bidderWith_26 : decode cX7_bidderWith 26 = .ok (.getfield 48, 3) := by decide +kernel
theorem dX7_bidderWith_29 : decode cX7_bidderWith 29 = .ok (.iload_n 1, 1) := by decide +kernel
theorem dX7_bidderWith_30 : decode cX7_bidderWith 30 = .ok (.aaload, 1) := by decide +kernel
theorem dX7_bidderWith_31 : decode cX7_bidderWith 31 = .ok (.areturn, 1) := by decide +kernel
theorem sc_X7_bidderWith_X7_biddersMade : ym_site g_X7_bidderWith g_X7_biddersMade 3 2 0 := ⟨by decide, by decide, wd_252, wd_76, by decide +kernel⟩
def fn_X7_bidderWith (N : Nat) (a0 : Option Nat) (a1 : Int32) (h : ym_H) : Option (Option Nat × ym_H) :=
  if a1 < 0 then
    some (none, h)
  else
    Option.bind (ym_ob h a0 7) fun o6 =>
    Option.bind (fn_X7_biddersMade N a0 h) fun q6 =>
    if q6.1 ≤ a1 then
      some (none, q6.2)
    else
      Option.bind (ym_gR q6.2 a0 7 5) fun v14 =>
      Option.bind (ym_len q6.2 v14) fun v17 =>
      if a1 < v17 then
        Option.bind (ym_gR q6.2 a0 7 5) fun v26 =>
        Option.bind (ym_ldR q6.2 v26 5 a1) fun v30 =>
        some (v30, q6.2)
      else
        some (none, q6.2)
set_option maxRecDepth 20000 in
set_option maxHeartbeats 4000000 in
theorem ok_X7_bidderWith {D : ym_D} {b0 : Nat} {N : Nat} {a0 : Option Nat} {a1 : Int32} {h h' : ym_H} {r : Option Nat} (hf : fn_X7_bidderWith N a0 a1 h = some (r, h')) : ym_M D b0 g_X7_bidderWith 3 [va_rf a0, .int a1] h (some (va_rf r)) h' := by
  unfold fn_X7_bidderWith at hf
  refine ym_meth (lv := [(0, va_rf a0), (1, .int a1)]) (by decide) (by simp [lg_sl, ym_c1, ym_cI, ym_cL, g_X7_bidderWith]) (by simp [lv_args, ym_c1, ym_cI, ym_cL]) ?_
  refine ym_iload_n (pc := 0) 1 dX7_bidderWith_0 rfl rfl ?_
  by_cases c1 : a1 < 0
  · rw [if_pos c1] at hf
    refine ym_if_lt_y (pc := 1) (tgt := 21) dX7_bidderWith_1 (by decide) c1 ?_
    refine ym_null (pc := 21) dX7_bidderWith_21 ?_
    refine ym_goto (pc := 22) (tgt := 31) dX7_bidderWith_22 (by decide) ?_
    cases hf
    exact ym_aret (pc := 31) dX7_bidderWith_31 rfl (Or.inl ⟨_, rfl⟩)
  · rw [if_neg c1] at hf
    refine ym_if_lt_n (pc := 1) (tgt := 21) dX7_bidderWith_1 (by decide) c1 ?_
    refine ym_iload_n (pc := 4) 1 dX7_bidderWith_4 rfl rfl ?_
    refine ym_aload_n (pc := 5) 0 dX7_bidderWith_5 rfl rfl ?_
    obtain ⟨o6, f6, hf⟩ := Option.bind_eq_some_iff.mp hf
    obtain ⟨q6, e6, hf⟩ := Option.bind_eq_some_iff.mp hf
    refine ym_callV (pc := 6) (G2 := g_X7_biddersMade) (dep2 := 2) (As := []) (st := [.int a1]) (stk2 := [.int q6.1, .int a1]) (r2 := (some (.int q6.1))) (h1 := q6.2) dX7_bidderWith_6 (ok_X7_biddersMade e6) (sc_X7_bidderWith_X7_biddersMade) wd_249 wd_251 wd_3 (ci := 7) (q0 := (RX7, TX7, 10)) rfl (by decide) rfl f6 rfl rfl (ym_st4 (Nat.le_of_ble_eq_true rfl)) rfl ?_
    by_cases c9 : q6.1 ≤ a1
    · rw [if_pos c9] at hf
      refine ym_icmp_ge_y (pc := 9) (tgt := 21) dX7_bidderWith_9 (by decide) c9 ?_
      refine ym_null (pc := 21) dX7_bidderWith_21 ?_
      refine ym_goto (pc := 22) (tgt := 31) dX7_bidderWith_22 (by decide) ?_
      cases hf
      exact ym_aret (pc := 31) dX7_bidderWith_31 rfl (Or.inl ⟨_, rfl⟩)
    · rw [if_neg c9] at hf
      refine ym_icmp_ge_n (pc := 9) (tgt := 21) dX7_bidderWith_9 (by decide) c9 ?_
      refine ym_iload_n (pc := 12) 1 dX7_bidderWith_12 rfl rfl ?_
      refine ym_aload_n (pc := 13) 0 dX7_bidderWith_13 rfl rfl ?_
      obtain ⟨v14, e14, hf⟩ := Option.bind_eq_some_iff.mp hf
      refine ym_get (pc := 14) dX7_bidderWith_14 rfl (by decide) iX7 (k := 5) (by decide) wd_191 (ym_gR_v e14) ?_
      obtain ⟨v17, e17, hf⟩ := Option.bind_eq_some_iff.mp hf
      refine ym_alen (pc := 17) dX7_bidderWith_17 e17 ?_
      by_cases c18 : a1 < v17
      · rw [if_pos c18] at hf
        refine ym_icmp_lt_y (pc := 18) (tgt := 25) dX7_bidderWith_18 (by decide) c18 ?_
        refine ym_aload_n (pc := 25) 0 dX7_bidderWith_25 rfl rfl ?_
        obtain ⟨v26, e26, hf⟩ := Option.bind_eq_some_iff.mp hf
        refine ym_get (pc := 26) dX7_bidderWith_26 rfl (by decide) iX7 (k := 5) (by decide) wd_191 (ym_gR_v e26) ?_
        refine ym_iload_n (pc := 29) 1 dX7_bidderWith_29 rfl rfl ?_
        obtain ⟨v30, e30, hf⟩ := Option.bind_eq_some_iff.mp hf
        refine ym_aald (pc := 30) dX7_bidderWith_30 rfl (by decide) (by decide) rfl (ym_ldR_v e30) ?_
        cases hf
        exact ym_aret (pc := 31) dX7_bidderWith_31 rfl (Or.inl ⟨_, rfl⟩)
      · rw [if_neg c18] at hf
        refine ym_icmp_lt_n (pc := 18) (tgt := 25) dX7_bidderWith_18 (by decide) c18 ?_
        refine ym_null (pc := 21) dX7_bidderWith_21 ?_
        refine ym_goto (pc := 22) (tgt := 31) dX7_bidderWith_22 (by decide) ?_
        cases hf
        exact ym_aret (pc := 31) dX7_bidderWith_31 rfl (Or.inl ⟨_, rfl⟩)
theorem dX7_balance_0 : decode cX7_balance 0 = .ok (.aload_n 0, 1) := by decide +kernel
theorem dX7_balance_1 : decode cX7_balance 1 = .ok (.iload_n 1, 1) := by decide +kernel
theorem dX7_balance_2 : decode cX7_balance 2 = .ok (.invokevirtual 97, 3) := by decide +kernel
theorem dX7_balance_5 : decode cX7_balance 5 = .ok (.astore_n 2, 1) := by decide +kernel
theorem dX7_balance_6 : decode cX7_balance 6 = .ok (.aload_n 2, 1) := by decide +kernel
theorem dX7_balance_7 : decode cX7_balance 7 = .ok (.ifnonnull 7, 3) := by decide +kernel
theorem dX7_balance_10 : decode cX7_balance 10 = .ok (.lconst 0, 1) := by decide +kernel
theorem dX7_balance_11 : decode cX7_balance 11 = .ok (.goto 7, 3) := by decide +kernel
theorem dX7_balance_14 : decode cX7_balance 14 = .ok (.aload_n 2, 1) := by decide +kernel
theorem dX7_balance_15 : decode cX7_balance 15 = .ok (.invokevirtual 247, 3) := by decide +kernel
theorem dX7_balance_18 : decode cX7_balance 18 = .ok (.lreturn, 1) := by decide +kernel
theorem sc_X7_balance_X7_bidderWith : ym_site g_X7_balance g_X7_bidderWith 4 3 1 := ⟨by decide, by decide, wd_381, wd_76, by decide +kernel⟩
theorem sc_X7_balance_X0_balanceNow : ym_site g_X7_balance g_X0_balanceNow 4 2 0 := ⟨by decide, by decide, wd_727, wd_84, by decide +kernel⟩
def fn_X7_balance (N : Nat) (a0 : Option Nat) (a1 : Int32) (h : ym_H) : Option (Int64 × ym_H) :=
  Option.bind (ym_ob h a0 7) fun o2 =>
  Option.bind (fn_X7_bidderWith N a0 a1 h) fun q2 =>
  if q2.1 = none then
    some (0, q2.2)
  else
    Option.bind (ym_ob q2.2 q2.1 0) fun o15 =>
    Option.bind (fn_X0_balanceNow N q2.1 q2.2) fun q15 =>
    some (q15.1, q15.2)
set_option maxRecDepth 20000 in
set_option maxHeartbeats 4000000 in
theorem ok_X7_balance {D : ym_D} {b0 : Nat} {N : Nat} {a0 : Option Nat} {a1 : Int32} {h h' : ym_H} {r : Int64} (hf : fn_X7_balance N a0 a1 h = some (r, h')) : ym_M D b0 g_X7_balance 4 [va_rf a0, .int a1] h (some (.long r)) h' := by
  unfold fn_X7_balance at hf
  refine ym_meth (lv := [(0, va_rf a0), (1, .int a1)]) (by decide) (by simp [lg_sl, ym_c1, ym_cI, ym_cL, g_X7_balance]) (by simp [lv_args, ym_c1, ym_cI, ym_cL]) ?_
  refine ym_aload_n (pc := 0) 0 dX7_balance_0 rfl rfl ?_
  refine ym_iload_n (pc := 1) 1 dX7_balance_1 rfl rfl ?_
  obtain ⟨o2, f2, hf⟩ := Option.bind_eq_some_iff.mp hf
  obtain ⟨q2, e2, hf⟩ := Option.bind_eq_some_iff.mp hf
  refine ym_callV (pc := 2) (G2 := g_X7_bidderWith) (dep2 := 3) (As := [.int a1]) (st := []) (stk2 := [va_rf q2.1]) (r2 := (some (va_rf q2.1))) (h1 := q2.2) dX7_balance_2 (ok_X7_bidderWith e2) (sc_X7_balance_X7_bidderWith) wd_378 wd_380 wd_6 (ci := 7) (q0 := (RX7, TX7, 10)) rfl (by decide) rfl f2 rfl rfl (ym_st4 (Nat.le_of_ble_eq_true rfl)) rfl ?_
  refine ym_sub (lv' := []) [] rfl ?_
  refine ym_astore_n (pc := 5) (lv' := [(2, va_rf q2.1)]) dX7_balance_5 rfl (by decide) trivial rfl ?_
  refine ym_aload_n (pc := 6) 0 dX7_balance_6 rfl rfl ?_
  by_cases c7 : q2.1 = none
  · rw [if_pos c7] at hf
    refine ym_ifnonnull_y (pc := 7) (tgt := 14) dX7_balance_7 (by decide) c7 ?_
    refine ym_lconst (pc := 10) (v := 0) dX7_balance_10 (by decide) ?_
    refine ym_goto (pc := 11) (tgt := 18) dX7_balance_11 (by decide) ?_
    cases hf
    exact ym_lret (pc := 18) dX7_balance_18 rfl
  · rw [if_neg c7] at hf
    refine ym_ifnonnull_n (pc := 7) (tgt := 14) dX7_balance_7 (by decide) c7 ?_
    refine ym_aload_n (pc := 14) 0 dX7_balance_14 rfl rfl ?_
    obtain ⟨o15, f15, hf⟩ := Option.bind_eq_some_iff.mp hf
    obtain ⟨q15, e15, hf⟩ := Option.bind_eq_some_iff.mp hf
    refine ym_callV (pc := 15) (G2 := g_X0_balanceNow) (dep2 := 2) (As := []) (st := []) (stk2 := [.long q15.1]) (r2 := (some (.long q15.1))) (h1 := q15.2) dX7_balance_15 (ok_X0_balanceNow e15) (sc_X7_balance_X0_balanceNow) wd_724 wd_725 wd_726 (ci := 0) (q0 := (RX0, TX0, 4)) rfl (by decide) rfl f15 rfl rfl (ym_st4 (Nat.le_of_ble_eq_true rfl)) rfl ?_
    cases hf
    exact ym_lret (pc := 18) dX7_balance_18 rfl
theorem dX7_batch_0 : decode cX7_batch 0 = .ok (.aload_n 0, 1) := by decide +kernel
theorem dX7_batch_1 : decode cX7_batch 1 = .ok (.invokevirtual 58, 3) := by decide +kernel
theorem dX7_batch_4 : decode cX7_batch 4 = .ok (.aload_n 0, 1) := by decide +kernel
theorem dX7_batch_5 : decode cX7_batch 5 = .ok (.getfield 12, 3) := by decide +kernel
theorem dX7_batch_8 : decode cX7_batch 8 = .ok (.invokevirtual 258, 3) := by decide +kernel
theorem dX7_batch_11 : decode cX7_batch 11 = .ok (.bipush 8, 2) := by decide +kernel
theorem dX7_batch_13 : decode cX7_batch 13 = .ok (.if_icmp .lt 10, 3) := by decide +kernel
theorem dX7_batch_16 : decode cX7_batch 16 = .ok (.aload_n 0, 1) := by decide +kernel
theorem dX7_batch_17 : decode cX7_batch 17 = .ok (.bipush 12, 2) := by decide +kernel
theorem dX7_batch_19 : decode cX7_batch 19 = .ok (.invokevirtual 61, 3) := by decide +kernel
theorem dX7_batch_22 : decode cX7_batch 22 = .ok (.lreturn, 1) := by decide +kernel
theorem dX7_batch_23 : decode cX7_batch 23 = .ok (.aload_n 0, 1) := by decide +kernel
theorem dX7_batch_24 : decode cX7_batch 24 = .ok (.getfield 12, 3) := by decide +kernel
theorem dX7_batch_27 : decode cX7_batch 27 = .ok (.invokevirtual 261, 3) := by decide +kernel
theorem dX7_batch_30 : decode cX7_batch 30 = .ok (.aload_n 0, 1) := by decide +kernel
theorem dX7_batch_31 : decode cX7_batch 31 = .ok (.getfield 12, 3) := by decide +kernel
theorem dX7_batch_34 : decode cX7_batch 34 = .ok (.invokevirtual 258, 3) := by decide +kernel
theorem dX7_batch_37 : decode cX7_batch 37 = .ok (.i2l, 1) := by decide +kernel
theorem dX7_batch_38 : decode cX7_batch 38 = .ok (.lreturn, 1) := by decide +kernel
theorem sc_X7_batch_X7_startAct : ym_site g_X7_batch g_X7_startAct 5 2 0 := ⟨by decide, by decide, wd_224, wd_76, by decide +kernel⟩
theorem sc_X7_batch_X3_depth : ym_site g_X7_batch g_X3_depth 5 1 0 := ⟨by decide, by decide, wd_740, wd_77, by decide +kernel⟩
theorem sc_X7_batch_X3_openBatch : ym_site g_X7_batch g_X3_openBatch 5 1 0 := ⟨by decide, by decide, wd_744, wd_77, by decide +kernel⟩
theorem sc_X7_batch_X7_refuse : ym_site g_X7_batch g_X7_refuse 5 4 1 := ⟨by decide, by decide, wd_232, wd_76, by decide +kernel⟩
def fn_X7_batch (N : Nat) (a0 : Option Nat) (h : ym_H) : Option (Int64 × ym_H) :=
  Option.bind (ym_ob h a0 7) fun o1 =>
  Option.bind (fn_X7_startAct N a0 h) fun q1 =>
  Option.bind (ym_gR q1.2 a0 7 0) fun v5 =>
  Option.bind (ym_ob q1.2 v5 3) fun o8 =>
  Option.bind (fn_X3_depth N v5 q1.2) fun q8 =>
  if q8.1 < 8 then
    Option.bind (ym_gR q8.2 a0 7 0) fun v24 =>
    Option.bind (ym_ob q8.2 v24 3) fun o27 =>
    Option.bind (fn_X3_openBatch N v24 q8.2) fun q27 =>
    Option.bind (ym_gR q27.2 a0 7 0) fun v31 =>
    Option.bind (ym_ob q27.2 v31 3) fun o34 =>
    Option.bind (fn_X3_depth N v31 q27.2) fun q34 =>
    some ((Int32.toInt64 q34.1), q34.2)
  else
    Option.bind (ym_ob q8.2 a0 7) fun o19 =>
    Option.bind (fn_X7_refuse N a0 12 q8.2) fun q19 =>
    some (q19.1, q19.2)
set_option maxRecDepth 20000 in
set_option maxHeartbeats 4000000 in
theorem ok_X7_batch {D : ym_D} {b0 : Nat} {N : Nat} {a0 : Option Nat} {h h' : ym_H} {r : Int64} (hf : fn_X7_batch N a0 h = some (r, h')) : ym_M D b0 g_X7_batch 5 [va_rf a0] h (some (.long r)) h' := by
  unfold fn_X7_batch at hf
  refine ym_meth (lv := [(0, va_rf a0)]) (by decide) (by simp [lg_sl, ym_c1, ym_cI, ym_cL, g_X7_batch]) (by simp [lv_args, ym_c1, ym_cI, ym_cL]) ?_
  refine ym_aload_n (pc := 0) 0 dX7_batch_0 rfl rfl ?_
  obtain ⟨o1, f1, hf⟩ := Option.bind_eq_some_iff.mp hf
  obtain ⟨q1, e1, hf⟩ := Option.bind_eq_some_iff.mp hf
  refine ym_callV (pc := 1) (G2 := g_X7_startAct) (dep2 := 2) (As := []) (st := []) (stk2 := []) (r2 := none) (h1 := q1.2) dX7_batch_1 (ok_X7_startAct e1) (sc_X7_batch_X7_startAct) wd_221 wd_223 wd_0 (ci := 7) (q0 := (RX7, TX7, 10)) rfl (by decide) rfl f1 rfl rfl (ym_st4 (Nat.le_of_ble_eq_true rfl)) rfl ?_
  refine ym_aload_n (pc := 4) 0 dX7_batch_4 rfl rfl ?_
  obtain ⟨v5, e5, hf⟩ := Option.bind_eq_some_iff.mp hf
  refine ym_get (pc := 5) dX7_batch_5 rfl (by decide) iX7 (k := 0) (by decide) wd_186 (ym_gR_v e5) ?_
  obtain ⟨o8, f8, hf⟩ := Option.bind_eq_some_iff.mp hf
  obtain ⟨q8, e8, hf⟩ := Option.bind_eq_some_iff.mp hf
  refine ym_callV (pc := 8) (G2 := g_X3_depth) (dep2 := 1) (As := []) (st := []) (stk2 := [.int q8.1]) (r2 := (some (.int q8.1))) (h1 := q8.2) dX7_batch_8 (ok_X3_depth e8) (sc_X7_batch_X3_depth) wd_737 wd_738 wd_739 (ci := 3) (q0 := (RX3, TX3, 6)) rfl (by decide) rfl f8 rfl rfl (ym_st4 (Nat.le_of_ble_eq_true rfl)) rfl ?_
  refine ym_bipush (pc := 11) (v := 8) dX7_batch_11 (by decide) ?_
  by_cases c13 : q8.1 < 8
  · rw [if_pos c13] at hf
    refine ym_icmp_lt_y (pc := 13) (tgt := 23) dX7_batch_13 (by decide) c13 ?_
    refine ym_aload_n (pc := 23) 0 dX7_batch_23 rfl rfl ?_
    obtain ⟨v24, e24, hf⟩ := Option.bind_eq_some_iff.mp hf
    refine ym_get (pc := 24) dX7_batch_24 rfl (by decide) iX7 (k := 0) (by decide) wd_186 (ym_gR_v e24) ?_
    obtain ⟨o27, f27, hf⟩ := Option.bind_eq_some_iff.mp hf
    obtain ⟨q27, e27, hf⟩ := Option.bind_eq_some_iff.mp hf
    refine ym_callV (pc := 27) (G2 := g_X3_openBatch) (dep2 := 1) (As := []) (st := []) (stk2 := []) (r2 := none) (h1 := q27.2) dX7_batch_27 (ok_X3_openBatch e27) (sc_X7_batch_X3_openBatch) wd_741 wd_742 wd_743 (ci := 3) (q0 := (RX3, TX3, 6)) rfl (by decide) rfl f27 rfl rfl (ym_st4 (Nat.le_of_ble_eq_true rfl)) rfl ?_
    refine ym_aload_n (pc := 30) 0 dX7_batch_30 rfl rfl ?_
    obtain ⟨v31, e31, hf⟩ := Option.bind_eq_some_iff.mp hf
    refine ym_get (pc := 31) dX7_batch_31 rfl (by decide) iX7 (k := 0) (by decide) wd_186 (ym_gR_v e31) ?_
    obtain ⟨o34, f34, hf⟩ := Option.bind_eq_some_iff.mp hf
    obtain ⟨q34, e34, hf⟩ := Option.bind_eq_some_iff.mp hf
    refine ym_callV (pc := 34) (G2 := g_X3_depth) (dep2 := 1) (As := []) (st := []) (stk2 := [.int q34.1]) (r2 := (some (.int q34.1))) (h1 := q34.2) dX7_batch_34 (ok_X3_depth e34) (sc_X7_batch_X3_depth) wd_737 wd_738 wd_739 (ci := 3) (q0 := (RX3, TX3, 6)) rfl (by decide) rfl f34 rfl rfl (ym_st4 (Nat.le_of_ble_eq_true rfl)) rfl ?_
    refine ym_i2l (pc := 37) dX7_batch_37 ?_
    cases hf
    exact ym_lret (pc := 38) dX7_batch_38 rfl
  · rw [if_neg c13] at hf
    refine ym_icmp_lt_n (pc := 13) (tgt := 23) dX7_batch_13 (by decide) c13 ?_
    refine ym_aload_n (pc := 16) 0 dX7_batch_16 rfl rfl ?_
    refine ym_bipush (pc := 17) (v := 12) dX7_batch_17 (by decide) ?_
    obtain ⟨o19, f19, hf⟩ := Option.bind_eq_some_iff.mp hf
    obtain ⟨q19, e19, hf⟩ := Option.bind_eq_some_iff.mp hf
    refine ym_callV (pc := 19) (G2 := g_X7_refuse) (dep2 := 4) (As := [.int 12]) (st := []) (stk2 := [.long q19.1]) (r2 := (some (.long q19.1))) (h1 := q19.2) dX7_batch_19 (ok_X7_refuse e19) (sc_X7_batch_X7_refuse) wd_229 wd_231 wd_1 (ci := 7) (q0 := (RX7, TX7, 10)) rfl (by decide) rfl f19 rfl rfl (ym_st4 (Nat.le_of_ble_eq_true rfl)) rfl ?_
    cases hf
    exact ym_lret (pc := 22) dX7_batch_22 rfl
theorem dX7_batches_0 : decode cX7_batches 0 = .ok (.aload_n 0, 1) := by decide +kernel
theorem dX7_batches_1 : decode cX7_batches 1 = .ok (.getfield 12, 3) := by decide +kernel
theorem dX7_batches_4 : decode cX7_batches 4 = .ok (.invokevirtual 258, 3) := by decide +kernel
theorem dX7_batches_7 : decode cX7_batches 7 = .ok (.ireturn, 1) := by decide +kernel
theorem sc_X7_batches_X3_depth : ym_site g_X7_batches g_X3_depth 2 1 0 := ⟨by decide, by decide, wd_740, wd_77, by decide +kernel⟩
def fn_X7_batches (N : Nat) (a0 : Option Nat) (h : ym_H) : Option (Int32 × ym_H) :=
  Option.bind (ym_gR h a0 7 0) fun v1 =>
  Option.bind (ym_ob h v1 3) fun o4 =>
  Option.bind (fn_X3_depth N v1 h) fun q4 =>
  some (q4.1, q4.2)
set_option maxRecDepth 20000 in
set_option maxHeartbeats 4000000 in
theorem ok_X7_batches {D : ym_D} {b0 : Nat} {N : Nat} {a0 : Option Nat} {h h' : ym_H} {r : Int32} (hf : fn_X7_batches N a0 h = some (r, h')) : ym_M D b0 g_X7_batches 2 [va_rf a0] h (some (.int r)) h' := by
  unfold fn_X7_batches at hf
  refine ym_meth (lv := [(0, va_rf a0)]) (by decide) (by simp [lg_sl, ym_c1, ym_cI, ym_cL, g_X7_batches]) (by simp [lv_args, ym_c1, ym_cI, ym_cL]) ?_
  refine ym_aload_n (pc := 0) 0 dX7_batches_0 rfl rfl ?_
  obtain ⟨v1, e1, hf⟩ := Option.bind_eq_some_iff.mp hf
  refine ym_get (pc := 1) dX7_batches_1 rfl (by decide) iX7 (k := 0) (by decide) wd_186 (ym_gR_v e1) ?_
  obtain ⟨o4, f4, hf⟩ := Option.bind_eq_some_iff.mp hf
  obtain ⟨q4, e4, hf⟩ := Option.bind_eq_some_iff.mp hf
  refine ym_callV (pc := 4) (G2 := g_X3_depth) (dep2 := 1) (As := []) (st := []) (stk2 := [.int q4.1]) (r2 := (some (.int q4.1))) (h1 := q4.2) dX7_batches_4 (ok_X3_depth e4) (sc_X7_batches_X3_depth) wd_737 wd_738 wd_739 (ci := 3) (q0 := (RX3, TX3, 6)) rfl (by decide) rfl f4 rfl rfl (ym_st4 (Nat.le_of_ble_eq_true rfl)) rfl ?_
  cases hf
  exact ym_iret (pc := 7) dX7_batches_7 rfl
theorem dX7_isSum_0 : decode cX7_isSum 0 = .ok (.lload_n 0, 1) := by decide +kernel
theorem dX7_isSum_1 : decode cX7_isSum 1 = .ok (.lconst 1, 1) := by decide +kernel
theorem dX7_isSum_2 : decode cX7_isSum 2 = .ok (.lcmp, 1) := by decide +kernel
theorem dX7_isSum_3 : decode cX7_isSum 3 = .ok (.ifCond .lt 15, 3) := by decide +kernel
theorem dX7_isSum_6 : decode cX7_isSum 6 = .ok (.lload_n 0, 1) := by decide +kernel
theorem dX7_isSum_7 : decode cX7_isSum 7 = .ok (.ldc2_w 309, 3) := by decide +kernel
theorem dX7_isSum_10 : decode cX7_isSum 10 = .ok (.lcmp, 1) := by decide +kernel
theorem dX7_isSum_11 : decode cX7_isSum 11 = .ok (.ifCond .gt 7, 3) := by decide +kernel
theorem dX7_isSum_14 : decode cX7_isSum 14 = .ok (.iconst 1, 1) := by decide +kernel
theorem dX7_isSum_15 : decode cX7_isSum 15 = .ok (.goto 4, 3) := by decide +kernel
theorem dX7_isSum_18 : decode cX7_isSum 18 = .ok (.iconst 0, 1) := by decide +kernel
theorem dX7_isSum_19 : decode cX7_isSum 19 = .ok (.ireturn, 1) := by decide +kernel
def fn_X7_isSum (N : Nat) (a0 : Int64) (h : ym_H) : Option (Int32 × ym_H) :=
  if a0 < 1 then
    some (0, h)
  else
    if 1000000000000 < a0 then
      some (0, h)
    else
      some (1, h)
set_option maxRecDepth 20000 in
set_option maxHeartbeats 4000000 in
theorem ok_X7_isSum {D : ym_D} {b0 : Nat} {N : Nat} {a0 : Int64} {h h' : ym_H} {r : Int32} (hf : fn_X7_isSum N a0 h = some (r, h')) : ym_M D b0 g_X7_isSum 1 [.long a0] h (some (.int r)) h' := by
  unfold fn_X7_isSum at hf
  refine ym_meth (lv := [(0, .long a0)]) (by decide) (by simp [lg_sl, ym_c1, ym_cI, ym_cL, g_X7_isSum]) (by simp [lv_args, ym_c1, ym_cI, ym_cL]) ?_
  refine ym_lload_n (pc := 0) 0 dX7_isSum_0 rfl rfl ?_
  refine ym_lconst (pc := 1) (v := 1) dX7_isSum_1 (by decide) ?_
  by_cases c2 : a0 < 1
  · rw [if_pos c2] at hf
    refine ym_lcmp_lt_y (pc := 2) (tgt := 18) dX7_isSum_2 dX7_isSum_3 (by decide) c2 ?_
    refine ym_iconst (pc := 18) (v := 0) dX7_isSum_18 (by decide) ?_
    cases hf
    exact ym_zret (pc := 19) dX7_isSum_19 rfl rfl
  · rw [if_neg c2] at hf
    refine ym_lcmp_lt_n (pc := 2) (tgt := 18) dX7_isSum_2 dX7_isSum_3 (by decide) c2 ?_
    refine ym_lload_n (pc := 6) 0 dX7_isSum_6 rfl rfl ?_
    refine ym_ldc2 (pc := 7) dX7_isSum_7 wd_248 ?_
    by_cases c10 : 1000000000000 < a0
    · rw [if_pos c10] at hf
      refine ym_lcmp_gt_y (pc := 10) (tgt := 18) dX7_isSum_10 dX7_isSum_11 (by decide) c10 ?_
      refine ym_iconst (pc := 18) (v := 0) dX7_isSum_18 (by decide) ?_
      cases hf
      exact ym_zret (pc := 19) dX7_isSum_19 rfl rfl
    · rw [if_neg c10] at hf
      refine ym_lcmp_gt_n (pc := 10) (tgt := 18) dX7_isSum_10 dX7_isSum_11 (by decide) c10 ?_
      refine ym_iconst (pc := 14) (v := 1) dX7_isSum_14 (by decide) ?_
      refine ym_goto (pc := 15) (tgt := 19) dX7_isSum_15 (by decide) ?_
      cases hf
      exact ym_zret (pc := 19) dX7_isSum_19 rfl rfl
theorem dX7_whyNoBidder_0 : decode cX7_whyNoBidder 0 = .ok (.iload_n 0, 1) := by decide +kernel
theorem dX7_whyNoBidder_1 : decode cX7_whyNoBidder 1 = .ok (.ifCond .lt 10, 3) := by decide +kernel
theorem dX7_whyNoBidder_4 : decode cX7_whyNoBidder 4 = .ok (.iload_n 0, 1) := by decide +kernel
theorem dX7_whyNoBidder_5 : decode cX7_whyNoBidder 5 = .ok (.sipush 200, 3) := by decide +kernel
theorem dX7_whyNoBidder_8 : decode cX7_whyNoBidder 8 = .ok (.if_icmp .lt 7, 3) := by decide +kernel
theorem dX7_whyNoBidder_11 : decode cX7_whyNoBidder 11 = .ok (.iconst 3, 1) := by decide +kernel
theorem dX7_whyNoBidder_12 : decode cX7_whyNoBidder 12 = .ok (.goto 4, 3) := by decide +kernel
theorem dX7_whyNoBidder_15 : decode cX7_whyNoBidder 15 = .ok (.iconst 2, 1) := by decide +kernel
theorem dX7_whyNoBidder_16 : decode cX7_whyNoBidder 16 = .ok (.ireturn, 1) := by decide +kernel
def fn_X7_whyNoBidder (N : Nat) (a0 : Int32) (h : ym_H) : Option (Int32 × ym_H) :=
  if a0 < 0 then
    some (3, h)
  else
    if a0 < 200 then
      some (2, h)
    else
      some (3, h)
set_option maxRecDepth 20000 in
set_option maxHeartbeats 4000000 in
theorem ok_X7_whyNoBidder {D : ym_D} {b0 : Nat} {N : Nat} {a0 : Int32} {h h' : ym_H} {r : Int32} (hf : fn_X7_whyNoBidder N a0 h = some (r, h')) : ym_M D b0 g_X7_whyNoBidder 1 [.int a0] h (some (.int r)) h' := by
  unfold fn_X7_whyNoBidder at hf
  refine ym_meth (lv := [(0, .int a0)]) (by decide) (by simp [lg_sl, ym_c1, ym_cI, ym_cL, g_X7_whyNoBidder]) (by simp [lv_args, ym_c1, ym_cI, ym_cL]) ?_
  refine ym_iload_n (pc := 0) 0 dX7_whyNoBidder_0 rfl rfl ?_
  by_cases c1 : a0 < 0
  · rw [if_pos c1] at hf
    refine ym_if_lt_y (pc := 1) (tgt := 11) dX7_whyNoBidder_1 (by decide) c1 ?_
    refine ym_iconst (pc := 11) (v := 3) dX7_whyNoBidder_11 (by decide) ?_
    refine ym_goto (pc := 12) (tgt := 16) dX7_whyNoBidder_12 (by decide) ?_
    cases hf
    exact ym_iret (pc := 16) dX7_whyNoBidder_16 rfl
  · rw [if_neg c1] at hf
    refine ym_if_lt_n (pc := 1) (tgt := 11) dX7_whyNoBidder_1 (by decide) c1 ?_
    refine ym_iload_n (pc := 4) 0 dX7_whyNoBidder_4 rfl rfl ?_
    refine ym_sipush (pc := 5) (v := 200) dX7_whyNoBidder_5 (by decide) ?_
    by_cases c8 : a0 < 200
    · rw [if_pos c8] at hf
      refine ym_icmp_lt_y (pc := 8) (tgt := 15) dX7_whyNoBidder_8 (by decide) c8 ?_
      refine ym_iconst (pc := 15) (v := 2) dX7_whyNoBidder_15 (by decide) ?_
      cases hf
      exact ym_iret (pc := 16) dX7_whyNoBidder_16 rfl
    · rw [if_neg c8] at hf
      refine ym_icmp_lt_n (pc := 8) (tgt := 15) dX7_whyNoBidder_8 (by decide) c8 ?_
      refine ym_iconst (pc := 11) (v := 3) dX7_whyNoBidder_11 (by decide) ?_
      refine ym_goto (pc := 12) (tgt := 16) dX7_whyNoBidder_12 (by decide) ?_
      cases hf
      exact ym_iret (pc := 16) dX7_whyNoBidder_16 rfl
theorem dX7_bid_0 : decode cX7_bid 0 = .ok (.aload_n 0, 1) := by decide +kernel
theorem dX7_bid_1 : decode cX7_bid 1 = .ok (.invokevirtual 58, 3) := by decide +kernel
theorem dX7_bid_4 : decode cX7_bid 4 = .ok (.lload_n 3, 1) := by decide +kernel
theorem dX7_bid_5 : decode cX7_bid 5 = .ok (.invokestatic 80, 3) := by decide +kernel
theorem dX7_bid_8 : decode cX7_bid 8 = .ok (.ifCond .ne 9, 3) := by decide +kernel
theorem dX7_bid_11 : decode cX7_bid 11 = .ok (.aload_n 0, 1) := by decide +kernel
theorem dX7_bid_12 : decode cX7_bid 12 = .ok (.iconst 1, 1) := by decide +kernel
theorem dX7_bid_13 : decode cX7_bid 13 = .ok (.invokevirtual 61, 3) := by decide +kernel
theorem dX7_bid_16 : decode cX7_bid 16 = .ok (.lreturn, 1) := by decide +kernel
theorem dX7_bid_17 : decode cX7_bid 17 = .ok (.aload_n 0, 1) := by decide +kernel
theorem dX7_bid_18 : decode cX7_bid 18 = .ok (.iload_n 1, 1) := by decide +kernel
theorem dX7_bid_19 : decode cX7_bid 19 = .ok (.invokevirtual 89, 3) := by decide +kernel
theorem dX7_bid_22 : decode cX7_bid 22 = .ok (.astore 5, 2) := by decide +kernel
theorem dX7_bid_24 : decode cX7_bid 24 = .ok (.aload 5, 2) := by decide +kernel
theorem dX7_bid_26 : decode cX7_bid 26 = .ok (.ifnonnull 12, 3) := by decide +kernel
theorem dX7_bid_29 : decode cX7_bid 29 = .ok (.aload_n 0, 1) := by decide +kernel
theorem dX7_bid_30 : decode cX7_bid 30 = .ok (.iload_n 1, 1) := by decide +kernel
theorem dX7_bid_31 : decode cX7_bid 31 = .ok (.invokestatic 93, 3) := by decide +kernel
theorem dX7_bid_34 : decode cX7_bid 34 = .ok (.invokevirtual 61, 3) := by decide +kernel
theorem dX7_bid_37 : decode cX7_bid 37 = .ok (.lreturn, 1) := by decide +kernel
theorem dX7_bid_38 : decode cX7_bid 38 = .ok (.aload 5, 2) := by decide +kernel
theorem dX7_bid_40 : decode cX7_bid 40 = .ok (.getfield 137, 3) := by decide +kernel
theorem dX7_bid_43 : decode cX7_bid 43 = .ok (.iconst 5, 1) := by decide +kernel
theorem dX7_bid_44 : decode cX7_bid 44 = .ok (.if_icmp .ne 9, 3) := by decide +kernel
theorem dX7_bid_47 : decode cX7_bid 47 = .ok (.aload_n 0, 1) := by decide +kernel
theorem dX7_bid_48 : decode cX7_bid 48 = .ok (.iconst 4, 1) := by decide +kernel
theorem dX7_bid_49 : decode cX7_bid 49 = .ok (.invokevirtual 61, 3) := by decide +kernel
theorem dX7_bid_52 : decode cX7_bid 52 = .ok (.lreturn, 1) := by decide +kernel
theorem dX7_bid_53 : decode cX7_bid 53 = .ok (.aload_n 0, 1) := by decide +kernel
theorem dX7_bid_54 : decode cX7_bid 54 = .ok (.iload_n 2, 1) := by decide +kernel
theorem dX7_bid_55 : decode cX7_bid 55 = .ok (.invokevirtual 97, 3) := by decide +kernel
theorem dX7_bid_58 : decode cX7_bid 58 = .ok (.astore 6, 2) := by decide +kernel
theorem dX7_bid_60 : decode cX7_bid 60 = .ok (.aload 6, 2) := by decide +kernel
theorem dX7_bid_62 : decode cX7_bid 62 = .ok (.ifnonnull 12, 3) := by decide +kernel
theorem dX7_bid_65 : decode cX7_bid 65 = .ok (.aload_n 0, 1) := by decide +kernel
theorem dX7_bid_66 : decode cX7_bid 66 = .ok (.iload_n 2, 1) := by decide +kernel
theorem dX7_bid_67 : decode cX7_bid 67 = .ok (.invokestatic 101, 3) := by decide +kernel
theorem dX7_bid_70 : decode cX7_bid 70 = .ok (.invokevirtual 61, 3) := by decide +kernel
theorem dX7_bid_73 : decode cX7_bid 73 = .ok (.lreturn, 1) := by decide +kernel
theorem dX7_bid_74 : decode cX7_bid 74 = .ok (.aload 6, 2) := by decide +kernel
theorem dX7_bid_76 : decode cX7_bid 76 = .ok (.invokevirtual 152, 3) := by decide +kernel
theorem dX7_bid_79 : decode cX7_bid 79 = .ok (.ifCond .eq 9, 3) := by decide +kernel
theorem dX7_bid_82 : decode cX7_bid 82 = .ok (.aload_n 0, 1) := by decide +kernel
theorem dX7_bid_83 : decode cX7_bid 83 = .ok (.iconst 4, 1) := by decide +kernel
theorem dX7_bid_84 : decode cX7_bid 84 = .ok (.invokevirtual 61, 3) := by decide +kernel
theorem dX7_bid_87 : decode cX7_bid 87 = .ok (.lreturn, 1) := by decide +kernel
theorem dX7_bid_88 : decode cX7_bid 88 = .ok (.aload 5, 2) := by decide +kernel
theorem dX7_bid_90 : decode cX7_bid 90 = .ok (.invokevirtual 156, 3) := by decide +kernel
theorem dX7_bid_93 : decode cX7_bid 93 = .ok (.ifCond .ne 13, 3) := by decide +kernel
theorem dX7_bid_96 : decode cX7_bid 96 = .ok (.aload_n 0, 1) := by decide +kernel
theorem dX7_bid_97 : decode cX7_bid 97 = .ok (.aload 5, 2) := by decide +kernel
theorem dX7_bid_99 : decode cX7_bid 99 = .ok (.invokevirtual 159, 3) := by decide +kernel
theorem dX7_bid_102 : decode cX7_bid 102 = .ok (.invokevirtual 61, 3) := by decide +kernel
theorem dX7_bid_105 : decode cX7_bid 105 = .ok (.lreturn, 1) := by decide +kernel
theorem dX7_bid_106 : decode cX7_bid 106 = .ok (.aload 5, 2) := by decide +kernel
theorem dX7_bid_108 : decode cX7_bid 108 = .ok (.invokevirtual 162, 3) := by decide +kernel
theorem dX7_bid_111 : decode cX7_bid 111 = .ok (.ifCond .eq 10, 3) := by decide +kernel
theorem dX7_bid_114 : decode cX7_bid 114 = .ok (.aload_n 0, 1) := by decide +kernel
theorem dX7_bid_115 : decode cX7_bid 115 = .ok (.bipush 8, 2) := by decide +kernel
theorem dX7_bid_117 : decode cX7_bid 117 = .ok (.invokevirtual 61, 3) := by decide +kernel
theorem dX7_bid_120 : decode cX7_bid 120 = .ok (.lreturn, 1) := by decide +kernel
theorem dX7_bid_121 : decode cX7_bid 121 = .ok (.aload 5, 2) := by decide +kernel
theorem dX7_bid_123 : decode cX7_bid 123 = .ok (.iload_n 2, 1) := by decide +kernel
theorem dX7_bid_124 : decode cX7_bid 124 = .ok (.invokevirtual 165, 3) := by decide +kernel
theorem dX7_bid_127 : decode cX7_bid 127 = .ok (.ifCond .eq 10, 3) := by decide +kernel
theorem dX7_bid_130 : decode cX7_bid 130 = .ok (.aload_n 0, 1) := by decide +kernel
theorem dX7_bid_131 : decode cX7_bid 131 = .ok (.bipush 13, 2) := by decide +kernel
theorem dX7_bid_133 : decode cX7_bid 133 = .ok (.invokevirtual 61, 3) := by decide +kernel
theorem dX7_bid_136 : decode cX7_bid 136 = .ok (.lreturn, 1) := by decide +kernel
theorem dX7_bid_137 : decode cX7_bid 137 = .ok (.lload_n 3, 1) := by decide +kernel
theorem dX7_bid_138 : decode cX7_bid 138 = .ok (.aload_n 0, 1) := by decide +kernel
theorem dX7_bid_139 : decode cX7_bid 139 = .ok (.getfield 42, 3) := by decide +kernel
theorem dX7_bid_142 : decode cX7_bid 142 = .ok (.aload 5, 2) := by decide +kernel
theorem dX7_bid_144 : decode cX7_bid 144 = .ok (.invokevirtual 168, 3) := by decide +kernel
theorem dX7_bid_147 : decode cX7_bid 147 = .ok (.lcmp, 1) := by decide +kernel
theorem dX7_bid_148 : decode cX7_bid 148 = .ok (.ifCond .ge 10, 3) := by decide +kernel
theorem dX7_bid_151 : decode cX7_bid 151 = .ok (.aload_n 0, 1) := by decide +kernel
theorem dX7_bid_152 : decode cX7_bid 152 = .ok (.bipush 10, 2) := by decide +kernel
theorem dX7_bid_154 : decode cX7_bid 154 = .ok (.invokevirtual 61, 3) := by decide +kernel
theorem dX7_bid_157 : decode cX7_bid 157 = .ok (.lreturn, 1) := by decide +kernel
theorem dX7_bid_158 : decode cX7_bid 158 = .ok (.aload_n 0, 1) := by decide +kernel
theorem dX7_bid_159 : decode cX7_bid 159 = .ok (.getfield 42, 3) := by decide +kernel
theorem dX7_bid_162 : decode cX7_bid 162 = .ok (.aload 6, 2) := by decide +kernel
theorem dX7_bid_164 : decode cX7_bid 164 = .ok (.aload 5, 2) := by decide +kernel
theorem dX7_bid_166 : decode cX7_bid 166 = .ok (.lload_n 3, 1) := by decide +kernel
theorem dX7_bid_167 : decode cX7_bid 167 = .ok (.aload_n 0, 1) := by decide +kernel
theorem dX7_bid_168 : decode cX7_bid 168 = .ok (.getfield 54, 3) := by decide +kernel
theorem dX7_bid_171 : decode cX7_bid 171 = .ok (.aload_n 0, 1) := by decide +kernel
theorem dX7_bid_172 : decode cX7_bid 172 = .ok (.invokevirtual 83, 3) := by decide +kernel
theorem dX7_bid_175 : decode cX7_bid 175 = .ok (.invokevirtual 172, 3) := by decide +kernel
theorem dX7_bid_178 : decode cX7_bid 178 = .ok (.ifCond .ne 10, 3) := by decide +kernel
theorem dX7_bid_181 : decode cX7_bid 181 = .ok (.aload_n 0, 1) := by decide +kernel
theorem dX7_bid_182 : decode cX7_bid 182 = .ok (.bipush 11, 2) := by decide +kernel
theorem dX7_bid_184 : decode cX7_bid 184 = .ok (.invokevirtual 61, 3) := by decide +kernel
theorem dX7_bid_187 : decode cX7_bid 187 = .ok (.lreturn, 1) := by decide +kernel
theorem dX7_bid_188 : decode cX7_bid 188 = .ok (.aload 5, 2) := by decide +kernel
theorem dX7_bid_190 : decode cX7_bid 190 = .ok (.getfield 149, 3) := by decide +kernel
theorem dX7_bid_193 : decode cX7_bid 193 = .ok (.invokevirtual 116, 3) := by decide +kernel
theorem dX7_bid_196 : decode cX7_bid 196 = .ok (.sipush 299, 3) := by decide +kernel
theorem dX7_bid_199 : decode cX7_bid 199 = .ok (.if_icmp .lt 10, 3) := by decide +kernel
theorem dX7_bid_202 : decode cX7_bid 202 = .ok (.aload_n 0, 1) := by decide +kernel
theorem dX7_bid_203 : decode cX7_bid 203 = .ok (.bipush 12, 2) := by decide +kernel
theorem dX7_bid_205 : decode cX7_bid 205 = .ok (.invokevirtual 61, 3) := by decide +kernel
theorem dX7_bid_208 : decode cX7_bid 208 = .ok (.lreturn, 1) := by decide +kernel
theorem dX7_bid_209 : decode cX7_bid 209 = .ok (.aload_n 0, 1) := by decide +kernel
theorem dX7_bid_210 : decode cX7_bid 210 = .ok (.dup, 1) := by decide +kernel
theorem dX7_bid_211 : decode cX7_bid 211 = .ok (.getfield 176, 3) := by decide +kernel
theorem dX7_bid_214 : decode cX7_bid 214 = .ok (.iconst 1, 1) := by decide +kernel
theorem dX7_bid_215 : decode cX7_bid 215 = .ok (.iadd, 1) := by decide +kernel
theorem dX7_bid_216 : decode cX7_bid 216 = .ok (.putfield 176, 3) := by decide +kernel
theorem dX7_bid_219 : decode cX7_bid 219 = .ok (.aload 5, 2) := by decide +kernel
theorem dX7_bid_221 : decode cX7_bid 221 = .ok (.iload_n 2, 1) := by decide +kernel
theorem dX7_bid_222 : decode cX7_bid 222 = .ok (.lload_n 3, 1) := by decide +kernel
theorem dX7_bid_223 : decode cX7_bid 223 = .ok (.aload_n 0, 1) := by decide +kernel
theorem dX7_bid_224 : decode cX7_bid 224 = .ok (.getfield 176, 3) := by decide +kernel
theorem dX7_bid_227 : decode cX7_bid 227 = .ok (.invokevirtual 179, 3) := by decide +kernel
theorem dX7_bid_230 : decode cX7_bid 230 = .ok (.aload_n 0, 1) := by decide +kernel
theorem dX7_bid_231 : decode cX7_bid 231 = .ok (.aload 5, 2) := by decide +kernel
theorem dX7_bid_233 : decode cX7_bid 233 = .ok (.invokevirtual 145, 3) := by decide +kernel
theorem dX7_bid_236 : decode cX7_bid 236 = .ok (.aload_n 0, 1) := by decide +kernel
theorem dX7_bid_237 : decode cX7_bid 237 = .ok (.getfield 176, 3) := by decide +kernel
theorem dX7_bid_240 : decode cX7_bid 240 = .ok (.i2l, 1) := by decide +kernel
theorem dX7_bid_241 : decode cX7_bid 241 = .ok (.lreturn, 1) := by decide +kernel
theorem sc_X7_bid_X7_startAct : ym_site g_X7_bid g_X7_startAct 8 2 0 := ⟨by decide, by decide, wd_224, wd_76, by decide +kernel⟩
theorem sc_X7_bid_X7_isSum : ym_site g_X7_bid g_X7_isSum 8 1 1 := ⟨by decide, by decide, wd_322, wd_76, by decide +kernel⟩
theorem sc_X7_bid_X7_refuse : ym_site g_X7_bid g_X7_refuse 8 4 1 := ⟨by decide, by decide, wd_232, wd_76, by decide +kernel⟩
theorem sc_X7_bid_X7_lotAt : ym_site g_X7_bid g_X7_lotAt 8 3 1 := ⟨by decide, by decide, wd_374, wd_76, by decide +kernel⟩
theorem sc_X7_bid_X7_whyNoLot : ym_site g_X7_bid g_X7_whyNoLot 8 1 1 := ⟨by decide, by decide, wd_377, wd_76, by decide +kernel⟩
theorem sc_X7_bid_X7_bidderWith : ym_site g_X7_bid g_X7_bidderWith 8 3 1 := ⟨by decide, by decide, wd_381, wd_76, by decide +kernel⟩
theorem sc_X7_bid_X7_whyNoBidder : ym_site g_X7_bid g_X7_whyNoBidder 8 1 1 := ⟨by decide, by decide, wd_384, wd_76, by decide +kernel⟩
theorem sc_X7_bid_X0_isPaper : ym_site g_X7_bid g_X0_isPaper 8 1 0 := ⟨by decide, by decide, wd_534, wd_84, by decide +kernel⟩
theorem sc_X7_bid_X4_isOpen : ym_site g_X7_bid g_X4_isOpen 8 3 0 := ⟨by decide, by decide, wd_538, wd_87, by decide +kernel⟩
theorem sc_X7_bid_X4_whyNotOpen : ym_site g_X7_bid g_X4_whyNotOpen 8 4 0 := ⟨by decide, by decide, wd_543, wd_87, by decide +kernel⟩
theorem sc_X7_bid_X4_wasOpened : ym_site g_X7_bid g_X4_wasOpened 8 2 0 := ⟨by decide, by decide, wd_516, wd_87, by decide +kernel⟩
theorem sc_X7_bid_X4_hasBidderAlready : ym_site g_X7_bid g_X4_hasBidderAlready 8 4 1 := ⟨by decide, by decide, wd_552, wd_87, by decide +kernel⟩
theorem sc_X7_bid_X1_askFor : ym_site g_X7_bid g_X1_askFor 8 4 1 := ⟨by decide, by decide, wd_558, wd_82, by decide +kernel⟩
theorem sc_X7_bid_X7_lotsMade : ym_site g_X7_bid g_X7_lotsMade 8 2 0 := ⟨by decide, by decide, wd_326, wd_76, by decide +kernel⟩
theorem sc_X7_bid_X1_mayBid : ym_site g_X7_bid g_X1_mayBid 8 5 5 := ⟨by decide, by decide, wd_571, wd_82, by decide +kernel⟩
theorem sc_X7_bid_X5_rows : ym_site g_X7_bid g_X5_rows 8 2 0 := ⟨by decide, by decide, wd_397, wd_81, by decide +kernel⟩
theorem sc_X7_bid_X4_enterBid : ym_site g_X7_bid g_X4_enterBid 8 7 3 := ⟨by decide, by decide, wd_591, wd_87, by decide +kernel⟩
theorem sc_X7_bid_X7_askPapers : ym_site g_X7_bid g_X7_askPapers 8 7 1 := ⟨by decide, by decide, wd_463, wd_76, by decide +kernel⟩
def fn_X7_bid (N : Nat) (a0 : Option Nat) (a1 : Int32) (a2 : Int32) (a3 : Int64) (h : ym_H) : Option (Int64 × ym_H) :=
  Option.bind (ym_ob h a0 7) fun o1 =>
  Option.bind (fn_X7_startAct N a0 h) fun q1 =>
  Option.bind (fn_X7_isSum N a3 q1.2) fun q5 =>
  if q5.1 = 0 then
    Option.bind (ym_ob q5.2 a0 7) fun o13 =>
    Option.bind (fn_X7_refuse N a0 1 q5.2) fun q13 =>
    some (q13.1, q13.2)
  else
    Option.bind (ym_ob q5.2 a0 7) fun o19 =>
    Option.bind (fn_X7_lotAt N a0 a1 q5.2) fun q19 =>
    if q19.1 = none then
      Option.bind (fn_X7_whyNoLot N a1 q19.2) fun q31 =>
      Option.bind (ym_ob q31.2 a0 7) fun o34 =>
      Option.bind (fn_X7_refuse N a0 q31.1 q31.2) fun q34 =>
      some (q34.1, q34.2)
    else
      Option.bind (ym_gI q19.2 q19.1 4 0) fun v40 =>
      if v40 = 5 then
        Option.bind (ym_ob q19.2 a0 7) fun o49 =>
        Option.bind (fn_X7_refuse N a0 4 q19.2) fun q49 =>
        some (q49.1, q49.2)
      else
        Option.bind (ym_ob q19.2 a0 7) fun o55 =>
        Option.bind (fn_X7_bidderWith N a0 a2 q19.2) fun q55 =>
        if q55.1 = none then
          Option.bind (fn_X7_whyNoBidder N a2 q55.2) fun q67 =>
          Option.bind (ym_ob q67.2 a0 7) fun o70 =>
          Option.bind (fn_X7_refuse N a0 q67.1 q67.2) fun q70 =>
          some (q70.1, q70.2)
        else
          Option.bind (ym_ob q55.2 q55.1 0) fun o76 =>
          Option.bind (fn_X0_isPaper N q55.1 q55.2) fun q76 =>
          if q76.1 = 0 then
            Option.bind (ym_ob q76.2 q19.1 4) fun o90 =>
            Option.bind (fn_X4_isOpen N q19.1 q76.2) fun q90 =>
            if q90.1 = 0 then
              Option.bind (ym_ob q90.2 q19.1 4) fun o99 =>
              Option.bind (fn_X4_whyNotOpen N q19.1 q90.2) fun q99 =>
              Option.bind (ym_ob q99.2 a0 7) fun o102 =>
              Option.bind (fn_X7_refuse N a0 q99.1 q99.2) fun q102 =>
              some (q102.1, q102.2)
            else
              Option.bind (ym_ob q90.2 q19.1 4) fun o108 =>
              Option.bind (fn_X4_wasOpened N q19.1 q90.2) fun q108 =>
              if q108.1 = 0 then
                Option.bind (ym_ob q108.2 q19.1 4) fun o124 =>
                Option.bind (fn_X4_hasBidderAlready N q19.1 a2 q108.2) fun q124 =>
                if q124.1 = 0 then
                  Option.bind (ym_gR q124.2 a0 7 4) fun v139 =>
                  Option.bind (ym_ob q124.2 v139 1) fun o144 =>
                  Option.bind (fn_X1_askFor N v139 q19.1 q124.2) fun q144 =>
                  if q144.1 ≤ a3 then
                    Option.bind (ym_gR q144.2 a0 7 4) fun v159 =>
                    Option.bind (ym_gR q144.2 a0 7 6) fun v168 =>
                    Option.bind (ym_ob q144.2 a0 7) fun o172 =>
                    Option.bind (fn_X7_lotsMade N a0 q144.2) fun q172 =>
                    Option.bind (ym_ob q172.2 v159 1) fun o175 =>
                    Option.bind (fn_X1_mayBid N v159 q55.1 q19.1 a3 v168 q172.1 q172.2) fun q175 =>
                    if q175.1 = 0 then
                      Option.bind (ym_ob q175.2 a0 7) fun o184 =>
                      Option.bind (fn_X7_refuse N a0 11 q175.2) fun q184 =>
                      some (q184.1, q184.2)
                    else
                      Option.bind (ym_gR q175.2 q19.1 4 3) fun v190 =>
                      Option.bind (ym_ob q175.2 v190 5) fun o193 =>
                      Option.bind (fn_X5_rows N v190 q175.2) fun q193 =>
                      if q193.1 < 299 then
                        Option.bind (ym_gI q193.2 a0 7 7) fun v211 =>
                        Option.bind (ym_pf q193.2 a0 7 7 (.int (v211 + 1))) fun h216 =>
                        Option.bind (ym_gI h216 a0 7 7) fun v224 =>
                        Option.bind (ym_ob h216 q19.1 4) fun o227 =>
                        Option.bind (fn_X4_enterBid N q19.1 a2 a3 v224 h216) fun q227 =>
                        Option.bind (ym_ob q227.2 a0 7) fun o233 =>
                        Option.bind (fn_X7_askPapers N a0 q19.1 q227.2) fun q233 =>
                        Option.bind (ym_gI q233.2 a0 7 7) fun v237 =>
                        some ((Int32.toInt64 v237), q233.2)
                      else
                        Option.bind (ym_ob q193.2 a0 7) fun o205 =>
                        Option.bind (fn_X7_refuse N a0 12 q193.2) fun q205 =>
                        some (q205.1, q205.2)
                  else
                    Option.bind (ym_ob q144.2 a0 7) fun o154 =>
                    Option.bind (fn_X7_refuse N a0 10 q144.2) fun q154 =>
                    some (q154.1, q154.2)
                else
                  Option.bind (ym_ob q124.2 a0 7) fun o133 =>
                  Option.bind (fn_X7_refuse N a0 13 q124.2) fun q133 =>
                  some (q133.1, q133.2)
              else
                Option.bind (ym_ob q108.2 a0 7) fun o117 =>
                Option.bind (fn_X7_refuse N a0 8 q108.2) fun q117 =>
                some (q117.1, q117.2)
          else
            Option.bind (ym_ob q76.2 a0 7) fun o84 =>
            Option.bind (fn_X7_refuse N a0 4 q76.2) fun q84 =>
            some (q84.1, q84.2)
set_option maxRecDepth 20000 in
set_option maxHeartbeats 4000000 in
theorem ok_X7_bid {D : ym_D} {b0 : Nat} {N : Nat} {a0 : Option Nat} {a1 : Int32} {a2 : Int32} {a3 : Int64} {h h' : ym_H} {r : Int64} (hf : fn_X7_bid N a0 a1 a2 a3 h = some (r, h')) : ym_M D b0 g_X7_bid 8 [va_rf a0, .int a1, .int a2, .long a3] h (some (.long r)) h' := by
  unfold fn_X7_bid at hf
  refine ym_meth (lv := [(0, va_rf a0), (1, .int a1), (2, .int a2), (3, .long a3)]) (by decide) (by simp [lg_sl, ym_c1, ym_cI, ym_cL, g_X7_bid]) (by simp [lv_args, ym_c1, ym_cI, ym_cL]) ?_
  refine ym_aload_n (pc := 0) 0 dX7_bid_0 rfl rfl ?_
  obtain ⟨o1, f1, hf⟩ := Option.bind_eq_some_iff.mp hf
  obtain ⟨q1, e1, hf⟩ := Option.bind_eq_some_iff.mp hf
  refine ym_callV (pc := 1) (G2 := g_X7_startAct) (dep2 := 2) (As := []) (st := []) (stk2 := []) (r2 := none) (h1 := q1.2) dX7_bid_1 (ok_X7_startAct e1) (sc_X7_bid_X7_startAct) wd_221 wd_223 wd_0 (ci := 7) (q0 := (RX7, TX7, 10)) rfl (by decide) rfl f1 rfl rfl (ym_st4 (Nat.le_of_ble_eq_true rfl)) rfl ?_
  refine ym_lload_n (pc := 4) 3 dX7_bid_4 rfl rfl ?_
  obtain ⟨q5, e5, hf⟩ := Option.bind_eq_some_iff.mp hf
  refine ym_callS (pc := 5) (G2 := g_X7_isSum) (dep2 := 1) (As := [.long a3]) (st := []) (stk2 := [.int q5.1]) (r2 := (some (.int q5.1))) (h1 := q5.2) dX7_bid_5 (ok_X7_isSum e5) (sc_X7_bid_X7_isSum) wd_320 wd_321 rfl rfl (ym_st4 (Nat.le_of_ble_eq_true rfl)) rfl ?_
  by_cases c8 : q5.1 = 0
  · rw [if_pos c8] at hf
    refine ym_if_ne_y (pc := 8) (tgt := 17) dX7_bid_8 (by decide) c8 ?_
    refine ym_aload_n (pc := 11) 0 dX7_bid_11 rfl rfl ?_
    refine ym_iconst (pc := 12) (v := 1) dX7_bid_12 (by decide) ?_
    obtain ⟨o13, f13, hf⟩ := Option.bind_eq_some_iff.mp hf
    obtain ⟨q13, e13, hf⟩ := Option.bind_eq_some_iff.mp hf
    refine ym_callV (pc := 13) (G2 := g_X7_refuse) (dep2 := 4) (As := [.int 1]) (st := []) (stk2 := [.long q13.1]) (r2 := (some (.long q13.1))) (h1 := q13.2) dX7_bid_13 (ok_X7_refuse e13) (sc_X7_bid_X7_refuse) wd_229 wd_231 wd_1 (ci := 7) (q0 := (RX7, TX7, 10)) rfl (by decide) rfl f13 rfl rfl (ym_st4 (Nat.le_of_ble_eq_true rfl)) rfl ?_
    cases hf
    exact ym_lret (pc := 16) dX7_bid_16 rfl
  · rw [if_neg c8] at hf
    refine ym_if_ne_n (pc := 8) (tgt := 17) dX7_bid_8 (by decide) c8 ?_
    refine ym_aload_n (pc := 17) 0 dX7_bid_17 rfl rfl ?_
    refine ym_iload_n (pc := 18) 1 dX7_bid_18 rfl rfl ?_
    obtain ⟨o19, f19, hf⟩ := Option.bind_eq_some_iff.mp hf
    obtain ⟨q19, e19, hf⟩ := Option.bind_eq_some_iff.mp hf
    refine ym_callV (pc := 19) (G2 := g_X7_lotAt) (dep2 := 3) (As := [.int a1]) (st := []) (stk2 := [va_rf q19.1]) (r2 := (some (va_rf q19.1))) (h1 := q19.2) dX7_bid_19 (ok_X7_lotAt e19) (sc_X7_bid_X7_lotAt) wd_371 wd_373 wd_5 (ci := 7) (q0 := (RX7, TX7, 10)) rfl (by decide) rfl f19 rfl rfl (ym_st4 (Nat.le_of_ble_eq_true rfl)) rfl ?_
    refine ym_astore (pc := 22) (lv' := [(5, va_rf q19.1), (0, va_rf a0), (1, .int a1), (2, .int a2), (3, .long a3)]) dX7_bid_22 (by decide) ⟨trivial, trivial, trivial, trivial, trivial⟩ rfl ?_
    refine ym_aload (pc := 24) 0 dX7_bid_24 rfl ?_
    by_cases c26 : q19.1 = none
    · rw [if_pos c26] at hf
      refine ym_ifnonnull_y (pc := 26) (tgt := 38) dX7_bid_26 (by decide) c26 ?_
      refine ym_aload_n (pc := 29) 1 dX7_bid_29 rfl rfl ?_
      refine ym_iload_n (pc := 30) 2 dX7_bid_30 rfl rfl ?_
      obtain ⟨q31, e31, hf⟩ := Option.bind_eq_some_iff.mp hf
      refine ym_callS (pc := 31) (G2 := g_X7_whyNoLot) (dep2 := 1) (As := [.int a1]) (st := [va_rf a0]) (stk2 := [.int q31.1, va_rf a0]) (r2 := (some (.int q31.1))) (h1 := q31.2) dX7_bid_31 (ok_X7_whyNoLot e31) (sc_X7_bid_X7_whyNoLot) wd_375 wd_376 rfl rfl (ym_st4 (Nat.le_of_ble_eq_true rfl)) rfl ?_
      obtain ⟨o34, f34, hf⟩ := Option.bind_eq_some_iff.mp hf
      obtain ⟨q34, e34, hf⟩ := Option.bind_eq_some_iff.mp hf
      refine ym_callV (pc := 34) (G2 := g_X7_refuse) (dep2 := 4) (As := [.int q31.1]) (st := []) (stk2 := [.long q34.1]) (r2 := (some (.long q34.1))) (h1 := q34.2) dX7_bid_34 (ok_X7_refuse e34) (sc_X7_bid_X7_refuse) wd_229 wd_231 wd_1 (ci := 7) (q0 := (RX7, TX7, 10)) rfl (by decide) rfl f34 rfl rfl (ym_st4 (Nat.le_of_ble_eq_true rfl)) rfl ?_
      cases hf
      exact ym_lret (pc := 37) dX7_bid_37 rfl
    · rw [if_neg c26] at hf
      refine ym_ifnonnull_n (pc := 26) (tgt := 38) dX7_bid_26 (by decide) c26 ?_
      refine ym_aload (pc := 38) 0 dX7_bid_38 rfl ?_
      obtain ⟨v40, e40, hf⟩ := Option.bind_eq_some_iff.mp hf
      refine ym_getN (pc := 40) dX7_bid_40 rfl (by decide) iX4 (k := 0) (by decide) wd_340 (ym_gI_v e40) ?_
      refine ym_iconst (pc := 43) (v := 5) dX7_bid_43 (by decide) ?_
      by_cases c44 : v40 = 5
      · rw [if_pos c44] at hf
        refine ym_icmp_ne_y (pc := 44) (tgt := 53) dX7_bid_44 (by decide) c44 ?_
        refine ym_aload_n (pc := 47) 1 dX7_bid_47 rfl rfl ?_
        refine ym_iconst (pc := 48) (v := 4) dX7_bid_48 (by decide) ?_
        obtain ⟨o49, f49, hf⟩ := Option.bind_eq_some_iff.mp hf
        obtain ⟨q49, e49, hf⟩ := Option.bind_eq_some_iff.mp hf
        refine ym_callV (pc := 49) (G2 := g_X7_refuse) (dep2 := 4) (As := [.int 4]) (st := []) (stk2 := [.long q49.1]) (r2 := (some (.long q49.1))) (h1 := q49.2) dX7_bid_49 (ok_X7_refuse e49) (sc_X7_bid_X7_refuse) wd_229 wd_231 wd_1 (ci := 7) (q0 := (RX7, TX7, 10)) rfl (by decide) rfl f49 rfl rfl (ym_st4 (Nat.le_of_ble_eq_true rfl)) rfl ?_
        cases hf
        exact ym_lret (pc := 52) dX7_bid_52 rfl
      · rw [if_neg c44] at hf
        refine ym_icmp_ne_n (pc := 44) (tgt := 53) dX7_bid_44 (by decide) c44 ?_
        refine ym_aload_n (pc := 53) 1 dX7_bid_53 rfl rfl ?_
        refine ym_iload_n (pc := 54) 3 dX7_bid_54 rfl rfl ?_
        obtain ⟨o55, f55, hf⟩ := Option.bind_eq_some_iff.mp hf
        obtain ⟨q55, e55, hf⟩ := Option.bind_eq_some_iff.mp hf
        refine ym_callV (pc := 55) (G2 := g_X7_bidderWith) (dep2 := 3) (As := [.int a2]) (st := []) (stk2 := [va_rf q55.1]) (r2 := (some (va_rf q55.1))) (h1 := q55.2) dX7_bid_55 (ok_X7_bidderWith e55) (sc_X7_bid_X7_bidderWith) wd_378 wd_380 wd_6 (ci := 7) (q0 := (RX7, TX7, 10)) rfl (by decide) rfl f55 rfl rfl (ym_st4 (Nat.le_of_ble_eq_true rfl)) rfl ?_
        refine ym_sub (lv' := [(5, va_rf q19.1), (0, va_rf a0), (2, .int a2), (3, .long a3)]) [0, 1, 3, 4] rfl ?_
        refine ym_astore (pc := 58) (lv' := [(6, va_rf q55.1), (5, va_rf q19.1), (0, va_rf a0), (2, .int a2), (3, .long a3)]) dX7_bid_58 (by decide) ⟨ym_c1 q19.1, trivial, trivial, trivial, trivial⟩ rfl ?_
        refine ym_aload (pc := 60) 0 dX7_bid_60 rfl ?_
        by_cases c62 : q55.1 = none
        · rw [if_pos c62] at hf
          refine ym_ifnonnull_y (pc := 62) (tgt := 74) dX7_bid_62 (by decide) c62 ?_
          refine ym_aload_n (pc := 65) 2 dX7_bid_65 rfl rfl ?_
          refine ym_iload_n (pc := 66) 3 dX7_bid_66 rfl rfl ?_
          obtain ⟨q67, e67, hf⟩ := Option.bind_eq_some_iff.mp hf
          refine ym_callS (pc := 67) (G2 := g_X7_whyNoBidder) (dep2 := 1) (As := [.int a2]) (st := [va_rf a0]) (stk2 := [.int q67.1, va_rf a0]) (r2 := (some (.int q67.1))) (h1 := q67.2) dX7_bid_67 (ok_X7_whyNoBidder e67) (sc_X7_bid_X7_whyNoBidder) wd_382 wd_383 rfl rfl (ym_st4 (Nat.le_of_ble_eq_true rfl)) rfl ?_
          obtain ⟨o70, f70, hf⟩ := Option.bind_eq_some_iff.mp hf
          obtain ⟨q70, e70, hf⟩ := Option.bind_eq_some_iff.mp hf
          refine ym_callV (pc := 70) (G2 := g_X7_refuse) (dep2 := 4) (As := [.int q67.1]) (st := []) (stk2 := [.long q70.1]) (r2 := (some (.long q70.1))) (h1 := q70.2) dX7_bid_70 (ok_X7_refuse e70) (sc_X7_bid_X7_refuse) wd_229 wd_231 wd_1 (ci := 7) (q0 := (RX7, TX7, 10)) rfl (by decide) rfl f70 rfl rfl (ym_st4 (Nat.le_of_ble_eq_true rfl)) rfl ?_
          cases hf
          exact ym_lret (pc := 73) dX7_bid_73 rfl
        · rw [if_neg c62] at hf
          refine ym_ifnonnull_n (pc := 62) (tgt := 74) dX7_bid_62 (by decide) c62 ?_
          refine ym_aload (pc := 74) 0 dX7_bid_74 rfl ?_
          obtain ⟨o76, f76, hf⟩ := Option.bind_eq_some_iff.mp hf
          obtain ⟨q76, e76, hf⟩ := Option.bind_eq_some_iff.mp hf
          refine ym_callV (pc := 76) (G2 := g_X0_isPaper) (dep2 := 1) (As := []) (st := []) (stk2 := [.int q76.1]) (r2 := (some (.int q76.1))) (h1 := q76.2) dX7_bid_76 (ok_X0_isPaper e76) (sc_X7_bid_X0_isPaper) wd_531 wd_532 wd_533 (ci := 0) (q0 := (RX0, TX0, 4)) rfl (by decide) rfl f76 rfl rfl (ym_st4 (Nat.le_of_ble_eq_true rfl)) rfl ?_
          by_cases c79 : q76.1 = 0
          · rw [if_pos c79] at hf
            refine ym_if_eq_y (pc := 79) (tgt := 88) dX7_bid_79 (by decide) c79 ?_
            refine ym_aload (pc := 88) 1 dX7_bid_88 rfl ?_
            obtain ⟨o90, f90, hf⟩ := Option.bind_eq_some_iff.mp hf
            obtain ⟨q90, e90, hf⟩ := Option.bind_eq_some_iff.mp hf
            refine ym_callV (pc := 90) (G2 := g_X4_isOpen) (dep2 := 3) (As := []) (st := []) (stk2 := [.int q90.1]) (r2 := (some (.int q90.1))) (h1 := q90.2) dX7_bid_90 (ok_X4_isOpen e90) (sc_X7_bid_X4_isOpen) wd_535 wd_536 wd_537 (ci := 4) (q0 := (RX4, TX4, 6)) rfl (by decide) rfl f90 rfl rfl (ym_st4 (Nat.le_of_ble_eq_true rfl)) rfl ?_
            by_cases c93 : q90.1 = 0
            · rw [if_pos c93] at hf
              refine ym_if_ne_y (pc := 93) (tgt := 106) dX7_bid_93 (by decide) c93 ?_
              refine ym_aload_n (pc := 96) 2 dX7_bid_96 rfl rfl ?_
              refine ym_aload (pc := 97) 1 dX7_bid_97 rfl ?_
              obtain ⟨o99, f99, hf⟩ := Option.bind_eq_some_iff.mp hf
              obtain ⟨q99, e99, hf⟩ := Option.bind_eq_some_iff.mp hf
              refine ym_callV (pc := 99) (G2 := g_X4_whyNotOpen) (dep2 := 4) (As := []) (st := [va_rf a0]) (stk2 := [.int q99.1, va_rf a0]) (r2 := (some (.int q99.1))) (h1 := q99.2) dX7_bid_99 (ok_X4_whyNotOpen e99) (sc_X7_bid_X4_whyNotOpen) wd_540 wd_541 wd_542 (ci := 4) (q0 := (RX4, TX4, 6)) rfl (by decide) rfl f99 rfl rfl (ym_st4 (Nat.le_of_ble_eq_true rfl)) rfl ?_
              obtain ⟨o102, f102, hf⟩ := Option.bind_eq_some_iff.mp hf
              obtain ⟨q102, e102, hf⟩ := Option.bind_eq_some_iff.mp hf
              refine ym_callV (pc := 102) (G2 := g_X7_refuse) (dep2 := 4) (As := [.int q99.1]) (st := []) (stk2 := [.long q102.1]) (r2 := (some (.long q102.1))) (h1 := q102.2) dX7_bid_102 (ok_X7_refuse e102) (sc_X7_bid_X7_refuse) wd_229 wd_231 wd_1 (ci := 7) (q0 := (RX7, TX7, 10)) rfl (by decide) rfl f102 rfl rfl (ym_st4 (Nat.le_of_ble_eq_true rfl)) rfl ?_
              cases hf
              exact ym_lret (pc := 105) dX7_bid_105 rfl
            · rw [if_neg c93] at hf
              refine ym_if_ne_n (pc := 93) (tgt := 106) dX7_bid_93 (by decide) c93 ?_
              refine ym_aload (pc := 106) 1 dX7_bid_106 rfl ?_
              obtain ⟨o108, f108, hf⟩ := Option.bind_eq_some_iff.mp hf
              obtain ⟨q108, e108, hf⟩ := Option.bind_eq_some_iff.mp hf
              refine ym_callV (pc := 108) (G2 := g_X4_wasOpened) (dep2 := 2) (As := []) (st := []) (stk2 := [.int q108.1]) (r2 := (some (.int q108.1))) (h1 := q108.2) dX7_bid_108 (ok_X4_wasOpened e108) (sc_X7_bid_X4_wasOpened) wd_548 wd_514 wd_515 (ci := 4) (q0 := (RX4, TX4, 6)) rfl (by decide) rfl f108 rfl rfl (ym_st4 (Nat.le_of_ble_eq_true rfl)) rfl ?_
              by_cases c111 : q108.1 = 0
              · rw [if_pos c111] at hf
                refine ym_if_eq_y (pc := 111) (tgt := 121) dX7_bid_111 (by decide) c111 ?_
                refine ym_aload (pc := 121) 1 dX7_bid_121 rfl ?_
                refine ym_iload_n (pc := 123) 3 dX7_bid_123 rfl rfl ?_
                obtain ⟨o124, f124, hf⟩ := Option.bind_eq_some_iff.mp hf
                obtain ⟨q124, e124, hf⟩ := Option.bind_eq_some_iff.mp hf
                refine ym_callV (pc := 124) (G2 := g_X4_hasBidderAlready) (dep2 := 4) (As := [.int a2]) (st := []) (stk2 := [.int q124.1]) (r2 := (some (.int q124.1))) (h1 := q124.2) dX7_bid_124 (ok_X4_hasBidderAlready e124) (sc_X7_bid_X4_hasBidderAlready) wd_549 wd_550 wd_551 (ci := 4) (q0 := (RX4, TX4, 6)) rfl (by decide) rfl f124 rfl rfl (ym_st4 (Nat.le_of_ble_eq_true rfl)) rfl ?_
                by_cases c127 : q124.1 = 0
                · rw [if_pos c127] at hf
                  refine ym_if_eq_y (pc := 127) (tgt := 137) dX7_bid_127 (by decide) c127 ?_
                  refine ym_lload_n (pc := 137) 4 dX7_bid_137 rfl rfl ?_
                  refine ym_aload_n (pc := 138) 2 dX7_bid_138 rfl rfl ?_
                  obtain ⟨v139, e139, hf⟩ := Option.bind_eq_some_iff.mp hf
                  refine ym_get (pc := 139) dX7_bid_139 rfl (by decide) iX7 (k := 4) (by decide) wd_190 (ym_gR_v e139) ?_
                  refine ym_aload (pc := 142) 1 dX7_bid_142 rfl ?_
                  obtain ⟨o144, f144, hf⟩ := Option.bind_eq_some_iff.mp hf
                  obtain ⟨q144, e144, hf⟩ := Option.bind_eq_some_iff.mp hf
                  refine ym_callV (pc := 144) (G2 := g_X1_askFor) (dep2 := 4) (As := [va_rf q19.1]) (st := [.long a3]) (stk2 := [.long q144.1, .long a3]) (r2 := (some (.long q144.1))) (h1 := q144.2) dX7_bid_144 (ok_X1_askFor e144) (sc_X7_bid_X1_askFor) wd_555 wd_556 wd_557 (ci := 1) (q0 := (RX1, TX1, 3)) rfl (by decide) rfl f144 rfl rfl (ym_st4 (Nat.le_of_ble_eq_true rfl)) rfl ?_
                  by_cases c147 : q144.1 ≤ a3
                  · rw [if_pos c147] at hf
                    refine ym_lcmp_ge_y (pc := 147) (tgt := 158) dX7_bid_147 dX7_bid_148 (by decide) c147 ?_
                    refine ym_aload_n (pc := 158) 2 dX7_bid_158 rfl rfl ?_
                    obtain ⟨v159, e159, hf⟩ := Option.bind_eq_some_iff.mp hf
                    refine ym_get (pc := 159) dX7_bid_159 rfl (by decide) iX7 (k := 4) (by decide) wd_190 (ym_gR_v e159) ?_
                    refine ym_aload (pc := 162) 0 dX7_bid_162 rfl ?_
                    refine ym_aload (pc := 164) 1 dX7_bid_164 rfl ?_
                    refine ym_lload_n (pc := 166) 4 dX7_bid_166 rfl rfl ?_
                    refine ym_aload_n (pc := 167) 2 dX7_bid_167 rfl rfl ?_
                    obtain ⟨v168, e168, hf⟩ := Option.bind_eq_some_iff.mp hf
                    refine ym_get (pc := 168) dX7_bid_168 rfl (by decide) iX7 (k := 6) (by decide) wd_192 (ym_gR_v e168) ?_
                    refine ym_aload_n (pc := 171) 2 dX7_bid_171 rfl rfl ?_
                    obtain ⟨o172, f172, hf⟩ := Option.bind_eq_some_iff.mp hf
                    obtain ⟨q172, e172, hf⟩ := Option.bind_eq_some_iff.mp hf
                    refine ym_callV (pc := 172) (G2 := g_X7_lotsMade) (dep2 := 2) (As := []) (st := [va_rf v168, .long a3, va_rf q19.1, va_rf q55.1, va_rf v159]) (stk2 := [.int q172.1, va_rf v168, .long a3, va_rf q19.1, va_rf q55.1, va_rf v159]) (r2 := (some (.int q172.1))) (h1 := q172.2) dX7_bid_172 (ok_X7_lotsMade e172) (sc_X7_bid_X7_lotsMade) wd_323 wd_325 wd_4 (ci := 7) (q0 := (RX7, TX7, 10)) rfl (by decide) rfl f172 rfl rfl (by simp [ym_c1, ym_cI, ym_cL]) rfl ?_
                    obtain ⟨o175, f175, hf⟩ := Option.bind_eq_some_iff.mp hf
                    obtain ⟨q175, e175, hf⟩ := Option.bind_eq_some_iff.mp hf
                    refine ym_callV (pc := 175) (G2 := g_X1_mayBid) (dep2 := 5) (As := [va_rf q55.1, va_rf q19.1, .long a3, va_rf v168, .int q172.1]) (st := []) (stk2 := [.int q175.1]) (r2 := (some (.int q175.1))) (h1 := q175.2) dX7_bid_175 (ok_X1_mayBid e175) (sc_X7_bid_X1_mayBid) wd_568 wd_569 wd_570 (ci := 1) (q0 := (RX1, TX1, 3)) rfl (by decide) rfl f175 rfl rfl (ym_st4 (Nat.le_of_ble_eq_true rfl)) rfl ?_
                    by_cases c178 : q175.1 = 0
                    · rw [if_pos c178] at hf
                      refine ym_if_ne_y (pc := 178) (tgt := 188) dX7_bid_178 (by decide) c178 ?_
                      refine ym_aload_n (pc := 181) 2 dX7_bid_181 rfl rfl ?_
                      refine ym_bipush (pc := 182) (v := 11) dX7_bid_182 (by decide) ?_
                      obtain ⟨o184, f184, hf⟩ := Option.bind_eq_some_iff.mp hf
                      obtain ⟨q184, e184, hf⟩ := Option.bind_eq_some_iff.mp hf
                      refine ym_callV (pc := 184) (G2 := g_X7_refuse) (dep2 := 4) (As := [.int 11]) (st := []) (stk2 := [.long q184.1]) (r2 := (some (.long q184.1))) (h1 := q184.2) dX7_bid_184 (ok_X7_refuse e184) (sc_X7_bid_X7_refuse) wd_229 wd_231 wd_1 (ci := 7) (q0 := (RX7, TX7, 10)) rfl (by decide) rfl f184 rfl rfl (ym_st4 (Nat.le_of_ble_eq_true rfl)) rfl ?_
                      cases hf
                      exact ym_lret (pc := 187) dX7_bid_187 rfl
                    · rw [if_neg c178] at hf
                      refine ym_if_ne_n (pc := 178) (tgt := 188) dX7_bid_178 (by decide) c178 ?_
                      refine ym_aload (pc := 188) 1 dX7_bid_188 rfl ?_
                      obtain ⟨v190, e190, hf⟩ := Option.bind_eq_some_iff.mp hf
                      refine ym_getN (pc := 190) dX7_bid_190 rfl (by decide) iX4 (k := 3) (by decide) wd_348 (ym_gR_v e190) ?_
                      obtain ⟨o193, f193, hf⟩ := Option.bind_eq_some_iff.mp hf
                      obtain ⟨q193, e193, hf⟩ := Option.bind_eq_some_iff.mp hf
                      refine ym_callV (pc := 193) (G2 := g_X5_rows) (dep2 := 2) (As := []) (st := []) (stk2 := [.int q193.1]) (r2 := (some (.int q193.1))) (h1 := q193.2) dX7_bid_193 (ok_X5_rows e193) (sc_X7_bid_X5_rows) wd_403 wd_395 wd_396 (ci := 5) (q0 := (RX5, TX5, 2)) rfl (by decide) rfl f193 rfl rfl (ym_st4 (Nat.le_of_ble_eq_true rfl)) rfl ?_
                      refine ym_sipush (pc := 196) (v := 299) dX7_bid_196 (by decide) ?_
                      by_cases c199 : q193.1 < 299
                      · rw [if_pos c199] at hf
                        refine ym_icmp_lt_y (pc := 199) (tgt := 209) dX7_bid_199 (by decide) c199 ?_
                        refine ym_aload_n (pc := 209) 2 dX7_bid_209 rfl rfl ?_
                        refine ym_dup (pc := 210) dX7_bid_210 (ym_c1 a0) ?_
                        obtain ⟨v211, e211, hf⟩ := Option.bind_eq_some_iff.mp hf
                        refine ym_get (pc := 211) dX7_bid_211 rfl (by decide) iX7 (k := 7) (by decide) wd_193 (ym_gI_v e211) ?_
                        refine ym_iconst (pc := 214) (v := 1) dX7_bid_214 (by decide) ?_
                        refine ym_iadd (pc := 215) dX7_bid_215 ?_
                        obtain ⟨h216, e216, hf⟩ := Option.bind_eq_some_iff.mp hf
                        refine ym_put (pc := 216) (h1 := h216) dX7_bid_216 rfl (by decide) iX7 tyX7 tyX7_ok nmX7 (k := 7) (by decide) wd_193 rfl (tyX7_ok 7 (by decide)) rfl rfl e216 ?_
                        refine ym_aload (pc := 219) 1 dX7_bid_219 rfl ?_
                        refine ym_iload_n (pc := 221) 3 dX7_bid_221 rfl rfl ?_
                        refine ym_lload_n (pc := 222) 4 dX7_bid_222 rfl rfl ?_
                        refine ym_aload_n (pc := 223) 2 dX7_bid_223 rfl rfl ?_
                        obtain ⟨v224, e224, hf⟩ := Option.bind_eq_some_iff.mp hf
                        refine ym_get (pc := 224) dX7_bid_224 rfl (by decide) iX7 (k := 7) (by decide) wd_193 (ym_gI_v e224) ?_
                        obtain ⟨o227, f227, hf⟩ := Option.bind_eq_some_iff.mp hf
                        obtain ⟨q227, e227, hf⟩ := Option.bind_eq_some_iff.mp hf
                        refine ym_callV (pc := 227) (G2 := g_X4_enterBid) (dep2 := 7) (As := [.int a2, .long a3, .int v224]) (st := []) (stk2 := []) (r2 := none) (h1 := q227.2) dX7_bid_227 (ok_X4_enterBid e227) (sc_X7_bid_X4_enterBid) wd_588 wd_589 wd_590 (ci := 4) (q0 := (RX4, TX4, 6)) rfl (by decide) rfl f227 rfl rfl (ym_st4 (Nat.le_of_ble_eq_true rfl)) rfl ?_
                        refine ym_aload_n (pc := 230) 2 dX7_bid_230 rfl rfl ?_
                        refine ym_aload (pc := 231) 1 dX7_bid_231 rfl ?_
                        obtain ⟨o233, f233, hf⟩ := Option.bind_eq_some_iff.mp hf
                        obtain ⟨q233, e233, hf⟩ := Option.bind_eq_some_iff.mp hf
                        refine ym_callV (pc := 233) (G2 := g_X7_askPapers) (dep2 := 7) (As := [va_rf q19.1]) (st := []) (stk2 := []) (r2 := none) (h1 := q233.2) dX7_bid_233 (ok_X7_askPapers e233) (sc_X7_bid_X7_askPapers) wd_460 wd_462 wd_8 (ci := 7) (q0 := (RX7, TX7, 10)) rfl (by decide) rfl f233 rfl rfl (ym_st4 (Nat.le_of_ble_eq_true rfl)) rfl ?_
                        refine ym_aload_n (pc := 236) 2 dX7_bid_236 rfl rfl ?_
                        obtain ⟨v237, e237, hf⟩ := Option.bind_eq_some_iff.mp hf
                        refine ym_get (pc := 237) dX7_bid_237 rfl (by decide) iX7 (k := 7) (by decide) wd_193 (ym_gI_v e237) ?_
                        refine ym_i2l (pc := 240) dX7_bid_240 ?_
                        cases hf
                        exact ym_lret (pc := 241) dX7_bid_241 rfl
                      · rw [if_neg c199] at hf
                        refine ym_icmp_lt_n (pc := 199) (tgt := 209) dX7_bid_199 (by decide) c199 ?_
                        refine ym_aload_n (pc := 202) 2 dX7_bid_202 rfl rfl ?_
                        refine ym_bipush (pc := 203) (v := 12) dX7_bid_203 (by decide) ?_
                        obtain ⟨o205, f205, hf⟩ := Option.bind_eq_some_iff.mp hf
                        obtain ⟨q205, e205, hf⟩ := Option.bind_eq_some_iff.mp hf
                        refine ym_callV (pc := 205) (G2 := g_X7_refuse) (dep2 := 4) (As := [.int 12]) (st := []) (stk2 := [.long q205.1]) (r2 := (some (.long q205.1))) (h1 := q205.2) dX7_bid_205 (ok_X7_refuse e205) (sc_X7_bid_X7_refuse) wd_229 wd_231 wd_1 (ci := 7) (q0 := (RX7, TX7, 10)) rfl (by decide) rfl f205 rfl rfl (ym_st4 (Nat.le_of_ble_eq_true rfl)) rfl ?_
                        cases hf
                        exact ym_lret (pc := 208) dX7_bid_208 rfl
                  · rw [if_neg c147] at hf
                    refine ym_lcmp_ge_n (pc := 147) (tgt := 158) dX7_bid_147 dX7_bid_148 (by decide) c147 ?_
                    refine ym_aload_n (pc := 151) 2 dX7_bid_151 rfl rfl ?_
                    refine ym_bipush (pc := 152) (v := 10) dX7_bid_152 (by decide) ?_
                    obtain ⟨o154, f154, hf⟩ := Option.bind_eq_some_iff.mp hf
                    obtain ⟨q154, e154, hf⟩ := Option.bind_eq_some_iff.mp hf
                    refine ym_callV (pc := 154) (G2 := g_X7_refuse) (dep2 := 4) (As := [.int 10]) (st := []) (stk2 := [.long q154.1]) (r2 := (some (.long q154.1))) (h1 := q154.2) dX7_bid_154 (ok_X7_refuse e154) (sc_X7_bid_X7_refuse) wd_229 wd_231 wd_1 (ci := 7) (q0 := (RX7, TX7, 10)) rfl (by decide) rfl f154 rfl rfl (ym_st4 (Nat.le_of_ble_eq_true rfl)) rfl ?_
                    cases hf
                    exact ym_lret (pc := 157) dX7_bid_157 rfl
                · rw [if_neg c127] at hf
                  refine ym_if_eq_n (pc := 127) (tgt := 137) dX7_bid_127 (by decide) c127 ?_
                  refine ym_aload_n (pc := 130) 2 dX7_bid_130 rfl rfl ?_
                  refine ym_bipush (pc := 131) (v := 13) dX7_bid_131 (by decide) ?_
                  obtain ⟨o133, f133, hf⟩ := Option.bind_eq_some_iff.mp hf
                  obtain ⟨q133, e133, hf⟩ := Option.bind_eq_some_iff.mp hf
                  refine ym_callV (pc := 133) (G2 := g_X7_refuse) (dep2 := 4) (As := [.int 13]) (st := []) (stk2 := [.long q133.1]) (r2 := (some (.long q133.1))) (h1 := q133.2) dX7_bid_133 (ok_X7_refuse e133) (sc_X7_bid_X7_refuse) wd_229 wd_231 wd_1 (ci := 7) (q0 := (RX7, TX7, 10)) rfl (by decide) rfl f133 rfl rfl (ym_st4 (Nat.le_of_ble_eq_true rfl)) rfl ?_
                  cases hf
                  exact ym_lret (pc := 136) dX7_bid_136 rfl
              · rw [if_neg c111] at hf
                refine ym_if_eq_n (pc := 111) (tgt := 121) dX7_bid_111 (by decide) c111 ?_
                refine ym_aload_n (pc := 114) 2 dX7_bid_114 rfl rfl ?_
                refine ym_bipush (pc := 115) (v := 8) dX7_bid_115 (by decide) ?_
                obtain ⟨o117, f117, hf⟩ := Option.bind_eq_some_iff.mp hf
                obtain ⟨q117, e117, hf⟩ := Option.bind_eq_some_iff.mp hf
                refine ym_callV (pc := 117) (G2 := g_X7_refuse) (dep2 := 4) (As := [.int 8]) (st := []) (stk2 := [.long q117.1]) (r2 := (some (.long q117.1))) (h1 := q117.2) dX7_bid_117 (ok_X7_refuse e117) (sc_X7_bid_X7_refuse) wd_229 wd_231 wd_1 (ci := 7) (q0 := (RX7, TX7, 10)) rfl (by decide) rfl f117 rfl rfl (ym_st4 (Nat.le_of_ble_eq_true rfl)) rfl ?_
                cases hf
                exact ym_lret (pc := 120) dX7_bid_120 rfl
          · rw [if_neg c79] at hf
            refine ym_if_eq_n (pc := 79) (tgt := 88) dX7_bid_79 (by decide) c79 ?_
            refine ym_aload_n (pc := 82) 2 dX7_bid_82 rfl rfl ?_
            refine ym_iconst (pc := 83) (v := 4) dX7_bid_83 (by decide) ?_
            obtain ⟨o84, f84, hf⟩ := Option.bind_eq_some_iff.mp hf
            obtain ⟨q84, e84, hf⟩ := Option.bind_eq_some_iff.mp hf
            refine ym_callV (pc := 84) (G2 := g_X7_refuse) (dep2 := 4) (As := [.int 4]) (st := []) (stk2 := [.long q84.1]) (r2 := (some (.long q84.1))) (h1 := q84.2) dX7_bid_84 (ok_X7_refuse e84) (sc_X7_bid_X7_refuse) wd_229 wd_231 wd_1 (ci := 7) (q0 := (RX7, TX7, 10)) rfl (by decide) rfl f84 rfl rfl (ym_st4 (Nat.le_of_ble_eq_true rfl)) rfl ?_
            cases hf
            exact ym_lret (pc := 87) dX7_bid_87 rfl
theorem dX7_isMoney_0 : decode cX7_isMoney 0 = .ok (.lload_n 0, 1) := by decide +kernel
theorem dX7_isMoney_1 : decode cX7_isMoney 1 = .ok (.lconst 0, 1) := by decide +kernel
theorem dX7_isMoney_2 : decode cX7_isMoney 2 = .ok (.lcmp, 1) := by decide +kernel
theorem dX7_isMoney_3 : decode cX7_isMoney 3 = .ok (.ifCond .lt 15, 3) := by decide +kernel
theorem dX7_isMoney_6 : decode cX7_isMoney 6 = .ok (.lload_n 0, 1) := by decide +kernel
theorem dX7_isMoney_7 : decode cX7_isMoney 7 = .ok (.ldc2_w 309, 3) := by decide +kernel
theorem dX7_isMoney_10 : decode cX7_isMoney 10 = .ok (.lcmp, 1) := by decide +kernel
theorem dX7_isMoney_11 : decode cX7_isMoney 11 = .ok (.ifCond .gt 7, 3) := by decide +kernel
theorem dX7_isMoney_14 : decode cX7_isMoney 14 = .ok (.iconst 1, 1) := by decide +kernel
theorem dX7_isMoney_15 : decode cX7_isMoney 15 = .ok (.goto 4, 3) := by decide +kernel
theorem dX7_isMoney_18 : decode cX7_isMoney 18 = .ok (.iconst 0, 1) := by decide +kernel
theorem dX7_isMoney_19 : decode cX7_isMoney 19 = .ok (.ireturn, 1) := by decide +kernel
def fn_X7_isMoney (N : Nat) (a0 : Int64) (h : ym_H) : Option (Int32 × ym_H) :=
  if a0 < 0 then
    some (0, h)
  else
    if 1000000000000 < a0 then
      some (0, h)
    else
      some (1, h)
set_option maxRecDepth 20000 in
set_option maxHeartbeats 4000000 in
theorem ok_X7_isMoney {D : ym_D} {b0 : Nat} {N : Nat} {a0 : Int64} {h h' : ym_H} {r : Int32} (hf : fn_X7_isMoney N a0 h = some (r, h')) : ym_M D b0 g_X7_isMoney 1 [.long a0] h (some (.int r)) h' := by
  unfold fn_X7_isMoney at hf
  refine ym_meth (lv := [(0, .long a0)]) (by decide) (by simp [lg_sl, ym_c1, ym_cI, ym_cL, g_X7_isMoney]) (by simp [lv_args, ym_c1, ym_cI, ym_cL]) ?_
  refine ym_lload_n (pc := 0) 0 dX7_isMoney_0 rfl rfl ?_
  refine ym_lconst (pc := 1) (v := 0) dX7_isMoney_1 (by decide) ?_
  by_cases c2 : a0 < 0
  · rw [if_pos c2] at hf
    refine ym_lcmp_lt_y (pc := 2) (tgt := 18) dX7_isMoney_2 dX7_isMoney_3 (by decide) c2 ?_
    refine ym_iconst (pc := 18) (v := 0) dX7_isMoney_18 (by decide) ?_
    cases hf
    exact ym_zret (pc := 19) dX7_isMoney_19 rfl rfl
  · rw [if_neg c2] at hf
    refine ym_lcmp_lt_n (pc := 2) (tgt := 18) dX7_isMoney_2 dX7_isMoney_3 (by decide) c2 ?_
    refine ym_lload_n (pc := 6) 0 dX7_isMoney_6 rfl rfl ?_
    refine ym_ldc2 (pc := 7) dX7_isMoney_7 wd_248 ?_
    by_cases c10 : 1000000000000 < a0
    · rw [if_pos c10] at hf
      refine ym_lcmp_gt_y (pc := 10) (tgt := 18) dX7_isMoney_10 dX7_isMoney_11 (by decide) c10 ?_
      refine ym_iconst (pc := 18) (v := 0) dX7_isMoney_18 (by decide) ?_
      cases hf
      exact ym_zret (pc := 19) dX7_isMoney_19 rfl rfl
    · rw [if_neg c10] at hf
      refine ym_lcmp_gt_n (pc := 10) (tgt := 18) dX7_isMoney_10 dX7_isMoney_11 (by decide) c10 ?_
      refine ym_iconst (pc := 14) (v := 1) dX7_isMoney_14 (by decide) ?_
      refine ym_goto (pc := 15) (tgt := 19) dX7_isMoney_15 (by decide) ?_
      cases hf
      exact ym_zret (pc := 19) dX7_isMoney_19 rfl rfl
