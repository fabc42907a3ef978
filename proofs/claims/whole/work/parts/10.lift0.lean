theorem dJ7_copyOf_59c91_0 : decode cJ7_copyOf_59c91 0 = .ok (.iload_n 1, 1) := by decide +kernel
theorem dJ7_copyOf_59c91_1 : decode cJ7_copyOf_59c91 1 = .ok (.aload_n 0, 1) := by decide +kernel
theorem dJ7_copyOf_59c91_2 : decode cJ7_copyOf_59c91 2 = .ok (.arraylength, 1) := by decide +kernel
theorem dJ7_copyOf_59c91_3 : decode cJ7_copyOf_59c91 3 = .ok (.if_icmp .ne 11, 3) := by decide +kernel
theorem dJ7_copyOf_59c91_6 : decode cJ7_copyOf_59c91 6 = .ok (.aload_n 0, 1) := by decide +kernel
theorem dJ7_copyOf_59c91_7 : decode cJ7_copyOf_59c91 7 = .ok (.invokevirtual 316, 3) := by decide +kernel
theorem dJ7_copyOf_59c91_10 : decode cJ7_copyOf_59c91 10 = .ok (.checkcast 317, 3) := by decide +kernel
theorem dJ7_copyOf_59c91_13 : decode cJ7_copyOf_59c91 13 = .ok (.areturn, 1) := by decide +kernel
theorem dJ7_copyOf_59c91_14 : decode cJ7_copyOf_59c91 14 = .ok (.iload_n 1, 1) := by decide +kernel
theorem dJ7_copyOf_59c91_15 : decode cJ7_copyOf_59c91 15 = .ok (.newarray .int, 2) := by decide +kernel
theorem dJ7_copyOf_59c91_17 : decode cJ7_copyOf_59c91 17 = .ok (.astore_n 2, 1) := by decide +kernel
theorem dJ7_copyOf_59c91_18 : decode cJ7_copyOf_59c91 18 = .ok (.aload_n 0, 1) := by decide +kernel
theorem dJ7_copyOf_59c91_19 : decode cJ7_copyOf_59c91 19 = .ok (.iconst 0, 1) := by decide +kernel
theorem dJ7_copyOf_59c91_20 : decode cJ7_copyOf_59c91 20 = .ok (.aload_n 2, 1) := by decide +kernel
theorem dJ7_copyOf_59c91_21 : decode cJ7_copyOf_59c91 21 = .ok (.iconst 0, 1) := by decide +kernel
theorem dJ7_copyOf_59c91_22 : decode cJ7_copyOf_59c91 22 = .ok (.aload_n 0, 1) := by decide +kernel
theorem dJ7_copyOf_59c91_23 : decode cJ7_copyOf_59c91 23 = .ok (.arraylength, 1) := by decide +kernel
theorem dJ7_copyOf_59c91_24 : decode cJ7_copyOf_59c91 24 = .ok (.iload_n 1, 1) := by decide +kernel
theorem dJ7_copyOf_59c91_25 : decode cJ7_copyOf_59c91 25 = .ok (.invokestatic 304, 3) := by decide +kernel
theorem dJ7_copyOf_59c91_28 : decode cJ7_copyOf_59c91 28 = .ok (.invokestatic 150, 3) := by decide +kernel
theorem dJ7_copyOf_59c91_31 : decode cJ7_copyOf_59c91 31 = .ok (.aload_n 2, 1) := by decide +kernel
theorem dJ7_copyOf_59c91_32 : decode cJ7_copyOf_59c91 32 = .ok (.areturn, 1) := by decide +kernel
def fn_J7_copyOf_59c91 (N : Nat) (a0 : Option Nat) (a1 : Int32) (h : ym_H) : Option (Option Nat × ym_H) :=
  Option.bind (ym_len h a0) fun v2 =>
  if a1 = v2 then
    none
  else
    Option.bind (ym_na h 0 (.int 0) a1) fun h15 =>
    Option.bind (ym_len h15 a0) fun v23 =>
    Option.bind (ym_cp h15 0 a0 0 (some h.1) 0 (if a1 < v23 then a1 else v23)) fun h28 =>
    some ((some h.1), h28)
set_option maxRecDepth 20000 in
set_option maxHeartbeats 4000000 in
theorem ok_J7_copyOf_59c91 {D : ym_D} {b0 : Nat} {N : Nat} {a0 : Option Nat} {a1 : Int32} {h h' : ym_H} {r : Option Nat} (hf : fn_J7_copyOf_59c91 N a0 a1 h = some (r, h')) : ym_M D b0 g_J7_copyOf_59c91 2 [va_rf a0, .int a1] h (some (va_rf r)) h' := by
  unfold fn_J7_copyOf_59c91 at hf
  refine ym_meth (lv := [(0, va_rf a0), (1, .int a1)]) (by decide) (by simp [lg_sl, ym_c1, ym_cI, ym_cL, g_J7_copyOf_59c91]) (by simp [lv_args, ym_c1, ym_cI, ym_cL]) ?_
  refine ym_iload_n (pc := 0) 1 dJ7_copyOf_59c91_0 rfl rfl ?_
  refine ym_aload_n (pc := 1) 0 dJ7_copyOf_59c91_1 rfl rfl ?_
  obtain ⟨v2, e2, hf⟩ := Option.bind_eq_some_iff.mp hf
  refine ym_alen (pc := 2) dJ7_copyOf_59c91_2 e2 ?_
  by_cases c3 : a1 = v2
  · rw [if_pos c3] at hf
    refine ym_icmp_ne_y (pc := 3) (tgt := 14) dJ7_copyOf_59c91_3 (by decide) c3 ?_
    refine ym_aload_n (pc := 6) 0 dJ7_copyOf_59c91_6 rfl rfl ?_
    cases hf
  · rw [if_neg c3] at hf
    refine ym_icmp_ne_n (pc := 3) (tgt := 14) dJ7_copyOf_59c91_3 (by decide) c3 ?_
    refine ym_iload_n (pc := 14) 1 dJ7_copyOf_59c91_14 rfl rfl ?_
    obtain ⟨h15, e15, hf⟩ := Option.bind_eq_some_iff.mp hf
    refine ym_newA (pc := 15) (h1 := h15) (ty := .int) (v := .int 0) dJ7_copyOf_59c91_15 rfl (t := 0) rfl (by decide) wd_123 (by decide) rfl e15 (fun _ _ => rfl) ?_
    refine ym_astore_n (pc := 17) (lv' := [(2, va_rf (some h.1)), (0, va_rf a0), (1, .int a1)]) dJ7_copyOf_59c91_17 rfl (by decide) ⟨trivial, rfl, trivial⟩ rfl ?_
    refine ym_aload_n (pc := 18) 1 dJ7_copyOf_59c91_18 rfl rfl ?_
    refine ym_iconst (pc := 19) (v := 0) dJ7_copyOf_59c91_19 (by decide) ?_
    refine ym_aload_n (pc := 20) 0 dJ7_copyOf_59c91_20 rfl rfl ?_
    refine ym_iconst (pc := 21) (v := 0) dJ7_copyOf_59c91_21 (by decide) ?_
    refine ym_aload_n (pc := 22) 1 dJ7_copyOf_59c91_22 rfl rfl ?_
    obtain ⟨v23, e23, hf⟩ := Option.bind_eq_some_iff.mp hf
    refine ym_alen (pc := 23) dJ7_copyOf_59c91_23 e23 ?_
    refine ym_iload_n (pc := 24) 2 dJ7_copyOf_59c91_24 rfl rfl ?_
    refine ym_mmin (pc := 25) dJ7_copyOf_59c91_25 wd_295 wd_296 wd_79 wd_297 (by decide) (ym_st4 (Nat.le_of_ble_eq_true rfl)) ?_
    obtain ⟨h28, e28, hf⟩ := Option.bind_eq_some_iff.mp hf
    refine ym_copy (pc := 28) (t := 0) dJ7_copyOf_59c91_28 rfl (Or.inl ⟨rfl, rfl⟩) wd_298 wd_300 wd_299 wd_86 (by decide) (ym_st4 (Nat.le_of_ble_eq_true rfl)) e28 ?_
    refine ym_aload_n (pc := 31) 0 dJ7_copyOf_59c91_31 rfl rfl ?_
    cases hf
    exact ym_aret (pc := 32) dJ7_copyOf_59c91_32 rfl (Or.inr ⟨_, rfl⟩)
theorem dJ7_copyOf_c38d5_0 : decode cJ7_copyOf_c38d5 0 = .ok (.iload_n 1, 1) := by decide +kernel
theorem dJ7_copyOf_c38d5_1 : decode cJ7_copyOf_c38d5 1 = .ok (.aload_n 0, 1) := by decide +kernel
theorem dJ7_copyOf_c38d5_2 : decode cJ7_copyOf_c38d5 2 = .ok (.arraylength, 1) := by decide +kernel
theorem dJ7_copyOf_c38d5_3 : decode cJ7_copyOf_c38d5 3 = .ok (.if_icmp .ne 11, 3) := by decide +kernel
theorem dJ7_copyOf_c38d5_6 : decode cJ7_copyOf_c38d5 6 = .ok (.aload_n 0, 1) := by decide +kernel
theorem dJ7_copyOf_c38d5_7 : decode cJ7_copyOf_c38d5 7 = .ok (.invokevirtual 319, 3) := by decide +kernel
theorem dJ7_copyOf_c38d5_10 : decode cJ7_copyOf_c38d5 10 = .ok (.checkcast 320, 3) := by decide +kernel
theorem dJ7_copyOf_c38d5_13 : decode cJ7_copyOf_c38d5 13 = .ok (.areturn, 1) := by decide +kernel
theorem dJ7_copyOf_c38d5_14 : decode cJ7_copyOf_c38d5 14 = .ok (.iload_n 1, 1) := by decide +kernel
theorem dJ7_copyOf_c38d5_15 : decode cJ7_copyOf_c38d5 15 = .ok (.newarray .long, 2) := by decide +kernel
theorem dJ7_copyOf_c38d5_17 : decode cJ7_copyOf_c38d5 17 = .ok (.astore_n 2, 1) := by decide +kernel
theorem dJ7_copyOf_c38d5_18 : decode cJ7_copyOf_c38d5 18 = .ok (.aload_n 0, 1) := by decide +kernel
theorem dJ7_copyOf_c38d5_19 : decode cJ7_copyOf_c38d5 19 = .ok (.iconst 0, 1) := by decide +kernel
theorem dJ7_copyOf_c38d5_20 : decode cJ7_copyOf_c38d5 20 = .ok (.aload_n 2, 1) := by decide +kernel
theorem dJ7_copyOf_c38d5_21 : decode cJ7_copyOf_c38d5 21 = .ok (.iconst 0, 1) := by decide +kernel
theorem dJ7_copyOf_c38d5_22 : decode cJ7_copyOf_c38d5 22 = .ok (.aload_n 0, 1) := by decide +kernel
theorem dJ7_copyOf_c38d5_23 : decode cJ7_copyOf_c38d5 23 = .ok (.arraylength, 1) := by decide +kernel
theorem dJ7_copyOf_c38d5_24 : decode cJ7_copyOf_c38d5 24 = .ok (.iload_n 1, 1) := by decide +kernel
theorem dJ7_copyOf_c38d5_25 : decode cJ7_copyOf_c38d5 25 = .ok (.invokestatic 304, 3) := by decide +kernel
theorem dJ7_copyOf_c38d5_28 : decode cJ7_copyOf_c38d5 28 = .ok (.invokestatic 150, 3) := by decide +kernel
theorem dJ7_copyOf_c38d5_31 : decode cJ7_copyOf_c38d5 31 = .ok (.aload_n 2, 1) := by decide +kernel
theorem dJ7_copyOf_c38d5_32 : decode cJ7_copyOf_c38d5 32 = .ok (.areturn, 1) := by decide +kernel
def fn_J7_copyOf_c38d5 (N : Nat) (a0 : Option Nat) (a1 : Int32) (h : ym_H) : Option (Option Nat × ym_H) :=
  Option.bind (ym_len h a0) fun v2 =>
  if a1 = v2 then
    none
  else
    Option.bind (ym_na h 1 (.long 0) a1) fun h15 =>
    Option.bind (ym_len h15 a0) fun v23 =>
    Option.bind (ym_cp h15 1 a0 0 (some h.1) 0 (if a1 < v23 then a1 else v23)) fun h28 =>
    some ((some h.1), h28)
set_option maxRecDepth 20000 in
set_option maxHeartbeats 4000000 in
theorem ok_J7_copyOf_c38d5 {D : ym_D} {b0 : Nat} {N : Nat} {a0 : Option Nat} {a1 : Int32} {h h' : ym_H} {r : Option Nat} (hf : fn_J7_copyOf_c38d5 N a0 a1 h = some (r, h')) : ym_M D b0 g_J7_copyOf_c38d5 2 [va_rf a0, .int a1] h (some (va_rf r)) h' := by
  unfold fn_J7_copyOf_c38d5 at hf
  refine ym_meth (lv := [(0, va_rf a0), (1, .int a1)]) (by decide) (by simp [lg_sl, ym_c1, ym_cI, ym_cL, g_J7_copyOf_c38d5]) (by simp [lv_args, ym_c1, ym_cI, ym_cL]) ?_
  refine ym_iload_n (pc := 0) 1 dJ7_copyOf_c38d5_0 rfl rfl ?_
  refine ym_aload_n (pc := 1) 0 dJ7_copyOf_c38d5_1 rfl rfl ?_
  obtain ⟨v2, e2, hf⟩ := Option.bind_eq_some_iff.mp hf
  refine ym_alen (pc := 2) dJ7_copyOf_c38d5_2 e2 ?_
  by_cases c3 : a1 = v2
  · rw [if_pos c3] at hf
    refine ym_icmp_ne_y (pc := 3) (tgt := 14) dJ7_copyOf_c38d5_3 (by decide) c3 ?_
    refine ym_aload_n (pc := 6) 0 dJ7_copyOf_c38d5_6 rfl rfl ?_
    cases hf
  · rw [if_neg c3] at hf
    refine ym_icmp_ne_n (pc := 3) (tgt := 14) dJ7_copyOf_c38d5_3 (by decide) c3 ?_
    refine ym_iload_n (pc := 14) 1 dJ7_copyOf_c38d5_14 rfl rfl ?_
    obtain ⟨h15, e15, hf⟩ := Option.bind_eq_some_iff.mp hf
    refine ym_newA (pc := 15) (h1 := h15) (ty := .long) (v := .long 0) dJ7_copyOf_c38d5_15 rfl (t := 1) rfl (by decide) wd_124 (by decide) rfl e15 (fun _ _ => rfl) ?_
    refine ym_astore_n (pc := 17) (lv' := [(2, va_rf (some h.1)), (0, va_rf a0), (1, .int a1)]) dJ7_copyOf_c38d5_17 rfl (by decide) ⟨trivial, rfl, trivial⟩ rfl ?_
    refine ym_aload_n (pc := 18) 1 dJ7_copyOf_c38d5_18 rfl rfl ?_
    refine ym_iconst (pc := 19) (v := 0) dJ7_copyOf_c38d5_19 (by decide) ?_
    refine ym_aload_n (pc := 20) 0 dJ7_copyOf_c38d5_20 rfl rfl ?_
    refine ym_iconst (pc := 21) (v := 0) dJ7_copyOf_c38d5_21 (by decide) ?_
    refine ym_aload_n (pc := 22) 1 dJ7_copyOf_c38d5_22 rfl rfl ?_
    obtain ⟨v23, e23, hf⟩ := Option.bind_eq_some_iff.mp hf
    refine ym_alen (pc := 23) dJ7_copyOf_c38d5_23 e23 ?_
    refine ym_iload_n (pc := 24) 2 dJ7_copyOf_c38d5_24 rfl rfl ?_
    refine ym_mmin (pc := 25) dJ7_copyOf_c38d5_25 wd_295 wd_296 wd_79 wd_297 (by decide) (ym_st4 (Nat.le_of_ble_eq_true rfl)) ?_
    obtain ⟨h28, e28, hf⟩ := Option.bind_eq_some_iff.mp hf
    refine ym_copy (pc := 28) (t := 1) dJ7_copyOf_c38d5_28 rfl (Or.inr (Or.inl ⟨rfl, rfl⟩)) wd_298 wd_300 wd_299 wd_86 (by decide) (ym_st4 (Nat.le_of_ble_eq_true rfl)) e28 ?_
    refine ym_aload_n (pc := 31) 0 dJ7_copyOf_c38d5_31 rfl rfl ?_
    cases hf
    exact ym_aret (pc := 32) dJ7_copyOf_c38d5_32 rfl (Or.inr ⟨_, rfl⟩)
theorem dX2_get_0 : decode cX2_get 0 = .ok (.iload_n 1, 1) := by decide +kernel
theorem dX2_get_1 : decode cX2_get 1 = .ok (.ifCond .lt 12, 3) := by decide +kernel
theorem dX2_get_4 : decode cX2_get 4 = .ok (.iload_n 1, 1) := by decide +kernel
theorem dX2_get_5 : decode cX2_get 5 = .ok (.aload_n 0, 1) := by decide +kernel
theorem dX2_get_6 : decode cX2_get 6 = .ok (.getfield 21, 3) := by decide +kernel
theorem dX2_get_9 : decode cX2_get 9 = .ok (.arraylength, 1) := by decide +kernel
theorem dX2_get_10 : decode cX2_get 10 = .ok (.if_icmp .lt 7, 3) := by decide +kernel
theorem dX2_get_13 : decode cX2_get 13 = .ok (.lconst 0, 1) := by decide +kernel
theorem dX2_get_14 : decode cX2_get 14 = .ok (.goto 9, 3) := by decide +kernel
theorem dX2_get_17 : decode cX2_get 17 = .ok (.aload_n 0, 1) := by decide +kernel
theorem dX2_get_18 : decode cX2_get 18 = .ok (.getfield 21, 3) := by decide +kernel
theorem dX2_get_21 : decode cX2_get 21 = .ok (.iload_n 1, 1) := by decide +kernel
theorem dX2_get_22 : decode cX2_get 22 = .ok (.laload, 1) := by decide +kernel
theorem dX2_get_23 : decode cX2_get 23 = .ok (.lreturn, 1) := by decide +kernel
def fn_X2_get (N : Nat) (a0 : Option Nat) (a1 : Int32) (h : ym_H) : Option (Int64 × ym_H) :=
  if a1 < 0 then
    some (0, h)
  else
    Option.bind (ym_gR h a0 2 1) fun v6 =>
    Option.bind (ym_len h v6) fun v9 =>
    if a1 < v9 then
      Option.bind (ym_gR h a0 2 1) fun v18 =>
      Option.bind (ym_ldL h v18 a1) fun v22 =>
      some (v22, h)
    else
      some (0, h)
set_option maxRecDepth 20000 in
set_option maxHeartbeats 4000000 in
theorem ok_X2_get {D : ym_D} {b0 : Nat} {N : Nat} {a0 : Option Nat} {a1 : Int32} {h h' : ym_H} {r : Int64} (hf : fn_X2_get N a0 a1 h = some (r, h')) : ym_M D b0 g_X2_get 1 [va_rf a0, .int a1] h (some (.long r)) h' := by
  unfold fn_X2_get at hf
  refine ym_meth (lv := [(0, va_rf a0), (1, .int a1)]) (by decide) (by simp [lg_sl, ym_c1, ym_cI, ym_cL, g_X2_get]) (by simp [lv_args, ym_c1, ym_cI, ym_cL]) ?_
  refine ym_iload_n (pc := 0) 1 dX2_get_0 rfl rfl ?_
  by_cases c1 : a1 < 0
  · rw [if_pos c1] at hf
    refine ym_if_lt_y (pc := 1) (tgt := 13) dX2_get_1 (by decide) c1 ?_
    refine ym_lconst (pc := 13) (v := 0) dX2_get_13 (by decide) ?_
    refine ym_goto (pc := 14) (tgt := 23) dX2_get_14 (by decide) ?_
    cases hf
    exact ym_lret (pc := 23) dX2_get_23 rfl
  · rw [if_neg c1] at hf
    refine ym_if_lt_n (pc := 1) (tgt := 13) dX2_get_1 (by decide) c1 ?_
    refine ym_iload_n (pc := 4) 1 dX2_get_4 rfl rfl ?_
    refine ym_aload_n (pc := 5) 0 dX2_get_5 rfl rfl ?_
    obtain ⟨v6, e6, hf⟩ := Option.bind_eq_some_iff.mp hf
    refine ym_get (pc := 6) dX2_get_6 rfl (by decide) iX2 (k := 1) (by decide) wd_135 (ym_gR_v e6) ?_
    obtain ⟨v9, e9, hf⟩ := Option.bind_eq_some_iff.mp hf
    refine ym_alen (pc := 9) dX2_get_9 e9 ?_
    by_cases c10 : a1 < v9
    · rw [if_pos c10] at hf
      refine ym_icmp_lt_y (pc := 10) (tgt := 17) dX2_get_10 (by decide) c10 ?_
      refine ym_aload_n (pc := 17) 0 dX2_get_17 rfl rfl ?_
      obtain ⟨v18, e18, hf⟩ := Option.bind_eq_some_iff.mp hf
      refine ym_get (pc := 18) dX2_get_18 rfl (by decide) iX2 (k := 1) (by decide) wd_135 (ym_gR_v e18) ?_
      refine ym_iload_n (pc := 21) 1 dX2_get_21 rfl rfl ?_
      obtain ⟨v22, e22, hf⟩ := Option.bind_eq_some_iff.mp hf
      refine ym_lald (pc := 22) dX2_get_22 rfl (ym_ldL_v e22) ?_
      cases hf
      exact ym_lret (pc := 23) dX2_get_23 rfl
    · rw [if_neg c10] at hf
      refine ym_icmp_lt_n (pc := 10) (tgt := 17) dX2_get_10 (by decide) c10 ?_
      refine ym_lconst (pc := 13) (v := 0) dX2_get_13 (by decide) ?_
      refine ym_goto (pc := 14) (tgt := 23) dX2_get_14 (by decide) ?_
      cases hf
      exact ym_lret (pc := 23) dX2_get_23 rfl
theorem dX3_note_0 : decode cX3_note 0 = .ok (.aload_n 0, 1) := by decide +kernel
theorem dX3_note_1 : decode cX3_note 1 = .ok (.getfield 28, 3) := by decide +kernel
theorem dX3_note_4 : decode cX3_note 4 = .ok (.ifCond .eq 12, 3) := by decide +kernel
theorem dX3_note_7 : decode cX3_note 7 = .ok (.aload_n 0, 1) := by decide +kernel
theorem dX3_note_8 : decode cX3_note 8 = .ok (.getfield 32, 3) := by decide +kernel
theorem dX3_note_11 : decode cX3_note 11 = .ok (.ldc 35, 2) := by decide +kernel
theorem dX3_note_13 : decode cX3_note 13 = .ok (.if_icmp .lt 4, 3) := by decide +kernel
theorem dX3_note_16 : decode cX3_note 16 = .ok (.return_, 1) := by decide +kernel
theorem dX3_note_17 : decode cX3_note 17 = .ok (.aload_n 0, 1) := by decide +kernel
theorem dX3_note_18 : decode cX3_note 18 = .ok (.getfield 32, 3) := by decide +kernel
theorem dX3_note_21 : decode cX3_note 21 = .ok (.aload_n 0, 1) := by decide +kernel
theorem dX3_note_22 : decode cX3_note 22 = .ok (.getfield 11, 3) := by decide +kernel
theorem dX3_note_25 : decode cX3_note 25 = .ok (.arraylength, 1) := by decide +kernel
theorem dX3_note_26 : decode cX3_note 26 = .ok (.if_icmp .lt 69, 3) := by decide +kernel
theorem dX3_note_29 : decode cX3_note 29 = .ok (.iconst 2, 1) := by decide +kernel
theorem dX3_note_30 : decode cX3_note 30 = .ok (.aload_n 0, 1) := by decide +kernel
theorem dX3_note_31 : decode cX3_note 31 = .ok (.getfield 32, 3) := by decide +kernel
theorem dX3_note_34 : decode cX3_note 34 = .ok (.imul, 1) := by decide +kernel
theorem dX3_note_35 : decode cX3_note 35 = .ok (.anewarray 9, 3) := by decide +kernel
theorem dX3_note_38 : decode cX3_note 38 = .ok (.astore 5, 2) := by decide +kernel
theorem dX3_note_40 : decode cX3_note 40 = .ok (.aload_n 0, 1) := by decide +kernel
theorem dX3_note_41 : decode cX3_note 41 = .ok (.getfield 11, 3) := by decide +kernel
theorem dX3_note_44 : decode cX3_note 44 = .ok (.iconst 0, 1) := by decide +kernel
theorem dX3_note_45 : decode cX3_note 45 = .ok (.aload 5, 2) := by decide +kernel
theorem dX3_note_47 : decode cX3_note 47 = .ok (.iconst 0, 1) := by decide +kernel
theorem dX3_note_48 : decode cX3_note 48 = .ok (.aload_n 0, 1) := by decide +kernel
theorem dX3_note_49 : decode cX3_note 49 = .ok (.getfield 32, 3) := by decide +kernel
theorem dX3_note_52 : decode cX3_note 52 = .ok (.invokestatic 36, 3) := by decide +kernel
theorem dX3_note_55 : decode cX3_note 55 = .ok (.aload_n 0, 1) := by decide +kernel
theorem dX3_note_56 : decode cX3_note 56 = .ok (.aload 5, 2) := by decide +kernel
theorem dX3_note_58 : decode cX3_note 58 = .ok (.putfield 11, 3) := by decide +kernel
theorem dX3_note_61 : decode cX3_note 61 = .ok (.aload_n 0, 1) := by decide +kernel
theorem dX3_note_62 : decode cX3_note 62 = .ok (.aload_n 0, 1) := by decide +kernel
theorem dX3_note_63 : decode cX3_note 63 = .ok (.getfield 17, 3) := by decide +kernel
theorem dX3_note_66 : decode cX3_note 66 = .ok (.iconst 2, 1) := by decide +kernel
theorem dX3_note_67 : decode cX3_note 67 = .ok (.aload_n 0, 1) := by decide +kernel
theorem dX3_note_68 : decode cX3_note 68 = .ok (.getfield 32, 3) := by decide +kernel
theorem dX3_note_71 : decode cX3_note 71 = .ok (.imul, 1) := by decide +kernel
theorem dX3_note_72 : decode cX3_note 72 = .ok (.invokestatic 42, 3) := by decide +kernel
theorem dX3_note_75 : decode cX3_note 75 = .ok (.putfield 17, 3) := by decide +kernel
theorem dX3_note_78 : decode cX3_note 78 = .ok (.aload_n 0, 1) := by decide +kernel
theorem dX3_note_79 : decode cX3_note 79 = .ok (.aload_n 0, 1) := by decide +kernel
theorem dX3_note_80 : decode cX3_note 80 = .ok (.getfield 21, 3) := by decide +kernel
theorem dX3_note_83 : decode cX3_note 83 = .ok (.iconst 2, 1) := by decide +kernel
theorem dX3_note_84 : decode cX3_note 84 = .ok (.aload_n 0, 1) := by decide +kernel
theorem dX3_note_85 : decode cX3_note 85 = .ok (.getfield 32, 3) := by decide +kernel
theorem dX3_note_88 : decode cX3_note 88 = .ok (.imul, 1) := by decide +kernel
theorem dX3_note_89 : decode cX3_note 89 = .ok (.invokestatic 48, 3) := by decide +kernel
theorem dX3_note_92 : decode cX3_note 92 = .ok (.putfield 21, 3) := by decide +kernel
theorem dX3_note_95 : decode cX3_note 95 = .ok (.aload_n 0, 1) := by decide +kernel
theorem dX3_note_96 : decode cX3_note 96 = .ok (.getfield 11, 3) := by decide +kernel
theorem dX3_note_99 : decode cX3_note 99 = .ok (.aload_n 0, 1) := by decide +kernel
theorem dX3_note_100 : decode cX3_note 100 = .ok (.getfield 32, 3) := by decide +kernel
theorem dX3_note_103 : decode cX3_note 103 = .ok (.aload_n 1, 1) := by decide +kernel
theorem dX3_note_104 : decode cX3_note 104 = .ok (.aastore, 1) := by decide +kernel
theorem dX3_note_105 : decode cX3_note 105 = .ok (.aload_n 0, 1) := by decide +kernel
theorem dX3_note_106 : decode cX3_note 106 = .ok (.getfield 17, 3) := by decide +kernel
theorem dX3_note_109 : decode cX3_note 109 = .ok (.aload_n 0, 1) := by decide +kernel
theorem dX3_note_110 : decode cX3_note 110 = .ok (.getfield 32, 3) := by decide +kernel
theorem dX3_note_113 : decode cX3_note 113 = .ok (.iload_n 2, 1) := by decide +kernel
theorem dX3_note_114 : decode cX3_note 114 = .ok (.iastore, 1) := by decide +kernel
theorem dX3_note_115 : decode cX3_note 115 = .ok (.aload_n 0, 1) := by decide +kernel
theorem dX3_note_116 : decode cX3_note 116 = .ok (.getfield 21, 3) := by decide +kernel
theorem dX3_note_119 : decode cX3_note 119 = .ok (.aload_n 0, 1) := by decide +kernel
theorem dX3_note_120 : decode cX3_note 120 = .ok (.getfield 32, 3) := by decide +kernel
theorem dX3_note_123 : decode cX3_note 123 = .ok (.lload_n 3, 1) := by decide +kernel
theorem dX3_note_124 : decode cX3_note 124 = .ok (.lastore, 1) := by decide +kernel
theorem dX3_note_125 : decode cX3_note 125 = .ok (.aload_n 0, 1) := by decide +kernel
theorem dX3_note_126 : decode cX3_note 126 = .ok (.dup, 1) := by decide +kernel
theorem dX3_note_127 : decode cX3_note 127 = .ok (.getfield 32, 3) := by decide +kernel
theorem dX3_note_130 : decode cX3_note 130 = .ok (.iconst 1, 1) := by decide +kernel
theorem dX3_note_131 : decode cX3_note 131 = .ok (.iadd, 1) := by decide +kernel
theorem dX3_note_132 : decode cX3_note 132 = .ok (.putfield 32, 3) := by decide +kernel
theorem dX3_note_135 : decode cX3_note 135 = .ok (.return_, 1) := by decide +kernel
def bl_X3_note_95 (N : Nat) (w0 : Option Nat) (w1 : Option Nat) (w2 : Int32) (w3 : Int64) (h : ym_H) : Option (Unit × ym_H) :=
  Option.bind (ym_gR h w0 3 0) fun v96 =>
  Option.bind (ym_gI h w0 3 3) fun v100 =>
  Option.bind (ym_ob h w1 2) fun o104 =>
  Option.bind (ym_as h v96 3 v100 (va_rf w1)) fun h104 =>
  Option.bind (ym_gR h104 w0 3 1) fun v106 =>
  Option.bind (ym_gI h104 w0 3 3) fun v110 =>
  Option.bind (ym_as h104 v106 0 v110 (.int w2)) fun h114 =>
  Option.bind (ym_gR h114 w0 3 2) fun v116 =>
  Option.bind (ym_gI h114 w0 3 3) fun v120 =>
  Option.bind (ym_as h114 v116 1 v120 (.long w3)) fun h124 =>
  Option.bind (ym_gI h124 w0 3 3) fun v127 =>
  Option.bind (ym_pf h124 w0 3 3 (.int (v127 + 1))) fun h132 =>
  some ((), h132)
set_option maxRecDepth 20000 in
set_option maxHeartbeats 4000000 in
theorem ob_X3_note_95 {D : ym_D} {b0 : Nat} {N : Nat} {w0 : Option Nat} {w1 : Option Nat} {w2 : Int32} {w3 : Int64} {h h' : ym_H} {r : Unit} (hf : bl_X3_note_95 N w0 w1 w2 w3 h = some (r, h')) : ym_Y D b0 g_X3_note 3 95 [(0, va_rf w0), (1, va_rf w1), (2, .int w2), (3, .long w3)] [] h none h' := by
  unfold bl_X3_note_95 at hf
  refine ym_aload_n (pc := 95) 0 dX3_note_95 rfl rfl ?_
  obtain ⟨v96, e96, hf⟩ := Option.bind_eq_some_iff.mp hf
  refine ym_get (pc := 96) dX3_note_96 rfl (by decide) iX3 (k := 0) (by decide) wd_104 (ym_gR_v e96) ?_
  refine ym_aload_n (pc := 99) 0 dX3_note_99 rfl rfl ?_
  obtain ⟨v100, e100, hf⟩ := Option.bind_eq_some_iff.mp hf
  refine ym_get (pc := 100) dX3_note_100 rfl (by decide) iX3 (k := 3) (by decide) wd_107 (ym_gI_v e100) ?_
  refine ym_aload_n (pc := 103) 1 dX3_note_103 rfl rfl ?_
  obtain ⟨o104, f104, hf⟩ := Option.bind_eq_some_iff.mp hf
  obtain ⟨h104, e104, hf⟩ := Option.bind_eq_some_iff.mp hf
  refine ym_aast (pc := 104) (q0 := (RX2, TX2, 2)) dX3_note_104 rfl (ci := 2) rfl (by decide) (Or.inr ⟨_, f104⟩) e104 ?_
  refine ym_aload_n (pc := 105) 0 dX3_note_105 rfl rfl ?_
  obtain ⟨v106, e106, hf⟩ := Option.bind_eq_some_iff.mp hf
  refine ym_get (pc := 106) dX3_note_106 rfl (by decide) iX3 (k := 1) (by decide) wd_105 (ym_gR_v e106) ?_
  refine ym_aload_n (pc := 109) 0 dX3_note_109 rfl rfl ?_
  obtain ⟨v110, e110, hf⟩ := Option.bind_eq_some_iff.mp hf
  refine ym_get (pc := 110) dX3_note_110 rfl (by decide) iX3 (k := 3) (by decide) wd_107 (ym_gI_v e110) ?_
  refine ym_iload_n (pc := 113) 2 dX3_note_113 rfl rfl ?_
  obtain ⟨h114, e114, hf⟩ := Option.bind_eq_some_iff.mp hf
  refine ym_iast (pc := 114) dX3_note_114 rfl e114 ?_
  refine ym_aload_n (pc := 115) 0 dX3_note_115 rfl rfl ?_
  obtain ⟨v116, e116, hf⟩ := Option.bind_eq_some_iff.mp hf
  refine ym_get (pc := 116) dX3_note_116 rfl (by decide) iX3 (k := 2) (by decide) wd_106 (ym_gR_v e116) ?_
  refine ym_aload_n (pc := 119) 0 dX3_note_119 rfl rfl ?_
  obtain ⟨v120, e120, hf⟩ := Option.bind_eq_some_iff.mp hf
  refine ym_get (pc := 120) dX3_note_120 rfl (by decide) iX3 (k := 3) (by decide) wd_107 (ym_gI_v e120) ?_
  refine ym_lload_n (pc := 123) 3 dX3_note_123 rfl rfl ?_
  obtain ⟨h124, e124, hf⟩ := Option.bind_eq_some_iff.mp hf
  refine ym_last (pc := 124) dX3_note_124 rfl e124 ?_
  refine ym_aload_n (pc := 125) 0 dX3_note_125 rfl rfl ?_
  refine ym_dup (pc := 126) dX3_note_126 (ym_c1 w0) ?_
  obtain ⟨v127, e127, hf⟩ := Option.bind_eq_some_iff.mp hf
  refine ym_get (pc := 127) dX3_note_127 rfl (by decide) iX3 (k := 3) (by decide) wd_107 (ym_gI_v e127) ?_
  refine ym_iconst (pc := 130) (v := 1) dX3_note_130 (by decide) ?_
  refine ym_iadd (pc := 131) dX3_note_131 ?_
  obtain ⟨h132, e132, hf⟩ := Option.bind_eq_some_iff.mp hf
  refine ym_put (pc := 132) (h1 := h132) dX3_note_132 rfl (by decide) iX3 tyX3 tyX3_ok nmX3 (k := 3) (by decide) wd_107 rfl (tyX3_ok 3 (by decide)) rfl rfl e132 ?_
  cases hf
  exact ym_vret (pc := 135) dX3_note_135 rfl
theorem sc_X3_note_J7_copyOf_59c91 : ym_site g_X3_note g_J7_copyOf_59c91 3 2 2 := ⟨by decide, by decide, wd_309, wd_85, by decide +kernel⟩
theorem sc_X3_note_J7_copyOf_c38d5 : ym_site g_X3_note g_J7_copyOf_c38d5 3 2 2 := ⟨by decide, by decide, wd_287, wd_85, by decide +kernel⟩
def fn_X3_note (N : Nat) (a0 : Option Nat) (a1 : Option Nat) (a2 : Int32) (a3 : Int64) (h : ym_H) : Option (Unit × ym_H) :=
  Option.bind (ym_gI h a0 3 5) fun v1 =>
  if v1 = 0 then
    some ((), h)
  else
    Option.bind (ym_gI h a0 3 3) fun v8 =>
    if v8 < 65536 then
      Option.bind (ym_gI h a0 3 3) fun v18 =>
      Option.bind (ym_gR h a0 3 0) fun v22 =>
      Option.bind (ym_len h v22) fun v25 =>
      if v18 < v25 then
        bl_X3_note_95 N a0 a1 a2 a3 h
      else
        Option.bind (ym_gI h a0 3 3) fun v31 =>
        Option.bind (ym_na h 3 .null (2 * v31)) fun h35 =>
        Option.bind (ym_gR h35 a0 3 0) fun v41 =>
        Option.bind (ym_gI h35 a0 3 3) fun v49 =>
        Option.bind (ym_cp h35 3 v41 0 (some h.1) 0 v49) fun h52 =>
        Option.bind (ym_pf h52 a0 3 0 (va_rf (some h.1))) fun h58 =>
        Option.bind (ym_gR h58 a0 3 1) fun v63 =>
        Option.bind (ym_gI h58 a0 3 3) fun v68 =>
        Option.bind (fn_J7_copyOf_59c91 N v63 (2 * v68) h58) fun q72 =>
        Option.bind (ym_pf q72.2 a0 3 1 (va_rf q72.1)) fun h75 =>
        Option.bind (ym_gR h75 a0 3 2) fun v80 =>
        Option.bind (ym_gI h75 a0 3 3) fun v85 =>
        Option.bind (fn_J7_copyOf_c38d5 N v80 (2 * v85) h75) fun q89 =>
        Option.bind (ym_pf q89.2 a0 3 2 (va_rf q89.1)) fun h92 =>
        bl_X3_note_95 N a0 a1 a2 a3 h92
    else
      some ((), h)
set_option maxRecDepth 20000 in
set_option maxHeartbeats 4000000 in
theorem ok_X3_note {D : ym_D} {b0 : Nat} {N : Nat} {a0 : Option Nat} {a1 : Option Nat} {a2 : Int32} {a3 : Int64} {h h' : ym_H} {r : Unit} (hf : fn_X3_note N a0 a1 a2 a3 h = some (r, h')) : ym_M D b0 g_X3_note 3 [va_rf a0, va_rf a1, .int a2, .long a3] h none h' := by
  unfold fn_X3_note at hf
  refine ym_meth (lv := [(0, va_rf a0), (1, va_rf a1), (2, .int a2), (3, .long a3)]) (by decide) (by simp [lg_sl, ym_c1, ym_cI, ym_cL, g_X3_note]) (by simp [lv_args, ym_c1, ym_cI, ym_cL]) ?_
  refine ym_aload_n (pc := 0) 0 dX3_note_0 rfl rfl ?_
  obtain ⟨v1, e1, hf⟩ := Option.bind_eq_some_iff.mp hf
  refine ym_get (pc := 1) dX3_note_1 rfl (by decide) iX3 (k := 5) (by decide) wd_109 (ym_gI_v e1) ?_
  by_cases c4 : v1 = 0
  · rw [if_pos c4] at hf
    refine ym_if_eq_y (pc := 4) (tgt := 16) dX3_note_4 (by decide) c4 ?_
    cases hf
    exact ym_vret (pc := 16) dX3_note_16 rfl
  · rw [if_neg c4] at hf
    refine ym_if_eq_n (pc := 4) (tgt := 16) dX3_note_4 (by decide) c4 ?_
    refine ym_aload_n (pc := 7) 0 dX3_note_7 rfl rfl ?_
    obtain ⟨v8, e8, hf⟩ := Option.bind_eq_some_iff.mp hf
    refine ym_get (pc := 8) dX3_note_8 rfl (by decide) iX3 (k := 3) (by decide) wd_107 (ym_gI_v e8) ?_
    refine ym_ldc (pc := 11) dX3_note_11 wd_305 ?_
    by_cases c13 : v8 < 65536
    · rw [if_pos c13] at hf
      refine ym_icmp_lt_y (pc := 13) (tgt := 17) dX3_note_13 (by decide) c13 ?_
      refine ym_aload_n (pc := 17) 0 dX3_note_17 rfl rfl ?_
      obtain ⟨v18, e18, hf⟩ := Option.bind_eq_some_iff.mp hf
      refine ym_get (pc := 18) dX3_note_18 rfl (by decide) iX3 (k := 3) (by decide) wd_107 (ym_gI_v e18) ?_
      refine ym_aload_n (pc := 21) 0 dX3_note_21 rfl rfl ?_
      obtain ⟨v22, e22, hf⟩ := Option.bind_eq_some_iff.mp hf
      refine ym_get (pc := 22) dX3_note_22 rfl (by decide) iX3 (k := 0) (by decide) wd_104 (ym_gR_v e22) ?_
      obtain ⟨v25, e25, hf⟩ := Option.bind_eq_some_iff.mp hf
      refine ym_alen (pc := 25) dX3_note_25 e25 ?_
      by_cases c26 : v18 < v25
      · rw [if_pos c26] at hf
        refine ym_icmp_lt_y (pc := 26) (tgt := 95) dX3_note_26 (by decide) c26 ?_
        exact ym_sub [0, 1, 2, 3] rfl (ob_X3_note_95 hf)
      · rw [if_neg c26] at hf
        refine ym_icmp_lt_n (pc := 26) (tgt := 95) dX3_note_26 (by decide) c26 ?_
        refine ym_iconst (pc := 29) (v := 2) dX3_note_29 (by decide) ?_
        refine ym_aload_n (pc := 30) 0 dX3_note_30 rfl rfl ?_
        obtain ⟨v31, e31, hf⟩ := Option.bind_eq_some_iff.mp hf
        refine ym_get (pc := 31) dX3_note_31 rfl (by decide) iX3 (k := 3) (by decide) wd_107 (ym_gI_v e31) ?_
        refine ym_imul (pc := 34) dX3_note_34 ?_
        obtain ⟨h35, e35, hf⟩ := Option.bind_eq_some_iff.mp hf
        refine ym_anew (pc := 35) (h1 := h35) dX3_note_35 (t := 3) rfl (by decide) wd_102 wd_103 e35 ?_
        refine ym_astore (pc := 38) (lv' := [(5, va_rf (some h.1)), (0, va_rf a0), (1, va_rf a1), (2, .int a2), (3, .long a3)]) dX3_note_38 (by decide) ⟨trivial, trivial, trivial, trivial, trivial⟩ rfl ?_
        refine ym_aload_n (pc := 40) 1 dX3_note_40 rfl rfl ?_
        obtain ⟨v41, e41, hf⟩ := Option.bind_eq_some_iff.mp hf
        refine ym_get (pc := 41) dX3_note_41 rfl (by decide) iX3 (k := 0) (by decide) wd_104 (ym_gR_v e41) ?_
        refine ym_iconst (pc := 44) (v := 0) dX3_note_44 (by decide) ?_
        refine ym_aload (pc := 45) 0 dX3_note_45 rfl ?_
        refine ym_iconst (pc := 47) (v := 0) dX3_note_47 (by decide) ?_
        refine ym_aload_n (pc := 48) 1 dX3_note_48 rfl rfl ?_
        obtain ⟨v49, e49, hf⟩ := Option.bind_eq_some_iff.mp hf
        refine ym_get (pc := 49) dX3_note_49 rfl (by decide) iX3 (k := 3) (by decide) wd_107 (ym_gI_v e49) ?_
        obtain ⟨h52, e52, hf⟩ := Option.bind_eq_some_iff.mp hf
        refine ym_copy (pc := 52) (t := 3) dX3_note_52 rfl (Or.inr (Or.inr ⟨rfl, rfl⟩)) wd_306 wd_300 wd_299 wd_86 (by decide) (ym_st4 (Nat.le_of_ble_eq_true rfl)) e52 ?_
        refine ym_aload_n (pc := 55) 1 dX3_note_55 rfl rfl ?_
        refine ym_aload (pc := 56) 0 dX3_note_56 rfl ?_
        obtain ⟨h58, e58, hf⟩ := Option.bind_eq_some_iff.mp hf
        refine ym_put (pc := 58) (h1 := h58) dX3_note_58 rfl (by decide) iX3 tyX3 tyX3_ok nmX3 (k := 0) (by decide) wd_104 rfl (tyX3_ok 0 (by decide)) (ym_nrA _ _) (ym_fiA _ _) e58 ?_
        refine ym_aload_n (pc := 61) 1 dX3_note_61 rfl rfl ?_
        refine ym_aload_n (pc := 62) 1 dX3_note_62 rfl rfl ?_
        obtain ⟨v63, e63, hf⟩ := Option.bind_eq_some_iff.mp hf
        refine ym_get (pc := 63) dX3_note_63 rfl (by decide) iX3 (k := 1) (by decide) wd_105 (ym_gR_v e63) ?_
        refine ym_iconst (pc := 66) (v := 2) dX3_note_66 (by decide) ?_
        refine ym_aload_n (pc := 67) 1 dX3_note_67 rfl rfl ?_
        obtain ⟨v68, e68, hf⟩ := Option.bind_eq_some_iff.mp hf
        refine ym_get (pc := 68) dX3_note_68 rfl (by decide) iX3 (k := 3) (by decide) wd_107 (ym_gI_v e68) ?_
        refine ym_imul (pc := 71) dX3_note_71 ?_
        obtain ⟨q72, e72, hf⟩ := Option.bind_eq_some_iff.mp hf
        refine ym_callS (pc := 72) (G2 := g_J7_copyOf_59c91) (dep2 := 2) (As := [va_rf v63, .int (2 * v68)]) (st := [va_rf a0]) (stk2 := [va_rf q72.1, va_rf a0]) (r2 := (some (va_rf q72.1))) (h1 := q72.2) dX3_note_72 (ok_J7_copyOf_59c91 e72) (sc_X3_note_J7_copyOf_59c91) wd_307 wd_308 rfl rfl (ym_st4 (Nat.le_of_ble_eq_true rfl)) rfl ?_
        obtain ⟨h75, e75, hf⟩ := Option.bind_eq_some_iff.mp hf
        refine ym_put (pc := 75) (h1 := h75) dX3_note_75 rfl (by decide) iX3 tyX3 tyX3_ok nmX3 (k := 1) (by decide) wd_105 rfl (tyX3_ok 1 (by decide)) (ym_nrA _ _) (ym_fiA _ _) e75 ?_
        refine ym_aload_n (pc := 78) 1 dX3_note_78 rfl rfl ?_
        refine ym_aload_n (pc := 79) 1 dX3_note_79 rfl rfl ?_
        obtain ⟨v80, e80, hf⟩ := Option.bind_eq_some_iff.mp hf
        refine ym_get (pc := 80) dX3_note_80 rfl (by decide) iX3 (k := 2) (by decide) wd_106 (ym_gR_v e80) ?_
        refine ym_iconst (pc := 83) (v := 2) dX3_note_83 (by decide) ?_
        refine ym_aload_n (pc := 84) 1 dX3_note_84 rfl rfl ?_
        obtain ⟨v85, e85, hf⟩ := Option.bind_eq_some_iff.mp hf
        refine ym_get (pc := 85) dX3_note_85 rfl (by decide) iX3 (k := 3) (by decide) wd_107 (ym_gI_v e85) ?_
        refine ym_imul (pc := 88) dX3_note_88 ?_
        obtain ⟨q89, e89, hf⟩ := Option.bind_eq_some_iff.mp hf
        refine ym_callS (pc := 89) (G2 := g_J7_copyOf_c38d5) (dep2 := 2) (As := [va_rf v80, .int (2 * v85)]) (st := [va_rf a0]) (stk2 := [va_rf q89.1, va_rf a0]) (r2 := (some (va_rf q89.1))) (h1 := q89.2) dX3_note_89 (ok_J7_copyOf_c38d5 e89) (sc_X3_note_J7_copyOf_c38d5) wd_315 wd_286 rfl rfl (ym_st4 (Nat.le_of_ble_eq_true rfl)) rfl ?_
        obtain ⟨h92, e92, hf⟩ := Option.bind_eq_some_iff.mp hf
        refine ym_put (pc := 92) (h1 := h92) dX3_note_92 rfl (by decide) iX3 tyX3 tyX3_ok nmX3 (k := 2) (by decide) wd_106 rfl (tyX3_ok 2 (by decide)) (ym_nrA _ _) (ym_fiA _ _) e92 ?_
        exact ym_sub [1, 2, 3, 4] rfl (ob_X3_note_95 hf)
    · rw [if_neg c13] at hf
      refine ym_icmp_lt_n (pc := 13) (tgt := 17) dX3_note_13 (by decide) c13 ?_
      cases hf
      exact ym_vret (pc := 16) dX3_note_16 rfl
theorem dX2_put_0 : decode cX2_put 0 = .ok (.iload_n 1, 1) := by decide +kernel
theorem dX2_put_1 : decode cX2_put 1 = .ok (.ifCond .lt 10, 3) := by decide +kernel
theorem dX2_put_4 : decode cX2_put 4 = .ok (.iload_n 1, 1) := by decide +kernel
theorem dX2_put_5 : decode cX2_put 5 = .ok (.sipush 4096, 3) := by decide +kernel
theorem dX2_put_8 : decode cX2_put 8 = .ok (.if_icmp .lt 4, 3) := by decide +kernel
theorem dX2_put_11 : decode cX2_put 11 = .ok (.return_, 1) := by decide +kernel
theorem dX2_put_12 : decode cX2_put 12 = .ok (.iload_n 1, 1) := by decide +kernel
theorem dX2_put_13 : decode cX2_put 13 = .ok (.aload_n 0, 1) := by decide +kernel
theorem dX2_put_14 : decode cX2_put 14 = .ok (.getfield 21, 3) := by decide +kernel
theorem dX2_put_17 : decode cX2_put 17 = .ok (.arraylength, 1) := by decide +kernel
theorem dX2_put_18 : decode cX2_put 18 = .ok (.if_icmp .lt 27, 3) := by decide +kernel
theorem dX2_put_21 : decode cX2_put 21 = .ok (.aload_n 0, 1) := by decide +kernel
theorem dX2_put_22 : decode cX2_put 22 = .ok (.aload_n 0, 1) := by decide +kernel
theorem dX2_put_23 : decode cX2_put 23 = .ok (.getfield 21, 3) := by decide +kernel
theorem dX2_put_26 : decode cX2_put 26 = .ok (.iload_n 1, 1) := by decide +kernel
theorem dX2_put_27 : decode cX2_put 27 = .ok (.iconst 1, 1) := by decide +kernel
theorem dX2_put_28 : decode cX2_put 28 = .ok (.iadd, 1) := by decide +kernel
theorem dX2_put_29 : decode cX2_put 29 = .ok (.iconst 2, 1) := by decide +kernel
theorem dX2_put_30 : decode cX2_put 30 = .ok (.aload_n 0, 1) := by decide +kernel
theorem dX2_put_31 : decode cX2_put 31 = .ok (.getfield 21, 3) := by decide +kernel
theorem dX2_put_34 : decode cX2_put 34 = .ok (.arraylength, 1) := by decide +kernel
theorem dX2_put_35 : decode cX2_put 35 = .ok (.imul, 1) := by decide +kernel
theorem dX2_put_36 : decode cX2_put 36 = .ok (.invokestatic 15, 3) := by decide +kernel
theorem dX2_put_39 : decode cX2_put 39 = .ok (.invokestatic 25, 3) := by decide +kernel
theorem dX2_put_42 : decode cX2_put 42 = .ok (.putfield 21, 3) := by decide +kernel
theorem dX2_put_45 : decode cX2_put 45 = .ok (.aload_n 0, 1) := by decide +kernel
theorem dX2_put_46 : decode cX2_put 46 = .ok (.getfield 9, 3) := by decide +kernel
theorem dX2_put_49 : decode cX2_put 49 = .ok (.aload_n 0, 1) := by decide +kernel
theorem dX2_put_50 : decode cX2_put 50 = .ok (.iload_n 1, 1) := by decide +kernel
theorem dX2_put_51 : decode cX2_put 51 = .ok (.aload_n 0, 1) := by decide +kernel
theorem dX2_put_52 : decode cX2_put 52 = .ok (.getfield 21, 3) := by decide +kernel
theorem dX2_put_55 : decode cX2_put 55 = .ok (.iload_n 1, 1) := by decide +kernel
theorem dX2_put_56 : decode cX2_put 56 = .ok (.laload, 1) := by decide +kernel
theorem dX2_put_57 : decode cX2_put 57 = .ok (.invokevirtual 31, 3) := by decide +kernel
theorem dX2_put_60 : decode cX2_put 60 = .ok (.aload_n 0, 1) := by decide +kernel
theorem dX2_put_61 : decode cX2_put 61 = .ok (.getfield 21, 3) := by decide +kernel
theorem dX2_put_64 : decode cX2_put 64 = .ok (.iload_n 1, 1) := by decide +kernel
theorem dX2_put_65 : decode cX2_put 65 = .ok (.lload_n 2, 1) := by decide +kernel
theorem dX2_put_66 : decode cX2_put 66 = .ok (.lastore, 1) := by decide +kernel
theorem dX2_put_67 : decode cX2_put 67 = .ok (.return_, 1) := by decide +kernel
theorem sc_X2_put_X3_note : ym_site g_X2_put g_X3_note 4 3 3 := ⟨by decide, by decide, wd_304, wd_77, by decide +kernel⟩
def bl_X2_put_45 (N : Nat) (w0 : Option Nat) (w1 : Int32) (w2 : Int64) (h : ym_H) : Option (Unit × ym_H) :=
  Option.bind (ym_gR h w0 2 0) fun v46 =>
  Option.bind (ym_gR h w0 2 1) fun v52 =>
  Option.bind (ym_ldL h v52 w1) fun v56 =>
  Option.bind (ym_ob h v46 3) fun o57 =>
  Option.bind (fn_X3_note N v46 w0 w1 v56 h) fun q57 =>
  Option.bind (ym_gR q57.2 w0 2 1) fun v61 =>
  Option.bind (ym_as q57.2 v61 1 w1 (.long w2)) fun h66 =>
  some ((), h66)
set_option maxRecDepth 20000 in
set_option maxHeartbeats 4000000 in
theorem ob_X2_put_45 {D : ym_D} {b0 : Nat} {N : Nat} {w0 : Option Nat} {w1 : Int32} {w2 : Int64} {h h' : ym_H} {r : Unit} (hf : bl_X2_put_45 N w0 w1 w2 h = some (r, h')) : ym_Y D b0 g_X2_put 4 45 [(0, va_rf w0), (1, .int w1), (2, .long w2)] [] h none h' := by
  unfold bl_X2_put_45 at hf
  refine ym_aload_n (pc := 45) 0 dX2_put_45 rfl rfl ?_
  obtain ⟨v46, e46, hf⟩ := Option.bind_eq_some_iff.mp hf
  refine ym_get (pc := 46) dX2_put_46 rfl (by decide) iX2 (k := 0) (by decide) wd_134 (ym_gR_v e46) ?_
  refine ym_aload_n (pc := 49) 0 dX2_put_49 rfl rfl ?_
  refine ym_iload_n (pc := 50) 1 dX2_put_50 rfl rfl ?_
  refine ym_aload_n (pc := 51) 0 dX2_put_51 rfl rfl ?_
  obtain ⟨v52, e52, hf⟩ := Option.bind_eq_some_iff.mp hf
  refine ym_get (pc := 52) dX2_put_52 rfl (by decide) iX2 (k := 1) (by decide) wd_135 (ym_gR_v e52) ?_
  refine ym_iload_n (pc := 55) 1 dX2_put_55 rfl rfl ?_
  obtain ⟨v56, e56, hf⟩ := Option.bind_eq_some_iff.mp hf
  refine ym_lald (pc := 56) dX2_put_56 rfl (ym_ldL_v e56) ?_
  obtain ⟨o57, f57, hf⟩ := Option.bind_eq_some_iff.mp hf
  obtain ⟨q57, e57, hf⟩ := Option.bind_eq_some_iff.mp hf
  refine ym_callV (pc := 57) (G2 := g_X3_note) (dep2 := 3) (As := [va_rf w0, .int w1, .long v56]) (st := []) (stk2 := []) (r2 := none) (h1 := q57.2) dX2_put_57 (ok_X3_note e57) (sc_X2_put_X3_note) wd_301 wd_302 wd_303 (ci := 3) (q0 := (RX3, TX3, 6)) rfl (by decide) rfl f57 rfl rfl (ym_st4 (Nat.le_of_ble_eq_true rfl)) rfl ?_
  refine ym_aload_n (pc := 60) 0 dX2_put_60 rfl rfl ?_
  obtain ⟨v61, e61, hf⟩ := Option.bind_eq_some_iff.mp hf
  refine ym_get (pc := 61) dX2_put_61 rfl (by decide) iX2 (k := 1) (by decide) wd_135 (ym_gR_v e61) ?_
  refine ym_iload_n (pc := 64) 1 dX2_put_64 rfl rfl ?_
  refine ym_lload_n (pc := 65) 2 dX2_put_65 rfl rfl ?_
  obtain ⟨h66, e66, hf⟩ := Option.bind_eq_some_iff.mp hf
  refine ym_last (pc := 66) dX2_put_66 rfl e66 ?_
  cases hf
  exact ym_vret (pc := 67) dX2_put_67 rfl
theorem sc_X2_put_J7_copyOf_c38d5 : ym_site g_X2_put g_J7_copyOf_c38d5 4 2 2 := ⟨by decide, by decide, wd_287, wd_85, by decide +kernel⟩
def fn_X2_put (N : Nat) (a0 : Option Nat) (a1 : Int32) (a2 : Int64) (h : ym_H) : Option (Unit × ym_H) :=
  if a1 < 0 then
    some ((), h)
  else
    if a1 < 4096 then
      Option.bind (ym_gR h a0 2 1) fun v14 =>
      Option.bind (ym_len h v14) fun v17 =>
      if a1 < v17 then
        bl_X2_put_45 N a0 a1 a2 h
      else
        Option.bind (ym_gR h a0 2 1) fun v23 =>
        Option.bind (ym_gR h a0 2 1) fun v31 =>
        Option.bind (ym_len h v31) fun v34 =>
        Option.bind (fn_J7_copyOf_c38d5 N v23 (if (a1 + 1) < (2 * v34) then (2 * v34) else (a1 + 1)) h) fun q39 =>
        Option.bind (ym_pf q39.2 a0 2 1 (va_rf q39.1)) fun h42 =>
        bl_X2_put_45 N a0 a1 a2 h42
    else
      some ((), h)
set_option maxRecDepth 20000 in
set_option maxHeartbeats 4000000 in
theorem ok_X2_put {D : ym_D} {b0 : Nat} {N : Nat} {a0 : Option Nat} {a1 : Int32} {a2 : Int64} {h h' : ym_H} {r : Unit} (hf : fn_X2_put N a0 a1 a2 h = some (r, h')) : ym_M D b0 g_X2_put 4 [va_rf a0, .int a1, .long a2] h none h' := by
  unfold fn_X2_put at hf
  refine ym_meth (lv := [(0, va_rf a0), (1, .int a1), (2, .long a2)]) (by decide) (by simp [lg_sl, ym_c1, ym_cI, ym_cL, g_X2_put]) (by simp [lv_args, ym_c1, ym_cI, ym_cL]) ?_
  refine ym_iload_n (pc := 0) 1 dX2_put_0 rfl rfl ?_
  by_cases c1 : a1 < 0
  · rw [if_pos c1] at hf
    refine ym_if_lt_y (pc := 1) (tgt := 11) dX2_put_1 (by decide) c1 ?_
    cases hf
    exact ym_vret (pc := 11) dX2_put_11 rfl
  · rw [if_neg c1] at hf
    refine ym_if_lt_n (pc := 1) (tgt := 11) dX2_put_1 (by decide) c1 ?_
    refine ym_iload_n (pc := 4) 1 dX2_put_4 rfl rfl ?_
    refine ym_sipush (pc := 5) (v := 4096) dX2_put_5 (by decide) ?_
    by_cases c8 : a1 < 4096
    · rw [if_pos c8] at hf
      refine ym_icmp_lt_y (pc := 8) (tgt := 12) dX2_put_8 (by decide) c8 ?_
      refine ym_iload_n (pc := 12) 1 dX2_put_12 rfl rfl ?_
      refine ym_aload_n (pc := 13) 0 dX2_put_13 rfl rfl ?_
      obtain ⟨v14, e14, hf⟩ := Option.bind_eq_some_iff.mp hf
      refine ym_get (pc := 14) dX2_put_14 rfl (by decide) iX2 (k := 1) (by decide) wd_135 (ym_gR_v e14) ?_
      obtain ⟨v17, e17, hf⟩ := Option.bind_eq_some_iff.mp hf
      refine ym_alen (pc := 17) dX2_put_17 e17 ?_
      by_cases c18 : a1 < v17
      · rw [if_pos c18] at hf
        refine ym_icmp_lt_y (pc := 18) (tgt := 45) dX2_put_18 (by decide) c18 ?_
        exact ym_sub [0, 1, 2] rfl (ob_X2_put_45 hf)
      · rw [if_neg c18] at hf
        refine ym_icmp_lt_n (pc := 18) (tgt := 45) dX2_put_18 (by decide) c18 ?_
        refine ym_aload_n (pc := 21) 0 dX2_put_21 rfl rfl ?_
        refine ym_aload_n (pc := 22) 0 dX2_put_22 rfl rfl ?_
        obtain ⟨v23, e23, hf⟩ := Option.bind_eq_some_iff.mp hf
        refine ym_get (pc := 23) dX2_put_23 rfl (by decide) iX2 (k := 1) (by decide) wd_135 (ym_gR_v e23) ?_
        refine ym_iload_n (pc := 26) 1 dX2_put_26 rfl rfl ?_
        refine ym_iconst (pc := 27) (v := 1) dX2_put_27 (by decide) ?_
        refine ym_iadd (pc := 28) dX2_put_28 ?_
        refine ym_iconst (pc := 29) (v := 2) dX2_put_29 (by decide) ?_
        refine ym_aload_n (pc := 30) 0 dX2_put_30 rfl rfl ?_
        obtain ⟨v31, e31, hf⟩ := Option.bind_eq_some_iff.mp hf
        refine ym_get (pc := 31) dX2_put_31 rfl (by decide) iX2 (k := 1) (by decide) wd_135 (ym_gR_v e31) ?_
        obtain ⟨v34, e34, hf⟩ := Option.bind_eq_some_iff.mp hf
        refine ym_alen (pc := 34) dX2_put_34 e34 ?_
        refine ym_imul (pc := 35) dX2_put_35 ?_
        refine ym_mmax (pc := 36) dX2_put_36 wd_131 wd_132 wd_79 wd_133 (by decide) (ym_st4 (Nat.le_of_ble_eq_true rfl)) ?_
        obtain ⟨q39, e39, hf⟩ := Option.bind_eq_some_iff.mp hf
        refine ym_callS (pc := 39) (G2 := g_J7_copyOf_c38d5) (dep2 := 2) (As := [va_rf v23, .int (if (a1 + 1) < (2 * v34) then (2 * v34) else (a1 + 1))]) (st := [va_rf a0]) (stk2 := [va_rf q39.1, va_rf a0]) (r2 := (some (va_rf q39.1))) (h1 := q39.2) dX2_put_39 (ok_J7_copyOf_c38d5 e39) (sc_X2_put_J7_copyOf_c38d5) wd_285 wd_286 rfl rfl (ym_st4 (Nat.le_of_ble_eq_true rfl)) rfl ?_
        obtain ⟨h42, e42, hf⟩ := Option.bind_eq_some_iff.mp hf
        refine ym_put (pc := 42) (h1 := h42) dX2_put_42 rfl (by decide) iX2 tyX2 tyX2_ok nmX2 (k := 1) (by decide) wd_135 rfl (tyX2_ok 1 (by decide)) (ym_nrA _ _) (ym_fiA _ _) e42 ?_
        exact ym_sub [0, 1, 2] rfl (ob_X2_put_45 hf)
    · rw [if_neg c8] at hf
      refine ym_icmp_lt_n (pc := 8) (tgt := 12) dX2_put_8 (by decide) c8 ?_
      cases hf
      exact ym_vret (pc := 11) dX2_put_11 rfl
theorem dX0_add_0 : decode cX0_add 0 = .ok (.aload_n 0, 1) := by decide +kernel
theorem dX0_add_1 : decode cX0_add 1 = .ok (.getfield 27, 3) := by decide +kernel
theorem dX0_add_4 : decode cX0_add 4 = .ok (.iconst 0, 1) := by decide +kernel
theorem dX0_add_5 : decode cX0_add 5 = .ok (.aload_n 0, 1) := by decide +kernel
theorem dX0_add_6 : decode cX0_add 6 = .ok (.getfield 27, 3) := by decide +kernel
theorem dX0_add_9 : decode cX0_add 9 = .ok (.iconst 0, 1) := by decide +kernel
theorem dX0_add_10 : decode cX0_add 10 = .ok (.invokevirtual 31, 3) := by decide +kernel
theorem dX0_add_13 : decode cX0_add 13 = .ok (.lload_n 1, 1) := by decide +kernel
theorem dX0_add_14 : decode cX0_add 14 = .ok (.ladd, 1) := by decide +kernel
theorem dX0_add_15 : decode cX0_add 15 = .ok (.invokevirtual 35, 3) := by decide +kernel
theorem dX0_add_18 : decode cX0_add 18 = .ok (.return_, 1) := by decide +kernel
theorem sc_X0_add_X2_get : ym_site g_X0_add g_X2_get 5 1 1 := ⟨by decide, by decide, wd_256, wd_78, by decide +kernel⟩
theorem sc_X0_add_X2_put : ym_site g_X0_add g_X2_put 5 4 2 := ⟨by decide, by decide, wd_284, wd_78, by decide +kernel⟩
def fn_X0_add (N : Nat) (a0 : Option Nat) (a1 : Int64) (h : ym_H) : Option (Unit × ym_H) :=
  Option.bind (ym_gR h a0 0 3) fun v1 =>
  Option.bind (ym_gR h a0 0 3) fun v6 =>
  Option.bind (ym_ob h v6 2) fun o10 =>
  Option.bind (fn_X2_get N v6 0 h) fun q10 =>
  Option.bind (ym_ob q10.2 v1 2) fun o15 =>
  Option.bind (fn_X2_put N v1 0 (q10.1 + a1) q10.2) fun q15 =>
  some ((), q15.2)
set_option maxRecDepth 20000 in
set_option maxHeartbeats 4000000 in
theorem ok_X0_add {D : ym_D} {b0 : Nat} {N : Nat} {a0 : Option Nat} {a1 : Int64} {h h' : ym_H} {r : Unit} (hf : fn_X0_add N a0 a1 h = some (r, h')) : ym_M D b0 g_X0_add 5 [va_rf a0, .long a1] h none h' := by
  unfold fn_X0_add at hf
  refine ym_meth (lv := [(0, va_rf a0), (1, .long a1)]) (by decide) (by simp [lg_sl, ym_c1, ym_cI, ym_cL, g_X0_add]) (by simp [lv_args, ym_c1, ym_cI, ym_cL]) ?_
  refine ym_aload_n (pc := 0) 0 dX0_add_0 rfl rfl ?_
  obtain ⟨v1, e1, hf⟩ := Option.bind_eq_some_iff.mp hf
  refine ym_get (pc := 1) dX0_add_1 rfl (by decide) iX0 (k := 3) (by decide) wd_271 (ym_gR_v e1) ?_
  refine ym_iconst (pc := 4) (v := 0) dX0_add_4 (by decide) ?_
  refine ym_aload_n (pc := 5) 0 dX0_add_5 rfl rfl ?_
  obtain ⟨v6, e6, hf⟩ := Option.bind_eq_some_iff.mp hf
  refine ym_get (pc := 6) dX0_add_6 rfl (by decide) iX0 (k := 3) (by decide) wd_271 (ym_gR_v e6) ?_
  refine ym_iconst (pc := 9) (v := 0) dX0_add_9 (by decide) ?_
  obtain ⟨o10, f10, hf⟩ := Option.bind_eq_some_iff.mp hf
  obtain ⟨q10, e10, hf⟩ := Option.bind_eq_some_iff.mp hf
  refine ym_callV (pc := 10) (G2 := g_X2_get) (dep2 := 1) (As := [.int 0]) (st := [.int 0, va_rf v1]) (stk2 := [.long q10.1, .int 0, va_rf v1]) (r2 := (some (.long q10.1))) (h1 := q10.2) dX0_add_10 (ok_X2_get e10) (sc_X0_add_X2_get) wd_676 wd_254 wd_255 (ci := 2) (q0 := (RX2, TX2, 2)) rfl (by decide) rfl f10 rfl rfl (ym_st4 (Nat.le_of_ble_eq_true rfl)) rfl ?_
  refine ym_lload_n (pc := 13) 1 dX0_add_13 rfl rfl ?_
  refine ym_ladd (pc := 14) dX0_add_14 ?_
  obtain ⟨o15, f15, hf⟩ := Option.bind_eq_some_iff.mp hf
  obtain ⟨q15, e15, hf⟩ := Option.bind_eq_some_iff.mp hf
  refine ym_callV (pc := 15) (G2 := g_X2_put) (dep2 := 4) (As := [.int 0, .long (q10.1 + a1)]) (st := []) (stk2 := []) (r2 := none) (h1 := q15.2) dX0_add_15 (ok_X2_put e15) (sc_X0_add_X2_put) wd_677 wd_282 wd_283 (ci := 2) (q0 := (RX2, TX2, 2)) rfl (by decide) rfl f15 rfl rfl (ym_st4 (Nat.le_of_ble_eq_true rfl)) rfl ?_
  cases hf
  exact ym_vret (pc := 18) dX0_add_18 rfl
theorem dX0_balanceNow_0 : decode cX0_balanceNow 0 = .ok (.aload_n 0, 1) := by decide +kernel
theorem dX0_balanceNow_1 : decode cX0_balanceNow 1 = .ok (.getfield 27, 3) := by decide +kernel
theorem dX0_balanceNow_4 : decode cX0_balanceNow 4 = .ok (.iconst 0, 1) := by decide +kernel
theorem dX0_balanceNow_5 : decode cX0_balanceNow 5 = .ok (.invokevirtual 31, 3) := by decide +kernel
theorem dX0_balanceNow_8 : decode cX0_balanceNow 8 = .ok (.lreturn, 1) := by decide +kernel
theorem sc_X0_balanceNow_X2_get : ym_site g_X0_balanceNow g_X2_get 2 1 1 := ⟨by decide, by decide, wd_256, wd_78, by decide +kernel⟩
def fn_X0_balanceNow (N : Nat) (a0 : Option Nat) (h : ym_H) : Option (Int64 × ym_H) :=
  Option.bind (ym_gR h a0 0 3) fun v1 =>
  Option.bind (ym_ob h v1 2) fun o5 =>
  Option.bind (fn_X2_get N v1 0 h) fun q5 =>
  some (q5.1, q5.2)
set_option maxRecDepth 20000 in
set_option maxHeartbeats 4000000 in
theorem ok_X0_balanceNow {D : ym_D} {b0 : Nat} {N : Nat} {a0 : Option Nat} {h h' : ym_H} {r : Int64} (hf : fn_X0_balanceNow N a0 h = some (r, h')) : ym_M D b0 g_X0_balanceNow 2 [va_rf a0] h (some (.long r)) h' := by
  unfold fn_X0_balanceNow at hf
  refine ym_meth (lv := [(0, va_rf a0)]) (by decide) (by simp [lg_sl, ym_c1, ym_cI, ym_cL, g_X0_balanceNow]) (by simp [lv_args, ym_c1, ym_cI, ym_cL]) ?_
  refine ym_aload_n (pc := 0) 0 dX0_balanceNow_0 rfl rfl ?_
  obtain ⟨v1, e1, hf⟩ := Option.bind_eq_some_iff.mp hf
  refine ym_get (pc := 1) dX0_balanceNow_1 rfl (by decide) iX0 (k := 3) (by decide) wd_271 (ym_gR_v e1) ?_
  refine ym_iconst (pc := 4) (v := 0) dX0_balanceNow_4 (by decide) ?_
  obtain ⟨o5, f5, hf⟩ := Option.bind_eq_some_iff.mp hf
  obtain ⟨q5, e5, hf⟩ := Option.bind_eq_some_iff.mp hf
  refine ym_callV (pc := 5) (G2 := g_X2_get) (dep2 := 1) (As := [.int 0]) (st := []) (stk2 := [.long q5.1]) (r2 := (some (.long q5.1))) (h1 := q5.2) dX0_balanceNow_5 (ok_X2_get e5) (sc_X0_balanceNow_X2_get) wd_676 wd_254 wd_255 (ci := 2) (q0 := (RX2, TX2, 2)) rfl (by decide) rfl f5 rfl rfl (ym_st4 (Nat.le_of_ble_eq_true rfl)) rfl ?_
  cases hf
  exact ym_lret (pc := 8) dX0_balanceNow_8 rfl
theorem dX2_init_0 : decode cX2_init 0 = .ok (.aload_n 0, 1) := by decide +kernel
theorem dX2_init_1 : decode cX2_init 1 = .ok (.invokespecial 3, 3) := by decide +kernel
theorem dX2_init_4 : decode cX2_init 4 = .ok (.aload_n 0, 1) := by decide +kernel
theorem dX2_init_5 : decode cX2_init 5 = .ok (.aload_n 1, 1) := by decide +kernel
theorem dX2_init_6 : decode cX2_init 6 = .ok (.putfield 9, 3) := by decide +kernel
theorem dX2_init_9 : decode cX2_init 9 = .ok (.aload_n 0, 1) := by decide +kernel
theorem dX2_init_10 : decode cX2_init 10 = .ok (.iload_n 2, 1) := by decide +kernel
theorem dX2_init_11 : decode cX2_init 11 = .ok (.iconst 1, 1) := by decide +kernel
theorem dX2_init_12 : decode cX2_init 12 = .ok (.invokestatic 15, 3) := by decide +kernel
theorem dX2_init_15 : decode cX2_init 15 = .ok (.newarray .long, 2) := by decide +kernel
theorem dX2_init_17 : decode cX2_init 17 = .ok (.putfield 21, 3) := by decide +kernel
theorem dX2_init_20 : decode cX2_init 20 = .ok (.return_, 1) := by decide +kernel
def fn_X2_init (N : Nat) (a0 : Option Nat) (a1 : Option Nat) (a2 : Int32) (h : ym_H) : Option (Unit × ym_H) :=
  Option.bind (ym_ob h a0 2) fun o1 =>
  Option.bind (ym_pf h a0 2 0 (va_rf a1)) fun h6 =>
  Option.bind (ym_na h6 1 (.long 0) (if a2 < 1 then 1 else a2)) fun h15 =>
  Option.bind (ym_pf h15 a0 2 1 (va_rf (some h6.1))) fun h17 =>
  some ((), h17)
set_option maxRecDepth 20000 in
set_option maxHeartbeats 4000000 in
theorem ok_X2_init {D : ym_D} {b0 : Nat} {N : Nat} {a0 : Option Nat} {a1 : Option Nat} {a2 : Int32} {h h' : ym_H} {r : Unit} (hf : fn_X2_init N a0 a1 a2 h = some (r, h')) : ym_M D b0 g_X2_init 2 [va_rf a0, va_rf a1, .int a2] h none h' := by
  unfold fn_X2_init at hf
  refine ym_meth (lv := [(0, va_rf a0), (1, va_rf a1), (2, .int a2)]) (by decide) (by simp [lg_sl, ym_c1, ym_cI, ym_cL, g_X2_init]) (by simp [lv_args, ym_c1, ym_cI, ym_cL]) ?_
  refine ym_aload_n (pc := 0) 0 dX2_init_0 rfl rfl ?_
  obtain ⟨o1, e1, hf⟩ := Option.bind_eq_some_iff.mp hf
  refine ym_objInit (pc := 1) dX2_init_1 wd_130 wd_94 wd_95 (by decide) (ym_st4 (Nat.le_of_ble_eq_true rfl)) (ym_ob_ne e1) ?_
  refine ym_aload_n (pc := 4) 0 dX2_init_4 rfl rfl ?_
  refine ym_aload_n (pc := 5) 1 dX2_init_5 rfl rfl ?_
  obtain ⟨h6, e6, hf⟩ := Option.bind_eq_some_iff.mp hf
  refine ym_putF (pc := 6) (h1 := h6) dX2_init_6 rfl (by decide) iX2 tyX2 tyX2_ok nmX2 (k := 0) (by decide) wd_134 rfl rfl rfl (tyX2_ok 0 (by decide)) (ym_nrO _ _) (ym_fiO _ _) e6 ?_
  refine ym_aload_n (pc := 9) 0 dX2_init_9 rfl rfl ?_
  refine ym_iload_n (pc := 10) 2 dX2_init_10 rfl rfl ?_
  refine ym_iconst (pc := 11) (v := 1) dX2_init_11 (by decide) ?_
  refine ym_mmax (pc := 12) dX2_init_12 wd_131 wd_132 wd_79 wd_133 (by decide) (ym_st4 (Nat.le_of_ble_eq_true rfl)) ?_
  obtain ⟨h15, e15, hf⟩ := Option.bind_eq_some_iff.mp hf
  refine ym_newA (pc := 15) (h1 := h15) (ty := .long) (v := .long 0) dX2_init_15 rfl (t := 1) rfl (by decide) wd_124 (by decide) rfl e15 (fun _ _ => rfl) ?_
  obtain ⟨h17, e17, hf⟩ := Option.bind_eq_some_iff.mp hf
  refine ym_put (pc := 17) (h1 := h17) dX2_init_17 rfl (by decide) iX2 tyX2 tyX2_ok nmX2 (k := 1) (by decide) wd_135 rfl (tyX2_ok 1 (by decide)) (ym_nrA _ _) (ym_fiA _ _) e17 ?_
  cases hf
  exact ym_vret (pc := 20) dX2_init_20 rfl
theorem dX0_init_0 : decode cX0_init 0 = .ok (.aload_n 0, 1) := by decide +kernel
theorem dX0_init_1 : decode cX0_init 1 = .ok (.invokespecial 3, 3) := by decide +kernel
theorem dX0_init_4 : decode cX0_init 4 = .ok (.aload_n 0, 1) := by decide +kernel
theorem dX0_init_5 : decode cX0_init 5 = .ok (.iload_n 2, 1) := by decide +kernel
theorem dX0_init_6 : decode cX0_init 6 = .ok (.putfield 9, 3) := by decide +kernel
theorem dX0_init_9 : decode cX0_init 9 = .ok (.aload_n 0, 1) := by decide +kernel
theorem dX0_init_10 : decode cX0_init 10 = .ok (.iload_n 3, 1) := by decide +kernel
theorem dX0_init_11 : decode cX0_init 11 = .ok (.putfield 15, 3) := by decide +kernel
theorem dX0_init_14 : decode cX0_init 14 = .ok (.aload_n 0, 1) := by decide +kernel
theorem dX0_init_15 : decode cX0_init 15 = .ok (.lload 4, 2) := by decide +kernel
theorem dX0_init_17 : decode cX0_init 17 = .ok (.putfield 18, 3) := by decide +kernel
theorem dX0_init_20 : decode cX0_init 20 = .ok (.aload_n 0, 1) := by decide +kernel
theorem dX0_init_21 : decode cX0_init 21 = .ok (.new 22, 3) := by decide +kernel
theorem dX0_init_24 : decode cX0_init 24 = .ok (.dup, 1) := by decide +kernel
theorem dX0_init_25 : decode cX0_init 25 = .ok (.aload_n 1, 1) := by decide +kernel
theorem dX0_init_26 : decode cX0_init 26 = .ok (.iconst 1, 1) := by decide +kernel
theorem dX0_init_27 : decode cX0_init 27 = .ok (.invokespecial 24, 3) := by decide +kernel
theorem dX0_init_30 : decode cX0_init 30 = .ok (.putfield 27, 3) := by decide +kernel
theorem dX0_init_33 : decode cX0_init 33 = .ok (.return_, 1) := by decide +kernel
theorem sc_X0_init_X2_init : ym_site g_X0_init g_X2_init 3 2 2 := ⟨by decide, by decide, wd_129, wd_78, by decide +kernel⟩
def fn_X0_init (N : Nat) (a0 : Option Nat) (a1 : Option Nat) (a2 : Int32) (a3 : Int32) (a4 : Int64) (h : ym_H) : Option (Unit × ym_H) :=
  Option.bind (ym_ob h a0 0) fun o1 =>
  Option.bind (ym_pf h a0 0 0 (.int a2)) fun h6 =>
  Option.bind (ym_pf h6 a0 0 1 (.int a3)) fun h11 =>
  Option.bind (ym_pf h11 a0 0 2 (.long a4)) fun h17 =>
  Option.bind (ym_nO h17 2 (.inr (2, [.null, .null]))) fun h21 =>
  Option.bind (fn_X2_init N (some h17.1) a1 1 h21) fun q27 =>
  Option.bind (ym_pf q27.2 a0 0 3 (va_rf (some h17.1))) fun h30 =>
  some ((), h30)
set_option maxRecDepth 20000 in
set_option maxHeartbeats 4000000 in
theorem ok_X0_init {D : ym_D} {b0 : Nat} {N : Nat} {a0 : Option Nat} {a1 : Option Nat} {a2 : Int32} {a3 : Int32} {a4 : Int64} {h h' : ym_H} {r : Unit} (hf : fn_X0_init N a0 a1 a2 a3 a4 h = some (r, h')) : ym_M D b0 g_X0_init 3 [va_rf a0, va_rf a1, .int a2, .int a3, .long a4] h none h' := by
  unfold fn_X0_init at hf
  refine ym_meth (lv := [(0, va_rf a0), (1, va_rf a1), (2, .int a2), (3, .int a3), (4, .long a4)]) (by decide) (by simp [lg_sl, ym_c1, ym_cI, ym_cL, g_X0_init]) (by simp [lv_args, ym_c1, ym_cI, ym_cL]) ?_
  refine ym_aload_n (pc := 0) 0 dX0_init_0 rfl rfl ?_
  obtain ⟨o1, e1, hf⟩ := Option.bind_eq_some_iff.mp hf
  refine ym_objInit (pc := 1) dX0_init_1 wd_261 wd_94 wd_95 (by decide) (ym_st4 (Nat.le_of_ble_eq_true rfl)) (ym_ob_ne e1) ?_
  refine ym_aload_n (pc := 4) 0 dX0_init_4 rfl rfl ?_
  refine ym_iload_n (pc := 5) 2 dX0_init_5 rfl rfl ?_
  obtain ⟨h6, e6, hf⟩ := Option.bind_eq_some_iff.mp hf
  refine ym_putF (pc := 6) (h1 := h6) dX0_init_6 rfl (by decide) iX0 tyX0 tyX0_ok nmX0 (k := 0) (by decide) wd_264 rfl rfl rfl (tyX0_ok 0 (by decide)) rfl rfl e6 ?_
  refine ym_aload_n (pc := 9) 0 dX0_init_9 rfl rfl ?_
  refine ym_iload_n (pc := 10) 3 dX0_init_10 rfl rfl ?_
  obtain ⟨h11, e11, hf⟩ := Option.bind_eq_some_iff.mp hf
  refine ym_putF (pc := 11) (h1 := h11) dX0_init_11 rfl (by decide) iX0 tyX0 tyX0_ok nmX0 (k := 1) (by decide) wd_267 rfl rfl rfl (tyX0_ok 1 (by decide)) rfl rfl e11 ?_
  refine ym_aload_n (pc := 14) 0 dX0_init_14 rfl rfl ?_
  refine ym_lload (pc := 15) 4 dX0_init_15 rfl ?_
  obtain ⟨h17, e17, hf⟩ := Option.bind_eq_some_iff.mp hf
  refine ym_putF (pc := 17) (h1 := h17) dX0_init_17 rfl (by decide) iX0 tyX0 tyX0_ok nmX0 (k := 2) (by decide) wd_269 rfl rfl rfl (tyX0_ok 2 (by decide)) rfl rfl e17 ?_
  refine ym_aload_n (pc := 20) 0 dX0_init_20 rfl rfl ?_
  obtain ⟨h21, e21, hf⟩ := Option.bind_eq_some_iff.mp hf
  refine ym_newP (pc := 21) (h1 := h21) (ci := 2) [.null, .null] dX0_init_21 rfl iX2 tyX2 tyX2_ok wd_262 wd_126 wd_78 (by decide +kernel) e21 ?_
  refine ym_dup (pc := 24) dX0_init_24 (ym_c1 (some h17.1)) ?_
  refine ym_aload_n (pc := 25) 1 dX0_init_25 rfl rfl ?_
  refine ym_iconst (pc := 26) (v := 1) dX0_init_26 (by decide) ?_
  obtain ⟨q27, e27, hf⟩ := Option.bind_eq_some_iff.mp hf
  refine ym_callI (pc := 27) (G2 := g_X2_init) (dep2 := 2) (a := (some h17.1)) (As := [va_rf a1, .int 1]) (st := [va_rf (some h17.1), va_rf a0]) (stk2 := [va_rf (some h17.1), va_rf a0]) (r2 := none) (h1 := q27.2) dX0_init_27 (ok_X2_init e27) (sc_X0_init_X2_init) rfl rfl wd_263 wd_128 (Option.some_ne_none _) rfl rfl (ym_st4 (Nat.le_of_ble_eq_true rfl)) rfl ?_
  obtain ⟨h30, e30, hf⟩ := Option.bind_eq_some_iff.mp hf
  refine ym_putF (pc := 30) (h1 := h30) dX0_init_30 rfl (by decide) iX0 tyX0 tyX0_ok nmX0 (k := 3) (by decide) wd_271 rfl rfl rfl (tyX0_ok 3 (by decide)) (ym_nrO _ _) (ym_fiO _ _) e30 ?_
  cases hf
  exact ym_vret (pc := 33) dX0_init_33 rfl
theorem dX0_isPaper_0 : decode cX0_isPaper 0 = .ok (.aload_n 0, 1) := by decide +kernel
theorem dX0_isPaper_1 : decode cX0_isPaper 1 = .ok (.getfield 9, 3) := by decide +kernel
theorem dX0_isPaper_4 : decode cX0_isPaper 4 = .ok (.iconst 2, 1) := by decide +kernel
theorem dX0_isPaper_5 : decode cX0_isPaper 5 = .ok (.if_icmp .eq 11, 3) := by decide +kernel
theorem dX0_isPaper_8 : decode cX0_isPaper 8 = .ok (.aload_n 0, 1) := by decide +kernel
theorem dX0_isPaper_9 : decode cX0_isPaper 9 = .ok (.getfield 9, 3) := by decide +kernel
theorem dX0_isPaper_12 : decode cX0_isPaper 12 = .ok (.iconst 3, 1) := by decide +kernel
theorem dX0_isPaper_13 : decode cX0_isPaper 13 = .ok (.if_icmp .ne 7, 3) := by decide +kernel
theorem dX0_isPaper_16 : decode cX0_isPaper 16 = .ok (.iconst 1, 1) := by decide +kernel
theorem dX0_isPaper_17 : decode cX0_isPaper 17 = .ok (.goto 4, 3) := by decide +kernel
theorem dX0_isPaper_20 : decode cX0_isPaper 20 = .ok (.iconst 0, 1) := by decide +kernel
theorem dX0_isPaper_21 : decode cX0_isPaper 21 = .ok (.ireturn, 1) := by decide +kernel
def fn_X0_isPaper (N : Nat) (a0 : Option Nat) (h : ym_H) : Option (Int32 × ym_H) :=
  Option.bind (ym_gI h a0 0 0) fun v1 =>
  if v1 = 2 then
    some (1, h)
  else
    Option.bind (ym_gI h a0 0 0) fun v9 =>
    if v9 = 3 then
      some (1, h)
    else
      some (0, h)
set_option maxRecDepth 20000 in
set_option maxHeartbeats 4000000 in
theorem ok_X0_isPaper {D : ym_D} {b0 : Nat} {N : Nat} {a0 : Option Nat} {h h' : ym_H} {r : Int32} (hf : fn_X0_isPaper N a0 h = some (r, h')) : ym_M D b0 g_X0_isPaper 1 [va_rf a0] h (some (.int r)) h' := by
  unfold fn_X0_isPaper at hf
  refine ym_meth (lv := [(0, va_rf a0)]) (by decide) (by simp [lg_sl, ym_c1, ym_cI, ym_cL, g_X0_isPaper]) (by simp [lv_args, ym_c1, ym_cI, ym_cL]) ?_
  refine ym_aload_n (pc := 0) 0 dX0_isPaper_0 rfl rfl ?_
  obtain ⟨v1, e1, hf⟩ := Option.bind_eq_some_iff.mp hf
  refine ym_get (pc := 1) dX0_isPaper_1 rfl (by decide) iX0 (k := 0) (by decide) wd_264 (ym_gI_v e1) ?_
  refine ym_iconst (pc := 4) (v := 2) dX0_isPaper_4 (by decide) ?_
  by_cases c5 : v1 = 2
  · rw [if_pos c5] at hf
    refine ym_icmp_eq_y (pc := 5) (tgt := 16) dX0_isPaper_5 (by decide) c5 ?_
    refine ym_iconst (pc := 16) (v := 1) dX0_isPaper_16 (by decide) ?_
    refine ym_goto (pc := 17) (tgt := 21) dX0_isPaper_17 (by decide) ?_
    cases hf
    exact ym_zret (pc := 21) dX0_isPaper_21 rfl rfl
  · rw [if_neg c5] at hf
    refine ym_icmp_eq_n (pc := 5) (tgt := 16) dX0_isPaper_5 (by decide) c5 ?_
    refine ym_aload_n (pc := 8) 0 dX0_isPaper_8 rfl rfl ?_
    obtain ⟨v9, e9, hf⟩ := Option.bind_eq_some_iff.mp hf
    refine ym_get (pc := 9) dX0_isPaper_9 rfl (by decide) iX0 (k := 0) (by decide) wd_264 (ym_gI_v e9) ?_
    refine ym_iconst (pc := 12) (v := 3) dX0_isPaper_12 (by decide) ?_
    by_cases c13 : v9 = 3
    · rw [if_pos c13] at hf
      refine ym_icmp_ne_y (pc := 13) (tgt := 20) dX0_isPaper_13 (by decide) c13 ?_
      refine ym_iconst (pc := 16) (v := 1) dX0_isPaper_16 (by decide) ?_
      refine ym_goto (pc := 17) (tgt := 21) dX0_isPaper_17 (by decide) ?_
      cases hf
      exact ym_zret (pc := 21) dX0_isPaper_21 rfl rfl
    · rw [if_neg c13] at hf
      refine ym_icmp_ne_n (pc := 13) (tgt := 20) dX0_isPaper_13 (by decide) c13 ?_
      refine ym_iconst (pc := 20) (v := 0) dX0_isPaper_20 (by decide) ?_
      cases hf
      exact ym_zret (pc := 21) dX0_isPaper_21 rfl rfl
theorem dX1_run_0 : decode cX1_run 0 = .ok (.aload_n 0, 1) := by decide +kernel
theorem dX1_run_1 : decode cX1_run 1 = .ok (.getfield 19, 3) := by decide +kernel
theorem dX1_run_4 : decode cX1_run 4 = .ok (.ifCond .lt 15, 3) := by decide +kernel
theorem dX1_run_7 : decode cX1_run 7 = .ok (.aload_n 0, 1) := by decide +kernel
theorem dX1_run_8 : decode cX1_run 8 = .ok (.getfield 19, 3) := by decide +kernel
theorem dX1_run_11 : decode cX1_run 11 = .ok (.aload_n 0, 1) := by decide +kernel
theorem dX1_run_12 : decode cX1_run 12 = .ok (.getfield 9, 3) := by decide +kernel
theorem dX1_run_15 : decode cX1_run 15 = .ok (.arraylength, 1) := by decide +kernel
theorem dX1_run_16 : decode cX1_run 16 = .ok (.if_icmp .lt 4, 3) := by decide +kernel
theorem dX1_run_19 : decode cX1_run 19 = .ok (.return_, 1) := by decide +kernel
theorem dX1_run_20 : decode cX1_run 20 = .ok (.aload_n 0, 1) := by decide +kernel
theorem dX1_run_21 : decode cX1_run 21 = .ok (.getfield 9, 3) := by decide +kernel
theorem dX1_run_24 : decode cX1_run 24 = .ok (.aload_n 0, 1) := by decide +kernel
theorem dX1_run_25 : decode cX1_run 25 = .ok (.getfield 19, 3) := by decide +kernel
theorem dX1_run_28 : decode cX1_run 28 = .ok (.iload_n 1, 1) := by decide +kernel
theorem dX1_run_29 : decode cX1_run 29 = .ok (.iastore, 1) := by decide +kernel
theorem dX1_run_30 : decode cX1_run 30 = .ok (.aload_n 0, 1) := by decide +kernel
theorem dX1_run_31 : decode cX1_run 31 = .ok (.dup, 1) := by decide +kernel
theorem dX1_run_32 : decode cX1_run 32 = .ok (.getfield 19, 3) := by decide +kernel
theorem dX1_run_35 : decode cX1_run 35 = .ok (.iconst 1, 1) := by decide +kernel
theorem dX1_run_36 : decode cX1_run 36 = .ok (.iadd, 1) := by decide +kernel
theorem dX1_run_37 : decode cX1_run 37 = .ok (.putfield 19, 3) := by decide +kernel
theorem dX1_run_40 : decode cX1_run 40 = .ok (.return_, 1) := by decide +kernel
def fn_X1_run (N : Nat) (a0 : Option Nat) (a1 : Int32) (h : ym_H) : Option (Unit × ym_H) :=
  Option.bind (ym_gI h a0 1 2) fun v1 =>
  if v1 < 0 then
    some ((), h)
  else
    Option.bind (ym_gI h a0 1 2) fun v8 =>
    Option.bind (ym_gR h a0 1 1) fun v12 =>
    Option.bind (ym_len h v12) fun v15 =>
    if v8 < v15 then
      Option.bind (ym_gR h a0 1 1) fun v21 =>
      Option.bind (ym_gI h a0 1 2) fun v25 =>
      Option.bind (ym_as h v21 0 v25 (.int a1)) fun h29 =>
      Option.bind (ym_gI h29 a0 1 2) fun v32 =>
      Option.bind (ym_pf h29 a0 1 2 (.int (v32 + 1))) fun h37 =>
      some ((), h37)
    else
      some ((), h)
set_option maxRecDepth 20000 in
set_option maxHeartbeats 4000000 in
theorem ok_X1_run {D : ym_D} {b0 : Nat} {N : Nat} {a0 : Option Nat} {a1 : Int32} {h h' : ym_H} {r : Unit} (hf : fn_X1_run N a0 a1 h = some (r, h')) : ym_M D b0 g_X1_run 1 [va_rf a0, .int a1] h none h' := by
  unfold fn_X1_run at hf
  refine ym_meth (lv := [(0, va_rf a0), (1, .int a1)]) (by decide) (by simp [lg_sl, ym_c1, ym_cI, ym_cL, g_X1_run]) (by simp [lv_args, ym_c1, ym_cI, ym_cL]) ?_
  refine ym_aload_n (pc := 0) 0 dX1_run_0 rfl rfl ?_
  obtain ⟨v1, e1, hf⟩ := Option.bind_eq_some_iff.mp hf
  refine ym_get (pc := 1) dX1_run_1 rfl (by decide) iX1 (k := 2) (by decide) wd_174 (ym_gI_v e1) ?_
  by_cases c4 : v1 < 0
  · rw [if_pos c4] at hf
    refine ym_if_lt_y (pc := 4) (tgt := 19) dX1_run_4 (by decide) c4 ?_
    cases hf
    exact ym_vret (pc := 19) dX1_run_19 rfl
  · rw [if_neg c4] at hf
    refine ym_if_lt_n (pc := 4) (tgt := 19) dX1_run_4 (by decide) c4 ?_
    refine ym_aload_n (pc := 7) 0 dX1_run_7 rfl rfl ?_
    obtain ⟨v8, e8, hf⟩ := Option.bind_eq_some_iff.mp hf
    refine ym_get (pc := 8) dX1_run_8 rfl (by decide) iX1 (k := 2) (by decide) wd_174 (ym_gI_v e8) ?_
    refine ym_aload_n (pc := 11) 0 dX1_run_11 rfl rfl ?_
    obtain ⟨v12, e12, hf⟩ := Option.bind_eq_some_iff.mp hf
    refine ym_get (pc := 12) dX1_run_12 rfl (by decide) iX1 (k := 1) (by decide) wd_173 (ym_gR_v e12) ?_
    obtain ⟨v15, e15, hf⟩ := Option.bind_eq_some_iff.mp hf
    refine ym_alen (pc := 15) dX1_run_15 e15 ?_
    by_cases c16 : v8 < v15
    · rw [if_pos c16] at hf
      refine ym_icmp_lt_y (pc := 16) (tgt := 20) dX1_run_16 (by decide) c16 ?_
      refine ym_aload_n (pc := 20) 0 dX1_run_20 rfl rfl ?_
      obtain ⟨v21, e21, hf⟩ := Option.bind_eq_some_iff.mp hf
      refine ym_get (pc := 21) dX1_run_21 rfl (by decide) iX1 (k := 1) (by decide) wd_173 (ym_gR_v e21) ?_
      refine ym_aload_n (pc := 24) 0 dX1_run_24 rfl rfl ?_
      obtain ⟨v25, e25, hf⟩ := Option.bind_eq_some_iff.mp hf
      refine ym_get (pc := 25) dX1_run_25 rfl (by decide) iX1 (k := 2) (by decide) wd_174 (ym_gI_v e25) ?_
      refine ym_iload_n (pc := 28) 1 dX1_run_28 rfl rfl ?_
      obtain ⟨h29, e29, hf⟩ := Option.bind_eq_some_iff.mp hf
      refine ym_iast (pc := 29) dX1_run_29 rfl e29 ?_
      refine ym_aload_n (pc := 30) 0 dX1_run_30 rfl rfl ?_
      refine ym_dup (pc := 31) dX1_run_31 (ym_c1 a0) ?_
      obtain ⟨v32, e32, hf⟩ := Option.bind_eq_some_iff.mp hf
      refine ym_get (pc := 32) dX1_run_32 rfl (by decide) iX1 (k := 2) (by decide) wd_174 (ym_gI_v e32) ?_
      refine ym_iconst (pc := 35) (v := 1) dX1_run_35 (by decide) ?_
      refine ym_iadd (pc := 36) dX1_run_36 ?_
      obtain ⟨h37, e37, hf⟩ := Option.bind_eq_some_iff.mp hf
      refine ym_put (pc := 37) (h1 := h37) dX1_run_37 rfl (by decide) iX1 tyX1 tyX1_ok nmX1 (k := 2) (by decide) wd_174 rfl (tyX1_ok 2 (by decide)) rfl rfl e37 ?_
      cases hf
      exact ym_vret (pc := 40) dX1_run_40 rfl
    · rw [if_neg c16] at hf
      refine ym_icmp_lt_n (pc := 16) (tgt := 20) dX1_run_16 (by decide) c16 ?_
      cases hf
      exact ym_vret (pc := 19) dX1_run_19 rfl
theorem dX4_wasOpened_0 : decode cX4_wasOpened 0 = .ok (.aload_n 0, 1) := by decide +kernel
theorem dX4_wasOpened_1 : decode cX4_wasOpened 1 = .ok (.getfield 24, 3) := by decide +kernel
theorem dX4_wasOpened_4 : decode cX4_wasOpened 4 = .ok (.iconst 4, 1) := by decide +kernel
theorem dX4_wasOpened_5 : decode cX4_wasOpened 5 = .ok (.invokevirtual 47, 3) := by decide +kernel
theorem dX4_wasOpened_8 : decode cX4_wasOpened 8 = .ok (.lconst 0, 1) := by decide +kernel
theorem dX4_wasOpened_9 : decode cX4_wasOpened 9 = .ok (.lcmp, 1) := by decide +kernel
theorem dX4_wasOpened_10 : decode cX4_wasOpened 10 = .ok (.ifCond .eq 7, 3) := by decide +kernel
theorem dX4_wasOpened_13 : decode cX4_wasOpened 13 = .ok (.iconst 1, 1) := by decide +kernel
theorem dX4_wasOpened_14 : decode cX4_wasOpened 14 = .ok (.goto 4, 3) := by decide +kernel
theorem dX4_wasOpened_17 : decode cX4_wasOpened 17 = .ok (.iconst 0, 1) := by decide +kernel
theorem dX4_wasOpened_18 : decode cX4_wasOpened 18 = .ok (.ireturn, 1) := by decide +kernel
theorem sc_X4_wasOpened_X2_get : ym_site g_X4_wasOpened g_X2_get 2 1 1 := ⟨by decide, by decide, wd_256, wd_78, by decide +kernel⟩
def fn_X4_wasOpened (N : Nat) (a0 : Option Nat) (h : ym_H) : Option (Int32 × ym_H) :=
  Option.bind (ym_gR h a0 4 2) fun v1 =>
  Option.bind (ym_ob h v1 2) fun o5 =>
  Option.bind (fn_X2_get N v1 4 h) fun q5 =>
  if q5.1 = 0 then
    some (0, q5.2)
  else
    some (1, q5.2)
set_option maxRecDepth 20000 in
set_option maxHeartbeats 4000000 in
theorem ok_X4_wasOpened {D : ym_D} {b0 : Nat} {N : Nat} {a0 : Option Nat} {h h' : ym_H} {r : Int32} (hf : fn_X4_wasOpened N a0 h = some (r, h')) : ym_M D b0 g_X4_wasOpened 2 [va_rf a0] h (some (.int r)) h' := by
  unfold fn_X4_wasOpened at hf
  refine ym_meth (lv := [(0, va_rf a0)]) (by decide) (by simp [lg_sl, ym_c1, ym_cI, ym_cL, g_X4_wasOpened]) (by simp [lv_args, ym_c1, ym_cI, ym_cL]) ?_
  refine ym_aload_n (pc := 0) 0 dX4_wasOpened_0 rfl rfl ?_
  obtain ⟨v1, e1, hf⟩ := Option.bind_eq_some_iff.mp hf
  refine ym_get (pc := 1) dX4_wasOpened_1 rfl (by decide) iX4 (k := 2) (by decide) wd_344 (ym_gR_v e1) ?_
  refine ym_iconst (pc := 4) (v := 4) dX4_wasOpened_4 (by decide) ?_
  obtain ⟨o5, f5, hf⟩ := Option.bind_eq_some_iff.mp hf
  obtain ⟨q5, e5, hf⟩ := Option.bind_eq_some_iff.mp hf
  refine ym_callV (pc := 5) (G2 := g_X2_get) (dep2 := 1) (As := [.int 4]) (st := []) (stk2 := [.long q5.1]) (r2 := (some (.long q5.1))) (h1 := q5.2) dX4_wasOpened_5 (ok_X2_get e5) (sc_X4_wasOpened_X2_get) wd_389 wd_254 wd_255 (ci := 2) (q0 := (RX2, TX2, 2)) rfl (by decide) rfl f5 rfl rfl (ym_st4 (Nat.le_of_ble_eq_true rfl)) rfl ?_
  refine ym_lconst (pc := 8) (v := 0) dX4_wasOpened_8 (by decide) ?_
  by_cases c9 : q5.1 = 0
  · rw [if_pos c9] at hf
    refine ym_lcmp_eq_y (pc := 9) (tgt := 17) dX4_wasOpened_9 dX4_wasOpened_10 (by decide) c9 ?_
    refine ym_iconst (pc := 17) (v := 0) dX4_wasOpened_17 (by decide) ?_
    cases hf
    exact ym_zret (pc := 18) dX4_wasOpened_18 rfl rfl
  · rw [if_neg c9] at hf
    refine ym_lcmp_eq_n (pc := 9) (tgt := 17) dX4_wasOpened_9 dX4_wasOpened_10 (by decide) c9 ?_
    refine ym_iconst (pc := 13) (v := 1) dX4_wasOpened_13 (by decide) ?_
    refine ym_goto (pc := 14) (tgt := 18) dX4_wasOpened_14 (by decide) ?_
    cases hf
    exact ym_zret (pc := 18) dX4_wasOpened_18 rfl rfl
theorem dX5_rows_0 : decode cX5_rows 0 = .ok (.aload_n 0, 1) := by decide +kernel
theorem dX5_rows_1 : decode cX5_rows 1 = .ok (.getfield 14, 3) := by decide +kernel
theorem dX5_rows_4 : decode cX5_rows 4 = .ok (.iconst 0, 1) := by decide +kernel
theorem dX5_rows_5 : decode cX5_rows 5 = .ok (.invokevirtual 24, 3) := by decide +kernel
theorem dX5_rows_8 : decode cX5_rows 8 = .ok (.l2i, 1) := by decide +kernel
theorem dX5_rows_9 : decode cX5_rows 9 = .ok (.ireturn, 1) := by decide +kernel
theorem sc_X5_rows_X2_get : ym_site g_X5_rows g_X2_get 2 1 1 := ⟨by decide, by decide, wd_256, wd_78, by decide +kernel⟩
def fn_X5_rows (N : Nat) (a0 : Option Nat) (h : ym_H) : Option (Int32 × ym_H) :=
  Option.bind (ym_gR h a0 5 0) fun v1 =>
  Option.bind (ym_ob h v1 2) fun o5 =>
  Option.bind (fn_X2_get N v1 0 h) fun q5 =>
  some ((Int64.toInt32 q5.1), q5.2)
set_option maxRecDepth 20000 in
set_option maxHeartbeats 4000000 in
theorem ok_X5_rows {D : ym_D} {b0 : Nat} {N : Nat} {a0 : Option Nat} {h h' : ym_H} {r : Int32} (hf : fn_X5_rows N a0 h = some (r, h')) : ym_M D b0 g_X5_rows 2 [va_rf a0] h (some (.int r)) h' := by
  unfold fn_X5_rows at hf
  refine ym_meth (lv := [(0, va_rf a0)]) (by decide) (by simp [lg_sl, ym_c1, ym_cI, ym_cL, g_X5_rows]) (by simp [lv_args, ym_c1, ym_cI, ym_cL]) ?_
  refine ym_aload_n (pc := 0) 0 dX5_rows_0 rfl rfl ?_
  obtain ⟨v1, e1, hf⟩ := Option.bind_eq_some_iff.mp hf
  refine ym_get (pc := 1) dX5_rows_1 rfl (by decide) iX5 (k := 0) (by decide) wd_155 (ym_gR_v e1) ?_
  refine ym_iconst (pc := 4) (v := 0) dX5_rows_4 (by decide) ?_
  obtain ⟨o5, f5, hf⟩ := Option.bind_eq_some_iff.mp hf
  obtain ⟨q5, e5, hf⟩ := Option.bind_eq_some_iff.mp hf
  refine ym_callV (pc := 5) (G2 := g_X2_get) (dep2 := 1) (As := [.int 0]) (st := []) (stk2 := [.long q5.1]) (r2 := (some (.long q5.1))) (h1 := q5.2) dX5_rows_5 (ok_X2_get e5) (sc_X5_rows_X2_get) wd_398 wd_254 wd_255 (ci := 2) (q0 := (RX2, TX2, 2)) rfl (by decide) rfl f5 rfl rfl (ym_st4 (Nat.le_of_ble_eq_true rfl)) rfl ?_
  refine ym_l2i (pc := 8) dX5_rows_8 ?_
  cases hf
  exact ym_iret (pc := 9) dX5_rows_9 rfl
theorem dX5_at_0 : decode cX5_at 0 = .ok (.aload_n 0, 1) := by decide +kernel
theorem dX5_at_1 : decode cX5_at 1 = .ok (.getfield 14, 3) := by decide +kernel
theorem dX5_at_4 : decode cX5_at 4 = .ok (.iconst 1, 1) := by decide +kernel
theorem dX5_at_5 : decode cX5_at 5 = .ok (.iload_n 1, 1) := by decide +kernel
theorem dX5_at_6 : decode cX5_at 6 = .ok (.aload_n 0, 1) := by decide +kernel
theorem dX5_at_7 : decode cX5_at 7 = .ok (.getfield 20, 3) := by decide +kernel
theorem dX5_at_10 : decode cX5_at 10 = .ok (.imul, 1) := by decide +kernel
theorem dX5_at_11 : decode cX5_at 11 = .ok (.iadd, 1) := by decide +kernel
theorem dX5_at_12 : decode cX5_at 12 = .ok (.iload_n 2, 1) := by decide +kernel
theorem dX5_at_13 : decode cX5_at 13 = .ok (.iadd, 1) := by decide +kernel
theorem dX5_at_14 : decode cX5_at 14 = .ok (.invokevirtual 24, 3) := by decide +kernel
theorem dX5_at_17 : decode cX5_at 17 = .ok (.lreturn, 1) := by decide +kernel
theorem sc_X5_at_X2_get : ym_site g_X5_at g_X2_get 2 1 1 := ⟨by decide, by decide, wd_256, wd_78, by decide +kernel⟩
def fn_X5_at (N : Nat) (a0 : Option Nat) (a1 : Int32) (a2 : Int32) (h : ym_H) : Option (Int64 × ym_H) :=
  Option.bind (ym_gR h a0 5 0) fun v1 =>
  Option.bind (ym_gI h a0 5 1) fun v7 =>
  Option.bind (ym_ob h v1 2) fun o14 =>
  Option.bind (fn_X2_get N v1 ((1 + (a1 * v7)) + a2) h) fun q14 =>
  some (q14.1, q14.2)
set_option maxRecDepth 20000 in
set_option maxHeartbeats 4000000 in
theorem ok_X5_at {D : ym_D} {b0 : Nat} {N : Nat} {a0 : Option Nat} {a1 : Int32} {a2 : Int32} {h h' : ym_H} {r : Int64} (hf : fn_X5_at N a0 a1 a2 h = some (r, h')) : ym_M D b0 g_X5_at 2 [va_rf a0, .int a1, .int a2] h (some (.long r)) h' := by
  unfold fn_X5_at at hf
  refine ym_meth (lv := [(0, va_rf a0), (1, .int a1), (2, .int a2)]) (by decide) (by simp [lg_sl, ym_c1, ym_cI, ym_cL, g_X5_at]) (by simp [lv_args, ym_c1, ym_cI, ym_cL]) ?_
  refine ym_aload_n (pc := 0) 0 dX5_at_0 rfl rfl ?_
  obtain ⟨v1, e1, hf⟩ := Option.bind_eq_some_iff.mp hf
  refine ym_get (pc := 1) dX5_at_1 rfl (by decide) iX5 (k := 0) (by decide) wd_155 (ym_gR_v e1) ?_
  refine ym_iconst (pc := 4) (v := 1) dX5_at_4 (by decide) ?_
  refine ym_iload_n (pc := 5) 1 dX5_at_5 rfl rfl ?_
  refine ym_aload_n (pc := 6) 0 dX5_at_6 rfl rfl ?_
  obtain ⟨v7, e7, hf⟩ := Option.bind_eq_some_iff.mp hf
  refine ym_get (pc := 7) dX5_at_7 rfl (by decide) iX5 (k := 1) (by decide) wd_156 (ym_gI_v e7) ?_
  refine ym_imul (pc := 10) dX5_at_10 ?_
  refine ym_iadd (pc := 11) dX5_at_11 ?_
  refine ym_iload_n (pc := 12) 2 dX5_at_12 rfl rfl ?_
  refine ym_iadd (pc := 13) dX5_at_13 ?_
  obtain ⟨o14, f14, hf⟩ := Option.bind_eq_some_iff.mp hf
  obtain ⟨q14, e14, hf⟩ := Option.bind_eq_some_iff.mp hf
  refine ym_callV (pc := 14) (G2 := g_X2_get) (dep2 := 1) (As := [.int ((1 + (a1 * v7)) + a2)]) (st := []) (stk2 := [.long q14.1]) (r2 := (some (.long q14.1))) (h1 := q14.2) dX5_at_14 (ok_X2_get e14) (sc_X5_at_X2_get) wd_398 wd_254 wd_255 (ci := 2) (q0 := (RX2, TX2, 2)) rfl (by decide) rfl f14 rfl rfl (ym_st4 (Nat.le_of_ble_eq_true rfl)) rfl ?_
  cases hf
  exact ym_lret (pc := 17) dX5_at_17 rfl
theorem dX4_standingBidder_0 : decode cX4_standingBidder 0 = .ok (.aload_n 0, 1) := by decide +kernel
theorem dX4_standingBidder_1 : decode cX4_standingBidder 1 = .ok (.getfield 9, 3) := by decide +kernel
theorem dX4_standingBidder_4 : decode cX4_standingBidder 4 = .ok (.iconst 4, 1) := by decide +kernel
theorem dX4_standingBidder_5 : decode cX4_standingBidder 5 = .ok (.if_icmp .ne 24, 3) := by decide +kernel
theorem dX4_standingBidder_8 : decode cX4_standingBidder 8 = .ok (.aload_n 0, 1) := by decide +kernel
theorem dX4_standingBidder_9 : decode cX4_standingBidder 9 = .ok (.invokevirtual 59, 3) := by decide +kernel
theorem dX4_standingBidder_12 : decode cX4_standingBidder 12 = .ok (.ifCond .eq 15, 3) := by decide +kernel
theorem dX4_standingBidder_15 : decode cX4_standingBidder 15 = .ok (.aload_n 0, 1) := by decide +kernel
theorem dX4_standingBidder_16 : decode cX4_standingBidder 16 = .ok (.getfield 24, 3) := by decide +kernel
theorem dX4_standingBidder_19 : decode cX4_standingBidder 19 = .ok (.iconst 5, 1) := by decide +kernel
theorem dX4_standingBidder_20 : decode cX4_standingBidder 20 = .ok (.invokevirtual 47, 3) := by decide +kernel
theorem dX4_standingBidder_23 : decode cX4_standingBidder 23 = .ok (.l2i, 1) := by decide +kernel
theorem dX4_standingBidder_24 : decode cX4_standingBidder 24 = .ok (.goto 4, 3) := by decide +kernel
theorem dX4_standingBidder_27 : decode cX4_standingBidder 27 = .ok (.iconst (-1), 1) := by decide +kernel
theorem dX4_standingBidder_28 : decode cX4_standingBidder 28 = .ok (.ireturn, 1) := by decide +kernel
theorem dX4_standingBidder_29 : decode cX4_standingBidder 29 = .ok (.aload_n 0, 1) := by decide +kernel
theorem dX4_standingBidder_30 : decode cX4_standingBidder 30 = .ok (.getfield 31, 3) := by decide +kernel
theorem dX4_standingBidder_33 : decode cX4_standingBidder 33 = .ok (.invokevirtual 62, 3) := by decide +kernel
theorem dX4_standingBidder_36 : decode cX4_standingBidder 36 = .ok (.ifCond .ne 7, 3) := by decide +kernel
theorem dX4_standingBidder_39 : decode cX4_standingBidder 39 = .ok (.iconst (-1), 1) := by decide +kernel
theorem dX4_standingBidder_40 : decode cX4_standingBidder 40 = .ok (.goto 21, 3) := by decide +kernel
theorem dX4_standingBidder_43 : decode cX4_standingBidder 43 = .ok (.aload_n 0, 1) := by decide +kernel
theorem dX4_standingBidder_44 : decode cX4_standingBidder 44 = .ok (.getfield 31, 3) := by decide +kernel
theorem dX4_standingBidder_47 : decode cX4_standingBidder 47 = .ok (.aload_n 0, 1) := by decide +kernel
theorem dX4_standingBidder_48 : decode cX4_standingBidder 48 = .ok (.getfield 31, 3) := by decide +kernel
theorem dX4_standingBidder_51 : decode cX4_standingBidder 51 = .ok (.invokevirtual 62, 3) := by decide +kernel
theorem dX4_standingBidder_54 : decode cX4_standingBidder 54 = .ok (.iconst 1, 1) := by decide +kernel
theorem dX4_standingBidder_55 : decode cX4_standingBidder 55 = .ok (.isub, 1) := by decide +kernel
theorem dX4_standingBidder_56 : decode cX4_standingBidder 56 = .ok (.iconst 0, 1) := by decide +kernel
theorem dX4_standingBidder_57 : decode cX4_standingBidder 57 = .ok (.invokevirtual 65, 3) := by decide +kernel
theorem dX4_standingBidder_60 : decode cX4_standingBidder 60 = .ok (.l2i, 1) := by decide +kernel
theorem dX4_standingBidder_61 : decode cX4_standingBidder 61 = .ok (.ireturn, 1) := by decide +kernel
theorem sc_X4_standingBidder_X4_wasOpened : ym_site g_X4_standingBidder g_X4_wasOpened 3 2 0 := ⟨by decide, by decide, wd_516, wd_87, by decide +kernel⟩
theorem sc_X4_standingBidder_X2_get : ym_site g_X4_standingBidder g_X2_get 3 1 1 := ⟨by decide, by decide, wd_256, wd_78, by decide +kernel⟩
theorem sc_X4_standingBidder_X5_rows : ym_site g_X4_standingBidder g_X5_rows 3 2 0 := ⟨by decide, by decide, wd_397, wd_81, by decide +kernel⟩
theorem sc_X4_standingBidder_X5_at : ym_site g_X4_standingBidder g_X5_at 3 2 2 := ⟨by decide, by decide, wd_402, wd_81, by decide +kernel⟩
def fn_X4_standingBidder (N : Nat) (a0 : Option Nat) (h : ym_H) : Option (Int32 × ym_H) :=
  Option.bind (ym_gI h a0 4 0) fun v1 =>
  if v1 = 4 then
    Option.bind (ym_ob h a0 4) fun o9 =>
    Option.bind (fn_X4_wasOpened N a0 h) fun q9 =>
    if q9.1 = 0 then
      some ((-1), q9.2)
    else
      Option.bind (ym_gR q9.2 a0 4 2) fun v16 =>
      Option.bind (ym_ob q9.2 v16 2) fun o20 =>
      Option.bind (fn_X2_get N v16 5 q9.2) fun q20 =>
      some ((Int64.toInt32 q20.1), q20.2)
  else
    Option.bind (ym_gR h a0 4 3) fun v30 =>
    Option.bind (ym_ob h v30 5) fun o33 =>
    Option.bind (fn_X5_rows N v30 h) fun q33 =>
    if q33.1 = 0 then
      some ((-1), q33.2)
    else
      Option.bind (ym_gR q33.2 a0 4 3) fun v44 =>
      Option.bind (ym_gR q33.2 a0 4 3) fun v48 =>
      Option.bind (ym_ob q33.2 v48 5) fun o51 =>
      Option.bind (fn_X5_rows N v48 q33.2) fun q51 =>
      Option.bind (ym_ob q51.2 v44 5) fun o57 =>
      Option.bind (fn_X5_at N v44 (q51.1 - 1) 0 q51.2) fun q57 =>
      some ((Int64.toInt32 q57.1), q57.2)
set_option maxRecDepth 20000 in
set_option maxHeartbeats 4000000 in
theorem ok_X4_standingBidder {D : ym_D} {b0 : Nat} {N : Nat} {a0 : Option Nat} {h h' : ym_H} {r : Int32} (hf : fn_X4_standingBidder N a0 h = some (r, h')) : ym_M D b0 g_X4_standingBidder 3 [va_rf a0] h (some (.int r)) h' := by
  unfold fn_X4_standingBidder at hf
  refine ym_meth (lv := [(0, va_rf a0)]) (by decide) (by simp [lg_sl, ym_c1, ym_cI, ym_cL, g_X4_standingBidder]) (by simp [lv_args, ym_c1, ym_cI, ym_cL]) ?_
  refine ym_aload_n (pc := 0) 0 dX4_standingBidder_0 rfl rfl ?_
  obtain ⟨v1, e1, hf⟩ := Option.bind_eq_some_iff.mp hf
  refine ym_get (pc := 1) dX4_standingBidder_1 rfl (by decide) iX4 (k := 0) (by decide) wd_338 (ym_gI_v e1) ?_
  refine ym_iconst (pc := 4) (v := 4) dX4_standingBidder_4 (by decide) ?_
  by_cases c5 : v1 = 4
  · rw [if_pos c5] at hf
    refine ym_icmp_ne_y (pc := 5) (tgt := 29) dX4_standingBidder_5 (by decide) c5 ?_
    refine ym_aload_n (pc := 8) 0 dX4_standingBidder_8 rfl rfl ?_
    obtain ⟨o9, f9, hf⟩ := Option.bind_eq_some_iff.mp hf
    obtain ⟨q9, e9, hf⟩ := Option.bind_eq_some_iff.mp hf
    refine ym_callV (pc := 9) (G2 := g_X4_wasOpened) (dep2 := 2) (As := []) (st := []) (stk2 := [.int q9.1]) (r2 := (some (.int q9.1))) (h1 := q9.2) dX4_standingBidder_9 (ok_X4_wasOpened e9) (sc_X4_standingBidder_X4_wasOpened) wd_513 wd_514 wd_515 (ci := 4) (q0 := (RX4, TX4, 6)) rfl (by decide) rfl f9 rfl rfl (ym_st4 (Nat.le_of_ble_eq_true rfl)) rfl ?_
    by_cases c12 : q9.1 = 0
    · rw [if_pos c12] at hf
      refine ym_if_eq_y (pc := 12) (tgt := 27) dX4_standingBidder_12 (by decide) c12 ?_
      refine ym_iconst (pc := 27) (v := (-1)) dX4_standingBidder_27 (by decide) ?_
      cases hf
      exact ym_iret (pc := 28) dX4_standingBidder_28 rfl
    · rw [if_neg c12] at hf
      refine ym_if_eq_n (pc := 12) (tgt := 27) dX4_standingBidder_12 (by decide) c12 ?_
      refine ym_aload_n (pc := 15) 0 dX4_standingBidder_15 rfl rfl ?_
      obtain ⟨v16, e16, hf⟩ := Option.bind_eq_some_iff.mp hf
      refine ym_get (pc := 16) dX4_standingBidder_16 rfl (by decide) iX4 (k := 2) (by decide) wd_344 (ym_gR_v e16) ?_
      refine ym_iconst (pc := 19) (v := 5) dX4_standingBidder_19 (by decide) ?_
      obtain ⟨o20, f20, hf⟩ := Option.bind_eq_some_iff.mp hf
      obtain ⟨q20, e20, hf⟩ := Option.bind_eq_some_iff.mp hf
      refine ym_callV (pc := 20) (G2 := g_X2_get) (dep2 := 1) (As := [.int 5]) (st := []) (stk2 := [.long q20.1]) (r2 := (some (.long q20.1))) (h1 := q20.2) dX4_standingBidder_20 (ok_X2_get e20) (sc_X4_standingBidder_X2_get) wd_389 wd_254 wd_255 (ci := 2) (q0 := (RX2, TX2, 2)) rfl (by decide) rfl f20 rfl rfl (ym_st4 (Nat.le_of_ble_eq_true rfl)) rfl ?_
      refine ym_l2i (pc := 23) dX4_standingBidder_23 ?_
      refine ym_goto (pc := 24) (tgt := 28) dX4_standingBidder_24 (by decide) ?_
      cases hf
      exact ym_iret (pc := 28) dX4_standingBidder_28 rfl
  · rw [if_neg c5] at hf
    refine ym_icmp_ne_n (pc := 5) (tgt := 29) dX4_standingBidder_5 (by decide) c5 ?_
    refine ym_aload_n (pc := 29) 0 dX4_standingBidder_29 rfl rfl ?_
    obtain ⟨v30, e30, hf⟩ := Option.bind_eq_some_iff.mp hf
    refine ym_get (pc := 30) dX4_standingBidder_30 rfl (by decide) iX4 (k := 3) (by decide) wd_347 (ym_gR_v e30) ?_
    obtain ⟨o33, f33, hf⟩ := Option.bind_eq_some_iff.mp hf
    obtain ⟨q33, e33, hf⟩ := Option.bind_eq_some_iff.mp hf
    refine ym_callV (pc := 33) (G2 := g_X5_rows) (dep2 := 2) (As := []) (st := []) (stk2 := [.int q33.1]) (r2 := (some (.int q33.1))) (h1 := q33.2) dX4_standingBidder_33 (ok_X5_rows e33) (sc_X4_standingBidder_X5_rows) wd_472 wd_395 wd_396 (ci := 5) (q0 := (RX5, TX5, 2)) rfl (by decide) rfl f33 rfl rfl (ym_st4 (Nat.le_of_ble_eq_true rfl)) rfl ?_
    by_cases c36 : q33.1 = 0
    · rw [if_pos c36] at hf
      refine ym_if_ne_y (pc := 36) (tgt := 43) dX4_standingBidder_36 (by decide) c36 ?_
      refine ym_iconst (pc := 39) (v := (-1)) dX4_standingBidder_39 (by decide) ?_
      refine ym_goto (pc := 40) (tgt := 61) dX4_standingBidder_40 (by decide) ?_
      cases hf
      exact ym_iret (pc := 61) dX4_standingBidder_61 rfl
    · rw [if_neg c36] at hf
      refine ym_if_ne_n (pc := 36) (tgt := 43) dX4_standingBidder_36 (by decide) c36 ?_
      refine ym_aload_n (pc := 43) 0 dX4_standingBidder_43 rfl rfl ?_
      obtain ⟨v44, e44, hf⟩ := Option.bind_eq_some_iff.mp hf
      refine ym_get (pc := 44) dX4_standingBidder_44 rfl (by decide) iX4 (k := 3) (by decide) wd_347 (ym_gR_v e44) ?_
      refine ym_aload_n (pc := 47) 0 dX4_standingBidder_47 rfl rfl ?_
      obtain ⟨v48, e48, hf⟩ := Option.bind_eq_some_iff.mp hf
      refine ym_get (pc := 48) dX4_standingBidder_48 rfl (by decide) iX4 (k := 3) (by decide) wd_347 (ym_gR_v e48) ?_
      obtain ⟨o51, f51, hf⟩ := Option.bind_eq_some_iff.mp hf
      obtain ⟨q51, e51, hf⟩ := Option.bind_eq_some_iff.mp hf
      refine ym_callV (pc := 51) (G2 := g_X5_rows) (dep2 := 2) (As := []) (st := [va_rf v44]) (stk2 := [.int q51.1, va_rf v44]) (r2 := (some (.int q51.1))) (h1 := q51.2) dX4_standingBidder_51 (ok_X5_rows e51) (sc_X4_standingBidder_X5_rows) wd_472 wd_395 wd_396 (ci := 5) (q0 := (RX5, TX5, 2)) rfl (by decide) rfl f51 rfl rfl (ym_st4 (Nat.le_of_ble_eq_true rfl)) rfl ?_
      refine ym_iconst (pc := 54) (v := 1) dX4_standingBidder_54 (by decide) ?_
      refine ym_isub (pc := 55) dX4_standingBidder_55 ?_
      refine ym_iconst (pc := 56) (v := 0) dX4_standingBidder_56 (by decide) ?_
      obtain ⟨o57, f57, hf⟩ := Option.bind_eq_some_iff.mp hf
      obtain ⟨q57, e57, hf⟩ := Option.bind_eq_some_iff.mp hf
      refine ym_callV (pc := 57) (G2 := g_X5_at) (dep2 := 2) (As := [.int (q51.1 - 1), .int 0]) (st := []) (stk2 := [.long q57.1]) (r2 := (some (.long q57.1))) (h1 := q57.2) dX4_standingBidder_57 (ok_X5_at e57) (sc_X4_standingBidder_X5_at) wd_481 wd_400 wd_401 (ci := 5) (q0 := (RX5, TX5, 2)) rfl (by decide) rfl f57 rfl rfl (ym_st4 (Nat.le_of_ble_eq_true rfl)) rfl ?_
      refine ym_l2i (pc := 60) dX4_standingBidder_60 ?_
      cases hf
      exact ym_iret (pc := 61) dX4_standingBidder_61 rfl
theorem dX4_startNow_0 : decode cX4_startNow 0 = .ok (.aload_n 0, 1) := by decide +kernel
theorem dX4_startNow_1 : decode cX4_startNow 1 = .ok (.getfield 24, 3) := by decide +kernel
theorem dX4_startNow_4 : decode cX4_startNow 4 = .ok (.iconst 0, 1) := by decide +kernel
theorem dX4_startNow_5 : decode cX4_startNow 5 = .ok (.invokevirtual 47, 3) := by decide +kernel
theorem dX4_startNow_8 : decode cX4_startNow 8 = .ok (.lreturn, 1) := by decide +kernel
theorem sc_X4_startNow_X2_get : ym_site g_X4_startNow g_X2_get 2 1 1 := ⟨by decide, by decide, wd_256, wd_78, by decide +kernel⟩
def fn_X4_startNow (N : Nat) (a0 : Option Nat) (h : ym_H) : Option (Int64 × ym_H) :=
  Option.bind (ym_gR h a0 4 2) fun v1 =>
  Option.bind (ym_ob h v1 2) fun o5 =>
  Option.bind (fn_X2_get N v1 0 h) fun q5 =>
  some (q5.1, q5.2)
set_option maxRecDepth 20000 in
set_option maxHeartbeats 4000000 in
theorem ok_X4_startNow {D : ym_D} {b0 : Nat} {N : Nat} {a0 : Option Nat} {h h' : ym_H} {r : Int64} (hf : fn_X4_startNow N a0 h = some (r, h')) : ym_M D b0 g_X4_startNow 2 [va_rf a0] h (some (.long r)) h' := by
  unfold fn_X4_startNow at hf
  refine ym_meth (lv := [(0, va_rf a0)]) (by decide) (by simp [lg_sl, ym_c1, ym_cI, ym_cL, g_X4_startNow]) (by simp [lv_args, ym_c1, ym_cI, ym_cL]) ?_
  refine ym_aload_n (pc := 0) 0 dX4_startNow_0 rfl rfl ?_
  obtain ⟨v1, e1, hf⟩ := Option.bind_eq_some_iff.mp hf
  refine ym_get (pc := 1) dX4_startNow_1 rfl (by decide) iX4 (k := 2) (by decide) wd_344 (ym_gR_v e1) ?_
  refine ym_iconst (pc := 4) (v := 0) dX4_startNow_4 (by decide) ?_
  obtain ⟨o5, f5, hf⟩ := Option.bind_eq_some_iff.mp hf
  obtain ⟨q5, e5, hf⟩ := Option.bind_eq_some_iff.mp hf
  refine ym_callV (pc := 5) (G2 := g_X2_get) (dep2 := 1) (As := [.int 0]) (st := []) (stk2 := [.long q5.1]) (r2 := (some (.long q5.1))) (h1 := q5.2) dX4_startNow_5 (ok_X2_get e5) (sc_X4_startNow_X2_get) wd_389 wd_254 wd_255 (ci := 2) (q0 := (RX2, TX2, 2)) rfl (by decide) rfl f5 rfl rfl (ym_st4 (Nat.le_of_ble_eq_true rfl)) rfl ?_
  cases hf
  exact ym_lret (pc := 8) dX4_startNow_8 rfl
theorem dX4_standingSum_0 : decode cX4_standingSum 0 = .ok (.aload_n 0, 1) := by decide +kernel
theorem dX4_standingSum_1 : decode cX4_standingSum 1 = .ok (.getfield 9, 3) := by decide +kernel
theorem dX4_standingSum_4 : decode cX4_standingSum 4 = .ok (.iconst 4, 1) := by decide +kernel
theorem dX4_standingSum_5 : decode cX4_standingSum 5 = .ok (.if_icmp .ne 24, 3) := by decide +kernel
theorem dX4_standingSum_8 : decode cX4_standingSum 8 = .ok (.aload_n 0, 1) := by decide +kernel
theorem dX4_standingSum_9 : decode cX4_standingSum 9 = .ok (.invokevirtual 59, 3) := by decide +kernel
theorem dX4_standingSum_12 : decode cX4_standingSum 12 = .ok (.ifCond .eq 15, 3) := by decide +kernel
theorem dX4_standingSum_15 : decode cX4_standingSum 15 = .ok (.aload_n 0, 1) := by decide +kernel
theorem dX4_standingSum_16 : decode cX4_standingSum 16 = .ok (.getfield 24, 3) := by decide +kernel
theorem dX4_standingSum_19 : decode cX4_standingSum 19 = .ok (.bipush 6, 2) := by decide +kernel
theorem dX4_standingSum_21 : decode cX4_standingSum 21 = .ok (.invokevirtual 47, 3) := by decide +kernel
theorem dX4_standingSum_24 : decode cX4_standingSum 24 = .ok (.goto 4, 3) := by decide +kernel
theorem dX4_standingSum_27 : decode cX4_standingSum 27 = .ok (.lconst 0, 1) := by decide +kernel
theorem dX4_standingSum_28 : decode cX4_standingSum 28 = .ok (.lreturn, 1) := by decide +kernel
theorem dX4_standingSum_29 : decode cX4_standingSum 29 = .ok (.aload_n 0, 1) := by decide +kernel
theorem dX4_standingSum_30 : decode cX4_standingSum 30 = .ok (.getfield 31, 3) := by decide +kernel
theorem dX4_standingSum_33 : decode cX4_standingSum 33 = .ok (.invokevirtual 62, 3) := by decide +kernel
theorem dX4_standingSum_36 : decode cX4_standingSum 36 = .ok (.ifCond .ne 7, 3) := by decide +kernel
theorem dX4_standingSum_39 : decode cX4_standingSum 39 = .ok (.lconst 0, 1) := by decide +kernel
theorem dX4_standingSum_40 : decode cX4_standingSum 40 = .ok (.goto 20, 3) := by decide +kernel
theorem dX4_standingSum_43 : decode cX4_standingSum 43 = .ok (.aload_n 0, 1) := by decide +kernel
theorem dX4_standingSum_44 : decode cX4_standingSum 44 = .ok (.getfield 31, 3) := by decide +kernel
theorem dX4_standingSum_47 : decode cX4_standingSum 47 = .ok (.aload_n 0, 1) := by decide +kernel
theorem dX4_standingSum_48 : decode cX4_standingSum 48 = .ok (.getfield 31, 3) := by decide +kernel
theorem dX4_standingSum_51 : decode cX4_standingSum 51 = .ok (.invokevirtual 62, 3) := by decide +kernel
theorem dX4_standingSum_54 : decode cX4_standingSum 54 = .ok (.iconst 1, 1) := by decide +kernel
theorem dX4_standingSum_55 : decode cX4_standingSum 55 = .ok (.isub, 1) := by decide +kernel
theorem dX4_standingSum_56 : decode cX4_standingSum 56 = .ok (.iconst 1, 1) := by decide +kernel
theorem dX4_standingSum_57 : decode cX4_standingSum 57 = .ok (.invokevirtual 65, 3) := by decide +kernel
theorem dX4_standingSum_60 : decode cX4_standingSum 60 = .ok (.lreturn, 1) := by decide +kernel
theorem sc_X4_standingSum_X4_wasOpened : ym_site g_X4_standingSum g_X4_wasOpened 3 2 0 := ⟨by decide, by decide, wd_516, wd_87, by decide +kernel⟩
theorem sc_X4_standingSum_X2_get : ym_site g_X4_standingSum g_X2_get 3 1 1 := ⟨by decide, by decide, wd_256, wd_78, by decide +kernel⟩
theorem sc_X4_standingSum_X5_rows : ym_site g_X4_standingSum g_X5_rows 3 2 0 := ⟨by decide, by decide, wd_397, wd_81, by decide +kernel⟩
theorem sc_X4_standingSum_X5_at : ym_site g_X4_standingSum g_X5_at 3 2 2 := ⟨by decide, by decide, wd_402, wd_81, by decide +kernel⟩
def fn_X4_standingSum (N : Nat) (a0 : Option Nat) (h : ym_H) : Option (Int64 × ym_H) :=
  Option.bind (ym_gI h a0 4 0) fun v1 =>
  if v1 = 4 then
    Option.bind (ym_ob h a0 4) fun o9 =>
    Option.bind (fn_X4_wasOpened N a0 h) fun q9 =>
    if q9.1 = 0 then
      some (0, q9.2)
    else
      Option.bind (ym_gR q9.2 a0 4 2) fun v16 =>
      Option.bind (ym_ob q9.2 v16 2) fun o21 =>
      Option.bind (fn_X2_get N v16 6 q9.2) fun q21 =>
      some (q21.1, q21.2)
  else
    Option.bind (ym_gR h a0 4 3) fun v30 =>
    Option.bind (ym_ob h v30 5) fun o33 =>
    Option.bind (fn_X5_rows N v30 h) fun q33 =>
    if q33.1 = 0 then
      some (0, q33.2)
    else
      Option.bind (ym_gR q33.2 a0 4 3) fun v44 =>
      Option.bind (ym_gR q33.2 a0 4 3) fun v48 =>
      Option.bind (ym_ob q33.2 v48 5) fun o51 =>
      Option.bind (fn_X5_rows N v48 q33.2) fun q51 =>
      Option.bind (ym_ob q51.2 v44 5) fun o57 =>
      Option.bind (fn_X5_at N v44 (q51.1 - 1) 1 q51.2) fun q57 =>
      some (q57.1, q57.2)
set_option maxRecDepth 20000 in
set_option maxHeartbeats 4000000 in
theorem ok_X4_standingSum {D : ym_D} {b0 : Nat} {N : Nat} {a0 : Option Nat} {h h' : ym_H} {r : Int64} (hf : fn_X4_standingSum N a0 h = some (r, h')) : ym_M D b0 g_X4_standingSum 3 [va_rf a0] h (some (.long r)) h' := by
  unfold fn_X4_standingSum at hf
  refine ym_meth (lv := [(0, va_rf a0)]) (by decide) (by simp [lg_sl, ym_c1, ym_cI, ym_cL, g_X4_standingSum]) (by simp [lv_args, ym_c1, ym_cI, ym_cL]) ?_
  refine ym_aload_n (pc := 0) 0 dX4_standingSum_0 rfl rfl ?_
  obtain ⟨v1, e1, hf⟩ := Option.bind_eq_some_iff.mp hf
  refine ym_get (pc := 1) dX4_standingSum_1 rfl (by decide) iX4 (k := 0) (by decide) wd_338 (ym_gI_v e1) ?_
  refine ym_iconst (pc := 4) (v := 4) dX4_standingSum_4 (by decide) ?_
  by_cases c5 : v1 = 4
  · rw [if_pos c5] at hf
    refine ym_icmp_ne_y (pc := 5) (tgt := 29) dX4_standingSum_5 (by decide) c5 ?_
    refine ym_aload_n (pc := 8) 0 dX4_standingSum_8 rfl rfl ?_
    obtain ⟨o9, f9, hf⟩ := Option.bind_eq_some_iff.mp hf
    obtain ⟨q9, e9, hf⟩ := Option.bind_eq_some_iff.mp hf
    refine ym_callV (pc := 9) (G2 := g_X4_wasOpened) (dep2 := 2) (As := []) (st := []) (stk2 := [.int q9.1]) (r2 := (some (.int q9.1))) (h1 := q9.2) dX4_standingSum_9 (ok_X4_wasOpened e9) (sc_X4_standingSum_X4_wasOpened) wd_513 wd_514 wd_515 (ci := 4) (q0 := (RX4, TX4, 6)) rfl (by decide) rfl f9 rfl rfl (ym_st4 (Nat.le_of_ble_eq_true rfl)) rfl ?_
    by_cases c12 : q9.1 = 0
    · rw [if_pos c12] at hf
      refine ym_if_eq_y (pc := 12) (tgt := 27) dX4_standingSum_12 (by decide) c12 ?_
      refine ym_lconst (pc := 27) (v := 0) dX4_standingSum_27 (by decide) ?_
      cases hf
      exact ym_lret (pc := 28) dX4_standingSum_28 rfl
    · rw [if_neg c12] at hf
      refine ym_if_eq_n (pc := 12) (tgt := 27) dX4_standingSum_12 (by decide) c12 ?_
      refine ym_aload_n (pc := 15) 0 dX4_standingSum_15 rfl rfl ?_
      obtain ⟨v16, e16, hf⟩ := Option.bind_eq_some_iff.mp hf
      refine ym_get (pc := 16) dX4_standingSum_16 rfl (by decide) iX4 (k := 2) (by decide) wd_344 (ym_gR_v e16) ?_
      refine ym_bipush (pc := 19) (v := 6) dX4_standingSum_19 (by decide) ?_
      obtain ⟨o21, f21, hf⟩ := Option.bind_eq_some_iff.mp hf
      obtain ⟨q21, e21, hf⟩ := Option.bind_eq_some_iff.mp hf
      refine ym_callV (pc := 21) (G2 := g_X2_get) (dep2 := 1) (As := [.int 6]) (st := []) (stk2 := [.long q21.1]) (r2 := (some (.long q21.1))) (h1 := q21.2) dX4_standingSum_21 (ok_X2_get e21) (sc_X4_standingSum_X2_get) wd_389 wd_254 wd_255 (ci := 2) (q0 := (RX2, TX2, 2)) rfl (by decide) rfl f21 rfl rfl (ym_st4 (Nat.le_of_ble_eq_true rfl)) rfl ?_
      refine ym_goto (pc := 24) (tgt := 28) dX4_standingSum_24 (by decide) ?_
      cases hf
      exact ym_lret (pc := 28) dX4_standingSum_28 rfl
  · rw [if_neg c5] at hf
    refine ym_icmp_ne_n (pc := 5) (tgt := 29) dX4_standingSum_5 (by decide) c5 ?_
    refine ym_aload_n (pc := 29) 0 dX4_standingSum_29 rfl rfl ?_
    obtain ⟨v30, e30, hf⟩ := Option.bind_eq_some_iff.mp hf
    refine ym_get (pc := 30) dX4_standingSum_30 rfl (by decide) iX4 (k := 3) (by decide) wd_347 (ym_gR_v e30) ?_
    obtain ⟨o33, f33, hf⟩ := Option.bind_eq_some_iff.mp hf
    obtain ⟨q33, e33, hf⟩ := Option.bind_eq_some_iff.mp hf
    refine ym_callV (pc := 33) (G2 := g_X5_rows) (dep2 := 2) (As := []) (st := []) (stk2 := [.int q33.1]) (r2 := (some (.int q33.1))) (h1 := q33.2) dX4_standingSum_33 (ok_X5_rows e33) (sc_X4_standingSum_X5_rows) wd_472 wd_395 wd_396 (ci := 5) (q0 := (RX5, TX5, 2)) rfl (by decide) rfl f33 rfl rfl (ym_st4 (Nat.le_of_ble_eq_true rfl)) rfl ?_
    by_cases c36 : q33.1 = 0
    · rw [if_pos c36] at hf
      refine ym_if_ne_y (pc := 36) (tgt := 43) dX4_standingSum_36 (by decide) c36 ?_
      refine ym_lconst (pc := 39) (v := 0) dX4_standingSum_39 (by decide) ?_
      refine ym_goto (pc := 40) (tgt := 60) dX4_standingSum_40 (by decide) ?_
      cases hf
      exact ym_lret (pc := 60) dX4_standingSum_60 rfl
    · rw [if_neg c36] at hf
      refine ym_if_ne_n (pc := 36) (tgt := 43) dX4_standingSum_36 (by decide) c36 ?_
      refine ym_aload_n (pc := 43) 0 dX4_standingSum_43 rfl rfl ?_
      obtain ⟨v44, e44, hf⟩ := Option.bind_eq_some_iff.mp hf
      refine ym_get (pc := 44) dX4_standingSum_44 rfl (by decide) iX4 (k := 3) (by decide) wd_347 (ym_gR_v e44) ?_
      refine ym_aload_n (pc := 47) 0 dX4_standingSum_47 rfl rfl ?_
      obtain ⟨v48, e48, hf⟩ := Option.bind_eq_some_iff.mp hf
      refine ym_get (pc := 48) dX4_standingSum_48 rfl (by decide) iX4 (k := 3) (by decide) wd_347 (ym_gR_v e48) ?_
      obtain ⟨o51, f51, hf⟩ := Option.bind_eq_some_iff.mp hf
      obtain ⟨q51, e51, hf⟩ := Option.bind_eq_some_iff.mp hf
      refine ym_callV (pc := 51) (G2 := g_X5_rows) (dep2 := 2) (As := []) (st := [va_rf v44]) (stk2 := [.int q51.1, va_rf v44]) (r2 := (some (.int q51.1))) (h1 := q51.2) dX4_standingSum_51 (ok_X5_rows e51) (sc_X4_standingSum_X5_rows) wd_472 wd_395 wd_396 (ci := 5) (q0 := (RX5, TX5, 2)) rfl (by decide) rfl f51 rfl rfl (ym_st4 (Nat.le_of_ble_eq_true rfl)) rfl ?_
      refine ym_iconst (pc := 54) (v := 1) dX4_standingSum_54 (by decide) ?_
      refine ym_isub (pc := 55) dX4_standingSum_55 ?_
      refine ym_iconst (pc := 56) (v := 1) dX4_standingSum_56 (by decide) ?_
      obtain ⟨o57, f57, hf⟩ := Option.bind_eq_some_iff.mp hf
      obtain ⟨q57, e57, hf⟩ := Option.bind_eq_some_iff.mp hf
      refine ym_callV (pc := 57) (G2 := g_X5_at) (dep2 := 2) (As := [.int (q51.1 - 1), .int 1]) (st := []) (stk2 := [.long q57.1]) (r2 := (some (.long q57.1))) (h1 := q57.2) dX4_standingSum_57 (ok_X5_at e57) (sc_X4_standingSum_X5_at) wd_481 wd_400 wd_401 (ci := 5) (q0 := (RX5, TX5, 2)) rfl (by decide) rfl f57 rfl rfl (ym_st4 (Nat.le_of_ble_eq_true rfl)) rfl ?_
      cases hf
      exact ym_lret (pc := 60) dX4_standingSum_60 rfl
theorem dX6_after_0 : decode cX6_after 0 = .ok (.lconst 1, 1) := by decide +kernel
theorem dX6_after_1 : decode cX6_after 1 = .ok (.lstore_n 3, 1) := by decide +kernel
theorem dX6_after_2 : decode cX6_after 2 = .ok (.aload_n 0, 1) := by decide +kernel
theorem dX6_after_3 : decode cX6_after 3 = .ok (.getfield 12, 3) := by decide +kernel
theorem dX6_after_6 : decode cX6_after 6 = .ok (.invokevirtual 18, 3) := by decide +kernel
theorem dX6_after_9 : decode cX6_after 9 = .ok (.istore 5, 2) := by decide +kernel
theorem dX6_after_11 : decode cX6_after 11 = .ok (.iconst 0, 1) := by decide +kernel
theorem dX6_after_12 : decode cX6_after 12 = .ok (.istore 6, 2) := by decide +kernel
theorem dX6_after_14 : decode cX6_after 14 = .ok (.iload 6, 2) := by decide +kernel
theorem dX6_after_16 : decode cX6_after 16 = .ok (.iload 5, 2) := by decide +kernel
theorem dX6_after_18 : decode cX6_after 18 = .ok (.if_icmp .ge 35, 3) := by decide +kernel
theorem dX6_after_21 : decode cX6_after 21 = .ok (.aload_n 0, 1) := by decide +kernel
theorem dX6_after_22 : decode cX6_after 22 = .ok (.getfield 12, 3) := by decide +kernel
theorem dX6_after_25 : decode cX6_after 25 = .ok (.iload 6, 2) := by decide +kernel
theorem dX6_after_27 : decode cX6_after 27 = .ok (.iconst 0, 1) := by decide +kernel
theorem dX6_after_28 : decode cX6_after 28 = .ok (.invokevirtual 22, 3) := by decide +kernel
theorem dX6_after_31 : decode cX6_after 31 = .ok (.lload_n 1, 1) := by decide +kernel
theorem dX6_after_32 : decode cX6_after 32 = .ok (.lcmp, 1) := by decide +kernel
theorem dX6_after_33 : decode cX6_after 33 = .ok (.ifCond .gt 20, 3) := by decide +kernel
theorem dX6_after_36 : decode cX6_after 36 = .ok (.aload_n 0, 1) := by decide +kernel
theorem dX6_after_37 : decode cX6_after 37 = .ok (.getfield 12, 3) := by decide +kernel
theorem dX6_after_40 : decode cX6_after 40 = .ok (.iload 6, 2) := by decide +kernel
theorem dX6_after_42 : decode cX6_after 42 = .ok (.iconst 1, 1) := by decide +kernel
theorem dX6_after_43 : decode cX6_after 43 = .ok (.invokevirtual 22, 3) := by decide +kernel
theorem dX6_after_46 : decode cX6_after 46 = .ok (.lstore_n 3, 1) := by decide +kernel
theorem dX6_after_47 : decode cX6_after 47 = .ok (.iinc 6 1, 3) := by decide +kernel
theorem dX6_after_50 : decode cX6_after 50 = .ok (.goto (-36), 3) := by decide +kernel
theorem dX6_after_53 : decode cX6_after 53 = .ok (.lload_n 1, 1) := by decide +kernel
theorem dX6_after_54 : decode cX6_after 54 = .ok (.lload_n 3, 1) := by decide +kernel
theorem dX6_after_55 : decode cX6_after 55 = .ok (.ladd, 1) := by decide +kernel
theorem dX6_after_56 : decode cX6_after 56 = .ok (.lreturn, 1) := by decide +kernel
theorem sc_X6_after_X5_rows : ym_site g_X6_after g_X5_rows 3 2 0 := ⟨by decide, by decide, wd_397, wd_81, by decide +kernel⟩
theorem sc_X6_after_X5_at : ym_site g_X6_after g_X5_at 3 2 2 := ⟨by decide, by decide, wd_402, wd_81, by decide +kernel⟩
def lb_X6_after_14 (K : Option Nat → Int64 → Int64 → Int32 → Int32 → ym_H → Option ((Int64) × ym_H)) (N : Nat) (w0 : Option Nat) (w1 : Int64) (w3 : Int64) (w5 : Int32) (w6 : Int32) (h : ym_H) : Option ((Int64) × ym_H) :=
  if w5 ≤ w6 then
    some (w3, h)
  else
    Option.bind (ym_gR h w0 6 0) fun v22 =>
    Option.bind (ym_ob h v22 5) fun o28 =>
    Option.bind (fn_X5_at N v22 w6 0 h) fun q28 =>
    if w1 < q28.1 then
      some (w3, q28.2)
    else
      Option.bind (ym_gR q28.2 w0 6 0) fun v37 =>
      Option.bind (ym_ob q28.2 v37 5) fun o43 =>
      Option.bind (fn_X5_at N v37 w6 1 q28.2) fun q43 =>
      K w0 w1 q43.1 w5 (w6 + 1) q43.2
set_option maxRecDepth 20000 in
set_option maxHeartbeats 4000000 in
theorem ol_X6_after_14 {D : ym_D} {b0 : Nat} {K : Option Nat → Int64 → Int64 → Int32 → Int32 → ym_H → Option ((Int64) × ym_H)} {N : Nat} {w0 : Option Nat} {w1 : Int64} {w3 : Int64} {w5 : Int32} {w6 : Int32} {h h1 : ym_H} {x : (Int64)} (hKl : ∀ (u0 : Option Nat) (u3 : Int64) (u5 : Int32) (u6 : Int32) (h h1 : ym_H) (x : (Int64)), K u0 w1 u3 u5 u6 h = some (x, h1) → ∀ {r0 : Option Value} {h' : ym_H}, ym_Y D b0 g_X6_after 3 53 [(1, .long w1), (3, .long x)] [] h1 r0 h' → ym_Y D b0 g_X6_after 3 14 [(0, va_rf u0), (1, .long w1), (3, .long u3), (5, .int u5), (6, .int u6)] [] h r0 h') (hf : lb_X6_after_14 K N w0 w1 w3 w5 w6 h = some (x, h1)) {r0 : Option Value} {h' : ym_H} (k : ym_Y D b0 g_X6_after 3 53 [(1, .long w1), (3, .long x)] [] h1 r0 h') : ym_Y D b0 g_X6_after 3 14 [(0, va_rf w0), (1, .long w1), (3, .long w3), (5, .int w5), (6, .int w6)] [] h r0 h' := by
  unfold lb_X6_after_14 at hf
  refine ym_iload (pc := 14) 4 dX6_after_14 rfl ?_
  refine ym_iload (pc := 16) 3 dX6_after_16 rfl ?_
  by_cases c18 : w5 ≤ w6
  · rw [if_pos c18] at hf
    refine ym_icmp_ge_y (pc := 18) (tgt := 53) dX6_after_18 (by decide) c18 ?_
    cases hf
    exact ym_sub [1, 2] rfl k
  · rw [if_neg c18] at hf
    refine ym_icmp_ge_n (pc := 18) (tgt := 53) dX6_after_18 (by decide) c18 ?_
    refine ym_aload_n (pc := 21) 0 dX6_after_21 rfl rfl ?_
    obtain ⟨v22, e22, hf⟩ := Option.bind_eq_some_iff.mp hf
    refine ym_get (pc := 22) dX6_after_22 rfl (by decide) iX6 (k := 0) (by decide) wd_162 (ym_gR_v e22) ?_
    refine ym_iload (pc := 25) 4 dX6_after_25 rfl ?_
    refine ym_iconst (pc := 27) (v := 0) dX6_after_27 (by decide) ?_
    obtain ⟨o28, f28, hf⟩ := Option.bind_eq_some_iff.mp hf
    obtain ⟨q28, e28, hf⟩ := Option.bind_eq_some_iff.mp hf
    refine ym_callV (pc := 28) (G2 := g_X5_at) (dep2 := 2) (As := [.int w6, .int 0]) (st := []) (stk2 := [.long q28.1]) (r2 := (some (.long q28.1))) (h1 := q28.2) dX6_after_28 (ok_X5_at e28) (sc_X6_after_X5_at) wd_437 wd_400 wd_401 (ci := 5) (q0 := (RX5, TX5, 2)) rfl (by decide) rfl f28 rfl rfl (ym_st4 (Nat.le_of_ble_eq_true rfl)) rfl ?_
    refine ym_lload_n (pc := 31) 1 dX6_after_31 rfl rfl ?_
    by_cases c32 : w1 < q28.1
    · rw [if_pos c32] at hf
      refine ym_lcmp_gt_y (pc := 32) (tgt := 53) dX6_after_32 dX6_after_33 (by decide) c32 ?_
      cases hf
      exact ym_sub [1, 2] rfl k
    · rw [if_neg c32] at hf
      refine ym_lcmp_gt_n (pc := 32) (tgt := 53) dX6_after_32 dX6_after_33 (by decide) c32 ?_
      refine ym_aload_n (pc := 36) 0 dX6_after_36 rfl rfl ?_
      obtain ⟨v37, e37, hf⟩ := Option.bind_eq_some_iff.mp hf
      refine ym_get (pc := 37) dX6_after_37 rfl (by decide) iX6 (k := 0) (by decide) wd_162 (ym_gR_v e37) ?_
      refine ym_iload (pc := 40) 4 dX6_after_40 rfl ?_
      refine ym_iconst (pc := 42) (v := 1) dX6_after_42 (by decide) ?_
      obtain ⟨o43, f43, hf⟩ := Option.bind_eq_some_iff.mp hf
      obtain ⟨q43, e43, hf⟩ := Option.bind_eq_some_iff.mp hf
      refine ym_callV (pc := 43) (G2 := g_X5_at) (dep2 := 2) (As := [.int w6, .int 1]) (st := []) (stk2 := [.long q43.1]) (r2 := (some (.long q43.1))) (h1 := q43.2) dX6_after_43 (ok_X5_at e43) (sc_X6_after_X5_at) wd_437 wd_400 wd_401 (ci := 5) (q0 := (RX5, TX5, 2)) rfl (by decide) rfl f43 rfl rfl (ym_st4 (Nat.le_of_ble_eq_true rfl)) rfl ?_
      refine ym_lstore_n (pc := 46) (lv' := [(3, .long q43.1), (0, va_rf w0), (1, .long w1), (5, .int w5), (6, .int w6)]) dX6_after_46 rfl (by decide) ⟨trivial, trivial, trivial, trivial, trivial, trivial⟩ rfl ?_
      refine ym_iinc (pc := 47) (lv' := [(6, .int (w6 + 1)), (3, .long q43.1), (0, va_rf w0), (1, .long w1), (5, .int w5)]) (v := (w6 + 1)) 4 dX6_after_47 rfl (by rw [show Int32.ofInt 1 = 1 by decide]) (by decide) ⟨trivial, trivial, trivial, rfl, trivial, trivial⟩ rfl ?_
      refine ym_goto (pc := 50) (tgt := 14) dX6_after_50 (by decide) ?_
      exact ym_sub [2, 3, 1, 4, 0] rfl (hKl _ _ _ _ _ _ _ hf k)
def lp_X6_after_14 (N : Nat) : Nat → Option Nat → Int64 → Int64 → Int32 → Int32 → ym_H → Option ((Int64) × ym_H)
  | 0, _, _, _, _, _, _ => none
  | n + 1, w0, w1, w3, w5, w6, h => lb_X6_after_14 (lp_X6_after_14 N n) N w0 w1 w3 w5 w6 h
set_option maxRecDepth 20000 in
set_option maxHeartbeats 4000000 in
theorem ok_lp_X6_after_14 {D : ym_D} {b0 : Nat} {N : Nat} {w1 : Int64} : ∀ (n : Nat) (w0 : Option Nat) (w3 : Int64) (w5 : Int32) (w6 : Int32) (h h1 : ym_H) (x : (Int64)), lp_X6_after_14 N n w0 w1 w3 w5 w6 h = some (x, h1) → ∀ {r0 : Option Value} {h' : ym_H}, ym_Y D b0 g_X6_after 3 53 [(1, .long w1), (3, .long x)] [] h1 r0 h' → ym_Y D b0 g_X6_after 3 14 [(0, va_rf w0), (1, .long w1), (3, .long w3), (5, .int w5), (6, .int w6)] [] h r0 h' := by
  intro n
  induction n with
  | zero =>
    intro w0 w3 w5 w6 h h1 x hf
    cases hf
  | succ n ih =>
    intro w0 w3 w5 w6 h h1 x hf r0 h' k
    exact ol_X6_after_14 (fun w0 w3 w5 w6 h h1 x z r0 h' k => ih w0 w3 w5 w6 h h1 x z k) hf k
def fn_X6_after (N : Nat) (a0 : Option Nat) (a1 : Int64) (h : ym_H) : Option (Int64 × ym_H) :=
  Option.bind (ym_gR h a0 6 0) fun v3 =>
  Option.bind (ym_ob h v3 5) fun o6 =>
  Option.bind (fn_X5_rows N v3 h) fun q6 =>
  Option.bind (lp_X6_after_14 N N a0 a1 1 q6.1 0 q6.2) fun q14 =>
  some ((a1 + q14.1), q14.2)
set_option maxRecDepth 20000 in
set_option maxHeartbeats 4000000 in
theorem ok_X6_after {D : ym_D} {b0 : Nat} {N : Nat} {a0 : Option Nat} {a1 : Int64} {h h' : ym_H} {r : Int64} (hf : fn_X6_after N a0 a1 h = some (r, h')) : ym_M D b0 g_X6_after 3 [va_rf a0, .long a1] h (some (.long r)) h' := by
  unfold fn_X6_after at hf
  refine ym_meth (lv := [(0, va_rf a0), (1, .long a1)]) (by decide) (by simp [lg_sl, ym_c1, ym_cI, ym_cL, g_X6_after]) (by simp [lv_args, ym_c1, ym_cI, ym_cL]) ?_
  refine ym_lconst (pc := 0) (v := 1) dX6_after_0 (by decide) ?_
  refine ym_lstore_n (pc := 1) (lv' := [(3, .long 1), (0, va_rf a0), (1, .long a1)]) dX6_after_1 rfl (by decide) ⟨trivial, trivial, trivial⟩ rfl ?_
  refine ym_aload_n (pc := 2) 1 dX6_after_2 rfl rfl ?_
  obtain ⟨v3, e3, hf⟩ := Option.bind_eq_some_iff.mp hf
  refine ym_get (pc := 3) dX6_after_3 rfl (by decide) iX6 (k := 0) (by decide) wd_162 (ym_gR_v e3) ?_
  obtain ⟨o6, f6, hf⟩ := Option.bind_eq_some_iff.mp hf
  obtain ⟨q6, e6, hf⟩ := Option.bind_eq_some_iff.mp hf
  refine ym_callV (pc := 6) (G2 := g_X5_rows) (dep2 := 2) (As := []) (st := []) (stk2 := [.int q6.1]) (r2 := (some (.int q6.1))) (h1 := q6.2) dX6_after_6 (ok_X5_rows e6) (sc_X6_after_X5_rows) wd_432 wd_395 wd_396 (ci := 5) (q0 := (RX5, TX5, 2)) rfl (by decide) rfl f6 rfl rfl (ym_st4 (Nat.le_of_ble_eq_true rfl)) rfl ?_
  refine ym_istore (pc := 9) (lv' := [(5, .int q6.1), (3, .long 1), (0, va_rf a0), (1, .long a1)]) dX6_after_9 (by decide) ⟨trivial, trivial, trivial, trivial⟩ rfl ?_
  refine ym_iconst (pc := 11) (v := 0) dX6_after_11 (by decide) ?_
  refine ym_istore (pc := 12) (lv' := [(6, .int 0), (5, .int q6.1), (3, .long 1), (0, va_rf a0), (1, .long a1)]) dX6_after_12 (by decide) ⟨rfl, trivial, trivial, trivial, trivial⟩ rfl ?_
  obtain ⟨q14, e14, hf⟩ := Option.bind_eq_some_iff.mp hf
  refine ym_sub (lv' := [(0, va_rf a0), (1, .long a1), (3, .long 1), (5, .int q6.1), (6, .int 0)]) [3, 4, 2, 1, 0] rfl ?_
  refine ok_lp_X6_after_14 N _ _ _ _ _ _ _ e14 ?_
  refine ym_lload_n (pc := 53) 0 dX6_after_53 rfl rfl ?_
  refine ym_lload_n (pc := 54) 1 dX6_after_54 rfl rfl ?_
  refine ym_ladd (pc := 55) dX6_after_55 ?_
  cases hf
  exact ym_lret (pc := 56) dX6_after_56 rfl
