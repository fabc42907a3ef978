theorem dX3_takeBackTo_0 : decode cX3_takeBackTo 0 = .ok (.iload_n 1, 1) := by decide +kernel
theorem dX3_takeBackTo_1 : decode cX3_takeBackTo 1 = .ok (.ifCond .lt 11, 3) := by decide +kernel
theorem dX3_takeBackTo_4 : decode cX3_takeBackTo 4 = .ok (.iload_n 1, 1) := by decide +kernel
theorem dX3_takeBackTo_5 : decode cX3_takeBackTo 5 = .ok (.aload_n 0, 1) := by decide +kernel
theorem dX3_takeBackTo_6 : decode cX3_takeBackTo 6 = .ok (.getfield 28, 3) := by decide +kernel
theorem dX3_takeBackTo_9 : decode cX3_takeBackTo 9 = .ok (.if_icmp .lt 4, 3) := by decide +kernel
theorem dX3_takeBackTo_12 : decode cX3_takeBackTo 12 = .ok (.return_, 1) := by decide +kernel
theorem dX3_takeBackTo_13 : decode cX3_takeBackTo 13 = .ok (.aload_n 0, 1) := by decide +kernel
theorem dX3_takeBackTo_14 : decode cX3_takeBackTo 14 = .ok (.getfield 25, 3) := by decide +kernel
theorem dX3_takeBackTo_17 : decode cX3_takeBackTo 17 = .ok (.iload_n 1, 1) := by decide +kernel
theorem dX3_takeBackTo_18 : decode cX3_takeBackTo 18 = .ok (.iaload, 1) := by decide +kernel
theorem dX3_takeBackTo_19 : decode cX3_takeBackTo 19 = .ok (.istore_n 2, 1) := by decide +kernel
theorem dX3_takeBackTo_20 : decode cX3_takeBackTo 20 = .ok (.aload_n 0, 1) := by decide +kernel
theorem dX3_takeBackTo_21 : decode cX3_takeBackTo 21 = .ok (.getfield 32, 3) := by decide +kernel
theorem dX3_takeBackTo_24 : decode cX3_takeBackTo 24 = .ok (.iconst 1, 1) := by decide +kernel
theorem dX3_takeBackTo_25 : decode cX3_takeBackTo 25 = .ok (.isub, 1) := by decide +kernel
theorem dX3_takeBackTo_26 : decode cX3_takeBackTo 26 = .ok (.istore_n 3, 1) := by decide +kernel
theorem dX3_takeBackTo_27 : decode cX3_takeBackTo 27 = .ok (.iload_n 3, 1) := by decide +kernel
theorem dX3_takeBackTo_28 : decode cX3_takeBackTo 28 = .ok (.iload_n 2, 1) := by decide +kernel
theorem dX3_takeBackTo_29 : decode cX3_takeBackTo 29 = .ok (.if_icmp .lt 39, 3) := by decide +kernel
theorem dX3_takeBackTo_32 : decode cX3_takeBackTo 32 = .ok (.aload_n 0, 1) := by decide +kernel
theorem dX3_takeBackTo_33 : decode cX3_takeBackTo 33 = .ok (.getfield 11, 3) := by decide +kernel
theorem dX3_takeBackTo_36 : decode cX3_takeBackTo 36 = .ok (.iload_n 3, 1) := by decide +kernel
theorem dX3_takeBackTo_37 : decode cX3_takeBackTo 37 = .ok (.aaload, 1) := by decide +kernel
theorem dX3_takeBackTo_38 : decode cX3_takeBackTo 38 = .ok (.astore 4, 2) := by decide +kernel
theorem dX3_takeBackTo_40 : decode cX3_takeBackTo 40 = .ok (.aload 4, 2) := by decide +kernel
theorem dX3_takeBackTo_42 : decode cX3_takeBackTo 42 = .ok (.ifnull 20, 3) := by decide +kernel
theorem dX3_takeBackTo_45 : decode cX3_takeBackTo 45 = .ok (.aload 4, 2) := by decide +kernel
theorem dX3_takeBackTo_47 : decode cX3_takeBackTo 47 = .ok (.aload_n 0, 1) := by decide +kernel
theorem dX3_takeBackTo_48 : decode cX3_takeBackTo 48 = .ok (.getfield 17, 3) := by decide +kernel
theorem dX3_takeBackTo_51 : decode cX3_takeBackTo 51 = .ok (.iload_n 3, 1) := by decide +kernel
theorem dX3_takeBackTo_52 : decode cX3_takeBackTo 52 = .ok (.iaload, 1) := by decide +kernel
theorem dX3_takeBackTo_53 : decode cX3_takeBackTo 53 = .ok (.aload_n 0, 1) := by decide +kernel
theorem dX3_takeBackTo_54 : decode cX3_takeBackTo 54 = .ok (.getfield 21, 3) := by decide +kernel
theorem dX3_takeBackTo_57 : decode cX3_takeBackTo 57 = .ok (.iload_n 3, 1) := by decide +kernel
theorem dX3_takeBackTo_58 : decode cX3_takeBackTo 58 = .ok (.laload, 1) := by decide +kernel
theorem dX3_takeBackTo_59 : decode cX3_takeBackTo 59 = .ok (.invokevirtual 55, 3) := by decide +kernel
theorem dX3_takeBackTo_62 : decode cX3_takeBackTo 62 = .ok (.iinc 3 (-1), 3) := by decide +kernel
theorem dX3_takeBackTo_65 : decode cX3_takeBackTo 65 = .ok (.goto (-38), 3) := by decide +kernel
theorem dX3_takeBackTo_68 : decode cX3_takeBackTo 68 = .ok (.aload_n 0, 1) := by decide +kernel
theorem dX3_takeBackTo_69 : decode cX3_takeBackTo 69 = .ok (.iload_n 2, 1) := by decide +kernel
theorem dX3_takeBackTo_70 : decode cX3_takeBackTo 70 = .ok (.putfield 32, 3) := by decide +kernel
theorem dX3_takeBackTo_73 : decode cX3_takeBackTo 73 = .ok (.aload_n 0, 1) := by decide +kernel
theorem dX3_takeBackTo_74 : decode cX3_takeBackTo 74 = .ok (.iload_n 1, 1) := by decide +kernel
theorem dX3_takeBackTo_75 : decode cX3_takeBackTo 75 = .ok (.putfield 28, 3) := by decide +kernel
theorem dX3_takeBackTo_78 : decode cX3_takeBackTo 78 = .ok (.return_, 1) := by decide +kernel
def bl_X3_takeBackTo_62_27 (K : Option Nat → Int32 → Int32 → Int32 → ym_H → Option ((Unit) × ym_H)) (N : Nat) (w0 : Option Nat) (w1 : Int32) (w2 : Int32) (w3 : Int32) (h : ym_H) : Option ((Unit) × ym_H) :=
  K w0 w1 w2 (w3 + (-1)) h
set_option maxRecDepth 20000 in
set_option maxHeartbeats 4000000 in
theorem ob_X3_takeBackTo_62_27 {D : ym_D} {b0 : Nat} {K : Option Nat → Int32 → Int32 → Int32 → ym_H → Option ((Unit) × ym_H)} {N : Nat} {w0 : Option Nat} {w1 : Int32} {w2 : Int32} {w3 : Int32} {h h1 : ym_H} {x : (Unit)} (hKl : ∀ (u3 : Int32) (h h1 : ym_H) (x : (Unit)), K w0 w1 w2 u3 h = some (x, h1) → ∀ {r0 : Option Value} {h' : ym_H}, ym_Y D b0 g_X3_takeBackTo 2 68 [(0, va_rf w0), (1, .int w1), (2, .int w2)] [] h1 r0 h' → ym_Y D b0 g_X3_takeBackTo 2 27 [(0, va_rf w0), (1, .int w1), (2, .int w2), (3, .int u3)] [] h r0 h') (hf : bl_X3_takeBackTo_62_27 K N w0 w1 w2 w3 h = some (x, h1)) {r0 : Option Value} {h' : ym_H} (k : ym_Y D b0 g_X3_takeBackTo 2 68 [(0, va_rf w0), (1, .int w1), (2, .int w2)] [] h1 r0 h') : ym_Y D b0 g_X3_takeBackTo 2 62 [(0, va_rf w0), (1, .int w1), (2, .int w2), (3, .int w3)] [] h r0 h' := by
  unfold bl_X3_takeBackTo_62_27 at hf
  refine ym_iinc (pc := 62) (lv' := [(3, .int (w3 + (-1))), (0, va_rf w0), (1, .int w1), (2, .int w2)]) (v := (w3 + (-1))) 3 dX3_takeBackTo_62 rfl (by rw [show Int32.ofInt (-1) = (-1) by decide]) (by decide) ⟨trivial, trivial, rfl, trivial, trivial⟩ rfl ?_
  refine ym_goto (pc := 65) (tgt := 27) dX3_takeBackTo_65 (by decide) ?_
  exact ym_sub [1, 2, 3, 0] rfl (hKl _ _ _ _ hf k)
theorem sc_X3_takeBackTo_X2_set : ym_site g_X3_takeBackTo g_X2_set 2 1 2 := ⟨by decide, by decide, wd_244, wd_78, by decide +kernel⟩
def lb_X3_takeBackTo_27 (K : Option Nat → Int32 → Int32 → Int32 → ym_H → Option ((Unit) × ym_H)) (N : Nat) (w0 : Option Nat) (w1 : Int32) (w2 : Int32) (w3 : Int32) (h : ym_H) : Option ((Unit) × ym_H) :=
  if w3 < w2 then
    some ((), h)
  else
    Option.bind (ym_gR h w0 3 0) fun v33 =>
    Option.bind (ym_ldR h v33 3 w3) fun v37 =>
    if v37 = none then
      bl_X3_takeBackTo_62_27 K N w0 w1 w2 w3 h
    else
      Option.bind (ym_gR h w0 3 1) fun v48 =>
      Option.bind (ym_ldI h v48 w3) fun v52 =>
      Option.bind (ym_gR h w0 3 2) fun v54 =>
      Option.bind (ym_ldL h v54 w3) fun v58 =>
      Option.bind (ym_ob h v37 2) fun o59 =>
      Option.bind (fn_X2_set N v37 v52 v58 h) fun q59 =>
      bl_X3_takeBackTo_62_27 K N w0 w1 w2 w3 q59.2
set_option maxRecDepth 20000 in
set_option maxHeartbeats 4000000 in
theorem ol_X3_takeBackTo_27 {D : ym_D} {b0 : Nat} {K : Option Nat → Int32 → Int32 → Int32 → ym_H → Option ((Unit) × ym_H)} {N : Nat} {w0 : Option Nat} {w1 : Int32} {w2 : Int32} {w3 : Int32} {h h1 : ym_H} {x : (Unit)} (hKl : ∀ (u3 : Int32) (h h1 : ym_H) (x : (Unit)), K w0 w1 w2 u3 h = some (x, h1) → ∀ {r0 : Option Value} {h' : ym_H}, ym_Y D b0 g_X3_takeBackTo 2 68 [(0, va_rf w0), (1, .int w1), (2, .int w2)] [] h1 r0 h' → ym_Y D b0 g_X3_takeBackTo 2 27 [(0, va_rf w0), (1, .int w1), (2, .int w2), (3, .int u3)] [] h r0 h') (hf : lb_X3_takeBackTo_27 K N w0 w1 w2 w3 h = some (x, h1)) {r0 : Option Value} {h' : ym_H} (k : ym_Y D b0 g_X3_takeBackTo 2 68 [(0, va_rf w0), (1, .int w1), (2, .int w2)] [] h1 r0 h') : ym_Y D b0 g_X3_takeBackTo 2 27 [(0, va_rf w0), (1, .int w1), (2, .int w2), (3, .int w3)] [] h r0 h' := by
  unfold lb_X3_takeBackTo_27 at hf
  refine ym_iload_n (pc := 27) 3 dX3_takeBackTo_27 rfl rfl ?_
  refine ym_iload_n (pc := 28) 2 dX3_takeBackTo_28 rfl rfl ?_
  by_cases c29 : w3 < w2
  · rw [if_pos c29] at hf
    refine ym_icmp_lt_y (pc := 29) (tgt := 68) dX3_takeBackTo_29 (by decide) c29 ?_
    cases hf
    exact ym_sub [0, 1, 2] rfl k
  · rw [if_neg c29] at hf
    refine ym_icmp_lt_n (pc := 29) (tgt := 68) dX3_takeBackTo_29 (by decide) c29 ?_
    refine ym_aload_n (pc := 32) 0 dX3_takeBackTo_32 rfl rfl ?_
    obtain ⟨v33, e33, hf⟩ := Option.bind_eq_some_iff.mp hf
    refine ym_get (pc := 33) dX3_takeBackTo_33 rfl (by decide) iX3 (k := 0) (by decide) wd_104 (ym_gR_v e33) ?_
    refine ym_iload_n (pc := 36) 3 dX3_takeBackTo_36 rfl rfl ?_
    obtain ⟨v37, e37, hf⟩ := Option.bind_eq_some_iff.mp hf
    refine ym_aald (pc := 37) dX3_takeBackTo_37 rfl (by decide) (by decide) rfl (ym_ldR_v e37) ?_
    refine ym_astore (pc := 38) (lv' := [(4, va_rf v37), (0, va_rf w0), (1, .int w1), (2, .int w2), (3, .int w3)]) dX3_takeBackTo_38 (by decide) ⟨trivial, trivial, trivial, rfl, trivial⟩ rfl ?_
    refine ym_aload (pc := 40) 0 dX3_takeBackTo_40 rfl ?_
    by_cases c42 : v37 = none
    · rw [if_pos c42] at hf
      refine ym_ifnull_y (pc := 42) (tgt := 62) dX3_takeBackTo_42 (by decide) c42 ?_
      exact ym_sub [1, 2, 3, 4] rfl (ob_X3_takeBackTo_62_27 hKl hf k)
    · rw [if_neg c42] at hf
      refine ym_ifnull_n (pc := 42) (tgt := 62) dX3_takeBackTo_42 (by decide) c42 ?_
      refine ym_aload (pc := 45) 0 dX3_takeBackTo_45 rfl ?_
      refine ym_aload_n (pc := 47) 1 dX3_takeBackTo_47 rfl rfl ?_
      obtain ⟨v48, e48, hf⟩ := Option.bind_eq_some_iff.mp hf
      refine ym_get (pc := 48) dX3_takeBackTo_48 rfl (by decide) iX3 (k := 1) (by decide) wd_105 (ym_gR_v e48) ?_
      refine ym_iload_n (pc := 51) 4 dX3_takeBackTo_51 rfl rfl ?_
      obtain ⟨v52, e52, hf⟩ := Option.bind_eq_some_iff.mp hf
      refine ym_iald (pc := 52) dX3_takeBackTo_52 rfl (ym_ldI_v e52) ?_
      refine ym_aload_n (pc := 53) 1 dX3_takeBackTo_53 rfl rfl ?_
      obtain ⟨v54, e54, hf⟩ := Option.bind_eq_some_iff.mp hf
      refine ym_get (pc := 54) dX3_takeBackTo_54 rfl (by decide) iX3 (k := 2) (by decide) wd_106 (ym_gR_v e54) ?_
      refine ym_iload_n (pc := 57) 4 dX3_takeBackTo_57 rfl rfl ?_
      obtain ⟨v58, e58, hf⟩ := Option.bind_eq_some_iff.mp hf
      refine ym_lald (pc := 58) dX3_takeBackTo_58 rfl (ym_ldL_v e58) ?_
      obtain ⟨o59, f59, hf⟩ := Option.bind_eq_some_iff.mp hf
      obtain ⟨q59, e59, hf⟩ := Option.bind_eq_some_iff.mp hf
      refine ym_callV (pc := 59) (G2 := g_X2_set) (dep2 := 1) (As := [.int v52, .long v58]) (st := []) (stk2 := []) (r2 := none) (h1 := q59.2) dX3_takeBackTo_59 (ok_X2_set e59) (sc_X3_takeBackTo_X2_set) wd_241 wd_242 wd_243 (ci := 2) (q0 := (RX2, TX2, 2)) rfl (by decide) rfl f59 rfl rfl (ym_st4 (Nat.le_of_ble_eq_true rfl)) rfl ?_
      exact ym_sub [1, 2, 3, 4] rfl (ob_X3_takeBackTo_62_27 hKl hf k)
def lp_X3_takeBackTo_27 (N : Nat) : Nat → Option Nat → Int32 → Int32 → Int32 → ym_H → Option ((Unit) × ym_H)
  | 0, _, _, _, _, _ => none
  | n + 1, w0, w1, w2, w3, h => lb_X3_takeBackTo_27 (lp_X3_takeBackTo_27 N n) N w0 w1 w2 w3 h
set_option maxRecDepth 20000 in
set_option maxHeartbeats 4000000 in
theorem ok_lp_X3_takeBackTo_27 {D : ym_D} {b0 : Nat} {N : Nat} {w0 : Option Nat} {w1 : Int32} {w2 : Int32} : ∀ (n : Nat) (w3 : Int32) (h h1 : ym_H) (x : (Unit)), lp_X3_takeBackTo_27 N n w0 w1 w2 w3 h = some (x, h1) → ∀ {r0 : Option Value} {h' : ym_H}, ym_Y D b0 g_X3_takeBackTo 2 68 [(0, va_rf w0), (1, .int w1), (2, .int w2)] [] h1 r0 h' → ym_Y D b0 g_X3_takeBackTo 2 27 [(0, va_rf w0), (1, .int w1), (2, .int w2), (3, .int w3)] [] h r0 h' := by
  intro n
  induction n with
  | zero =>
    intro w3 h h1 x hf
    cases hf
  | succ n ih =>
    intro w3 h h1 x hf r0 h' k
    exact ol_X3_takeBackTo_27 (fun w3 h h1 x z r0 h' k => ih w3 h h1 x z k) hf k
def fn_X3_takeBackTo (N : Nat) (a0 : Option Nat) (a1 : Int32) (h : ym_H) : Option (Unit × ym_H) :=
  if a1 < 0 then
    some ((), h)
  else
    Option.bind (ym_gI h a0 3 5) fun v6 =>
    if a1 < v6 then
      Option.bind (ym_gR h a0 3 4) fun v14 =>
      Option.bind (ym_ldI h v14 a1) fun v18 =>
      Option.bind (ym_gI h a0 3 3) fun v21 =>
      Option.bind (lp_X3_takeBackTo_27 N N a0 a1 v18 (v21 - 1) h) fun q27 =>
      Option.bind (ym_pf q27.2 a0 3 3 (.int v18)) fun h70 =>
      Option.bind (ym_pf h70 a0 3 5 (.int a1)) fun h75 =>
      some ((), h75)
    else
      some ((), h)
set_option maxRecDepth 20000 in
set_option maxHeartbeats 4000000 in
theorem ok_X3_takeBackTo {D : ym_D} {b0 : Nat} {N : Nat} {a0 : Option Nat} {a1 : Int32} {h h' : ym_H} {r : Unit} (hf : fn_X3_takeBackTo N a0 a1 h = some (r, h')) : ym_M D b0 g_X3_takeBackTo 2 [va_rf a0, .int a1] h none h' := by
  unfold fn_X3_takeBackTo at hf
  refine ym_meth (lv := [(0, va_rf a0), (1, .int a1)]) (by decide) (by simp [lg_sl, ym_c1, ym_cI, ym_cL, g_X3_takeBackTo]) (by simp [lv_args, ym_c1, ym_cI, ym_cL]) ?_
  refine ym_iload_n (pc := 0) 1 dX3_takeBackTo_0 rfl rfl ?_
  by_cases c1 : a1 < 0
  · rw [if_pos c1] at hf
    refine ym_if_lt_y (pc := 1) (tgt := 12) dX3_takeBackTo_1 (by decide) c1 ?_
    cases hf
    exact ym_vret (pc := 12) dX3_takeBackTo_12 rfl
  · rw [if_neg c1] at hf
    refine ym_if_lt_n (pc := 1) (tgt := 12) dX3_takeBackTo_1 (by decide) c1 ?_
    refine ym_iload_n (pc := 4) 1 dX3_takeBackTo_4 rfl rfl ?_
    refine ym_aload_n (pc := 5) 0 dX3_takeBackTo_5 rfl rfl ?_
    obtain ⟨v6, e6, hf⟩ := Option.bind_eq_some_iff.mp hf
    refine ym_get (pc := 6) dX3_takeBackTo_6 rfl (by decide) iX3 (k := 5) (by decide) wd_109 (ym_gI_v e6) ?_
    by_cases c9 : a1 < v6
    · rw [if_pos c9] at hf
      refine ym_icmp_lt_y (pc := 9) (tgt := 13) dX3_takeBackTo_9 (by decide) c9 ?_
      refine ym_aload_n (pc := 13) 0 dX3_takeBackTo_13 rfl rfl ?_
      obtain ⟨v14, e14, hf⟩ := Option.bind_eq_some_iff.mp hf
      refine ym_get (pc := 14) dX3_takeBackTo_14 rfl (by decide) iX3 (k := 4) (by decide) wd_108 (ym_gR_v e14) ?_
      refine ym_iload_n (pc := 17) 1 dX3_takeBackTo_17 rfl rfl ?_
      obtain ⟨v18, e18, hf⟩ := Option.bind_eq_some_iff.mp hf
      refine ym_iald (pc := 18) dX3_takeBackTo_18 rfl (ym_ldI_v e18) ?_
      refine ym_istore_n (pc := 19) (lv' := [(2, .int v18), (0, va_rf a0), (1, .int a1)]) dX3_takeBackTo_19 rfl (by decide) ⟨trivial, rfl, trivial⟩ rfl ?_
      refine ym_aload_n (pc := 20) 1 dX3_takeBackTo_20 rfl rfl ?_
      obtain ⟨v21, e21, hf⟩ := Option.bind_eq_some_iff.mp hf
      refine ym_get (pc := 21) dX3_takeBackTo_21 rfl (by decide) iX3 (k := 3) (by decide) wd_107 (ym_gI_v e21) ?_
      refine ym_iconst (pc := 24) (v := 1) dX3_takeBackTo_24 (by decide) ?_
      refine ym_isub (pc := 25) dX3_takeBackTo_25 ?_
      refine ym_istore_n (pc := 26) (lv' := [(3, .int (v21 - 1)), (2, .int v18), (0, va_rf a0), (1, .int a1)]) dX3_takeBackTo_26 rfl (by decide) ⟨rfl, trivial, trivial, trivial⟩ rfl ?_
      obtain ⟨q27, e27, hf⟩ := Option.bind_eq_some_iff.mp hf
      refine ym_sub (lv' := [(0, va_rf a0), (1, .int a1), (2, .int v18), (3, .int (v21 - 1))]) [2, 3, 1, 0] rfl ?_
      refine ok_lp_X3_takeBackTo_27 N _ _ _ _ e27 ?_
      refine ym_aload_n (pc := 68) 0 dX3_takeBackTo_68 rfl rfl ?_
      refine ym_iload_n (pc := 69) 2 dX3_takeBackTo_69 rfl rfl ?_
      obtain ⟨h70, e70, hf⟩ := Option.bind_eq_some_iff.mp hf
      refine ym_put (pc := 70) (h1 := h70) dX3_takeBackTo_70 rfl (by decide) iX3 tyX3 tyX3_ok nmX3 (k := 3) (by decide) wd_107 rfl (tyX3_ok 3 (by decide)) rfl rfl e70 ?_
      refine ym_aload_n (pc := 73) 0 dX3_takeBackTo_73 rfl rfl ?_
      refine ym_iload_n (pc := 74) 1 dX3_takeBackTo_74 rfl rfl ?_
      obtain ⟨h75, e75, hf⟩ := Option.bind_eq_some_iff.mp hf
      refine ym_put (pc := 75) (h1 := h75) dX3_takeBackTo_75 rfl (by decide) iX3 tyX3 tyX3_ok nmX3 (k := 5) (by decide) wd_109 rfl (tyX3_ok 5 (by decide)) rfl rfl e75 ?_
      cases hf
      exact ym_vret (pc := 78) dX3_takeBackTo_78 rfl
    · rw [if_neg c9] at hf
      refine ym_icmp_lt_n (pc := 9) (tgt := 13) dX3_takeBackTo_9 (by decide) c9 ?_
      cases hf
      exact ym_vret (pc := 12) dX3_takeBackTo_12 rfl
theorem dX3_takeBackAll_0 : decode cX3_takeBackAll 0 = .ok (.aload_n 0, 1) := by decide +kernel
theorem dX3_takeBackAll_1 : decode cX3_takeBackAll 1 = .ok (.iconst 0, 1) := by decide +kernel
theorem dX3_takeBackAll_2 : decode cX3_takeBackAll 2 = .ok (.invokevirtual 51, 3) := by decide +kernel
theorem dX3_takeBackAll_5 : decode cX3_takeBackAll 5 = .ok (.return_, 1) := by decide +kernel
theorem sc_X3_takeBackAll_X3_takeBackTo : ym_site g_X3_takeBackAll g_X3_takeBackTo 3 2 1 := ⟨by decide, by decide, wd_240, wd_77, by decide +kernel⟩
def fn_X3_takeBackAll (N : Nat) (a0 : Option Nat) (h : ym_H) : Option (Unit × ym_H) :=
  Option.bind (ym_ob h a0 3) fun o2 =>
  Option.bind (fn_X3_takeBackTo N a0 0 h) fun q2 =>
  some ((), q2.2)
set_option maxRecDepth 20000 in
set_option maxHeartbeats 4000000 in
theorem ok_X3_takeBackAll {D : ym_D} {b0 : Nat} {N : Nat} {a0 : Option Nat} {h h' : ym_H} {r : Unit} (hf : fn_X3_takeBackAll N a0 h = some (r, h')) : ym_M D b0 g_X3_takeBackAll 3 [va_rf a0] h none h' := by
  unfold fn_X3_takeBackAll at hf
  refine ym_meth (lv := [(0, va_rf a0)]) (by decide) (by simp [lg_sl, ym_c1, ym_cI, ym_cL, g_X3_takeBackAll]) (by simp [lv_args, ym_c1, ym_cI, ym_cL]) ?_
  refine ym_aload_n (pc := 0) 0 dX3_takeBackAll_0 rfl rfl ?_
  refine ym_iconst (pc := 1) (v := 0) dX3_takeBackAll_1 (by decide) ?_
  obtain ⟨o2, f2, hf⟩ := Option.bind_eq_some_iff.mp hf
  obtain ⟨q2, e2, hf⟩ := Option.bind_eq_some_iff.mp hf
  refine ym_callV (pc := 2) (G2 := g_X3_takeBackTo) (dep2 := 2) (As := [.int 0]) (st := []) (stk2 := []) (r2 := none) (h1 := q2.2) dX3_takeBackAll_2 (ok_X3_takeBackTo e2) (sc_X3_takeBackAll_X3_takeBackTo) wd_237 wd_239 wd_2 (ci := 3) (q0 := (RX3, TX3, 6)) rfl (by decide) rfl f2 rfl rfl (ym_st4 (Nat.le_of_ble_eq_true rfl)) rfl ?_
  cases hf
  exact ym_vret (pc := 5) dX3_takeBackAll_5 rfl
theorem dX3_takeBackBatch_0 : decode cX3_takeBackBatch 0 = .ok (.aload_n 0, 1) := by decide +kernel
theorem dX3_takeBackBatch_1 : decode cX3_takeBackBatch 1 = .ok (.aload_n 0, 1) := by decide +kernel
theorem dX3_takeBackBatch_2 : decode cX3_takeBackBatch 2 = .ok (.getfield 28, 3) := by decide +kernel
theorem dX3_takeBackBatch_5 : decode cX3_takeBackBatch 5 = .ok (.iconst 1, 1) := by decide +kernel
theorem dX3_takeBackBatch_6 : decode cX3_takeBackBatch 6 = .ok (.isub, 1) := by decide +kernel
theorem dX3_takeBackBatch_7 : decode cX3_takeBackBatch 7 = .ok (.invokevirtual 51, 3) := by decide +kernel
theorem dX3_takeBackBatch_10 : decode cX3_takeBackBatch 10 = .ok (.return_, 1) := by decide +kernel
theorem sc_X3_takeBackBatch_X3_takeBackTo : ym_site g_X3_takeBackBatch g_X3_takeBackTo 3 2 1 := ⟨by decide, by decide, wd_240, wd_77, by decide +kernel⟩
def fn_X3_takeBackBatch (N : Nat) (a0 : Option Nat) (h : ym_H) : Option (Unit × ym_H) :=
  Option.bind (ym_gI h a0 3 5) fun v2 =>
  Option.bind (ym_ob h a0 3) fun o7 =>
  Option.bind (fn_X3_takeBackTo N a0 (v2 - 1) h) fun q7 =>
  some ((), q7.2)
set_option maxRecDepth 20000 in
set_option maxHeartbeats 4000000 in
theorem ok_X3_takeBackBatch {D : ym_D} {b0 : Nat} {N : Nat} {a0 : Option Nat} {h h' : ym_H} {r : Unit} (hf : fn_X3_takeBackBatch N a0 h = some (r, h')) : ym_M D b0 g_X3_takeBackBatch 3 [va_rf a0] h none h' := by
  unfold fn_X3_takeBackBatch at hf
  refine ym_meth (lv := [(0, va_rf a0)]) (by decide) (by simp [lg_sl, ym_c1, ym_cI, ym_cL, g_X3_takeBackBatch]) (by simp [lv_args, ym_c1, ym_cI, ym_cL]) ?_
  refine ym_aload_n (pc := 0) 0 dX3_takeBackBatch_0 rfl rfl ?_
  refine ym_aload_n (pc := 1) 0 dX3_takeBackBatch_1 rfl rfl ?_
  obtain ⟨v2, e2, hf⟩ := Option.bind_eq_some_iff.mp hf
  refine ym_get (pc := 2) dX3_takeBackBatch_2 rfl (by decide) iX3 (k := 5) (by decide) wd_109 (ym_gI_v e2) ?_
  refine ym_iconst (pc := 5) (v := 1) dX3_takeBackBatch_5 (by decide) ?_
  refine ym_isub (pc := 6) dX3_takeBackBatch_6 ?_
  obtain ⟨o7, f7, hf⟩ := Option.bind_eq_some_iff.mp hf
  obtain ⟨q7, e7, hf⟩ := Option.bind_eq_some_iff.mp hf
  refine ym_callV (pc := 7) (G2 := g_X3_takeBackTo) (dep2 := 2) (As := [.int (v2 - 1)]) (st := []) (stk2 := []) (r2 := none) (h1 := q7.2) dX3_takeBackBatch_7 (ok_X3_takeBackTo e7) (sc_X3_takeBackBatch_X3_takeBackTo) wd_237 wd_239 wd_2 (ci := 3) (q0 := (RX3, TX3, 6)) rfl (by decide) rfl f7 rfl rfl (ym_st4 (Nat.le_of_ble_eq_true rfl)) rfl ?_
  cases hf
  exact ym_vret (pc := 10) dX3_takeBackBatch_10 rfl
theorem dX5_addRow_0 : decode cX5_addRow 0 = .ok (.aload_n 0, 1) := by decide +kernel
theorem dX5_addRow_1 : decode cX5_addRow 1 = .ok (.invokevirtual 28, 3) := by decide +kernel
theorem dX5_addRow_4 : decode cX5_addRow 4 = .ok (.istore_n 1, 1) := by decide +kernel
theorem dX5_addRow_5 : decode cX5_addRow 5 = .ok (.aload_n 0, 1) := by decide +kernel
theorem dX5_addRow_6 : decode cX5_addRow 6 = .ok (.getfield 14, 3) := by decide +kernel
theorem dX5_addRow_9 : decode cX5_addRow 9 = .ok (.iconst 0, 1) := by decide +kernel
theorem dX5_addRow_10 : decode cX5_addRow 10 = .ok (.iload_n 1, 1) := by decide +kernel
theorem dX5_addRow_11 : decode cX5_addRow 11 = .ok (.iconst 1, 1) := by decide +kernel
theorem dX5_addRow_12 : decode cX5_addRow 12 = .ok (.iadd, 1) := by decide +kernel
theorem dX5_addRow_13 : decode cX5_addRow 13 = .ok (.i2l, 1) := by decide +kernel
theorem dX5_addRow_14 : decode cX5_addRow 14 = .ok (.invokevirtual 32, 3) := by decide +kernel
theorem dX5_addRow_17 : decode cX5_addRow 17 = .ok (.iload_n 1, 1) := by decide +kernel
theorem dX5_addRow_18 : decode cX5_addRow 18 = .ok (.ireturn, 1) := by decide +kernel
theorem sc_X5_addRow_X5_rows : ym_site g_X5_addRow g_X5_rows 5 2 0 := ⟨by decide, by decide, wd_397, wd_81, by decide +kernel⟩
theorem sc_X5_addRow_X2_put : ym_site g_X5_addRow g_X2_put 5 4 2 := ⟨by decide, by decide, wd_284, wd_78, by decide +kernel⟩
def fn_X5_addRow (N : Nat) (a0 : Option Nat) (h : ym_H) : Option (Int32 × ym_H) :=
  Option.bind (ym_ob h a0 5) fun o1 =>
  Option.bind (fn_X5_rows N a0 h) fun q1 =>
  Option.bind (ym_gR q1.2 a0 5 0) fun v6 =>
  Option.bind (ym_ob q1.2 v6 2) fun o14 =>
  Option.bind (fn_X2_put N v6 0 (Int32.toInt64 (q1.1 + 1)) q1.2) fun q14 =>
  some (q1.1, q14.2)
set_option maxRecDepth 20000 in
set_option maxHeartbeats 4000000 in
theorem ok_X5_addRow {D : ym_D} {b0 : Nat} {N : Nat} {a0 : Option Nat} {h h' : ym_H} {r : Int32} (hf : fn_X5_addRow N a0 h = some (r, h')) : ym_M D b0 g_X5_addRow 5 [va_rf a0] h (some (.int r)) h' := by
  unfold fn_X5_addRow at hf
  refine ym_meth (lv := [(0, va_rf a0)]) (by decide) (by simp [lg_sl, ym_c1, ym_cI, ym_cL, g_X5_addRow]) (by simp [lv_args, ym_c1, ym_cI, ym_cL]) ?_
  refine ym_aload_n (pc := 0) 0 dX5_addRow_0 rfl rfl ?_
  obtain ⟨o1, f1, hf⟩ := Option.bind_eq_some_iff.mp hf
  obtain ⟨q1, e1, hf⟩ := Option.bind_eq_some_iff.mp hf
  refine ym_callV (pc := 1) (G2 := g_X5_rows) (dep2 := 2) (As := []) (st := []) (stk2 := [.int q1.1]) (r2 := (some (.int q1.1))) (h1 := q1.2) dX5_addRow_1 (ok_X5_rows e1) (sc_X5_addRow_X5_rows) wd_394 wd_395 wd_396 (ci := 5) (q0 := (RX5, TX5, 2)) rfl (by decide) rfl f1 rfl rfl (ym_st4 (Nat.le_of_ble_eq_true rfl)) rfl ?_
  refine ym_istore_n (pc := 4) (lv' := [(1, .int q1.1), (0, va_rf a0)]) dX5_addRow_4 rfl (by decide) ⟨ym_c1 a0, trivial⟩ rfl ?_
  refine ym_aload_n (pc := 5) 1 dX5_addRow_5 rfl rfl ?_
  obtain ⟨v6, e6, hf⟩ := Option.bind_eq_some_iff.mp hf
  refine ym_get (pc := 6) dX5_addRow_6 rfl (by decide) iX5 (k := 0) (by decide) wd_155 (ym_gR_v e6) ?_
  refine ym_iconst (pc := 9) (v := 0) dX5_addRow_9 (by decide) ?_
  refine ym_iload_n (pc := 10) 0 dX5_addRow_10 rfl rfl ?_
  refine ym_iconst (pc := 11) (v := 1) dX5_addRow_11 (by decide) ?_
  refine ym_iadd (pc := 12) dX5_addRow_12 ?_
  refine ym_i2l (pc := 13) dX5_addRow_13 ?_
  obtain ⟨o14, f14, hf⟩ := Option.bind_eq_some_iff.mp hf
  obtain ⟨q14, e14, hf⟩ := Option.bind_eq_some_iff.mp hf
  refine ym_callV (pc := 14) (G2 := g_X2_put) (dep2 := 4) (As := [.int 0, .long (Int32.toInt64 (q1.1 + 1))]) (st := []) (stk2 := []) (r2 := none) (h1 := q14.2) dX5_addRow_14 (ok_X2_put e14) (sc_X5_addRow_X2_put) wd_408 wd_282 wd_283 (ci := 2) (q0 := (RX2, TX2, 2)) rfl (by decide) rfl f14 rfl rfl (ym_st4 (Nat.le_of_ble_eq_true rfl)) rfl ?_
  refine ym_iload_n (pc := 17) 0 dX5_addRow_17 rfl rfl ?_
  cases hf
  exact ym_iret (pc := 18) dX5_addRow_18 rfl
theorem dX5_put_0 : decode cX5_put 0 = .ok (.aload_n 0, 1) := by decide +kernel
theorem dX5_put_1 : decode cX5_put 1 = .ok (.getfield 14, 3) := by decide +kernel
theorem dX5_put_4 : decode cX5_put 4 = .ok (.iconst 1, 1) := by decide +kernel
theorem dX5_put_5 : decode cX5_put 5 = .ok (.iload_n 1, 1) := by decide +kernel
theorem dX5_put_6 : decode cX5_put 6 = .ok (.aload_n 0, 1) := by decide +kernel
theorem dX5_put_7 : decode cX5_put 7 = .ok (.getfield 20, 3) := by decide +kernel
theorem dX5_put_10 : decode cX5_put 10 = .ok (.imul, 1) := by decide +kernel
theorem dX5_put_11 : decode cX5_put 11 = .ok (.iadd, 1) := by decide +kernel
theorem dX5_put_12 : decode cX5_put 12 = .ok (.iload_n 2, 1) := by decide +kernel
theorem dX5_put_13 : decode cX5_put 13 = .ok (.iadd, 1) := by decide +kernel
theorem dX5_put_14 : decode cX5_put 14 = .ok (.lload_n 3, 1) := by decide +kernel
theorem dX5_put_15 : decode cX5_put 15 = .ok (.invokevirtual 32, 3) := by decide +kernel
theorem dX5_put_18 : decode cX5_put 18 = .ok (.return_, 1) := by decide +kernel
theorem sc_X5_put_X2_put : ym_site g_X5_put g_X2_put 5 4 2 := ⟨by decide, by decide, wd_284, wd_78, by decide +kernel⟩
def fn_X5_put (N : Nat) (a0 : Option Nat) (a1 : Int32) (a2 : Int32) (a3 : Int64) (h : ym_H) : Option (Unit × ym_H) :=
  Option.bind (ym_gR h a0 5 0) fun v1 =>
  Option.bind (ym_gI h a0 5 1) fun v7 =>
  Option.bind (ym_ob h v1 2) fun o15 =>
  Option.bind (fn_X2_put N v1 ((1 + (a1 * v7)) + a2) a3 h) fun q15 =>
  some ((), q15.2)
set_option maxRecDepth 20000 in
set_option maxHeartbeats 4000000 in
theorem ok_X5_put {D : ym_D} {b0 : Nat} {N : Nat} {a0 : Option Nat} {a1 : Int32} {a2 : Int32} {a3 : Int64} {h h' : ym_H} {r : Unit} (hf : fn_X5_put N a0 a1 a2 a3 h = some (r, h')) : ym_M D b0 g_X5_put 5 [va_rf a0, .int a1, .int a2, .long a3] h none h' := by
  unfold fn_X5_put at hf
  refine ym_meth (lv := [(0, va_rf a0), (1, .int a1), (2, .int a2), (3, .long a3)]) (by decide) (by simp [lg_sl, ym_c1, ym_cI, ym_cL, g_X5_put]) (by simp [lv_args, ym_c1, ym_cI, ym_cL]) ?_
  refine ym_aload_n (pc := 0) 0 dX5_put_0 rfl rfl ?_
  obtain ⟨v1, e1, hf⟩ := Option.bind_eq_some_iff.mp hf
  refine ym_get (pc := 1) dX5_put_1 rfl (by decide) iX5 (k := 0) (by decide) wd_155 (ym_gR_v e1) ?_
  refine ym_iconst (pc := 4) (v := 1) dX5_put_4 (by decide) ?_
  refine ym_iload_n (pc := 5) 1 dX5_put_5 rfl rfl ?_
  refine ym_aload_n (pc := 6) 0 dX5_put_6 rfl rfl ?_
  obtain ⟨v7, e7, hf⟩ := Option.bind_eq_some_iff.mp hf
  refine ym_get (pc := 7) dX5_put_7 rfl (by decide) iX5 (k := 1) (by decide) wd_156 (ym_gI_v e7) ?_
  refine ym_imul (pc := 10) dX5_put_10 ?_
  refine ym_iadd (pc := 11) dX5_put_11 ?_
  refine ym_iload_n (pc := 12) 2 dX5_put_12 rfl rfl ?_
  refine ym_iadd (pc := 13) dX5_put_13 ?_
  refine ym_lload_n (pc := 14) 3 dX5_put_14 rfl rfl ?_
  obtain ⟨o15, f15, hf⟩ := Option.bind_eq_some_iff.mp hf
  obtain ⟨q15, e15, hf⟩ := Option.bind_eq_some_iff.mp hf
  refine ym_callV (pc := 15) (G2 := g_X2_put) (dep2 := 4) (As := [.int ((1 + (a1 * v7)) + a2), .long a3]) (st := []) (stk2 := []) (r2 := none) (h1 := q15.2) dX5_put_15 (ok_X2_put e15) (sc_X5_put_X2_put) wd_408 wd_282 wd_283 (ci := 2) (q0 := (RX2, TX2, 2)) rfl (by decide) rfl f15 rfl rfl (ym_st4 (Nat.le_of_ble_eq_true rfl)) rfl ?_
  cases hf
  exact ym_vret (pc := 18) dX5_put_18 rfl
theorem dX4_enter_0 : decode cX4_enter 0 = .ok (.aload_n 0, 1) := by decide +kernel
theorem dX4_enter_1 : decode cX4_enter 1 = .ok (.getfield 31, 3) := by decide +kernel
theorem dX4_enter_4 : decode cX4_enter 4 = .ok (.invokevirtual 76, 3) := by decide +kernel
theorem dX4_enter_7 : decode cX4_enter 7 = .ok (.istore 4, 2) := by decide +kernel
theorem dX4_enter_9 : decode cX4_enter 9 = .ok (.aload_n 0, 1) := by decide +kernel
theorem dX4_enter_10 : decode cX4_enter 10 = .ok (.getfield 31, 3) := by decide +kernel
theorem dX4_enter_13 : decode cX4_enter 13 = .ok (.iload 4, 2) := by decide +kernel
theorem dX4_enter_15 : decode cX4_enter 15 = .ok (.iconst 0, 1) := by decide +kernel
theorem dX4_enter_16 : decode cX4_enter 16 = .ok (.iload_n 1, 1) := by decide +kernel
theorem dX4_enter_17 : decode cX4_enter 17 = .ok (.i2l, 1) := by decide +kernel
theorem dX4_enter_18 : decode cX4_enter 18 = .ok (.invokevirtual 79, 3) := by decide +kernel
theorem dX4_enter_21 : decode cX4_enter 21 = .ok (.aload_n 0, 1) := by decide +kernel
theorem dX4_enter_22 : decode cX4_enter 22 = .ok (.getfield 31, 3) := by decide +kernel
theorem dX4_enter_25 : decode cX4_enter 25 = .ok (.iload 4, 2) := by decide +kernel
theorem dX4_enter_27 : decode cX4_enter 27 = .ok (.iconst 1, 1) := by decide +kernel
theorem dX4_enter_28 : decode cX4_enter 28 = .ok (.lload_n 2, 1) := by decide +kernel
theorem dX4_enter_29 : decode cX4_enter 29 = .ok (.invokevirtual 79, 3) := by decide +kernel
theorem dX4_enter_32 : decode cX4_enter 32 = .ok (.return_, 1) := by decide +kernel
theorem sc_X4_enter_X5_addRow : ym_site g_X4_enter g_X5_addRow 6 5 0 := ⟨by decide, by decide, wd_407, wd_81, by decide +kernel⟩
theorem sc_X4_enter_X5_put : ym_site g_X4_enter g_X5_put 6 5 3 := ⟨by decide, by decide, wd_412, wd_81, by decide +kernel⟩
def fn_X4_enter (N : Nat) (a0 : Option Nat) (a1 : Int32) (a2 : Int64) (h : ym_H) : Option (Unit × ym_H) :=
  Option.bind (ym_gR h a0 4 3) fun v1 =>
  Option.bind (ym_ob h v1 5) fun o4 =>
  Option.bind (fn_X5_addRow N v1 h) fun q4 =>
  Option.bind (ym_gR q4.2 a0 4 3) fun v10 =>
  Option.bind (ym_ob q4.2 v10 5) fun o18 =>
  Option.bind (fn_X5_put N v10 q4.1 0 (Int32.toInt64 a1) q4.2) fun q18 =>
  Option.bind (ym_gR q18.2 a0 4 3) fun v22 =>
  Option.bind (ym_ob q18.2 v22 5) fun o29 =>
  Option.bind (fn_X5_put N v22 q4.1 1 a2 q18.2) fun q29 =>
  some ((), q29.2)
set_option maxRecDepth 20000 in
set_option maxHeartbeats 4000000 in
theorem ok_X4_enter {D : ym_D} {b0 : Nat} {N : Nat} {a0 : Option Nat} {a1 : Int32} {a2 : Int64} {h h' : ym_H} {r : Unit} (hf : fn_X4_enter N a0 a1 a2 h = some (r, h')) : ym_M D b0 g_X4_enter 6 [va_rf a0, .int a1, .long a2] h none h' := by
  unfold fn_X4_enter at hf
  refine ym_meth (lv := [(0, va_rf a0), (1, .int a1), (2, .long a2)]) (by decide) (by simp [lg_sl, ym_c1, ym_cI, ym_cL, g_X4_enter]) (by simp [lv_args, ym_c1, ym_cI, ym_cL]) ?_
  refine ym_aload_n (pc := 0) 0 dX4_enter_0 rfl rfl ?_
  obtain ⟨v1, e1, hf⟩ := Option.bind_eq_some_iff.mp hf
  refine ym_get (pc := 1) dX4_enter_1 rfl (by decide) iX4 (k := 3) (by decide) wd_347 (ym_gR_v e1) ?_
  obtain ⟨o4, f4, hf⟩ := Option.bind_eq_some_iff.mp hf
  obtain ⟨q4, e4, hf⟩ := Option.bind_eq_some_iff.mp hf
  refine ym_callV (pc := 4) (G2 := g_X5_addRow) (dep2 := 5) (As := []) (st := []) (stk2 := [.int q4.1]) (r2 := (some (.int q4.1))) (h1 := q4.2) dX4_enter_4 (ok_X5_addRow e4) (sc_X4_enter_X5_addRow) wd_525 wd_405 wd_406 (ci := 5) (q0 := (RX5, TX5, 2)) rfl (by decide) rfl f4 rfl rfl (ym_st4 (Nat.le_of_ble_eq_true rfl)) rfl ?_
  refine ym_istore (pc := 7) (lv' := [(4, .int q4.1), (0, va_rf a0), (1, .int a1), (2, .long a2)]) dX4_enter_7 (by decide) ⟨trivial, trivial, trivial, trivial⟩ rfl ?_
  refine ym_aload_n (pc := 9) 1 dX4_enter_9 rfl rfl ?_
  obtain ⟨v10, e10, hf⟩ := Option.bind_eq_some_iff.mp hf
  refine ym_get (pc := 10) dX4_enter_10 rfl (by decide) iX4 (k := 3) (by decide) wd_347 (ym_gR_v e10) ?_
  refine ym_iload (pc := 13) 0 dX4_enter_13 rfl ?_
  refine ym_iconst (pc := 15) (v := 0) dX4_enter_15 (by decide) ?_
  refine ym_iload_n (pc := 16) 2 dX4_enter_16 rfl rfl ?_
  refine ym_i2l (pc := 17) dX4_enter_17 ?_
  obtain ⟨o18, f18, hf⟩ := Option.bind_eq_some_iff.mp hf
  obtain ⟨q18, e18, hf⟩ := Option.bind_eq_some_iff.mp hf
  refine ym_callV (pc := 18) (G2 := g_X5_put) (dep2 := 5) (As := [.int q4.1, .int 0, .long (Int32.toInt64 a1)]) (st := []) (stk2 := []) (r2 := none) (h1 := q18.2) dX4_enter_18 (ok_X5_put e18) (sc_X4_enter_X5_put) wd_526 wd_410 wd_411 (ci := 5) (q0 := (RX5, TX5, 2)) rfl (by decide) rfl f18 rfl rfl (ym_st4 (Nat.le_of_ble_eq_true rfl)) rfl ?_
  refine ym_aload_n (pc := 21) 1 dX4_enter_21 rfl rfl ?_
  obtain ⟨v22, e22, hf⟩ := Option.bind_eq_some_iff.mp hf
  refine ym_get (pc := 22) dX4_enter_22 rfl (by decide) iX4 (k := 3) (by decide) wd_347 (ym_gR_v e22) ?_
  refine ym_iload (pc := 25) 0 dX4_enter_25 rfl ?_
  refine ym_iconst (pc := 27) (v := 1) dX4_enter_27 (by decide) ?_
  refine ym_lload_n (pc := 28) 3 dX4_enter_28 rfl rfl ?_
  obtain ⟨o29, f29, hf⟩ := Option.bind_eq_some_iff.mp hf
  obtain ⟨q29, e29, hf⟩ := Option.bind_eq_some_iff.mp hf
  refine ym_callV (pc := 29) (G2 := g_X5_put) (dep2 := 5) (As := [.int q4.1, .int 1, .long a2]) (st := []) (stk2 := []) (r2 := none) (h1 := q29.2) dX4_enter_29 (ok_X5_put e29) (sc_X4_enter_X5_put) wd_526 wd_410 wd_411 (ci := 5) (q0 := (RX5, TX5, 2)) rfl (by decide) rfl f29 rfl rfl (ym_st4 (Nat.le_of_ble_eq_true rfl)) rfl ?_
  cases hf
  exact ym_vret (pc := 32) dX4_enter_32 rfl
theorem dX4_enterBid_0 : decode cX4_enterBid 0 = .ok (.aload_n 0, 1) := by decide +kernel
theorem dX4_enterBid_1 : decode cX4_enterBid 1 = .ok (.iload_n 1, 1) := by decide +kernel
theorem dX4_enterBid_2 : decode cX4_enterBid 2 = .ok (.lload_n 2, 1) := by decide +kernel
theorem dX4_enterBid_3 : decode cX4_enterBid 3 = .ok (.invokevirtual 83, 3) := by decide +kernel
theorem dX4_enterBid_6 : decode cX4_enterBid 6 = .ok (.aload_n 0, 1) := by decide +kernel
theorem dX4_enterBid_7 : decode cX4_enterBid 7 = .ok (.getfield 24, 3) := by decide +kernel
theorem dX4_enterBid_10 : decode cX4_enterBid 10 = .ok (.bipush 7, 2) := by decide +kernel
theorem dX4_enterBid_12 : decode cX4_enterBid 12 = .ok (.lload_n 2, 1) := by decide +kernel
theorem dX4_enterBid_13 : decode cX4_enterBid 13 = .ok (.invokevirtual 86, 3) := by decide +kernel
theorem dX4_enterBid_16 : decode cX4_enterBid 16 = .ok (.aload_n 0, 1) := by decide +kernel
theorem dX4_enterBid_17 : decode cX4_enterBid 17 = .ok (.getfield 24, 3) := by decide +kernel
theorem dX4_enterBid_20 : decode cX4_enterBid 20 = .ok (.bipush 8, 2) := by decide +kernel
theorem dX4_enterBid_22 : decode cX4_enterBid 22 = .ok (.iload 4, 2) := by decide +kernel
theorem dX4_enterBid_24 : decode cX4_enterBid 24 = .ok (.i2l, 1) := by decide +kernel
theorem dX4_enterBid_25 : decode cX4_enterBid 25 = .ok (.invokevirtual 86, 3) := by decide +kernel
theorem dX4_enterBid_28 : decode cX4_enterBid 28 = .ok (.return_, 1) := by decide +kernel
theorem sc_X4_enterBid_X4_enter : ym_site g_X4_enterBid g_X4_enter 7 6 2 := ⟨by decide, by decide, wd_524, wd_87, by decide +kernel⟩
theorem sc_X4_enterBid_X2_put : ym_site g_X4_enterBid g_X2_put 7 4 2 := ⟨by decide, by decide, wd_284, wd_78, by decide +kernel⟩
def fn_X4_enterBid (N : Nat) (a0 : Option Nat) (a1 : Int32) (a2 : Int64) (a4 : Int32) (h : ym_H) : Option (Unit × ym_H) :=
  Option.bind (ym_ob h a0 4) fun o3 =>
  Option.bind (fn_X4_enter N a0 a1 a2 h) fun q3 =>
  Option.bind (ym_gR q3.2 a0 4 2) fun v7 =>
  Option.bind (ym_ob q3.2 v7 2) fun o13 =>
  Option.bind (fn_X2_put N v7 7 a2 q3.2) fun q13 =>
  Option.bind (ym_gR q13.2 a0 4 2) fun v17 =>
  Option.bind (ym_ob q13.2 v17 2) fun o25 =>
  Option.bind (fn_X2_put N v17 8 (Int32.toInt64 a4) q13.2) fun q25 =>
  some ((), q25.2)
set_option maxRecDepth 20000 in
set_option maxHeartbeats 4000000 in
theorem ok_X4_enterBid {D : ym_D} {b0 : Nat} {N : Nat} {a0 : Option Nat} {a1 : Int32} {a2 : Int64} {a4 : Int32} {h h' : ym_H} {r : Unit} (hf : fn_X4_enterBid N a0 a1 a2 a4 h = some (r, h')) : ym_M D b0 g_X4_enterBid 7 [va_rf a0, .int a1, .long a2, .int a4] h none h' := by
  unfold fn_X4_enterBid at hf
  refine ym_meth (lv := [(0, va_rf a0), (1, .int a1), (2, .long a2), (4, .int a4)]) (by decide) (by simp [lg_sl, ym_c1, ym_cI, ym_cL, g_X4_enterBid]) (by simp [lv_args, ym_c1, ym_cI, ym_cL]) ?_
  refine ym_aload_n (pc := 0) 0 dX4_enterBid_0 rfl rfl ?_
  refine ym_iload_n (pc := 1) 1 dX4_enterBid_1 rfl rfl ?_
  refine ym_lload_n (pc := 2) 2 dX4_enterBid_2 rfl rfl ?_
  obtain ⟨o3, f3, hf⟩ := Option.bind_eq_some_iff.mp hf
  obtain ⟨q3, e3, hf⟩ := Option.bind_eq_some_iff.mp hf
  refine ym_callV (pc := 3) (G2 := g_X4_enter) (dep2 := 6) (As := [.int a1, .long a2]) (st := []) (stk2 := []) (r2 := none) (h1 := q3.2) dX4_enterBid_3 (ok_X4_enter e3) (sc_X4_enterBid_X4_enter) wd_592 wd_522 wd_523 (ci := 4) (q0 := (RX4, TX4, 6)) rfl (by decide) rfl f3 rfl rfl (ym_st4 (Nat.le_of_ble_eq_true rfl)) rfl ?_
  refine ym_aload_n (pc := 6) 0 dX4_enterBid_6 rfl rfl ?_
  obtain ⟨v7, e7, hf⟩ := Option.bind_eq_some_iff.mp hf
  refine ym_get (pc := 7) dX4_enterBid_7 rfl (by decide) iX4 (k := 2) (by decide) wd_344 (ym_gR_v e7) ?_
  refine ym_bipush (pc := 10) (v := 7) dX4_enterBid_10 (by decide) ?_
  refine ym_lload_n (pc := 12) 2 dX4_enterBid_12 rfl rfl ?_
  obtain ⟨o13, f13, hf⟩ := Option.bind_eq_some_iff.mp hf
  obtain ⟨q13, e13, hf⟩ := Option.bind_eq_some_iff.mp hf
  refine ym_callV (pc := 13) (G2 := g_X2_put) (dep2 := 4) (As := [.int 7, .long a2]) (st := []) (stk2 := []) (r2 := none) (h1 := q13.2) dX4_enterBid_13 (ok_X2_put e13) (sc_X4_enterBid_X2_put) wd_593 wd_282 wd_283 (ci := 2) (q0 := (RX2, TX2, 2)) rfl (by decide) rfl f13 rfl rfl (ym_st4 (Nat.le_of_ble_eq_true rfl)) rfl ?_
  refine ym_aload_n (pc := 16) 0 dX4_enterBid_16 rfl rfl ?_
  obtain ⟨v17, e17, hf⟩ := Option.bind_eq_some_iff.mp hf
  refine ym_get (pc := 17) dX4_enterBid_17 rfl (by decide) iX4 (k := 2) (by decide) wd_344 (ym_gR_v e17) ?_
  refine ym_bipush (pc := 20) (v := 8) dX4_enterBid_20 (by decide) ?_
  refine ym_iload (pc := 22) 3 dX4_enterBid_22 rfl ?_
  refine ym_i2l (pc := 24) dX4_enterBid_24 ?_
  obtain ⟨o25, f25, hf⟩ := Option.bind_eq_some_iff.mp hf
  obtain ⟨q25, e25, hf⟩ := Option.bind_eq_some_iff.mp hf
  refine ym_callV (pc := 25) (G2 := g_X2_put) (dep2 := 4) (As := [.int 8, .long (Int32.toInt64 a4)]) (st := []) (stk2 := []) (r2 := none) (h1 := q25.2) dX4_enterBid_25 (ok_X2_put e25) (sc_X4_enterBid_X2_put) wd_593 wd_282 wd_283 (ci := 2) (q0 := (RX2, TX2, 2)) rfl (by decide) rfl f25 rfl rfl (ym_st4 (Nat.le_of_ble_eq_true rfl)) rfl ?_
  cases hf
  exact ym_vret (pc := 28) dX4_enterBid_28 rfl
theorem dX4_isLimit_0 : decode cX4_isLimit 0 = .ok (.iload_n 1, 1) := by decide +kernel
theorem dX4_isLimit_1 : decode cX4_isLimit 1 = .ok (.aload_n 0, 1) := by decide +kernel
theorem dX4_isLimit_2 : decode cX4_isLimit 2 = .ok (.getfield 35, 3) := by decide +kernel
theorem dX4_isLimit_5 : decode cX4_isLimit 5 = .ok (.invokevirtual 62, 3) := by decide +kernel
theorem dX4_isLimit_8 : decode cX4_isLimit 8 = .ok (.if_icmp .ge 7, 3) := by decide +kernel
theorem dX4_isLimit_11 : decode cX4_isLimit 11 = .ok (.iconst 1, 1) := by decide +kernel
theorem dX4_isLimit_12 : decode cX4_isLimit 12 = .ok (.goto 4, 3) := by decide +kernel
theorem dX4_isLimit_15 : decode cX4_isLimit 15 = .ok (.iconst 0, 1) := by decide +kernel
theorem dX4_isLimit_16 : decode cX4_isLimit 16 = .ok (.ireturn, 1) := by decide +kernel
theorem sc_X4_isLimit_X5_rows : ym_site g_X4_isLimit g_X5_rows 3 2 0 := ⟨by decide, by decide, wd_397, wd_81, by decide +kernel⟩
def fn_X4_isLimit (N : Nat) (a0 : Option Nat) (a1 : Int32) (h : ym_H) : Option (Int32 × ym_H) :=
  Option.bind (ym_gR h a0 4 4) fun v2 =>
  Option.bind (ym_ob h v2 5) fun o5 =>
  Option.bind (fn_X5_rows N v2 h) fun q5 =>
  if q5.1 ≤ a1 then
    some (0, q5.2)
  else
    some (1, q5.2)
set_option maxRecDepth 20000 in
set_option maxHeartbeats 4000000 in
theorem ok_X4_isLimit {D : ym_D} {b0 : Nat} {N : Nat} {a0 : Option Nat} {a1 : Int32} {h h' : ym_H} {r : Int32} (hf : fn_X4_isLimit N a0 a1 h = some (r, h')) : ym_M D b0 g_X4_isLimit 3 [va_rf a0, .int a1] h (some (.int r)) h' := by
  unfold fn_X4_isLimit at hf
  refine ym_meth (lv := [(0, va_rf a0), (1, .int a1)]) (by decide) (by simp [lg_sl, ym_c1, ym_cI, ym_cL, g_X4_isLimit]) (by simp [lv_args, ym_c1, ym_cI, ym_cL]) ?_
  refine ym_iload_n (pc := 0) 1 dX4_isLimit_0 rfl rfl ?_
  refine ym_aload_n (pc := 1) 0 dX4_isLimit_1 rfl rfl ?_
  obtain ⟨v2, e2, hf⟩ := Option.bind_eq_some_iff.mp hf
  refine ym_get (pc := 2) dX4_isLimit_2 rfl (by decide) iX4 (k := 4) (by decide) wd_349 (ym_gR_v e2) ?_
  obtain ⟨o5, f5, hf⟩ := Option.bind_eq_some_iff.mp hf
  obtain ⟨q5, e5, hf⟩ := Option.bind_eq_some_iff.mp hf
  refine ym_callV (pc := 5) (G2 := g_X5_rows) (dep2 := 2) (As := []) (st := [.int a1]) (stk2 := [.int q5.1, .int a1]) (r2 := (some (.int q5.1))) (h1 := q5.2) dX4_isLimit_5 (ok_X5_rows e5) (sc_X4_isLimit_X5_rows) wd_472 wd_395 wd_396 (ci := 5) (q0 := (RX5, TX5, 2)) rfl (by decide) rfl f5 rfl rfl (ym_st4 (Nat.le_of_ble_eq_true rfl)) rfl ?_
  by_cases c8 : q5.1 ≤ a1
  · rw [if_pos c8] at hf
    refine ym_icmp_ge_y (pc := 8) (tgt := 15) dX4_isLimit_8 (by decide) c8 ?_
    refine ym_iconst (pc := 15) (v := 0) dX4_isLimit_15 (by decide) ?_
    cases hf
    exact ym_zret (pc := 16) dX4_isLimit_16 rfl rfl
  · rw [if_neg c8] at hf
    refine ym_icmp_ge_n (pc := 8) (tgt := 15) dX4_isLimit_8 (by decide) c8 ?_
    refine ym_iconst (pc := 11) (v := 1) dX4_isLimit_11 (by decide) ?_
    refine ym_goto (pc := 12) (tgt := 16) dX4_isLimit_12 (by decide) ?_
    cases hf
    exact ym_zret (pc := 16) dX4_isLimit_16 rfl rfl
theorem dX4_rivalSum_0 : decode cX4_rivalSum 0 = .ok (.aload_n 0, 1) := by decide +kernel
theorem dX4_rivalSum_1 : decode cX4_rivalSum 1 = .ok (.iload_n 1, 1) := by decide +kernel
theorem dX4_rivalSum_2 : decode cX4_rivalSum 2 = .ok (.invokevirtual 98, 3) := by decide +kernel
theorem dX4_rivalSum_5 : decode cX4_rivalSum 5 = .ok (.ifCond .eq 15, 3) := by decide +kernel
theorem dX4_rivalSum_8 : decode cX4_rivalSum 8 = .ok (.aload_n 0, 1) := by decide +kernel
theorem dX4_rivalSum_9 : decode cX4_rivalSum 9 = .ok (.getfield 35, 3) := by decide +kernel
theorem dX4_rivalSum_12 : decode cX4_rivalSum 12 = .ok (.iload_n 1, 1) := by decide +kernel
theorem dX4_rivalSum_13 : decode cX4_rivalSum 13 = .ok (.iconst 1, 1) := by decide +kernel
theorem dX4_rivalSum_14 : decode cX4_rivalSum 14 = .ok (.invokevirtual 65, 3) := by decide +kernel
theorem dX4_rivalSum_17 : decode cX4_rivalSum 17 = .ok (.goto 12, 3) := by decide +kernel
theorem dX4_rivalSum_20 : decode cX4_rivalSum 20 = .ok (.aload_n 0, 1) := by decide +kernel
theorem dX4_rivalSum_21 : decode cX4_rivalSum 21 = .ok (.getfield 24, 3) := by decide +kernel
theorem dX4_rivalSum_24 : decode cX4_rivalSum 24 = .ok (.bipush 7, 2) := by decide +kernel
theorem dX4_rivalSum_26 : decode cX4_rivalSum 26 = .ok (.invokevirtual 47, 3) := by decide +kernel
theorem dX4_rivalSum_29 : decode cX4_rivalSum 29 = .ok (.lreturn, 1) := by decide +kernel
theorem sc_X4_rivalSum_X4_isLimit : ym_site g_X4_rivalSum g_X4_isLimit 4 3 1 := ⟨by decide, by decide, wd_480, wd_87, by decide +kernel⟩
theorem sc_X4_rivalSum_X2_get : ym_site g_X4_rivalSum g_X2_get 4 1 1 := ⟨by decide, by decide, wd_256, wd_78, by decide +kernel⟩
theorem sc_X4_rivalSum_X5_at : ym_site g_X4_rivalSum g_X5_at 4 2 2 := ⟨by decide, by decide, wd_402, wd_81, by decide +kernel⟩
def fn_X4_rivalSum (N : Nat) (a0 : Option Nat) (a1 : Int32) (h : ym_H) : Option (Int64 × ym_H) :=
  Option.bind (ym_ob h a0 4) fun o2 =>
  Option.bind (fn_X4_isLimit N a0 a1 h) fun q2 =>
  if q2.1 = 0 then
    Option.bind (ym_gR q2.2 a0 4 2) fun v21 =>
    Option.bind (ym_ob q2.2 v21 2) fun o26 =>
    Option.bind (fn_X2_get N v21 7 q2.2) fun q26 =>
    some (q26.1, q26.2)
  else
    Option.bind (ym_gR q2.2 a0 4 4) fun v9 =>
    Option.bind (ym_ob q2.2 v9 5) fun o14 =>
    Option.bind (fn_X5_at N v9 a1 1 q2.2) fun q14 =>
    some (q14.1, q14.2)
set_option maxRecDepth 20000 in
set_option maxHeartbeats 4000000 in
theorem ok_X4_rivalSum {D : ym_D} {b0 : Nat} {N : Nat} {a0 : Option Nat} {a1 : Int32} {h h' : ym_H} {r : Int64} (hf : fn_X4_rivalSum N a0 a1 h = some (r, h')) : ym_M D b0 g_X4_rivalSum 4 [va_rf a0, .int a1] h (some (.long r)) h' := by
  unfold fn_X4_rivalSum at hf
  refine ym_meth (lv := [(0, va_rf a0), (1, .int a1)]) (by decide) (by simp [lg_sl, ym_c1, ym_cI, ym_cL, g_X4_rivalSum]) (by simp [lv_args, ym_c1, ym_cI, ym_cL]) ?_
  refine ym_aload_n (pc := 0) 0 dX4_rivalSum_0 rfl rfl ?_
  refine ym_iload_n (pc := 1) 1 dX4_rivalSum_1 rfl rfl ?_
  obtain ⟨o2, f2, hf⟩ := Option.bind_eq_some_iff.mp hf
  obtain ⟨q2, e2, hf⟩ := Option.bind_eq_some_iff.mp hf
  refine ym_callV (pc := 2) (G2 := g_X4_isLimit) (dep2 := 3) (As := [.int a1]) (st := []) (stk2 := [.int q2.1]) (r2 := (some (.int q2.1))) (h1 := q2.2) dX4_rivalSum_2 (ok_X4_isLimit e2) (sc_X4_rivalSum_X4_isLimit) wd_477 wd_478 wd_479 (ci := 4) (q0 := (RX4, TX4, 6)) rfl (by decide) rfl f2 rfl rfl (ym_st4 (Nat.le_of_ble_eq_true rfl)) rfl ?_
  by_cases c5 : q2.1 = 0
  · rw [if_pos c5] at hf
    refine ym_if_eq_y (pc := 5) (tgt := 20) dX4_rivalSum_5 (by decide) c5 ?_
    refine ym_aload_n (pc := 20) 0 dX4_rivalSum_20 rfl rfl ?_
    obtain ⟨v21, e21, hf⟩ := Option.bind_eq_some_iff.mp hf
    refine ym_get (pc := 21) dX4_rivalSum_21 rfl (by decide) iX4 (k := 2) (by decide) wd_344 (ym_gR_v e21) ?_
    refine ym_bipush (pc := 24) (v := 7) dX4_rivalSum_24 (by decide) ?_
    obtain ⟨o26, f26, hf⟩ := Option.bind_eq_some_iff.mp hf
    obtain ⟨q26, e26, hf⟩ := Option.bind_eq_some_iff.mp hf
    refine ym_callV (pc := 26) (G2 := g_X2_get) (dep2 := 1) (As := [.int 7]) (st := []) (stk2 := [.long q26.1]) (r2 := (some (.long q26.1))) (h1 := q26.2) dX4_rivalSum_26 (ok_X2_get e26) (sc_X4_rivalSum_X2_get) wd_389 wd_254 wd_255 (ci := 2) (q0 := (RX2, TX2, 2)) rfl (by decide) rfl f26 rfl rfl (ym_st4 (Nat.le_of_ble_eq_true rfl)) rfl ?_
    cases hf
    exact ym_lret (pc := 29) dX4_rivalSum_29 rfl
  · rw [if_neg c5] at hf
    refine ym_if_eq_n (pc := 5) (tgt := 20) dX4_rivalSum_5 (by decide) c5 ?_
    refine ym_aload_n (pc := 8) 0 dX4_rivalSum_8 rfl rfl ?_
    obtain ⟨v9, e9, hf⟩ := Option.bind_eq_some_iff.mp hf
    refine ym_get (pc := 9) dX4_rivalSum_9 rfl (by decide) iX4 (k := 4) (by decide) wd_349 (ym_gR_v e9) ?_
    refine ym_iload_n (pc := 12) 1 dX4_rivalSum_12 rfl rfl ?_
    refine ym_iconst (pc := 13) (v := 1) dX4_rivalSum_13 (by decide) ?_
    obtain ⟨o14, f14, hf⟩ := Option.bind_eq_some_iff.mp hf
    obtain ⟨q14, e14, hf⟩ := Option.bind_eq_some_iff.mp hf
    refine ym_callV (pc := 14) (G2 := g_X5_at) (dep2 := 2) (As := [.int a1, .int 1]) (st := []) (stk2 := [.long q14.1]) (r2 := (some (.long q14.1))) (h1 := q14.2) dX4_rivalSum_14 (ok_X5_at e14) (sc_X4_rivalSum_X5_at) wd_481 wd_400 wd_401 (ci := 5) (q0 := (RX5, TX5, 2)) rfl (by decide) rfl f14 rfl rfl (ym_st4 (Nat.le_of_ble_eq_true rfl)) rfl ?_
    refine ym_goto (pc := 17) (tgt := 29) dX4_rivalSum_17 (by decide) ?_
    cases hf
    exact ym_lret (pc := 29) dX4_rivalSum_29 rfl
theorem dX4_rivalNumber_0 : decode cX4_rivalNumber 0 = .ok (.iload_n 1, 1) := by decide +kernel
theorem dX4_rivalNumber_1 : decode cX4_rivalNumber 1 = .ok (.iconst (-1), 1) := by decide +kernel
theorem dX4_rivalNumber_2 : decode cX4_rivalNumber 2 = .ok (.if_icmp .ne 5, 3) := by decide +kernel
theorem dX4_rivalNumber_5 : decode cX4_rivalNumber 5 = .ok (.lconst 0, 1) := by decide +kernel
theorem dX4_rivalNumber_6 : decode cX4_rivalNumber 6 = .ok (.lreturn, 1) := by decide +kernel
theorem dX4_rivalNumber_7 : decode cX4_rivalNumber 7 = .ok (.aload_n 0, 1) := by decide +kernel
theorem dX4_rivalNumber_8 : decode cX4_rivalNumber 8 = .ok (.iload_n 1, 1) := by decide +kernel
theorem dX4_rivalNumber_9 : decode cX4_rivalNumber 9 = .ok (.invokevirtual 98, 3) := by decide +kernel
theorem dX4_rivalNumber_12 : decode cX4_rivalNumber 12 = .ok (.ifCond .eq 15, 3) := by decide +kernel
theorem dX4_rivalNumber_15 : decode cX4_rivalNumber 15 = .ok (.aload_n 0, 1) := by decide +kernel
theorem dX4_rivalNumber_16 : decode cX4_rivalNumber 16 = .ok (.getfield 35, 3) := by decide +kernel
theorem dX4_rivalNumber_19 : decode cX4_rivalNumber 19 = .ok (.iload_n 1, 1) := by decide +kernel
theorem dX4_rivalNumber_20 : decode cX4_rivalNumber 20 = .ok (.iconst 2, 1) := by decide +kernel
theorem dX4_rivalNumber_21 : decode cX4_rivalNumber 21 = .ok (.invokevirtual 65, 3) := by decide +kernel
theorem dX4_rivalNumber_24 : decode cX4_rivalNumber 24 = .ok (.goto 12, 3) := by decide +kernel
theorem dX4_rivalNumber_27 : decode cX4_rivalNumber 27 = .ok (.aload_n 0, 1) := by decide +kernel
theorem dX4_rivalNumber_28 : decode cX4_rivalNumber 28 = .ok (.getfield 24, 3) := by decide +kernel
theorem dX4_rivalNumber_31 : decode cX4_rivalNumber 31 = .ok (.bipush 8, 2) := by decide +kernel
theorem dX4_rivalNumber_33 : decode cX4_rivalNumber 33 = .ok (.invokevirtual 47, 3) := by decide +kernel
theorem dX4_rivalNumber_36 : decode cX4_rivalNumber 36 = .ok (.lreturn, 1) := by decide +kernel
theorem sc_X4_rivalNumber_X4_isLimit : ym_site g_X4_rivalNumber g_X4_isLimit 4 3 1 := ⟨by decide, by decide, wd_480, wd_87, by decide +kernel⟩
theorem sc_X4_rivalNumber_X2_get : ym_site g_X4_rivalNumber g_X2_get 4 1 1 := ⟨by decide, by decide, wd_256, wd_78, by decide +kernel⟩
theorem sc_X4_rivalNumber_X5_at : ym_site g_X4_rivalNumber g_X5_at 4 2 2 := ⟨by decide, by decide, wd_402, wd_81, by decide +kernel⟩
def fn_X4_rivalNumber (N : Nat) (a0 : Option Nat) (a1 : Int32) (h : ym_H) : Option (Int64 × ym_H) :=
  if a1 = (-1) then
    some (0, h)
  else
    Option.bind (ym_ob h a0 4) fun o9 =>
    Option.bind (fn_X4_isLimit N a0 a1 h) fun q9 =>
    if q9.1 = 0 then
      Option.bind (ym_gR q9.2 a0 4 2) fun v28 =>
      Option.bind (ym_ob q9.2 v28 2) fun o33 =>
      Option.bind (fn_X2_get N v28 8 q9.2) fun q33 =>
      some (q33.1, q33.2)
    else
      Option.bind (ym_gR q9.2 a0 4 4) fun v16 =>
      Option.bind (ym_ob q9.2 v16 5) fun o21 =>
      Option.bind (fn_X5_at N v16 a1 2 q9.2) fun q21 =>
      some (q21.1, q21.2)
set_option maxRecDepth 20000 in
set_option maxHeartbeats 4000000 in
theorem ok_X4_rivalNumber {D : ym_D} {b0 : Nat} {N : Nat} {a0 : Option Nat} {a1 : Int32} {h h' : ym_H} {r : Int64} (hf : fn_X4_rivalNumber N a0 a1 h = some (r, h')) : ym_M D b0 g_X4_rivalNumber 4 [va_rf a0, .int a1] h (some (.long r)) h' := by
  unfold fn_X4_rivalNumber at hf
  refine ym_meth (lv := [(0, va_rf a0), (1, .int a1)]) (by decide) (by simp [lg_sl, ym_c1, ym_cI, ym_cL, g_X4_rivalNumber]) (by simp [lv_args, ym_c1, ym_cI, ym_cL]) ?_
  refine ym_iload_n (pc := 0) 1 dX4_rivalNumber_0 rfl rfl ?_
  refine ym_iconst (pc := 1) (v := (-1)) dX4_rivalNumber_1 (by decide) ?_
  by_cases c2 : a1 = (-1)
  · rw [if_pos c2] at hf
    refine ym_icmp_ne_y (pc := 2) (tgt := 7) dX4_rivalNumber_2 (by decide) c2 ?_
    refine ym_lconst (pc := 5) (v := 0) dX4_rivalNumber_5 (by decide) ?_
    cases hf
    exact ym_lret (pc := 6) dX4_rivalNumber_6 rfl
  · rw [if_neg c2] at hf
    refine ym_icmp_ne_n (pc := 2) (tgt := 7) dX4_rivalNumber_2 (by decide) c2 ?_
    refine ym_aload_n (pc := 7) 0 dX4_rivalNumber_7 rfl rfl ?_
    refine ym_iload_n (pc := 8) 1 dX4_rivalNumber_8 rfl rfl ?_
    obtain ⟨o9, f9, hf⟩ := Option.bind_eq_some_iff.mp hf
    obtain ⟨q9, e9, hf⟩ := Option.bind_eq_some_iff.mp hf
    refine ym_callV (pc := 9) (G2 := g_X4_isLimit) (dep2 := 3) (As := [.int a1]) (st := []) (stk2 := [.int q9.1]) (r2 := (some (.int q9.1))) (h1 := q9.2) dX4_rivalNumber_9 (ok_X4_isLimit e9) (sc_X4_rivalNumber_X4_isLimit) wd_477 wd_478 wd_479 (ci := 4) (q0 := (RX4, TX4, 6)) rfl (by decide) rfl f9 rfl rfl (ym_st4 (Nat.le_of_ble_eq_true rfl)) rfl ?_
    by_cases c12 : q9.1 = 0
    · rw [if_pos c12] at hf
      refine ym_if_eq_y (pc := 12) (tgt := 27) dX4_rivalNumber_12 (by decide) c12 ?_
      refine ym_aload_n (pc := 27) 0 dX4_rivalNumber_27 rfl rfl ?_
      obtain ⟨v28, e28, hf⟩ := Option.bind_eq_some_iff.mp hf
      refine ym_get (pc := 28) dX4_rivalNumber_28 rfl (by decide) iX4 (k := 2) (by decide) wd_344 (ym_gR_v e28) ?_
      refine ym_bipush (pc := 31) (v := 8) dX4_rivalNumber_31 (by decide) ?_
      obtain ⟨o33, f33, hf⟩ := Option.bind_eq_some_iff.mp hf
      obtain ⟨q33, e33, hf⟩ := Option.bind_eq_some_iff.mp hf
      refine ym_callV (pc := 33) (G2 := g_X2_get) (dep2 := 1) (As := [.int 8]) (st := []) (stk2 := [.long q33.1]) (r2 := (some (.long q33.1))) (h1 := q33.2) dX4_rivalNumber_33 (ok_X2_get e33) (sc_X4_rivalNumber_X2_get) wd_389 wd_254 wd_255 (ci := 2) (q0 := (RX2, TX2, 2)) rfl (by decide) rfl f33 rfl rfl (ym_st4 (Nat.le_of_ble_eq_true rfl)) rfl ?_
      cases hf
      exact ym_lret (pc := 36) dX4_rivalNumber_36 rfl
    · rw [if_neg c12] at hf
      refine ym_if_eq_n (pc := 12) (tgt := 27) dX4_rivalNumber_12 (by decide) c12 ?_
      refine ym_aload_n (pc := 15) 0 dX4_rivalNumber_15 rfl rfl ?_
      obtain ⟨v16, e16, hf⟩ := Option.bind_eq_some_iff.mp hf
      refine ym_get (pc := 16) dX4_rivalNumber_16 rfl (by decide) iX4 (k := 4) (by decide) wd_349 (ym_gR_v e16) ?_
      refine ym_iload_n (pc := 19) 1 dX4_rivalNumber_19 rfl rfl ?_
      refine ym_iconst (pc := 20) (v := 2) dX4_rivalNumber_20 (by decide) ?_
      obtain ⟨o21, f21, hf⟩ := Option.bind_eq_some_iff.mp hf
      obtain ⟨q21, e21, hf⟩ := Option.bind_eq_some_iff.mp hf
      refine ym_callV (pc := 21) (G2 := g_X5_at) (dep2 := 2) (As := [.int a1, .int 2]) (st := []) (stk2 := [.long q21.1]) (r2 := (some (.long q21.1))) (h1 := q21.2) dX4_rivalNumber_21 (ok_X5_at e21) (sc_X4_rivalNumber_X5_at) wd_481 wd_400 wd_401 (ci := 5) (q0 := (RX5, TX5, 2)) rfl (by decide) rfl f21 rfl rfl (ym_st4 (Nat.le_of_ble_eq_true rfl)) rfl ?_
      refine ym_goto (pc := 24) (tgt := 36) dX4_rivalNumber_24 (by decide) ?_
      cases hf
      exact ym_lret (pc := 36) dX4_rivalNumber_36 rfl
theorem dX4_goesAhead_0 : decode cX4_goesAhead 0 = .ok (.aload_n 0, 1) := by decide +kernel
theorem dX4_goesAhead_1 : decode cX4_goesAhead 1 = .ok (.iload_n 1, 1) := by decide +kernel
theorem dX4_goesAhead_2 : decode cX4_goesAhead 2 = .ok (.invokevirtual 109, 3) := by decide +kernel
theorem dX4_goesAhead_5 : decode cX4_goesAhead 5 = .ok (.aload_n 0, 1) := by decide +kernel
theorem dX4_goesAhead_6 : decode cX4_goesAhead 6 = .ok (.iload_n 2, 1) := by decide +kernel
theorem dX4_goesAhead_7 : decode cX4_goesAhead 7 = .ok (.invokevirtual 109, 3) := by decide +kernel
theorem dX4_goesAhead_10 : decode cX4_goesAhead 10 = .ok (.lcmp, 1) := by decide +kernel
theorem dX4_goesAhead_11 : decode cX4_goesAhead 11 = .ok (.ifCond .eq 23, 3) := by decide +kernel
theorem dX4_goesAhead_14 : decode cX4_goesAhead 14 = .ok (.aload_n 0, 1) := by decide +kernel
theorem dX4_goesAhead_15 : decode cX4_goesAhead 15 = .ok (.iload_n 1, 1) := by decide +kernel
theorem dX4_goesAhead_16 : decode cX4_goesAhead 16 = .ok (.invokevirtual 109, 3) := by decide +kernel
theorem dX4_goesAhead_19 : decode cX4_goesAhead 19 = .ok (.aload_n 0, 1) := by decide +kernel
theorem dX4_goesAhead_20 : decode cX4_goesAhead 20 = .ok (.iload_n 2, 1) := by decide +kernel
theorem dX4_goesAhead_21 : decode cX4_goesAhead 21 = .ok (.invokevirtual 109, 3) := by decide +kernel
theorem dX4_goesAhead_24 : decode cX4_goesAhead 24 = .ok (.lcmp, 1) := by decide +kernel
theorem dX4_goesAhead_25 : decode cX4_goesAhead 25 = .ok (.ifCond .le 7, 3) := by decide +kernel
theorem dX4_goesAhead_28 : decode cX4_goesAhead 28 = .ok (.iconst 1, 1) := by decide +kernel
theorem dX4_goesAhead_29 : decode cX4_goesAhead 29 = .ok (.goto 4, 3) := by decide +kernel
theorem dX4_goesAhead_32 : decode cX4_goesAhead 32 = .ok (.iconst 0, 1) := by decide +kernel
theorem dX4_goesAhead_33 : decode cX4_goesAhead 33 = .ok (.ireturn, 1) := by decide +kernel
theorem dX4_goesAhead_34 : decode cX4_goesAhead 34 = .ok (.aload_n 0, 1) := by decide +kernel
theorem dX4_goesAhead_35 : decode cX4_goesAhead 35 = .ok (.iload_n 1, 1) := by decide +kernel
theorem dX4_goesAhead_36 : decode cX4_goesAhead 36 = .ok (.invokevirtual 112, 3) := by decide +kernel
theorem dX4_goesAhead_39 : decode cX4_goesAhead 39 = .ok (.aload_n 0, 1) := by decide +kernel
theorem dX4_goesAhead_40 : decode cX4_goesAhead 40 = .ok (.iload_n 2, 1) := by decide +kernel
theorem dX4_goesAhead_41 : decode cX4_goesAhead 41 = .ok (.invokevirtual 112, 3) := by decide +kernel
theorem dX4_goesAhead_44 : decode cX4_goesAhead 44 = .ok (.lcmp, 1) := by decide +kernel
theorem dX4_goesAhead_45 : decode cX4_goesAhead 45 = .ok (.ifCond .ge 7, 3) := by decide +kernel
theorem dX4_goesAhead_48 : decode cX4_goesAhead 48 = .ok (.iconst 1, 1) := by decide +kernel
theorem dX4_goesAhead_49 : decode cX4_goesAhead 49 = .ok (.goto 4, 3) := by decide +kernel
theorem dX4_goesAhead_52 : decode cX4_goesAhead 52 = .ok (.iconst 0, 1) := by decide +kernel
theorem dX4_goesAhead_53 : decode cX4_goesAhead 53 = .ok (.ireturn, 1) := by decide +kernel
theorem sc_X4_goesAhead_X4_rivalSum : ym_site g_X4_goesAhead g_X4_rivalSum 5 4 1 := ⟨by decide, by decide, wd_490, wd_87, by decide +kernel⟩
theorem sc_X4_goesAhead_X4_rivalNumber : ym_site g_X4_goesAhead g_X4_rivalNumber 5 4 1 := ⟨by decide, by decide, wd_494, wd_87, by decide +kernel⟩
def fn_X4_goesAhead (N : Nat) (a0 : Option Nat) (a1 : Int32) (a2 : Int32) (h : ym_H) : Option (Int32 × ym_H) :=
  Option.bind (ym_ob h a0 4) fun o2 =>
  Option.bind (fn_X4_rivalSum N a0 a1 h) fun q2 =>
  Option.bind (ym_ob q2.2 a0 4) fun o7 =>
  Option.bind (fn_X4_rivalSum N a0 a2 q2.2) fun q7 =>
  if q2.1 = q7.1 then
    Option.bind (ym_ob q7.2 a0 4) fun o36 =>
    Option.bind (fn_X4_rivalNumber N a0 a1 q7.2) fun q36 =>
    Option.bind (ym_ob q36.2 a0 4) fun o41 =>
    Option.bind (fn_X4_rivalNumber N a0 a2 q36.2) fun q41 =>
    if q41.1 ≤ q36.1 then
      some (0, q41.2)
    else
      some (1, q41.2)
  else
    Option.bind (ym_ob q7.2 a0 4) fun o16 =>
    Option.bind (fn_X4_rivalSum N a0 a1 q7.2) fun q16 =>
    Option.bind (ym_ob q16.2 a0 4) fun o21 =>
    Option.bind (fn_X4_rivalSum N a0 a2 q16.2) fun q21 =>
    if q16.1 ≤ q21.1 then
      some (0, q21.2)
    else
      some (1, q21.2)
set_option maxRecDepth 20000 in
set_option maxHeartbeats 4000000 in
theorem ok_X4_goesAhead {D : ym_D} {b0 : Nat} {N : Nat} {a0 : Option Nat} {a1 : Int32} {a2 : Int32} {h h' : ym_H} {r : Int32} (hf : fn_X4_goesAhead N a0 a1 a2 h = some (r, h')) : ym_M D b0 g_X4_goesAhead 5 [va_rf a0, .int a1, .int a2] h (some (.int r)) h' := by
  unfold fn_X4_goesAhead at hf
  refine ym_meth (lv := [(0, va_rf a0), (1, .int a1), (2, .int a2)]) (by decide) (by simp [lg_sl, ym_c1, ym_cI, ym_cL, g_X4_goesAhead]) (by simp [lv_args, ym_c1, ym_cI, ym_cL]) ?_
  refine ym_aload_n (pc := 0) 0 dX4_goesAhead_0 rfl rfl ?_
  refine ym_iload_n (pc := 1) 1 dX4_goesAhead_1 rfl rfl ?_
  obtain ⟨o2, f2, hf⟩ := Option.bind_eq_some_iff.mp hf
  obtain ⟨q2, e2, hf⟩ := Option.bind_eq_some_iff.mp hf
  refine ym_callV (pc := 2) (G2 := g_X4_rivalSum) (dep2 := 4) (As := [.int a1]) (st := []) (stk2 := [.long q2.1]) (r2 := (some (.long q2.1))) (h1 := q2.2) dX4_goesAhead_2 (ok_X4_rivalSum e2) (sc_X4_goesAhead_X4_rivalSum) wd_487 wd_488 wd_489 (ci := 4) (q0 := (RX4, TX4, 6)) rfl (by decide) rfl f2 rfl rfl (ym_st4 (Nat.le_of_ble_eq_true rfl)) rfl ?_
  refine ym_aload_n (pc := 5) 0 dX4_goesAhead_5 rfl rfl ?_
  refine ym_iload_n (pc := 6) 2 dX4_goesAhead_6 rfl rfl ?_
  obtain ⟨o7, f7, hf⟩ := Option.bind_eq_some_iff.mp hf
  obtain ⟨q7, e7, hf⟩ := Option.bind_eq_some_iff.mp hf
  refine ym_callV (pc := 7) (G2 := g_X4_rivalSum) (dep2 := 4) (As := [.int a2]) (st := [.long q2.1]) (stk2 := [.long q7.1, .long q2.1]) (r2 := (some (.long q7.1))) (h1 := q7.2) dX4_goesAhead_7 (ok_X4_rivalSum e7) (sc_X4_goesAhead_X4_rivalSum) wd_487 wd_488 wd_489 (ci := 4) (q0 := (RX4, TX4, 6)) rfl (by decide) rfl f7 rfl rfl (ym_st4 (Nat.le_of_ble_eq_true rfl)) rfl ?_
  by_cases c10 : q2.1 = q7.1
  · rw [if_pos c10] at hf
    refine ym_lcmp_eq_y (pc := 10) (tgt := 34) dX4_goesAhead_10 dX4_goesAhead_11 (by decide) c10 ?_
    refine ym_aload_n (pc := 34) 0 dX4_goesAhead_34 rfl rfl ?_
    refine ym_iload_n (pc := 35) 1 dX4_goesAhead_35 rfl rfl ?_
    obtain ⟨o36, f36, hf⟩ := Option.bind_eq_some_iff.mp hf
    obtain ⟨q36, e36, hf⟩ := Option.bind_eq_some_iff.mp hf
    refine ym_callV (pc := 36) (G2 := g_X4_rivalNumber) (dep2 := 4) (As := [.int a1]) (st := []) (stk2 := [.long q36.1]) (r2 := (some (.long q36.1))) (h1 := q36.2) dX4_goesAhead_36 (ok_X4_rivalNumber e36) (sc_X4_goesAhead_X4_rivalNumber) wd_491 wd_492 wd_493 (ci := 4) (q0 := (RX4, TX4, 6)) rfl (by decide) rfl f36 rfl rfl (ym_st4 (Nat.le_of_ble_eq_true rfl)) rfl ?_
    refine ym_aload_n (pc := 39) 0 dX4_goesAhead_39 rfl rfl ?_
    refine ym_iload_n (pc := 40) 2 dX4_goesAhead_40 rfl rfl ?_
    obtain ⟨o41, f41, hf⟩ := Option.bind_eq_some_iff.mp hf
    obtain ⟨q41, e41, hf⟩ := Option.bind_eq_some_iff.mp hf
    refine ym_callV (pc := 41) (G2 := g_X4_rivalNumber) (dep2 := 4) (As := [.int a2]) (st := [.long q36.1]) (stk2 := [.long q41.1, .long q36.1]) (r2 := (some (.long q41.1))) (h1 := q41.2) dX4_goesAhead_41 (ok_X4_rivalNumber e41) (sc_X4_goesAhead_X4_rivalNumber) wd_491 wd_492 wd_493 (ci := 4) (q0 := (RX4, TX4, 6)) rfl (by decide) rfl f41 rfl rfl (ym_st4 (Nat.le_of_ble_eq_true rfl)) rfl ?_
    by_cases c44 : q41.1 ≤ q36.1
    · rw [if_pos c44] at hf
      refine ym_lcmp_ge_y (pc := 44) (tgt := 52) dX4_goesAhead_44 dX4_goesAhead_45 (by decide) c44 ?_
      refine ym_iconst (pc := 52) (v := 0) dX4_goesAhead_52 (by decide) ?_
      cases hf
      exact ym_zret (pc := 53) dX4_goesAhead_53 rfl rfl
    · rw [if_neg c44] at hf
      refine ym_lcmp_ge_n (pc := 44) (tgt := 52) dX4_goesAhead_44 dX4_goesAhead_45 (by decide) c44 ?_
      refine ym_iconst (pc := 48) (v := 1) dX4_goesAhead_48 (by decide) ?_
      refine ym_goto (pc := 49) (tgt := 53) dX4_goesAhead_49 (by decide) ?_
      cases hf
      exact ym_zret (pc := 53) dX4_goesAhead_53 rfl rfl
  · rw [if_neg c10] at hf
    refine ym_lcmp_eq_n (pc := 10) (tgt := 34) dX4_goesAhead_10 dX4_goesAhead_11 (by decide) c10 ?_
    refine ym_aload_n (pc := 14) 0 dX4_goesAhead_14 rfl rfl ?_
    refine ym_iload_n (pc := 15) 1 dX4_goesAhead_15 rfl rfl ?_
    obtain ⟨o16, f16, hf⟩ := Option.bind_eq_some_iff.mp hf
    obtain ⟨q16, e16, hf⟩ := Option.bind_eq_some_iff.mp hf
    refine ym_callV (pc := 16) (G2 := g_X4_rivalSum) (dep2 := 4) (As := [.int a1]) (st := []) (stk2 := [.long q16.1]) (r2 := (some (.long q16.1))) (h1 := q16.2) dX4_goesAhead_16 (ok_X4_rivalSum e16) (sc_X4_goesAhead_X4_rivalSum) wd_487 wd_488 wd_489 (ci := 4) (q0 := (RX4, TX4, 6)) rfl (by decide) rfl f16 rfl rfl (ym_st4 (Nat.le_of_ble_eq_true rfl)) rfl ?_
    refine ym_aload_n (pc := 19) 0 dX4_goesAhead_19 rfl rfl ?_
    refine ym_iload_n (pc := 20) 2 dX4_goesAhead_20 rfl rfl ?_
    obtain ⟨o21, f21, hf⟩ := Option.bind_eq_some_iff.mp hf
    obtain ⟨q21, e21, hf⟩ := Option.bind_eq_some_iff.mp hf
    refine ym_callV (pc := 21) (G2 := g_X4_rivalSum) (dep2 := 4) (As := [.int a2]) (st := [.long q16.1]) (stk2 := [.long q21.1, .long q16.1]) (r2 := (some (.long q21.1))) (h1 := q21.2) dX4_goesAhead_21 (ok_X4_rivalSum e21) (sc_X4_goesAhead_X4_rivalSum) wd_487 wd_488 wd_489 (ci := 4) (q0 := (RX4, TX4, 6)) rfl (by decide) rfl f21 rfl rfl (ym_st4 (Nat.le_of_ble_eq_true rfl)) rfl ?_
    by_cases c24 : q16.1 ≤ q21.1
    · rw [if_pos c24] at hf
      refine ym_lcmp_le_y (pc := 24) (tgt := 32) dX4_goesAhead_24 dX4_goesAhead_25 (by decide) c24 ?_
      refine ym_iconst (pc := 32) (v := 0) dX4_goesAhead_32 (by decide) ?_
      cases hf
      exact ym_zret (pc := 33) dX4_goesAhead_33 rfl rfl
    · rw [if_neg c24] at hf
      refine ym_lcmp_le_n (pc := 24) (tgt := 32) dX4_goesAhead_24 dX4_goesAhead_25 (by decide) c24 ?_
      refine ym_iconst (pc := 28) (v := 1) dX4_goesAhead_28 (by decide) ?_
      refine ym_goto (pc := 29) (tgt := 33) dX4_goesAhead_29 (by decide) ?_
      cases hf
      exact ym_zret (pc := 33) dX4_goesAhead_33 rfl rfl
theorem dX4_isRival_0 : decode cX4_isRival 0 = .ok (.aload_n 0, 1) := by decide +kernel
theorem dX4_isRival_1 : decode cX4_isRival 1 = .ok (.iload_n 1, 1) := by decide +kernel
theorem dX4_isRival_2 : decode cX4_isRival 2 = .ok (.invokevirtual 98, 3) := by decide +kernel
theorem dX4_isRival_5 : decode cX4_isRival 5 = .ok (.ifCond .eq 28, 3) := by decide +kernel
theorem dX4_isRival_8 : decode cX4_isRival 8 = .ok (.aload_n 0, 1) := by decide +kernel
theorem dX4_isRival_9 : decode cX4_isRival 9 = .ok (.getfield 35, 3) := by decide +kernel
theorem dX4_isRival_12 : decode cX4_isRival 12 = .ok (.iload_n 1, 1) := by decide +kernel
theorem dX4_isRival_13 : decode cX4_isRival 13 = .ok (.iconst 1, 1) := by decide +kernel
theorem dX4_isRival_14 : decode cX4_isRival 14 = .ok (.invokevirtual 65, 3) := by decide +kernel
theorem dX4_isRival_17 : decode cX4_isRival 17 = .ok (.aload_n 0, 1) := by decide +kernel
theorem dX4_isRival_18 : decode cX4_isRival 18 = .ok (.invokevirtual 94, 3) := by decide +kernel
theorem dX4_isRival_21 : decode cX4_isRival 21 = .ok (.lcmp, 1) := by decide +kernel
theorem dX4_isRival_22 : decode cX4_isRival 22 = .ok (.ifCond .lt 7, 3) := by decide +kernel
theorem dX4_isRival_25 : decode cX4_isRival 25 = .ok (.iconst 1, 1) := by decide +kernel
theorem dX4_isRival_26 : decode cX4_isRival 26 = .ok (.goto 26, 3) := by decide +kernel
theorem dX4_isRival_29 : decode cX4_isRival 29 = .ok (.iconst 0, 1) := by decide +kernel
theorem dX4_isRival_30 : decode cX4_isRival 30 = .ok (.goto 22, 3) := by decide +kernel
theorem dX4_isRival_33 : decode cX4_isRival 33 = .ok (.aload_n 0, 1) := by decide +kernel
theorem dX4_isRival_34 : decode cX4_isRival 34 = .ok (.getfield 24, 3) := by decide +kernel
theorem dX4_isRival_37 : decode cX4_isRival 37 = .ok (.bipush 8, 2) := by decide +kernel
theorem dX4_isRival_39 : decode cX4_isRival 39 = .ok (.invokevirtual 47, 3) := by decide +kernel
theorem dX4_isRival_42 : decode cX4_isRival 42 = .ok (.lconst 0, 1) := by decide +kernel
theorem dX4_isRival_43 : decode cX4_isRival 43 = .ok (.lcmp, 1) := by decide +kernel
theorem dX4_isRival_44 : decode cX4_isRival 44 = .ok (.ifCond .eq 7, 3) := by decide +kernel
theorem dX4_isRival_47 : decode cX4_isRival 47 = .ok (.iconst 1, 1) := by decide +kernel
theorem dX4_isRival_48 : decode cX4_isRival 48 = .ok (.goto 4, 3) := by decide +kernel
theorem dX4_isRival_51 : decode cX4_isRival 51 = .ok (.iconst 0, 1) := by decide +kernel
theorem dX4_isRival_52 : decode cX4_isRival 52 = .ok (.ireturn, 1) := by decide +kernel
theorem sc_X4_isRival_X4_isLimit : ym_site g_X4_isRival g_X4_isLimit 4 3 1 := ⟨by decide, by decide, wd_480, wd_87, by decide +kernel⟩
theorem sc_X4_isRival_X2_get : ym_site g_X4_isRival g_X2_get 4 1 1 := ⟨by decide, by decide, wd_256, wd_78, by decide +kernel⟩
theorem sc_X4_isRival_X5_at : ym_site g_X4_isRival g_X5_at 4 2 2 := ⟨by decide, by decide, wd_402, wd_81, by decide +kernel⟩
theorem sc_X4_isRival_X4_startNow : ym_site g_X4_isRival g_X4_startNow 4 2 0 := ⟨by decide, by decide, wd_459, wd_87, by decide +kernel⟩
def fn_X4_isRival (N : Nat) (a0 : Option Nat) (a1 : Int32) (h : ym_H) : Option (Int32 × ym_H) :=
  Option.bind (ym_ob h a0 4) fun o2 =>
  Option.bind (fn_X4_isLimit N a0 a1 h) fun q2 =>
  if q2.1 = 0 then
    Option.bind (ym_gR q2.2 a0 4 2) fun v34 =>
    Option.bind (ym_ob q2.2 v34 2) fun o39 =>
    Option.bind (fn_X2_get N v34 8 q2.2) fun q39 =>
    if q39.1 = 0 then
      some (0, q39.2)
    else
      some (1, q39.2)
  else
    Option.bind (ym_gR q2.2 a0 4 4) fun v9 =>
    Option.bind (ym_ob q2.2 v9 5) fun o14 =>
    Option.bind (fn_X5_at N v9 a1 1 q2.2) fun q14 =>
    Option.bind (ym_ob q14.2 a0 4) fun o18 =>
    Option.bind (fn_X4_startNow N a0 q14.2) fun q18 =>
    if q14.1 < q18.1 then
      some (0, q18.2)
    else
      some (1, q18.2)
set_option maxRecDepth 20000 in
set_option maxHeartbeats 4000000 in
theorem ok_X4_isRival {D : ym_D} {b0 : Nat} {N : Nat} {a0 : Option Nat} {a1 : Int32} {h h' : ym_H} {r : Int32} (hf : fn_X4_isRival N a0 a1 h = some (r, h')) : ym_M D b0 g_X4_isRival 4 [va_rf a0, .int a1] h (some (.int r)) h' := by
  unfold fn_X4_isRival at hf
  refine ym_meth (lv := [(0, va_rf a0), (1, .int a1)]) (by decide) (by simp [lg_sl, ym_c1, ym_cI, ym_cL, g_X4_isRival]) (by simp [lv_args, ym_c1, ym_cI, ym_cL]) ?_
  refine ym_aload_n (pc := 0) 0 dX4_isRival_0 rfl rfl ?_
  refine ym_iload_n (pc := 1) 1 dX4_isRival_1 rfl rfl ?_
  obtain ⟨o2, f2, hf⟩ := Option.bind_eq_some_iff.mp hf
  obtain ⟨q2, e2, hf⟩ := Option.bind_eq_some_iff.mp hf
  refine ym_callV (pc := 2) (G2 := g_X4_isLimit) (dep2 := 3) (As := [.int a1]) (st := []) (stk2 := [.int q2.1]) (r2 := (some (.int q2.1))) (h1 := q2.2) dX4_isRival_2 (ok_X4_isLimit e2) (sc_X4_isRival_X4_isLimit) wd_477 wd_478 wd_479 (ci := 4) (q0 := (RX4, TX4, 6)) rfl (by decide) rfl f2 rfl rfl (ym_st4 (Nat.le_of_ble_eq_true rfl)) rfl ?_
  by_cases c5 : q2.1 = 0
  · rw [if_pos c5] at hf
    refine ym_if_eq_y (pc := 5) (tgt := 33) dX4_isRival_5 (by decide) c5 ?_
    refine ym_aload_n (pc := 33) 0 dX4_isRival_33 rfl rfl ?_
    obtain ⟨v34, e34, hf⟩ := Option.bind_eq_some_iff.mp hf
    refine ym_get (pc := 34) dX4_isRival_34 rfl (by decide) iX4 (k := 2) (by decide) wd_344 (ym_gR_v e34) ?_
    refine ym_bipush (pc := 37) (v := 8) dX4_isRival_37 (by decide) ?_
    obtain ⟨o39, f39, hf⟩ := Option.bind_eq_some_iff.mp hf
    obtain ⟨q39, e39, hf⟩ := Option.bind_eq_some_iff.mp hf
    refine ym_callV (pc := 39) (G2 := g_X2_get) (dep2 := 1) (As := [.int 8]) (st := []) (stk2 := [.long q39.1]) (r2 := (some (.long q39.1))) (h1 := q39.2) dX4_isRival_39 (ok_X2_get e39) (sc_X4_isRival_X2_get) wd_389 wd_254 wd_255 (ci := 2) (q0 := (RX2, TX2, 2)) rfl (by decide) rfl f39 rfl rfl (ym_st4 (Nat.le_of_ble_eq_true rfl)) rfl ?_
    refine ym_lconst (pc := 42) (v := 0) dX4_isRival_42 (by decide) ?_
    by_cases c43 : q39.1 = 0
    · rw [if_pos c43] at hf
      refine ym_lcmp_eq_y (pc := 43) (tgt := 51) dX4_isRival_43 dX4_isRival_44 (by decide) c43 ?_
      refine ym_iconst (pc := 51) (v := 0) dX4_isRival_51 (by decide) ?_
      cases hf
      exact ym_zret (pc := 52) dX4_isRival_52 rfl rfl
    · rw [if_neg c43] at hf
      refine ym_lcmp_eq_n (pc := 43) (tgt := 51) dX4_isRival_43 dX4_isRival_44 (by decide) c43 ?_
      refine ym_iconst (pc := 47) (v := 1) dX4_isRival_47 (by decide) ?_
      refine ym_goto (pc := 48) (tgt := 52) dX4_isRival_48 (by decide) ?_
      cases hf
      exact ym_zret (pc := 52) dX4_isRival_52 rfl rfl
  · rw [if_neg c5] at hf
    refine ym_if_eq_n (pc := 5) (tgt := 33) dX4_isRival_5 (by decide) c5 ?_
    refine ym_aload_n (pc := 8) 0 dX4_isRival_8 rfl rfl ?_
    obtain ⟨v9, e9, hf⟩ := Option.bind_eq_some_iff.mp hf
    refine ym_get (pc := 9) dX4_isRival_9 rfl (by decide) iX4 (k := 4) (by decide) wd_349 (ym_gR_v e9) ?_
    refine ym_iload_n (pc := 12) 1 dX4_isRival_12 rfl rfl ?_
    refine ym_iconst (pc := 13) (v := 1) dX4_isRival_13 (by decide) ?_
    obtain ⟨o14, f14, hf⟩ := Option.bind_eq_some_iff.mp hf
    obtain ⟨q14, e14, hf⟩ := Option.bind_eq_some_iff.mp hf
    refine ym_callV (pc := 14) (G2 := g_X5_at) (dep2 := 2) (As := [.int a1, .int 1]) (st := []) (stk2 := [.long q14.1]) (r2 := (some (.long q14.1))) (h1 := q14.2) dX4_isRival_14 (ok_X5_at e14) (sc_X4_isRival_X5_at) wd_481 wd_400 wd_401 (ci := 5) (q0 := (RX5, TX5, 2)) rfl (by decide) rfl f14 rfl rfl (ym_st4 (Nat.le_of_ble_eq_true rfl)) rfl ?_
    refine ym_aload_n (pc := 17) 0 dX4_isRival_17 rfl rfl ?_
    obtain ⟨o18, f18, hf⟩ := Option.bind_eq_some_iff.mp hf
    obtain ⟨q18, e18, hf⟩ := Option.bind_eq_some_iff.mp hf
    refine ym_callV (pc := 18) (G2 := g_X4_startNow) (dep2 := 2) (As := []) (st := [.long q14.1]) (stk2 := [.long q18.1, .long q14.1]) (r2 := (some (.long q18.1))) (h1 := q18.2) dX4_isRival_18 (ok_X4_startNow e18) (sc_X4_isRival_X4_startNow) wd_482 wd_457 wd_458 (ci := 4) (q0 := (RX4, TX4, 6)) rfl (by decide) rfl f18 rfl rfl (ym_st4 (Nat.le_of_ble_eq_true rfl)) rfl ?_
    by_cases c21 : q14.1 < q18.1
    · rw [if_pos c21] at hf
      refine ym_lcmp_lt_y (pc := 21) (tgt := 29) dX4_isRival_21 dX4_isRival_22 (by decide) c21 ?_
      refine ym_iconst (pc := 29) (v := 0) dX4_isRival_29 (by decide) ?_
      refine ym_goto (pc := 30) (tgt := 52) dX4_isRival_30 (by decide) ?_
      cases hf
      exact ym_zret (pc := 52) dX4_isRival_52 rfl rfl
    · rw [if_neg c21] at hf
      refine ym_lcmp_lt_n (pc := 21) (tgt := 29) dX4_isRival_21 dX4_isRival_22 (by decide) c21 ?_
      refine ym_iconst (pc := 25) (v := 1) dX4_isRival_25 (by decide) ?_
      refine ym_goto (pc := 26) (tgt := 52) dX4_isRival_26 (by decide) ?_
      cases hf
      exact ym_zret (pc := 52) dX4_isRival_52 rfl rfl
theorem dX4_greatestRival_0 : decode cX4_greatestRival 0 = .ok (.iconst (-1), 1) := by decide +kernel
theorem dX4_greatestRival_1 : decode cX4_greatestRival 1 = .ok (.istore_n 2, 1) := by decide +kernel
theorem dX4_greatestRival_2 : decode cX4_greatestRival 2 = .ok (.aload_n 0, 1) := by decide +kernel
theorem dX4_greatestRival_3 : decode cX4_greatestRival 3 = .ok (.getfield 35, 3) := by decide +kernel
theorem dX4_greatestRival_6 : decode cX4_greatestRival 6 = .ok (.invokevirtual 62, 3) := by decide +kernel
theorem dX4_greatestRival_9 : decode cX4_greatestRival 9 = .ok (.istore_n 3, 1) := by decide +kernel
theorem dX4_greatestRival_10 : decode cX4_greatestRival 10 = .ok (.iconst 0, 1) := by decide +kernel
theorem dX4_greatestRival_11 : decode cX4_greatestRival 11 = .ok (.istore 4, 2) := by decide +kernel
theorem dX4_greatestRival_13 : decode cX4_greatestRival 13 = .ok (.iload 4, 2) := by decide +kernel
theorem dX4_greatestRival_15 : decode cX4_greatestRival 15 = .ok (.iload_n 3, 1) := by decide +kernel
theorem dX4_greatestRival_16 : decode cX4_greatestRival 16 = .ok (.if_icmp .gt 45, 3) := by decide +kernel
theorem dX4_greatestRival_19 : decode cX4_greatestRival 19 = .ok (.iload 4, 2) := by decide +kernel
theorem dX4_greatestRival_21 : decode cX4_greatestRival 21 = .ok (.iload_n 1, 1) := by decide +kernel
theorem dX4_greatestRival_22 : decode cX4_greatestRival 22 = .ok (.if_icmp .eq 33, 3) := by decide +kernel
theorem dX4_greatestRival_25 : decode cX4_greatestRival 25 = .ok (.aload_n 0, 1) := by decide +kernel
theorem dX4_greatestRival_26 : decode cX4_greatestRival 26 = .ok (.iload 4, 2) := by decide +kernel
theorem dX4_greatestRival_28 : decode cX4_greatestRival 28 = .ok (.invokevirtual 102, 3) := by decide +kernel
theorem dX4_greatestRival_31 : decode cX4_greatestRival 31 = .ok (.ifCond .ne 6, 3) := by decide +kernel
theorem dX4_greatestRival_34 : decode cX4_greatestRival 34 = .ok (.goto 21, 3) := by decide +kernel
theorem dX4_greatestRival_37 : decode cX4_greatestRival 37 = .ok (.iload_n 2, 1) := by decide +kernel
theorem dX4_greatestRival_38 : decode cX4_greatestRival 38 = .ok (.iconst (-1), 1) := by decide +kernel
theorem dX4_greatestRival_39 : decode cX4_greatestRival 39 = .ok (.if_icmp .eq 13, 3) := by decide +kernel
theorem dX4_greatestRival_42 : decode cX4_greatestRival 42 = .ok (.aload_n 0, 1) := by decide +kernel
theorem dX4_greatestRival_43 : decode cX4_greatestRival 43 = .ok (.iload 4, 2) := by decide +kernel
theorem dX4_greatestRival_45 : decode cX4_greatestRival 45 = .ok (.iload_n 2, 1) := by decide +kernel
theorem dX4_greatestRival_46 : decode cX4_greatestRival 46 = .ok (.invokevirtual 105, 3) := by decide +kernel
theorem dX4_greatestRival_49 : decode cX4_greatestRival 49 = .ok (.ifCond .eq 6, 3) := by decide +kernel
theorem dX4_greatestRival_52 : decode cX4_greatestRival 52 = .ok (.iload 4, 2) := by decide +kernel
theorem dX4_greatestRival_54 : decode cX4_greatestRival 54 = .ok (.istore_n 2, 1) := by decide +kernel
theorem dX4_greatestRival_55 : decode cX4_greatestRival 55 = .ok (.iinc 4 1, 3) := by decide +kernel
theorem dX4_greatestRival_58 : decode cX4_greatestRival 58 = .ok (.goto (-45), 3) := by decide +kernel
theorem dX4_greatestRival_61 : decode cX4_greatestRival 61 = .ok (.iload_n 2, 1) := by decide +kernel
theorem dX4_greatestRival_62 : decode cX4_greatestRival 62 = .ok (.ireturn, 1) := by decide +kernel
theorem sc_X4_greatestRival_X5_rows : ym_site g_X4_greatestRival g_X5_rows 6 2 0 := ⟨by decide, by decide, wd_397, wd_81, by decide +kernel⟩
def bl_X4_greatestRival_55_13 (K : Option Nat → Int32 → Int32 → Int32 → Int32 → ym_H → Option ((Int32) × ym_H)) (N : Nat) (w0 : Option Nat) (w1 : Int32) (w2 : Int32) (w3 : Int32) (w4 : Int32) (h : ym_H) : Option ((Int32) × ym_H) :=
  K w0 w1 w2 w3 (w4 + 1) h
set_option maxRecDepth 20000 in
set_option maxHeartbeats 4000000 in
theorem ob_X4_greatestRival_55_13 {D : ym_D} {b0 : Nat} {K : Option Nat → Int32 → Int32 → Int32 → Int32 → ym_H → Option ((Int32) × ym_H)} {N : Nat} {w0 : Option Nat} {w1 : Int32} {w2 : Int32} {w3 : Int32} {w4 : Int32} {h h1 : ym_H} {x : (Int32)} (hKl : ∀ (u0 : Option Nat) (u1 : Int32) (u2 : Int32) (u3 : Int32) (u4 : Int32) (h h1 : ym_H) (x : (Int32)), K u0 u1 u2 u3 u4 h = some (x, h1) → ∀ {r0 : Option Value} {h' : ym_H}, ym_Y D b0 g_X4_greatestRival 6 61 [(2, .int x)] [] h1 r0 h' → ym_Y D b0 g_X4_greatestRival 6 13 [(0, va_rf u0), (1, .int u1), (2, .int u2), (3, .int u3), (4, .int u4)] [] h r0 h') (hf : bl_X4_greatestRival_55_13 K N w0 w1 w2 w3 w4 h = some (x, h1)) {r0 : Option Value} {h' : ym_H} (k : ym_Y D b0 g_X4_greatestRival 6 61 [(2, .int x)] [] h1 r0 h') : ym_Y D b0 g_X4_greatestRival 6 55 [(0, va_rf w0), (1, .int w1), (2, .int w2), (3, .int w3), (4, .int w4)] [] h r0 h' := by
  unfold bl_X4_greatestRival_55_13 at hf
  refine ym_iinc (pc := 55) (lv' := [(4, .int (w4 + 1)), (0, va_rf w0), (1, .int w1), (2, .int w2), (3, .int w3)]) (v := (w4 + 1)) 4 dX4_greatestRival_55 rfl (by rw [show Int32.ofInt 1 = 1 by decide]) (by decide) ⟨trivial, trivial, trivial, rfl, trivial, trivial⟩ rfl ?_
  refine ym_goto (pc := 58) (tgt := 13) dX4_greatestRival_58 (by decide) ?_
  exact ym_sub [1, 2, 3, 4, 0] rfl (hKl _ _ _ _ _ _ _ _ hf k)
theorem sc_X4_greatestRival_X4_isRival : ym_site g_X4_greatestRival g_X4_isRival 6 4 1 := ⟨by decide, by decide, wd_476, wd_87, by decide +kernel⟩
def bl_X4_greatestRival_52_13 (K : Option Nat → Int32 → Int32 → Int32 → Int32 → ym_H → Option ((Int32) × ym_H)) (N : Nat) (w0 : Option Nat) (w1 : Int32) (w3 : Int32) (w4 : Int32) (h : ym_H) : Option ((Int32) × ym_H) :=
  bl_X4_greatestRival_55_13 K N w0 w1 w4 w3 w4 h
set_option maxRecDepth 20000 in
set_option maxHeartbeats 4000000 in
theorem ob_X4_greatestRival_52_13 {D : ym_D} {b0 : Nat} {K : Option Nat → Int32 → Int32 → Int32 → Int32 → ym_H → Option ((Int32) × ym_H)} {N : Nat} {w0 : Option Nat} {w1 : Int32} {w3 : Int32} {w4 : Int32} {h h1 : ym_H} {x : (Int32)} (hKl : ∀ (u0 : Option Nat) (u1 : Int32) (u2 : Int32) (u3 : Int32) (u4 : Int32) (h h1 : ym_H) (x : (Int32)), K u0 u1 u2 u3 u4 h = some (x, h1) → ∀ {r0 : Option Value} {h' : ym_H}, ym_Y D b0 g_X4_greatestRival 6 61 [(2, .int x)] [] h1 r0 h' → ym_Y D b0 g_X4_greatestRival 6 13 [(0, va_rf u0), (1, .int u1), (2, .int u2), (3, .int u3), (4, .int u4)] [] h r0 h') (hf : bl_X4_greatestRival_52_13 K N w0 w1 w3 w4 h = some (x, h1)) {r0 : Option Value} {h' : ym_H} (k : ym_Y D b0 g_X4_greatestRival 6 61 [(2, .int x)] [] h1 r0 h') : ym_Y D b0 g_X4_greatestRival 6 52 [(0, va_rf w0), (1, .int w1), (3, .int w3), (4, .int w4)] [] h r0 h' := by
  unfold bl_X4_greatestRival_52_13 at hf
  refine ym_iload (pc := 52) 3 dX4_greatestRival_52 rfl ?_
  refine ym_istore_n (pc := 54) (lv' := [(2, .int w4), (0, va_rf w0), (1, .int w1), (3, .int w3), (4, .int w4)]) dX4_greatestRival_54 rfl (by decide) ⟨trivial, rfl, trivial, trivial, trivial⟩ rfl ?_
  exact ym_sub [1, 2, 0, 3, 4] rfl (ob_X4_greatestRival_55_13 hKl hf k)
theorem sc_X4_greatestRival_X4_goesAhead : ym_site g_X4_greatestRival g_X4_goesAhead 6 5 2 := ⟨by decide, by decide, wd_486, wd_87, by decide +kernel⟩
def lb_X4_greatestRival_13 (K : Option Nat → Int32 → Int32 → Int32 → Int32 → ym_H → Option ((Int32) × ym_H)) (N : Nat) (w0 : Option Nat) (w1 : Int32) (w2 : Int32) (w3 : Int32) (w4 : Int32) (h : ym_H) : Option ((Int32) × ym_H) :=
  if w3 < w4 then
    some (w2, h)
  else
    if w4 = w1 then
      bl_X4_greatestRival_55_13 K N w0 w1 w2 w3 w4 h
    else
      Option.bind (ym_ob h w0 4) fun o28 =>
      Option.bind (fn_X4_isRival N w0 w4 h) fun q28 =>
      if q28.1 = 0 then
        bl_X4_greatestRival_55_13 K N w0 w1 w2 w3 w4 q28.2
      else
        if w2 = (-1) then
          bl_X4_greatestRival_52_13 K N w0 w1 w3 w4 q28.2
        else
          Option.bind (ym_ob q28.2 w0 4) fun o46 =>
          Option.bind (fn_X4_goesAhead N w0 w4 w2 q28.2) fun q46 =>
          if q46.1 = 0 then
            bl_X4_greatestRival_55_13 K N w0 w1 w2 w3 w4 q46.2
          else
            bl_X4_greatestRival_52_13 K N w0 w1 w3 w4 q46.2
set_option maxRecDepth 20000 in
set_option maxHeartbeats 4000000 in
theorem ol_X4_greatestRival_13 {D : ym_D} {b0 : Nat} {K : Option Nat → Int32 → Int32 → Int32 → Int32 → ym_H → Option ((Int32) × ym_H)} {N : Nat} {w0 : Option Nat} {w1 : Int32} {w2 : Int32} {w3 : Int32} {w4 : Int32} {h h1 : ym_H} {x : (Int32)} (hKl : ∀ (u0 : Option Nat) (u1 : Int32) (u2 : Int32) (u3 : Int32) (u4 : Int32) (h h1 : ym_H) (x : (Int32)), K u0 u1 u2 u3 u4 h = some (x, h1) → ∀ {r0 : Option Value} {h' : ym_H}, ym_Y D b0 g_X4_greatestRival 6 61 [(2, .int x)] [] h1 r0 h' → ym_Y D b0 g_X4_greatestRival 6 13 [(0, va_rf u0), (1, .int u1), (2, .int u2), (3, .int u3), (4, .int u4)] [] h r0 h') (hf : lb_X4_greatestRival_13 K N w0 w1 w2 w3 w4 h = some (x, h1)) {r0 : Option Value} {h' : ym_H} (k : ym_Y D b0 g_X4_greatestRival 6 61 [(2, .int x)] [] h1 r0 h') : ym_Y D b0 g_X4_greatestRival 6 13 [(0, va_rf w0), (1, .int w1), (2, .int w2), (3, .int w3), (4, .int w4)] [] h r0 h' := by
  unfold lb_X4_greatestRival_13 at hf
  refine ym_iload (pc := 13) 4 dX4_greatestRival_13 rfl ?_
  refine ym_iload_n (pc := 15) 3 dX4_greatestRival_15 rfl rfl ?_
  by_cases c16 : w3 < w4
  · rw [if_pos c16] at hf
    refine ym_icmp_gt_y (pc := 16) (tgt := 61) dX4_greatestRival_16 (by decide) c16 ?_
    cases hf
    exact ym_sub [2] rfl k
  · rw [if_neg c16] at hf
    refine ym_icmp_gt_n (pc := 16) (tgt := 61) dX4_greatestRival_16 (by decide) c16 ?_
    refine ym_iload (pc := 19) 4 dX4_greatestRival_19 rfl ?_
    refine ym_iload_n (pc := 21) 1 dX4_greatestRival_21 rfl rfl ?_
    by_cases c22 : w4 = w1
    · rw [if_pos c22] at hf
      refine ym_icmp_eq_y (pc := 22) (tgt := 55) dX4_greatestRival_22 (by decide) c22 ?_
      exact ym_sub [0, 1, 2, 3, 4] rfl (ob_X4_greatestRival_55_13 hKl hf k)
    · rw [if_neg c22] at hf
      refine ym_icmp_eq_n (pc := 22) (tgt := 55) dX4_greatestRival_22 (by decide) c22 ?_
      refine ym_aload_n (pc := 25) 0 dX4_greatestRival_25 rfl rfl ?_
      refine ym_iload (pc := 26) 4 dX4_greatestRival_26 rfl ?_
      obtain ⟨o28, f28, hf⟩ := Option.bind_eq_some_iff.mp hf
      obtain ⟨q28, e28, hf⟩ := Option.bind_eq_some_iff.mp hf
      refine ym_callV (pc := 28) (G2 := g_X4_isRival) (dep2 := 4) (As := [.int w4]) (st := []) (stk2 := [.int q28.1]) (r2 := (some (.int q28.1))) (h1 := q28.2) dX4_greatestRival_28 (ok_X4_isRival e28) (sc_X4_greatestRival_X4_isRival) wd_473 wd_474 wd_475 (ci := 4) (q0 := (RX4, TX4, 6)) rfl (by decide) rfl f28 rfl rfl (ym_st4 (Nat.le_of_ble_eq_true rfl)) rfl ?_
      by_cases c31 : q28.1 = 0
      · rw [if_pos c31] at hf
        refine ym_if_ne_y (pc := 31) (tgt := 37) dX4_greatestRival_31 (by decide) c31 ?_
        refine ym_goto (pc := 34) (tgt := 55) dX4_greatestRival_34 (by decide) ?_
        exact ym_sub [0, 1, 2, 3, 4] rfl (ob_X4_greatestRival_55_13 hKl hf k)
      · rw [if_neg c31] at hf
        refine ym_if_ne_n (pc := 31) (tgt := 37) dX4_greatestRival_31 (by decide) c31 ?_
        refine ym_iload_n (pc := 37) 2 dX4_greatestRival_37 rfl rfl ?_
        refine ym_iconst (pc := 38) (v := (-1)) dX4_greatestRival_38 (by decide) ?_
        by_cases c39 : w2 = (-1)
        · rw [if_pos c39] at hf
          refine ym_icmp_eq_y (pc := 39) (tgt := 52) dX4_greatestRival_39 (by decide) c39 ?_
          exact ym_sub [0, 1, 3, 4] rfl (ob_X4_greatestRival_52_13 hKl hf k)
        · rw [if_neg c39] at hf
          refine ym_icmp_eq_n (pc := 39) (tgt := 52) dX4_greatestRival_39 (by decide) c39 ?_
          refine ym_aload_n (pc := 42) 0 dX4_greatestRival_42 rfl rfl ?_
          refine ym_iload (pc := 43) 4 dX4_greatestRival_43 rfl ?_
          refine ym_iload_n (pc := 45) 2 dX4_greatestRival_45 rfl rfl ?_
          obtain ⟨o46, f46, hf⟩ := Option.bind_eq_some_iff.mp hf
          obtain ⟨q46, e46, hf⟩ := Option.bind_eq_some_iff.mp hf
          refine ym_callV (pc := 46) (G2 := g_X4_goesAhead) (dep2 := 5) (As := [.int w4, .int w2]) (st := []) (stk2 := [.int q46.1]) (r2 := (some (.int q46.1))) (h1 := q46.2) dX4_greatestRival_46 (ok_X4_goesAhead e46) (sc_X4_greatestRival_X4_goesAhead) wd_483 wd_485 wd_9 (ci := 4) (q0 := (RX4, TX4, 6)) rfl (by decide) rfl f46 rfl rfl (ym_st4 (Nat.le_of_ble_eq_true rfl)) rfl ?_
          by_cases c49 : q46.1 = 0
          · rw [if_pos c49] at hf
            refine ym_if_eq_y (pc := 49) (tgt := 55) dX4_greatestRival_49 (by decide) c49 ?_
            exact ym_sub [0, 1, 2, 3, 4] rfl (ob_X4_greatestRival_55_13 hKl hf k)
          · rw [if_neg c49] at hf
            refine ym_if_eq_n (pc := 49) (tgt := 55) dX4_greatestRival_49 (by decide) c49 ?_
            exact ym_sub [0, 1, 3, 4] rfl (ob_X4_greatestRival_52_13 hKl hf k)
def lp_X4_greatestRival_13 (N : Nat) : Nat → Option Nat → Int32 → Int32 → Int32 → Int32 → ym_H → Option ((Int32) × ym_H)
  | 0, _, _, _, _, _, _ => none
  | n + 1, w0, w1, w2, w3, w4, h => lb_X4_greatestRival_13 (lp_X4_greatestRival_13 N n) N w0 w1 w2 w3 w4 h
set_option maxRecDepth 20000 in
set_option maxHeartbeats 4000000 in
theorem ok_lp_X4_greatestRival_13 {D : ym_D} {b0 : Nat} {N : Nat}  : ∀ (n : Nat) (w0 : Option Nat) (w1 : Int32) (w2 : Int32) (w3 : Int32) (w4 : Int32) (h h1 : ym_H) (x : (Int32)), lp_X4_greatestRival_13 N n w0 w1 w2 w3 w4 h = some (x, h1) → ∀ {r0 : Option Value} {h' : ym_H}, ym_Y D b0 g_X4_greatestRival 6 61 [(2, .int x)] [] h1 r0 h' → ym_Y D b0 g_X4_greatestRival 6 13 [(0, va_rf w0), (1, .int w1), (2, .int w2), (3, .int w3), (4, .int w4)] [] h r0 h' := by
  intro n
  induction n with
  | zero =>
    intro w0 w1 w2 w3 w4 h h1 x hf
    cases hf
  | succ n ih =>
    intro w0 w1 w2 w3 w4 h h1 x hf r0 h' k
    exact ol_X4_greatestRival_13 (fun w0 w1 w2 w3 w4 h h1 x z r0 h' k => ih w0 w1 w2 w3 w4 h h1 x z k) hf k
def fn_X4_greatestRival (N : Nat) (a0 : Option Nat) (a1 : Int32) (h : ym_H) : Option (Int32 × ym_H) :=
  Option.bind (ym_gR h a0 4 4) fun v3 =>
  Option.bind (ym_ob h v3 5) fun o6 =>
  Option.bind (fn_X5_rows N v3 h) fun q6 =>
  Option.bind (lp_X4_greatestRival_13 N N a0 a1 (-1) q6.1 0 q6.2) fun q13 =>
  some (q13.1, q13.2)
set_option maxRecDepth 20000 in
set_option maxHeartbeats 4000000 in
theorem ok_X4_greatestRival {D : ym_D} {b0 : Nat} {N : Nat} {a0 : Option Nat} {a1 : Int32} {h h' : ym_H} {r : Int32} (hf : fn_X4_greatestRival N a0 a1 h = some (r, h')) : ym_M D b0 g_X4_greatestRival 6 [va_rf a0, .int a1] h (some (.int r)) h' := by
  unfold fn_X4_greatestRival at hf
  refine ym_meth (lv := [(0, va_rf a0), (1, .int a1)]) (by decide) (by simp [lg_sl, ym_c1, ym_cI, ym_cL, g_X4_greatestRival]) (by simp [lv_args, ym_c1, ym_cI, ym_cL]) ?_
  refine ym_iconst (pc := 0) (v := (-1)) dX4_greatestRival_0 (by decide) ?_
  refine ym_istore_n (pc := 1) (lv' := [(2, .int (-1)), (0, va_rf a0), (1, .int a1)]) dX4_greatestRival_1 rfl (by decide) ⟨trivial, rfl, trivial⟩ rfl ?_
  refine ym_aload_n (pc := 2) 1 dX4_greatestRival_2 rfl rfl ?_
  obtain ⟨v3, e3, hf⟩ := Option.bind_eq_some_iff.mp hf
  refine ym_get (pc := 3) dX4_greatestRival_3 rfl (by decide) iX4 (k := 4) (by decide) wd_349 (ym_gR_v e3) ?_
  obtain ⟨o6, f6, hf⟩ := Option.bind_eq_some_iff.mp hf
  obtain ⟨q6, e6, hf⟩ := Option.bind_eq_some_iff.mp hf
  refine ym_callV (pc := 6) (G2 := g_X5_rows) (dep2 := 2) (As := []) (st := []) (stk2 := [.int q6.1]) (r2 := (some (.int q6.1))) (h1 := q6.2) dX4_greatestRival_6 (ok_X5_rows e6) (sc_X4_greatestRival_X5_rows) wd_472 wd_395 wd_396 (ci := 5) (q0 := (RX5, TX5, 2)) rfl (by decide) rfl f6 rfl rfl (ym_st4 (Nat.le_of_ble_eq_true rfl)) rfl ?_
  refine ym_istore_n (pc := 9) (lv' := [(3, .int q6.1), (2, .int (-1)), (0, va_rf a0), (1, .int a1)]) dX4_greatestRival_9 rfl (by decide) ⟨rfl, trivial, trivial, trivial⟩ rfl ?_
  refine ym_iconst (pc := 10) (v := 0) dX4_greatestRival_10 (by decide) ?_
  refine ym_istore (pc := 11) (lv' := [(4, .int 0), (3, .int q6.1), (2, .int (-1)), (0, va_rf a0), (1, .int a1)]) dX4_greatestRival_11 (by decide) ⟨rfl, trivial, trivial, trivial, trivial⟩ rfl ?_
  obtain ⟨q13, e13, hf⟩ := Option.bind_eq_some_iff.mp hf
  refine ym_sub (lv' := [(0, va_rf a0), (1, .int a1), (2, .int (-1)), (3, .int q6.1), (4, .int 0)]) [3, 4, 2, 1, 0] rfl ?_
  refine ok_lp_X4_greatestRival_13 N _ _ _ _ _ _ _ _ e13 ?_
  refine ym_iload_n (pc := 61) 0 dX4_greatestRival_61 rfl rfl ?_
  cases hf
  exact ym_iret (pc := 62) dX4_greatestRival_62 rfl
theorem dX4_hasBidderAlready_0 : decode cX4_hasBidderAlready 0 = .ok (.aload_n 0, 1) := by decide +kernel
theorem dX4_hasBidderAlready_1 : decode cX4_hasBidderAlready 1 = .ok (.getfield 9, 3) := by decide +kernel
theorem dX4_hasBidderAlready_4 : decode cX4_hasBidderAlready 4 = .ok (.iconst 4, 1) := by decide +kernel
theorem dX4_hasBidderAlready_5 : decode cX4_hasBidderAlready 5 = .ok (.if_icmp .ne 23, 3) := by decide +kernel
theorem dX4_hasBidderAlready_8 : decode cX4_hasBidderAlready 8 = .ok (.aload_n 0, 1) := by decide +kernel
theorem dX4_hasBidderAlready_9 : decode cX4_hasBidderAlready 9 = .ok (.getfield 31, 3) := by decide +kernel
theorem dX4_hasBidderAlready_12 : decode cX4_hasBidderAlready 12 = .ok (.iload_n 1, 1) := by decide +kernel
theorem dX4_hasBidderAlready_13 : decode cX4_hasBidderAlready 13 = .ok (.invokevirtual 69, 3) := by decide +kernel
theorem dX4_hasBidderAlready_16 : decode cX4_hasBidderAlready 16 = .ok (.iconst (-1), 1) := by decide +kernel
theorem dX4_hasBidderAlready_17 : decode cX4_hasBidderAlready 17 = .ok (.if_icmp .eq 7, 3) := by decide +kernel
theorem dX4_hasBidderAlready_20 : decode cX4_hasBidderAlready 20 = .ok (.iconst 1, 1) := by decide +kernel
theorem dX4_hasBidderAlready_21 : decode cX4_hasBidderAlready 21 = .ok (.goto 20, 3) := by decide +kernel
theorem dX4_hasBidderAlready_24 : decode cX4_hasBidderAlready 24 = .ok (.iconst 0, 1) := by decide +kernel
theorem dX4_hasBidderAlready_25 : decode cX4_hasBidderAlready 25 = .ok (.goto 16, 3) := by decide +kernel
theorem dX4_hasBidderAlready_28 : decode cX4_hasBidderAlready 28 = .ok (.aload_n 0, 1) := by decide +kernel
theorem dX4_hasBidderAlready_29 : decode cX4_hasBidderAlready 29 = .ok (.invokevirtual 73, 3) := by decide +kernel
theorem dX4_hasBidderAlready_32 : decode cX4_hasBidderAlready 32 = .ok (.iload_n 1, 1) := by decide +kernel
theorem dX4_hasBidderAlready_33 : decode cX4_hasBidderAlready 33 = .ok (.if_icmp .ne 7, 3) := by decide +kernel
theorem dX4_hasBidderAlready_36 : decode cX4_hasBidderAlready 36 = .ok (.iconst 1, 1) := by decide +kernel
theorem dX4_hasBidderAlready_37 : decode cX4_hasBidderAlready 37 = .ok (.goto 4, 3) := by decide +kernel
theorem dX4_hasBidderAlready_40 : decode cX4_hasBidderAlready 40 = .ok (.iconst 0, 1) := by decide +kernel
theorem dX4_hasBidderAlready_41 : decode cX4_hasBidderAlready 41 = .ok (.ireturn, 1) := by decide +kernel
theorem sc_X4_hasBidderAlready_X5_rowOf : ym_site g_X4_hasBidderAlready g_X5_rowOf 4 3 1 := ⟨by decide, by decide, wd_393, wd_81, by decide +kernel⟩
theorem sc_X4_hasBidderAlready_X4_standingBidder : ym_site g_X4_hasBidderAlready g_X4_standingBidder 4 3 0 := ⟨by decide, by decide, wd_512, wd_87, by decide +kernel⟩
def fn_X4_hasBidderAlready (N : Nat) (a0 : Option Nat) (a1 : Int32) (h : ym_H) : Option (Int32 × ym_H) :=
  Option.bind (ym_gI h a0 4 0) fun v1 =>
  if v1 = 4 then
    Option.bind (ym_gR h a0 4 3) fun v9 =>
    Option.bind (ym_ob h v9 5) fun o13 =>
    Option.bind (fn_X5_rowOf N v9 a1 h) fun q13 =>
    if q13.1 = (-1) then
      some (0, q13.2)
    else
      some (1, q13.2)
  else
    Option.bind (ym_ob h a0 4) fun o29 =>
    Option.bind (fn_X4_standingBidder N a0 h) fun q29 =>
    if q29.1 = a1 then
      some (1, q29.2)
    else
      some (0, q29.2)
set_option maxRecDepth 20000 in
set_option maxHeartbeats 4000000 in
theorem ok_X4_hasBidderAlready {D : ym_D} {b0 : Nat} {N : Nat} {a0 : Option Nat} {a1 : Int32} {h h' : ym_H} {r : Int32} (hf : fn_X4_hasBidderAlready N a0 a1 h = some (r, h')) : ym_M D b0 g_X4_hasBidderAlready 4 [va_rf a0, .int a1] h (some (.int r)) h' := by
  unfold fn_X4_hasBidderAlready at hf
  refine ym_meth (lv := [(0, va_rf a0), (1, .int a1)]) (by decide) (by simp [lg_sl, ym_c1, ym_cI, ym_cL, g_X4_hasBidderAlready]) (by simp [lv_args, ym_c1, ym_cI, ym_cL]) ?_
  refine ym_aload_n (pc := 0) 0 dX4_hasBidderAlready_0 rfl rfl ?_
  obtain ⟨v1, e1, hf⟩ := Option.bind_eq_some_iff.mp hf
  refine ym_get (pc := 1) dX4_hasBidderAlready_1 rfl (by decide) iX4 (k := 0) (by decide) wd_338 (ym_gI_v e1) ?_
  refine ym_iconst (pc := 4) (v := 4) dX4_hasBidderAlready_4 (by decide) ?_
  by_cases c5 : v1 = 4
  · rw [if_pos c5] at hf
    refine ym_icmp_ne_y (pc := 5) (tgt := 28) dX4_hasBidderAlready_5 (by decide) c5 ?_
    refine ym_aload_n (pc := 8) 0 dX4_hasBidderAlready_8 rfl rfl ?_
    obtain ⟨v9, e9, hf⟩ := Option.bind_eq_some_iff.mp hf
    refine ym_get (pc := 9) dX4_hasBidderAlready_9 rfl (by decide) iX4 (k := 3) (by decide) wd_347 (ym_gR_v e9) ?_
    refine ym_iload_n (pc := 12) 1 dX4_hasBidderAlready_12 rfl rfl ?_
    obtain ⟨o13, f13, hf⟩ := Option.bind_eq_some_iff.mp hf
    obtain ⟨q13, e13, hf⟩ := Option.bind_eq_some_iff.mp hf
    refine ym_callV (pc := 13) (G2 := g_X5_rowOf) (dep2 := 3) (As := [.int a1]) (st := []) (stk2 := [.int q13.1]) (r2 := (some (.int q13.1))) (h1 := q13.2) dX4_hasBidderAlready_13 (ok_X5_rowOf e13) (sc_X4_hasBidderAlready_X5_rowOf) wd_553 wd_391 wd_392 (ci := 5) (q0 := (RX5, TX5, 2)) rfl (by decide) rfl f13 rfl rfl (ym_st4 (Nat.le_of_ble_eq_true rfl)) rfl ?_
    refine ym_iconst (pc := 16) (v := (-1)) dX4_hasBidderAlready_16 (by decide) ?_
    by_cases c17 : q13.1 = (-1)
    · rw [if_pos c17] at hf
      refine ym_icmp_eq_y (pc := 17) (tgt := 24) dX4_hasBidderAlready_17 (by decide) c17 ?_
      refine ym_iconst (pc := 24) (v := 0) dX4_hasBidderAlready_24 (by decide) ?_
      refine ym_goto (pc := 25) (tgt := 41) dX4_hasBidderAlready_25 (by decide) ?_
      cases hf
      exact ym_zret (pc := 41) dX4_hasBidderAlready_41 rfl rfl
    · rw [if_neg c17] at hf
      refine ym_icmp_eq_n (pc := 17) (tgt := 24) dX4_hasBidderAlready_17 (by decide) c17 ?_
      refine ym_iconst (pc := 20) (v := 1) dX4_hasBidderAlready_20 (by decide) ?_
      refine ym_goto (pc := 21) (tgt := 41) dX4_hasBidderAlready_21 (by decide) ?_
      cases hf
      exact ym_zret (pc := 41) dX4_hasBidderAlready_41 rfl rfl
  · rw [if_neg c5] at hf
    refine ym_icmp_ne_n (pc := 5) (tgt := 28) dX4_hasBidderAlready_5 (by decide) c5 ?_
    refine ym_aload_n (pc := 28) 0 dX4_hasBidderAlready_28 rfl rfl ?_
    obtain ⟨o29, f29, hf⟩ := Option.bind_eq_some_iff.mp hf
    obtain ⟨q29, e29, hf⟩ := Option.bind_eq_some_iff.mp hf
    refine ym_callV (pc := 29) (G2 := g_X4_standingBidder) (dep2 := 3) (As := []) (st := []) (stk2 := [.int q29.1]) (r2 := (some (.int q29.1))) (h1 := q29.2) dX4_hasBidderAlready_29 (ok_X4_standingBidder e29) (sc_X4_hasBidderAlready_X4_standingBidder) wd_554 wd_510 wd_511 (ci := 4) (q0 := (RX4, TX4, 6)) rfl (by decide) rfl f29 rfl rfl (ym_st4 (Nat.le_of_ble_eq_true rfl)) rfl ?_
    refine ym_iload_n (pc := 32) 1 dX4_hasBidderAlready_32 rfl rfl ?_
    by_cases c33 : q29.1 = a1
    · rw [if_pos c33] at hf
      refine ym_icmp_ne_y (pc := 33) (tgt := 40) dX4_hasBidderAlready_33 (by decide) c33 ?_
      refine ym_iconst (pc := 36) (v := 1) dX4_hasBidderAlready_36 (by decide) ?_
      refine ym_goto (pc := 37) (tgt := 41) dX4_hasBidderAlready_37 (by decide) ?_
      cases hf
      exact ym_zret (pc := 41) dX4_hasBidderAlready_41 rfl rfl
    · rw [if_neg c33] at hf
      refine ym_icmp_ne_n (pc := 33) (tgt := 40) dX4_hasBidderAlready_33 (by decide) c33 ?_
      refine ym_iconst (pc := 40) (v := 0) dX4_hasBidderAlready_40 (by decide) ?_
      cases hf
      exact ym_zret (pc := 41) dX4_hasBidderAlready_41 rfl rfl
theorem dX4_hasBook_0 : decode cX4_hasBook 0 = .ok (.aload_n 0, 1) := by decide +kernel
theorem dX4_hasBook_1 : decode cX4_hasBook 1 = .ok (.invokevirtual 51, 3) := by decide +kernel
theorem dX4_hasBook_4 : decode cX4_hasBook 4 = .ok (.ifCond .eq 7, 3) := by decide +kernel
theorem dX4_hasBook_7 : decode cX4_hasBook 7 = .ok (.iconst 1, 1) := by decide +kernel
theorem dX4_hasBook_8 : decode cX4_hasBook 8 = .ok (.goto 4, 3) := by decide +kernel
theorem dX4_hasBook_11 : decode cX4_hasBook 11 = .ok (.iconst 0, 1) := by decide +kernel
theorem dX4_hasBook_12 : decode cX4_hasBook 12 = .ok (.ireturn, 1) := by decide +kernel
theorem sc_X4_hasBook_X4_stateNow : ym_site g_X4_hasBook g_X4_stateNow 3 2 0 := ⟨by decide, by decide, wd_388, wd_87, by decide +kernel⟩
def fn_X4_hasBook (N : Nat) (a0 : Option Nat) (h : ym_H) : Option (Int32 × ym_H) :=
  Option.bind (ym_ob h a0 4) fun o1 =>
  Option.bind (fn_X4_stateNow N a0 h) fun q1 =>
  if q1.1 = 0 then
    some (0, q1.2)
  else
    some (1, q1.2)
set_option maxRecDepth 20000 in
set_option maxHeartbeats 4000000 in
theorem ok_X4_hasBook {D : ym_D} {b0 : Nat} {N : Nat} {a0 : Option Nat} {h h' : ym_H} {r : Int32} (hf : fn_X4_hasBook N a0 h = some (r, h')) : ym_M D b0 g_X4_hasBook 3 [va_rf a0] h (some (.int r)) h' := by
  unfold fn_X4_hasBook at hf
  refine ym_meth (lv := [(0, va_rf a0)]) (by decide) (by simp [lg_sl, ym_c1, ym_cI, ym_cL, g_X4_hasBook]) (by simp [lv_args, ym_c1, ym_cI, ym_cL]) ?_
  refine ym_aload_n (pc := 0) 0 dX4_hasBook_0 rfl rfl ?_
  obtain ⟨o1, f1, hf⟩ := Option.bind_eq_some_iff.mp hf
  obtain ⟨q1, e1, hf⟩ := Option.bind_eq_some_iff.mp hf
  refine ym_callV (pc := 1) (G2 := g_X4_stateNow) (dep2 := 2) (As := []) (st := []) (stk2 := [.int q1.1]) (r2 := (some (.int q1.1))) (h1 := q1.2) dX4_hasBook_1 (ok_X4_stateNow e1) (sc_X4_hasBook_X4_stateNow) wd_539 wd_386 wd_387 (ci := 4) (q0 := (RX4, TX4, 6)) rfl (by decide) rfl f1 rfl rfl (ym_st4 (Nat.le_of_ble_eq_true rfl)) rfl ?_
  by_cases c4 : q1.1 = 0
  · rw [if_pos c4] at hf
    refine ym_if_eq_y (pc := 4) (tgt := 11) dX4_hasBook_4 (by decide) c4 ?_
    refine ym_iconst (pc := 11) (v := 0) dX4_hasBook_11 (by decide) ?_
    cases hf
    exact ym_zret (pc := 12) dX4_hasBook_12 rfl rfl
  · rw [if_neg c4] at hf
    refine ym_if_eq_n (pc := 4) (tgt := 11) dX4_hasBook_4 (by decide) c4 ?_
    refine ym_iconst (pc := 7) (v := 1) dX4_hasBook_7 (by decide) ?_
    refine ym_goto (pc := 8) (tgt := 12) dX4_hasBook_8 (by decide) ?_
    cases hf
    exact ym_zret (pc := 12) dX4_hasBook_12 rfl rfl
theorem dX5_init_0 : decode cX5_init 0 = .ok (.aload_n 0, 1) := by decide +kernel
theorem dX5_init_1 : decode cX5_init 1 = .ok (.invokespecial 3, 3) := by decide +kernel
theorem dX5_init_4 : decode cX5_init 4 = .ok (.aload_n 0, 1) := by decide +kernel
theorem dX5_init_5 : decode cX5_init 5 = .ok (.new 9, 3) := by decide +kernel
theorem dX5_init_8 : decode cX5_init 8 = .ok (.dup, 1) := by decide +kernel
theorem dX5_init_9 : decode cX5_init 9 = .ok (.aload_n 1, 1) := by decide +kernel
theorem dX5_init_10 : decode cX5_init 10 = .ok (.iconst 1, 1) := by decide +kernel
theorem dX5_init_11 : decode cX5_init 11 = .ok (.iconst 2, 1) := by decide +kernel
theorem dX5_init_12 : decode cX5_init 12 = .ok (.iload_n 2, 1) := by decide +kernel
theorem dX5_init_13 : decode cX5_init 13 = .ok (.imul, 1) := by decide +kernel
theorem dX5_init_14 : decode cX5_init 14 = .ok (.iadd, 1) := by decide +kernel
theorem dX5_init_15 : decode cX5_init 15 = .ok (.invokespecial 11, 3) := by decide +kernel
theorem dX5_init_18 : decode cX5_init 18 = .ok (.putfield 14, 3) := by decide +kernel
theorem dX5_init_21 : decode cX5_init 21 = .ok (.aload_n 0, 1) := by decide +kernel
theorem dX5_init_22 : decode cX5_init 22 = .ok (.iload_n 2, 1) := by decide +kernel
theorem dX5_init_23 : decode cX5_init 23 = .ok (.putfield 20, 3) := by decide +kernel
theorem dX5_init_26 : decode cX5_init 26 = .ok (.return_, 1) := by decide +kernel
theorem sc_X5_init_X2_init : ym_site g_X5_init g_X2_init 3 2 2 := ⟨by decide, by decide, wd_129, wd_78, by decide +kernel⟩
def fn_X5_init (N : Nat) (a0 : Option Nat) (a1 : Option Nat) (a2 : Int32) (h : ym_H) : Option (Unit × ym_H) :=
  Option.bind (ym_ob h a0 5) fun o1 =>
  Option.bind (ym_nO h 2 (.inr (2, [.null, .null]))) fun h5 =>
  Option.bind (fn_X2_init N (some h.1) a1 (1 + (2 * a2)) h5) fun q15 =>
  Option.bind (ym_pf q15.2 a0 5 0 (va_rf (some h.1))) fun h18 =>
  Option.bind (ym_pf h18 a0 5 1 (.int a2)) fun h23 =>
  some ((), h23)
set_option maxRecDepth 20000 in
set_option maxHeartbeats 4000000 in
theorem ok_X5_init {D : ym_D} {b0 : Nat} {N : Nat} {a0 : Option Nat} {a1 : Option Nat} {a2 : Int32} {h h' : ym_H} {r : Unit} (hf : fn_X5_init N a0 a1 a2 h = some (r, h')) : ym_M D b0 g_X5_init 3 [va_rf a0, va_rf a1, .int a2] h none h' := by
  unfold fn_X5_init at hf
  refine ym_meth (lv := [(0, va_rf a0), (1, va_rf a1), (2, .int a2)]) (by decide) (by simp [lg_sl, ym_c1, ym_cI, ym_cL, g_X5_init]) (by simp [lv_args, ym_c1, ym_cI, ym_cL]) ?_
  refine ym_aload_n (pc := 0) 0 dX5_init_0 rfl rfl ?_
  obtain ⟨o1, e1, hf⟩ := Option.bind_eq_some_iff.mp hf
  refine ym_objInit (pc := 1) dX5_init_1 wd_152 wd_94 wd_95 (by decide) (ym_st4 (Nat.le_of_ble_eq_true rfl)) (ym_ob_ne e1) ?_
  refine ym_aload_n (pc := 4) 0 dX5_init_4 rfl rfl ?_
  obtain ⟨h5, e5, hf⟩ := Option.bind_eq_some_iff.mp hf
  refine ym_newP (pc := 5) (h1 := h5) (ci := 2) [.null, .null] dX5_init_5 rfl iX2 tyX2 tyX2_ok wd_153 wd_126 wd_78 (by decide +kernel) e5 ?_
  refine ym_dup (pc := 8) dX5_init_8 (ym_c1 (some h.1)) ?_
  refine ym_aload_n (pc := 9) 1 dX5_init_9 rfl rfl ?_
  refine ym_iconst (pc := 10) (v := 1) dX5_init_10 (by decide) ?_
  refine ym_iconst (pc := 11) (v := 2) dX5_init_11 (by decide) ?_
  refine ym_iload_n (pc := 12) 2 dX5_init_12 rfl rfl ?_
  refine ym_imul (pc := 13) dX5_init_13 ?_
  refine ym_iadd (pc := 14) dX5_init_14 ?_
  obtain ⟨q15, e15, hf⟩ := Option.bind_eq_some_iff.mp hf
  refine ym_callI (pc := 15) (G2 := g_X2_init) (dep2 := 2) (a := (some h.1)) (As := [va_rf a1, .int (1 + (2 * a2))]) (st := [va_rf (some h.1), va_rf a0]) (stk2 := [va_rf (some h.1), va_rf a0]) (r2 := none) (h1 := q15.2) dX5_init_15 (ok_X2_init e15) (sc_X5_init_X2_init) rfl rfl wd_154 wd_128 (Option.some_ne_none _) rfl rfl (ym_st4 (Nat.le_of_ble_eq_true rfl)) rfl ?_
  obtain ⟨h18, e18, hf⟩ := Option.bind_eq_some_iff.mp hf
  refine ym_putF (pc := 18) (h1 := h18) dX5_init_18 rfl (by decide) iX5 tyX5 tyX5_ok nmX5 (k := 0) (by decide) wd_155 rfl rfl rfl (tyX5_ok 0 (by decide)) (ym_nrO _ _) (ym_fiO _ _) e18 ?_
  refine ym_aload_n (pc := 21) 0 dX5_init_21 rfl rfl ?_
  refine ym_iload_n (pc := 22) 2 dX5_init_22 rfl rfl ?_
  obtain ⟨h23, e23, hf⟩ := Option.bind_eq_some_iff.mp hf
  refine ym_putF (pc := 23) (h1 := h23) dX5_init_23 rfl (by decide) iX5 tyX5 tyX5_ok nmX5 (k := 1) (by decide) wd_156 rfl rfl rfl (tyX5_ok 1 (by decide)) rfl rfl e23 ?_
  cases hf
  exact ym_vret (pc := 26) dX5_init_26 rfl
theorem dX4_init_0 : decode cX4_init 0 = .ok (.aload_n 0, 1) := by decide +kernel
theorem dX4_init_1 : decode cX4_init 1 = .ok (.invokespecial 3, 3) := by decide +kernel
theorem dX4_init_4 : decode cX4_init 4 = .ok (.aload_n 0, 1) := by decide +kernel
theorem dX4_init_5 : decode cX4_init 5 = .ok (.iload_n 2, 1) := by decide +kernel
theorem dX4_init_6 : decode cX4_init 6 = .ok (.putfield 9, 3) := by decide +kernel
theorem dX4_init_9 : decode cX4_init 9 = .ok (.aload_n 0, 1) := by decide +kernel
theorem dX4_init_10 : decode cX4_init 10 = .ok (.lload 5, 2) := by decide +kernel
theorem dX4_init_12 : decode cX4_init 12 = .ok (.putfield 15, 3) := by decide +kernel
theorem dX4_init_15 : decode cX4_init 15 = .ok (.aload_n 0, 1) := by decide +kernel
theorem dX4_init_16 : decode cX4_init 16 = .ok (.new 19, 3) := by decide +kernel
theorem dX4_init_19 : decode cX4_init 19 = .ok (.dup, 1) := by decide +kernel
theorem dX4_init_20 : decode cX4_init 20 = .ok (.aload_n 1, 1) := by decide +kernel
theorem dX4_init_21 : decode cX4_init 21 = .ok (.bipush 14, 2) := by decide +kernel
theorem dX4_init_23 : decode cX4_init 23 = .ok (.invokespecial 21, 3) := by decide +kernel
theorem dX4_init_26 : decode cX4_init 26 = .ok (.putfield 24, 3) := by decide +kernel
theorem dX4_init_29 : decode cX4_init 29 = .ok (.aload_n 0, 1) := by decide +kernel
theorem dX4_init_30 : decode cX4_init 30 = .ok (.new 28, 3) := by decide +kernel
theorem dX4_init_33 : decode cX4_init 33 = .ok (.dup, 1) := by decide +kernel
theorem dX4_init_34 : decode cX4_init 34 = .ok (.aload_n 1, 1) := by decide +kernel
theorem dX4_init_35 : decode cX4_init 35 = .ok (.iconst 2, 1) := by decide +kernel
theorem dX4_init_36 : decode cX4_init 36 = .ok (.invokespecial 30, 3) := by decide +kernel
theorem dX4_init_39 : decode cX4_init 39 = .ok (.putfield 31, 3) := by decide +kernel
theorem dX4_init_42 : decode cX4_init 42 = .ok (.aload_n 0, 1) := by decide +kernel
theorem dX4_init_43 : decode cX4_init 43 = .ok (.new 28, 3) := by decide +kernel
theorem dX4_init_46 : decode cX4_init 46 = .ok (.dup, 1) := by decide +kernel
theorem dX4_init_47 : decode cX4_init 47 = .ok (.aload_n 1, 1) := by decide +kernel
theorem dX4_init_48 : decode cX4_init 48 = .ok (.iconst 3, 1) := by decide +kernel
theorem dX4_init_49 : decode cX4_init 49 = .ok (.invokespecial 30, 3) := by decide +kernel
theorem dX4_init_52 : decode cX4_init 52 = .ok (.putfield 35, 3) := by decide +kernel
theorem dX4_init_55 : decode cX4_init 55 = .ok (.aload_n 0, 1) := by decide +kernel
theorem dX4_init_56 : decode cX4_init 56 = .ok (.new 28, 3) := by decide +kernel
theorem dX4_init_59 : decode cX4_init 59 = .ok (.dup, 1) := by decide +kernel
theorem dX4_init_60 : decode cX4_init 60 = .ok (.aload_n 1, 1) := by decide +kernel
theorem dX4_init_61 : decode cX4_init 61 = .ok (.iconst 1, 1) := by decide +kernel
theorem dX4_init_62 : decode cX4_init 62 = .ok (.invokespecial 30, 3) := by decide +kernel
theorem dX4_init_65 : decode cX4_init 65 = .ok (.putfield 38, 3) := by decide +kernel
theorem dX4_init_68 : decode cX4_init 68 = .ok (.aload_n 0, 1) := by decide +kernel
theorem dX4_init_69 : decode cX4_init 69 = .ok (.getfield 24, 3) := by decide +kernel
theorem dX4_init_72 : decode cX4_init 72 = .ok (.iconst 0, 1) := by decide +kernel
theorem dX4_init_73 : decode cX4_init 73 = .ok (.lload_n 3, 1) := by decide +kernel
theorem dX4_init_74 : decode cX4_init 74 = .ok (.invokevirtual 41, 3) := by decide +kernel
theorem dX4_init_77 : decode cX4_init 77 = .ok (.aload_n 0, 1) := by decide +kernel
theorem dX4_init_78 : decode cX4_init 78 = .ok (.getfield 24, 3) := by decide +kernel
theorem dX4_init_81 : decode cX4_init 81 = .ok (.bipush 11, 2) := by decide +kernel
theorem dX4_init_83 : decode cX4_init 83 = .ok (.ldc2_w 45, 3) := by decide +kernel
theorem dX4_init_86 : decode cX4_init 86 = .ok (.invokevirtual 41, 3) := by decide +kernel
theorem dX4_init_89 : decode cX4_init 89 = .ok (.return_, 1) := by decide +kernel
theorem sc_X4_init_X2_init : ym_site g_X4_init g_X2_init 4 2 2 := ⟨by decide, by decide, wd_129, wd_78, by decide +kernel⟩
theorem sc_X4_init_X5_init : ym_site g_X4_init g_X5_init 4 3 2 := ⟨by decide, by decide, wd_151, wd_81, by decide +kernel⟩
theorem sc_X4_init_X2_set : ym_site g_X4_init g_X2_set 4 1 2 := ⟨by decide, by decide, wd_244, wd_78, by decide +kernel⟩
def fn_X4_init (N : Nat) (a0 : Option Nat) (a1 : Option Nat) (a2 : Int32) (a3 : Int64) (a5 : Int64) (h : ym_H) : Option (Unit × ym_H) :=
  Option.bind (ym_ob h a0 4) fun o1 =>
  Option.bind (ym_pf h a0 4 0 (.int a2)) fun h6 =>
  Option.bind (ym_pf h6 a0 4 1 (.long a5)) fun h12 =>
  Option.bind (ym_nO h12 2 (.inr (2, [.null, .null]))) fun h16 =>
  Option.bind (fn_X2_init N (some h12.1) a1 14 h16) fun q23 =>
  Option.bind (ym_pf q23.2 a0 4 2 (va_rf (some h12.1))) fun h26 =>
  Option.bind (ym_nO h26 2 (.inr (5, [.null, .int 0]))) fun h30 =>
  Option.bind (fn_X5_init N (some h26.1) a1 2 h30) fun q36 =>
  Option.bind (ym_pf q36.2 a0 4 3 (va_rf (some h26.1))) fun h39 =>
  Option.bind (ym_nO h39 2 (.inr (5, [.null, .int 0]))) fun h43 =>
  Option.bind (fn_X5_init N (some h39.1) a1 3 h43) fun q49 =>
  Option.bind (ym_pf q49.2 a0 4 4 (va_rf (some h39.1))) fun h52 =>
  Option.bind (ym_nO h52 2 (.inr (5, [.null, .int 0]))) fun h56 =>
  Option.bind (fn_X5_init N (some h52.1) a1 1 h56) fun q62 =>
  Option.bind (ym_pf q62.2 a0 4 5 (va_rf (some h52.1))) fun h65 =>
  Option.bind (ym_gR h65 a0 4 2) fun v69 =>
  Option.bind (ym_ob h65 v69 2) fun o74 =>
  Option.bind (fn_X2_set N v69 0 a3 h65) fun q74 =>
  Option.bind (ym_gR q74.2 a0 4 2) fun v78 =>
  Option.bind (ym_ob q74.2 v78 2) fun o86 =>
  Option.bind (fn_X2_set N v78 11 (-1) q74.2) fun q86 =>
  some ((), q86.2)
set_option maxRecDepth 20000 in
set_option maxHeartbeats 4000000 in
theorem ok_X4_init {D : ym_D} {b0 : Nat} {N : Nat} {a0 : Option Nat} {a1 : Option Nat} {a2 : Int32} {a3 : Int64} {a5 : Int64} {h h' : ym_H} {r : Unit} (hf : fn_X4_init N a0 a1 a2 a3 a5 h = some (r, h')) : ym_M D b0 g_X4_init 4 [va_rf a0, va_rf a1, .int a2, .long a3, .long a5] h none h' := by
  unfold fn_X4_init at hf
  refine ym_meth (lv := [(0, va_rf a0), (1, va_rf a1), (2, .int a2), (3, .long a3), (5, .long a5)]) (by decide) (by simp [lg_sl, ym_c1, ym_cI, ym_cL, g_X4_init]) (by simp [lv_args, ym_c1, ym_cI, ym_cL]) ?_
  refine ym_aload_n (pc := 0) 0 dX4_init_0 rfl rfl ?_
  obtain ⟨o1, e1, hf⟩ := Option.bind_eq_some_iff.mp hf
  refine ym_objInit (pc := 1) dX4_init_1 wd_331 wd_94 wd_95 (by decide) (ym_st4 (Nat.le_of_ble_eq_true rfl)) (ym_ob_ne e1) ?_
  refine ym_aload_n (pc := 4) 0 dX4_init_4 rfl rfl ?_
  refine ym_iload_n (pc := 5) 2 dX4_init_5 rfl rfl ?_
  obtain ⟨h6, e6, hf⟩ := Option.bind_eq_some_iff.mp hf
  refine ym_putF (pc := 6) (h1 := h6) dX4_init_6 rfl (by decide) iX4 tyX4 tyX4_ok nmX4 (k := 0) (by decide) wd_338 rfl rfl rfl (tyX4_ok 0 (by decide)) rfl rfl e6 ?_
  refine ym_aload_n (pc := 9) 0 dX4_init_9 rfl rfl ?_
  refine ym_lload (pc := 10) 4 dX4_init_10 rfl ?_
  obtain ⟨h12, e12, hf⟩ := Option.bind_eq_some_iff.mp hf
  refine ym_putF (pc := 12) (h1 := h12) dX4_init_12 rfl (by decide) iX4 tyX4 tyX4_ok nmX4 (k := 1) (by decide) wd_341 rfl rfl rfl (tyX4_ok 1 (by decide)) rfl rfl e12 ?_
  refine ym_aload_n (pc := 15) 0 dX4_init_15 rfl rfl ?_
  obtain ⟨h16, e16, hf⟩ := Option.bind_eq_some_iff.mp hf
  refine ym_newP (pc := 16) (h1 := h16) (ci := 2) [.null, .null] dX4_init_16 rfl iX2 tyX2 tyX2_ok wd_332 wd_126 wd_78 (by decide +kernel) e16 ?_
  refine ym_dup (pc := 19) dX4_init_19 (ym_c1 (some h12.1)) ?_
  refine ym_aload_n (pc := 20) 1 dX4_init_20 rfl rfl ?_
  refine ym_bipush (pc := 21) (v := 14) dX4_init_21 (by decide) ?_
  obtain ⟨q23, e23, hf⟩ := Option.bind_eq_some_iff.mp hf
  refine ym_callI (pc := 23) (G2 := g_X2_init) (dep2 := 2) (a := (some h12.1)) (As := [va_rf a1, .int 14]) (st := [va_rf (some h12.1), va_rf a0]) (stk2 := [va_rf (some h12.1), va_rf a0]) (r2 := none) (h1 := q23.2) dX4_init_23 (ok_X2_init e23) (sc_X4_init_X2_init) rfl rfl wd_333 wd_128 (Option.some_ne_none _) rfl rfl (ym_st4 (Nat.le_of_ble_eq_true rfl)) rfl ?_
  obtain ⟨h26, e26, hf⟩ := Option.bind_eq_some_iff.mp hf
  refine ym_putF (pc := 26) (h1 := h26) dX4_init_26 rfl (by decide) iX4 tyX4 tyX4_ok nmX4 (k := 2) (by decide) wd_344 rfl rfl rfl (tyX4_ok 2 (by decide)) (ym_nrO _ _) (ym_fiO _ _) e26 ?_
  refine ym_aload_n (pc := 29) 0 dX4_init_29 rfl rfl ?_
  obtain ⟨h30, e30, hf⟩ := Option.bind_eq_some_iff.mp hf
  refine ym_newP (pc := 30) (h1 := h30) (ci := 5) [.null, .int 0] dX4_init_30 rfl iX5 tyX5 tyX5_ok wd_334 wd_148 wd_81 (by decide +kernel) e30 ?_
  refine ym_dup (pc := 33) dX4_init_33 (ym_c1 (some h26.1)) ?_
  refine ym_aload_n (pc := 34) 1 dX4_init_34 rfl rfl ?_
  refine ym_iconst (pc := 35) (v := 2) dX4_init_35 (by decide) ?_
  obtain ⟨q36, e36, hf⟩ := Option.bind_eq_some_iff.mp hf
  refine ym_callI (pc := 36) (G2 := g_X5_init) (dep2 := 3) (a := (some h26.1)) (As := [va_rf a1, .int 2]) (st := [va_rf (some h26.1), va_rf a0]) (stk2 := [va_rf (some h26.1), va_rf a0]) (r2 := none) (h1 := q36.2) dX4_init_36 (ok_X5_init e36) (sc_X4_init_X5_init) rfl rfl wd_335 wd_150 (Option.some_ne_none _) rfl rfl (ym_st4 (Nat.le_of_ble_eq_true rfl)) rfl ?_
  obtain ⟨h39, e39, hf⟩ := Option.bind_eq_some_iff.mp hf
  refine ym_putF (pc := 39) (h1 := h39) dX4_init_39 rfl (by decide) iX4 tyX4 tyX4_ok nmX4 (k := 3) (by decide) wd_347 rfl rfl rfl (tyX4_ok 3 (by decide)) (ym_nrO _ _) (ym_fiO _ _) e39 ?_
  refine ym_aload_n (pc := 42) 0 dX4_init_42 rfl rfl ?_
  obtain ⟨h43, e43, hf⟩ := Option.bind_eq_some_iff.mp hf
  refine ym_newP (pc := 43) (h1 := h43) (ci := 5) [.null, .int 0] dX4_init_43 rfl iX5 tyX5 tyX5_ok wd_334 wd_148 wd_81 (by decide +kernel) e43 ?_
  refine ym_dup (pc := 46) dX4_init_46 (ym_c1 (some h39.1)) ?_
  refine ym_aload_n (pc := 47) 1 dX4_init_47 rfl rfl ?_
  refine ym_iconst (pc := 48) (v := 3) dX4_init_48 (by decide) ?_
  obtain ⟨q49, e49, hf⟩ := Option.bind_eq_some_iff.mp hf
  refine ym_callI (pc := 49) (G2 := g_X5_init) (dep2 := 3) (a := (some h39.1)) (As := [va_rf a1, .int 3]) (st := [va_rf (some h39.1), va_rf a0]) (stk2 := [va_rf (some h39.1), va_rf a0]) (r2 := none) (h1 := q49.2) dX4_init_49 (ok_X5_init e49) (sc_X4_init_X5_init) rfl rfl wd_335 wd_150 (Option.some_ne_none _) rfl rfl (ym_st4 (Nat.le_of_ble_eq_true rfl)) rfl ?_
  obtain ⟨h52, e52, hf⟩ := Option.bind_eq_some_iff.mp hf
  refine ym_putF (pc := 52) (h1 := h52) dX4_init_52 rfl (by decide) iX4 tyX4 tyX4_ok nmX4 (k := 4) (by decide) wd_349 rfl rfl rfl (tyX4_ok 4 (by decide)) (ym_nrO _ _) (ym_fiO _ _) e52 ?_
  refine ym_aload_n (pc := 55) 0 dX4_init_55 rfl rfl ?_
  obtain ⟨h56, e56, hf⟩ := Option.bind_eq_some_iff.mp hf
  refine ym_newP (pc := 56) (h1 := h56) (ci := 5) [.null, .int 0] dX4_init_56 rfl iX5 tyX5 tyX5_ok wd_334 wd_148 wd_81 (by decide +kernel) e56 ?_
  refine ym_dup (pc := 59) dX4_init_59 (ym_c1 (some h52.1)) ?_
  refine ym_aload_n (pc := 60) 1 dX4_init_60 rfl rfl ?_
  refine ym_iconst (pc := 61) (v := 1) dX4_init_61 (by decide) ?_
  obtain ⟨q62, e62, hf⟩ := Option.bind_eq_some_iff.mp hf
  refine ym_callI (pc := 62) (G2 := g_X5_init) (dep2 := 3) (a := (some h52.1)) (As := [va_rf a1, .int 1]) (st := [va_rf (some h52.1), va_rf a0]) (stk2 := [va_rf (some h52.1), va_rf a0]) (r2 := none) (h1 := q62.2) dX4_init_62 (ok_X5_init e62) (sc_X4_init_X5_init) rfl rfl wd_335 wd_150 (Option.some_ne_none _) rfl rfl (ym_st4 (Nat.le_of_ble_eq_true rfl)) rfl ?_
  obtain ⟨h65, e65, hf⟩ := Option.bind_eq_some_iff.mp hf
  refine ym_putF (pc := 65) (h1 := h65) dX4_init_65 rfl (by decide) iX4 tyX4 tyX4_ok nmX4 (k := 5) (by decide) wd_352 rfl rfl rfl (tyX4_ok 5 (by decide)) (ym_nrO _ _) (ym_fiO _ _) e65 ?_
  refine ym_aload_n (pc := 68) 0 dX4_init_68 rfl rfl ?_
  obtain ⟨v69, e69, hf⟩ := Option.bind_eq_some_iff.mp hf
  refine ym_get (pc := 69) dX4_init_69 rfl (by decide) iX4 (k := 2) (by decide) wd_344 (ym_gR_v e69) ?_
  refine ym_iconst (pc := 72) (v := 0) dX4_init_72 (by decide) ?_
  refine ym_lload_n (pc := 73) 3 dX4_init_73 rfl rfl ?_
  obtain ⟨o74, f74, hf⟩ := Option.bind_eq_some_iff.mp hf
  obtain ⟨q74, e74, hf⟩ := Option.bind_eq_some_iff.mp hf
  refine ym_callV (pc := 74) (G2 := g_X2_set) (dep2 := 1) (As := [.int 0, .long a3]) (st := []) (stk2 := []) (r2 := none) (h1 := q74.2) dX4_init_74 (ok_X2_set e74) (sc_X4_init_X2_set) wd_336 wd_242 wd_243 (ci := 2) (q0 := (RX2, TX2, 2)) rfl (by decide) rfl f74 rfl rfl (ym_st4 (Nat.le_of_ble_eq_true rfl)) rfl ?_
  refine ym_aload_n (pc := 77) 0 dX4_init_77 rfl rfl ?_
  obtain ⟨v78, e78, hf⟩ := Option.bind_eq_some_iff.mp hf
  refine ym_get (pc := 78) dX4_init_78 rfl (by decide) iX4 (k := 2) (by decide) wd_344 (ym_gR_v e78) ?_
  refine ym_bipush (pc := 81) (v := 11) dX4_init_81 (by decide) ?_
  refine ym_ldc2 (pc := 83) dX4_init_83 wd_337 ?_
  obtain ⟨o86, f86, hf⟩ := Option.bind_eq_some_iff.mp hf
  obtain ⟨q86, e86, hf⟩ := Option.bind_eq_some_iff.mp hf
  refine ym_callV (pc := 86) (G2 := g_X2_set) (dep2 := 1) (As := [.int 11, .long (-1)]) (st := []) (stk2 := []) (r2 := none) (h1 := q86.2) dX4_init_86 (ok_X2_set e86) (sc_X4_init_X2_set) wd_336 wd_242 wd_243 (ci := 2) (q0 := (RX2, TX2, 2)) rfl (by decide) rfl f86 rfl rfl (ym_st4 (Nat.le_of_ble_eq_true rfl)) rfl ?_
  cases hf
  exact ym_vret (pc := 89) dX4_init_89 rfl
theorem dX4_isJoined_0 : decode cX4_isJoined 0 = .ok (.aload_n 0, 1) := by decide +kernel
theorem dX4_isJoined_1 : decode cX4_isJoined 1 = .ok (.getfield 24, 3) := by decide +kernel
theorem dX4_isJoined_4 : decode cX4_isJoined 4 = .ok (.bipush 11, 2) := by decide +kernel
theorem dX4_isJoined_6 : decode cX4_isJoined 6 = .ok (.invokevirtual 47, 3) := by decide +kernel
theorem dX4_isJoined_9 : decode cX4_isJoined 9 = .ok (.ldc2_w 45, 3) := by decide +kernel
theorem dX4_isJoined_12 : decode cX4_isJoined 12 = .ok (.lcmp, 1) := by decide +kernel
theorem dX4_isJoined_13 : decode cX4_isJoined 13 = .ok (.ifCond .eq 7, 3) := by decide +kernel
theorem dX4_isJoined_16 : decode cX4_isJoined 16 = .ok (.iconst 1, 1) := by decide +kernel
theorem dX4_isJoined_17 : decode cX4_isJoined 17 = .ok (.goto 4, 3) := by decide +kernel
theorem dX4_isJoined_20 : decode cX4_isJoined 20 = .ok (.iconst 0, 1) := by decide +kernel
theorem dX4_isJoined_21 : decode cX4_isJoined 21 = .ok (.ireturn, 1) := by decide +kernel
theorem sc_X4_isJoined_X2_get : ym_site g_X4_isJoined g_X2_get 2 1 1 := ⟨by decide, by decide, wd_256, wd_78, by decide +kernel⟩
def fn_X4_isJoined (N : Nat) (a0 : Option Nat) (h : ym_H) : Option (Int32 × ym_H) :=
  Option.bind (ym_gR h a0 4 2) fun v1 =>
  Option.bind (ym_ob h v1 2) fun o6 =>
  Option.bind (fn_X2_get N v1 11 h) fun q6 =>
  if q6.1 = (-1) then
    some (0, q6.2)
  else
    some (1, q6.2)
set_option maxRecDepth 20000 in
set_option maxHeartbeats 4000000 in
theorem ok_X4_isJoined {D : ym_D} {b0 : Nat} {N : Nat} {a0 : Option Nat} {h h' : ym_H} {r : Int32} (hf : fn_X4_isJoined N a0 h = some (r, h')) : ym_M D b0 g_X4_isJoined 2 [va_rf a0] h (some (.int r)) h' := by
  unfold fn_X4_isJoined at hf
  refine ym_meth (lv := [(0, va_rf a0)]) (by decide) (by simp [lg_sl, ym_c1, ym_cI, ym_cL, g_X4_isJoined]) (by simp [lv_args, ym_c1, ym_cI, ym_cL]) ?_
  refine ym_aload_n (pc := 0) 0 dX4_isJoined_0 rfl rfl ?_
  obtain ⟨v1, e1, hf⟩ := Option.bind_eq_some_iff.mp hf
  refine ym_get (pc := 1) dX4_isJoined_1 rfl (by decide) iX4 (k := 2) (by decide) wd_344 (ym_gR_v e1) ?_
  refine ym_bipush (pc := 4) (v := 11) dX4_isJoined_4 (by decide) ?_
  obtain ⟨o6, f6, hf⟩ := Option.bind_eq_some_iff.mp hf
  obtain ⟨q6, e6, hf⟩ := Option.bind_eq_some_iff.mp hf
  refine ym_callV (pc := 6) (G2 := g_X2_get) (dep2 := 1) (As := [.int 11]) (st := []) (stk2 := [.long q6.1]) (r2 := (some (.long q6.1))) (h1 := q6.2) dX4_isJoined_6 (ok_X2_get e6) (sc_X4_isJoined_X2_get) wd_389 wd_254 wd_255 (ci := 2) (q0 := (RX2, TX2, 2)) rfl (by decide) rfl f6 rfl rfl (ym_st4 (Nat.le_of_ble_eq_true rfl)) rfl ?_
  refine ym_ldc2 (pc := 9) dX4_isJoined_9 wd_337 ?_
  by_cases c12 : q6.1 = (-1)
  · rw [if_pos c12] at hf
    refine ym_lcmp_eq_y (pc := 12) (tgt := 20) dX4_isJoined_12 dX4_isJoined_13 (by decide) c12 ?_
    refine ym_iconst (pc := 20) (v := 0) dX4_isJoined_20 (by decide) ?_
    cases hf
    exact ym_zret (pc := 21) dX4_isJoined_21 rfl rfl
  · rw [if_neg c12] at hf
    refine ym_lcmp_eq_n (pc := 12) (tgt := 20) dX4_isJoined_12 dX4_isJoined_13 (by decide) c12 ?_
    refine ym_iconst (pc := 16) (v := 1) dX4_isJoined_16 (by decide) ?_
    refine ym_goto (pc := 17) (tgt := 21) dX4_isJoined_17 (by decide) ?_
    cases hf
    exact ym_zret (pc := 21) dX4_isJoined_21 rfl rfl
theorem dX4_isOpen_0 : decode cX4_isOpen 0 = .ok (.aload_n 0, 1) := by decide +kernel
theorem dX4_isOpen_1 : decode cX4_isOpen 1 = .ok (.invokevirtual 51, 3) := by decide +kernel
theorem dX4_isOpen_4 : decode cX4_isOpen 4 = .ok (.iconst 1, 1) := by decide +kernel
theorem dX4_isOpen_5 : decode cX4_isOpen 5 = .ok (.if_icmp .ne 7, 3) := by decide +kernel
theorem dX4_isOpen_8 : decode cX4_isOpen 8 = .ok (.iconst 1, 1) := by decide +kernel
theorem dX4_isOpen_9 : decode cX4_isOpen 9 = .ok (.goto 4, 3) := by decide +kernel
theorem dX4_isOpen_12 : decode cX4_isOpen 12 = .ok (.iconst 0, 1) := by decide +kernel
theorem dX4_isOpen_13 : decode cX4_isOpen 13 = .ok (.ireturn, 1) := by decide +kernel
theorem sc_X4_isOpen_X4_stateNow : ym_site g_X4_isOpen g_X4_stateNow 3 2 0 := ⟨by decide, by decide, wd_388, wd_87, by decide +kernel⟩
def fn_X4_isOpen (N : Nat) (a0 : Option Nat) (h : ym_H) : Option (Int32 × ym_H) :=
  Option.bind (ym_ob h a0 4) fun o1 =>
  Option.bind (fn_X4_stateNow N a0 h) fun q1 =>
  if q1.1 = 1 then
    some (1, q1.2)
  else
    some (0, q1.2)
set_option maxRecDepth 20000 in
set_option maxHeartbeats 4000000 in
theorem ok_X4_isOpen {D : ym_D} {b0 : Nat} {N : Nat} {a0 : Option Nat} {h h' : ym_H} {r : Int32} (hf : fn_X4_isOpen N a0 h = some (r, h')) : ym_M D b0 g_X4_isOpen 3 [va_rf a0] h (some (.int r)) h' := by
  unfold fn_X4_isOpen at hf
  refine ym_meth (lv := [(0, va_rf a0)]) (by decide) (by simp [lg_sl, ym_c1, ym_cI, ym_cL, g_X4_isOpen]) (by simp [lv_args, ym_c1, ym_cI, ym_cL]) ?_
  refine ym_aload_n (pc := 0) 0 dX4_isOpen_0 rfl rfl ?_
  obtain ⟨o1, f1, hf⟩ := Option.bind_eq_some_iff.mp hf
  obtain ⟨q1, e1, hf⟩ := Option.bind_eq_some_iff.mp hf
  refine ym_callV (pc := 1) (G2 := g_X4_stateNow) (dep2 := 2) (As := []) (st := []) (stk2 := [.int q1.1]) (r2 := (some (.int q1.1))) (h1 := q1.2) dX4_isOpen_1 (ok_X4_stateNow e1) (sc_X4_isOpen_X4_stateNow) wd_539 wd_386 wd_387 (ci := 4) (q0 := (RX4, TX4, 6)) rfl (by decide) rfl f1 rfl rfl (ym_st4 (Nat.le_of_ble_eq_true rfl)) rfl ?_
  refine ym_iconst (pc := 4) (v := 1) dX4_isOpen_4 (by decide) ?_
  by_cases c5 : q1.1 = 1
  · rw [if_pos c5] at hf
    refine ym_icmp_ne_y (pc := 5) (tgt := 12) dX4_isOpen_5 (by decide) c5 ?_
    refine ym_iconst (pc := 8) (v := 1) dX4_isOpen_8 (by decide) ?_
    refine ym_goto (pc := 9) (tgt := 13) dX4_isOpen_9 (by decide) ?_
    cases hf
    exact ym_zret (pc := 13) dX4_isOpen_13 rfl rfl
  · rw [if_neg c5] at hf
    refine ym_icmp_ne_n (pc := 5) (tgt := 12) dX4_isOpen_5 (by decide) c5 ?_
    refine ym_iconst (pc := 12) (v := 0) dX4_isOpen_12 (by decide) ?_
    cases hf
    exact ym_zret (pc := 13) dX4_isOpen_13 rfl rfl
