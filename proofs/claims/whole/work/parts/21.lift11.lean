theorem dX8_newSeller_0 : decode cX8_newSeller 0 = .ok (.aload_n 0, 1) := by decide +kernel
theorem dX8_newSeller_1 : decode cX8_newSeller 1 = .ok (.iload_n 1, 1) := by decide +kernel
theorem dX8_newSeller_2 : decode cX8_newSeller 2 = .ok (.invokevirtual 294, 3) := by decide +kernel
theorem dX8_newSeller_5 : decode cX8_newSeller 5 = .ok (.ifCond .le 11, 3) := by decide +kernel
theorem dX8_newSeller_8 : decode cX8_newSeller 8 = .ok (.aload_n 0, 1) := by decide +kernel
theorem dX8_newSeller_9 : decode cX8_newSeller 9 = .ok (.iload_n 1, 1) := by decide +kernel
theorem dX8_newSeller_10 : decode cX8_newSeller 10 = .ok (.invokevirtual 294, 3) := by decide +kernel
theorem dX8_newSeller_13 : decode cX8_newSeller 13 = .ok (.ineg, 1) := by decide +kernel
theorem dX8_newSeller_14 : decode cX8_newSeller 14 = .ok (.i2l, 1) := by decide +kernel
theorem dX8_newSeller_15 : decode cX8_newSeller 15 = .ok (.lreturn, 1) := by decide +kernel
theorem dX8_newSeller_16 : decode cX8_newSeller 16 = .ok (.aload_n 0, 1) := by decide +kernel
theorem dX8_newSeller_17 : decode cX8_newSeller 17 = .ok (.iload_n 2, 1) := by decide +kernel
theorem dX8_newSeller_18 : decode cX8_newSeller 18 = .ok (.invokevirtual 343, 3) := by decide +kernel
theorem dX8_newSeller_21 : decode cX8_newSeller 21 = .ok (.ifCond .le 11, 3) := by decide +kernel
theorem dX8_newSeller_24 : decode cX8_newSeller 24 = .ok (.aload_n 0, 1) := by decide +kernel
theorem dX8_newSeller_25 : decode cX8_newSeller 25 = .ok (.iload_n 2, 1) := by decide +kernel
theorem dX8_newSeller_26 : decode cX8_newSeller 26 = .ok (.invokevirtual 343, 3) := by decide +kernel
theorem dX8_newSeller_29 : decode cX8_newSeller 29 = .ok (.ineg, 1) := by decide +kernel
theorem dX8_newSeller_30 : decode cX8_newSeller 30 = .ok (.i2l, 1) := by decide +kernel
theorem dX8_newSeller_31 : decode cX8_newSeller 31 = .ok (.lreturn, 1) := by decide +kernel
theorem dX8_newSeller_32 : decode cX8_newSeller 32 = .ok (.aload_n 0, 1) := by decide +kernel
theorem dX8_newSeller_33 : decode cX8_newSeller 33 = .ok (.getfield 32, 3) := by decide +kernel
theorem dX8_newSeller_36 : decode cX8_newSeller 36 = .ok (.iload_n 1, 1) := by decide +kernel
theorem dX8_newSeller_37 : decode cX8_newSeller 37 = .ok (.iaload, 1) := by decide +kernel
theorem dX8_newSeller_38 : decode cX8_newSeller 38 = .ok (.ifCond .eq 7, 3) := by decide +kernel
theorem dX8_newSeller_41 : decode cX8_newSeller 41 = .ok (.ldc2_w 346, 3) := by decide +kernel
theorem dX8_newSeller_44 : decode cX8_newSeller 44 = .ok (.lreturn, 1) := by decide +kernel
theorem dX8_newSeller_45 : decode cX8_newSeller 45 = .ok (.iconst 0, 1) := by decide +kernel
theorem dX8_newSeller_46 : decode cX8_newSeller 46 = .ok (.istore_n 3, 1) := by decide +kernel
theorem dX8_newSeller_47 : decode cX8_newSeller 47 = .ok (.iload_n 3, 1) := by decide +kernel
theorem dX8_newSeller_48 : decode cX8_newSeller 48 = .ok (.aload_n 0, 1) := by decide +kernel
theorem dX8_newSeller_49 : decode cX8_newSeller 49 = .ok (.getfield 41, 3) := by decide +kernel
theorem dX8_newSeller_52 : decode cX8_newSeller 52 = .ok (.iload_n 1, 1) := by decide +kernel
theorem dX8_newSeller_53 : decode cX8_newSeller 53 = .ok (.iaload, 1) := by decide +kernel
theorem dX8_newSeller_54 : decode cX8_newSeller 54 = .ok (.if_icmp .ge 27, 3) := by decide +kernel
theorem dX8_newSeller_57 : decode cX8_newSeller 57 = .ok (.aload_n 0, 1) := by decide +kernel
theorem dX8_newSeller_58 : decode cX8_newSeller 58 = .ok (.getfield 38, 3) := by decide +kernel
theorem dX8_newSeller_61 : decode cX8_newSeller 61 = .ok (.iconst 4, 1) := by decide +kernel
theorem dX8_newSeller_62 : decode cX8_newSeller 62 = .ok (.iload_n 1, 1) := by decide +kernel
theorem dX8_newSeller_63 : decode cX8_newSeller 63 = .ok (.imul, 1) := by decide +kernel
theorem dX8_newSeller_64 : decode cX8_newSeller 64 = .ok (.iload_n 3, 1) := by decide +kernel
theorem dX8_newSeller_65 : decode cX8_newSeller 65 = .ok (.iadd, 1) := by decide +kernel
theorem dX8_newSeller_66 : decode cX8_newSeller 66 = .ok (.iaload, 1) := by decide +kernel
theorem dX8_newSeller_67 : decode cX8_newSeller 67 = .ok (.iload_n 2, 1) := by decide +kernel
theorem dX8_newSeller_68 : decode cX8_newSeller 68 = .ok (.if_icmp .ne 7, 3) := by decide +kernel
theorem dX8_newSeller_71 : decode cX8_newSeller 71 = .ok (.ldc2_w 348, 3) := by decide +kernel
theorem dX8_newSeller_74 : decode cX8_newSeller 74 = .ok (.lreturn, 1) := by decide +kernel
theorem dX8_newSeller_75 : decode cX8_newSeller 75 = .ok (.iinc 3 1, 3) := by decide +kernel
theorem dX8_newSeller_78 : decode cX8_newSeller 78 = .ok (.goto (-31), 3) := by decide +kernel
theorem dX8_newSeller_81 : decode cX8_newSeller 81 = .ok (.aload_n 0, 1) := by decide +kernel
theorem dX8_newSeller_82 : decode cX8_newSeller 82 = .ok (.getfield 41, 3) := by decide +kernel
theorem dX8_newSeller_85 : decode cX8_newSeller 85 = .ok (.iload_n 1, 1) := by decide +kernel
theorem dX8_newSeller_86 : decode cX8_newSeller 86 = .ok (.iaload, 1) := by decide +kernel
theorem dX8_newSeller_87 : decode cX8_newSeller 87 = .ok (.iconst 4, 1) := by decide +kernel
theorem dX8_newSeller_88 : decode cX8_newSeller 88 = .ok (.if_icmp .ne 7, 3) := by decide +kernel
theorem dX8_newSeller_91 : decode cX8_newSeller 91 = .ok (.ldc2_w 333, 3) := by decide +kernel
theorem dX8_newSeller_94 : decode cX8_newSeller 94 = .ok (.lreturn, 1) := by decide +kernel
theorem dX8_newSeller_95 : decode cX8_newSeller 95 = .ok (.aload_n 0, 1) := by decide +kernel
theorem dX8_newSeller_96 : decode cX8_newSeller 96 = .ok (.getfield 38, 3) := by decide +kernel
theorem dX8_newSeller_99 : decode cX8_newSeller 99 = .ok (.iconst 4, 1) := by decide +kernel
theorem dX8_newSeller_100 : decode cX8_newSeller 100 = .ok (.iload_n 1, 1) := by decide +kernel
theorem dX8_newSeller_101 : decode cX8_newSeller 101 = .ok (.imul, 1) := by decide +kernel
theorem dX8_newSeller_102 : decode cX8_newSeller 102 = .ok (.aload_n 0, 1) := by decide +kernel
theorem dX8_newSeller_103 : decode cX8_newSeller 103 = .ok (.getfield 41, 3) := by decide +kernel
theorem dX8_newSeller_106 : decode cX8_newSeller 106 = .ok (.iload_n 1, 1) := by decide +kernel
theorem dX8_newSeller_107 : decode cX8_newSeller 107 = .ok (.iaload, 1) := by decide +kernel
theorem dX8_newSeller_108 : decode cX8_newSeller 108 = .ok (.iadd, 1) := by decide +kernel
theorem dX8_newSeller_109 : decode cX8_newSeller 109 = .ok (.iload_n 2, 1) := by decide +kernel
theorem dX8_newSeller_110 : decode cX8_newSeller 110 = .ok (.iastore, 1) := by decide +kernel
theorem dX8_newSeller_111 : decode cX8_newSeller 111 = .ok (.aload_n 0, 1) := by decide +kernel
theorem dX8_newSeller_112 : decode cX8_newSeller 112 = .ok (.getfield 41, 3) := by decide +kernel
theorem dX8_newSeller_115 : decode cX8_newSeller 115 = .ok (.iload_n 1, 1) := by decide +kernel
theorem dX8_newSeller_116 : decode cX8_newSeller 116 = .ok (.dup2, 1) := by decide +kernel
theorem dX8_newSeller_117 : decode cX8_newSeller 117 = .ok (.iaload, 1) := by decide +kernel
theorem dX8_newSeller_118 : decode cX8_newSeller 118 = .ok (.iconst 1, 1) := by decide +kernel
theorem dX8_newSeller_119 : decode cX8_newSeller 119 = .ok (.iadd, 1) := by decide +kernel
theorem dX8_newSeller_120 : decode cX8_newSeller 120 = .ok (.iastore, 1) := by decide +kernel
theorem dX8_newSeller_121 : decode cX8_newSeller 121 = .ok (.aload_n 0, 1) := by decide +kernel
theorem dX8_newSeller_122 : decode cX8_newSeller 122 = .ok (.getfield 41, 3) := by decide +kernel
theorem dX8_newSeller_125 : decode cX8_newSeller 125 = .ok (.iload_n 1, 1) := by decide +kernel
theorem dX8_newSeller_126 : decode cX8_newSeller 126 = .ok (.iaload, 1) := by decide +kernel
theorem dX8_newSeller_127 : decode cX8_newSeller 127 = .ok (.i2l, 1) := by decide +kernel
theorem dX8_newSeller_128 : decode cX8_newSeller 128 = .ok (.lreturn, 1) := by decide +kernel
theorem sc_X8_newSeller_X8_noLot : ym_site g_X8_newSeller g_X8_noLot 2 1 1 := ⟨by decide, by decide, wd_1058, wd_83, by decide +kernel⟩
theorem sc_X8_newSeller_X8_noBidder : ym_site g_X8_newSeller g_X8_noBidder 2 1 1 := ⟨by decide, by decide, wd_1062, wd_83, by decide +kernel⟩
def lb_X8_newSeller_47 (K : Option Nat → Int32 → Int32 → Int32 → ym_H → Option (((Unit) ⊕ Int64) × ym_H)) (N : Nat) (w0 : Option Nat) (w1 : Int32) (w2 : Int32) (w3 : Int32) (h : ym_H) : Option (((Unit) ⊕ Int64) × ym_H) :=
  Option.bind (ym_gR h w0 8 12) fun v49 =>
  Option.bind (ym_ldI h v49 w1) fun v53 =>
  if v53 ≤ w3 then
    some ((.inl ()), h)
  else
    Option.bind (ym_gR h w0 8 11) fun v58 =>
    Option.bind (ym_ldI h v58 ((4 * w1) + w3)) fun v66 =>
    if v66 = w2 then
      some ((.inr (-8)), h)
    else
      K w0 w1 w2 (w3 + 1) h
set_option maxRecDepth 20000 in
set_option maxHeartbeats 4000000 in
theorem ol_X8_newSeller_47 {D : ym_D} {b0 : Nat} {K : Option Nat → Int32 → Int32 → Int32 → ym_H → Option (((Unit) ⊕ Int64) × ym_H)} {N : Nat} {w0 : Option Nat} {w1 : Int32} {w2 : Int32} {w3 : Int32} {h h1 : ym_H} {x : ((Unit) ⊕ Int64)} (hKl : ∀ (u3 : Int32) (h h1 : ym_H) (x : ((Unit) ⊕ Int64)), K w0 w1 w2 u3 h = some (x, h1) → ∀ {r0 : Option Value} {h' : ym_H}, Sum.elim (fun z => ym_Y D b0 g_X8_newSeller 2 81 [(0, va_rf w0), (1, .int w1), (2, .int w2)] [] h1 r0 h') (fun z => r0 = (some (.long z)) ∧ h' = h1) x → ym_Y D b0 g_X8_newSeller 2 47 [(0, va_rf w0), (1, .int w1), (2, .int w2), (3, .int u3)] [] h r0 h') (hf : lb_X8_newSeller_47 K N w0 w1 w2 w3 h = some (x, h1)) {r0 : Option Value} {h' : ym_H} (k : Sum.elim (fun z => ym_Y D b0 g_X8_newSeller 2 81 [(0, va_rf w0), (1, .int w1), (2, .int w2)] [] h1 r0 h') (fun z => r0 = (some (.long z)) ∧ h' = h1) x) : ym_Y D b0 g_X8_newSeller 2 47 [(0, va_rf w0), (1, .int w1), (2, .int w2), (3, .int w3)] [] h r0 h' := by
  unfold lb_X8_newSeller_47 at hf
  refine ym_iload_n (pc := 47) 3 dX8_newSeller_47 rfl rfl ?_
  refine ym_aload_n (pc := 48) 0 dX8_newSeller_48 rfl rfl ?_
  obtain ⟨v49, e49, hf⟩ := Option.bind_eq_some_iff.mp hf
  refine ym_get (pc := 49) dX8_newSeller_49 rfl (by decide) iX8 (k := 12) (by decide) wd_857 (ym_gR_v e49) ?_
  refine ym_iload_n (pc := 52) 1 dX8_newSeller_52 rfl rfl ?_
  obtain ⟨v53, e53, hf⟩ := Option.bind_eq_some_iff.mp hf
  refine ym_iald (pc := 53) dX8_newSeller_53 rfl (ym_ldI_v e53) ?_
  by_cases c54 : v53 ≤ w3
  · rw [if_pos c54] at hf
    refine ym_icmp_ge_y (pc := 54) (tgt := 81) dX8_newSeller_54 (by decide) c54 ?_
    cases hf
    exact ym_sub [0, 1, 2] rfl k
  · rw [if_neg c54] at hf
    refine ym_icmp_ge_n (pc := 54) (tgt := 81) dX8_newSeller_54 (by decide) c54 ?_
    refine ym_aload_n (pc := 57) 0 dX8_newSeller_57 rfl rfl ?_
    obtain ⟨v58, e58, hf⟩ := Option.bind_eq_some_iff.mp hf
    refine ym_get (pc := 58) dX8_newSeller_58 rfl (by decide) iX8 (k := 11) (by decide) wd_856 (ym_gR_v e58) ?_
    refine ym_iconst (pc := 61) (v := 4) dX8_newSeller_61 (by decide) ?_
    refine ym_iload_n (pc := 62) 1 dX8_newSeller_62 rfl rfl ?_
    refine ym_imul (pc := 63) dX8_newSeller_63 ?_
    refine ym_iload_n (pc := 64) 3 dX8_newSeller_64 rfl rfl ?_
    refine ym_iadd (pc := 65) dX8_newSeller_65 ?_
    obtain ⟨v66, e66, hf⟩ := Option.bind_eq_some_iff.mp hf
    refine ym_iald (pc := 66) dX8_newSeller_66 rfl (ym_ldI_v e66) ?_
    refine ym_iload_n (pc := 67) 2 dX8_newSeller_67 rfl rfl ?_
    by_cases c68 : v66 = w2
    · rw [if_pos c68] at hf
      refine ym_icmp_ne_y (pc := 68) (tgt := 75) dX8_newSeller_68 (by decide) c68 ?_
      refine ym_ldc2 (pc := 71) dX8_newSeller_71 wd_1064 ?_
      cases hf
      obtain ⟨rfl, rfl⟩ := k
      exact ym_lret (pc := 74) dX8_newSeller_74 rfl
    · rw [if_neg c68] at hf
      refine ym_icmp_ne_n (pc := 68) (tgt := 75) dX8_newSeller_68 (by decide) c68 ?_
      refine ym_iinc (pc := 75) (lv' := [(3, .int (w3 + 1)), (0, va_rf w0), (1, .int w1), (2, .int w2)]) (v := (w3 + 1)) 3 dX8_newSeller_75 rfl (by rw [show Int32.ofInt 1 = 1 by decide]) (by decide) ⟨trivial, trivial, rfl, trivial, trivial⟩ rfl ?_
      refine ym_goto (pc := 78) (tgt := 47) dX8_newSeller_78 (by decide) ?_
      exact ym_sub [1, 2, 3, 0] rfl (hKl _ _ _ _ hf k)
def lp_X8_newSeller_47 (N : Nat) : Nat → Option Nat → Int32 → Int32 → Int32 → ym_H → Option (((Unit) ⊕ Int64) × ym_H)
  | 0, _, _, _, _, _ => none
  | n + 1, w0, w1, w2, w3, h => lb_X8_newSeller_47 (lp_X8_newSeller_47 N n) N w0 w1 w2 w3 h
set_option maxRecDepth 20000 in
set_option maxHeartbeats 4000000 in
theorem ok_lp_X8_newSeller_47 {D : ym_D} {b0 : Nat} {N : Nat} {w0 : Option Nat} {w1 : Int32} {w2 : Int32} : ∀ (n : Nat) (w3 : Int32) (h h1 : ym_H) (x : ((Unit) ⊕ Int64)), lp_X8_newSeller_47 N n w0 w1 w2 w3 h = some (x, h1) → ∀ {r0 : Option Value} {h' : ym_H}, Sum.elim (fun z => ym_Y D b0 g_X8_newSeller 2 81 [(0, va_rf w0), (1, .int w1), (2, .int w2)] [] h1 r0 h') (fun z => r0 = (some (.long z)) ∧ h' = h1) x → ym_Y D b0 g_X8_newSeller 2 47 [(0, va_rf w0), (1, .int w1), (2, .int w2), (3, .int w3)] [] h r0 h' := by
  intro n
  induction n with
  | zero =>
    intro w3 h h1 x hf
    cases hf
  | succ n ih =>
    intro w3 h h1 x hf r0 h' k
    exact ol_X8_newSeller_47 (fun w3 h h1 x z r0 h' k => ih w3 h h1 x z k) hf k
def fn_X8_newSeller (N : Nat) (a0 : Option Nat) (a1 : Int32) (a2 : Int32) (h : ym_H) : Option (Int64 × ym_H) :=
  Option.bind (ym_ob h a0 8) fun o2 =>
  Option.bind (fn_X8_noLot N a0 a1 h) fun q2 =>
  if q2.1 ≤ 0 then
    Option.bind (ym_ob q2.2 a0 8) fun o18 =>
    Option.bind (fn_X8_noBidder N a0 a2 q2.2) fun q18 =>
    if q18.1 ≤ 0 then
      Option.bind (ym_gR q18.2 a0 8 9) fun v33 =>
      Option.bind (ym_ldI q18.2 v33 a1) fun v37 =>
      if v37 = 0 then
        Option.bind (lp_X8_newSeller_47 N N a0 a1 a2 0 q18.2) fun q47 =>
        match q47.1 with
        | .inr y47 => some (y47, q47.2)
        | .inl z47 =>
          Option.bind (ym_gR q47.2 a0 8 12) fun v82 =>
          Option.bind (ym_ldI q47.2 v82 a1) fun v86 =>
          if v86 = 4 then
            some ((-12), q47.2)
          else
            Option.bind (ym_gR q47.2 a0 8 11) fun v96 =>
            Option.bind (ym_gR q47.2 a0 8 12) fun v103 =>
            Option.bind (ym_ldI q47.2 v103 a1) fun v107 =>
            Option.bind (ym_as q47.2 v96 0 ((4 * a1) + v107) (.int a2)) fun h110 =>
            Option.bind (ym_gR h110 a0 8 12) fun v112 =>
            Option.bind (ym_ldI h110 v112 a1) fun v117 =>
            Option.bind (ym_as h110 v112 0 a1 (.int (v117 + 1))) fun h120 =>
            Option.bind (ym_gR h120 a0 8 12) fun v122 =>
            Option.bind (ym_ldI h120 v122 a1) fun v126 =>
            some ((Int32.toInt64 v126), h120)
      else
        some ((-9), q18.2)
    else
      Option.bind (ym_ob q18.2 a0 8) fun o26 =>
      Option.bind (fn_X8_noBidder N a0 a2 q18.2) fun q26 =>
      some ((Int32.toInt64 (-q26.1)), q26.2)
  else
    Option.bind (ym_ob q2.2 a0 8) fun o10 =>
    Option.bind (fn_X8_noLot N a0 a1 q2.2) fun q10 =>
    some ((Int32.toInt64 (-q10.1)), q10.2)
set_option maxRecDepth 20000 in
set_option maxHeartbeats 4000000 in
theorem ok_X8_newSeller {D : ym_D} {b0 : Nat} {N : Nat} {a0 : Option Nat} {a1 : Int32} {a2 : Int32} {h h' : ym_H} {r : Int64} (hf : fn_X8_newSeller N a0 a1 a2 h = some (r, h')) : ym_M D b0 g_X8_newSeller 2 [va_rf a0, .int a1, .int a2] h (some (.long r)) h' := by
  unfold fn_X8_newSeller at hf
  refine ym_meth (lv := [(0, va_rf a0), (1, .int a1), (2, .int a2)]) (by decide) (by simp [lg_sl, ym_c1, ym_cI, ym_cL, g_X8_newSeller]) (by simp [lv_args, ym_c1, ym_cI, ym_cL]) ?_
  refine ym_aload_n (pc := 0) 0 dX8_newSeller_0 rfl rfl ?_
  refine ym_iload_n (pc := 1) 1 dX8_newSeller_1 rfl rfl ?_
  obtain ⟨o2, f2, hf⟩ := Option.bind_eq_some_iff.mp hf
  obtain ⟨q2, e2, hf⟩ := Option.bind_eq_some_iff.mp hf
  refine ym_callV (pc := 2) (G2 := g_X8_noLot) (dep2 := 1) (As := [.int a1]) (st := []) (stk2 := [.int q2.1]) (r2 := (some (.int q2.1))) (h1 := q2.2) dX8_newSeller_2 (ok_X8_noLot e2) (sc_X8_newSeller_X8_noLot) wd_1055 wd_1057 wd_27 (ci := 8) (q0 := (RX8, TX8, 58)) rfl (by decide) rfl f2 rfl rfl (ym_st4 (Nat.le_of_ble_eq_true rfl)) rfl ?_
  by_cases c5 : q2.1 ≤ 0
  · rw [if_pos c5] at hf
    refine ym_if_le_y (pc := 5) (tgt := 16) dX8_newSeller_5 (by decide) c5 ?_
    refine ym_aload_n (pc := 16) 0 dX8_newSeller_16 rfl rfl ?_
    refine ym_iload_n (pc := 17) 2 dX8_newSeller_17 rfl rfl ?_
    obtain ⟨o18, f18, hf⟩ := Option.bind_eq_some_iff.mp hf
    obtain ⟨q18, e18, hf⟩ := Option.bind_eq_some_iff.mp hf
    refine ym_callV (pc := 18) (G2 := g_X8_noBidder) (dep2 := 1) (As := [.int a2]) (st := []) (stk2 := [.int q18.1]) (r2 := (some (.int q18.1))) (h1 := q18.2) dX8_newSeller_18 (ok_X8_noBidder e18) (sc_X8_newSeller_X8_noBidder) wd_1059 wd_1061 wd_28 (ci := 8) (q0 := (RX8, TX8, 58)) rfl (by decide) rfl f18 rfl rfl (ym_st4 (Nat.le_of_ble_eq_true rfl)) rfl ?_
    by_cases c21 : q18.1 ≤ 0
    · rw [if_pos c21] at hf
      refine ym_if_le_y (pc := 21) (tgt := 32) dX8_newSeller_21 (by decide) c21 ?_
      refine ym_aload_n (pc := 32) 0 dX8_newSeller_32 rfl rfl ?_
      obtain ⟨v33, e33, hf⟩ := Option.bind_eq_some_iff.mp hf
      refine ym_get (pc := 33) dX8_newSeller_33 rfl (by decide) iX8 (k := 9) (by decide) wd_854 (ym_gR_v e33) ?_
      refine ym_iload_n (pc := 36) 1 dX8_newSeller_36 rfl rfl ?_
      obtain ⟨v37, e37, hf⟩ := Option.bind_eq_some_iff.mp hf
      refine ym_iald (pc := 37) dX8_newSeller_37 rfl (ym_ldI_v e37) ?_
      by_cases c38 : v37 = 0
      · rw [if_pos c38] at hf
        refine ym_if_eq_y (pc := 38) (tgt := 45) dX8_newSeller_38 (by decide) c38 ?_
        refine ym_iconst (pc := 45) (v := 0) dX8_newSeller_45 (by decide) ?_
        refine ym_istore_n (pc := 46) (lv' := [(3, .int 0), (0, va_rf a0), (1, .int a1), (2, .int a2)]) dX8_newSeller_46 rfl (by decide) ⟨trivial, trivial, rfl, trivial⟩ rfl ?_
        obtain ⟨⟨x47, g47⟩, e47, hf⟩ := Option.bind_eq_some_iff.mp hf
        refine ym_sub (lv' := [(0, va_rf a0), (1, .int a1), (2, .int a2), (3, .int 0)]) [1, 2, 3, 0] rfl ?_
        refine ok_lp_X8_newSeller_47 N _ _ _ _ e47 ?_
        cases x47 with
        | inr y47 =>
          cases hf
          exact ⟨rfl, rfl⟩
        | inl z47 =>
          dsimp only [Sum.elim_inl] at hf ⊢
          refine ym_aload_n (pc := 81) 0 dX8_newSeller_81 rfl rfl ?_
          obtain ⟨v82, e82, hf⟩ := Option.bind_eq_some_iff.mp hf
          refine ym_get (pc := 82) dX8_newSeller_82 rfl (by decide) iX8 (k := 12) (by decide) wd_857 (ym_gR_v e82) ?_
          refine ym_iload_n (pc := 85) 1 dX8_newSeller_85 rfl rfl ?_
          obtain ⟨v86, e86, hf⟩ := Option.bind_eq_some_iff.mp hf
          refine ym_iald (pc := 86) dX8_newSeller_86 rfl (ym_ldI_v e86) ?_
          refine ym_iconst (pc := 87) (v := 4) dX8_newSeller_87 (by decide) ?_
          by_cases c88 : v86 = 4
          · rw [if_pos c88] at hf
            refine ym_icmp_ne_y (pc := 88) (tgt := 95) dX8_newSeller_88 (by decide) c88 ?_
            refine ym_ldc2 (pc := 91) dX8_newSeller_91 wd_1039 ?_
            cases hf
            exact ym_lret (pc := 94) dX8_newSeller_94 rfl
          · rw [if_neg c88] at hf
            refine ym_icmp_ne_n (pc := 88) (tgt := 95) dX8_newSeller_88 (by decide) c88 ?_
            refine ym_aload_n (pc := 95) 0 dX8_newSeller_95 rfl rfl ?_
            obtain ⟨v96, e96, hf⟩ := Option.bind_eq_some_iff.mp hf
            refine ym_get (pc := 96) dX8_newSeller_96 rfl (by decide) iX8 (k := 11) (by decide) wd_856 (ym_gR_v e96) ?_
            refine ym_iconst (pc := 99) (v := 4) dX8_newSeller_99 (by decide) ?_
            refine ym_iload_n (pc := 100) 1 dX8_newSeller_100 rfl rfl ?_
            refine ym_imul (pc := 101) dX8_newSeller_101 ?_
            refine ym_aload_n (pc := 102) 0 dX8_newSeller_102 rfl rfl ?_
            obtain ⟨v103, e103, hf⟩ := Option.bind_eq_some_iff.mp hf
            refine ym_get (pc := 103) dX8_newSeller_103 rfl (by decide) iX8 (k := 12) (by decide) wd_857 (ym_gR_v e103) ?_
            refine ym_iload_n (pc := 106) 1 dX8_newSeller_106 rfl rfl ?_
            obtain ⟨v107, e107, hf⟩ := Option.bind_eq_some_iff.mp hf
            refine ym_iald (pc := 107) dX8_newSeller_107 rfl (ym_ldI_v e107) ?_
            refine ym_iadd (pc := 108) dX8_newSeller_108 ?_
            refine ym_iload_n (pc := 109) 2 dX8_newSeller_109 rfl rfl ?_
            obtain ⟨h110, e110, hf⟩ := Option.bind_eq_some_iff.mp hf
            refine ym_iast (pc := 110) dX8_newSeller_110 rfl e110 ?_
            refine ym_aload_n (pc := 111) 0 dX8_newSeller_111 rfl rfl ?_
            obtain ⟨v112, e112, hf⟩ := Option.bind_eq_some_iff.mp hf
            refine ym_get (pc := 112) dX8_newSeller_112 rfl (by decide) iX8 (k := 12) (by decide) wd_857 (ym_gR_v e112) ?_
            refine ym_iload_n (pc := 115) 1 dX8_newSeller_115 rfl rfl ?_
            refine ym_dup2_11 (pc := 116) dX8_newSeller_116 rfl (ym_c1 v112) ?_
            obtain ⟨v117, e117, hf⟩ := Option.bind_eq_some_iff.mp hf
            refine ym_iald (pc := 117) dX8_newSeller_117 rfl (ym_ldI_v e117) ?_
            refine ym_iconst (pc := 118) (v := 1) dX8_newSeller_118 (by decide) ?_
            refine ym_iadd (pc := 119) dX8_newSeller_119 ?_
            obtain ⟨h120, e120, hf⟩ := Option.bind_eq_some_iff.mp hf
            refine ym_iast (pc := 120) dX8_newSeller_120 rfl e120 ?_
            refine ym_aload_n (pc := 121) 0 dX8_newSeller_121 rfl rfl ?_
            obtain ⟨v122, e122, hf⟩ := Option.bind_eq_some_iff.mp hf
            refine ym_get (pc := 122) dX8_newSeller_122 rfl (by decide) iX8 (k := 12) (by decide) wd_857 (ym_gR_v e122) ?_
            refine ym_iload_n (pc := 125) 1 dX8_newSeller_125 rfl rfl ?_
            obtain ⟨v126, e126, hf⟩ := Option.bind_eq_some_iff.mp hf
            refine ym_iald (pc := 126) dX8_newSeller_126 rfl (ym_ldI_v e126) ?_
            refine ym_i2l (pc := 127) dX8_newSeller_127 ?_
            cases hf
            exact ym_lret (pc := 128) dX8_newSeller_128 rfl
      · rw [if_neg c38] at hf
        refine ym_if_eq_n (pc := 38) (tgt := 45) dX8_newSeller_38 (by decide) c38 ?_
        refine ym_ldc2 (pc := 41) dX8_newSeller_41 wd_1063 ?_
        cases hf
        exact ym_lret (pc := 44) dX8_newSeller_44 rfl
    · rw [if_neg c21] at hf
      refine ym_if_le_n (pc := 21) (tgt := 32) dX8_newSeller_21 (by decide) c21 ?_
      refine ym_aload_n (pc := 24) 0 dX8_newSeller_24 rfl rfl ?_
      refine ym_iload_n (pc := 25) 2 dX8_newSeller_25 rfl rfl ?_
      obtain ⟨o26, f26, hf⟩ := Option.bind_eq_some_iff.mp hf
      obtain ⟨q26, e26, hf⟩ := Option.bind_eq_some_iff.mp hf
      refine ym_callV (pc := 26) (G2 := g_X8_noBidder) (dep2 := 1) (As := [.int a2]) (st := []) (stk2 := [.int q26.1]) (r2 := (some (.int q26.1))) (h1 := q26.2) dX8_newSeller_26 (ok_X8_noBidder e26) (sc_X8_newSeller_X8_noBidder) wd_1059 wd_1061 wd_28 (ci := 8) (q0 := (RX8, TX8, 58)) rfl (by decide) rfl f26 rfl rfl (ym_st4 (Nat.le_of_ble_eq_true rfl)) rfl ?_
      refine ym_ineg (pc := 29) dX8_newSeller_29 ?_
      refine ym_i2l (pc := 30) dX8_newSeller_30 ?_
      cases hf
      exact ym_lret (pc := 31) dX8_newSeller_31 rfl
  · rw [if_neg c5] at hf
    refine ym_if_le_n (pc := 5) (tgt := 16) dX8_newSeller_5 (by decide) c5 ?_
    refine ym_aload_n (pc := 8) 0 dX8_newSeller_8 rfl rfl ?_
    refine ym_iload_n (pc := 9) 1 dX8_newSeller_9 rfl rfl ?_
    obtain ⟨o10, f10, hf⟩ := Option.bind_eq_some_iff.mp hf
    obtain ⟨q10, e10, hf⟩ := Option.bind_eq_some_iff.mp hf
    refine ym_callV (pc := 10) (G2 := g_X8_noLot) (dep2 := 1) (As := [.int a1]) (st := []) (stk2 := [.int q10.1]) (r2 := (some (.int q10.1))) (h1 := q10.2) dX8_newSeller_10 (ok_X8_noLot e10) (sc_X8_newSeller_X8_noLot) wd_1055 wd_1057 wd_27 (ci := 8) (q0 := (RX8, TX8, 58)) rfl (by decide) rfl f10 rfl rfl (ym_st4 (Nat.le_of_ble_eq_true rfl)) rfl ?_
    refine ym_ineg (pc := 13) dX8_newSeller_13 ?_
    refine ym_i2l (pc := 14) dX8_newSeller_14 ?_
    cases hf
    exact ym_lret (pc := 15) dX8_newSeller_15 rfl
theorem dX8_isRate_0 : decode cX8_isRate 0 = .ok (.iload_n 0, 1) := by decide +kernel
theorem dX8_isRate_1 : decode cX8_isRate 1 = .ok (.ifCond .lt 14, 3) := by decide +kernel
theorem dX8_isRate_4 : decode cX8_isRate 4 = .ok (.iload_n 0, 1) := by decide +kernel
theorem dX8_isRate_5 : decode cX8_isRate 5 = .ok (.sipush 10000, 3) := by decide +kernel
theorem dX8_isRate_8 : decode cX8_isRate 8 = .ok (.if_icmp .gt 7, 3) := by decide +kernel
theorem dX8_isRate_11 : decode cX8_isRate 11 = .ok (.iconst 1, 1) := by decide +kernel
theorem dX8_isRate_12 : decode cX8_isRate 12 = .ok (.goto 4, 3) := by decide +kernel
theorem dX8_isRate_15 : decode cX8_isRate 15 = .ok (.iconst 0, 1) := by decide +kernel
theorem dX8_isRate_16 : decode cX8_isRate 16 = .ok (.ireturn, 1) := by decide +kernel
def fn_X8_isRate (N : Nat) (a0 : Int32) (h : ym_H) : Option (Int32 × ym_H) :=
  if a0 < 0 then
    some (0, h)
  else
    if 10000 < a0 then
      some (0, h)
    else
      some (1, h)
set_option maxRecDepth 20000 in
set_option maxHeartbeats 4000000 in
theorem ok_X8_isRate {D : ym_D} {b0 : Nat} {N : Nat} {a0 : Int32} {h h' : ym_H} {r : Int32} (hf : fn_X8_isRate N a0 h = some (r, h')) : ym_M D b0 g_X8_isRate 1 [.int a0] h (some (.int r)) h' := by
  unfold fn_X8_isRate at hf
  refine ym_meth (lv := [(0, .int a0)]) (by decide) (by simp [lg_sl, ym_c1, ym_cI, ym_cL, g_X8_isRate]) (by simp [lv_args, ym_c1, ym_cI, ym_cL]) ?_
  refine ym_iload_n (pc := 0) 0 dX8_isRate_0 rfl rfl ?_
  by_cases c1 : a0 < 0
  · rw [if_pos c1] at hf
    refine ym_if_lt_y (pc := 1) (tgt := 15) dX8_isRate_1 (by decide) c1 ?_
    refine ym_iconst (pc := 15) (v := 0) dX8_isRate_15 (by decide) ?_
    cases hf
    exact ym_zret (pc := 16) dX8_isRate_16 rfl rfl
  · rw [if_neg c1] at hf
    refine ym_if_lt_n (pc := 1) (tgt := 15) dX8_isRate_1 (by decide) c1 ?_
    refine ym_iload_n (pc := 4) 0 dX8_isRate_4 rfl rfl ?_
    refine ym_sipush (pc := 5) (v := 10000) dX8_isRate_5 (by decide) ?_
    by_cases c8 : 10000 < a0
    · rw [if_pos c8] at hf
      refine ym_icmp_gt_y (pc := 8) (tgt := 15) dX8_isRate_8 (by decide) c8 ?_
      refine ym_iconst (pc := 15) (v := 0) dX8_isRate_15 (by decide) ?_
      cases hf
      exact ym_zret (pc := 16) dX8_isRate_16 rfl rfl
    · rw [if_neg c8] at hf
      refine ym_icmp_gt_n (pc := 8) (tgt := 15) dX8_isRate_8 (by decide) c8 ?_
      refine ym_iconst (pc := 11) (v := 1) dX8_isRate_11 (by decide) ?_
      refine ym_goto (pc := 12) (tgt := 16) dX8_isRate_12 (by decide) ?_
      cases hf
      exact ym_zret (pc := 16) dX8_isRate_16 rfl rfl
theorem dX8_newCut_0 : decode cX8_newCut 0 = .ok (.iload_n 2, 1) := by decide +kernel
theorem dX8_newCut_1 : decode cX8_newCut 1 = .ok (.invokestatic 350, 3) := by decide +kernel
theorem dX8_newCut_4 : decode cX8_newCut 4 = .ok (.ifCond .ne 7, 3) := by decide +kernel
theorem dX8_newCut_7 : decode cX8_newCut 7 = .ok (.ldc2_w 331, 3) := by decide +kernel
theorem dX8_newCut_10 : decode cX8_newCut 10 = .ok (.lreturn, 1) := by decide +kernel
theorem dX8_newCut_11 : decode cX8_newCut 11 = .ok (.aload_n 0, 1) := by decide +kernel
theorem dX8_newCut_12 : decode cX8_newCut 12 = .ok (.iload_n 1, 1) := by decide +kernel
theorem dX8_newCut_13 : decode cX8_newCut 13 = .ok (.invokevirtual 294, 3) := by decide +kernel
theorem dX8_newCut_16 : decode cX8_newCut 16 = .ok (.ifCond .le 11, 3) := by decide +kernel
theorem dX8_newCut_19 : decode cX8_newCut 19 = .ok (.aload_n 0, 1) := by decide +kernel
theorem dX8_newCut_20 : decode cX8_newCut 20 = .ok (.iload_n 1, 1) := by decide +kernel
theorem dX8_newCut_21 : decode cX8_newCut 21 = .ok (.invokevirtual 294, 3) := by decide +kernel
theorem dX8_newCut_24 : decode cX8_newCut 24 = .ok (.ineg, 1) := by decide +kernel
theorem dX8_newCut_25 : decode cX8_newCut 25 = .ok (.i2l, 1) := by decide +kernel
theorem dX8_newCut_26 : decode cX8_newCut 26 = .ok (.lreturn, 1) := by decide +kernel
theorem dX8_newCut_27 : decode cX8_newCut 27 = .ok (.aload_n 0, 1) := by decide +kernel
theorem dX8_newCut_28 : decode cX8_newCut 28 = .ok (.getfield 32, 3) := by decide +kernel
theorem dX8_newCut_31 : decode cX8_newCut 31 = .ok (.iload_n 1, 1) := by decide +kernel
theorem dX8_newCut_32 : decode cX8_newCut 32 = .ok (.iaload, 1) := by decide +kernel
theorem dX8_newCut_33 : decode cX8_newCut 33 = .ok (.ifCond .eq 7, 3) := by decide +kernel
theorem dX8_newCut_36 : decode cX8_newCut 36 = .ok (.ldc2_w 346, 3) := by decide +kernel
theorem dX8_newCut_39 : decode cX8_newCut 39 = .ok (.lreturn, 1) := by decide +kernel
theorem dX8_newCut_40 : decode cX8_newCut 40 = .ok (.aload_n 0, 1) := by decide +kernel
theorem dX8_newCut_41 : decode cX8_newCut 41 = .ok (.getfield 29, 3) := by decide +kernel
theorem dX8_newCut_44 : decode cX8_newCut 44 = .ok (.iload_n 1, 1) := by decide +kernel
theorem dX8_newCut_45 : decode cX8_newCut 45 = .ok (.iaload, 1) := by decide +kernel
theorem dX8_newCut_46 : decode cX8_newCut 46 = .ok (.istore_n 3, 1) := by decide +kernel
theorem dX8_newCut_47 : decode cX8_newCut 47 = .ok (.aload_n 0, 1) := by decide +kernel
theorem dX8_newCut_48 : decode cX8_newCut 48 = .ok (.getfield 29, 3) := by decide +kernel
theorem dX8_newCut_51 : decode cX8_newCut 51 = .ok (.iload_n 1, 1) := by decide +kernel
theorem dX8_newCut_52 : decode cX8_newCut 52 = .ok (.iload_n 2, 1) := by decide +kernel
theorem dX8_newCut_53 : decode cX8_newCut 53 = .ok (.iastore, 1) := by decide +kernel
theorem dX8_newCut_54 : decode cX8_newCut 54 = .ok (.iload_n 3, 1) := by decide +kernel
theorem dX8_newCut_55 : decode cX8_newCut 55 = .ok (.i2l, 1) := by decide +kernel
theorem dX8_newCut_56 : decode cX8_newCut 56 = .ok (.lreturn, 1) := by decide +kernel
theorem sc_X8_newCut_X8_isRate : ym_site g_X8_newCut g_X8_isRate 2 1 1 := ⟨by decide, by decide, wd_1071, wd_83, by decide +kernel⟩
theorem sc_X8_newCut_X8_noLot : ym_site g_X8_newCut g_X8_noLot 2 1 1 := ⟨by decide, by decide, wd_1058, wd_83, by decide +kernel⟩
def fn_X8_newCut (N : Nat) (a0 : Option Nat) (a1 : Int32) (a2 : Int32) (h : ym_H) : Option (Int64 × ym_H) :=
  Option.bind (fn_X8_isRate N a2 h) fun q1 =>
  if q1.1 = 0 then
    some ((-1), q1.2)
  else
    Option.bind (ym_ob q1.2 a0 8) fun o13 =>
    Option.bind (fn_X8_noLot N a0 a1 q1.2) fun q13 =>
    if q13.1 ≤ 0 then
      Option.bind (ym_gR q13.2 a0 8 9) fun v28 =>
      Option.bind (ym_ldI q13.2 v28 a1) fun v32 =>
      if v32 = 0 then
        Option.bind (ym_gR q13.2 a0 8 8) fun v41 =>
        Option.bind (ym_ldI q13.2 v41 a1) fun v45 =>
        Option.bind (ym_gR q13.2 a0 8 8) fun v48 =>
        Option.bind (ym_as q13.2 v48 0 a1 (.int a2)) fun h53 =>
        some ((Int32.toInt64 v45), h53)
      else
        some ((-9), q13.2)
    else
      Option.bind (ym_ob q13.2 a0 8) fun o21 =>
      Option.bind (fn_X8_noLot N a0 a1 q13.2) fun q21 =>
      some ((Int32.toInt64 (-q21.1)), q21.2)
set_option maxRecDepth 20000 in
set_option maxHeartbeats 4000000 in
theorem ok_X8_newCut {D : ym_D} {b0 : Nat} {N : Nat} {a0 : Option Nat} {a1 : Int32} {a2 : Int32} {h h' : ym_H} {r : Int64} (hf : fn_X8_newCut N a0 a1 a2 h = some (r, h')) : ym_M D b0 g_X8_newCut 2 [va_rf a0, .int a1, .int a2] h (some (.long r)) h' := by
  unfold fn_X8_newCut at hf
  refine ym_meth (lv := [(0, va_rf a0), (1, .int a1), (2, .int a2)]) (by decide) (by simp [lg_sl, ym_c1, ym_cI, ym_cL, g_X8_newCut]) (by simp [lv_args, ym_c1, ym_cI, ym_cL]) ?_
  refine ym_iload_n (pc := 0) 2 dX8_newCut_0 rfl rfl ?_
  obtain ⟨q1, e1, hf⟩ := Option.bind_eq_some_iff.mp hf
  refine ym_callS (pc := 1) (G2 := g_X8_isRate) (dep2 := 1) (As := [.int a2]) (st := []) (stk2 := [.int q1.1]) (r2 := (some (.int q1.1))) (h1 := q1.2) dX8_newCut_1 (ok_X8_isRate e1) (sc_X8_newCut_X8_isRate) wd_1069 wd_1070 rfl rfl (ym_st4 (Nat.le_of_ble_eq_true rfl)) rfl ?_
  by_cases c4 : q1.1 = 0
  · rw [if_pos c4] at hf
    refine ym_if_ne_y (pc := 4) (tgt := 11) dX8_newCut_4 (by decide) c4 ?_
    refine ym_ldc2 (pc := 7) dX8_newCut_7 wd_1038 ?_
    cases hf
    exact ym_lret (pc := 10) dX8_newCut_10 rfl
  · rw [if_neg c4] at hf
    refine ym_if_ne_n (pc := 4) (tgt := 11) dX8_newCut_4 (by decide) c4 ?_
    refine ym_aload_n (pc := 11) 0 dX8_newCut_11 rfl rfl ?_
    refine ym_iload_n (pc := 12) 1 dX8_newCut_12 rfl rfl ?_
    obtain ⟨o13, f13, hf⟩ := Option.bind_eq_some_iff.mp hf
    obtain ⟨q13, e13, hf⟩ := Option.bind_eq_some_iff.mp hf
    refine ym_callV (pc := 13) (G2 := g_X8_noLot) (dep2 := 1) (As := [.int a1]) (st := []) (stk2 := [.int q13.1]) (r2 := (some (.int q13.1))) (h1 := q13.2) dX8_newCut_13 (ok_X8_noLot e13) (sc_X8_newCut_X8_noLot) wd_1055 wd_1057 wd_27 (ci := 8) (q0 := (RX8, TX8, 58)) rfl (by decide) rfl f13 rfl rfl (ym_st4 (Nat.le_of_ble_eq_true rfl)) rfl ?_
    by_cases c16 : q13.1 ≤ 0
    · rw [if_pos c16] at hf
      refine ym_if_le_y (pc := 16) (tgt := 27) dX8_newCut_16 (by decide) c16 ?_
      refine ym_aload_n (pc := 27) 0 dX8_newCut_27 rfl rfl ?_
      obtain ⟨v28, e28, hf⟩ := Option.bind_eq_some_iff.mp hf
      refine ym_get (pc := 28) dX8_newCut_28 rfl (by decide) iX8 (k := 9) (by decide) wd_854 (ym_gR_v e28) ?_
      refine ym_iload_n (pc := 31) 1 dX8_newCut_31 rfl rfl ?_
      obtain ⟨v32, e32, hf⟩ := Option.bind_eq_some_iff.mp hf
      refine ym_iald (pc := 32) dX8_newCut_32 rfl (ym_ldI_v e32) ?_
      by_cases c33 : v32 = 0
      · rw [if_pos c33] at hf
        refine ym_if_eq_y (pc := 33) (tgt := 40) dX8_newCut_33 (by decide) c33 ?_
        refine ym_aload_n (pc := 40) 0 dX8_newCut_40 rfl rfl ?_
        obtain ⟨v41, e41, hf⟩ := Option.bind_eq_some_iff.mp hf
        refine ym_get (pc := 41) dX8_newCut_41 rfl (by decide) iX8 (k := 8) (by decide) wd_853 (ym_gR_v e41) ?_
        refine ym_iload_n (pc := 44) 1 dX8_newCut_44 rfl rfl ?_
        obtain ⟨v45, e45, hf⟩ := Option.bind_eq_some_iff.mp hf
        refine ym_iald (pc := 45) dX8_newCut_45 rfl (ym_ldI_v e45) ?_
        refine ym_istore_n (pc := 46) (lv' := [(3, .int v45), (0, va_rf a0), (1, .int a1), (2, .int a2)]) dX8_newCut_46 rfl (by decide) ⟨trivial, trivial, rfl, trivial⟩ rfl ?_
        refine ym_aload_n (pc := 47) 1 dX8_newCut_47 rfl rfl ?_
        obtain ⟨v48, e48, hf⟩ := Option.bind_eq_some_iff.mp hf
        refine ym_get (pc := 48) dX8_newCut_48 rfl (by decide) iX8 (k := 8) (by decide) wd_853 (ym_gR_v e48) ?_
        refine ym_iload_n (pc := 51) 2 dX8_newCut_51 rfl rfl ?_
        refine ym_iload_n (pc := 52) 3 dX8_newCut_52 rfl rfl ?_
        obtain ⟨h53, e53, hf⟩ := Option.bind_eq_some_iff.mp hf
        refine ym_iast (pc := 53) dX8_newCut_53 rfl e53 ?_
        refine ym_iload_n (pc := 54) 0 dX8_newCut_54 rfl rfl ?_
        refine ym_i2l (pc := 55) dX8_newCut_55 ?_
        cases hf
        exact ym_lret (pc := 56) dX8_newCut_56 rfl
      · rw [if_neg c33] at hf
        refine ym_if_eq_n (pc := 33) (tgt := 40) dX8_newCut_33 (by decide) c33 ?_
        refine ym_ldc2 (pc := 36) dX8_newCut_36 wd_1063 ?_
        cases hf
        exact ym_lret (pc := 39) dX8_newCut_39 rfl
    · rw [if_neg c16] at hf
      refine ym_if_le_n (pc := 16) (tgt := 27) dX8_newCut_16 (by decide) c16 ?_
      refine ym_aload_n (pc := 19) 0 dX8_newCut_19 rfl rfl ?_
      refine ym_iload_n (pc := 20) 1 dX8_newCut_20 rfl rfl ?_
      obtain ⟨o21, f21, hf⟩ := Option.bind_eq_some_iff.mp hf
      obtain ⟨q21, e21, hf⟩ := Option.bind_eq_some_iff.mp hf
      refine ym_callV (pc := 21) (G2 := g_X8_noLot) (dep2 := 1) (As := [.int a1]) (st := []) (stk2 := [.int q21.1]) (r2 := (some (.int q21.1))) (h1 := q21.2) dX8_newCut_21 (ok_X8_noLot e21) (sc_X8_newCut_X8_noLot) wd_1055 wd_1057 wd_27 (ci := 8) (q0 := (RX8, TX8, 58)) rfl (by decide) rfl f21 rfl rfl (ym_st4 (Nat.le_of_ble_eq_true rfl)) rfl ?_
      refine ym_ineg (pc := 24) dX8_newCut_24 ?_
      refine ym_i2l (pc := 25) dX8_newCut_25 ?_
      cases hf
      exact ym_lret (pc := 26) dX8_newCut_26 rfl
theorem dX8_newStep_0 : decode cX8_newStep 0 = .ok (.lload_n 1, 1) := by decide +kernel
theorem dX8_newStep_1 : decode cX8_newStep 1 = .ok (.lconst 0, 1) := by decide +kernel
theorem dX8_newStep_2 : decode cX8_newStep 2 = .ok (.lcmp, 1) := by decide +kernel
theorem dX8_newStep_3 : decode cX8_newStep 3 = .ok (.ifCond .lt 18, 3) := by decide +kernel
theorem dX8_newStep_6 : decode cX8_newStep 6 = .ok (.lload_n 1, 1) := by decide +kernel
theorem dX8_newStep_7 : decode cX8_newStep 7 = .ok (.ldc2_w 292, 3) := by decide +kernel
theorem dX8_newStep_10 : decode cX8_newStep 10 = .ok (.lcmp, 1) := by decide +kernel
theorem dX8_newStep_11 : decode cX8_newStep 11 = .ok (.ifCond .gt 10, 3) := by decide +kernel
theorem dX8_newStep_14 : decode cX8_newStep 14 = .ok (.lload_n 3, 1) := by decide +kernel
theorem dX8_newStep_15 : decode cX8_newStep 15 = .ok (.invokestatic 335, 3) := by decide +kernel
theorem dX8_newStep_18 : decode cX8_newStep 18 = .ok (.ifCond .ne 7, 3) := by decide +kernel
theorem dX8_newStep_21 : decode cX8_newStep 21 = .ok (.ldc2_w 331, 3) := by decide +kernel
theorem dX8_newStep_24 : decode cX8_newStep 24 = .ok (.lreturn, 1) := by decide +kernel
theorem dX8_newStep_25 : decode cX8_newStep 25 = .ok (.aload_n 0, 1) := by decide +kernel
theorem dX8_newStep_26 : decode cX8_newStep 26 = .ok (.getfield 194, 3) := by decide +kernel
theorem dX8_newStep_29 : decode cX8_newStep 29 = .ok (.bipush 20, 2) := by decide +kernel
theorem dX8_newStep_31 : decode cX8_newStep 31 = .ok (.if_icmp .ne 7, 3) := by decide +kernel
theorem dX8_newStep_34 : decode cX8_newStep 34 = .ok (.ldc2_w 333, 3) := by decide +kernel
theorem dX8_newStep_37 : decode cX8_newStep 37 = .ok (.lreturn, 1) := by decide +kernel
theorem dX8_newStep_38 : decode cX8_newStep 38 = .ok (.aload_n 0, 1) := by decide +kernel
theorem dX8_newStep_39 : decode cX8_newStep 39 = .ok (.getfield 194, 3) := by decide +kernel
theorem dX8_newStep_42 : decode cX8_newStep 42 = .ok (.ifCond .le 23, 3) := by decide +kernel
theorem dX8_newStep_45 : decode cX8_newStep 45 = .ok (.lload_n 1, 1) := by decide +kernel
theorem dX8_newStep_46 : decode cX8_newStep 46 = .ok (.aload_n 0, 1) := by decide +kernel
theorem dX8_newStep_47 : decode cX8_newStep 47 = .ok (.getfield 102, 3) := by decide +kernel
theorem dX8_newStep_50 : decode cX8_newStep 50 = .ok (.aload_n 0, 1) := by decide +kernel
theorem dX8_newStep_51 : decode cX8_newStep 51 = .ok (.getfield 194, 3) := by decide +kernel
theorem dX8_newStep_54 : decode cX8_newStep 54 = .ok (.iconst 1, 1) := by decide +kernel
theorem dX8_newStep_55 : decode cX8_newStep 55 = .ok (.isub, 1) := by decide +kernel
theorem dX8_newStep_56 : decode cX8_newStep 56 = .ok (.laload, 1) := by decide +kernel
theorem dX8_newStep_57 : decode cX8_newStep 57 = .ok (.lcmp, 1) := by decide +kernel
theorem dX8_newStep_58 : decode cX8_newStep 58 = .ok (.ifCond .gt 7, 3) := by decide +kernel
theorem dX8_newStep_61 : decode cX8_newStep 61 = .ok (.ldc2_w 354, 3) := by decide +kernel
theorem dX8_newStep_64 : decode cX8_newStep 64 = .ok (.lreturn, 1) := by decide +kernel
theorem dX8_newStep_65 : decode cX8_newStep 65 = .ok (.aload_n 0, 1) := by decide +kernel
theorem dX8_newStep_66 : decode cX8_newStep 66 = .ok (.getfield 102, 3) := by decide +kernel
theorem dX8_newStep_69 : decode cX8_newStep 69 = .ok (.aload_n 0, 1) := by decide +kernel
theorem dX8_newStep_70 : decode cX8_newStep 70 = .ok (.getfield 194, 3) := by decide +kernel
theorem dX8_newStep_73 : decode cX8_newStep 73 = .ok (.lload_n 1, 1) := by decide +kernel
theorem dX8_newStep_74 : decode cX8_newStep 74 = .ok (.lastore, 1) := by decide +kernel
theorem dX8_newStep_75 : decode cX8_newStep 75 = .ok (.aload_n 0, 1) := by decide +kernel
theorem dX8_newStep_76 : decode cX8_newStep 76 = .ok (.getfield 105, 3) := by decide +kernel
theorem dX8_newStep_79 : decode cX8_newStep 79 = .ok (.aload_n 0, 1) := by decide +kernel
theorem dX8_newStep_80 : decode cX8_newStep 80 = .ok (.getfield 194, 3) := by decide +kernel
theorem dX8_newStep_83 : decode cX8_newStep 83 = .ok (.lload_n 3, 1) := by decide +kernel
theorem dX8_newStep_84 : decode cX8_newStep 84 = .ok (.lastore, 1) := by decide +kernel
theorem dX8_newStep_85 : decode cX8_newStep 85 = .ok (.aload_n 0, 1) := by decide +kernel
theorem dX8_newStep_86 : decode cX8_newStep 86 = .ok (.dup, 1) := by decide +kernel
theorem dX8_newStep_87 : decode cX8_newStep 87 = .ok (.getfield 194, 3) := by decide +kernel
theorem dX8_newStep_90 : decode cX8_newStep 90 = .ok (.iconst 1, 1) := by decide +kernel
theorem dX8_newStep_91 : decode cX8_newStep 91 = .ok (.iadd, 1) := by decide +kernel
theorem dX8_newStep_92 : decode cX8_newStep 92 = .ok (.putfield 194, 3) := by decide +kernel
theorem dX8_newStep_95 : decode cX8_newStep 95 = .ok (.aload_n 0, 1) := by decide +kernel
theorem dX8_newStep_96 : decode cX8_newStep 96 = .ok (.getfield 194, 3) := by decide +kernel
theorem dX8_newStep_99 : decode cX8_newStep 99 = .ok (.i2l, 1) := by decide +kernel
theorem dX8_newStep_100 : decode cX8_newStep 100 = .ok (.lreturn, 1) := by decide +kernel
theorem sc_X8_newStep_X8_isSum : ym_site g_X8_newStep g_X8_isSum 2 1 1 := ⟨by decide, by decide, wd_1046, wd_83, by decide +kernel⟩
def bl_X8_newStep_65 (N : Nat) (w0 : Option Nat) (w1 : Int64) (w3 : Int64) (h : ym_H) : Option (Int64 × ym_H) :=
  Option.bind (ym_gR h w0 8 34) fun v66 =>
  Option.bind (ym_gI h w0 8 33) fun v70 =>
  Option.bind (ym_as h v66 1 v70 (.long w1)) fun h74 =>
  Option.bind (ym_gR h74 w0 8 35) fun v76 =>
  Option.bind (ym_gI h74 w0 8 33) fun v80 =>
  Option.bind (ym_as h74 v76 1 v80 (.long w3)) fun h84 =>
  Option.bind (ym_gI h84 w0 8 33) fun v87 =>
  Option.bind (ym_pf h84 w0 8 33 (.int (v87 + 1))) fun h92 =>
  Option.bind (ym_gI h92 w0 8 33) fun v96 =>
  some ((Int32.toInt64 v96), h92)
set_option maxRecDepth 20000 in
set_option maxHeartbeats 4000000 in
theorem ob_X8_newStep_65 {D : ym_D} {b0 : Nat} {N : Nat} {w0 : Option Nat} {w1 : Int64} {w3 : Int64} {h h' : ym_H} {r : Int64} (hf : bl_X8_newStep_65 N w0 w1 w3 h = some (r, h')) : ym_Y D b0 g_X8_newStep 2 65 [(0, va_rf w0), (1, .long w1), (3, .long w3)] [] h (some (.long r)) h' := by
  unfold bl_X8_newStep_65 at hf
  refine ym_aload_n (pc := 65) 0 dX8_newStep_65 rfl rfl ?_
  obtain ⟨v66, e66, hf⟩ := Option.bind_eq_some_iff.mp hf
  refine ym_get (pc := 66) dX8_newStep_66 rfl (by decide) iX8 (k := 34) (by decide) wd_879 (ym_gR_v e66) ?_
  refine ym_aload_n (pc := 69) 0 dX8_newStep_69 rfl rfl ?_
  obtain ⟨v70, e70, hf⟩ := Option.bind_eq_some_iff.mp hf
  refine ym_get (pc := 70) dX8_newStep_70 rfl (by decide) iX8 (k := 33) (by decide) wd_878 (ym_gI_v e70) ?_
  refine ym_lload_n (pc := 73) 1 dX8_newStep_73 rfl rfl ?_
  obtain ⟨h74, e74, hf⟩ := Option.bind_eq_some_iff.mp hf
  refine ym_last (pc := 74) dX8_newStep_74 rfl e74 ?_
  refine ym_aload_n (pc := 75) 0 dX8_newStep_75 rfl rfl ?_
  obtain ⟨v76, e76, hf⟩ := Option.bind_eq_some_iff.mp hf
  refine ym_get (pc := 76) dX8_newStep_76 rfl (by decide) iX8 (k := 35) (by decide) wd_880 (ym_gR_v e76) ?_
  refine ym_aload_n (pc := 79) 0 dX8_newStep_79 rfl rfl ?_
  obtain ⟨v80, e80, hf⟩ := Option.bind_eq_some_iff.mp hf
  refine ym_get (pc := 80) dX8_newStep_80 rfl (by decide) iX8 (k := 33) (by decide) wd_878 (ym_gI_v e80) ?_
  refine ym_lload_n (pc := 83) 2 dX8_newStep_83 rfl rfl ?_
  obtain ⟨h84, e84, hf⟩ := Option.bind_eq_some_iff.mp hf
  refine ym_last (pc := 84) dX8_newStep_84 rfl e84 ?_
  refine ym_aload_n (pc := 85) 0 dX8_newStep_85 rfl rfl ?_
  refine ym_dup (pc := 86) dX8_newStep_86 (ym_c1 w0) ?_
  obtain ⟨v87, e87, hf⟩ := Option.bind_eq_some_iff.mp hf
  refine ym_get (pc := 87) dX8_newStep_87 rfl (by decide) iX8 (k := 33) (by decide) wd_878 (ym_gI_v e87) ?_
  refine ym_iconst (pc := 90) (v := 1) dX8_newStep_90 (by decide) ?_
  refine ym_iadd (pc := 91) dX8_newStep_91 ?_
  obtain ⟨h92, e92, hf⟩ := Option.bind_eq_some_iff.mp hf
  refine ym_put (pc := 92) (h1 := h92) dX8_newStep_92 rfl (by decide) iX8 tyX8 tyX8_ok nmX8 (k := 33) (by decide) wd_878 rfl (tyX8_ok 33 (by decide)) rfl rfl e92 ?_
  refine ym_aload_n (pc := 95) 0 dX8_newStep_95 rfl rfl ?_
  obtain ⟨v96, e96, hf⟩ := Option.bind_eq_some_iff.mp hf
  refine ym_get (pc := 96) dX8_newStep_96 rfl (by decide) iX8 (k := 33) (by decide) wd_878 (ym_gI_v e96) ?_
  refine ym_i2l (pc := 99) dX8_newStep_99 ?_
  cases hf
  exact ym_lret (pc := 100) dX8_newStep_100 rfl
def fn_X8_newStep (N : Nat) (a0 : Option Nat) (a1 : Int64) (a3 : Int64) (h : ym_H) : Option (Int64 × ym_H) :=
  if a1 < 0 then
    some ((-1), h)
  else
    if 1000000000000 < a1 then
      some ((-1), h)
    else
      Option.bind (fn_X8_isSum N a3 h) fun q15 =>
      if q15.1 = 0 then
        some ((-1), q15.2)
      else
        Option.bind (ym_gI q15.2 a0 8 33) fun v26 =>
        if v26 = 20 then
          some ((-12), q15.2)
        else
          Option.bind (ym_gI q15.2 a0 8 33) fun v39 =>
          if v39 ≤ 0 then
            bl_X8_newStep_65 N a0 a1 a3 q15.2
          else
            Option.bind (ym_gR q15.2 a0 8 34) fun v47 =>
            Option.bind (ym_gI q15.2 a0 8 33) fun v51 =>
            Option.bind (ym_ldL q15.2 v47 (v51 - 1)) fun v56 =>
            if v56 < a1 then
              bl_X8_newStep_65 N a0 a1 a3 q15.2
            else
              some ((-10), q15.2)
set_option maxRecDepth 20000 in
set_option maxHeartbeats 4000000 in
theorem ok_X8_newStep {D : ym_D} {b0 : Nat} {N : Nat} {a0 : Option Nat} {a1 : Int64} {a3 : Int64} {h h' : ym_H} {r : Int64} (hf : fn_X8_newStep N a0 a1 a3 h = some (r, h')) : ym_M D b0 g_X8_newStep 2 [va_rf a0, .long a1, .long a3] h (some (.long r)) h' := by
  unfold fn_X8_newStep at hf
  refine ym_meth (lv := [(0, va_rf a0), (1, .long a1), (3, .long a3)]) (by decide) (by simp [lg_sl, ym_c1, ym_cI, ym_cL, g_X8_newStep]) (by simp [lv_args, ym_c1, ym_cI, ym_cL]) ?_
  refine ym_lload_n (pc := 0) 1 dX8_newStep_0 rfl rfl ?_
  refine ym_lconst (pc := 1) (v := 0) dX8_newStep_1 (by decide) ?_
  by_cases c2 : a1 < 0
  · rw [if_pos c2] at hf
    refine ym_lcmp_lt_y (pc := 2) (tgt := 21) dX8_newStep_2 dX8_newStep_3 (by decide) c2 ?_
    refine ym_ldc2 (pc := 21) dX8_newStep_21 wd_1038 ?_
    cases hf
    exact ym_lret (pc := 24) dX8_newStep_24 rfl
  · rw [if_neg c2] at hf
    refine ym_lcmp_lt_n (pc := 2) (tgt := 21) dX8_newStep_2 dX8_newStep_3 (by decide) c2 ?_
    refine ym_lload_n (pc := 6) 1 dX8_newStep_6 rfl rfl ?_
    refine ym_ldc2 (pc := 7) dX8_newStep_7 wd_1037 ?_
    by_cases c10 : 1000000000000 < a1
    · rw [if_pos c10] at hf
      refine ym_lcmp_gt_y (pc := 10) (tgt := 21) dX8_newStep_10 dX8_newStep_11 (by decide) c10 ?_
      refine ym_ldc2 (pc := 21) dX8_newStep_21 wd_1038 ?_
      cases hf
      exact ym_lret (pc := 24) dX8_newStep_24 rfl
    · rw [if_neg c10] at hf
      refine ym_lcmp_gt_n (pc := 10) (tgt := 21) dX8_newStep_10 dX8_newStep_11 (by decide) c10 ?_
      refine ym_lload_n (pc := 14) 2 dX8_newStep_14 rfl rfl ?_
      obtain ⟨q15, e15, hf⟩ := Option.bind_eq_some_iff.mp hf
      refine ym_callS (pc := 15) (G2 := g_X8_isSum) (dep2 := 1) (As := [.long a3]) (st := []) (stk2 := [.int q15.1]) (r2 := (some (.int q15.1))) (h1 := q15.2) dX8_newStep_15 (ok_X8_isSum e15) (sc_X8_newStep_X8_isSum) wd_1044 wd_1045 rfl rfl (ym_st4 (Nat.le_of_ble_eq_true rfl)) rfl ?_
      by_cases c18 : q15.1 = 0
      · rw [if_pos c18] at hf
        refine ym_if_ne_y (pc := 18) (tgt := 25) dX8_newStep_18 (by decide) c18 ?_
        refine ym_ldc2 (pc := 21) dX8_newStep_21 wd_1038 ?_
        cases hf
        exact ym_lret (pc := 24) dX8_newStep_24 rfl
      · rw [if_neg c18] at hf
        refine ym_if_ne_n (pc := 18) (tgt := 25) dX8_newStep_18 (by decide) c18 ?_
        refine ym_aload_n (pc := 25) 0 dX8_newStep_25 rfl rfl ?_
        obtain ⟨v26, e26, hf⟩ := Option.bind_eq_some_iff.mp hf
        refine ym_get (pc := 26) dX8_newStep_26 rfl (by decide) iX8 (k := 33) (by decide) wd_878 (ym_gI_v e26) ?_
        refine ym_bipush (pc := 29) (v := 20) dX8_newStep_29 (by decide) ?_
        by_cases c31 : v26 = 20
        · rw [if_pos c31] at hf
          refine ym_icmp_ne_y (pc := 31) (tgt := 38) dX8_newStep_31 (by decide) c31 ?_
          refine ym_ldc2 (pc := 34) dX8_newStep_34 wd_1039 ?_
          cases hf
          exact ym_lret (pc := 37) dX8_newStep_37 rfl
        · rw [if_neg c31] at hf
          refine ym_icmp_ne_n (pc := 31) (tgt := 38) dX8_newStep_31 (by decide) c31 ?_
          refine ym_aload_n (pc := 38) 0 dX8_newStep_38 rfl rfl ?_
          obtain ⟨v39, e39, hf⟩ := Option.bind_eq_some_iff.mp hf
          refine ym_get (pc := 39) dX8_newStep_39 rfl (by decide) iX8 (k := 33) (by decide) wd_878 (ym_gI_v e39) ?_
          by_cases c42 : v39 ≤ 0
          · rw [if_pos c42] at hf
            refine ym_if_le_y (pc := 42) (tgt := 65) dX8_newStep_42 (by decide) c42 ?_
            exact ym_sub [0, 1, 2] rfl (ob_X8_newStep_65 hf)
          · rw [if_neg c42] at hf
            refine ym_if_le_n (pc := 42) (tgt := 65) dX8_newStep_42 (by decide) c42 ?_
            refine ym_lload_n (pc := 45) 1 dX8_newStep_45 rfl rfl ?_
            refine ym_aload_n (pc := 46) 0 dX8_newStep_46 rfl rfl ?_
            obtain ⟨v47, e47, hf⟩ := Option.bind_eq_some_iff.mp hf
            refine ym_get (pc := 47) dX8_newStep_47 rfl (by decide) iX8 (k := 34) (by decide) wd_879 (ym_gR_v e47) ?_
            refine ym_aload_n (pc := 50) 0 dX8_newStep_50 rfl rfl ?_
            obtain ⟨v51, e51, hf⟩ := Option.bind_eq_some_iff.mp hf
            refine ym_get (pc := 51) dX8_newStep_51 rfl (by decide) iX8 (k := 33) (by decide) wd_878 (ym_gI_v e51) ?_
            refine ym_iconst (pc := 54) (v := 1) dX8_newStep_54 (by decide) ?_
            refine ym_isub (pc := 55) dX8_newStep_55 ?_
            obtain ⟨v56, e56, hf⟩ := Option.bind_eq_some_iff.mp hf
            refine ym_lald (pc := 56) dX8_newStep_56 rfl (ym_ldL_v e56) ?_
            by_cases c57 : v56 < a1
            · rw [if_pos c57] at hf
              refine ym_lcmp_gt_y (pc := 57) (tgt := 65) dX8_newStep_57 dX8_newStep_58 (by decide) c57 ?_
              exact ym_sub [0, 1, 2] rfl (ob_X8_newStep_65 hf)
            · rw [if_neg c57] at hf
              refine ym_lcmp_gt_n (pc := 57) (tgt := 65) dX8_newStep_57 dX8_newStep_58 (by decide) c57 ?_
              refine ym_ldc2 (pc := 61) dX8_newStep_61 wd_1076 ?_
              cases hf
              exact ym_lret (pc := 64) dX8_newStep_64 rfl
theorem dX8_newBracket_0 : decode cX8_newBracket 0 = .ok (.lload_n 1, 1) := by decide +kernel
theorem dX8_newBracket_1 : decode cX8_newBracket 1 = .ok (.lconst 0, 1) := by decide +kernel
theorem dX8_newBracket_2 : decode cX8_newBracket 2 = .ok (.lcmp, 1) := by decide +kernel
theorem dX8_newBracket_3 : decode cX8_newBracket 3 = .ok (.ifCond .lt 18, 3) := by decide +kernel
theorem dX8_newBracket_6 : decode cX8_newBracket 6 = .ok (.lload_n 1, 1) := by decide +kernel
theorem dX8_newBracket_7 : decode cX8_newBracket 7 = .ok (.ldc2_w 292, 3) := by decide +kernel
theorem dX8_newBracket_10 : decode cX8_newBracket 10 = .ok (.lcmp, 1) := by decide +kernel
theorem dX8_newBracket_11 : decode cX8_newBracket 11 = .ok (.ifCond .gt 10, 3) := by decide +kernel
theorem dX8_newBracket_14 : decode cX8_newBracket 14 = .ok (.iload_n 3, 1) := by decide +kernel
theorem dX8_newBracket_15 : decode cX8_newBracket 15 = .ok (.invokestatic 350, 3) := by decide +kernel
theorem dX8_newBracket_18 : decode cX8_newBracket 18 = .ok (.ifCond .ne 7, 3) := by decide +kernel
theorem dX8_newBracket_21 : decode cX8_newBracket 21 = .ok (.ldc2_w 331, 3) := by decide +kernel
theorem dX8_newBracket_24 : decode cX8_newBracket 24 = .ok (.lreturn, 1) := by decide +kernel
theorem dX8_newBracket_25 : decode cX8_newBracket 25 = .ok (.aload_n 0, 1) := by decide +kernel
theorem dX8_newBracket_26 : decode cX8_newBracket 26 = .ok (.getfield 197, 3) := by decide +kernel
theorem dX8_newBracket_29 : decode cX8_newBracket 29 = .ok (.bipush 20, 2) := by decide +kernel
theorem dX8_newBracket_31 : decode cX8_newBracket 31 = .ok (.if_icmp .ne 7, 3) := by decide +kernel
theorem dX8_newBracket_34 : decode cX8_newBracket 34 = .ok (.ldc2_w 333, 3) := by decide +kernel
theorem dX8_newBracket_37 : decode cX8_newBracket 37 = .ok (.lreturn, 1) := by decide +kernel
theorem dX8_newBracket_38 : decode cX8_newBracket 38 = .ok (.aload_n 0, 1) := by decide +kernel
theorem dX8_newBracket_39 : decode cX8_newBracket 39 = .ok (.getfield 197, 3) := by decide +kernel
theorem dX8_newBracket_42 : decode cX8_newBracket 42 = .ok (.ifCond .le 23, 3) := by decide +kernel
theorem dX8_newBracket_45 : decode cX8_newBracket 45 = .ok (.lload_n 1, 1) := by decide +kernel
theorem dX8_newBracket_46 : decode cX8_newBracket 46 = .ok (.aload_n 0, 1) := by decide +kernel
theorem dX8_newBracket_47 : decode cX8_newBracket 47 = .ok (.getfield 108, 3) := by decide +kernel
theorem dX8_newBracket_50 : decode cX8_newBracket 50 = .ok (.aload_n 0, 1) := by decide +kernel
theorem dX8_newBracket_51 : decode cX8_newBracket 51 = .ok (.getfield 197, 3) := by decide +kernel
theorem dX8_newBracket_54 : decode cX8_newBracket 54 = .ok (.iconst 1, 1) := by decide +kernel
theorem dX8_newBracket_55 : decode cX8_newBracket 55 = .ok (.isub, 1) := by decide +kernel
theorem dX8_newBracket_56 : decode cX8_newBracket 56 = .ok (.laload, 1) := by decide +kernel
theorem dX8_newBracket_57 : decode cX8_newBracket 57 = .ok (.lcmp, 1) := by decide +kernel
theorem dX8_newBracket_58 : decode cX8_newBracket 58 = .ok (.ifCond .gt 7, 3) := by decide +kernel
theorem dX8_newBracket_61 : decode cX8_newBracket 61 = .ok (.ldc2_w 354, 3) := by decide +kernel
theorem dX8_newBracket_64 : decode cX8_newBracket 64 = .ok (.lreturn, 1) := by decide +kernel
theorem dX8_newBracket_65 : decode cX8_newBracket 65 = .ok (.aload_n 0, 1) := by decide +kernel
theorem dX8_newBracket_66 : decode cX8_newBracket 66 = .ok (.getfield 108, 3) := by decide +kernel
theorem dX8_newBracket_69 : decode cX8_newBracket 69 = .ok (.aload_n 0, 1) := by decide +kernel
theorem dX8_newBracket_70 : decode cX8_newBracket 70 = .ok (.getfield 197, 3) := by decide +kernel
theorem dX8_newBracket_73 : decode cX8_newBracket 73 = .ok (.lload_n 1, 1) := by decide +kernel
theorem dX8_newBracket_74 : decode cX8_newBracket 74 = .ok (.lastore, 1) := by decide +kernel
theorem dX8_newBracket_75 : decode cX8_newBracket 75 = .ok (.aload_n 0, 1) := by decide +kernel
theorem dX8_newBracket_76 : decode cX8_newBracket 76 = .ok (.getfield 111, 3) := by decide +kernel
theorem dX8_newBracket_79 : decode cX8_newBracket 79 = .ok (.aload_n 0, 1) := by decide +kernel
theorem dX8_newBracket_80 : decode cX8_newBracket 80 = .ok (.getfield 197, 3) := by decide +kernel
theorem dX8_newBracket_83 : decode cX8_newBracket 83 = .ok (.iload_n 3, 1) := by decide +kernel
theorem dX8_newBracket_84 : decode cX8_newBracket 84 = .ok (.iastore, 1) := by decide +kernel
theorem dX8_newBracket_85 : decode cX8_newBracket 85 = .ok (.aload_n 0, 1) := by decide +kernel
theorem dX8_newBracket_86 : decode cX8_newBracket 86 = .ok (.dup, 1) := by decide +kernel
theorem dX8_newBracket_87 : decode cX8_newBracket 87 = .ok (.getfield 197, 3) := by decide +kernel
theorem dX8_newBracket_90 : decode cX8_newBracket 90 = .ok (.iconst 1, 1) := by decide +kernel
theorem dX8_newBracket_91 : decode cX8_newBracket 91 = .ok (.iadd, 1) := by decide +kernel
theorem dX8_newBracket_92 : decode cX8_newBracket 92 = .ok (.putfield 197, 3) := by decide +kernel
theorem dX8_newBracket_95 : decode cX8_newBracket 95 = .ok (.aload_n 0, 1) := by decide +kernel
theorem dX8_newBracket_96 : decode cX8_newBracket 96 = .ok (.getfield 197, 3) := by decide +kernel
theorem dX8_newBracket_99 : decode cX8_newBracket 99 = .ok (.i2l, 1) := by decide +kernel
theorem dX8_newBracket_100 : decode cX8_newBracket 100 = .ok (.lreturn, 1) := by decide +kernel
theorem sc_X8_newBracket_X8_isRate : ym_site g_X8_newBracket g_X8_isRate 2 1 1 := ⟨by decide, by decide, wd_1071, wd_83, by decide +kernel⟩
def bl_X8_newBracket_65 (N : Nat) (w0 : Option Nat) (w1 : Int64) (w3 : Int32) (h : ym_H) : Option (Int64 × ym_H) :=
  Option.bind (ym_gR h w0 8 37) fun v66 =>
  Option.bind (ym_gI h w0 8 36) fun v70 =>
  Option.bind (ym_as h v66 1 v70 (.long w1)) fun h74 =>
  Option.bind (ym_gR h74 w0 8 38) fun v76 =>
  Option.bind (ym_gI h74 w0 8 36) fun v80 =>
  Option.bind (ym_as h74 v76 0 v80 (.int w3)) fun h84 =>
  Option.bind (ym_gI h84 w0 8 36) fun v87 =>
  Option.bind (ym_pf h84 w0 8 36 (.int (v87 + 1))) fun h92 =>
  Option.bind (ym_gI h92 w0 8 36) fun v96 =>
  some ((Int32.toInt64 v96), h92)
set_option maxRecDepth 20000 in
set_option maxHeartbeats 4000000 in
theorem ob_X8_newBracket_65 {D : ym_D} {b0 : Nat} {N : Nat} {w0 : Option Nat} {w1 : Int64} {w3 : Int32} {h h' : ym_H} {r : Int64} (hf : bl_X8_newBracket_65 N w0 w1 w3 h = some (r, h')) : ym_Y D b0 g_X8_newBracket 2 65 [(0, va_rf w0), (1, .long w1), (3, .int w3)] [] h (some (.long r)) h' := by
  unfold bl_X8_newBracket_65 at hf
  refine ym_aload_n (pc := 65) 0 dX8_newBracket_65 rfl rfl ?_
  obtain ⟨v66, e66, hf⟩ := Option.bind_eq_some_iff.mp hf
  refine ym_get (pc := 66) dX8_newBracket_66 rfl (by decide) iX8 (k := 37) (by decide) wd_882 (ym_gR_v e66) ?_
  refine ym_aload_n (pc := 69) 0 dX8_newBracket_69 rfl rfl ?_
  obtain ⟨v70, e70, hf⟩ := Option.bind_eq_some_iff.mp hf
  refine ym_get (pc := 70) dX8_newBracket_70 rfl (by decide) iX8 (k := 36) (by decide) wd_881 (ym_gI_v e70) ?_
  refine ym_lload_n (pc := 73) 1 dX8_newBracket_73 rfl rfl ?_
  obtain ⟨h74, e74, hf⟩ := Option.bind_eq_some_iff.mp hf
  refine ym_last (pc := 74) dX8_newBracket_74 rfl e74 ?_
  refine ym_aload_n (pc := 75) 0 dX8_newBracket_75 rfl rfl ?_
  obtain ⟨v76, e76, hf⟩ := Option.bind_eq_some_iff.mp hf
  refine ym_get (pc := 76) dX8_newBracket_76 rfl (by decide) iX8 (k := 38) (by decide) wd_883 (ym_gR_v e76) ?_
  refine ym_aload_n (pc := 79) 0 dX8_newBracket_79 rfl rfl ?_
  obtain ⟨v80, e80, hf⟩ := Option.bind_eq_some_iff.mp hf
  refine ym_get (pc := 80) dX8_newBracket_80 rfl (by decide) iX8 (k := 36) (by decide) wd_881 (ym_gI_v e80) ?_
  refine ym_iload_n (pc := 83) 2 dX8_newBracket_83 rfl rfl ?_
  obtain ⟨h84, e84, hf⟩ := Option.bind_eq_some_iff.mp hf
  refine ym_iast (pc := 84) dX8_newBracket_84 rfl e84 ?_
  refine ym_aload_n (pc := 85) 0 dX8_newBracket_85 rfl rfl ?_
  refine ym_dup (pc := 86) dX8_newBracket_86 (ym_c1 w0) ?_
  obtain ⟨v87, e87, hf⟩ := Option.bind_eq_some_iff.mp hf
  refine ym_get (pc := 87) dX8_newBracket_87 rfl (by decide) iX8 (k := 36) (by decide) wd_881 (ym_gI_v e87) ?_
  refine ym_iconst (pc := 90) (v := 1) dX8_newBracket_90 (by decide) ?_
  refine ym_iadd (pc := 91) dX8_newBracket_91 ?_
  obtain ⟨h92, e92, hf⟩ := Option.bind_eq_some_iff.mp hf
  refine ym_put (pc := 92) (h1 := h92) dX8_newBracket_92 rfl (by decide) iX8 tyX8 tyX8_ok nmX8 (k := 36) (by decide) wd_881 rfl (tyX8_ok 36 (by decide)) rfl rfl e92 ?_
  refine ym_aload_n (pc := 95) 0 dX8_newBracket_95 rfl rfl ?_
  obtain ⟨v96, e96, hf⟩ := Option.bind_eq_some_iff.mp hf
  refine ym_get (pc := 96) dX8_newBracket_96 rfl (by decide) iX8 (k := 36) (by decide) wd_881 (ym_gI_v e96) ?_
  refine ym_i2l (pc := 99) dX8_newBracket_99 ?_
  cases hf
  exact ym_lret (pc := 100) dX8_newBracket_100 rfl
def fn_X8_newBracket (N : Nat) (a0 : Option Nat) (a1 : Int64) (a3 : Int32) (h : ym_H) : Option (Int64 × ym_H) :=
  if a1 < 0 then
    some ((-1), h)
  else
    if 1000000000000 < a1 then
      some ((-1), h)
    else
      Option.bind (fn_X8_isRate N a3 h) fun q15 =>
      if q15.1 = 0 then
        some ((-1), q15.2)
      else
        Option.bind (ym_gI q15.2 a0 8 36) fun v26 =>
        if v26 = 20 then
          some ((-12), q15.2)
        else
          Option.bind (ym_gI q15.2 a0 8 36) fun v39 =>
          if v39 ≤ 0 then
            bl_X8_newBracket_65 N a0 a1 a3 q15.2
          else
            Option.bind (ym_gR q15.2 a0 8 37) fun v47 =>
            Option.bind (ym_gI q15.2 a0 8 36) fun v51 =>
            Option.bind (ym_ldL q15.2 v47 (v51 - 1)) fun v56 =>
            if v56 < a1 then
              bl_X8_newBracket_65 N a0 a1 a3 q15.2
            else
              some ((-10), q15.2)
set_option maxRecDepth 20000 in
set_option maxHeartbeats 4000000 in
theorem ok_X8_newBracket {D : ym_D} {b0 : Nat} {N : Nat} {a0 : Option Nat} {a1 : Int64} {a3 : Int32} {h h' : ym_H} {r : Int64} (hf : fn_X8_newBracket N a0 a1 a3 h = some (r, h')) : ym_M D b0 g_X8_newBracket 2 [va_rf a0, .long a1, .int a3] h (some (.long r)) h' := by
  unfold fn_X8_newBracket at hf
  refine ym_meth (lv := [(0, va_rf a0), (1, .long a1), (3, .int a3)]) (by decide) (by simp [lg_sl, ym_c1, ym_cI, ym_cL, g_X8_newBracket]) (by simp [lv_args, ym_c1, ym_cI, ym_cL]) ?_
  refine ym_lload_n (pc := 0) 1 dX8_newBracket_0 rfl rfl ?_
  refine ym_lconst (pc := 1) (v := 0) dX8_newBracket_1 (by decide) ?_
  by_cases c2 : a1 < 0
  · rw [if_pos c2] at hf
    refine ym_lcmp_lt_y (pc := 2) (tgt := 21) dX8_newBracket_2 dX8_newBracket_3 (by decide) c2 ?_
    refine ym_ldc2 (pc := 21) dX8_newBracket_21 wd_1038 ?_
    cases hf
    exact ym_lret (pc := 24) dX8_newBracket_24 rfl
  · rw [if_neg c2] at hf
    refine ym_lcmp_lt_n (pc := 2) (tgt := 21) dX8_newBracket_2 dX8_newBracket_3 (by decide) c2 ?_
    refine ym_lload_n (pc := 6) 1 dX8_newBracket_6 rfl rfl ?_
    refine ym_ldc2 (pc := 7) dX8_newBracket_7 wd_1037 ?_
    by_cases c10 : 1000000000000 < a1
    · rw [if_pos c10] at hf
      refine ym_lcmp_gt_y (pc := 10) (tgt := 21) dX8_newBracket_10 dX8_newBracket_11 (by decide) c10 ?_
      refine ym_ldc2 (pc := 21) dX8_newBracket_21 wd_1038 ?_
      cases hf
      exact ym_lret (pc := 24) dX8_newBracket_24 rfl
    · rw [if_neg c10] at hf
      refine ym_lcmp_gt_n (pc := 10) (tgt := 21) dX8_newBracket_10 dX8_newBracket_11 (by decide) c10 ?_
      refine ym_iload_n (pc := 14) 2 dX8_newBracket_14 rfl rfl ?_
      obtain ⟨q15, e15, hf⟩ := Option.bind_eq_some_iff.mp hf
      refine ym_callS (pc := 15) (G2 := g_X8_isRate) (dep2 := 1) (As := [.int a3]) (st := []) (stk2 := [.int q15.1]) (r2 := (some (.int q15.1))) (h1 := q15.2) dX8_newBracket_15 (ok_X8_isRate e15) (sc_X8_newBracket_X8_isRate) wd_1069 wd_1070 rfl rfl (ym_st4 (Nat.le_of_ble_eq_true rfl)) rfl ?_
      by_cases c18 : q15.1 = 0
      · rw [if_pos c18] at hf
        refine ym_if_ne_y (pc := 18) (tgt := 25) dX8_newBracket_18 (by decide) c18 ?_
        refine ym_ldc2 (pc := 21) dX8_newBracket_21 wd_1038 ?_
        cases hf
        exact ym_lret (pc := 24) dX8_newBracket_24 rfl
      · rw [if_neg c18] at hf
        refine ym_if_ne_n (pc := 18) (tgt := 25) dX8_newBracket_18 (by decide) c18 ?_
        refine ym_aload_n (pc := 25) 0 dX8_newBracket_25 rfl rfl ?_
        obtain ⟨v26, e26, hf⟩ := Option.bind_eq_some_iff.mp hf
        refine ym_get (pc := 26) dX8_newBracket_26 rfl (by decide) iX8 (k := 36) (by decide) wd_881 (ym_gI_v e26) ?_
        refine ym_bipush (pc := 29) (v := 20) dX8_newBracket_29 (by decide) ?_
        by_cases c31 : v26 = 20
        · rw [if_pos c31] at hf
          refine ym_icmp_ne_y (pc := 31) (tgt := 38) dX8_newBracket_31 (by decide) c31 ?_
          refine ym_ldc2 (pc := 34) dX8_newBracket_34 wd_1039 ?_
          cases hf
          exact ym_lret (pc := 37) dX8_newBracket_37 rfl
        · rw [if_neg c31] at hf
          refine ym_icmp_ne_n (pc := 31) (tgt := 38) dX8_newBracket_31 (by decide) c31 ?_
          refine ym_aload_n (pc := 38) 0 dX8_newBracket_38 rfl rfl ?_
          obtain ⟨v39, e39, hf⟩ := Option.bind_eq_some_iff.mp hf
          refine ym_get (pc := 39) dX8_newBracket_39 rfl (by decide) iX8 (k := 36) (by decide) wd_881 (ym_gI_v e39) ?_
          by_cases c42 : v39 ≤ 0
          · rw [if_pos c42] at hf
            refine ym_if_le_y (pc := 42) (tgt := 65) dX8_newBracket_42 (by decide) c42 ?_
            exact ym_sub [0, 1, 2] rfl (ob_X8_newBracket_65 hf)
          · rw [if_neg c42] at hf
            refine ym_if_le_n (pc := 42) (tgt := 65) dX8_newBracket_42 (by decide) c42 ?_
            refine ym_lload_n (pc := 45) 1 dX8_newBracket_45 rfl rfl ?_
            refine ym_aload_n (pc := 46) 0 dX8_newBracket_46 rfl rfl ?_
            obtain ⟨v47, e47, hf⟩ := Option.bind_eq_some_iff.mp hf
            refine ym_get (pc := 47) dX8_newBracket_47 rfl (by decide) iX8 (k := 37) (by decide) wd_882 (ym_gR_v e47) ?_
            refine ym_aload_n (pc := 50) 0 dX8_newBracket_50 rfl rfl ?_
            obtain ⟨v51, e51, hf⟩ := Option.bind_eq_some_iff.mp hf
            refine ym_get (pc := 51) dX8_newBracket_51 rfl (by decide) iX8 (k := 36) (by decide) wd_881 (ym_gI_v e51) ?_
            refine ym_iconst (pc := 54) (v := 1) dX8_newBracket_54 (by decide) ?_
            refine ym_isub (pc := 55) dX8_newBracket_55 ?_
            obtain ⟨v56, e56, hf⟩ := Option.bind_eq_some_iff.mp hf
            refine ym_lald (pc := 56) dX8_newBracket_56 rfl (ym_ldL_v e56) ?_
            by_cases c57 : v56 < a1
            · rw [if_pos c57] at hf
              refine ym_lcmp_gt_y (pc := 57) (tgt := 65) dX8_newBracket_57 dX8_newBracket_58 (by decide) c57 ?_
              exact ym_sub [0, 1, 2] rfl (ob_X8_newBracket_65 hf)
            · rw [if_neg c57] at hf
              refine ym_lcmp_gt_n (pc := 57) (tgt := 65) dX8_newBracket_57 dX8_newBracket_58 (by decide) c57 ?_
              refine ym_ldc2 (pc := 61) dX8_newBracket_61 wd_1076 ?_
              cases hf
              exact ym_lret (pc := 64) dX8_newBracket_64 rfl
theorem dX8_newTax_0 : decode cX8_newTax 0 = .ok (.iload_n 1, 1) := by decide +kernel
theorem dX8_newTax_1 : decode cX8_newTax 1 = .ok (.iconst 1, 1) := by decide +kernel
theorem dX8_newTax_2 : decode cX8_newTax 2 = .ok (.if_icmp .lt 15, 3) := by decide +kernel
theorem dX8_newTax_5 : decode cX8_newTax 5 = .ok (.iload_n 1, 1) := by decide +kernel
theorem dX8_newTax_6 : decode cX8_newTax 6 = .ok (.iconst 5, 1) := by decide +kernel
theorem dX8_newTax_7 : decode cX8_newTax 7 = .ok (.if_icmp .gt 10, 3) := by decide +kernel
theorem dX8_newTax_10 : decode cX8_newTax 10 = .ok (.iload_n 2, 1) := by decide +kernel
theorem dX8_newTax_11 : decode cX8_newTax 11 = .ok (.invokestatic 350, 3) := by decide +kernel
theorem dX8_newTax_14 : decode cX8_newTax 14 = .ok (.ifCond .ne 7, 3) := by decide +kernel
theorem dX8_newTax_17 : decode cX8_newTax 17 = .ok (.ldc2_w 331, 3) := by decide +kernel
theorem dX8_newTax_20 : decode cX8_newTax 20 = .ok (.lreturn, 1) := by decide +kernel
theorem dX8_newTax_21 : decode cX8_newTax 21 = .ok (.aload_n 0, 1) := by decide +kernel
theorem dX8_newTax_22 : decode cX8_newTax 22 = .ok (.getfield 114, 3) := by decide +kernel
theorem dX8_newTax_25 : decode cX8_newTax 25 = .ok (.iload_n 1, 1) := by decide +kernel
theorem dX8_newTax_26 : decode cX8_newTax 26 = .ok (.iaload, 1) := by decide +kernel
theorem dX8_newTax_27 : decode cX8_newTax 27 = .ok (.istore_n 3, 1) := by decide +kernel
theorem dX8_newTax_28 : decode cX8_newTax 28 = .ok (.aload_n 0, 1) := by decide +kernel
theorem dX8_newTax_29 : decode cX8_newTax 29 = .ok (.getfield 114, 3) := by decide +kernel
theorem dX8_newTax_32 : decode cX8_newTax 32 = .ok (.iload_n 1, 1) := by decide +kernel
theorem dX8_newTax_33 : decode cX8_newTax 33 = .ok (.iload_n 2, 1) := by decide +kernel
theorem dX8_newTax_34 : decode cX8_newTax 34 = .ok (.iastore, 1) := by decide +kernel
theorem dX8_newTax_35 : decode cX8_newTax 35 = .ok (.iload_n 3, 1) := by decide +kernel
theorem dX8_newTax_36 : decode cX8_newTax 36 = .ok (.i2l, 1) := by decide +kernel
theorem dX8_newTax_37 : decode cX8_newTax 37 = .ok (.lreturn, 1) := by decide +kernel
theorem sc_X8_newTax_X8_isRate : ym_site g_X8_newTax g_X8_isRate 2 1 1 := ⟨by decide, by decide, wd_1071, wd_83, by decide +kernel⟩
def fn_X8_newTax (N : Nat) (a0 : Option Nat) (a1 : Int32) (a2 : Int32) (h : ym_H) : Option (Int64 × ym_H) :=
  if a1 < 1 then
    some ((-1), h)
  else
    if 5 < a1 then
      some ((-1), h)
    else
      Option.bind (fn_X8_isRate N a2 h) fun q11 =>
      if q11.1 = 0 then
        some ((-1), q11.2)
      else
        Option.bind (ym_gR q11.2 a0 8 39) fun v22 =>
        Option.bind (ym_ldI q11.2 v22 a1) fun v26 =>
        Option.bind (ym_gR q11.2 a0 8 39) fun v29 =>
        Option.bind (ym_as q11.2 v29 0 a1 (.int a2)) fun h34 =>
        some ((Int32.toInt64 v26), h34)
set_option maxRecDepth 20000 in
set_option maxHeartbeats 4000000 in
theorem ok_X8_newTax {D : ym_D} {b0 : Nat} {N : Nat} {a0 : Option Nat} {a1 : Int32} {a2 : Int32} {h h' : ym_H} {r : Int64} (hf : fn_X8_newTax N a0 a1 a2 h = some (r, h')) : ym_M D b0 g_X8_newTax 2 [va_rf a0, .int a1, .int a2] h (some (.long r)) h' := by
  unfold fn_X8_newTax at hf
  refine ym_meth (lv := [(0, va_rf a0), (1, .int a1), (2, .int a2)]) (by decide) (by simp [lg_sl, ym_c1, ym_cI, ym_cL, g_X8_newTax]) (by simp [lv_args, ym_c1, ym_cI, ym_cL]) ?_
  refine ym_iload_n (pc := 0) 1 dX8_newTax_0 rfl rfl ?_
  refine ym_iconst (pc := 1) (v := 1) dX8_newTax_1 (by decide) ?_
  by_cases c2 : a1 < 1
  · rw [if_pos c2] at hf
    refine ym_icmp_lt_y (pc := 2) (tgt := 17) dX8_newTax_2 (by decide) c2 ?_
    refine ym_ldc2 (pc := 17) dX8_newTax_17 wd_1038 ?_
    cases hf
    exact ym_lret (pc := 20) dX8_newTax_20 rfl
  · rw [if_neg c2] at hf
    refine ym_icmp_lt_n (pc := 2) (tgt := 17) dX8_newTax_2 (by decide) c2 ?_
    refine ym_iload_n (pc := 5) 1 dX8_newTax_5 rfl rfl ?_
    refine ym_iconst (pc := 6) (v := 5) dX8_newTax_6 (by decide) ?_
    by_cases c7 : 5 < a1
    · rw [if_pos c7] at hf
      refine ym_icmp_gt_y (pc := 7) (tgt := 17) dX8_newTax_7 (by decide) c7 ?_
      refine ym_ldc2 (pc := 17) dX8_newTax_17 wd_1038 ?_
      cases hf
      exact ym_lret (pc := 20) dX8_newTax_20 rfl
    · rw [if_neg c7] at hf
      refine ym_icmp_gt_n (pc := 7) (tgt := 17) dX8_newTax_7 (by decide) c7 ?_
      refine ym_iload_n (pc := 10) 2 dX8_newTax_10 rfl rfl ?_
      obtain ⟨q11, e11, hf⟩ := Option.bind_eq_some_iff.mp hf
      refine ym_callS (pc := 11) (G2 := g_X8_isRate) (dep2 := 1) (As := [.int a2]) (st := []) (stk2 := [.int q11.1]) (r2 := (some (.int q11.1))) (h1 := q11.2) dX8_newTax_11 (ok_X8_isRate e11) (sc_X8_newTax_X8_isRate) wd_1069 wd_1070 rfl rfl (ym_st4 (Nat.le_of_ble_eq_true rfl)) rfl ?_
      by_cases c14 : q11.1 = 0
      · rw [if_pos c14] at hf
        refine ym_if_ne_y (pc := 14) (tgt := 21) dX8_newTax_14 (by decide) c14 ?_
        refine ym_ldc2 (pc := 17) dX8_newTax_17 wd_1038 ?_
        cases hf
        exact ym_lret (pc := 20) dX8_newTax_20 rfl
      · rw [if_neg c14] at hf
        refine ym_if_ne_n (pc := 14) (tgt := 21) dX8_newTax_14 (by decide) c14 ?_
        refine ym_aload_n (pc := 21) 0 dX8_newTax_21 rfl rfl ?_
        obtain ⟨v22, e22, hf⟩ := Option.bind_eq_some_iff.mp hf
        refine ym_get (pc := 22) dX8_newTax_22 rfl (by decide) iX8 (k := 39) (by decide) wd_884 (ym_gR_v e22) ?_
        refine ym_iload_n (pc := 25) 1 dX8_newTax_25 rfl rfl ?_
        obtain ⟨v26, e26, hf⟩ := Option.bind_eq_some_iff.mp hf
        refine ym_iald (pc := 26) dX8_newTax_26 rfl (ym_ldI_v e26) ?_
        refine ym_istore_n (pc := 27) (lv' := [(3, .int v26), (0, va_rf a0), (1, .int a1), (2, .int a2)]) dX8_newTax_27 rfl (by decide) ⟨trivial, trivial, rfl, trivial⟩ rfl ?_
        refine ym_aload_n (pc := 28) 1 dX8_newTax_28 rfl rfl ?_
        obtain ⟨v29, e29, hf⟩ := Option.bind_eq_some_iff.mp hf
        refine ym_get (pc := 29) dX8_newTax_29 rfl (by decide) iX8 (k := 39) (by decide) wd_884 (ym_gR_v e29) ?_
        refine ym_iload_n (pc := 32) 2 dX8_newTax_32 rfl rfl ?_
        refine ym_iload_n (pc := 33) 3 dX8_newTax_33 rfl rfl ?_
        obtain ⟨h34, e34, hf⟩ := Option.bind_eq_some_iff.mp hf
        refine ym_iast (pc := 34) dX8_newTax_34 rfl e34 ?_
        refine ym_iload_n (pc := 35) 0 dX8_newTax_35 rfl rfl ?_
        refine ym_i2l (pc := 36) dX8_newTax_36 ?_
        cases hf
        exact ym_lret (pc := 37) dX8_newTax_37 rfl
theorem dX8_isPlain_0 : decode cX8_isPlain 0 = .ok (.aload_n 0, 1) := by decide +kernel
theorem dX8_isPlain_1 : decode cX8_isPlain 1 = .ok (.getfield 20, 3) := by decide +kernel
theorem dX8_isPlain_4 : decode cX8_isPlain 4 = .ok (.iload_n 1, 1) := by decide +kernel
theorem dX8_isPlain_5 : decode cX8_isPlain 5 = .ok (.iaload, 1) := by decide +kernel
theorem dX8_isPlain_6 : decode cX8_isPlain 6 = .ok (.iconst 3, 1) := by decide +kernel
theorem dX8_isPlain_7 : decode cX8_isPlain 7 = .ok (.if_icmp .gt 7, 3) := by decide +kernel
theorem dX8_isPlain_10 : decode cX8_isPlain 10 = .ok (.iconst 1, 1) := by decide +kernel
theorem dX8_isPlain_11 : decode cX8_isPlain 11 = .ok (.goto 4, 3) := by decide +kernel
theorem dX8_isPlain_14 : decode cX8_isPlain 14 = .ok (.iconst 0, 1) := by decide +kernel
theorem dX8_isPlain_15 : decode cX8_isPlain 15 = .ok (.ireturn, 1) := by decide +kernel
def fn_X8_isPlain (N : Nat) (a0 : Option Nat) (a1 : Int32) (h : ym_H) : Option (Int32 × ym_H) :=
  Option.bind (ym_gR h a0 8 5) fun v1 =>
  Option.bind (ym_ldI h v1 a1) fun v5 =>
  if 3 < v5 then
    some (0, h)
  else
    some (1, h)
set_option maxRecDepth 20000 in
set_option maxHeartbeats 4000000 in
theorem ok_X8_isPlain {D : ym_D} {b0 : Nat} {N : Nat} {a0 : Option Nat} {a1 : Int32} {h h' : ym_H} {r : Int32} (hf : fn_X8_isPlain N a0 a1 h = some (r, h')) : ym_M D b0 g_X8_isPlain 1 [va_rf a0, .int a1] h (some (.int r)) h' := by
  unfold fn_X8_isPlain at hf
  refine ym_meth (lv := [(0, va_rf a0), (1, .int a1)]) (by decide) (by simp [lg_sl, ym_c1, ym_cI, ym_cL, g_X8_isPlain]) (by simp [lv_args, ym_c1, ym_cI, ym_cL]) ?_
  refine ym_aload_n (pc := 0) 0 dX8_isPlain_0 rfl rfl ?_
  obtain ⟨v1, e1, hf⟩ := Option.bind_eq_some_iff.mp hf
  refine ym_get (pc := 1) dX8_isPlain_1 rfl (by decide) iX8 (k := 5) (by decide) wd_850 (ym_gR_v e1) ?_
  refine ym_iload_n (pc := 4) 1 dX8_isPlain_4 rfl rfl ?_
  obtain ⟨v5, e5, hf⟩ := Option.bind_eq_some_iff.mp hf
  refine ym_iald (pc := 5) dX8_isPlain_5 rfl (ym_ldI_v e5) ?_
  refine ym_iconst (pc := 6) (v := 3) dX8_isPlain_6 (by decide) ?_
  by_cases c7 : 3 < v5
  · rw [if_pos c7] at hf
    refine ym_icmp_gt_y (pc := 7) (tgt := 14) dX8_isPlain_7 (by decide) c7 ?_
    refine ym_iconst (pc := 14) (v := 0) dX8_isPlain_14 (by decide) ?_
    cases hf
    exact ym_zret (pc := 15) dX8_isPlain_15 rfl rfl
  · rw [if_neg c7] at hf
    refine ym_icmp_gt_n (pc := 7) (tgt := 14) dX8_isPlain_7 (by decide) c7 ?_
    refine ym_iconst (pc := 10) (v := 1) dX8_isPlain_10 (by decide) ?_
    refine ym_goto (pc := 11) (tgt := 15) dX8_isPlain_11 (by decide) ?_
    cases hf
    exact ym_zret (pc := 15) dX8_isPlain_15 rfl rfl
theorem dX8_isAhead_0 : decode cX8_isAhead 0 = .ok (.lload_n 0, 1) := by decide +kernel
theorem dX8_isAhead_1 : decode cX8_isAhead 1 = .ok (.lload_n 3, 1) := by decide +kernel
theorem dX8_isAhead_2 : decode cX8_isAhead 2 = .ok (.lcmp, 1) := by decide +kernel
theorem dX8_isAhead_3 : decode cX8_isAhead 3 = .ok (.ifCond .gt 15, 3) := by decide +kernel
theorem dX8_isAhead_6 : decode cX8_isAhead 6 = .ok (.lload_n 0, 1) := by decide +kernel
theorem dX8_isAhead_7 : decode cX8_isAhead 7 = .ok (.lload_n 3, 1) := by decide +kernel
theorem dX8_isAhead_8 : decode cX8_isAhead 8 = .ok (.lcmp, 1) := by decide +kernel
theorem dX8_isAhead_9 : decode cX8_isAhead 9 = .ok (.ifCond .ne 13, 3) := by decide +kernel
theorem dX8_isAhead_12 : decode cX8_isAhead 12 = .ok (.iload_n 2, 1) := by decide +kernel
theorem dX8_isAhead_13 : decode cX8_isAhead 13 = .ok (.iload 5, 2) := by decide +kernel
theorem dX8_isAhead_15 : decode cX8_isAhead 15 = .ok (.if_icmp .ge 7, 3) := by decide +kernel
theorem dX8_isAhead_18 : decode cX8_isAhead 18 = .ok (.iconst 1, 1) := by decide +kernel
theorem dX8_isAhead_19 : decode cX8_isAhead 19 = .ok (.goto 4, 3) := by decide +kernel
theorem dX8_isAhead_22 : decode cX8_isAhead 22 = .ok (.iconst 0, 1) := by decide +kernel
theorem dX8_isAhead_23 : decode cX8_isAhead 23 = .ok (.ireturn, 1) := by decide +kernel
def fn_X8_isAhead (N : Nat) (a0 : Int64) (a2 : Int32) (a3 : Int64) (a5 : Int32) (h : ym_H) : Option (Int32 × ym_H) :=
  if a3 < a0 then
    some (1, h)
  else
    if a0 = a3 then
      if a5 ≤ a2 then
        some (0, h)
      else
        some (1, h)
    else
      some (0, h)
set_option maxRecDepth 20000 in
set_option maxHeartbeats 4000000 in
theorem ok_X8_isAhead {D : ym_D} {b0 : Nat} {N : Nat} {a0 : Int64} {a2 : Int32} {a3 : Int64} {a5 : Int32} {h h' : ym_H} {r : Int32} (hf : fn_X8_isAhead N a0 a2 a3 a5 h = some (r, h')) : ym_M D b0 g_X8_isAhead 1 [.long a0, .int a2, .long a3, .int a5] h (some (.int r)) h' := by
  unfold fn_X8_isAhead at hf
  refine ym_meth (lv := [(0, .long a0), (2, .int a2), (3, .long a3), (5, .int a5)]) (by decide) (by simp [lg_sl, ym_c1, ym_cI, ym_cL, g_X8_isAhead]) (by simp [lv_args, ym_c1, ym_cI, ym_cL]) ?_
  refine ym_lload_n (pc := 0) 0 dX8_isAhead_0 rfl rfl ?_
  refine ym_lload_n (pc := 1) 2 dX8_isAhead_1 rfl rfl ?_
  by_cases c2 : a3 < a0
  · rw [if_pos c2] at hf
    refine ym_lcmp_gt_y (pc := 2) (tgt := 18) dX8_isAhead_2 dX8_isAhead_3 (by decide) c2 ?_
    refine ym_iconst (pc := 18) (v := 1) dX8_isAhead_18 (by decide) ?_
    refine ym_goto (pc := 19) (tgt := 23) dX8_isAhead_19 (by decide) ?_
    cases hf
    exact ym_zret (pc := 23) dX8_isAhead_23 rfl rfl
  · rw [if_neg c2] at hf
    refine ym_lcmp_gt_n (pc := 2) (tgt := 18) dX8_isAhead_2 dX8_isAhead_3 (by decide) c2 ?_
    refine ym_lload_n (pc := 6) 0 dX8_isAhead_6 rfl rfl ?_
    refine ym_lload_n (pc := 7) 2 dX8_isAhead_7 rfl rfl ?_
    by_cases c8 : a0 = a3
    · rw [if_pos c8] at hf
      refine ym_lcmp_ne_y (pc := 8) (tgt := 22) dX8_isAhead_8 dX8_isAhead_9 (by decide) c8 ?_
      refine ym_iload_n (pc := 12) 1 dX8_isAhead_12 rfl rfl ?_
      refine ym_iload (pc := 13) 3 dX8_isAhead_13 rfl ?_
      by_cases c15 : a5 ≤ a2
      · rw [if_pos c15] at hf
        refine ym_icmp_ge_y (pc := 15) (tgt := 22) dX8_isAhead_15 (by decide) c15 ?_
        refine ym_iconst (pc := 22) (v := 0) dX8_isAhead_22 (by decide) ?_
        cases hf
        exact ym_zret (pc := 23) dX8_isAhead_23 rfl rfl
      · rw [if_neg c15] at hf
        refine ym_icmp_ge_n (pc := 15) (tgt := 22) dX8_isAhead_15 (by decide) c15 ?_
        refine ym_iconst (pc := 18) (v := 1) dX8_isAhead_18 (by decide) ?_
        refine ym_goto (pc := 19) (tgt := 23) dX8_isAhead_19 (by decide) ?_
        cases hf
        exact ym_zret (pc := 23) dX8_isAhead_23 rfl rfl
    · rw [if_neg c8] at hf
      refine ym_lcmp_ne_n (pc := 8) (tgt := 22) dX8_isAhead_8 dX8_isAhead_9 (by decide) c8 ?_
      refine ym_iconst (pc := 22) (v := 0) dX8_isAhead_22 (by decide) ?_
      cases hf
      exact ym_zret (pc := 23) dX8_isAhead_23 rfl rfl
theorem dX8_after_0 : decode cX8_after 0 = .ok (.lconst 1, 1) := by decide +kernel
theorem dX8_after_1 : decode cX8_after 1 = .ok (.lstore_n 3, 1) := by decide +kernel
theorem dX8_after_2 : decode cX8_after 2 = .ok (.iconst 0, 1) := by decide +kernel
theorem dX8_after_3 : decode cX8_after 3 = .ok (.istore 5, 2) := by decide +kernel
theorem dX8_after_5 : decode cX8_after 5 = .ok (.iload 5, 2) := by decide +kernel
theorem dX8_after_7 : decode cX8_after 7 = .ok (.aload_n 0, 1) := by decide +kernel
theorem dX8_after_8 : decode cX8_after 8 = .ok (.getfield 194, 3) := by decide +kernel
theorem dX8_after_11 : decode cX8_after 11 = .ok (.if_icmp .ge 29, 3) := by decide +kernel
theorem dX8_after_14 : decode cX8_after 14 = .ok (.aload_n 0, 1) := by decide +kernel
theorem dX8_after_15 : decode cX8_after 15 = .ok (.getfield 102, 3) := by decide +kernel
theorem dX8_after_18 : decode cX8_after 18 = .ok (.iload 5, 2) := by decide +kernel
theorem dX8_after_20 : decode cX8_after 20 = .ok (.laload, 1) := by decide +kernel
theorem dX8_after_21 : decode cX8_after 21 = .ok (.lload_n 1, 1) := by decide +kernel
theorem dX8_after_22 : decode cX8_after 22 = .ok (.lcmp, 1) := by decide +kernel
theorem dX8_after_23 : decode cX8_after 23 = .ok (.ifCond .gt 11, 3) := by decide +kernel
theorem dX8_after_26 : decode cX8_after 26 = .ok (.aload_n 0, 1) := by decide +kernel
theorem dX8_after_27 : decode cX8_after 27 = .ok (.getfield 105, 3) := by decide +kernel
theorem dX8_after_30 : decode cX8_after 30 = .ok (.iload 5, 2) := by decide +kernel
theorem dX8_after_32 : decode cX8_after 32 = .ok (.laload, 1) := by decide +kernel
theorem dX8_after_33 : decode cX8_after 33 = .ok (.lstore_n 3, 1) := by decide +kernel
theorem dX8_after_34 : decode cX8_after 34 = .ok (.iinc 5 1, 3) := by decide +kernel
theorem dX8_after_37 : decode cX8_after 37 = .ok (.goto (-32), 3) := by decide +kernel
theorem dX8_after_40 : decode cX8_after 40 = .ok (.lload_n 1, 1) := by decide +kernel
theorem dX8_after_41 : decode cX8_after 41 = .ok (.lload_n 3, 1) := by decide +kernel
theorem dX8_after_42 : decode cX8_after 42 = .ok (.ladd, 1) := by decide +kernel
theorem dX8_after_43 : decode cX8_after 43 = .ok (.lreturn, 1) := by decide +kernel
def bl_X8_after_34_5 (K : Option Nat → Int64 → Int64 → Int32 → ym_H → Option ((Int64) × ym_H)) (N : Nat) (w0 : Option Nat) (w1 : Int64) (w3 : Int64) (w5 : Int32) (h : ym_H) : Option ((Int64) × ym_H) :=
  K w0 w1 w3 (w5 + 1) h
set_option maxRecDepth 20000 in
set_option maxHeartbeats 4000000 in
theorem ob_X8_after_34_5 {D : ym_D} {b0 : Nat} {K : Option Nat → Int64 → Int64 → Int32 → ym_H → Option ((Int64) × ym_H)} {N : Nat} {w0 : Option Nat} {w1 : Int64} {w3 : Int64} {w5 : Int32} {h h1 : ym_H} {x : (Int64)} (hKl : ∀ (u0 : Option Nat) (u3 : Int64) (u5 : Int32) (h h1 : ym_H) (x : (Int64)), K u0 w1 u3 u5 h = some (x, h1) → ∀ {r0 : Option Value} {h' : ym_H}, ym_Y D b0 g_X8_after 1 40 [(1, .long w1), (3, .long x)] [] h1 r0 h' → ym_Y D b0 g_X8_after 1 5 [(0, va_rf u0), (1, .long w1), (3, .long u3), (5, .int u5)] [] h r0 h') (hf : bl_X8_after_34_5 K N w0 w1 w3 w5 h = some (x, h1)) {r0 : Option Value} {h' : ym_H} (k : ym_Y D b0 g_X8_after 1 40 [(1, .long w1), (3, .long x)] [] h1 r0 h') : ym_Y D b0 g_X8_after 1 34 [(0, va_rf w0), (1, .long w1), (3, .long w3), (5, .int w5)] [] h r0 h' := by
  unfold bl_X8_after_34_5 at hf
  refine ym_iinc (pc := 34) (lv' := [(5, .int (w5 + 1)), (0, va_rf w0), (1, .long w1), (3, .long w3)]) (v := (w5 + 1)) 3 dX8_after_34 rfl (by rw [show Int32.ofInt 1 = 1 by decide]) (by decide) ⟨trivial, trivial, trivial, trivial, trivial⟩ rfl ?_
  refine ym_goto (pc := 37) (tgt := 5) dX8_after_37 (by decide) ?_
  exact ym_sub [1, 2, 3, 0] rfl (hKl _ _ _ _ _ _ hf k)
def lb_X8_after_5 (K : Option Nat → Int64 → Int64 → Int32 → ym_H → Option ((Int64) × ym_H)) (N : Nat) (w0 : Option Nat) (w1 : Int64) (w3 : Int64) (w5 : Int32) (h : ym_H) : Option ((Int64) × ym_H) :=
  Option.bind (ym_gI h w0 8 33) fun v8 =>
  if v8 ≤ w5 then
    some (w3, h)
  else
    Option.bind (ym_gR h w0 8 34) fun v15 =>
    Option.bind (ym_ldL h v15 w5) fun v20 =>
    if w1 < v20 then
      bl_X8_after_34_5 K N w0 w1 w3 w5 h
    else
      Option.bind (ym_gR h w0 8 35) fun v27 =>
      Option.bind (ym_ldL h v27 w5) fun v32 =>
      bl_X8_after_34_5 K N w0 w1 v32 w5 h
set_option maxRecDepth 20000 in
set_option maxHeartbeats 4000000 in
theorem ol_X8_after_5 {D : ym_D} {b0 : Nat} {K : Option Nat → Int64 → Int64 → Int32 → ym_H → Option ((Int64) × ym_H)} {N : Nat} {w0 : Option Nat} {w1 : Int64} {w3 : Int64} {w5 : Int32} {h h1 : ym_H} {x : (Int64)} (hKl : ∀ (u0 : Option Nat) (u3 : Int64) (u5 : Int32) (h h1 : ym_H) (x : (Int64)), K u0 w1 u3 u5 h = some (x, h1) → ∀ {r0 : Option Value} {h' : ym_H}, ym_Y D b0 g_X8_after 1 40 [(1, .long w1), (3, .long x)] [] h1 r0 h' → ym_Y D b0 g_X8_after 1 5 [(0, va_rf u0), (1, .long w1), (3, .long u3), (5, .int u5)] [] h r0 h') (hf : lb_X8_after_5 K N w0 w1 w3 w5 h = some (x, h1)) {r0 : Option Value} {h' : ym_H} (k : ym_Y D b0 g_X8_after 1 40 [(1, .long w1), (3, .long x)] [] h1 r0 h') : ym_Y D b0 g_X8_after 1 5 [(0, va_rf w0), (1, .long w1), (3, .long w3), (5, .int w5)] [] h r0 h' := by
  unfold lb_X8_after_5 at hf
  refine ym_iload (pc := 5) 3 dX8_after_5 rfl ?_
  refine ym_aload_n (pc := 7) 0 dX8_after_7 rfl rfl ?_
  obtain ⟨v8, e8, hf⟩ := Option.bind_eq_some_iff.mp hf
  refine ym_get (pc := 8) dX8_after_8 rfl (by decide) iX8 (k := 33) (by decide) wd_878 (ym_gI_v e8) ?_
  by_cases c11 : v8 ≤ w5
  · rw [if_pos c11] at hf
    refine ym_icmp_ge_y (pc := 11) (tgt := 40) dX8_after_11 (by decide) c11 ?_
    cases hf
    exact ym_sub [1, 2] rfl k
  · rw [if_neg c11] at hf
    refine ym_icmp_ge_n (pc := 11) (tgt := 40) dX8_after_11 (by decide) c11 ?_
    refine ym_aload_n (pc := 14) 0 dX8_after_14 rfl rfl ?_
    obtain ⟨v15, e15, hf⟩ := Option.bind_eq_some_iff.mp hf
    refine ym_get (pc := 15) dX8_after_15 rfl (by decide) iX8 (k := 34) (by decide) wd_879 (ym_gR_v e15) ?_
    refine ym_iload (pc := 18) 3 dX8_after_18 rfl ?_
    obtain ⟨v20, e20, hf⟩ := Option.bind_eq_some_iff.mp hf
    refine ym_lald (pc := 20) dX8_after_20 rfl (ym_ldL_v e20) ?_
    refine ym_lload_n (pc := 21) 1 dX8_after_21 rfl rfl ?_
    by_cases c22 : w1 < v20
    · rw [if_pos c22] at hf
      refine ym_lcmp_gt_y (pc := 22) (tgt := 34) dX8_after_22 dX8_after_23 (by decide) c22 ?_
      exact ym_sub [0, 1, 2, 3] rfl (ob_X8_after_34_5 hKl hf k)
    · rw [if_neg c22] at hf
      refine ym_lcmp_gt_n (pc := 22) (tgt := 34) dX8_after_22 dX8_after_23 (by decide) c22 ?_
      refine ym_aload_n (pc := 26) 0 dX8_after_26 rfl rfl ?_
      obtain ⟨v27, e27, hf⟩ := Option.bind_eq_some_iff.mp hf
      refine ym_get (pc := 27) dX8_after_27 rfl (by decide) iX8 (k := 35) (by decide) wd_880 (ym_gR_v e27) ?_
      refine ym_iload (pc := 30) 3 dX8_after_30 rfl ?_
      obtain ⟨v32, e32, hf⟩ := Option.bind_eq_some_iff.mp hf
      refine ym_lald (pc := 32) dX8_after_32 rfl (ym_ldL_v e32) ?_
      refine ym_lstore_n (pc := 33) (lv' := [(3, .long v32), (0, va_rf w0), (1, .long w1), (5, .int w5)]) dX8_after_33 rfl (by decide) ⟨trivial, trivial, trivial, trivial, trivial⟩ rfl ?_
      exact ym_sub [1, 2, 0, 3] rfl (ob_X8_after_34_5 hKl hf k)
def lp_X8_after_5 (N : Nat) : Nat → Option Nat → Int64 → Int64 → Int32 → ym_H → Option ((Int64) × ym_H)
  | 0, _, _, _, _, _ => none
  | n + 1, w0, w1, w3, w5, h => lb_X8_after_5 (lp_X8_after_5 N n) N w0 w1 w3 w5 h
set_option maxRecDepth 20000 in
set_option maxHeartbeats 4000000 in
theorem ok_lp_X8_after_5 {D : ym_D} {b0 : Nat} {N : Nat} {w1 : Int64} : ∀ (n : Nat) (w0 : Option Nat) (w3 : Int64) (w5 : Int32) (h h1 : ym_H) (x : (Int64)), lp_X8_after_5 N n w0 w1 w3 w5 h = some (x, h1) → ∀ {r0 : Option Value} {h' : ym_H}, ym_Y D b0 g_X8_after 1 40 [(1, .long w1), (3, .long x)] [] h1 r0 h' → ym_Y D b0 g_X8_after 1 5 [(0, va_rf w0), (1, .long w1), (3, .long w3), (5, .int w5)] [] h r0 h' := by
  intro n
  induction n with
  | zero =>
    intro w0 w3 w5 h h1 x hf
    cases hf
  | succ n ih =>
    intro w0 w3 w5 h h1 x hf r0 h' k
    exact ol_X8_after_5 (fun w0 w3 w5 h h1 x z r0 h' k => ih w0 w3 w5 h h1 x z k) hf k
def fn_X8_after (N : Nat) (a0 : Option Nat) (a1 : Int64) (h : ym_H) : Option (Int64 × ym_H) :=
  Option.bind (lp_X8_after_5 N N a0 a1 1 0 h) fun q5 =>
  some ((a1 + q5.1), q5.2)
set_option maxRecDepth 20000 in
set_option maxHeartbeats 4000000 in
theorem ok_X8_after {D : ym_D} {b0 : Nat} {N : Nat} {a0 : Option Nat} {a1 : Int64} {h h' : ym_H} {r : Int64} (hf : fn_X8_after N a0 a1 h = some (r, h')) : ym_M D b0 g_X8_after 1 [va_rf a0, .long a1] h (some (.long r)) h' := by
  unfold fn_X8_after at hf
  refine ym_meth (lv := [(0, va_rf a0), (1, .long a1)]) (by decide) (by simp [lg_sl, ym_c1, ym_cI, ym_cL, g_X8_after]) (by simp [lv_args, ym_c1, ym_cI, ym_cL]) ?_
  refine ym_lconst (pc := 0) (v := 1) dX8_after_0 (by decide) ?_
  refine ym_lstore_n (pc := 1) (lv' := [(3, .long 1), (0, va_rf a0), (1, .long a1)]) dX8_after_1 rfl (by decide) ⟨trivial, trivial, trivial⟩ rfl ?_
  refine ym_iconst (pc := 2) (v := 0) dX8_after_2 (by decide) ?_
  refine ym_istore (pc := 3) (lv' := [(5, .int 0), (3, .long 1), (0, va_rf a0), (1, .long a1)]) dX8_after_3 (by decide) ⟨trivial, trivial, trivial, trivial⟩ rfl ?_
  obtain ⟨q5, e5, hf⟩ := Option.bind_eq_some_iff.mp hf
  refine ym_sub (lv' := [(0, va_rf a0), (1, .long a1), (3, .long 1), (5, .int 0)]) [2, 3, 1, 0] rfl ?_
  refine ok_lp_X8_after_5 N _ _ _ _ _ _ e5 ?_
  refine ym_lload_n (pc := 40) 0 dX8_after_40 rfl rfl ?_
  refine ym_lload_n (pc := 41) 1 dX8_after_41 rfl rfl ?_
  refine ym_ladd (pc := 42) dX8_after_42 ?_
  cases hf
  exact ym_lret (pc := 43) dX8_after_43 rfl
theorem dX8_standing_0 : decode cX8_standing 0 = .ok (.aload_n 0, 1) := by decide +kernel
theorem dX8_standing_1 : decode cX8_standing 1 = .ok (.getfield 20, 3) := by decide +kernel
theorem dX8_standing_4 : decode cX8_standing 4 = .ok (.iload_n 1, 1) := by decide +kernel
theorem dX8_standing_5 : decode cX8_standing 5 = .ok (.iaload, 1) := by decide +kernel
theorem dX8_standing_6 : decode cX8_standing 6 = .ok (.iconst 4, 1) := by decide +kernel
theorem dX8_standing_7 : decode cX8_standing 7 = .ok (.if_icmp .ne 23, 3) := by decide +kernel
theorem dX8_standing_10 : decode cX8_standing 10 = .ok (.aload_n 0, 1) := by decide +kernel
theorem dX8_standing_11 : decode cX8_standing 11 = .ok (.getfield 77, 3) := by decide +kernel
theorem dX8_standing_14 : decode cX8_standing 14 = .ok (.iload_n 1, 1) := by decide +kernel
theorem dX8_standing_15 : decode cX8_standing 15 = .ok (.baload, 1) := by decide +kernel
theorem dX8_standing_16 : decode cX8_standing 16 = .ok (.ifCond .eq 12, 3) := by decide +kernel
theorem dX8_standing_19 : decode cX8_standing 19 = .ok (.aload_n 0, 1) := by decide +kernel
theorem dX8_standing_20 : decode cX8_standing 20 = .ok (.getfield 81, 3) := by decide +kernel
theorem dX8_standing_23 : decode cX8_standing 23 = .ok (.iload_n 1, 1) := by decide +kernel
theorem dX8_standing_24 : decode cX8_standing 24 = .ok (.iaload, 1) := by decide +kernel
theorem dX8_standing_25 : decode cX8_standing 25 = .ok (.goto 4, 3) := by decide +kernel
theorem dX8_standing_28 : decode cX8_standing 28 = .ok (.iconst (-1), 1) := by decide +kernel
theorem dX8_standing_29 : decode cX8_standing 29 = .ok (.ireturn, 1) := by decide +kernel
theorem dX8_standing_30 : decode cX8_standing 30 = .ok (.aload_n 0, 1) := by decide +kernel
theorem dX8_standing_31 : decode cX8_standing 31 = .ok (.getfield 44, 3) := by decide +kernel
theorem dX8_standing_34 : decode cX8_standing 34 = .ok (.iload_n 1, 1) := by decide +kernel
theorem dX8_standing_35 : decode cX8_standing 35 = .ok (.iaload, 1) := by decide +kernel
theorem dX8_standing_36 : decode cX8_standing 36 = .ok (.ifCond .gt 7, 3) := by decide +kernel
theorem dX8_standing_39 : decode cX8_standing 39 = .ok (.iconst (-1), 1) := by decide +kernel
theorem dX8_standing_40 : decode cX8_standing 40 = .ok (.goto 14, 3) := by decide +kernel
theorem dX8_standing_43 : decode cX8_standing 43 = .ok (.aload_n 0, 1) := by decide +kernel
theorem dX8_standing_44 : decode cX8_standing 44 = .ok (.getfield 50, 3) := by decide +kernel
theorem dX8_standing_47 : decode cX8_standing 47 = .ok (.aload_n 0, 1) := by decide +kernel
theorem dX8_standing_48 : decode cX8_standing 48 = .ok (.getfield 47, 3) := by decide +kernel
theorem dX8_standing_51 : decode cX8_standing 51 = .ok (.iload_n 1, 1) := by decide +kernel
theorem dX8_standing_52 : decode cX8_standing 52 = .ok (.iaload, 1) := by decide +kernel
theorem dX8_standing_53 : decode cX8_standing 53 = .ok (.iaload, 1) := by decide +kernel
theorem dX8_standing_54 : decode cX8_standing 54 = .ok (.ireturn, 1) := by decide +kernel
def fn_X8_standing (N : Nat) (a0 : Option Nat) (a1 : Int32) (h : ym_H) : Option (Int32 × ym_H) :=
  Option.bind (ym_gR h a0 8 5) fun v1 =>
  Option.bind (ym_ldI h v1 a1) fun v5 =>
  if v5 = 4 then
    Option.bind (ym_gR h a0 8 25) fun v11 =>
    Option.bind (ym_ldZ h v11 a1) fun v15 =>
    if v15 = 0 then
      some ((-1), h)
    else
      Option.bind (ym_gR h a0 8 26) fun v20 =>
      Option.bind (ym_ldI h v20 a1) fun v24 =>
      some (v24, h)
  else
    Option.bind (ym_gR h a0 8 13) fun v31 =>
    Option.bind (ym_ldI h v31 a1) fun v35 =>
    if 0 < v35 then
      Option.bind (ym_gR h a0 8 16) fun v44 =>
      Option.bind (ym_gR h a0 8 14) fun v48 =>
      Option.bind (ym_ldI h v48 a1) fun v52 =>
      Option.bind (ym_ldI h v44 v52) fun v53 =>
      some (v53, h)
    else
      some ((-1), h)
set_option maxRecDepth 20000 in
set_option maxHeartbeats 4000000 in
theorem ok_X8_standing {D : ym_D} {b0 : Nat} {N : Nat} {a0 : Option Nat} {a1 : Int32} {h h' : ym_H} {r : Int32} (hf : fn_X8_standing N a0 a1 h = some (r, h')) : ym_M D b0 g_X8_standing 1 [va_rf a0, .int a1] h (some (.int r)) h' := by
  unfold fn_X8_standing at hf
  refine ym_meth (lv := [(0, va_rf a0), (1, .int a1)]) (by decide) (by simp [lg_sl, ym_c1, ym_cI, ym_cL, g_X8_standing]) (by simp [lv_args, ym_c1, ym_cI, ym_cL]) ?_
  refine ym_aload_n (pc := 0) 0 dX8_standing_0 rfl rfl ?_
  obtain ⟨v1, e1, hf⟩ := Option.bind_eq_some_iff.mp hf
  refine ym_get (pc := 1) dX8_standing_1 rfl (by decide) iX8 (k := 5) (by decide) wd_850 (ym_gR_v e1) ?_
  refine ym_iload_n (pc := 4) 1 dX8_standing_4 rfl rfl ?_
  obtain ⟨v5, e5, hf⟩ := Option.bind_eq_some_iff.mp hf
  refine ym_iald (pc := 5) dX8_standing_5 rfl (ym_ldI_v e5) ?_
  refine ym_iconst (pc := 6) (v := 4) dX8_standing_6 (by decide) ?_
  by_cases c7 : v5 = 4
  · rw [if_pos c7] at hf
    refine ym_icmp_ne_y (pc := 7) (tgt := 30) dX8_standing_7 (by decide) c7 ?_
    refine ym_aload_n (pc := 10) 0 dX8_standing_10 rfl rfl ?_
    obtain ⟨v11, e11, hf⟩ := Option.bind_eq_some_iff.mp hf
    refine ym_get (pc := 11) dX8_standing_11 rfl (by decide) iX8 (k := 25) (by decide) wd_870 (ym_gR_v e11) ?_
    refine ym_iload_n (pc := 14) 1 dX8_standing_14 rfl rfl ?_
    obtain ⟨v15, e15, hf⟩ := Option.bind_eq_some_iff.mp hf
    refine ym_zald (pc := 15) dX8_standing_15 rfl (ym_ldZ_v e15) ?_
    by_cases c16 : v15 = 0
    · rw [if_pos c16] at hf
      refine ym_if_eq_y (pc := 16) (tgt := 28) dX8_standing_16 (by decide) c16 ?_
      refine ym_iconst (pc := 28) (v := (-1)) dX8_standing_28 (by decide) ?_
      cases hf
      exact ym_iret (pc := 29) dX8_standing_29 rfl
    · rw [if_neg c16] at hf
      refine ym_if_eq_n (pc := 16) (tgt := 28) dX8_standing_16 (by decide) c16 ?_
      refine ym_aload_n (pc := 19) 0 dX8_standing_19 rfl rfl ?_
      obtain ⟨v20, e20, hf⟩ := Option.bind_eq_some_iff.mp hf
      refine ym_get (pc := 20) dX8_standing_20 rfl (by decide) iX8 (k := 26) (by decide) wd_871 (ym_gR_v e20) ?_
      refine ym_iload_n (pc := 23) 1 dX8_standing_23 rfl rfl ?_
      obtain ⟨v24, e24, hf⟩ := Option.bind_eq_some_iff.mp hf
      refine ym_iald (pc := 24) dX8_standing_24 rfl (ym_ldI_v e24) ?_
      refine ym_goto (pc := 25) (tgt := 29) dX8_standing_25 (by decide) ?_
      cases hf
      exact ym_iret (pc := 29) dX8_standing_29 rfl
  · rw [if_neg c7] at hf
    refine ym_icmp_ne_n (pc := 7) (tgt := 30) dX8_standing_7 (by decide) c7 ?_
    refine ym_aload_n (pc := 30) 0 dX8_standing_30 rfl rfl ?_
    obtain ⟨v31, e31, hf⟩ := Option.bind_eq_some_iff.mp hf
    refine ym_get (pc := 31) dX8_standing_31 rfl (by decide) iX8 (k := 13) (by decide) wd_858 (ym_gR_v e31) ?_
    refine ym_iload_n (pc := 34) 1 dX8_standing_34 rfl rfl ?_
    obtain ⟨v35, e35, hf⟩ := Option.bind_eq_some_iff.mp hf
    refine ym_iald (pc := 35) dX8_standing_35 rfl (ym_ldI_v e35) ?_
    by_cases c36 : 0 < v35
    · rw [if_pos c36] at hf
      refine ym_if_gt_y (pc := 36) (tgt := 43) dX8_standing_36 (by decide) c36 ?_
      refine ym_aload_n (pc := 43) 0 dX8_standing_43 rfl rfl ?_
      obtain ⟨v44, e44, hf⟩ := Option.bind_eq_some_iff.mp hf
      refine ym_get (pc := 44) dX8_standing_44 rfl (by decide) iX8 (k := 16) (by decide) wd_861 (ym_gR_v e44) ?_
      refine ym_aload_n (pc := 47) 0 dX8_standing_47 rfl rfl ?_
      obtain ⟨v48, e48, hf⟩ := Option.bind_eq_some_iff.mp hf
      refine ym_get (pc := 48) dX8_standing_48 rfl (by decide) iX8 (k := 14) (by decide) wd_859 (ym_gR_v e48) ?_
      refine ym_iload_n (pc := 51) 1 dX8_standing_51 rfl rfl ?_
      obtain ⟨v52, e52, hf⟩ := Option.bind_eq_some_iff.mp hf
      refine ym_iald (pc := 52) dX8_standing_52 rfl (ym_ldI_v e52) ?_
      obtain ⟨v53, e53, hf⟩ := Option.bind_eq_some_iff.mp hf
      refine ym_iald (pc := 53) dX8_standing_53 rfl (ym_ldI_v e53) ?_
      cases hf
      exact ym_iret (pc := 54) dX8_standing_54 rfl
    · rw [if_neg c36] at hf
      refine ym_if_gt_n (pc := 36) (tgt := 43) dX8_standing_36 (by decide) c36 ?_
      refine ym_iconst (pc := 39) (v := (-1)) dX8_standing_39 (by decide) ?_
      refine ym_goto (pc := 40) (tgt := 54) dX8_standing_40 (by decide) ?_
      cases hf
      exact ym_iret (pc := 54) dX8_standing_54 rfl
theorem dX8_standingSum_0 : decode cX8_standingSum 0 = .ok (.aload_n 0, 1) := by decide +kernel
theorem dX8_standingSum_1 : decode cX8_standingSum 1 = .ok (.iload_n 1, 1) := by decide +kernel
theorem dX8_standingSum_2 : decode cX8_standingSum 2 = .ok (.invokevirtual 298, 3) := by decide +kernel
theorem dX8_standingSum_5 : decode cX8_standingSum 5 = .ok (.ifCond .ge 5, 3) := by decide +kernel
theorem dX8_standingSum_8 : decode cX8_standingSum 8 = .ok (.lconst 0, 1) := by decide +kernel
theorem dX8_standingSum_9 : decode cX8_standingSum 9 = .ok (.lreturn, 1) := by decide +kernel
theorem dX8_standingSum_10 : decode cX8_standingSum 10 = .ok (.aload_n 0, 1) := by decide +kernel
theorem dX8_standingSum_11 : decode cX8_standingSum 11 = .ok (.getfield 20, 3) := by decide +kernel
theorem dX8_standingSum_14 : decode cX8_standingSum 14 = .ok (.iload_n 1, 1) := by decide +kernel
theorem dX8_standingSum_15 : decode cX8_standingSum 15 = .ok (.iaload, 1) := by decide +kernel
theorem dX8_standingSum_16 : decode cX8_standingSum 16 = .ok (.iconst 4, 1) := by decide +kernel
theorem dX8_standingSum_17 : decode cX8_standingSum 17 = .ok (.if_icmp .ne 12, 3) := by decide +kernel
theorem dX8_standingSum_20 : decode cX8_standingSum 20 = .ok (.aload_n 0, 1) := by decide +kernel
theorem dX8_standingSum_21 : decode cX8_standingSum 21 = .ok (.getfield 84, 3) := by decide +kernel
theorem dX8_standingSum_24 : decode cX8_standingSum 24 = .ok (.iload_n 1, 1) := by decide +kernel
theorem dX8_standingSum_25 : decode cX8_standingSum 25 = .ok (.laload, 1) := by decide +kernel
theorem dX8_standingSum_26 : decode cX8_standingSum 26 = .ok (.goto 14, 3) := by decide +kernel
theorem dX8_standingSum_29 : decode cX8_standingSum 29 = .ok (.aload_n 0, 1) := by decide +kernel
theorem dX8_standingSum_30 : decode cX8_standingSum 30 = .ok (.getfield 53, 3) := by decide +kernel
theorem dX8_standingSum_33 : decode cX8_standingSum 33 = .ok (.aload_n 0, 1) := by decide +kernel
theorem dX8_standingSum_34 : decode cX8_standingSum 34 = .ok (.getfield 47, 3) := by decide +kernel
theorem dX8_standingSum_37 : decode cX8_standingSum 37 = .ok (.iload_n 1, 1) := by decide +kernel
theorem dX8_standingSum_38 : decode cX8_standingSum 38 = .ok (.iaload, 1) := by decide +kernel
theorem dX8_standingSum_39 : decode cX8_standingSum 39 = .ok (.laload, 1) := by decide +kernel
theorem dX8_standingSum_40 : decode cX8_standingSum 40 = .ok (.lreturn, 1) := by decide +kernel
theorem sc_X8_standingSum_X8_standing : ym_site g_X8_standingSum g_X8_standing 2 1 1 := ⟨by decide, by decide, wd_1107, wd_83, by decide +kernel⟩
def fn_X8_standingSum (N : Nat) (a0 : Option Nat) (a1 : Int32) (h : ym_H) : Option (Int64 × ym_H) :=
  Option.bind (ym_ob h a0 8) fun o2 =>
  Option.bind (fn_X8_standing N a0 a1 h) fun q2 =>
  if 0 ≤ q2.1 then
    Option.bind (ym_gR q2.2 a0 8 5) fun v11 =>
    Option.bind (ym_ldI q2.2 v11 a1) fun v15 =>
    if v15 = 4 then
      Option.bind (ym_gR q2.2 a0 8 27) fun v21 =>
      Option.bind (ym_ldL q2.2 v21 a1) fun v25 =>
      some (v25, q2.2)
    else
      Option.bind (ym_gR q2.2 a0 8 17) fun v30 =>
      Option.bind (ym_gR q2.2 a0 8 14) fun v34 =>
      Option.bind (ym_ldI q2.2 v34 a1) fun v38 =>
      Option.bind (ym_ldL q2.2 v30 v38) fun v39 =>
      some (v39, q2.2)
  else
    some (0, q2.2)
set_option maxRecDepth 20000 in
set_option maxHeartbeats 4000000 in
theorem ok_X8_standingSum {D : ym_D} {b0 : Nat} {N : Nat} {a0 : Option Nat} {a1 : Int32} {h h' : ym_H} {r : Int64} (hf : fn_X8_standingSum N a0 a1 h = some (r, h')) : ym_M D b0 g_X8_standingSum 2 [va_rf a0, .int a1] h (some (.long r)) h' := by
  unfold fn_X8_standingSum at hf
  refine ym_meth (lv := [(0, va_rf a0), (1, .int a1)]) (by decide) (by simp [lg_sl, ym_c1, ym_cI, ym_cL, g_X8_standingSum]) (by simp [lv_args, ym_c1, ym_cI, ym_cL]) ?_
  refine ym_aload_n (pc := 0) 0 dX8_standingSum_0 rfl rfl ?_
  refine ym_iload_n (pc := 1) 1 dX8_standingSum_1 rfl rfl ?_
  obtain ⟨o2, f2, hf⟩ := Option.bind_eq_some_iff.mp hf
  obtain ⟨q2, e2, hf⟩ := Option.bind_eq_some_iff.mp hf
  refine ym_callV (pc := 2) (G2 := g_X8_standing) (dep2 := 1) (As := [.int a1]) (st := []) (stk2 := [.int q2.1]) (r2 := (some (.int q2.1))) (h1 := q2.2) dX8_standingSum_2 (ok_X8_standing e2) (sc_X8_standingSum_X8_standing) wd_1104 wd_1106 wd_37 (ci := 8) (q0 := (RX8, TX8, 58)) rfl (by decide) rfl f2 rfl rfl (ym_st4 (Nat.le_of_ble_eq_true rfl)) rfl ?_
  by_cases c5 : 0 ≤ q2.1
  · rw [if_pos c5] at hf
    refine ym_if_ge_y (pc := 5) (tgt := 10) dX8_standingSum_5 (by decide) c5 ?_
    refine ym_aload_n (pc := 10) 0 dX8_standingSum_10 rfl rfl ?_
    obtain ⟨v11, e11, hf⟩ := Option.bind_eq_some_iff.mp hf
    refine ym_get (pc := 11) dX8_standingSum_11 rfl (by decide) iX8 (k := 5) (by decide) wd_850 (ym_gR_v e11) ?_
    refine ym_iload_n (pc := 14) 1 dX8_standingSum_14 rfl rfl ?_
    obtain ⟨v15, e15, hf⟩ := Option.bind_eq_some_iff.mp hf
    refine ym_iald (pc := 15) dX8_standingSum_15 rfl (ym_ldI_v e15) ?_
    refine ym_iconst (pc := 16) (v := 4) dX8_standingSum_16 (by decide) ?_
    by_cases c17 : v15 = 4
    · rw [if_pos c17] at hf
      refine ym_icmp_ne_y (pc := 17) (tgt := 29) dX8_standingSum_17 (by decide) c17 ?_
      refine ym_aload_n (pc := 20) 0 dX8_standingSum_20 rfl rfl ?_
      obtain ⟨v21, e21, hf⟩ := Option.bind_eq_some_iff.mp hf
      refine ym_get (pc := 21) dX8_standingSum_21 rfl (by decide) iX8 (k := 27) (by decide) wd_872 (ym_gR_v e21) ?_
      refine ym_iload_n (pc := 24) 1 dX8_standingSum_24 rfl rfl ?_
      obtain ⟨v25, e25, hf⟩ := Option.bind_eq_some_iff.mp hf
      refine ym_lald (pc := 25) dX8_standingSum_25 rfl (ym_ldL_v e25) ?_
      refine ym_goto (pc := 26) (tgt := 40) dX8_standingSum_26 (by decide) ?_
      cases hf
      exact ym_lret (pc := 40) dX8_standingSum_40 rfl
    · rw [if_neg c17] at hf
      refine ym_icmp_ne_n (pc := 17) (tgt := 29) dX8_standingSum_17 (by decide) c17 ?_
      refine ym_aload_n (pc := 29) 0 dX8_standingSum_29 rfl rfl ?_
      obtain ⟨v30, e30, hf⟩ := Option.bind_eq_some_iff.mp hf
      refine ym_get (pc := 30) dX8_standingSum_30 rfl (by decide) iX8 (k := 17) (by decide) wd_862 (ym_gR_v e30) ?_
      refine ym_aload_n (pc := 33) 0 dX8_standingSum_33 rfl rfl ?_
      obtain ⟨v34, e34, hf⟩ := Option.bind_eq_some_iff.mp hf
      refine ym_get (pc := 34) dX8_standingSum_34 rfl (by decide) iX8 (k := 14) (by decide) wd_859 (ym_gR_v e34) ?_
      refine ym_iload_n (pc := 37) 1 dX8_standingSum_37 rfl rfl ?_
      obtain ⟨v38, e38, hf⟩ := Option.bind_eq_some_iff.mp hf
      refine ym_iald (pc := 38) dX8_standingSum_38 rfl (ym_ldI_v e38) ?_
      obtain ⟨v39, e39, hf⟩ := Option.bind_eq_some_iff.mp hf
      refine ym_lald (pc := 39) dX8_standingSum_39 rfl (ym_ldL_v e39) ?_
      cases hf
      exact ym_lret (pc := 40) dX8_standingSum_40 rfl
  · rw [if_neg c5] at hf
    refine ym_if_ge_n (pc := 5) (tgt := 10) dX8_standingSum_5 (by decide) c5 ?_
    refine ym_lconst (pc := 8) (v := 0) dX8_standingSum_8 (by decide) ?_
    cases hf
    exact ym_lret (pc := 9) dX8_standingSum_9 rfl
theorem dX8_longer_0 : decode cX8_longer 0 = .ok (.iconst 2, 1) := by decide +kernel
theorem dX8_longer_1 : decode cX8_longer 1 = .ok (.aload_n 0, 1) := by decide +kernel
theorem dX8_longer_2 : decode cX8_longer 2 = .ok (.arraylength, 1) := by decide +kernel
theorem dX8_longer_3 : decode cX8_longer 3 = .ok (.imul, 1) := by decide +kernel
theorem dX8_longer_4 : decode cX8_longer 4 = .ok (.newarray .int, 2) := by decide +kernel
theorem dX8_longer_6 : decode cX8_longer 6 = .ok (.astore_n 1, 1) := by decide +kernel
theorem dX8_longer_7 : decode cX8_longer 7 = .ok (.iconst 0, 1) := by decide +kernel
theorem dX8_longer_8 : decode cX8_longer 8 = .ok (.istore_n 2, 1) := by decide +kernel
theorem dX8_longer_9 : decode cX8_longer 9 = .ok (.iload_n 2, 1) := by decide +kernel
theorem dX8_longer_10 : decode cX8_longer 10 = .ok (.aload_n 0, 1) := by decide +kernel
theorem dX8_longer_11 : decode cX8_longer 11 = .ok (.arraylength, 1) := by decide +kernel
theorem dX8_longer_12 : decode cX8_longer 12 = .ok (.if_icmp .ge 15, 3) := by decide +kernel
theorem dX8_longer_15 : decode cX8_longer 15 = .ok (.aload_n 1, 1) := by decide +kernel
theorem dX8_longer_16 : decode cX8_longer 16 = .ok (.iload_n 2, 1) := by decide +kernel
theorem dX8_longer_17 : decode cX8_longer 17 = .ok (.aload_n 0, 1) := by decide +kernel
theorem dX8_longer_18 : decode cX8_longer 18 = .ok (.iload_n 2, 1) := by decide +kernel
theorem dX8_longer_19 : decode cX8_longer 19 = .ok (.iaload, 1) := by decide +kernel
theorem dX8_longer_20 : decode cX8_longer 20 = .ok (.iastore, 1) := by decide +kernel
theorem dX8_longer_21 : decode cX8_longer 21 = .ok (.iinc 2 1, 3) := by decide +kernel
theorem dX8_longer_24 : decode cX8_longer 24 = .ok (.goto (-15), 3) := by decide +kernel
theorem dX8_longer_27 : decode cX8_longer 27 = .ok (.aload_n 1, 1) := by decide +kernel
theorem dX8_longer_28 : decode cX8_longer 28 = .ok (.areturn, 1) := by decide +kernel
def lb_X8_longer_9 (K : Option Nat → Option Nat → Int32 → ym_H → Option ((Unit) × ym_H)) (N : Nat) (w0 : Option Nat) (w1 : Option Nat) (w2 : Int32) (h : ym_H) : Option ((Unit) × ym_H) :=
  Option.bind (ym_len h w0) fun v11 =>
  if v11 ≤ w2 then
    some ((), h)
  else
    Option.bind (ym_ldI h w0 w2) fun v19 =>
    Option.bind (ym_as h w1 0 w2 (.int v19)) fun h20 =>
    K w0 w1 (w2 + 1) h20
set_option maxRecDepth 20000 in
set_option maxHeartbeats 4000000 in
theorem ol_X8_longer_9 {D : ym_D} {b0 : Nat} {K : Option Nat → Option Nat → Int32 → ym_H → Option ((Unit) × ym_H)} {N : Nat} {w0 : Option Nat} {w1 : Option Nat} {w2 : Int32} {h h1 : ym_H} {x : (Unit)} (hKl : ∀ (u0 : Option Nat) (u2 : Int32) (h h1 : ym_H) (x : (Unit)), K u0 w1 u2 h = some (x, h1) → ∀ {r0 : Option Value} {h' : ym_H}, ym_Y D b0 g_X8_longer 1 27 [(1, va_rf w1)] [] h1 r0 h' → ym_Y D b0 g_X8_longer 1 9 [(0, va_rf u0), (1, va_rf w1), (2, .int u2)] [] h r0 h') (hf : lb_X8_longer_9 K N w0 w1 w2 h = some (x, h1)) {r0 : Option Value} {h' : ym_H} (k : ym_Y D b0 g_X8_longer 1 27 [(1, va_rf w1)] [] h1 r0 h') : ym_Y D b0 g_X8_longer 1 9 [(0, va_rf w0), (1, va_rf w1), (2, .int w2)] [] h r0 h' := by
  unfold lb_X8_longer_9 at hf
  refine ym_iload_n (pc := 9) 2 dX8_longer_9 rfl rfl ?_
  refine ym_aload_n (pc := 10) 0 dX8_longer_10 rfl rfl ?_
  obtain ⟨v11, e11, hf⟩ := Option.bind_eq_some_iff.mp hf
  refine ym_alen (pc := 11) dX8_longer_11 e11 ?_
  by_cases c12 : v11 ≤ w2
  · rw [if_pos c12] at hf
    refine ym_icmp_ge_y (pc := 12) (tgt := 27) dX8_longer_12 (by decide) c12 ?_
    cases hf
    exact ym_sub [1] rfl k
  · rw [if_neg c12] at hf
    refine ym_icmp_ge_n (pc := 12) (tgt := 27) dX8_longer_12 (by decide) c12 ?_
    refine ym_aload_n (pc := 15) 1 dX8_longer_15 rfl rfl ?_
    refine ym_iload_n (pc := 16) 2 dX8_longer_16 rfl rfl ?_
    refine ym_aload_n (pc := 17) 0 dX8_longer_17 rfl rfl ?_
    refine ym_iload_n (pc := 18) 2 dX8_longer_18 rfl rfl ?_
    obtain ⟨v19, e19, hf⟩ := Option.bind_eq_some_iff.mp hf
    refine ym_iald (pc := 19) dX8_longer_19 rfl (ym_ldI_v e19) ?_
    obtain ⟨h20, e20, hf⟩ := Option.bind_eq_some_iff.mp hf
    refine ym_iast (pc := 20) dX8_longer_20 rfl e20 ?_
    refine ym_iinc (pc := 21) (lv' := [(2, .int (w2 + 1)), (0, va_rf w0), (1, va_rf w1)]) (v := (w2 + 1)) 2 dX8_longer_21 rfl (by rw [show Int32.ofInt 1 = 1 by decide]) (by decide) ⟨trivial, ym_c1 w1, trivial, trivial⟩ rfl ?_
    refine ym_goto (pc := 24) (tgt := 9) dX8_longer_24 (by decide) ?_
    exact ym_sub [1, 2, 0] rfl (hKl _ _ _ _ _ hf k)
def lp_X8_longer_9 (N : Nat) : Nat → Option Nat → Option Nat → Int32 → ym_H → Option ((Unit) × ym_H)
  | 0, _, _, _, _ => none
  | n + 1, w0, w1, w2, h => lb_X8_longer_9 (lp_X8_longer_9 N n) N w0 w1 w2 h
set_option maxRecDepth 20000 in
set_option maxHeartbeats 4000000 in
theorem ok_lp_X8_longer_9 {D : ym_D} {b0 : Nat} {N : Nat} {w1 : Option Nat} : ∀ (n : Nat) (w0 : Option Nat) (w2 : Int32) (h h1 : ym_H) (x : (Unit)), lp_X8_longer_9 N n w0 w1 w2 h = some (x, h1) → ∀ {r0 : Option Value} {h' : ym_H}, ym_Y D b0 g_X8_longer 1 27 [(1, va_rf w1)] [] h1 r0 h' → ym_Y D b0 g_X8_longer 1 9 [(0, va_rf w0), (1, va_rf w1), (2, .int w2)] [] h r0 h' := by
  intro n
  induction n with
  | zero =>
    intro w0 w2 h h1 x hf
    cases hf
  | succ n ih =>
    intro w0 w2 h h1 x hf r0 h' k
    exact ol_X8_longer_9 (fun w0 w2 h h1 x z r0 h' k => ih w0 w2 h h1 x z k) hf k
def fn_X8_longer (N : Nat) (a0 : Option Nat) (h : ym_H) : Option (Option Nat × ym_H) :=
  Option.bind (ym_len h a0) fun v2 =>
  Option.bind (ym_na h 0 (.int 0) (2 * v2)) fun h4 =>
  Option.bind (lp_X8_longer_9 N N a0 (some h.1) 0 h4) fun q9 =>
  some ((some h.1), q9.2)
set_option maxRecDepth 20000 in
set_option maxHeartbeats 4000000 in
theorem ok_X8_longer {D : ym_D} {b0 : Nat} {N : Nat} {a0 : Option Nat} {h h' : ym_H} {r : Option Nat} (hf : fn_X8_longer N a0 h = some (r, h')) : ym_M D b0 g_X8_longer 1 [va_rf a0] h (some (va_rf r)) h' := by
  unfold fn_X8_longer at hf
  refine ym_meth (lv := [(0, va_rf a0)]) (by decide) (by simp [lg_sl, ym_c1, ym_cI, ym_cL, g_X8_longer]) (by simp [lv_args, ym_c1, ym_cI, ym_cL]) ?_
  refine ym_iconst (pc := 0) (v := 2) dX8_longer_0 (by decide) ?_
  refine ym_aload_n (pc := 1) 0 dX8_longer_1 rfl rfl ?_
  obtain ⟨v2, e2, hf⟩ := Option.bind_eq_some_iff.mp hf
  refine ym_alen (pc := 2) dX8_longer_2 e2 ?_
  refine ym_imul (pc := 3) dX8_longer_3 ?_
  obtain ⟨h4, e4, hf⟩ := Option.bind_eq_some_iff.mp hf
  refine ym_newA (pc := 4) (h1 := h4) (ty := .int) (v := .int 0) dX8_longer_4 rfl (t := 0) rfl (by decide) wd_123 (by decide) rfl e4 (fun _ _ => rfl) ?_
  refine ym_astore_n (pc := 6) (lv' := [(1, va_rf (some h.1)), (0, va_rf a0)]) dX8_longer_6 rfl (by decide) ⟨ym_c1 a0, trivial⟩ rfl ?_
  refine ym_iconst (pc := 7) (v := 0) dX8_longer_7 (by decide) ?_
  refine ym_istore_n (pc := 8) (lv' := [(2, .int 0), (1, va_rf (some h.1)), (0, va_rf a0)]) dX8_longer_8 rfl (by decide) ⟨ym_c1 (some h.1), trivial, trivial⟩ rfl ?_
  obtain ⟨q9, e9, hf⟩ := Option.bind_eq_some_iff.mp hf
  refine ym_sub (lv' := [(0, va_rf a0), (1, va_rf (some h.1)), (2, .int 0)]) [2, 1, 0] rfl ?_
  refine ok_lp_X8_longer_9 N _ _ _ _ _ e9 ?_
  refine ym_aload_n (pc := 27) 0 dX8_longer_27 rfl rfl ?_
  cases hf
  exact ym_aret (pc := 28) dX8_longer_28 rfl (Or.inr ⟨_, rfl⟩)
theorem dX8_longer__0 : decode cX8_longer_ 0 = .ok (.iconst 2, 1) := by decide +kernel
theorem dX8_longer__1 : decode cX8_longer_ 1 = .ok (.aload_n 0, 1) := by decide +kernel
theorem dX8_longer__2 : decode cX8_longer_ 2 = .ok (.arraylength, 1) := by decide +kernel
theorem dX8_longer__3 : decode cX8_longer_ 3 = .ok (.imul, 1) := by decide +kernel
theorem dX8_longer__4 : decode cX8_longer_ 4 = .ok (.newarray .long, 2) := by decide +kernel
theorem dX8_longer__6 : decode cX8_longer_ 6 = .ok (.astore_n 1, 1) := by decide +kernel
theorem dX8_longer__7 : decode cX8_longer_ 7 = .ok (.iconst 0, 1) := by decide +kernel
theorem dX8_longer__8 : decode cX8_longer_ 8 = .ok (.istore_n 2, 1) := by decide +kernel
theorem dX8_longer__9 : decode cX8_longer_ 9 = .ok (.iload_n 2, 1) := by decide +kernel
theorem dX8_longer__10 : decode cX8_longer_ 10 = .ok (.aload_n 0, 1) := by decide +kernel
theorem dX8_longer__11 : decode cX8_longer_ 11 = .ok (.arraylength, 1) := by decide +kernel
theorem dX8_longer__12 : decode cX8_longer_ 12 = .ok (.if_icmp .ge 15, 3) := by decide +kernel
theorem dX8_longer__15 : decode cX8_longer_ 15 = .ok (.aload_n 1, 1) := by decide +kernel
theorem dX8_longer__16 : decode cX8_longer_ 16 = .ok (.iload_n 2, 1) := by decide +kernel
theorem dX8_longer__17 : decode cX8_longer_ 17 = .ok (.aload_n 0, 1) := by decide +kernel
theorem dX8_longer__18 : decode cX8_longer_ 18 = .ok (.iload_n 2, 1) := by decide +kernel
theorem dX8_longer__19 : decode cX8_longer_ 19 = .ok (.laload, 1) := by decide +kernel
theorem dX8_longer__20 : decode cX8_longer_ 20 = .ok (.lastore, 1) := by decide +kernel
theorem dX8_longer__21 : decode cX8_longer_ 21 = .ok (.iinc 2 1, 3) := by decide +kernel
theorem dX8_longer__24 : decode cX8_longer_ 24 = .ok (.goto (-15), 3) := by decide +kernel
theorem dX8_longer__27 : decode cX8_longer_ 27 = .ok (.aload_n 1, 1) := by decide +kernel
theorem dX8_longer__28 : decode cX8_longer_ 28 = .ok (.areturn, 1) := by decide +kernel
def lb_X8_longer__9 (K : Option Nat → Option Nat → Int32 → ym_H → Option ((Unit) × ym_H)) (N : Nat) (w0 : Option Nat) (w1 : Option Nat) (w2 : Int32) (h : ym_H) : Option ((Unit) × ym_H) :=
  Option.bind (ym_len h w0) fun v11 =>
  if v11 ≤ w2 then
    some ((), h)
  else
    Option.bind (ym_ldL h w0 w2) fun v19 =>
    Option.bind (ym_as h w1 1 w2 (.long v19)) fun h20 =>
    K w0 w1 (w2 + 1) h20
set_option maxRecDepth 20000 in
set_option maxHeartbeats 4000000 in
theorem ol_X8_longer__9 {D : ym_D} {b0 : Nat} {K : Option Nat → Option Nat → Int32 → ym_H → Option ((Unit) × ym_H)} {N : Nat} {w0 : Option Nat} {w1 : Option Nat} {w2 : Int32} {h h1 : ym_H} {x : (Unit)} (hKl : ∀ (u0 : Option Nat) (u2 : Int32) (h h1 : ym_H) (x : (Unit)), K u0 w1 u2 h = some (x, h1) → ∀ {r0 : Option Value} {h' : ym_H}, ym_Y D b0 g_X8_longer_ 1 27 [(1, va_rf w1)] [] h1 r0 h' → ym_Y D b0 g_X8_longer_ 1 9 [(0, va_rf u0), (1, va_rf w1), (2, .int u2)] [] h r0 h') (hf : lb_X8_longer__9 K N w0 w1 w2 h = some (x, h1)) {r0 : Option Value} {h' : ym_H} (k : ym_Y D b0 g_X8_longer_ 1 27 [(1, va_rf w1)] [] h1 r0 h') : ym_Y D b0 g_X8_longer_ 1 9 [(0, va_rf w0), (1, va_rf w1), (2, .int w2)] [] h r0 h' := by
  unfold lb_X8_longer__9 at hf
  refine ym_iload_n (pc := 9) 2 dX8_longer__9 rfl rfl ?_
  refine ym_aload_n (pc := 10) 0 dX8_longer__10 rfl rfl ?_
  obtain ⟨v11, e11, hf⟩ := Option.bind_eq_some_iff.mp hf
  refine ym_alen (pc := 11) dX8_longer__11 e11 ?_
  by_cases c12 : v11 ≤ w2
  · rw [if_pos c12] at hf
    refine ym_icmp_ge_y (pc := 12) (tgt := 27) dX8_longer__12 (by decide) c12 ?_
    cases hf
    exact ym_sub [1] rfl k
  · rw [if_neg c12] at hf
    refine ym_icmp_ge_n (pc := 12) (tgt := 27) dX8_longer__12 (by decide) c12 ?_
    refine ym_aload_n (pc := 15) 1 dX8_longer__15 rfl rfl ?_
    refine ym_iload_n (pc := 16) 2 dX8_longer__16 rfl rfl ?_
    refine ym_aload_n (pc := 17) 0 dX8_longer__17 rfl rfl ?_
    refine ym_iload_n (pc := 18) 2 dX8_longer__18 rfl rfl ?_
    obtain ⟨v19, e19, hf⟩ := Option.bind_eq_some_iff.mp hf
    refine ym_lald (pc := 19) dX8_longer__19 rfl (ym_ldL_v e19) ?_
    obtain ⟨h20, e20, hf⟩ := Option.bind_eq_some_iff.mp hf
    refine ym_last (pc := 20) dX8_longer__20 rfl e20 ?_
    refine ym_iinc (pc := 21) (lv' := [(2, .int (w2 + 1)), (0, va_rf w0), (1, va_rf w1)]) (v := (w2 + 1)) 2 dX8_longer__21 rfl (by rw [show Int32.ofInt 1 = 1 by decide]) (by decide) ⟨trivial, ym_c1 w1, trivial, trivial⟩ rfl ?_
    refine ym_goto (pc := 24) (tgt := 9) dX8_longer__24 (by decide) ?_
    exact ym_sub [1, 2, 0] rfl (hKl _ _ _ _ _ hf k)
def lp_X8_longer__9 (N : Nat) : Nat → Option Nat → Option Nat → Int32 → ym_H → Option ((Unit) × ym_H)
  | 0, _, _, _, _ => none
  | n + 1, w0, w1, w2, h => lb_X8_longer__9 (lp_X8_longer__9 N n) N w0 w1 w2 h
set_option maxRecDepth 20000 in
set_option maxHeartbeats 4000000 in
theorem ok_lp_X8_longer__9 {D : ym_D} {b0 : Nat} {N : Nat} {w1 : Option Nat} : ∀ (n : Nat) (w0 : Option Nat) (w2 : Int32) (h h1 : ym_H) (x : (Unit)), lp_X8_longer__9 N n w0 w1 w2 h = some (x, h1) → ∀ {r0 : Option Value} {h' : ym_H}, ym_Y D b0 g_X8_longer_ 1 27 [(1, va_rf w1)] [] h1 r0 h' → ym_Y D b0 g_X8_longer_ 1 9 [(0, va_rf w0), (1, va_rf w1), (2, .int w2)] [] h r0 h' := by
  intro n
  induction n with
  | zero =>
    intro w0 w2 h h1 x hf
    cases hf
  | succ n ih =>
    intro w0 w2 h h1 x hf r0 h' k
    exact ol_X8_longer__9 (fun w0 w2 h h1 x z r0 h' k => ih w0 w2 h h1 x z k) hf k
def fn_X8_longer_ (N : Nat) (a0 : Option Nat) (h : ym_H) : Option (Option Nat × ym_H) :=
  Option.bind (ym_len h a0) fun v2 =>
  Option.bind (ym_na h 1 (.long 0) (2 * v2)) fun h4 =>
  Option.bind (lp_X8_longer__9 N N a0 (some h.1) 0 h4) fun q9 =>
  some ((some h.1), q9.2)
set_option maxRecDepth 20000 in
set_option maxHeartbeats 4000000 in
theorem ok_X8_longer_ {D : ym_D} {b0 : Nat} {N : Nat} {a0 : Option Nat} {h h' : ym_H} {r : Option Nat} (hf : fn_X8_longer_ N a0 h = some (r, h')) : ym_M D b0 g_X8_longer_ 1 [va_rf a0] h (some (va_rf r)) h' := by
  unfold fn_X8_longer_ at hf
  refine ym_meth (lv := [(0, va_rf a0)]) (by decide) (by simp [lg_sl, ym_c1, ym_cI, ym_cL, g_X8_longer_]) (by simp [lv_args, ym_c1, ym_cI, ym_cL]) ?_
  refine ym_iconst (pc := 0) (v := 2) dX8_longer__0 (by decide) ?_
  refine ym_aload_n (pc := 1) 0 dX8_longer__1 rfl rfl ?_
  obtain ⟨v2, e2, hf⟩ := Option.bind_eq_some_iff.mp hf
  refine ym_alen (pc := 2) dX8_longer__2 e2 ?_
  refine ym_imul (pc := 3) dX8_longer__3 ?_
  obtain ⟨h4, e4, hf⟩ := Option.bind_eq_some_iff.mp hf
  refine ym_newA (pc := 4) (h1 := h4) (ty := .long) (v := .long 0) dX8_longer__4 rfl (t := 1) rfl (by decide) wd_124 (by decide) rfl e4 (fun _ _ => rfl) ?_
  refine ym_astore_n (pc := 6) (lv' := [(1, va_rf (some h.1)), (0, va_rf a0)]) dX8_longer__6 rfl (by decide) ⟨ym_c1 a0, trivial⟩ rfl ?_
  refine ym_iconst (pc := 7) (v := 0) dX8_longer__7 (by decide) ?_
  refine ym_istore_n (pc := 8) (lv' := [(2, .int 0), (1, va_rf (some h.1)), (0, va_rf a0)]) dX8_longer__8 rfl (by decide) ⟨ym_c1 (some h.1), trivial, trivial⟩ rfl ?_
  obtain ⟨q9, e9, hf⟩ := Option.bind_eq_some_iff.mp hf
  refine ym_sub (lv' := [(0, va_rf a0), (1, va_rf (some h.1)), (2, .int 0)]) [2, 1, 0] rfl ?_
  refine ok_lp_X8_longer__9 N _ _ _ _ _ e9 ?_
  refine ym_aload_n (pc := 27) 0 dX8_longer__27 rfl rfl ?_
  cases hf
  exact ym_aret (pc := 28) dX8_longer__28 rfl (Or.inr ⟨_, rfl⟩)
