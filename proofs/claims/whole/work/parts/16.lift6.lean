theorem dX7_digest_0 : decode cX7_digest 0 = .ok (.ldc2_w 285, 3) := by decide +kernel
theorem dX7_digest_3 : decode cX7_digest 3 = .ok (.lstore_n 1, 1) := by decide +kernel
theorem dX7_digest_4 : decode cX7_digest 4 = .ok (.aload_n 0, 1) := by decide +kernel
theorem dX7_digest_5 : decode cX7_digest 5 = .ok (.invokevirtual 69, 3) := by decide +kernel
theorem dX7_digest_8 : decode cX7_digest 8 = .ok (.istore_n 3, 1) := by decide +kernel
theorem dX7_digest_9 : decode cX7_digest 9 = .ok (.lload_n 1, 1) := by decide +kernel
theorem dX7_digest_10 : decode cX7_digest 10 = .ok (.ldc2_w 287, 3) := by decide +kernel
theorem dX7_digest_13 : decode cX7_digest 13 = .ok (.lmul, 1) := by decide +kernel
theorem dX7_digest_14 : decode cX7_digest 14 = .ok (.iload_n 3, 1) := by decide +kernel
theorem dX7_digest_15 : decode cX7_digest 15 = .ok (.i2l, 1) := by decide +kernel
theorem dX7_digest_16 : decode cX7_digest 16 = .ok (.ladd, 1) := by decide +kernel
theorem dX7_digest_17 : decode cX7_digest 17 = .ok (.lstore_n 1, 1) := by decide +kernel
theorem dX7_digest_18 : decode cX7_digest 18 = .ok (.iconst 0, 1) := by decide +kernel
theorem dX7_digest_19 : decode cX7_digest 19 = .ok (.istore 4, 2) := by decide +kernel
theorem dX7_digest_21 : decode cX7_digest 21 = .ok (.iload 4, 2) := by decide +kernel
theorem dX7_digest_23 : decode cX7_digest 23 = .ok (.iload_n 3, 1) := by decide +kernel
theorem dX7_digest_24 : decode cX7_digest 24 = .ok (.if_icmp .ge 36, 3) := by decide +kernel
theorem dX7_digest_27 : decode cX7_digest 27 = .ok (.lload_n 1, 1) := by decide +kernel
theorem dX7_digest_28 : decode cX7_digest 28 = .ok (.ldc2_w 287, 3) := by decide +kernel
theorem dX7_digest_31 : decode cX7_digest 31 = .ok (.lmul, 1) := by decide +kernel
theorem dX7_digest_32 : decode cX7_digest 32 = .ok (.aload_n 0, 1) := by decide +kernel
theorem dX7_digest_33 : decode cX7_digest 33 = .ok (.iload 4, 2) := by decide +kernel
theorem dX7_digest_35 : decode cX7_digest 35 = .ok (.invokevirtual 289, 3) := by decide +kernel
theorem dX7_digest_38 : decode cX7_digest 38 = .ok (.i2l, 1) := by decide +kernel
theorem dX7_digest_39 : decode cX7_digest 39 = .ok (.ladd, 1) := by decide +kernel
theorem dX7_digest_40 : decode cX7_digest 40 = .ok (.lstore_n 1, 1) := by decide +kernel
theorem dX7_digest_41 : decode cX7_digest 41 = .ok (.lload_n 1, 1) := by decide +kernel
theorem dX7_digest_42 : decode cX7_digest 42 = .ok (.ldc2_w 287, 3) := by decide +kernel
theorem dX7_digest_45 : decode cX7_digest 45 = .ok (.lmul, 1) := by decide +kernel
theorem dX7_digest_46 : decode cX7_digest 46 = .ok (.aload_n 0, 1) := by decide +kernel
theorem dX7_digest_47 : decode cX7_digest 47 = .ok (.iload 4, 2) := by decide +kernel
theorem dX7_digest_49 : decode cX7_digest 49 = .ok (.invokevirtual 273, 3) := by decide +kernel
theorem dX7_digest_52 : decode cX7_digest 52 = .ok (.ladd, 1) := by decide +kernel
theorem dX7_digest_53 : decode cX7_digest 53 = .ok (.lstore_n 1, 1) := by decide +kernel
theorem dX7_digest_54 : decode cX7_digest 54 = .ok (.iinc 4 1, 3) := by decide +kernel
theorem dX7_digest_57 : decode cX7_digest 57 = .ok (.goto (-36), 3) := by decide +kernel
theorem dX7_digest_60 : decode cX7_digest 60 = .ok (.aload_n 0, 1) := by decide +kernel
theorem dX7_digest_61 : decode cX7_digest 61 = .ok (.invokevirtual 83, 3) := by decide +kernel
theorem dX7_digest_64 : decode cX7_digest 64 = .ok (.istore_n 3, 1) := by decide +kernel
theorem dX7_digest_65 : decode cX7_digest 65 = .ok (.lload_n 1, 1) := by decide +kernel
theorem dX7_digest_66 : decode cX7_digest 66 = .ok (.ldc2_w 287, 3) := by decide +kernel
theorem dX7_digest_69 : decode cX7_digest 69 = .ok (.lmul, 1) := by decide +kernel
theorem dX7_digest_70 : decode cX7_digest 70 = .ok (.iload_n 3, 1) := by decide +kernel
theorem dX7_digest_71 : decode cX7_digest 71 = .ok (.i2l, 1) := by decide +kernel
theorem dX7_digest_72 : decode cX7_digest 72 = .ok (.ladd, 1) := by decide +kernel
theorem dX7_digest_73 : decode cX7_digest 73 = .ok (.lstore_n 1, 1) := by decide +kernel
theorem dX7_digest_74 : decode cX7_digest 74 = .ok (.iconst 0, 1) := by decide +kernel
theorem dX7_digest_75 : decode cX7_digest 75 = .ok (.istore 4, 2) := by decide +kernel
theorem dX7_digest_77 : decode cX7_digest 77 = .ok (.iload 4, 2) := by decide +kernel
theorem dX7_digest_79 : decode cX7_digest 79 = .ok (.iload_n 3, 1) := by decide +kernel
theorem dX7_digest_80 : decode cX7_digest 80 = .ok (.if_icmp .ge 17, 3) := by decide +kernel
theorem dX7_digest_83 : decode cX7_digest 83 = .ok (.aload_n 0, 1) := by decide +kernel
theorem dX7_digest_84 : decode cX7_digest 84 = .ok (.lload_n 1, 1) := by decide +kernel
theorem dX7_digest_85 : decode cX7_digest 85 = .ok (.iload 4, 2) := by decide +kernel
theorem dX7_digest_87 : decode cX7_digest 87 = .ok (.invokevirtual 292, 3) := by decide +kernel
theorem dX7_digest_90 : decode cX7_digest 90 = .ok (.lstore_n 1, 1) := by decide +kernel
theorem dX7_digest_91 : decode cX7_digest 91 = .ok (.iinc 4 1, 3) := by decide +kernel
theorem dX7_digest_94 : decode cX7_digest 94 = .ok (.goto (-17), 3) := by decide +kernel
theorem dX7_digest_97 : decode cX7_digest 97 = .ok (.lload_n 1, 1) := by decide +kernel
theorem dX7_digest_98 : decode cX7_digest 98 = .ok (.ldc2_w 287, 3) := by decide +kernel
theorem dX7_digest_101 : decode cX7_digest 101 = .ok (.lmul, 1) := by decide +kernel
theorem dX7_digest_102 : decode cX7_digest 102 = .ok (.aload_n 0, 1) := by decide +kernel
theorem dX7_digest_103 : decode cX7_digest 103 = .ok (.iconst 0, 1) := by decide +kernel
theorem dX7_digest_104 : decode cX7_digest 104 = .ok (.invokevirtual 296, 3) := by decide +kernel
theorem dX7_digest_107 : decode cX7_digest 107 = .ok (.ladd, 1) := by decide +kernel
theorem dX7_digest_108 : decode cX7_digest 108 = .ok (.lstore_n 1, 1) := by decide +kernel
theorem dX7_digest_109 : decode cX7_digest 109 = .ok (.lload_n 1, 1) := by decide +kernel
theorem dX7_digest_110 : decode cX7_digest 110 = .ok (.ldc2_w 287, 3) := by decide +kernel
theorem dX7_digest_113 : decode cX7_digest 113 = .ok (.lmul, 1) := by decide +kernel
theorem dX7_digest_114 : decode cX7_digest 114 = .ok (.aload_n 0, 1) := by decide +kernel
theorem dX7_digest_115 : decode cX7_digest 115 = .ok (.iconst 1, 1) := by decide +kernel
theorem dX7_digest_116 : decode cX7_digest 116 = .ok (.invokevirtual 296, 3) := by decide +kernel
theorem dX7_digest_119 : decode cX7_digest 119 = .ok (.ladd, 1) := by decide +kernel
theorem dX7_digest_120 : decode cX7_digest 120 = .ok (.lstore_n 1, 1) := by decide +kernel
theorem dX7_digest_121 : decode cX7_digest 121 = .ok (.lload_n 1, 1) := by decide +kernel
theorem dX7_digest_122 : decode cX7_digest 122 = .ok (.ldc2_w 287, 3) := by decide +kernel
theorem dX7_digest_125 : decode cX7_digest 125 = .ok (.lmul, 1) := by decide +kernel
theorem dX7_digest_126 : decode cX7_digest 126 = .ok (.aload_n 0, 1) := by decide +kernel
theorem dX7_digest_127 : decode cX7_digest 127 = .ok (.iconst 2, 1) := by decide +kernel
theorem dX7_digest_128 : decode cX7_digest 128 = .ok (.invokevirtual 296, 3) := by decide +kernel
theorem dX7_digest_131 : decode cX7_digest 131 = .ok (.ladd, 1) := by decide +kernel
theorem dX7_digest_132 : decode cX7_digest 132 = .ok (.lstore_n 1, 1) := by decide +kernel
theorem dX7_digest_133 : decode cX7_digest 133 = .ok (.lload_n 1, 1) := by decide +kernel
theorem dX7_digest_134 : decode cX7_digest 134 = .ok (.ldc2_w 287, 3) := by decide +kernel
theorem dX7_digest_137 : decode cX7_digest 137 = .ok (.lmul, 1) := by decide +kernel
theorem dX7_digest_138 : decode cX7_digest 138 = .ok (.aload_n 0, 1) := by decide +kernel
theorem dX7_digest_139 : decode cX7_digest 139 = .ok (.getfield 30, 3) := by decide +kernel
theorem dX7_digest_142 : decode cX7_digest 142 = .ok (.invokevirtual 299, 3) := by decide +kernel
theorem dX7_digest_145 : decode cX7_digest 145 = .ok (.i2l, 1) := by decide +kernel
theorem dX7_digest_146 : decode cX7_digest 146 = .ok (.ladd, 1) := by decide +kernel
theorem dX7_digest_147 : decode cX7_digest 147 = .ok (.lstore_n 1, 1) := by decide +kernel
theorem dX7_digest_148 : decode cX7_digest 148 = .ok (.lload_n 1, 1) := by decide +kernel
theorem dX7_digest_149 : decode cX7_digest 149 = .ok (.ldc2_w 287, 3) := by decide +kernel
theorem dX7_digest_152 : decode cX7_digest 152 = .ok (.lmul, 1) := by decide +kernel
theorem dX7_digest_153 : decode cX7_digest 153 = .ok (.aload_n 0, 1) := by decide +kernel
theorem dX7_digest_154 : decode cX7_digest 154 = .ok (.getfield 34, 3) := by decide +kernel
theorem dX7_digest_157 : decode cX7_digest 157 = .ok (.invokevirtual 299, 3) := by decide +kernel
theorem dX7_digest_160 : decode cX7_digest 160 = .ok (.i2l, 1) := by decide +kernel
theorem dX7_digest_161 : decode cX7_digest 161 = .ok (.ladd, 1) := by decide +kernel
theorem dX7_digest_162 : decode cX7_digest 162 = .ok (.lreturn, 1) := by decide +kernel
theorem sc_X7_digest_X7_biddersMade : ym_site g_X7_digest g_X7_biddersMade 6 2 0 := ⟨by decide, by decide, wd_252, wd_76, by decide +kernel⟩
theorem sc_X7_digest_X7_bidderKind : ym_site g_X7_digest g_X7_bidderKind 6 4 1 := ⟨by decide, by decide, wd_768, wd_76, by decide +kernel⟩
theorem sc_X7_digest_X7_balance : ym_site g_X7_digest g_X7_balance 6 4 1 := ⟨by decide, by decide, wd_792, wd_76, by decide +kernel⟩
def lb_X7_digest_21 (K : Option Nat → Int64 → Int32 → Int32 → ym_H → Option ((Int64) × ym_H)) (N : Nat) (w0 : Option Nat) (w1 : Int64) (w3 : Int32) (w4 : Int32) (h : ym_H) : Option ((Int64) × ym_H) :=
  if w3 ≤ w4 then
    some (w1, h)
  else
    Option.bind (ym_ob h w0 7) fun o35 =>
    Option.bind (fn_X7_bidderKind N w0 w4 h) fun q35 =>
    Option.bind (ym_ob q35.2 w0 7) fun o49 =>
    Option.bind (fn_X7_balance N w0 w4 q35.2) fun q49 =>
    K w0 ((((w1 * 31) + (Int32.toInt64 q35.1)) * 31) + q49.1) w3 (w4 + 1) q49.2
set_option maxRecDepth 20000 in
set_option maxHeartbeats 4000000 in
theorem ol_X7_digest_21 {D : ym_D} {b0 : Nat} {K : Option Nat → Int64 → Int32 → Int32 → ym_H → Option ((Int64) × ym_H)} {N : Nat} {w0 : Option Nat} {w1 : Int64} {w3 : Int32} {w4 : Int32} {h h1 : ym_H} {x : (Int64)} (hKl : ∀ (u1 : Int64) (u3 : Int32) (u4 : Int32) (h h1 : ym_H) (x : (Int64)), K w0 u1 u3 u4 h = some (x, h1) → ∀ {r0 : Option Value} {h' : ym_H}, ym_Y D b0 g_X7_digest 6 60 [(0, va_rf w0), (1, .long x)] [] h1 r0 h' → ym_Y D b0 g_X7_digest 6 21 [(0, va_rf w0), (1, .long u1), (3, .int u3), (4, .int u4)] [] h r0 h') (hf : lb_X7_digest_21 K N w0 w1 w3 w4 h = some (x, h1)) {r0 : Option Value} {h' : ym_H} (k : ym_Y D b0 g_X7_digest 6 60 [(0, va_rf w0), (1, .long x)] [] h1 r0 h') : ym_Y D b0 g_X7_digest 6 21 [(0, va_rf w0), (1, .long w1), (3, .int w3), (4, .int w4)] [] h r0 h' := by
  unfold lb_X7_digest_21 at hf
  refine ym_iload (pc := 21) 3 dX7_digest_21 rfl ?_
  refine ym_iload_n (pc := 23) 2 dX7_digest_23 rfl rfl ?_
  by_cases c24 : w3 ≤ w4
  · rw [if_pos c24] at hf
    refine ym_icmp_ge_y (pc := 24) (tgt := 60) dX7_digest_24 (by decide) c24 ?_
    cases hf
    exact ym_sub [0, 1] rfl k
  · rw [if_neg c24] at hf
    refine ym_icmp_ge_n (pc := 24) (tgt := 60) dX7_digest_24 (by decide) c24 ?_
    refine ym_lload_n (pc := 27) 1 dX7_digest_27 rfl rfl ?_
    refine ym_ldc2 (pc := 28) dX7_digest_28 wd_831 ?_
    refine ym_lmul (pc := 31) dX7_digest_31 ?_
    refine ym_aload_n (pc := 32) 0 dX7_digest_32 rfl rfl ?_
    refine ym_iload (pc := 33) 3 dX7_digest_33 rfl ?_
    obtain ⟨o35, f35, hf⟩ := Option.bind_eq_some_iff.mp hf
    obtain ⟨q35, e35, hf⟩ := Option.bind_eq_some_iff.mp hf
    refine ym_callV (pc := 35) (G2 := g_X7_bidderKind) (dep2 := 4) (As := [.int w4]) (st := [.long (w1 * 31)]) (stk2 := [.int q35.1, .long (w1 * 31)]) (r2 := (some (.int q35.1))) (h1 := q35.2) dX7_digest_35 (ok_X7_bidderKind e35) (sc_X7_digest_X7_bidderKind) wd_832 wd_766 wd_767 (ci := 7) (q0 := (RX7, TX7, 10)) rfl (by decide) rfl f35 rfl rfl (ym_st4 (Nat.le_of_ble_eq_true rfl)) rfl ?_
    refine ym_i2l (pc := 38) dX7_digest_38 ?_
    refine ym_ladd (pc := 39) dX7_digest_39 ?_
    refine ym_lstore_n (pc := 40) (lv' := [(1, .long ((w1 * 31) + (Int32.toInt64 q35.1))), (0, va_rf w0), (3, .int w3), (4, .int w4)]) dX7_digest_40 rfl (by decide) ⟨ym_c1 w0, trivial, trivial, trivial, trivial⟩ rfl ?_
    refine ym_lload_n (pc := 41) 0 dX7_digest_41 rfl rfl ?_
    refine ym_ldc2 (pc := 42) dX7_digest_42 wd_831 ?_
    refine ym_lmul (pc := 45) dX7_digest_45 ?_
    refine ym_aload_n (pc := 46) 1 dX7_digest_46 rfl rfl ?_
    refine ym_iload (pc := 47) 3 dX7_digest_47 rfl ?_
    obtain ⟨o49, f49, hf⟩ := Option.bind_eq_some_iff.mp hf
    obtain ⟨q49, e49, hf⟩ := Option.bind_eq_some_iff.mp hf
    refine ym_callV (pc := 49) (G2 := g_X7_balance) (dep2 := 4) (As := [.int w4]) (st := [.long (((w1 * 31) + (Int32.toInt64 q35.1)) * 31)]) (stk2 := [.long q49.1, .long (((w1 * 31) + (Int32.toInt64 q35.1)) * 31)]) (r2 := (some (.long q49.1))) (h1 := q49.2) dX7_digest_49 (ok_X7_balance e49) (sc_X7_digest_X7_balance) wd_801 wd_790 wd_791 (ci := 7) (q0 := (RX7, TX7, 10)) rfl (by decide) rfl f49 rfl rfl (ym_st4 (Nat.le_of_ble_eq_true rfl)) rfl ?_
    refine ym_ladd (pc := 52) dX7_digest_52 ?_
    refine ym_lstore_n (pc := 53) (lv' := [(1, .long ((((w1 * 31) + (Int32.toInt64 q35.1)) * 31) + q49.1)), (0, va_rf w0), (3, .int w3), (4, .int w4)]) dX7_digest_53 rfl (by decide) ⟨trivial, ym_c1 w0, trivial, trivial, trivial⟩ rfl ?_
    refine ym_iinc (pc := 54) (lv' := [(4, .int (w4 + 1)), (1, .long ((((w1 * 31) + (Int32.toInt64 q35.1)) * 31) + q49.1)), (0, va_rf w0), (3, .int w3)]) (v := (w4 + 1)) 3 dX7_digest_54 rfl (by rw [show Int32.ofInt 1 = 1 by decide]) (by decide) ⟨trivial, trivial, rfl, trivial, trivial⟩ rfl ?_
    refine ym_goto (pc := 57) (tgt := 21) dX7_digest_57 (by decide) ?_
    exact ym_sub [2, 1, 3, 0] rfl (hKl _ _ _ _ _ _ hf k)
def lp_X7_digest_21 (N : Nat) : Nat → Option Nat → Int64 → Int32 → Int32 → ym_H → Option ((Int64) × ym_H)
  | 0, _, _, _, _, _ => none
  | n + 1, w0, w1, w3, w4, h => lb_X7_digest_21 (lp_X7_digest_21 N n) N w0 w1 w3 w4 h
set_option maxRecDepth 20000 in
set_option maxHeartbeats 4000000 in
theorem ok_lp_X7_digest_21 {D : ym_D} {b0 : Nat} {N : Nat} {w0 : Option Nat} : ∀ (n : Nat) (w1 : Int64) (w3 : Int32) (w4 : Int32) (h h1 : ym_H) (x : (Int64)), lp_X7_digest_21 N n w0 w1 w3 w4 h = some (x, h1) → ∀ {r0 : Option Value} {h' : ym_H}, ym_Y D b0 g_X7_digest 6 60 [(0, va_rf w0), (1, .long x)] [] h1 r0 h' → ym_Y D b0 g_X7_digest 6 21 [(0, va_rf w0), (1, .long w1), (3, .int w3), (4, .int w4)] [] h r0 h' := by
  intro n
  induction n with
  | zero =>
    intro w1 w3 w4 h h1 x hf
    cases hf
  | succ n ih =>
    intro w1 w3 w4 h h1 x hf r0 h' k
    exact ol_X7_digest_21 (fun w1 w3 w4 h h1 x z r0 h' k => ih w1 w3 w4 h h1 x z k) hf k
theorem sc_X7_digest_X7_lotsMade : ym_site g_X7_digest g_X7_lotsMade 6 2 0 := ⟨by decide, by decide, wd_326, wd_76, by decide +kernel⟩
theorem sc_X7_digest_X7_digestLot : ym_site g_X7_digest g_X7_digestLot 6 5 2 := ⟨by decide, by decide, wd_836, wd_76, by decide +kernel⟩
def lb_X7_digest_77 (K : Option Nat → Int64 → Int32 → Int32 → ym_H → Option ((Int64) × ym_H)) (N : Nat) (w0 : Option Nat) (w1 : Int64) (w3 : Int32) (w4 : Int32) (h : ym_H) : Option ((Int64) × ym_H) :=
  if w3 ≤ w4 then
    some (w1, h)
  else
    Option.bind (ym_ob h w0 7) fun o87 =>
    Option.bind (fn_X7_digestLot N w0 w1 w4 h) fun q87 =>
    K w0 q87.1 w3 (w4 + 1) q87.2
set_option maxRecDepth 20000 in
set_option maxHeartbeats 4000000 in
theorem ol_X7_digest_77 {D : ym_D} {b0 : Nat} {K : Option Nat → Int64 → Int32 → Int32 → ym_H → Option ((Int64) × ym_H)} {N : Nat} {w0 : Option Nat} {w1 : Int64} {w3 : Int32} {w4 : Int32} {h h1 : ym_H} {x : (Int64)} (hKl : ∀ (u1 : Int64) (u3 : Int32) (u4 : Int32) (h h1 : ym_H) (x : (Int64)), K w0 u1 u3 u4 h = some (x, h1) → ∀ {r0 : Option Value} {h' : ym_H}, ym_Y D b0 g_X7_digest 6 97 [(0, va_rf w0), (1, .long x)] [] h1 r0 h' → ym_Y D b0 g_X7_digest 6 77 [(0, va_rf w0), (1, .long u1), (3, .int u3), (4, .int u4)] [] h r0 h') (hf : lb_X7_digest_77 K N w0 w1 w3 w4 h = some (x, h1)) {r0 : Option Value} {h' : ym_H} (k : ym_Y D b0 g_X7_digest 6 97 [(0, va_rf w0), (1, .long x)] [] h1 r0 h') : ym_Y D b0 g_X7_digest 6 77 [(0, va_rf w0), (1, .long w1), (3, .int w3), (4, .int w4)] [] h r0 h' := by
  unfold lb_X7_digest_77 at hf
  refine ym_iload (pc := 77) 3 dX7_digest_77 rfl ?_
  refine ym_iload_n (pc := 79) 2 dX7_digest_79 rfl rfl ?_
  by_cases c80 : w3 ≤ w4
  · rw [if_pos c80] at hf
    refine ym_icmp_ge_y (pc := 80) (tgt := 97) dX7_digest_80 (by decide) c80 ?_
    cases hf
    exact ym_sub [0, 1] rfl k
  · rw [if_neg c80] at hf
    refine ym_icmp_ge_n (pc := 80) (tgt := 97) dX7_digest_80 (by decide) c80 ?_
    refine ym_aload_n (pc := 83) 0 dX7_digest_83 rfl rfl ?_
    refine ym_lload_n (pc := 84) 1 dX7_digest_84 rfl rfl ?_
    refine ym_iload (pc := 85) 3 dX7_digest_85 rfl ?_
    obtain ⟨o87, f87, hf⟩ := Option.bind_eq_some_iff.mp hf
    obtain ⟨q87, e87, hf⟩ := Option.bind_eq_some_iff.mp hf
    refine ym_callV (pc := 87) (G2 := g_X7_digestLot) (dep2 := 5) (As := [.long w1, .int w4]) (st := []) (stk2 := [.long q87.1]) (r2 := (some (.long q87.1))) (h1 := q87.2) dX7_digest_87 (ok_X7_digestLot e87) (sc_X7_digest_X7_digestLot) wd_833 wd_835 wd_20 (ci := 7) (q0 := (RX7, TX7, 10)) rfl (by decide) rfl f87 rfl rfl (ym_st4 (Nat.le_of_ble_eq_true rfl)) rfl ?_
    refine ym_lstore_n (pc := 90) (lv' := [(1, .long q87.1), (0, va_rf w0), (3, .int w3), (4, .int w4)]) dX7_digest_90 rfl (by decide) ⟨ym_c1 w0, trivial, trivial, trivial, trivial⟩ rfl ?_
    refine ym_iinc (pc := 91) (lv' := [(4, .int (w4 + 1)), (1, .long q87.1), (0, va_rf w0), (3, .int w3)]) (v := (w4 + 1)) 3 dX7_digest_91 rfl (by rw [show Int32.ofInt 1 = 1 by decide]) (by decide) ⟨trivial, trivial, rfl, trivial, trivial⟩ rfl ?_
    refine ym_goto (pc := 94) (tgt := 77) dX7_digest_94 (by decide) ?_
    exact ym_sub [2, 1, 3, 0] rfl (hKl _ _ _ _ _ _ hf k)
def lp_X7_digest_77 (N : Nat) : Nat → Option Nat → Int64 → Int32 → Int32 → ym_H → Option ((Int64) × ym_H)
  | 0, _, _, _, _, _ => none
  | n + 1, w0, w1, w3, w4, h => lb_X7_digest_77 (lp_X7_digest_77 N n) N w0 w1 w3 w4 h
set_option maxRecDepth 20000 in
set_option maxHeartbeats 4000000 in
theorem ok_lp_X7_digest_77 {D : ym_D} {b0 : Nat} {N : Nat} {w0 : Option Nat} : ∀ (n : Nat) (w1 : Int64) (w3 : Int32) (w4 : Int32) (h h1 : ym_H) (x : (Int64)), lp_X7_digest_77 N n w0 w1 w3 w4 h = some (x, h1) → ∀ {r0 : Option Value} {h' : ym_H}, ym_Y D b0 g_X7_digest 6 97 [(0, va_rf w0), (1, .long x)] [] h1 r0 h' → ym_Y D b0 g_X7_digest 6 77 [(0, va_rf w0), (1, .long w1), (3, .int w3), (4, .int w4)] [] h r0 h' := by
  intro n
  induction n with
  | zero =>
    intro w1 w3 w4 h h1 x hf
    cases hf
  | succ n ih =>
    intro w1 w3 w4 h h1 x hf r0 h' k
    exact ol_X7_digest_77 (fun w1 w3 w4 h h1 x z r0 h' k => ih w1 w3 w4 h h1 x z k) hf k
theorem sc_X7_digest_X7_account : ym_site g_X7_digest g_X7_account 6 2 1 := ⟨by decide, by decide, wd_796, wd_76, by decide +kernel⟩
theorem sc_X7_digest_X6_rows : ym_site g_X7_digest g_X6_rows 6 3 0 := ⟨by decide, by decide, wd_431, wd_80, by decide +kernel⟩
def fn_X7_digest (N : Nat) (a0 : Option Nat) (h : ym_H) : Option (Int64 × ym_H) :=
  Option.bind (ym_ob h a0 7) fun o5 =>
  Option.bind (fn_X7_biddersMade N a0 h) fun q5 =>
  Option.bind (lp_X7_digest_21 N N a0 ((7 * 31) + (Int32.toInt64 q5.1)) q5.1 0 q5.2) fun q21 =>
  Option.bind (ym_ob q21.2 a0 7) fun o61 =>
  Option.bind (fn_X7_lotsMade N a0 q21.2) fun q61 =>
  Option.bind (lp_X7_digest_77 N N a0 ((q21.1 * 31) + (Int32.toInt64 q61.1)) q61.1 0 q61.2) fun q77 =>
  Option.bind (ym_ob q77.2 a0 7) fun o104 =>
  Option.bind (fn_X7_account N a0 0 q77.2) fun q104 =>
  Option.bind (ym_ob q104.2 a0 7) fun o116 =>
  Option.bind (fn_X7_account N a0 1 q104.2) fun q116 =>
  Option.bind (ym_ob q116.2 a0 7) fun o128 =>
  Option.bind (fn_X7_account N a0 2 q116.2) fun q128 =>
  Option.bind (ym_gR q128.2 a0 7 2) fun v139 =>
  Option.bind (ym_ob q128.2 v139 6) fun o142 =>
  Option.bind (fn_X6_rows N v139 q128.2) fun q142 =>
  Option.bind (ym_gR q142.2 a0 7 3) fun v154 =>
  Option.bind (ym_ob q142.2 v154 6) fun o157 =>
  Option.bind (fn_X6_rows N v154 q142.2) fun q157 =>
  some (((((((((((q77.1 * 31) + q104.1) * 31) + q116.1) * 31) + q128.1) * 31) + (Int32.toInt64 q142.1)) * 31) + (Int32.toInt64 q157.1)), q157.2)
set_option maxRecDepth 20000 in
set_option maxHeartbeats 4000000 in
theorem ok_X7_digest {D : ym_D} {b0 : Nat} {N : Nat} {a0 : Option Nat} {h h' : ym_H} {r : Int64} (hf : fn_X7_digest N a0 h = some (r, h')) : ym_M D b0 g_X7_digest 6 [va_rf a0] h (some (.long r)) h' := by
  unfold fn_X7_digest at hf
  refine ym_meth (lv := [(0, va_rf a0)]) (by decide) (by simp [lg_sl, ym_c1, ym_cI, ym_cL, g_X7_digest]) (by simp [lv_args, ym_c1, ym_cI, ym_cL]) ?_
  refine ym_ldc2 (pc := 0) dX7_digest_0 wd_830 ?_
  refine ym_lstore_n (pc := 3) (lv' := [(1, .long 7), (0, va_rf a0)]) dX7_digest_3 rfl (by decide) ⟨ym_c1 a0, trivial⟩ rfl ?_
  refine ym_aload_n (pc := 4) 1 dX7_digest_4 rfl rfl ?_
  obtain ⟨o5, f5, hf⟩ := Option.bind_eq_some_iff.mp hf
  obtain ⟨q5, e5, hf⟩ := Option.bind_eq_some_iff.mp hf
  refine ym_callV (pc := 5) (G2 := g_X7_biddersMade) (dep2 := 2) (As := []) (st := []) (stk2 := [.int q5.1]) (r2 := (some (.int q5.1))) (h1 := q5.2) dX7_digest_5 (ok_X7_biddersMade e5) (sc_X7_digest_X7_biddersMade) wd_249 wd_251 wd_3 (ci := 7) (q0 := (RX7, TX7, 10)) rfl (by decide) rfl f5 rfl rfl (ym_st4 (Nat.le_of_ble_eq_true rfl)) rfl ?_
  refine ym_istore_n (pc := 8) (lv' := [(3, .int q5.1), (1, .long 7), (0, va_rf a0)]) dX7_digest_8 rfl (by decide) ⟨trivial, trivial, trivial⟩ rfl ?_
  refine ym_lload_n (pc := 9) 1 dX7_digest_9 rfl rfl ?_
  refine ym_ldc2 (pc := 10) dX7_digest_10 wd_831 ?_
  refine ym_lmul (pc := 13) dX7_digest_13 ?_
  refine ym_iload_n (pc := 14) 0 dX7_digest_14 rfl rfl ?_
  refine ym_i2l (pc := 15) dX7_digest_15 ?_
  refine ym_ladd (pc := 16) dX7_digest_16 ?_
  refine ym_lstore_n (pc := 17) (lv' := [(1, .long ((7 * 31) + (Int32.toInt64 q5.1))), (3, .int q5.1), (0, va_rf a0)]) dX7_digest_17 rfl (by decide) ⟨trivial, trivial, ym_c1 a0, trivial⟩ rfl ?_
  refine ym_iconst (pc := 18) (v := 0) dX7_digest_18 (by decide) ?_
  refine ym_istore (pc := 19) (lv' := [(4, .int 0), (1, .long ((7 * 31) + (Int32.toInt64 q5.1))), (3, .int q5.1), (0, va_rf a0)]) dX7_digest_19 (by decide) ⟨trivial, rfl, trivial, trivial⟩ rfl ?_
  obtain ⟨q21, e21, hf⟩ := Option.bind_eq_some_iff.mp hf
  refine ym_sub (lv' := [(0, va_rf a0), (1, .long ((7 * 31) + (Int32.toInt64 q5.1))), (3, .int q5.1), (4, .int 0)]) [3, 1, 2, 0] rfl ?_
  refine ok_lp_X7_digest_21 N _ _ _ _ _ _ e21 ?_
  refine ym_aload_n (pc := 60) 0 dX7_digest_60 rfl rfl ?_
  obtain ⟨o61, f61, hf⟩ := Option.bind_eq_some_iff.mp hf
  obtain ⟨q61, e61, hf⟩ := Option.bind_eq_some_iff.mp hf
  refine ym_callV (pc := 61) (G2 := g_X7_lotsMade) (dep2 := 2) (As := []) (st := []) (stk2 := [.int q61.1]) (r2 := (some (.int q61.1))) (h1 := q61.2) dX7_digest_61 (ok_X7_lotsMade e61) (sc_X7_digest_X7_lotsMade) wd_323 wd_325 wd_4 (ci := 7) (q0 := (RX7, TX7, 10)) rfl (by decide) rfl f61 rfl rfl (ym_st4 (Nat.le_of_ble_eq_true rfl)) rfl ?_
  refine ym_istore_n (pc := 64) (lv' := [(3, .int q61.1), (0, va_rf a0), (1, .long q21.1)]) dX7_digest_64 rfl (by decide) ⟨trivial, trivial, trivial⟩ rfl ?_
  refine ym_lload_n (pc := 65) 2 dX7_digest_65 rfl rfl ?_
  refine ym_ldc2 (pc := 66) dX7_digest_66 wd_831 ?_
  refine ym_lmul (pc := 69) dX7_digest_69 ?_
  refine ym_iload_n (pc := 70) 0 dX7_digest_70 rfl rfl ?_
  refine ym_i2l (pc := 71) dX7_digest_71 ?_
  refine ym_ladd (pc := 72) dX7_digest_72 ?_
  refine ym_lstore_n (pc := 73) (lv' := [(1, .long ((q21.1 * 31) + (Int32.toInt64 q61.1))), (3, .int q61.1), (0, va_rf a0)]) dX7_digest_73 rfl (by decide) ⟨trivial, ym_c1 a0, trivial, trivial⟩ rfl ?_
  refine ym_iconst (pc := 74) (v := 0) dX7_digest_74 (by decide) ?_
  refine ym_istore (pc := 75) (lv' := [(4, .int 0), (1, .long ((q21.1 * 31) + (Int32.toInt64 q61.1))), (3, .int q61.1), (0, va_rf a0)]) dX7_digest_75 (by decide) ⟨trivial, rfl, trivial, trivial⟩ rfl ?_
  obtain ⟨q77, e77, hf⟩ := Option.bind_eq_some_iff.mp hf
  refine ym_sub (lv' := [(0, va_rf a0), (1, .long ((q21.1 * 31) + (Int32.toInt64 q61.1))), (3, .int q61.1), (4, .int 0)]) [3, 1, 2, 0] rfl ?_
  refine ok_lp_X7_digest_77 N _ _ _ _ _ _ e77 ?_
  refine ym_lload_n (pc := 97) 1 dX7_digest_97 rfl rfl ?_
  refine ym_ldc2 (pc := 98) dX7_digest_98 wd_831 ?_
  refine ym_lmul (pc := 101) dX7_digest_101 ?_
  refine ym_aload_n (pc := 102) 0 dX7_digest_102 rfl rfl ?_
  refine ym_iconst (pc := 103) (v := 0) dX7_digest_103 (by decide) ?_
  obtain ⟨o104, f104, hf⟩ := Option.bind_eq_some_iff.mp hf
  obtain ⟨q104, e104, hf⟩ := Option.bind_eq_some_iff.mp hf
  refine ym_callV (pc := 104) (G2 := g_X7_account) (dep2 := 2) (As := [.int 0]) (st := [.long (q77.1 * 31)]) (stk2 := [.long q104.1, .long (q77.1 * 31)]) (r2 := (some (.long q104.1))) (h1 := q104.2) dX7_digest_104 (ok_X7_account e104) (sc_X7_digest_X7_account) wd_838 wd_794 wd_795 (ci := 7) (q0 := (RX7, TX7, 10)) rfl (by decide) rfl f104 rfl rfl (ym_st4 (Nat.le_of_ble_eq_true rfl)) rfl ?_
  refine ym_ladd (pc := 107) dX7_digest_107 ?_
  refine ym_lstore_n (pc := 108) (lv' := [(1, .long ((q77.1 * 31) + q104.1)), (0, va_rf a0)]) dX7_digest_108 rfl (by decide) ⟨ym_c1 a0, trivial, trivial⟩ rfl ?_
  refine ym_lload_n (pc := 109) 0 dX7_digest_109 rfl rfl ?_
  refine ym_ldc2 (pc := 110) dX7_digest_110 wd_831 ?_
  refine ym_lmul (pc := 113) dX7_digest_113 ?_
  refine ym_aload_n (pc := 114) 1 dX7_digest_114 rfl rfl ?_
  refine ym_iconst (pc := 115) (v := 1) dX7_digest_115 (by decide) ?_
  obtain ⟨o116, f116, hf⟩ := Option.bind_eq_some_iff.mp hf
  obtain ⟨q116, e116, hf⟩ := Option.bind_eq_some_iff.mp hf
  refine ym_callV (pc := 116) (G2 := g_X7_account) (dep2 := 2) (As := [.int 1]) (st := [.long (((q77.1 * 31) + q104.1) * 31)]) (stk2 := [.long q116.1, .long (((q77.1 * 31) + q104.1) * 31)]) (r2 := (some (.long q116.1))) (h1 := q116.2) dX7_digest_116 (ok_X7_account e116) (sc_X7_digest_X7_account) wd_838 wd_794 wd_795 (ci := 7) (q0 := (RX7, TX7, 10)) rfl (by decide) rfl f116 rfl rfl (ym_st4 (Nat.le_of_ble_eq_true rfl)) rfl ?_
  refine ym_ladd (pc := 119) dX7_digest_119 ?_
  refine ym_lstore_n (pc := 120) (lv' := [(1, .long ((((q77.1 * 31) + q104.1) * 31) + q116.1)), (0, va_rf a0)]) dX7_digest_120 rfl (by decide) ⟨trivial, ym_c1 a0, trivial⟩ rfl ?_
  refine ym_lload_n (pc := 121) 0 dX7_digest_121 rfl rfl ?_
  refine ym_ldc2 (pc := 122) dX7_digest_122 wd_831 ?_
  refine ym_lmul (pc := 125) dX7_digest_125 ?_
  refine ym_aload_n (pc := 126) 1 dX7_digest_126 rfl rfl ?_
  refine ym_iconst (pc := 127) (v := 2) dX7_digest_127 (by decide) ?_
  obtain ⟨o128, f128, hf⟩ := Option.bind_eq_some_iff.mp hf
  obtain ⟨q128, e128, hf⟩ := Option.bind_eq_some_iff.mp hf
  refine ym_callV (pc := 128) (G2 := g_X7_account) (dep2 := 2) (As := [.int 2]) (st := [.long (((((q77.1 * 31) + q104.1) * 31) + q116.1) * 31)]) (stk2 := [.long q128.1, .long (((((q77.1 * 31) + q104.1) * 31) + q116.1) * 31)]) (r2 := (some (.long q128.1))) (h1 := q128.2) dX7_digest_128 (ok_X7_account e128) (sc_X7_digest_X7_account) wd_838 wd_794 wd_795 (ci := 7) (q0 := (RX7, TX7, 10)) rfl (by decide) rfl f128 rfl rfl (ym_st4 (Nat.le_of_ble_eq_true rfl)) rfl ?_
  refine ym_ladd (pc := 131) dX7_digest_131 ?_
  refine ym_lstore_n (pc := 132) (lv' := [(1, .long ((((((q77.1 * 31) + q104.1) * 31) + q116.1) * 31) + q128.1)), (0, va_rf a0)]) dX7_digest_132 rfl (by decide) ⟨trivial, ym_c1 a0, trivial⟩ rfl ?_
  refine ym_lload_n (pc := 133) 0 dX7_digest_133 rfl rfl ?_
  refine ym_ldc2 (pc := 134) dX7_digest_134 wd_831 ?_
  refine ym_lmul (pc := 137) dX7_digest_137 ?_
  refine ym_aload_n (pc := 138) 1 dX7_digest_138 rfl rfl ?_
  obtain ⟨v139, e139, hf⟩ := Option.bind_eq_some_iff.mp hf
  refine ym_get (pc := 139) dX7_digest_139 rfl (by decide) iX7 (k := 2) (by decide) wd_188 (ym_gR_v e139) ?_
  obtain ⟨o142, f142, hf⟩ := Option.bind_eq_some_iff.mp hf
  obtain ⟨q142, e142, hf⟩ := Option.bind_eq_some_iff.mp hf
  refine ym_callV (pc := 142) (G2 := g_X6_rows) (dep2 := 3) (As := []) (st := [.long (((((((q77.1 * 31) + q104.1) * 31) + q116.1) * 31) + q128.1) * 31)]) (stk2 := [.int q142.1, .long (((((((q77.1 * 31) + q104.1) * 31) + q116.1) * 31) + q128.1) * 31)]) (r2 := (some (.int q142.1))) (h1 := q142.2) dX7_digest_142 (ok_X6_rows e142) (sc_X7_digest_X6_rows) wd_428 wd_429 wd_430 (ci := 6) (q0 := (RX6, TX6, 1)) rfl (by decide) rfl f142 rfl rfl (ym_st4 (Nat.le_of_ble_eq_true rfl)) rfl ?_
  refine ym_i2l (pc := 145) dX7_digest_145 ?_
  refine ym_ladd (pc := 146) dX7_digest_146 ?_
  refine ym_lstore_n (pc := 147) (lv' := [(1, .long ((((((((q77.1 * 31) + q104.1) * 31) + q116.1) * 31) + q128.1) * 31) + (Int32.toInt64 q142.1))), (0, va_rf a0)]) dX7_digest_147 rfl (by decide) ⟨trivial, ym_c1 a0, trivial⟩ rfl ?_
  refine ym_lload_n (pc := 148) 0 dX7_digest_148 rfl rfl ?_
  refine ym_ldc2 (pc := 149) dX7_digest_149 wd_831 ?_
  refine ym_lmul (pc := 152) dX7_digest_152 ?_
  refine ym_aload_n (pc := 153) 1 dX7_digest_153 rfl rfl ?_
  obtain ⟨v154, e154, hf⟩ := Option.bind_eq_some_iff.mp hf
  refine ym_get (pc := 154) dX7_digest_154 rfl (by decide) iX7 (k := 3) (by decide) wd_189 (ym_gR_v e154) ?_
  obtain ⟨o157, f157, hf⟩ := Option.bind_eq_some_iff.mp hf
  obtain ⟨q157, e157, hf⟩ := Option.bind_eq_some_iff.mp hf
  refine ym_callV (pc := 157) (G2 := g_X6_rows) (dep2 := 3) (As := []) (st := [.long (((((((((q77.1 * 31) + q104.1) * 31) + q116.1) * 31) + q128.1) * 31) + (Int32.toInt64 q142.1)) * 31)]) (stk2 := [.int q157.1, .long (((((((((q77.1 * 31) + q104.1) * 31) + q116.1) * 31) + q128.1) * 31) + (Int32.toInt64 q142.1)) * 31)]) (r2 := (some (.int q157.1))) (h1 := q157.2) dX7_digest_157 (ok_X6_rows e157) (sc_X7_digest_X6_rows) wd_428 wd_429 wd_430 (ci := 6) (q0 := (RX6, TX6, 1)) rfl (by decide) rfl f157 rfl rfl (ym_st4 (Nat.le_of_ble_eq_true rfl)) rfl ?_
  refine ym_i2l (pc := 160) dX7_digest_160 ?_
  refine ym_ladd (pc := 161) dX7_digest_161 ?_
  cases hf
  exact ym_lret (pc := 162) dX7_digest_162 rfl
theorem dX7_end_0 : decode cX7_end 0 = .ok (.aload_n 0, 1) := by decide +kernel
theorem dX7_end_1 : decode cX7_end 1 = .ok (.invokevirtual 58, 3) := by decide +kernel
theorem dX7_end_4 : decode cX7_end 4 = .ok (.aload_n 0, 1) := by decide +kernel
theorem dX7_end_5 : decode cX7_end 5 = .ok (.getfield 12, 3) := by decide +kernel
theorem dX7_end_8 : decode cX7_end 8 = .ok (.invokevirtual 258, 3) := by decide +kernel
theorem dX7_end_11 : decode cX7_end 11 = .ok (.ifCond .ne 10, 3) := by decide +kernel
theorem dX7_end_14 : decode cX7_end 14 = .ok (.aload_n 0, 1) := by decide +kernel
theorem dX7_end_15 : decode cX7_end 15 = .ok (.bipush 14, 2) := by decide +kernel
theorem dX7_end_17 : decode cX7_end 17 = .ok (.invokevirtual 61, 3) := by decide +kernel
theorem dX7_end_20 : decode cX7_end 20 = .ok (.lreturn, 1) := by decide +kernel
theorem dX7_end_21 : decode cX7_end 21 = .ok (.aload_n 0, 1) := by decide +kernel
theorem dX7_end_22 : decode cX7_end 22 = .ok (.getfield 12, 3) := by decide +kernel
theorem dX7_end_25 : decode cX7_end 25 = .ok (.invokevirtual 264, 3) := by decide +kernel
theorem dX7_end_28 : decode cX7_end 28 = .ok (.aload_n 0, 1) := by decide +kernel
theorem dX7_end_29 : decode cX7_end 29 = .ok (.getfield 12, 3) := by decide +kernel
theorem dX7_end_32 : decode cX7_end 32 = .ok (.invokevirtual 258, 3) := by decide +kernel
theorem dX7_end_35 : decode cX7_end 35 = .ok (.i2l, 1) := by decide +kernel
theorem dX7_end_36 : decode cX7_end 36 = .ok (.lreturn, 1) := by decide +kernel
theorem sc_X7_end_X7_startAct : ym_site g_X7_end g_X7_startAct 5 2 0 := ⟨by decide, by decide, wd_224, wd_76, by decide +kernel⟩
theorem sc_X7_end_X3_depth : ym_site g_X7_end g_X3_depth 5 1 0 := ⟨by decide, by decide, wd_740, wd_77, by decide +kernel⟩
theorem sc_X7_end_X7_refuse : ym_site g_X7_end g_X7_refuse 5 4 1 := ⟨by decide, by decide, wd_232, wd_76, by decide +kernel⟩
theorem sc_X7_end_X3_keepBatch : ym_site g_X7_end g_X3_keepBatch 5 1 0 := ⟨by decide, by decide, wd_752, wd_77, by decide +kernel⟩
def fn_X7_end (N : Nat) (a0 : Option Nat) (h : ym_H) : Option (Int64 × ym_H) :=
  Option.bind (ym_ob h a0 7) fun o1 =>
  Option.bind (fn_X7_startAct N a0 h) fun q1 =>
  Option.bind (ym_gR q1.2 a0 7 0) fun v5 =>
  Option.bind (ym_ob q1.2 v5 3) fun o8 =>
  Option.bind (fn_X3_depth N v5 q1.2) fun q8 =>
  if q8.1 = 0 then
    Option.bind (ym_ob q8.2 a0 7) fun o17 =>
    Option.bind (fn_X7_refuse N a0 14 q8.2) fun q17 =>
    some (q17.1, q17.2)
  else
    Option.bind (ym_gR q8.2 a0 7 0) fun v22 =>
    Option.bind (ym_ob q8.2 v22 3) fun o25 =>
    Option.bind (fn_X3_keepBatch N v22 q8.2) fun q25 =>
    Option.bind (ym_gR q25.2 a0 7 0) fun v29 =>
    Option.bind (ym_ob q25.2 v29 3) fun o32 =>
    Option.bind (fn_X3_depth N v29 q25.2) fun q32 =>
    some ((Int32.toInt64 q32.1), q32.2)
set_option maxRecDepth 20000 in
set_option maxHeartbeats 4000000 in
theorem ok_X7_end {D : ym_D} {b0 : Nat} {N : Nat} {a0 : Option Nat} {h h' : ym_H} {r : Int64} (hf : fn_X7_end N a0 h = some (r, h')) : ym_M D b0 g_X7_end 5 [va_rf a0] h (some (.long r)) h' := by
  unfold fn_X7_end at hf
  refine ym_meth (lv := [(0, va_rf a0)]) (by decide) (by simp [lg_sl, ym_c1, ym_cI, ym_cL, g_X7_end]) (by simp [lv_args, ym_c1, ym_cI, ym_cL]) ?_
  refine ym_aload_n (pc := 0) 0 dX7_end_0 rfl rfl ?_
  obtain ⟨o1, f1, hf⟩ := Option.bind_eq_some_iff.mp hf
  obtain ⟨q1, e1, hf⟩ := Option.bind_eq_some_iff.mp hf
  refine ym_callV (pc := 1) (G2 := g_X7_startAct) (dep2 := 2) (As := []) (st := []) (stk2 := []) (r2 := none) (h1 := q1.2) dX7_end_1 (ok_X7_startAct e1) (sc_X7_end_X7_startAct) wd_221 wd_223 wd_0 (ci := 7) (q0 := (RX7, TX7, 10)) rfl (by decide) rfl f1 rfl rfl (ym_st4 (Nat.le_of_ble_eq_true rfl)) rfl ?_
  refine ym_aload_n (pc := 4) 0 dX7_end_4 rfl rfl ?_
  obtain ⟨v5, e5, hf⟩ := Option.bind_eq_some_iff.mp hf
  refine ym_get (pc := 5) dX7_end_5 rfl (by decide) iX7 (k := 0) (by decide) wd_186 (ym_gR_v e5) ?_
  obtain ⟨o8, f8, hf⟩ := Option.bind_eq_some_iff.mp hf
  obtain ⟨q8, e8, hf⟩ := Option.bind_eq_some_iff.mp hf
  refine ym_callV (pc := 8) (G2 := g_X3_depth) (dep2 := 1) (As := []) (st := []) (stk2 := [.int q8.1]) (r2 := (some (.int q8.1))) (h1 := q8.2) dX7_end_8 (ok_X3_depth e8) (sc_X7_end_X3_depth) wd_737 wd_738 wd_739 (ci := 3) (q0 := (RX3, TX3, 6)) rfl (by decide) rfl f8 rfl rfl (ym_st4 (Nat.le_of_ble_eq_true rfl)) rfl ?_
  by_cases c11 : q8.1 = 0
  · rw [if_pos c11] at hf
    refine ym_if_ne_y (pc := 11) (tgt := 21) dX7_end_11 (by decide) c11 ?_
    refine ym_aload_n (pc := 14) 0 dX7_end_14 rfl rfl ?_
    refine ym_bipush (pc := 15) (v := 14) dX7_end_15 (by decide) ?_
    obtain ⟨o17, f17, hf⟩ := Option.bind_eq_some_iff.mp hf
    obtain ⟨q17, e17, hf⟩ := Option.bind_eq_some_iff.mp hf
    refine ym_callV (pc := 17) (G2 := g_X7_refuse) (dep2 := 4) (As := [.int 14]) (st := []) (stk2 := [.long q17.1]) (r2 := (some (.long q17.1))) (h1 := q17.2) dX7_end_17 (ok_X7_refuse e17) (sc_X7_end_X7_refuse) wd_229 wd_231 wd_1 (ci := 7) (q0 := (RX7, TX7, 10)) rfl (by decide) rfl f17 rfl rfl (ym_st4 (Nat.le_of_ble_eq_true rfl)) rfl ?_
    cases hf
    exact ym_lret (pc := 20) dX7_end_20 rfl
  · rw [if_neg c11] at hf
    refine ym_if_ne_n (pc := 11) (tgt := 21) dX7_end_11 (by decide) c11 ?_
    refine ym_aload_n (pc := 21) 0 dX7_end_21 rfl rfl ?_
    obtain ⟨v22, e22, hf⟩ := Option.bind_eq_some_iff.mp hf
    refine ym_get (pc := 22) dX7_end_22 rfl (by decide) iX7 (k := 0) (by decide) wd_186 (ym_gR_v e22) ?_
    obtain ⟨o25, f25, hf⟩ := Option.bind_eq_some_iff.mp hf
    obtain ⟨q25, e25, hf⟩ := Option.bind_eq_some_iff.mp hf
    refine ym_callV (pc := 25) (G2 := g_X3_keepBatch) (dep2 := 1) (As := []) (st := []) (stk2 := []) (r2 := none) (h1 := q25.2) dX7_end_25 (ok_X3_keepBatch e25) (sc_X7_end_X3_keepBatch) wd_749 wd_750 wd_751 (ci := 3) (q0 := (RX3, TX3, 6)) rfl (by decide) rfl f25 rfl rfl (ym_st4 (Nat.le_of_ble_eq_true rfl)) rfl ?_
    refine ym_aload_n (pc := 28) 0 dX7_end_28 rfl rfl ?_
    obtain ⟨v29, e29, hf⟩ := Option.bind_eq_some_iff.mp hf
    refine ym_get (pc := 29) dX7_end_29 rfl (by decide) iX7 (k := 0) (by decide) wd_186 (ym_gR_v e29) ?_
    obtain ⟨o32, f32, hf⟩ := Option.bind_eq_some_iff.mp hf
    obtain ⟨q32, e32, hf⟩ := Option.bind_eq_some_iff.mp hf
    refine ym_callV (pc := 32) (G2 := g_X3_depth) (dep2 := 1) (As := []) (st := []) (stk2 := [.int q32.1]) (r2 := (some (.int q32.1))) (h1 := q32.2) dX7_end_32 (ok_X3_depth e32) (sc_X7_end_X3_depth) wd_737 wd_738 wd_739 (ci := 3) (q0 := (RX3, TX3, 6)) rfl (by decide) rfl f32 rfl rfl (ym_st4 (Nat.le_of_ble_eq_true rfl)) rfl ?_
    refine ym_i2l (pc := 35) dX7_end_35 ?_
    cases hf
    exact ym_lret (pc := 36) dX7_end_36 rfl
theorem dX7_evenCents_0 : decode cX7_evenCents 0 = .ok (.lload_n 0, 1) := by decide +kernel
theorem dX7_evenCents_1 : decode cX7_evenCents 1 = .ok (.ldc2_w 311, 3) := by decide +kernel
theorem dX7_evenCents_4 : decode cX7_evenCents 4 = .ok (.ldiv, 1) := by decide +kernel
theorem dX7_evenCents_5 : decode cX7_evenCents 5 = .ok (.lstore_n 2, 1) := by decide +kernel
theorem dX7_evenCents_6 : decode cX7_evenCents 6 = .ok (.lload_n 0, 1) := by decide +kernel
theorem dX7_evenCents_7 : decode cX7_evenCents 7 = .ok (.ldc2_w 311, 3) := by decide +kernel
theorem dX7_evenCents_10 : decode cX7_evenCents 10 = .ok (.lrem, 1) := by decide +kernel
theorem dX7_evenCents_11 : decode cX7_evenCents 11 = .ok (.lstore 4, 2) := by decide +kernel
theorem dX7_evenCents_13 : decode cX7_evenCents 13 = .ok (.ldc2_w 313, 3) := by decide +kernel
theorem dX7_evenCents_16 : decode cX7_evenCents 16 = .ok (.lload 4, 2) := by decide +kernel
theorem dX7_evenCents_18 : decode cX7_evenCents 18 = .ok (.lmul, 1) := by decide +kernel
theorem dX7_evenCents_19 : decode cX7_evenCents 19 = .ok (.ldc2_w 311, 3) := by decide +kernel
theorem dX7_evenCents_22 : decode cX7_evenCents 22 = .ok (.lcmp, 1) := by decide +kernel
theorem dX7_evenCents_23 : decode cX7_evenCents 23 = .ok (.ifCond .gt 26, 3) := by decide +kernel
theorem dX7_evenCents_26 : decode cX7_evenCents 26 = .ok (.ldc2_w 313, 3) := by decide +kernel
theorem dX7_evenCents_29 : decode cX7_evenCents 29 = .ok (.lload 4, 2) := by decide +kernel
theorem dX7_evenCents_31 : decode cX7_evenCents 31 = .ok (.lmul, 1) := by decide +kernel
theorem dX7_evenCents_32 : decode cX7_evenCents 32 = .ok (.ldc2_w 311, 3) := by decide +kernel
theorem dX7_evenCents_35 : decode cX7_evenCents 35 = .ok (.lcmp, 1) := by decide +kernel
theorem dX7_evenCents_36 : decode cX7_evenCents 36 = .ok (.ifCond .ne 17, 3) := by decide +kernel
theorem dX7_evenCents_39 : decode cX7_evenCents 39 = .ok (.lload_n 2, 1) := by decide +kernel
theorem dX7_evenCents_40 : decode cX7_evenCents 40 = .ok (.ldc2_w 313, 3) := by decide +kernel
theorem dX7_evenCents_43 : decode cX7_evenCents 43 = .ok (.lrem, 1) := by decide +kernel
theorem dX7_evenCents_44 : decode cX7_evenCents 44 = .ok (.lconst 0, 1) := by decide +kernel
theorem dX7_evenCents_45 : decode cX7_evenCents 45 = .ok (.lcmp, 1) := by decide +kernel
theorem dX7_evenCents_46 : decode cX7_evenCents 46 = .ok (.ifCond .eq 7, 3) := by decide +kernel
theorem dX7_evenCents_49 : decode cX7_evenCents 49 = .ok (.iconst 1, 1) := by decide +kernel
theorem dX7_evenCents_50 : decode cX7_evenCents 50 = .ok (.goto 4, 3) := by decide +kernel
theorem dX7_evenCents_53 : decode cX7_evenCents 53 = .ok (.iconst 0, 1) := by decide +kernel
theorem dX7_evenCents_54 : decode cX7_evenCents 54 = .ok (.istore 6, 2) := by decide +kernel
theorem dX7_evenCents_56 : decode cX7_evenCents 56 = .ok (.iload 6, 2) := by decide +kernel
theorem dX7_evenCents_58 : decode cX7_evenCents 58 = .ok (.ifCond .eq 9, 3) := by decide +kernel
theorem dX7_evenCents_61 : decode cX7_evenCents 61 = .ok (.lload_n 2, 1) := by decide +kernel
theorem dX7_evenCents_62 : decode cX7_evenCents 62 = .ok (.lconst 1, 1) := by decide +kernel
theorem dX7_evenCents_63 : decode cX7_evenCents 63 = .ok (.ladd, 1) := by decide +kernel
theorem dX7_evenCents_64 : decode cX7_evenCents 64 = .ok (.goto 4, 3) := by decide +kernel
theorem dX7_evenCents_67 : decode cX7_evenCents 67 = .ok (.lload_n 2, 1) := by decide +kernel
theorem dX7_evenCents_68 : decode cX7_evenCents 68 = .ok (.lreturn, 1) := by decide +kernel
def bl_X7_evenCents_54 (N : Nat) (w2 : Int64) (s0 : Int32) (h : ym_H) : Option (Int64 × ym_H) :=
  if s0 = 0 then
    some (w2, h)
  else
    some ((w2 + 1), h)
set_option maxRecDepth 20000 in
set_option maxHeartbeats 4000000 in
theorem ob_X7_evenCents_54 {D : ym_D} {b0 : Nat} {N : Nat} {w2 : Int64} {s0 : Int32} {h h' : ym_H} {r : Int64} (hf : bl_X7_evenCents_54 N w2 s0 h = some (r, h')) : ym_Y D b0 g_X7_evenCents 1 54 [(2, .long w2)] [.int s0] h (some (.long r)) h' := by
  unfold bl_X7_evenCents_54 at hf
  refine ym_istore (pc := 54) (lv' := [(6, .int s0), (2, .long w2)]) dX7_evenCents_54 (by decide) ⟨trivial, trivial⟩ rfl ?_
  refine ym_iload (pc := 56) 0 dX7_evenCents_56 rfl ?_
  by_cases c58 : s0 = 0
  · rw [if_pos c58] at hf
    refine ym_if_eq_y (pc := 58) (tgt := 67) dX7_evenCents_58 (by decide) c58 ?_
    refine ym_lload_n (pc := 67) 1 dX7_evenCents_67 rfl rfl ?_
    cases hf
    exact ym_lret (pc := 68) dX7_evenCents_68 rfl
  · rw [if_neg c58] at hf
    refine ym_if_eq_n (pc := 58) (tgt := 67) dX7_evenCents_58 (by decide) c58 ?_
    refine ym_lload_n (pc := 61) 1 dX7_evenCents_61 rfl rfl ?_
    refine ym_lconst (pc := 62) (v := 1) dX7_evenCents_62 (by decide) ?_
    refine ym_ladd (pc := 63) dX7_evenCents_63 ?_
    refine ym_goto (pc := 64) (tgt := 68) dX7_evenCents_64 (by decide) ?_
    cases hf
    exact ym_lret (pc := 68) dX7_evenCents_68 rfl
def bl_X7_evenCents_49 (N : Nat) (w2 : Int64) (h : ym_H) : Option (Int64 × ym_H) :=
  bl_X7_evenCents_54 N w2 1 h
set_option maxRecDepth 20000 in
set_option maxHeartbeats 4000000 in
theorem ob_X7_evenCents_49 {D : ym_D} {b0 : Nat} {N : Nat} {w2 : Int64} {h h' : ym_H} {r : Int64} (hf : bl_X7_evenCents_49 N w2 h = some (r, h')) : ym_Y D b0 g_X7_evenCents 1 49 [(2, .long w2)] [] h (some (.long r)) h' := by
  unfold bl_X7_evenCents_49 at hf
  refine ym_iconst (pc := 49) (v := 1) dX7_evenCents_49 (by decide) ?_
  refine ym_goto (pc := 50) (tgt := 54) dX7_evenCents_50 (by decide) ?_
  exact ym_sub [0] rfl (ob_X7_evenCents_54 hf)
def bl_X7_evenCents_53 (N : Nat) (w2 : Int64) (h : ym_H) : Option (Int64 × ym_H) :=
  bl_X7_evenCents_54 N w2 0 h
set_option maxRecDepth 20000 in
set_option maxHeartbeats 4000000 in
theorem ob_X7_evenCents_53 {D : ym_D} {b0 : Nat} {N : Nat} {w2 : Int64} {h h' : ym_H} {r : Int64} (hf : bl_X7_evenCents_53 N w2 h = some (r, h')) : ym_Y D b0 g_X7_evenCents 1 53 [(2, .long w2)] [] h (some (.long r)) h' := by
  unfold bl_X7_evenCents_53 at hf
  refine ym_iconst (pc := 53) (v := 0) dX7_evenCents_53 (by decide) ?_
  exact ym_sub [0] rfl (ob_X7_evenCents_54 hf)
def fn_X7_evenCents (N : Nat) (a0 : Int64) (h : ym_H) : Option (Int64 × ym_H) :=
  if 10000 < (2 * (a0 - a0 / 10000 * 10000)) then
    bl_X7_evenCents_49 N (a0 / 10000) h
  else
    if (2 * (a0 - a0 / 10000 * 10000)) = 10000 then
      if ((a0 / 10000) - (a0 / 10000) / 2 * 2) = 0 then
        bl_X7_evenCents_53 N (a0 / 10000) h
      else
        bl_X7_evenCents_49 N (a0 / 10000) h
    else
      bl_X7_evenCents_53 N (a0 / 10000) h
set_option maxRecDepth 20000 in
set_option maxHeartbeats 4000000 in
theorem ok_X7_evenCents {D : ym_D} {b0 : Nat} {N : Nat} {a0 : Int64} {h h' : ym_H} {r : Int64} (hf : fn_X7_evenCents N a0 h = some (r, h')) : ym_M D b0 g_X7_evenCents 1 [.long a0] h (some (.long r)) h' := by
  unfold fn_X7_evenCents at hf
  refine ym_meth (lv := [(0, .long a0)]) (by decide) (by simp [lg_sl, ym_c1, ym_cI, ym_cL, g_X7_evenCents]) (by simp [lv_args, ym_c1, ym_cI, ym_cL]) ?_
  refine ym_lload_n (pc := 0) 0 dX7_evenCents_0 rfl rfl ?_
  refine ym_ldc2 (pc := 1) dX7_evenCents_1 wd_667 ?_
  refine ym_ldiv (pc := 4) dX7_evenCents_4 (by decide) ?_
  refine ym_lstore_n (pc := 5) (lv' := [(2, .long (a0 / 10000)), (0, .long a0)]) dX7_evenCents_5 rfl (by decide) ⟨trivial, trivial⟩ rfl ?_
  refine ym_lload_n (pc := 6) 1 dX7_evenCents_6 rfl rfl ?_
  refine ym_ldc2 (pc := 7) dX7_evenCents_7 wd_667 ?_
  refine ym_lrem (pc := 10) dX7_evenCents_10 (by decide) ?_
  refine ym_sub (lv' := [(2, .long (a0 / 10000))]) [0] rfl ?_
  refine ym_lstore (pc := 11) (lv' := [(4, .long (a0 - a0 / 10000 * 10000)), (2, .long (a0 / 10000))]) dX7_evenCents_11 (by decide) ⟨trivial, trivial⟩ rfl ?_
  refine ym_ldc2 (pc := 13) dX7_evenCents_13 wd_657 ?_
  refine ym_lload (pc := 16) 0 dX7_evenCents_16 rfl ?_
  refine ym_lmul (pc := 18) dX7_evenCents_18 ?_
  refine ym_ldc2 (pc := 19) dX7_evenCents_19 wd_667 ?_
  by_cases c22 : 10000 < (2 * (a0 - a0 / 10000 * 10000))
  · rw [if_pos c22] at hf
    refine ym_lcmp_gt_y (pc := 22) (tgt := 49) dX7_evenCents_22 dX7_evenCents_23 (by decide) c22 ?_
    exact ym_sub [1] rfl (ob_X7_evenCents_49 hf)
  · rw [if_neg c22] at hf
    refine ym_lcmp_gt_n (pc := 22) (tgt := 49) dX7_evenCents_22 dX7_evenCents_23 (by decide) c22 ?_
    refine ym_ldc2 (pc := 26) dX7_evenCents_26 wd_657 ?_
    refine ym_lload (pc := 29) 0 dX7_evenCents_29 rfl ?_
    refine ym_lmul (pc := 31) dX7_evenCents_31 ?_
    refine ym_ldc2 (pc := 32) dX7_evenCents_32 wd_667 ?_
    by_cases c35 : (2 * (a0 - a0 / 10000 * 10000)) = 10000
    · rw [if_pos c35] at hf
      refine ym_lcmp_ne_y (pc := 35) (tgt := 53) dX7_evenCents_35 dX7_evenCents_36 (by decide) c35 ?_
      refine ym_lload_n (pc := 39) 1 dX7_evenCents_39 rfl rfl ?_
      refine ym_ldc2 (pc := 40) dX7_evenCents_40 wd_657 ?_
      refine ym_lrem (pc := 43) dX7_evenCents_43 (by decide) ?_
      refine ym_lconst (pc := 44) (v := 0) dX7_evenCents_44 (by decide) ?_
      by_cases c45 : ((a0 / 10000) - (a0 / 10000) / 2 * 2) = 0
      · rw [if_pos c45] at hf
        refine ym_lcmp_eq_y (pc := 45) (tgt := 53) dX7_evenCents_45 dX7_evenCents_46 (by decide) c45 ?_
        exact ym_sub [1] rfl (ob_X7_evenCents_53 hf)
      · rw [if_neg c45] at hf
        refine ym_lcmp_eq_n (pc := 45) (tgt := 53) dX7_evenCents_45 dX7_evenCents_46 (by decide) c45 ?_
        exact ym_sub [1] rfl (ob_X7_evenCents_49 hf)
    · rw [if_neg c35] at hf
      refine ym_lcmp_ne_n (pc := 35) (tgt := 53) dX7_evenCents_35 dX7_evenCents_36 (by decide) c35 ?_
      exact ym_sub [1] rfl (ob_X7_evenCents_53 hf)
theorem dX7_shareOut_0 : decode cX7_shareOut 0 = .ok (.aload_n 1, 1) := by decide +kernel
theorem dX7_shareOut_1 : decode cX7_shareOut 1 = .ok (.invokevirtual 116, 3) := by decide +kernel
theorem dX7_shareOut_4 : decode cX7_shareOut 4 = .ok (.istore 4, 2) := by decide +kernel
theorem dX7_shareOut_6 : decode cX7_shareOut 6 = .ok (.iload 4, 2) := by decide +kernel
theorem dX7_shareOut_8 : decode cX7_shareOut 8 = .ok (.ifCond .gt 4, 3) := by decide +kernel
theorem dX7_shareOut_11 : decode cX7_shareOut 11 = .ok (.return_, 1) := by decide +kernel
theorem dX7_shareOut_12 : decode cX7_shareOut 12 = .ok (.lload_n 2, 1) := by decide +kernel
theorem dX7_shareOut_13 : decode cX7_shareOut 13 = .ok (.iload 4, 2) := by decide +kernel
theorem dX7_shareOut_15 : decode cX7_shareOut 15 = .ok (.i2l, 1) := by decide +kernel
theorem dX7_shareOut_16 : decode cX7_shareOut 16 = .ok (.ldiv, 1) := by decide +kernel
theorem dX7_shareOut_17 : decode cX7_shareOut 17 = .ok (.lstore 5, 2) := by decide +kernel
theorem dX7_shareOut_19 : decode cX7_shareOut 19 = .ok (.lload_n 2, 1) := by decide +kernel
theorem dX7_shareOut_20 : decode cX7_shareOut 20 = .ok (.iload 4, 2) := by decide +kernel
theorem dX7_shareOut_22 : decode cX7_shareOut 22 = .ok (.i2l, 1) := by decide +kernel
theorem dX7_shareOut_23 : decode cX7_shareOut 23 = .ok (.lrem, 1) := by decide +kernel
theorem dX7_shareOut_24 : decode cX7_shareOut 24 = .ok (.lstore 7, 2) := by decide +kernel
theorem dX7_shareOut_26 : decode cX7_shareOut 26 = .ok (.iconst 0, 1) := by decide +kernel
theorem dX7_shareOut_27 : decode cX7_shareOut 27 = .ok (.istore 9, 2) := by decide +kernel
theorem dX7_shareOut_29 : decode cX7_shareOut 29 = .ok (.iload 9, 2) := by decide +kernel
theorem dX7_shareOut_31 : decode cX7_shareOut 31 = .ok (.iload 4, 2) := by decide +kernel
theorem dX7_shareOut_33 : decode cX7_shareOut 33 = .ok (.if_icmp .ge 39, 3) := by decide +kernel
theorem dX7_shareOut_36 : decode cX7_shareOut 36 = .ok (.aload_n 0, 1) := by decide +kernel
theorem dX7_shareOut_37 : decode cX7_shareOut 37 = .ok (.aload_n 1, 1) := by decide +kernel
theorem dX7_shareOut_38 : decode cX7_shareOut 38 = .ok (.iload 9, 2) := by decide +kernel
theorem dX7_shareOut_40 : decode cX7_shareOut 40 = .ok (.iconst 0, 1) := by decide +kernel
theorem dX7_shareOut_41 : decode cX7_shareOut 41 = .ok (.invokevirtual 321, 3) := by decide +kernel
theorem dX7_shareOut_44 : decode cX7_shareOut 44 = .ok (.l2i, 1) := by decide +kernel
theorem dX7_shareOut_45 : decode cX7_shareOut 45 = .ok (.iload 9, 2) := by decide +kernel
theorem dX7_shareOut_47 : decode cX7_shareOut 47 = .ok (.i2l, 1) := by decide +kernel
theorem dX7_shareOut_48 : decode cX7_shareOut 48 = .ok (.lload 7, 2) := by decide +kernel
theorem dX7_shareOut_50 : decode cX7_shareOut 50 = .ok (.lcmp, 1) := by decide +kernel
theorem dX7_shareOut_51 : decode cX7_shareOut 51 = .ok (.ifCond .ge 10, 3) := by decide +kernel
theorem dX7_shareOut_54 : decode cX7_shareOut 54 = .ok (.lload 5, 2) := by decide +kernel
theorem dX7_shareOut_56 : decode cX7_shareOut 56 = .ok (.lconst 1, 1) := by decide +kernel
theorem dX7_shareOut_57 : decode cX7_shareOut 57 = .ok (.ladd, 1) := by decide +kernel
theorem dX7_shareOut_58 : decode cX7_shareOut 58 = .ok (.goto 5, 3) := by decide +kernel
theorem dX7_shareOut_61 : decode cX7_shareOut 61 = .ok (.lload 5, 2) := by decide +kernel
theorem dX7_shareOut_63 : decode cX7_shareOut 63 = .ok (.invokevirtual 355, 3) := by decide +kernel
theorem dX7_shareOut_66 : decode cX7_shareOut 66 = .ok (.iinc 9 1, 3) := by decide +kernel
theorem dX7_shareOut_69 : decode cX7_shareOut 69 = .ok (.goto (-40), 3) := by decide +kernel
theorem dX7_shareOut_72 : decode cX7_shareOut 72 = .ok (.return_, 1) := by decide +kernel
theorem sc_X7_shareOut_X5_rows : ym_site g_X7_shareOut g_X5_rows 7 2 0 := ⟨by decide, by decide, wd_397, wd_81, by decide +kernel⟩
theorem sc_X7_shareOut_X5_at : ym_site g_X7_shareOut g_X5_at 7 2 2 := ⟨by decide, by decide, wd_402, wd_81, by decide +kernel⟩
theorem sc_X7_shareOut_X7_bookToBidder : ym_site g_X7_shareOut g_X7_bookToBidder 7 6 2 := ⟨by decide, by decide, wd_671, wd_76, by decide +kernel⟩
def bl_X7_shareOut_63_29 (K : Option Nat → Option Nat → Int32 → Int64 → Int64 → Int32 → ym_H → Option ((Unit) × ym_H)) (N : Nat) (w0 : Option Nat) (w1 : Option Nat) (w4 : Int32) (w5 : Int64) (w7 : Int64) (w9 : Int32) (s0 : Int64) (s1 : Int32) (s2 : Option Nat) (h : ym_H) : Option ((Unit) × ym_H) :=
  Option.bind (ym_ob h s2 7) fun o63 =>
  Option.bind (fn_X7_bookToBidder N s2 s1 s0 h) fun q63 =>
  K w0 w1 w4 w5 w7 (w9 + 1) q63.2
set_option maxRecDepth 20000 in
set_option maxHeartbeats 4000000 in
theorem ob_X7_shareOut_63_29 {D : ym_D} {b0 : Nat} {K : Option Nat → Option Nat → Int32 → Int64 → Int64 → Int32 → ym_H → Option ((Unit) × ym_H)} {N : Nat} {w0 : Option Nat} {w1 : Option Nat} {w4 : Int32} {w5 : Int64} {w7 : Int64} {w9 : Int32} {s0 : Int64} {s1 : Int32} {s2 : Option Nat} {h h1 : ym_H} {x : (Unit)} (hKl : ∀ (u0 : Option Nat) (u1 : Option Nat) (u4 : Int32) (u5 : Int64) (u7 : Int64) (u9 : Int32) (h h1 : ym_H) (x : (Unit)), K u0 u1 u4 u5 u7 u9 h = some (x, h1) → ∀ {r0 : Option Value} {h' : ym_H}, ym_Y D b0 g_X7_shareOut 7 72 [] [] h1 r0 h' → ym_Y D b0 g_X7_shareOut 7 29 [(0, va_rf u0), (1, va_rf u1), (4, .int u4), (5, .long u5), (7, .long u7), (9, .int u9)] [] h r0 h') (hf : bl_X7_shareOut_63_29 K N w0 w1 w4 w5 w7 w9 s0 s1 s2 h = some (x, h1)) {r0 : Option Value} {h' : ym_H} (k : ym_Y D b0 g_X7_shareOut 7 72 [] [] h1 r0 h') : ym_Y D b0 g_X7_shareOut 7 63 [(0, va_rf w0), (1, va_rf w1), (4, .int w4), (5, .long w5), (7, .long w7), (9, .int w9)] [.long s0, .int s1, va_rf s2] h r0 h' := by
  unfold bl_X7_shareOut_63_29 at hf
  obtain ⟨o63, f63, hf⟩ := Option.bind_eq_some_iff.mp hf
  obtain ⟨q63, e63, hf⟩ := Option.bind_eq_some_iff.mp hf
  refine ym_callV (pc := 63) (G2 := g_X7_bookToBidder) (dep2 := 6) (As := [.int s1, .long s0]) (st := []) (stk2 := []) (r2 := none) (h1 := q63.2) dX7_shareOut_63 (ok_X7_bookToBidder e63) (sc_X7_shareOut_X7_bookToBidder) wd_668 wd_670 wd_15 (ci := 7) (q0 := (RX7, TX7, 10)) rfl (by decide) rfl f63 rfl rfl (ym_st4 (Nat.le_of_ble_eq_true rfl)) rfl ?_
  refine ym_iinc (pc := 66) (lv' := [(9, .int (w9 + 1)), (0, va_rf w0), (1, va_rf w1), (4, .int w4), (5, .long w5), (7, .long w7)]) (v := (w9 + 1)) 5 dX7_shareOut_66 rfl (by rw [show Int32.ofInt 1 = 1 by decide]) (by decide) ⟨trivial, trivial, trivial, trivial, trivial, trivial, trivial⟩ rfl ?_
  refine ym_goto (pc := 69) (tgt := 29) dX7_shareOut_69 (by decide) ?_
  exact ym_sub [1, 2, 3, 4, 5, 0] rfl (hKl _ _ _ _ _ _ _ _ _ hf k)
def lb_X7_shareOut_29 (K : Option Nat → Option Nat → Int32 → Int64 → Int64 → Int32 → ym_H → Option ((Unit) × ym_H)) (N : Nat) (w0 : Option Nat) (w1 : Option Nat) (w4 : Int32) (w5 : Int64) (w7 : Int64) (w9 : Int32) (h : ym_H) : Option ((Unit) × ym_H) :=
  if w4 ≤ w9 then
    some ((), h)
  else
    Option.bind (ym_ob h w1 5) fun o41 =>
    Option.bind (fn_X5_at N w1 w9 0 h) fun q41 =>
    if w7 ≤ (Int32.toInt64 w9) then
      bl_X7_shareOut_63_29 K N w0 w1 w4 w5 w7 w9 w5 (Int64.toInt32 q41.1) w0 q41.2
    else
      bl_X7_shareOut_63_29 K N w0 w1 w4 w5 w7 w9 (w5 + 1) (Int64.toInt32 q41.1) w0 q41.2
set_option maxRecDepth 20000 in
set_option maxHeartbeats 4000000 in
theorem ol_X7_shareOut_29 {D : ym_D} {b0 : Nat} {K : Option Nat → Option Nat → Int32 → Int64 → Int64 → Int32 → ym_H → Option ((Unit) × ym_H)} {N : Nat} {w0 : Option Nat} {w1 : Option Nat} {w4 : Int32} {w5 : Int64} {w7 : Int64} {w9 : Int32} {h h1 : ym_H} {x : (Unit)} (hKl : ∀ (u0 : Option Nat) (u1 : Option Nat) (u4 : Int32) (u5 : Int64) (u7 : Int64) (u9 : Int32) (h h1 : ym_H) (x : (Unit)), K u0 u1 u4 u5 u7 u9 h = some (x, h1) → ∀ {r0 : Option Value} {h' : ym_H}, ym_Y D b0 g_X7_shareOut 7 72 [] [] h1 r0 h' → ym_Y D b0 g_X7_shareOut 7 29 [(0, va_rf u0), (1, va_rf u1), (4, .int u4), (5, .long u5), (7, .long u7), (9, .int u9)] [] h r0 h') (hf : lb_X7_shareOut_29 K N w0 w1 w4 w5 w7 w9 h = some (x, h1)) {r0 : Option Value} {h' : ym_H} (k : ym_Y D b0 g_X7_shareOut 7 72 [] [] h1 r0 h') : ym_Y D b0 g_X7_shareOut 7 29 [(0, va_rf w0), (1, va_rf w1), (4, .int w4), (5, .long w5), (7, .long w7), (9, .int w9)] [] h r0 h' := by
  unfold lb_X7_shareOut_29 at hf
  refine ym_iload (pc := 29) 5 dX7_shareOut_29 rfl ?_
  refine ym_iload (pc := 31) 2 dX7_shareOut_31 rfl ?_
  by_cases c33 : w4 ≤ w9
  · rw [if_pos c33] at hf
    refine ym_icmp_ge_y (pc := 33) (tgt := 72) dX7_shareOut_33 (by decide) c33 ?_
    cases hf
    exact ym_sub [] rfl k
  · rw [if_neg c33] at hf
    refine ym_icmp_ge_n (pc := 33) (tgt := 72) dX7_shareOut_33 (by decide) c33 ?_
    refine ym_aload_n (pc := 36) 0 dX7_shareOut_36 rfl rfl ?_
    refine ym_aload_n (pc := 37) 1 dX7_shareOut_37 rfl rfl ?_
    refine ym_iload (pc := 38) 5 dX7_shareOut_38 rfl ?_
    refine ym_iconst (pc := 40) (v := 0) dX7_shareOut_40 (by decide) ?_
    obtain ⟨o41, f41, hf⟩ := Option.bind_eq_some_iff.mp hf
    obtain ⟨q41, e41, hf⟩ := Option.bind_eq_some_iff.mp hf
    refine ym_callV (pc := 41) (G2 := g_X5_at) (dep2 := 2) (As := [.int w9, .int 0]) (st := [va_rf w0]) (stk2 := [.long q41.1, va_rf w0]) (r2 := (some (.long q41.1))) (h1 := q41.2) dX7_shareOut_41 (ok_X5_at e41) (sc_X7_shareOut_X5_at) wd_508 wd_400 wd_401 (ci := 5) (q0 := (RX5, TX5, 2)) rfl (by decide) rfl f41 rfl rfl (ym_st4 (Nat.le_of_ble_eq_true rfl)) rfl ?_
    refine ym_l2i (pc := 44) dX7_shareOut_44 ?_
    refine ym_iload (pc := 45) 5 dX7_shareOut_45 rfl ?_
    refine ym_i2l (pc := 47) dX7_shareOut_47 ?_
    refine ym_lload (pc := 48) 4 dX7_shareOut_48 rfl ?_
    by_cases c50 : w7 ≤ (Int32.toInt64 w9)
    · rw [if_pos c50] at hf
      refine ym_lcmp_ge_y (pc := 50) (tgt := 61) dX7_shareOut_50 dX7_shareOut_51 (by decide) c50 ?_
      refine ym_lload (pc := 61) 3 dX7_shareOut_61 rfl ?_
      exact ym_sub [0, 1, 2, 3, 4, 5] rfl (ob_X7_shareOut_63_29 hKl hf k)
    · rw [if_neg c50] at hf
      refine ym_lcmp_ge_n (pc := 50) (tgt := 61) dX7_shareOut_50 dX7_shareOut_51 (by decide) c50 ?_
      refine ym_lload (pc := 54) 3 dX7_shareOut_54 rfl ?_
      refine ym_lconst (pc := 56) (v := 1) dX7_shareOut_56 (by decide) ?_
      refine ym_ladd (pc := 57) dX7_shareOut_57 ?_
      refine ym_goto (pc := 58) (tgt := 63) dX7_shareOut_58 (by decide) ?_
      exact ym_sub [0, 1, 2, 3, 4, 5] rfl (ob_X7_shareOut_63_29 hKl hf k)
def lp_X7_shareOut_29 (N : Nat) : Nat → Option Nat → Option Nat → Int32 → Int64 → Int64 → Int32 → ym_H → Option ((Unit) × ym_H)
  | 0, _, _, _, _, _, _, _ => none
  | n + 1, w0, w1, w4, w5, w7, w9, h => lb_X7_shareOut_29 (lp_X7_shareOut_29 N n) N w0 w1 w4 w5 w7 w9 h
set_option maxRecDepth 20000 in
set_option maxHeartbeats 4000000 in
theorem ok_lp_X7_shareOut_29 {D : ym_D} {b0 : Nat} {N : Nat}  : ∀ (n : Nat) (w0 : Option Nat) (w1 : Option Nat) (w4 : Int32) (w5 : Int64) (w7 : Int64) (w9 : Int32) (h h1 : ym_H) (x : (Unit)), lp_X7_shareOut_29 N n w0 w1 w4 w5 w7 w9 h = some (x, h1) → ∀ {r0 : Option Value} {h' : ym_H}, ym_Y D b0 g_X7_shareOut 7 72 [] [] h1 r0 h' → ym_Y D b0 g_X7_shareOut 7 29 [(0, va_rf w0), (1, va_rf w1), (4, .int w4), (5, .long w5), (7, .long w7), (9, .int w9)] [] h r0 h' := by
  intro n
  induction n with
  | zero =>
    intro w0 w1 w4 w5 w7 w9 h h1 x hf
    cases hf
  | succ n ih =>
    intro w0 w1 w4 w5 w7 w9 h h1 x hf r0 h' k
    exact ol_X7_shareOut_29 (fun w0 w1 w4 w5 w7 w9 h h1 x z r0 h' k => ih w0 w1 w4 w5 w7 w9 h h1 x z k) hf k
def fn_X7_shareOut (N : Nat) (a0 : Option Nat) (a1 : Option Nat) (a2 : Int64) (h : ym_H) : Option (Unit × ym_H) :=
  Option.bind (ym_ob h a1 5) fun o1 =>
  Option.bind (fn_X5_rows N a1 h) fun q1 =>
  if 0 < q1.1 then
    if (Int32.toInt64 q1.1) = 0 then none else
    if (Int32.toInt64 q1.1) = 0 then none else
    Option.bind (lp_X7_shareOut_29 N N a0 a1 q1.1 (a2 / (Int32.toInt64 q1.1)) (a2 - a2 / (Int32.toInt64 q1.1) * (Int32.toInt64 q1.1)) 0 q1.2) fun q29 =>
    some ((), q29.2)
  else
    some ((), q1.2)
set_option maxRecDepth 20000 in
set_option maxHeartbeats 4000000 in
theorem ok_X7_shareOut {D : ym_D} {b0 : Nat} {N : Nat} {a0 : Option Nat} {a1 : Option Nat} {a2 : Int64} {h h' : ym_H} {r : Unit} (hf : fn_X7_shareOut N a0 a1 a2 h = some (r, h')) : ym_M D b0 g_X7_shareOut 7 [va_rf a0, va_rf a1, .long a2] h none h' := by
  unfold fn_X7_shareOut at hf
  refine ym_meth (lv := [(0, va_rf a0), (1, va_rf a1), (2, .long a2)]) (by decide) (by simp [lg_sl, ym_c1, ym_cI, ym_cL, g_X7_shareOut]) (by simp [lv_args, ym_c1, ym_cI, ym_cL]) ?_
  refine ym_aload_n (pc := 0) 1 dX7_shareOut_0 rfl rfl ?_
  obtain ⟨o1, f1, hf⟩ := Option.bind_eq_some_iff.mp hf
  obtain ⟨q1, e1, hf⟩ := Option.bind_eq_some_iff.mp hf
  refine ym_callV (pc := 1) (G2 := g_X5_rows) (dep2 := 2) (As := []) (st := []) (stk2 := [.int q1.1]) (r2 := (some (.int q1.1))) (h1 := q1.2) dX7_shareOut_1 (ok_X5_rows e1) (sc_X7_shareOut_X5_rows) wd_403 wd_395 wd_396 (ci := 5) (q0 := (RX5, TX5, 2)) rfl (by decide) rfl f1 rfl rfl (ym_st4 (Nat.le_of_ble_eq_true rfl)) rfl ?_
  refine ym_istore (pc := 4) (lv' := [(4, .int q1.1), (0, va_rf a0), (1, va_rf a1), (2, .long a2)]) dX7_shareOut_4 (by decide) ⟨trivial, trivial, trivial, trivial⟩ rfl ?_
  refine ym_iload (pc := 6) 0 dX7_shareOut_6 rfl ?_
  by_cases c8 : 0 < q1.1
  · rw [if_pos c8] at hf
    refine ym_if_gt_y (pc := 8) (tgt := 12) dX7_shareOut_8 (by decide) c8 ?_
    refine ym_lload_n (pc := 12) 3 dX7_shareOut_12 rfl rfl ?_
    refine ym_iload (pc := 13) 0 dX7_shareOut_13 rfl ?_
    refine ym_i2l (pc := 15) dX7_shareOut_15 ?_
    by_cases z16 : (Int32.toInt64 q1.1) = 0
    · rw [if_pos z16] at hf
      cases hf
    rw [if_neg z16] at hf
    refine ym_ldiv (pc := 16) dX7_shareOut_16 z16 ?_
    refine ym_lstore (pc := 17) (lv' := [(5, .long (a2 / (Int32.toInt64 q1.1))), (4, .int q1.1), (0, va_rf a0), (1, va_rf a1), (2, .long a2)]) dX7_shareOut_17 (by decide) ⟨rfl, trivial, trivial, trivial, trivial⟩ rfl ?_
    refine ym_lload_n (pc := 19) 4 dX7_shareOut_19 rfl rfl ?_
    refine ym_iload (pc := 20) 1 dX7_shareOut_20 rfl ?_
    refine ym_i2l (pc := 22) dX7_shareOut_22 ?_
    by_cases z23 : (Int32.toInt64 q1.1) = 0
    · rw [if_pos z23] at hf
      cases hf
    rw [if_neg z23] at hf
    refine ym_lrem (pc := 23) dX7_shareOut_23 z23 ?_
    refine ym_sub (lv' := [(5, .long (a2 / (Int32.toInt64 q1.1))), (4, .int q1.1), (0, va_rf a0), (1, va_rf a1)]) [0, 1, 2, 3] rfl ?_
    refine ym_lstore (pc := 24) (lv' := [(7, .long (a2 - a2 / (Int32.toInt64 q1.1) * (Int32.toInt64 q1.1))), (5, .long (a2 / (Int32.toInt64 q1.1))), (4, .int q1.1), (0, va_rf a0), (1, va_rf a1)]) dX7_shareOut_24 (by decide) ⟨trivial, trivial, trivial, trivial, trivial⟩ rfl ?_
    refine ym_iconst (pc := 26) (v := 0) dX7_shareOut_26 (by decide) ?_
    refine ym_istore (pc := 27) (lv' := [(9, .int 0), (7, .long (a2 - a2 / (Int32.toInt64 q1.1) * (Int32.toInt64 q1.1))), (5, .long (a2 / (Int32.toInt64 q1.1))), (4, .int q1.1), (0, va_rf a0), (1, va_rf a1)]) dX7_shareOut_27 (by decide) ⟨trivial, trivial, trivial, trivial, trivial, trivial⟩ rfl ?_
    obtain ⟨q29, e29, hf⟩ := Option.bind_eq_some_iff.mp hf
    refine ym_sub (lv' := [(0, va_rf a0), (1, va_rf a1), (4, .int q1.1), (5, .long (a2 / (Int32.toInt64 q1.1))), (7, .long (a2 - a2 / (Int32.toInt64 q1.1) * (Int32.toInt64 q1.1))), (9, .int 0)]) [4, 5, 3, 2, 1, 0] rfl ?_
    refine ok_lp_X7_shareOut_29 N _ _ _ _ _ _ _ _ _ e29 ?_
    cases hf
    exact ym_vret (pc := 72) dX7_shareOut_72 rfl
  · rw [if_neg c8] at hf
    refine ym_if_gt_n (pc := 8) (tgt := 12) dX7_shareOut_8 (by decide) c8 ?_
    cases hf
    exact ym_vret (pc := 11) dX7_shareOut_11 rfl
theorem dX7_finish_0 : decode cX7_finish 0 = .ok (.aload_n 1, 1) := by decide +kernel
theorem dX7_finish_1 : decode cX7_finish 1 = .ok (.getfield 129, 3) := by decide +kernel
theorem dX7_finish_4 : decode cX7_finish 4 = .ok (.iconst 2, 1) := by decide +kernel
theorem dX7_finish_5 : decode cX7_finish 5 = .ok (.lload_n 2, 1) := by decide +kernel
theorem dX7_finish_6 : decode cX7_finish 6 = .ok (.lconst 0, 1) := by decide +kernel
theorem dX7_finish_7 : decode cX7_finish 7 = .ok (.lcmp, 1) := by decide +kernel
theorem dX7_finish_8 : decode cX7_finish 8 = .ok (.ifCond .le 9, 3) := by decide +kernel
theorem dX7_finish_11 : decode cX7_finish 11 = .ok (.ldc2_w 313, 3) := by decide +kernel
theorem dX7_finish_14 : decode cX7_finish 14 = .ok (.goto 6, 3) := by decide +kernel
theorem dX7_finish_17 : decode cX7_finish 17 = .ok (.ldc2_w 347, 3) := by decide +kernel
theorem dX7_finish_20 : decode cX7_finish 20 = .ok (.invokevirtual 76, 3) := by decide +kernel
theorem dX7_finish_23 : decode cX7_finish 23 = .ok (.lload_n 2, 1) := by decide +kernel
theorem dX7_finish_24 : decode cX7_finish 24 = .ok (.lconst 0, 1) := by decide +kernel
theorem dX7_finish_25 : decode cX7_finish 25 = .ok (.lcmp, 1) := by decide +kernel
theorem dX7_finish_26 : decode cX7_finish 26 = .ok (.ifCond .gt 4, 3) := by decide +kernel
theorem dX7_finish_29 : decode cX7_finish 29 = .ok (.return_, 1) := by decide +kernel
theorem dX7_finish_30 : decode cX7_finish 30 = .ok (.aload_n 0, 1) := by decide +kernel
theorem dX7_finish_31 : decode cX7_finish 31 = .ok (.getfield 34, 3) := by decide +kernel
theorem dX7_finish_34 : decode cX7_finish 34 = .ok (.lload_n 2, 1) := by decide +kernel
theorem dX7_finish_35 : decode cX7_finish 35 = .ok (.invokevirtual 349, 3) := by decide +kernel
theorem dX7_finish_38 : decode cX7_finish 38 = .ok (.invokestatic 352, 3) := by decide +kernel
theorem dX7_finish_41 : decode cX7_finish 41 = .ok (.lstore 4, 2) := by decide +kernel
theorem dX7_finish_43 : decode cX7_finish 43 = .ok (.lload_n 2, 1) := by decide +kernel
theorem dX7_finish_44 : decode cX7_finish 44 = .ok (.lload 4, 2) := by decide +kernel
theorem dX7_finish_46 : decode cX7_finish 46 = .ok (.ladd, 1) := by decide +kernel
theorem dX7_finish_47 : decode cX7_finish 47 = .ok (.aload_n 0, 1) := by decide +kernel
theorem dX7_finish_48 : decode cX7_finish 48 = .ok (.getfield 21, 3) := by decide +kernel
theorem dX7_finish_51 : decode cX7_finish 51 = .ok (.iconst 5, 1) := by decide +kernel
theorem dX7_finish_52 : decode cX7_finish 52 = .ok (.aload_n 1, 1) := by decide +kernel
theorem dX7_finish_53 : decode cX7_finish 53 = .ok (.getfield 137, 3) := by decide +kernel
theorem dX7_finish_56 : decode cX7_finish 56 = .ok (.iadd, 1) := by decide +kernel
theorem dX7_finish_57 : decode cX7_finish 57 = .ok (.invokevirtual 130, 3) := by decide +kernel
theorem dX7_finish_60 : decode cX7_finish 60 = .ok (.lmul, 1) := by decide +kernel
theorem dX7_finish_61 : decode cX7_finish 61 = .ok (.invokestatic 352, 3) := by decide +kernel
theorem dX7_finish_64 : decode cX7_finish 64 = .ok (.lstore 6, 2) := by decide +kernel
theorem dX7_finish_66 : decode cX7_finish 66 = .ok (.lload_n 2, 1) := by decide +kernel
theorem dX7_finish_67 : decode cX7_finish 67 = .ok (.aload_n 1, 1) := by decide +kernel
theorem dX7_finish_68 : decode cX7_finish 68 = .ok (.getfield 129, 3) := by decide +kernel
theorem dX7_finish_71 : decode cX7_finish 71 = .ok (.iconst 1, 1) := by decide +kernel
theorem dX7_finish_72 : decode cX7_finish 72 = .ok (.invokevirtual 130, 3) := by decide +kernel
theorem dX7_finish_75 : decode cX7_finish 75 = .ok (.lmul, 1) := by decide +kernel
theorem dX7_finish_76 : decode cX7_finish 76 = .ok (.invokestatic 352, 3) := by decide +kernel
theorem dX7_finish_79 : decode cX7_finish 79 = .ok (.lstore 8, 2) := by decide +kernel
theorem dX7_finish_81 : decode cX7_finish 81 = .ok (.aload_n 0, 1) := by decide +kernel
theorem dX7_finish_82 : decode cX7_finish 82 = .ok (.aload_n 1, 1) := by decide +kernel
theorem dX7_finish_83 : decode cX7_finish 83 = .ok (.invokevirtual 201, 3) := by decide +kernel
theorem dX7_finish_86 : decode cX7_finish 86 = .ok (.lload_n 2, 1) := by decide +kernel
theorem dX7_finish_87 : decode cX7_finish 87 = .ok (.lload 4, 2) := by decide +kernel
theorem dX7_finish_89 : decode cX7_finish 89 = .ok (.ladd, 1) := by decide +kernel
theorem dX7_finish_90 : decode cX7_finish 90 = .ok (.lload 6, 2) := by decide +kernel
theorem dX7_finish_92 : decode cX7_finish 92 = .ok (.ladd, 1) := by decide +kernel
theorem dX7_finish_93 : decode cX7_finish 93 = .ok (.lneg, 1) := by decide +kernel
theorem dX7_finish_94 : decode cX7_finish 94 = .ok (.invokevirtual 355, 3) := by decide +kernel
theorem dX7_finish_97 : decode cX7_finish 97 = .ok (.aload_n 0, 1) := by decide +kernel
theorem dX7_finish_98 : decode cX7_finish 98 = .ok (.iconst 2, 1) := by decide +kernel
theorem dX7_finish_99 : decode cX7_finish 99 = .ok (.lload 4, 2) := by decide +kernel
theorem dX7_finish_101 : decode cX7_finish 101 = .ok (.lload 8, 2) := by decide +kernel
theorem dX7_finish_103 : decode cX7_finish 103 = .ok (.ladd, 1) := by decide +kernel
theorem dX7_finish_104 : decode cX7_finish 104 = .ok (.invokevirtual 255, 3) := by decide +kernel
theorem dX7_finish_107 : decode cX7_finish 107 = .ok (.aload_n 0, 1) := by decide +kernel
theorem dX7_finish_108 : decode cX7_finish 108 = .ok (.iconst 3, 1) := by decide +kernel
theorem dX7_finish_109 : decode cX7_finish 109 = .ok (.lload 6, 2) := by decide +kernel
theorem dX7_finish_111 : decode cX7_finish 111 = .ok (.invokevirtual 255, 3) := by decide +kernel
theorem dX7_finish_114 : decode cX7_finish 114 = .ok (.aload_n 0, 1) := by decide +kernel
theorem dX7_finish_115 : decode cX7_finish 115 = .ok (.aload_n 1, 1) := by decide +kernel
theorem dX7_finish_116 : decode cX7_finish 116 = .ok (.getfield 107, 3) := by decide +kernel
theorem dX7_finish_119 : decode cX7_finish 119 = .ok (.lload_n 2, 1) := by decide +kernel
theorem dX7_finish_120 : decode cX7_finish 120 = .ok (.lload 8, 2) := by decide +kernel
theorem dX7_finish_122 : decode cX7_finish 122 = .ok (.lsub, 1) := by decide +kernel
theorem dX7_finish_123 : decode cX7_finish 123 = .ok (.invokevirtual 358, 3) := by decide +kernel
theorem dX7_finish_126 : decode cX7_finish 126 = .ok (.return_, 1) := by decide +kernel
theorem sc_X7_finish_X2_put : ym_site g_X7_finish g_X2_put 8 4 2 := ⟨by decide, by decide, wd_284, wd_78, by decide +kernel⟩
theorem sc_X7_finish_X6_premiumTimesRate : ym_site g_X7_finish g_X6_premiumTimesRate 8 3 1 := ⟨by decide, by decide, wd_662, wd_80, by decide +kernel⟩
theorem sc_X7_finish_X7_evenCents : ym_site g_X7_finish g_X7_evenCents 8 1 1 := ⟨by decide, by decide, wd_666, wd_76, by decide +kernel⟩
theorem sc_X7_finish_X2_get : ym_site g_X7_finish g_X2_get 8 1 1 := ⟨by decide, by decide, wd_256, wd_78, by decide +kernel⟩
theorem sc_X7_finish_X4_standingBidder : ym_site g_X7_finish g_X4_standingBidder 8 3 0 := ⟨by decide, by decide, wd_512, wd_87, by decide +kernel⟩
theorem sc_X7_finish_X7_bookToBidder : ym_site g_X7_finish g_X7_bookToBidder 8 6 2 := ⟨by decide, by decide, wd_671, wd_76, by decide +kernel⟩
theorem sc_X7_finish_X7_bookTo : ym_site g_X7_finish g_X7_bookTo 8 5 2 := ⟨by decide, by decide, wd_681, wd_76, by decide +kernel⟩
theorem sc_X7_finish_X7_shareOut : ym_site g_X7_finish g_X7_shareOut 8 7 2 := ⟨by decide, by decide, wd_685, wd_76, by decide +kernel⟩
def bl_X7_finish_20 (N : Nat) (w0 : Option Nat) (w1 : Option Nat) (w2 : Int64) (s0 : Int64) (s1 : Int32) (s2 : Option Nat) (h : ym_H) : Option (Unit × ym_H) :=
  Option.bind (ym_ob h s2 2) fun o20 =>
  Option.bind (fn_X2_put N s2 s1 s0 h) fun q20 =>
  if 0 < w2 then
    Option.bind (ym_gR q20.2 w0 7 3) fun v31 =>
    Option.bind (ym_ob q20.2 v31 6) fun o35 =>
    Option.bind (fn_X6_premiumTimesRate N v31 w2 q20.2) fun q35 =>
    Option.bind (fn_X7_evenCents N q35.1 q35.2) fun q38 =>
    Option.bind (ym_gR q38.2 w0 7 1) fun v48 =>
    Option.bind (ym_gI q38.2 w1 4 0) fun v53 =>
    Option.bind (ym_ob q38.2 v48 2) fun o57 =>
    Option.bind (fn_X2_get N v48 (5 + v53) q38.2) fun q57 =>
    Option.bind (fn_X7_evenCents N ((w2 + q38.1) * q57.1) q57.2) fun q61 =>
    Option.bind (ym_gR q61.2 w1 4 2) fun v68 =>
    Option.bind (ym_ob q61.2 v68 2) fun o72 =>
    Option.bind (fn_X2_get N v68 1 q61.2) fun q72 =>
    Option.bind (fn_X7_evenCents N (w2 * q72.1) q72.2) fun q76 =>
    Option.bind (ym_ob q76.2 w1 4) fun o83 =>
    Option.bind (fn_X4_standingBidder N w1 q76.2) fun q83 =>
    Option.bind (ym_ob q83.2 w0 7) fun o94 =>
    Option.bind (fn_X7_bookToBidder N w0 q83.1 (-((w2 + q38.1) + q61.1)) q83.2) fun q94 =>
    Option.bind (ym_ob q94.2 w0 7) fun o104 =>
    Option.bind (fn_X7_bookTo N w0 2 (q38.1 + q76.1) q94.2) fun q104 =>
    Option.bind (ym_ob q104.2 w0 7) fun o111 =>
    Option.bind (fn_X7_bookTo N w0 3 q61.1 q104.2) fun q111 =>
    Option.bind (ym_gR q111.2 w1 4 5) fun v116 =>
    Option.bind (ym_ob q111.2 w0 7) fun o123 =>
    Option.bind (fn_X7_shareOut N w0 v116 (w2 - q76.1) q111.2) fun q123 =>
    some ((), q123.2)
  else
    some ((), q20.2)
set_option maxRecDepth 20000 in
set_option maxHeartbeats 4000000 in
theorem ob_X7_finish_20 {D : ym_D} {b0 : Nat} {N : Nat} {w0 : Option Nat} {w1 : Option Nat} {w2 : Int64} {s0 : Int64} {s1 : Int32} {s2 : Option Nat} {h h' : ym_H} {r : Unit} (hf : bl_X7_finish_20 N w0 w1 w2 s0 s1 s2 h = some (r, h')) : ym_Y D b0 g_X7_finish 8 20 [(0, va_rf w0), (1, va_rf w1), (2, .long w2)] [.long s0, .int s1, va_rf s2] h none h' := by
  unfold bl_X7_finish_20 at hf
  obtain ⟨o20, f20, hf⟩ := Option.bind_eq_some_iff.mp hf
  obtain ⟨q20, e20, hf⟩ := Option.bind_eq_some_iff.mp hf
  refine ym_callV (pc := 20) (G2 := g_X2_put) (dep2 := 4) (As := [.int s1, .long s0]) (st := []) (stk2 := []) (r2 := none) (h1 := q20.2) dX7_finish_20 (ok_X2_put e20) (sc_X7_finish_X2_put) wd_281 wd_282 wd_283 (ci := 2) (q0 := (RX2, TX2, 2)) rfl (by decide) rfl f20 rfl rfl (ym_st4 (Nat.le_of_ble_eq_true rfl)) rfl ?_
  refine ym_lload_n (pc := 23) 2 dX7_finish_23 rfl rfl ?_
  refine ym_lconst (pc := 24) (v := 0) dX7_finish_24 (by decide) ?_
  by_cases c25 : 0 < w2
  · rw [if_pos c25] at hf
    refine ym_lcmp_gt_y (pc := 25) (tgt := 30) dX7_finish_25 dX7_finish_26 (by decide) c25 ?_
    refine ym_aload_n (pc := 30) 0 dX7_finish_30 rfl rfl ?_
    obtain ⟨v31, e31, hf⟩ := Option.bind_eq_some_iff.mp hf
    refine ym_get (pc := 31) dX7_finish_31 rfl (by decide) iX7 (k := 3) (by decide) wd_189 (ym_gR_v e31) ?_
    refine ym_lload_n (pc := 34) 2 dX7_finish_34 rfl rfl ?_
    obtain ⟨o35, f35, hf⟩ := Option.bind_eq_some_iff.mp hf
    obtain ⟨q35, e35, hf⟩ := Option.bind_eq_some_iff.mp hf
    refine ym_callV (pc := 35) (G2 := g_X6_premiumTimesRate) (dep2 := 3) (As := [.long w2]) (st := []) (stk2 := [.long q35.1]) (r2 := (some (.long q35.1))) (h1 := q35.2) dX7_finish_35 (ok_X6_premiumTimesRate e35) (sc_X7_finish_X6_premiumTimesRate) wd_659 wd_660 wd_661 (ci := 6) (q0 := (RX6, TX6, 1)) rfl (by decide) rfl f35 rfl rfl (ym_st4 (Nat.le_of_ble_eq_true rfl)) rfl ?_
    obtain ⟨q38, e38, hf⟩ := Option.bind_eq_some_iff.mp hf
    refine ym_callS (pc := 38) (G2 := g_X7_evenCents) (dep2 := 1) (As := [.long q35.1]) (st := []) (stk2 := [.long q38.1]) (r2 := (some (.long q38.1))) (h1 := q38.2) dX7_finish_38 (ok_X7_evenCents e38) (sc_X7_finish_X7_evenCents) wd_664 wd_665 rfl rfl (ym_st4 (Nat.le_of_ble_eq_true rfl)) rfl ?_
    refine ym_lstore (pc := 41) (lv' := [(4, .long q38.1), (0, va_rf w0), (1, va_rf w1), (2, .long w2)]) dX7_finish_41 (by decide) ⟨trivial, trivial, trivial, trivial⟩ rfl ?_
    refine ym_lload_n (pc := 43) 3 dX7_finish_43 rfl rfl ?_
    refine ym_lload (pc := 44) 0 dX7_finish_44 rfl ?_
    refine ym_ladd (pc := 46) dX7_finish_46 ?_
    refine ym_aload_n (pc := 47) 1 dX7_finish_47 rfl rfl ?_
    obtain ⟨v48, e48, hf⟩ := Option.bind_eq_some_iff.mp hf
    refine ym_get (pc := 48) dX7_finish_48 rfl (by decide) iX7 (k := 1) (by decide) wd_187 (ym_gR_v e48) ?_
    refine ym_iconst (pc := 51) (v := 5) dX7_finish_51 (by decide) ?_
    refine ym_aload_n (pc := 52) 2 dX7_finish_52 rfl rfl ?_
    obtain ⟨v53, e53, hf⟩ := Option.bind_eq_some_iff.mp hf
    refine ym_getN (pc := 53) dX7_finish_53 rfl (by decide) iX4 (k := 0) (by decide) wd_340 (ym_gI_v e53) ?_
    refine ym_iadd (pc := 56) dX7_finish_56 ?_
    obtain ⟨o57, f57, hf⟩ := Option.bind_eq_some_iff.mp hf
    obtain ⟨q57, e57, hf⟩ := Option.bind_eq_some_iff.mp hf
    refine ym_callV (pc := 57) (G2 := g_X2_get) (dep2 := 1) (As := [.int (5 + v53)]) (st := [.long (w2 + q38.1)]) (stk2 := [.long q57.1, .long (w2 + q38.1)]) (r2 := (some (.long q57.1))) (h1 := q57.2) dX7_finish_57 (ok_X2_get e57) (sc_X7_finish_X2_get) wd_253 wd_254 wd_255 (ci := 2) (q0 := (RX2, TX2, 2)) rfl (by decide) rfl f57 rfl rfl (ym_st4 (Nat.le_of_ble_eq_true rfl)) rfl ?_
    refine ym_lmul (pc := 60) dX7_finish_60 ?_
    obtain ⟨q61, e61, hf⟩ := Option.bind_eq_some_iff.mp hf
    refine ym_callS (pc := 61) (G2 := g_X7_evenCents) (dep2 := 1) (As := [.long ((w2 + q38.1) * q57.1)]) (st := []) (stk2 := [.long q61.1]) (r2 := (some (.long q61.1))) (h1 := q61.2) dX7_finish_61 (ok_X7_evenCents e61) (sc_X7_finish_X7_evenCents) wd_664 wd_665 rfl rfl (ym_st4 (Nat.le_of_ble_eq_true rfl)) rfl ?_
    refine ym_lstore (pc := 64) (lv' := [(6, .long q61.1), (4, .long q38.1), (0, va_rf w0), (1, va_rf w1), (2, .long w2)]) dX7_finish_64 (by decide) ⟨trivial, trivial, trivial, trivial, trivial⟩ rfl ?_
    refine ym_lload_n (pc := 66) 4 dX7_finish_66 rfl rfl ?_
    refine ym_aload_n (pc := 67) 3 dX7_finish_67 rfl rfl ?_
    obtain ⟨v68, e68, hf⟩ := Option.bind_eq_some_iff.mp hf
    refine ym_getN (pc := 68) dX7_finish_68 rfl (by decide) iX4 (k := 2) (by decide) wd_346 (ym_gR_v e68) ?_
    refine ym_iconst (pc := 71) (v := 1) dX7_finish_71 (by decide) ?_
    obtain ⟨o72, f72, hf⟩ := Option.bind_eq_some_iff.mp hf
    obtain ⟨q72, e72, hf⟩ := Option.bind_eq_some_iff.mp hf
    refine ym_callV (pc := 72) (G2 := g_X2_get) (dep2 := 1) (As := [.int 1]) (st := [.long w2]) (stk2 := [.long q72.1, .long w2]) (r2 := (some (.long q72.1))) (h1 := q72.2) dX7_finish_72 (ok_X2_get e72) (sc_X7_finish_X2_get) wd_253 wd_254 wd_255 (ci := 2) (q0 := (RX2, TX2, 2)) rfl (by decide) rfl f72 rfl rfl (ym_st4 (Nat.le_of_ble_eq_true rfl)) rfl ?_
    refine ym_lmul (pc := 75) dX7_finish_75 ?_
    obtain ⟨q76, e76, hf⟩ := Option.bind_eq_some_iff.mp hf
    refine ym_callS (pc := 76) (G2 := g_X7_evenCents) (dep2 := 1) (As := [.long (w2 * q72.1)]) (st := []) (stk2 := [.long q76.1]) (r2 := (some (.long q76.1))) (h1 := q76.2) dX7_finish_76 (ok_X7_evenCents e76) (sc_X7_finish_X7_evenCents) wd_664 wd_665 rfl rfl (ym_st4 (Nat.le_of_ble_eq_true rfl)) rfl ?_
    refine ym_lstore (pc := 79) (lv' := [(8, .long q76.1), (6, .long q61.1), (4, .long q38.1), (0, va_rf w0), (1, va_rf w1), (2, .long w2)]) dX7_finish_79 (by decide) ⟨trivial, trivial, trivial, trivial, trivial, trivial⟩ rfl ?_
    refine ym_aload_n (pc := 81) 3 dX7_finish_81 rfl rfl ?_
    refine ym_aload_n (pc := 82) 4 dX7_finish_82 rfl rfl ?_
    obtain ⟨o83, f83, hf⟩ := Option.bind_eq_some_iff.mp hf
    obtain ⟨q83, e83, hf⟩ := Option.bind_eq_some_iff.mp hf
    refine ym_callV (pc := 83) (G2 := g_X4_standingBidder) (dep2 := 3) (As := []) (st := [va_rf w0]) (stk2 := [.int q83.1, va_rf w0]) (r2 := (some (.int q83.1))) (h1 := q83.2) dX7_finish_83 (ok_X4_standingBidder e83) (sc_X7_finish_X4_standingBidder) wd_509 wd_510 wd_511 (ci := 4) (q0 := (RX4, TX4, 6)) rfl (by decide) rfl f83 rfl rfl (ym_st4 (Nat.le_of_ble_eq_true rfl)) rfl ?_
    refine ym_lload_n (pc := 86) 5 dX7_finish_86 rfl rfl ?_
    refine ym_lload (pc := 87) 2 dX7_finish_87 rfl ?_
    refine ym_ladd (pc := 89) dX7_finish_89 ?_
    refine ym_lload (pc := 90) 1 dX7_finish_90 rfl ?_
    refine ym_ladd (pc := 92) dX7_finish_92 ?_
    refine ym_lneg (pc := 93) dX7_finish_93 ?_
    obtain ⟨o94, f94, hf⟩ := Option.bind_eq_some_iff.mp hf
    obtain ⟨q94, e94, hf⟩ := Option.bind_eq_some_iff.mp hf
    refine ym_callV (pc := 94) (G2 := g_X7_bookToBidder) (dep2 := 6) (As := [.int q83.1, .long (-((w2 + q38.1) + q61.1))]) (st := []) (stk2 := []) (r2 := none) (h1 := q94.2) dX7_finish_94 (ok_X7_bookToBidder e94) (sc_X7_finish_X7_bookToBidder) wd_668 wd_670 wd_15 (ci := 7) (q0 := (RX7, TX7, 10)) rfl (by decide) rfl f94 rfl rfl (ym_st4 (Nat.le_of_ble_eq_true rfl)) rfl ?_
    refine ym_aload_n (pc := 97) 3 dX7_finish_97 rfl rfl ?_
    refine ym_iconst (pc := 98) (v := 2) dX7_finish_98 (by decide) ?_
    refine ym_lload (pc := 99) 2 dX7_finish_99 rfl ?_
    refine ym_lload (pc := 101) 0 dX7_finish_101 rfl ?_
    refine ym_ladd (pc := 103) dX7_finish_103 ?_
    obtain ⟨o104, f104, hf⟩ := Option.bind_eq_some_iff.mp hf
    obtain ⟨q104, e104, hf⟩ := Option.bind_eq_some_iff.mp hf
    refine ym_callV (pc := 104) (G2 := g_X7_bookTo) (dep2 := 5) (As := [.int 2, .long (q38.1 + q76.1)]) (st := []) (stk2 := []) (r2 := none) (h1 := q104.2) dX7_finish_104 (ok_X7_bookTo e104) (sc_X7_finish_X7_bookTo) wd_678 wd_680 wd_16 (ci := 7) (q0 := (RX7, TX7, 10)) rfl (by decide) rfl f104 rfl rfl (ym_st4 (Nat.le_of_ble_eq_true rfl)) rfl ?_
    refine ym_aload_n (pc := 107) 3 dX7_finish_107 rfl rfl ?_
    refine ym_iconst (pc := 108) (v := 3) dX7_finish_108 (by decide) ?_
    refine ym_lload (pc := 109) 1 dX7_finish_109 rfl ?_
    obtain ⟨o111, f111, hf⟩ := Option.bind_eq_some_iff.mp hf
    obtain ⟨q111, e111, hf⟩ := Option.bind_eq_some_iff.mp hf
    refine ym_callV (pc := 111) (G2 := g_X7_bookTo) (dep2 := 5) (As := [.int 3, .long q61.1]) (st := []) (stk2 := []) (r2 := none) (h1 := q111.2) dX7_finish_111 (ok_X7_bookTo e111) (sc_X7_finish_X7_bookTo) wd_678 wd_680 wd_16 (ci := 7) (q0 := (RX7, TX7, 10)) rfl (by decide) rfl f111 rfl rfl (ym_st4 (Nat.le_of_ble_eq_true rfl)) rfl ?_
    refine ym_aload_n (pc := 114) 3 dX7_finish_114 rfl rfl ?_
    refine ym_aload_n (pc := 115) 4 dX7_finish_115 rfl rfl ?_
    obtain ⟨v116, e116, hf⟩ := Option.bind_eq_some_iff.mp hf
    refine ym_getN (pc := 116) dX7_finish_116 rfl (by decide) iX4 (k := 5) (by decide) wd_353 (ym_gR_v e116) ?_
    refine ym_lload_n (pc := 119) 5 dX7_finish_119 rfl rfl ?_
    refine ym_lload (pc := 120) 0 dX7_finish_120 rfl ?_
    refine ym_lsub (pc := 122) dX7_finish_122 ?_
    obtain ⟨o123, f123, hf⟩ := Option.bind_eq_some_iff.mp hf
    obtain ⟨q123, e123, hf⟩ := Option.bind_eq_some_iff.mp hf
    refine ym_callV (pc := 123) (G2 := g_X7_shareOut) (dep2 := 7) (As := [va_rf v116, .long (w2 - q76.1)]) (st := []) (stk2 := []) (r2 := none) (h1 := q123.2) dX7_finish_123 (ok_X7_shareOut e123) (sc_X7_finish_X7_shareOut) wd_682 wd_684 wd_17 (ci := 7) (q0 := (RX7, TX7, 10)) rfl (by decide) rfl f123 rfl rfl (ym_st4 (Nat.le_of_ble_eq_true rfl)) rfl ?_
    cases hf
    exact ym_vret (pc := 126) dX7_finish_126 rfl
  · rw [if_neg c25] at hf
    refine ym_lcmp_gt_n (pc := 25) (tgt := 30) dX7_finish_25 dX7_finish_26 (by decide) c25 ?_
    cases hf
    exact ym_vret (pc := 29) dX7_finish_29 rfl
def fn_X7_finish (N : Nat) (a0 : Option Nat) (a1 : Option Nat) (a2 : Int64) (h : ym_H) : Option (Unit × ym_H) :=
  Option.bind (ym_gR h a1 4 2) fun v1 =>
  if a2 ≤ 0 then
    bl_X7_finish_20 N a0 a1 a2 3 2 v1 h
  else
    bl_X7_finish_20 N a0 a1 a2 2 2 v1 h
set_option maxRecDepth 20000 in
set_option maxHeartbeats 4000000 in
theorem ok_X7_finish {D : ym_D} {b0 : Nat} {N : Nat} {a0 : Option Nat} {a1 : Option Nat} {a2 : Int64} {h h' : ym_H} {r : Unit} (hf : fn_X7_finish N a0 a1 a2 h = some (r, h')) : ym_M D b0 g_X7_finish 8 [va_rf a0, va_rf a1, .long a2] h none h' := by
  unfold fn_X7_finish at hf
  refine ym_meth (lv := [(0, va_rf a0), (1, va_rf a1), (2, .long a2)]) (by decide) (by simp [lg_sl, ym_c1, ym_cI, ym_cL, g_X7_finish]) (by simp [lv_args, ym_c1, ym_cI, ym_cL]) ?_
  refine ym_aload_n (pc := 0) 1 dX7_finish_0 rfl rfl ?_
  obtain ⟨v1, e1, hf⟩ := Option.bind_eq_some_iff.mp hf
  refine ym_getN (pc := 1) dX7_finish_1 rfl (by decide) iX4 (k := 2) (by decide) wd_346 (ym_gR_v e1) ?_
  refine ym_iconst (pc := 4) (v := 2) dX7_finish_4 (by decide) ?_
  refine ym_lload_n (pc := 5) 2 dX7_finish_5 rfl rfl ?_
  refine ym_lconst (pc := 6) (v := 0) dX7_finish_6 (by decide) ?_
  by_cases c7 : a2 ≤ 0
  · rw [if_pos c7] at hf
    refine ym_lcmp_le_y (pc := 7) (tgt := 17) dX7_finish_7 dX7_finish_8 (by decide) c7 ?_
    refine ym_ldc2 (pc := 17) dX7_finish_17 wd_658 ?_
    exact ym_sub [0, 1, 2] rfl (ob_X7_finish_20 hf)
  · rw [if_neg c7] at hf
    refine ym_lcmp_le_n (pc := 7) (tgt := 17) dX7_finish_7 dX7_finish_8 (by decide) c7 ?_
    refine ym_ldc2 (pc := 11) dX7_finish_11 wd_657 ?_
    refine ym_goto (pc := 14) (tgt := 20) dX7_finish_14 (by decide) ?_
    exact ym_sub [0, 1, 2] rfl (ob_X7_finish_20 hf)
theorem dX7_hammer_0 : decode cX7_hammer 0 = .ok (.aload_n 0, 1) := by decide +kernel
theorem dX7_hammer_1 : decode cX7_hammer 1 = .ok (.invokevirtual 58, 3) := by decide +kernel
theorem dX7_hammer_4 : decode cX7_hammer 4 = .ok (.aload_n 0, 1) := by decide +kernel
theorem dX7_hammer_5 : decode cX7_hammer 5 = .ok (.iload_n 1, 1) := by decide +kernel
theorem dX7_hammer_6 : decode cX7_hammer 6 = .ok (.invokevirtual 89, 3) := by decide +kernel
theorem dX7_hammer_9 : decode cX7_hammer 9 = .ok (.astore_n 2, 1) := by decide +kernel
theorem dX7_hammer_10 : decode cX7_hammer 10 = .ok (.aload_n 2, 1) := by decide +kernel
theorem dX7_hammer_11 : decode cX7_hammer 11 = .ok (.ifnonnull 12, 3) := by decide +kernel
theorem dX7_hammer_14 : decode cX7_hammer 14 = .ok (.aload_n 0, 1) := by decide +kernel
theorem dX7_hammer_15 : decode cX7_hammer 15 = .ok (.iload_n 1, 1) := by decide +kernel
theorem dX7_hammer_16 : decode cX7_hammer 16 = .ok (.invokestatic 93, 3) := by decide +kernel
theorem dX7_hammer_19 : decode cX7_hammer 19 = .ok (.invokevirtual 61, 3) := by decide +kernel
theorem dX7_hammer_22 : decode cX7_hammer 22 = .ok (.lreturn, 1) := by decide +kernel
theorem dX7_hammer_23 : decode cX7_hammer 23 = .ok (.aload_n 2, 1) := by decide +kernel
theorem dX7_hammer_24 : decode cX7_hammer 24 = .ok (.invokevirtual 156, 3) := by decide +kernel
theorem dX7_hammer_27 : decode cX7_hammer 27 = .ok (.ifCond .ne 12, 3) := by decide +kernel
theorem dX7_hammer_30 : decode cX7_hammer 30 = .ok (.aload_n 0, 1) := by decide +kernel
theorem dX7_hammer_31 : decode cX7_hammer 31 = .ok (.aload_n 2, 1) := by decide +kernel
theorem dX7_hammer_32 : decode cX7_hammer 32 = .ok (.invokevirtual 159, 3) := by decide +kernel
theorem dX7_hammer_35 : decode cX7_hammer 35 = .ok (.invokevirtual 61, 3) := by decide +kernel
theorem dX7_hammer_38 : decode cX7_hammer 38 = .ok (.lreturn, 1) := by decide +kernel
theorem dX7_hammer_39 : decode cX7_hammer 39 = .ok (.aload_n 2, 1) := by decide +kernel
theorem dX7_hammer_40 : decode cX7_hammer 40 = .ok (.invokevirtual 222, 3) := by decide +kernel
theorem dX7_hammer_43 : decode cX7_hammer 43 = .ok (.ifCond .eq 10, 3) := by decide +kernel
theorem dX7_hammer_46 : decode cX7_hammer 46 = .ok (.aload_n 0, 1) := by decide +kernel
theorem dX7_hammer_47 : decode cX7_hammer 47 = .ok (.bipush 8, 2) := by decide +kernel
theorem dX7_hammer_49 : decode cX7_hammer 49 = .ok (.invokevirtual 61, 3) := by decide +kernel
theorem dX7_hammer_52 : decode cX7_hammer 52 = .ok (.lreturn, 1) := by decide +kernel
theorem dX7_hammer_53 : decode cX7_hammer 53 = .ok (.aload_n 0, 1) := by decide +kernel
theorem dX7_hammer_54 : decode cX7_hammer 54 = .ok (.getfield 42, 3) := by decide +kernel
theorem dX7_hammer_57 : decode cX7_hammer 57 = .ok (.aload_n 2, 1) := by decide +kernel
theorem dX7_hammer_58 : decode cX7_hammer 58 = .ok (.invokevirtual 225, 3) := by decide +kernel
theorem dX7_hammer_61 : decode cX7_hammer 61 = .ok (.lstore_n 3, 1) := by decide +kernel
theorem dX7_hammer_62 : decode cX7_hammer 62 = .ok (.lload_n 3, 1) := by decide +kernel
theorem dX7_hammer_63 : decode cX7_hammer 63 = .ok (.lconst 0, 1) := by decide +kernel
theorem dX7_hammer_64 : decode cX7_hammer 64 = .ok (.lcmp, 1) := by decide +kernel
theorem dX7_hammer_65 : decode cX7_hammer 65 = .ok (.ifCond .le 19, 3) := by decide +kernel
theorem dX7_hammer_68 : decode cX7_hammer 68 = .ok (.aload_n 2, 1) := by decide +kernel
theorem dX7_hammer_69 : decode cX7_hammer 69 = .ok (.getfield 107, 3) := by decide +kernel
theorem dX7_hammer_72 : decode cX7_hammer 72 = .ok (.invokevirtual 116, 3) := by decide +kernel
theorem dX7_hammer_75 : decode cX7_hammer 75 = .ok (.ifCond .ne 9, 3) := by decide +kernel
theorem dX7_hammer_78 : decode cX7_hammer 78 = .ok (.aload_n 0, 1) := by decide +kernel
theorem dX7_hammer_79 : decode cX7_hammer 79 = .ok (.iconst 5, 1) := by decide +kernel
theorem dX7_hammer_80 : decode cX7_hammer 80 = .ok (.invokevirtual 61, 3) := by decide +kernel
theorem dX7_hammer_83 : decode cX7_hammer 83 = .ok (.lreturn, 1) := by decide +kernel
theorem dX7_hammer_84 : decode cX7_hammer 84 = .ok (.aload_n 0, 1) := by decide +kernel
theorem dX7_hammer_85 : decode cX7_hammer 85 = .ok (.aload_n 2, 1) := by decide +kernel
theorem dX7_hammer_86 : decode cX7_hammer 86 = .ok (.lload_n 3, 1) := by decide +kernel
theorem dX7_hammer_87 : decode cX7_hammer 87 = .ok (.invokevirtual 228, 3) := by decide +kernel
theorem dX7_hammer_90 : decode cX7_hammer 90 = .ok (.lload_n 3, 1) := by decide +kernel
theorem dX7_hammer_91 : decode cX7_hammer 91 = .ok (.lreturn, 1) := by decide +kernel
theorem sc_X7_hammer_X7_startAct : ym_site g_X7_hammer g_X7_startAct 9 2 0 := ⟨by decide, by decide, wd_224, wd_76, by decide +kernel⟩
theorem sc_X7_hammer_X7_lotAt : ym_site g_X7_hammer g_X7_lotAt 9 3 1 := ⟨by decide, by decide, wd_374, wd_76, by decide +kernel⟩
theorem sc_X7_hammer_X7_whyNoLot : ym_site g_X7_hammer g_X7_whyNoLot 9 1 1 := ⟨by decide, by decide, wd_377, wd_76, by decide +kernel⟩
theorem sc_X7_hammer_X7_refuse : ym_site g_X7_hammer g_X7_refuse 9 4 1 := ⟨by decide, by decide, wd_232, wd_76, by decide +kernel⟩
theorem sc_X7_hammer_X4_isOpen : ym_site g_X7_hammer g_X4_isOpen 9 3 0 := ⟨by decide, by decide, wd_538, wd_87, by decide +kernel⟩
theorem sc_X7_hammer_X4_whyNotOpen : ym_site g_X7_hammer g_X4_whyNotOpen 9 4 0 := ⟨by decide, by decide, wd_543, wd_87, by decide +kernel⟩
theorem sc_X7_hammer_X4_isJoined : ym_site g_X7_hammer g_X4_isJoined 9 2 0 := ⟨by decide, by decide, wd_644, wd_87, by decide +kernel⟩
theorem sc_X7_hammer_X1_bringsIfSold : ym_site g_X7_hammer g_X1_bringsIfSold 9 5 1 := ⟨by decide, by decide, wd_648, wd_82, by decide +kernel⟩
theorem sc_X7_hammer_X7_finish : ym_site g_X7_hammer g_X7_finish 9 8 2 := ⟨by decide, by decide, wd_656, wd_76, by decide +kernel⟩
def bl_X7_hammer_84 (N : Nat) (w0 : Option Nat) (w2 : Option Nat) (w3 : Int64) (h : ym_H) : Option (Int64 × ym_H) :=
  Option.bind (ym_ob h w0 7) fun o87 =>
  Option.bind (fn_X7_finish N w0 w2 w3 h) fun q87 =>
  some (w3, q87.2)
set_option maxRecDepth 20000 in
set_option maxHeartbeats 4000000 in
theorem ob_X7_hammer_84 {D : ym_D} {b0 : Nat} {N : Nat} {w0 : Option Nat} {w2 : Option Nat} {w3 : Int64} {h h' : ym_H} {r : Int64} (hf : bl_X7_hammer_84 N w0 w2 w3 h = some (r, h')) : ym_Y D b0 g_X7_hammer 9 84 [(0, va_rf w0), (2, va_rf w2), (3, .long w3)] [] h (some (.long r)) h' := by
  unfold bl_X7_hammer_84 at hf
  refine ym_aload_n (pc := 84) 0 dX7_hammer_84 rfl rfl ?_
  refine ym_aload_n (pc := 85) 1 dX7_hammer_85 rfl rfl ?_
  refine ym_lload_n (pc := 86) 2 dX7_hammer_86 rfl rfl ?_
  obtain ⟨o87, f87, hf⟩ := Option.bind_eq_some_iff.mp hf
  obtain ⟨q87, e87, hf⟩ := Option.bind_eq_some_iff.mp hf
  refine ym_callV (pc := 87) (G2 := g_X7_finish) (dep2 := 8) (As := [va_rf w2, .long w3]) (st := []) (stk2 := []) (r2 := none) (h1 := q87.2) dX7_hammer_87 (ok_X7_finish e87) (sc_X7_hammer_X7_finish) wd_653 wd_655 wd_14 (ci := 7) (q0 := (RX7, TX7, 10)) rfl (by decide) rfl f87 rfl rfl (ym_st4 (Nat.le_of_ble_eq_true rfl)) rfl ?_
  refine ym_lload_n (pc := 90) 2 dX7_hammer_90 rfl rfl ?_
  cases hf
  exact ym_lret (pc := 91) dX7_hammer_91 rfl
theorem sc_X7_hammer_X5_rows : ym_site g_X7_hammer g_X5_rows 9 2 0 := ⟨by decide, by decide, wd_397, wd_81, by decide +kernel⟩
def fn_X7_hammer (N : Nat) (a0 : Option Nat) (a1 : Int32) (h : ym_H) : Option (Int64 × ym_H) :=
  Option.bind (ym_ob h a0 7) fun o1 =>
  Option.bind (fn_X7_startAct N a0 h) fun q1 =>
  Option.bind (ym_ob q1.2 a0 7) fun o6 =>
  Option.bind (fn_X7_lotAt N a0 a1 q1.2) fun q6 =>
  if q6.1 = none then
    Option.bind (fn_X7_whyNoLot N a1 q6.2) fun q16 =>
    Option.bind (ym_ob q16.2 a0 7) fun o19 =>
    Option.bind (fn_X7_refuse N a0 q16.1 q16.2) fun q19 =>
    some (q19.1, q19.2)
  else
    Option.bind (ym_ob q6.2 q6.1 4) fun o24 =>
    Option.bind (fn_X4_isOpen N q6.1 q6.2) fun q24 =>
    if q24.1 = 0 then
      Option.bind (ym_ob q24.2 q6.1 4) fun o32 =>
      Option.bind (fn_X4_whyNotOpen N q6.1 q24.2) fun q32 =>
      Option.bind (ym_ob q32.2 a0 7) fun o35 =>
      Option.bind (fn_X7_refuse N a0 q32.1 q32.2) fun q35 =>
      some (q35.1, q35.2)
    else
      Option.bind (ym_ob q24.2 q6.1 4) fun o40 =>
      Option.bind (fn_X4_isJoined N q6.1 q24.2) fun q40 =>
      if q40.1 = 0 then
        Option.bind (ym_gR q40.2 a0 7 4) fun v54 =>
        Option.bind (ym_ob q40.2 v54 1) fun o58 =>
        Option.bind (fn_X1_bringsIfSold N v54 q6.1 q40.2) fun q58 =>
        if q58.1 ≤ 0 then
          bl_X7_hammer_84 N a0 q6.1 q58.1 q58.2
        else
          Option.bind (ym_gR q58.2 q6.1 4 5) fun v69 =>
          Option.bind (ym_ob q58.2 v69 5) fun o72 =>
          Option.bind (fn_X5_rows N v69 q58.2) fun q72 =>
          if q72.1 = 0 then
            Option.bind (ym_ob q72.2 a0 7) fun o80 =>
            Option.bind (fn_X7_refuse N a0 5 q72.2) fun q80 =>
            some (q80.1, q80.2)
          else
            bl_X7_hammer_84 N a0 q6.1 q58.1 q72.2
      else
        Option.bind (ym_ob q40.2 a0 7) fun o49 =>
        Option.bind (fn_X7_refuse N a0 8 q40.2) fun q49 =>
        some (q49.1, q49.2)
set_option maxRecDepth 20000 in
set_option maxHeartbeats 4000000 in
theorem ok_X7_hammer {D : ym_D} {b0 : Nat} {N : Nat} {a0 : Option Nat} {a1 : Int32} {h h' : ym_H} {r : Int64} (hf : fn_X7_hammer N a0 a1 h = some (r, h')) : ym_M D b0 g_X7_hammer 9 [va_rf a0, .int a1] h (some (.long r)) h' := by
  unfold fn_X7_hammer at hf
  refine ym_meth (lv := [(0, va_rf a0), (1, .int a1)]) (by decide) (by simp [lg_sl, ym_c1, ym_cI, ym_cL, g_X7_hammer]) (by simp [lv_args, ym_c1, ym_cI, ym_cL]) ?_
  refine ym_aload_n (pc := 0) 0 dX7_hammer_0 rfl rfl ?_
  obtain ⟨o1, f1, hf⟩ := Option.bind_eq_some_iff.mp hf
  obtain ⟨q1, e1, hf⟩ := Option.bind_eq_some_iff.mp hf
  refine ym_callV (pc := 1) (G2 := g_X7_startAct) (dep2 := 2) (As := []) (st := []) (stk2 := []) (r2 := none) (h1 := q1.2) dX7_hammer_1 (ok_X7_startAct e1) (sc_X7_hammer_X7_startAct) wd_221 wd_223 wd_0 (ci := 7) (q0 := (RX7, TX7, 10)) rfl (by decide) rfl f1 rfl rfl (ym_st4 (Nat.le_of_ble_eq_true rfl)) rfl ?_
  refine ym_aload_n (pc := 4) 0 dX7_hammer_4 rfl rfl ?_
  refine ym_iload_n (pc := 5) 1 dX7_hammer_5 rfl rfl ?_
  obtain ⟨o6, f6, hf⟩ := Option.bind_eq_some_iff.mp hf
  obtain ⟨q6, e6, hf⟩ := Option.bind_eq_some_iff.mp hf
  refine ym_callV (pc := 6) (G2 := g_X7_lotAt) (dep2 := 3) (As := [.int a1]) (st := []) (stk2 := [va_rf q6.1]) (r2 := (some (va_rf q6.1))) (h1 := q6.2) dX7_hammer_6 (ok_X7_lotAt e6) (sc_X7_hammer_X7_lotAt) wd_371 wd_373 wd_5 (ci := 7) (q0 := (RX7, TX7, 10)) rfl (by decide) rfl f6 rfl rfl (ym_st4 (Nat.le_of_ble_eq_true rfl)) rfl ?_
  refine ym_astore_n (pc := 9) (lv' := [(2, va_rf q6.1), (0, va_rf a0), (1, .int a1)]) dX7_hammer_9 rfl (by decide) ⟨trivial, rfl, trivial⟩ rfl ?_
  refine ym_aload_n (pc := 10) 0 dX7_hammer_10 rfl rfl ?_
  by_cases c11 : q6.1 = none
  · rw [if_pos c11] at hf
    refine ym_ifnonnull_y (pc := 11) (tgt := 23) dX7_hammer_11 (by decide) c11 ?_
    refine ym_aload_n (pc := 14) 1 dX7_hammer_14 rfl rfl ?_
    refine ym_iload_n (pc := 15) 2 dX7_hammer_15 rfl rfl ?_
    obtain ⟨q16, e16, hf⟩ := Option.bind_eq_some_iff.mp hf
    refine ym_callS (pc := 16) (G2 := g_X7_whyNoLot) (dep2 := 1) (As := [.int a1]) (st := [va_rf a0]) (stk2 := [.int q16.1, va_rf a0]) (r2 := (some (.int q16.1))) (h1 := q16.2) dX7_hammer_16 (ok_X7_whyNoLot e16) (sc_X7_hammer_X7_whyNoLot) wd_375 wd_376 rfl rfl (ym_st4 (Nat.le_of_ble_eq_true rfl)) rfl ?_
    obtain ⟨o19, f19, hf⟩ := Option.bind_eq_some_iff.mp hf
    obtain ⟨q19, e19, hf⟩ := Option.bind_eq_some_iff.mp hf
    refine ym_callV (pc := 19) (G2 := g_X7_refuse) (dep2 := 4) (As := [.int q16.1]) (st := []) (stk2 := [.long q19.1]) (r2 := (some (.long q19.1))) (h1 := q19.2) dX7_hammer_19 (ok_X7_refuse e19) (sc_X7_hammer_X7_refuse) wd_229 wd_231 wd_1 (ci := 7) (q0 := (RX7, TX7, 10)) rfl (by decide) rfl f19 rfl rfl (ym_st4 (Nat.le_of_ble_eq_true rfl)) rfl ?_
    cases hf
    exact ym_lret (pc := 22) dX7_hammer_22 rfl
  · rw [if_neg c11] at hf
    refine ym_ifnonnull_n (pc := 11) (tgt := 23) dX7_hammer_11 (by decide) c11 ?_
    refine ym_aload_n (pc := 23) 0 dX7_hammer_23 rfl rfl ?_
    obtain ⟨o24, f24, hf⟩ := Option.bind_eq_some_iff.mp hf
    obtain ⟨q24, e24, hf⟩ := Option.bind_eq_some_iff.mp hf
    refine ym_callV (pc := 24) (G2 := g_X4_isOpen) (dep2 := 3) (As := []) (st := []) (stk2 := [.int q24.1]) (r2 := (some (.int q24.1))) (h1 := q24.2) dX7_hammer_24 (ok_X4_isOpen e24) (sc_X7_hammer_X4_isOpen) wd_535 wd_536 wd_537 (ci := 4) (q0 := (RX4, TX4, 6)) rfl (by decide) rfl f24 rfl rfl (ym_st4 (Nat.le_of_ble_eq_true rfl)) rfl ?_
    by_cases c27 : q24.1 = 0
    · rw [if_pos c27] at hf
      refine ym_if_ne_y (pc := 27) (tgt := 39) dX7_hammer_27 (by decide) c27 ?_
      refine ym_aload_n (pc := 30) 1 dX7_hammer_30 rfl rfl ?_
      refine ym_aload_n (pc := 31) 0 dX7_hammer_31 rfl rfl ?_
      obtain ⟨o32, f32, hf⟩ := Option.bind_eq_some_iff.mp hf
      obtain ⟨q32, e32, hf⟩ := Option.bind_eq_some_iff.mp hf
      refine ym_callV (pc := 32) (G2 := g_X4_whyNotOpen) (dep2 := 4) (As := []) (st := [va_rf a0]) (stk2 := [.int q32.1, va_rf a0]) (r2 := (some (.int q32.1))) (h1 := q32.2) dX7_hammer_32 (ok_X4_whyNotOpen e32) (sc_X7_hammer_X4_whyNotOpen) wd_540 wd_541 wd_542 (ci := 4) (q0 := (RX4, TX4, 6)) rfl (by decide) rfl f32 rfl rfl (ym_st4 (Nat.le_of_ble_eq_true rfl)) rfl ?_
      obtain ⟨o35, f35, hf⟩ := Option.bind_eq_some_iff.mp hf
      obtain ⟨q35, e35, hf⟩ := Option.bind_eq_some_iff.mp hf
      refine ym_callV (pc := 35) (G2 := g_X7_refuse) (dep2 := 4) (As := [.int q32.1]) (st := []) (stk2 := [.long q35.1]) (r2 := (some (.long q35.1))) (h1 := q35.2) dX7_hammer_35 (ok_X7_refuse e35) (sc_X7_hammer_X7_refuse) wd_229 wd_231 wd_1 (ci := 7) (q0 := (RX7, TX7, 10)) rfl (by decide) rfl f35 rfl rfl (ym_st4 (Nat.le_of_ble_eq_true rfl)) rfl ?_
      cases hf
      exact ym_lret (pc := 38) dX7_hammer_38 rfl
    · rw [if_neg c27] at hf
      refine ym_if_ne_n (pc := 27) (tgt := 39) dX7_hammer_27 (by decide) c27 ?_
      refine ym_aload_n (pc := 39) 0 dX7_hammer_39 rfl rfl ?_
      obtain ⟨o40, f40, hf⟩ := Option.bind_eq_some_iff.mp hf
      obtain ⟨q40, e40, hf⟩ := Option.bind_eq_some_iff.mp hf
      refine ym_callV (pc := 40) (G2 := g_X4_isJoined) (dep2 := 2) (As := []) (st := []) (stk2 := [.int q40.1]) (r2 := (some (.int q40.1))) (h1 := q40.2) dX7_hammer_40 (ok_X4_isJoined e40) (sc_X7_hammer_X4_isJoined) wd_641 wd_642 wd_643 (ci := 4) (q0 := (RX4, TX4, 6)) rfl (by decide) rfl f40 rfl rfl (ym_st4 (Nat.le_of_ble_eq_true rfl)) rfl ?_
      by_cases c43 : q40.1 = 0
      · rw [if_pos c43] at hf
        refine ym_if_eq_y (pc := 43) (tgt := 53) dX7_hammer_43 (by decide) c43 ?_
        refine ym_aload_n (pc := 53) 1 dX7_hammer_53 rfl rfl ?_
        obtain ⟨v54, e54, hf⟩ := Option.bind_eq_some_iff.mp hf
        refine ym_get (pc := 54) dX7_hammer_54 rfl (by decide) iX7 (k := 4) (by decide) wd_190 (ym_gR_v e54) ?_
        refine ym_aload_n (pc := 57) 0 dX7_hammer_57 rfl rfl ?_
        obtain ⟨o58, f58, hf⟩ := Option.bind_eq_some_iff.mp hf
        obtain ⟨q58, e58, hf⟩ := Option.bind_eq_some_iff.mp hf
        refine ym_callV (pc := 58) (G2 := g_X1_bringsIfSold) (dep2 := 5) (As := [va_rf q6.1]) (st := []) (stk2 := [.long q58.1]) (r2 := (some (.long q58.1))) (h1 := q58.2) dX7_hammer_58 (ok_X1_bringsIfSold e58) (sc_X7_hammer_X1_bringsIfSold) wd_645 wd_646 wd_647 (ci := 1) (q0 := (RX1, TX1, 3)) rfl (by decide) rfl f58 rfl rfl (ym_st4 (Nat.le_of_ble_eq_true rfl)) rfl ?_
        refine ym_sub (lv' := [(2, va_rf q6.1), (0, va_rf a0)]) [0, 1] rfl ?_
        refine ym_lstore_n (pc := 61) (lv' := [(3, .long q58.1), (2, va_rf q6.1), (0, va_rf a0)]) dX7_hammer_61 rfl (by decide) ⟨ym_c1 q6.1, trivial, trivial⟩ rfl ?_
        refine ym_lload_n (pc := 62) 0 dX7_hammer_62 rfl rfl ?_
        refine ym_lconst (pc := 63) (v := 0) dX7_hammer_63 (by decide) ?_
        by_cases c64 : q58.1 ≤ 0
        · rw [if_pos c64] at hf
          refine ym_lcmp_le_y (pc := 64) (tgt := 84) dX7_hammer_64 dX7_hammer_65 (by decide) c64 ?_
          exact ym_sub [2, 1, 0] rfl (ob_X7_hammer_84 hf)
        · rw [if_neg c64] at hf
          refine ym_lcmp_le_n (pc := 64) (tgt := 84) dX7_hammer_64 dX7_hammer_65 (by decide) c64 ?_
          refine ym_aload_n (pc := 68) 1 dX7_hammer_68 rfl rfl ?_
          obtain ⟨v69, e69, hf⟩ := Option.bind_eq_some_iff.mp hf
          refine ym_getN (pc := 69) dX7_hammer_69 rfl (by decide) iX4 (k := 5) (by decide) wd_353 (ym_gR_v e69) ?_
          obtain ⟨o72, f72, hf⟩ := Option.bind_eq_some_iff.mp hf
          obtain ⟨q72, e72, hf⟩ := Option.bind_eq_some_iff.mp hf
          refine ym_callV (pc := 72) (G2 := g_X5_rows) (dep2 := 2) (As := []) (st := []) (stk2 := [.int q72.1]) (r2 := (some (.int q72.1))) (h1 := q72.2) dX7_hammer_72 (ok_X5_rows e72) (sc_X7_hammer_X5_rows) wd_403 wd_395 wd_396 (ci := 5) (q0 := (RX5, TX5, 2)) rfl (by decide) rfl f72 rfl rfl (ym_st4 (Nat.le_of_ble_eq_true rfl)) rfl ?_
          by_cases c75 : q72.1 = 0
          · rw [if_pos c75] at hf
            refine ym_if_ne_y (pc := 75) (tgt := 84) dX7_hammer_75 (by decide) c75 ?_
            refine ym_aload_n (pc := 78) 2 dX7_hammer_78 rfl rfl ?_
            refine ym_iconst (pc := 79) (v := 5) dX7_hammer_79 (by decide) ?_
            obtain ⟨o80, f80, hf⟩ := Option.bind_eq_some_iff.mp hf
            obtain ⟨q80, e80, hf⟩ := Option.bind_eq_some_iff.mp hf
            refine ym_callV (pc := 80) (G2 := g_X7_refuse) (dep2 := 4) (As := [.int 5]) (st := []) (stk2 := [.long q80.1]) (r2 := (some (.long q80.1))) (h1 := q80.2) dX7_hammer_80 (ok_X7_refuse e80) (sc_X7_hammer_X7_refuse) wd_229 wd_231 wd_1 (ci := 7) (q0 := (RX7, TX7, 10)) rfl (by decide) rfl f80 rfl rfl (ym_st4 (Nat.le_of_ble_eq_true rfl)) rfl ?_
            cases hf
            exact ym_lret (pc := 83) dX7_hammer_83 rfl
          · rw [if_neg c75] at hf
            refine ym_if_ne_n (pc := 75) (tgt := 84) dX7_hammer_75 (by decide) c75 ?_
            exact ym_sub [2, 1, 0] rfl (ob_X7_hammer_84 hf)
      · rw [if_neg c43] at hf
        refine ym_if_eq_n (pc := 43) (tgt := 53) dX7_hammer_43 (by decide) c43 ?_
        refine ym_aload_n (pc := 46) 1 dX7_hammer_46 rfl rfl ?_
        refine ym_bipush (pc := 47) (v := 8) dX7_hammer_47 (by decide) ?_
        obtain ⟨o49, f49, hf⟩ := Option.bind_eq_some_iff.mp hf
        obtain ⟨q49, e49, hf⟩ := Option.bind_eq_some_iff.mp hf
        refine ym_callV (pc := 49) (G2 := g_X7_refuse) (dep2 := 4) (As := [.int 8]) (st := []) (stk2 := [.long q49.1]) (r2 := (some (.long q49.1))) (h1 := q49.2) dX7_hammer_49 (ok_X7_refuse e49) (sc_X7_hammer_X7_refuse) wd_229 wd_231 wd_1 (ci := 7) (q0 := (RX7, TX7, 10)) rfl (by decide) rfl f49 rfl rfl (ym_st4 (Nat.le_of_ble_eq_true rfl)) rfl ?_
        cases hf
        exact ym_lret (pc := 52) dX7_hammer_52 rfl
theorem dX7_init_0 : decode cX7_init 0 = .ok (.aload_n 0, 1) := by decide +kernel
theorem dX7_init_1 : decode cX7_init 1 = .ok (.invokespecial 3, 3) := by decide +kernel
theorem dX7_init_4 : decode cX7_init 4 = .ok (.aload_n 0, 1) := by decide +kernel
theorem dX7_init_5 : decode cX7_init 5 = .ok (.new 9, 3) := by decide +kernel
theorem dX7_init_8 : decode cX7_init 8 = .ok (.dup, 1) := by decide +kernel
theorem dX7_init_9 : decode cX7_init 9 = .ok (.invokespecial 11, 3) := by decide +kernel
theorem dX7_init_12 : decode cX7_init 12 = .ok (.putfield 12, 3) := by decide +kernel
theorem dX7_init_15 : decode cX7_init 15 = .ok (.aload_n 0, 1) := by decide +kernel
theorem dX7_init_16 : decode cX7_init 16 = .ok (.new 16, 3) := by decide +kernel
theorem dX7_init_19 : decode cX7_init 19 = .ok (.dup, 1) := by decide +kernel
theorem dX7_init_20 : decode cX7_init 20 = .ok (.aload_n 0, 1) := by decide +kernel
theorem dX7_init_21 : decode cX7_init 21 = .ok (.getfield 12, 3) := by decide +kernel
theorem dX7_init_24 : decode cX7_init 24 = .ok (.bipush 11, 2) := by decide +kernel
theorem dX7_init_26 : decode cX7_init 26 = .ok (.invokespecial 18, 3) := by decide +kernel
theorem dX7_init_29 : decode cX7_init 29 = .ok (.putfield 21, 3) := by decide +kernel
theorem dX7_init_32 : decode cX7_init 32 = .ok (.aload_n 0, 1) := by decide +kernel
theorem dX7_init_33 : decode cX7_init 33 = .ok (.new 25, 3) := by decide +kernel
theorem dX7_init_36 : decode cX7_init 36 = .ok (.dup, 1) := by decide +kernel
theorem dX7_init_37 : decode cX7_init 37 = .ok (.aload_n 0, 1) := by decide +kernel
theorem dX7_init_38 : decode cX7_init 38 = .ok (.getfield 12, 3) := by decide +kernel
theorem dX7_init_41 : decode cX7_init 41 = .ok (.invokespecial 27, 3) := by decide +kernel
theorem dX7_init_44 : decode cX7_init 44 = .ok (.putfield 30, 3) := by decide +kernel
theorem dX7_init_47 : decode cX7_init 47 = .ok (.aload_n 0, 1) := by decide +kernel
theorem dX7_init_48 : decode cX7_init 48 = .ok (.new 25, 3) := by decide +kernel
theorem dX7_init_51 : decode cX7_init 51 = .ok (.dup, 1) := by decide +kernel
theorem dX7_init_52 : decode cX7_init 52 = .ok (.aload_n 0, 1) := by decide +kernel
theorem dX7_init_53 : decode cX7_init 53 = .ok (.getfield 12, 3) := by decide +kernel
theorem dX7_init_56 : decode cX7_init 56 = .ok (.invokespecial 27, 3) := by decide +kernel
theorem dX7_init_59 : decode cX7_init 59 = .ok (.putfield 34, 3) := by decide +kernel
theorem dX7_init_62 : decode cX7_init 62 = .ok (.aload_n 0, 1) := by decide +kernel
theorem dX7_init_63 : decode cX7_init 63 = .ok (.new 37, 3) := by decide +kernel
theorem dX7_init_66 : decode cX7_init 66 = .ok (.dup, 1) := by decide +kernel
theorem dX7_init_67 : decode cX7_init 67 = .ok (.aload_n 0, 1) := by decide +kernel
theorem dX7_init_68 : decode cX7_init 68 = .ok (.getfield 30, 3) := by decide +kernel
theorem dX7_init_71 : decode cX7_init 71 = .ok (.invokespecial 39, 3) := by decide +kernel
theorem dX7_init_74 : decode cX7_init 74 = .ok (.putfield 42, 3) := by decide +kernel
theorem dX7_init_77 : decode cX7_init 77 = .ok (.aload_n 0, 1) := by decide +kernel
theorem dX7_init_78 : decode cX7_init 78 = .ok (.sipush 200, 3) := by decide +kernel
theorem dX7_init_81 : decode cX7_init 81 = .ok (.anewarray 46, 3) := by decide +kernel
theorem dX7_init_84 : decode cX7_init 84 = .ok (.putfield 48, 3) := by decide +kernel
theorem dX7_init_87 : decode cX7_init 87 = .ok (.aload_n 0, 1) := by decide +kernel
theorem dX7_init_88 : decode cX7_init 88 = .ok (.sipush 400, 3) := by decide +kernel
theorem dX7_init_91 : decode cX7_init 91 = .ok (.anewarray 52, 3) := by decide +kernel
theorem dX7_init_94 : decode cX7_init 94 = .ok (.putfield 54, 3) := by decide +kernel
theorem dX7_init_97 : decode cX7_init 97 = .ok (.return_, 1) := by decide +kernel
theorem sc_X7_init_X3_init : ym_site g_X7_init g_X3_init 5 1 0 := ⟨by decide, by decide, wd_100, wd_77, by decide +kernel⟩
theorem sc_X7_init_X2_init : ym_site g_X7_init g_X2_init 5 2 2 := ⟨by decide, by decide, wd_129, wd_78, by decide +kernel⟩
theorem sc_X7_init_X6_init : ym_site g_X7_init g_X6_init 5 4 1 := ⟨by decide, by decide, wd_145, wd_80, by decide +kernel⟩
theorem sc_X7_init_X1_init : ym_site g_X7_init g_X1_init 5 1 1 := ⟨by decide, by decide, wd_170, wd_82, by decide +kernel⟩
def fn_X7_init (N : Nat) (a0 : Option Nat) (h : ym_H) : Option (Unit × ym_H) :=
  Option.bind (ym_ob h a0 7) fun o1 =>
  Option.bind (ym_nO h 6 (.inr (3, [.null, .null, .null, .int 0, .null, .int 0]))) fun h5 =>
  Option.bind (fn_X3_init N (some h.1) h5) fun q9 =>
  Option.bind (ym_pf q9.2 a0 7 0 (va_rf (some h.1))) fun h12 =>
  Option.bind (ym_nO h12 2 (.inr (2, [.null, .null]))) fun h16 =>
  Option.bind (ym_gR h16 a0 7 0) fun v21 =>
  Option.bind (fn_X2_init N (some h12.1) v21 11 h16) fun q26 =>
  Option.bind (ym_pf q26.2 a0 7 1 (va_rf (some h12.1))) fun h29 =>
  Option.bind (ym_nO h29 1 (.inr (6, [.null]))) fun h33 =>
  Option.bind (ym_gR h33 a0 7 0) fun v38 =>
  Option.bind (fn_X6_init N (some h29.1) v38 h33) fun q41 =>
  Option.bind (ym_pf q41.2 a0 7 2 (va_rf (some h29.1))) fun h44 =>
  Option.bind (ym_nO h44 1 (.inr (6, [.null]))) fun h48 =>
  Option.bind (ym_gR h48 a0 7 0) fun v53 =>
  Option.bind (fn_X6_init N (some h44.1) v53 h48) fun q56 =>
  Option.bind (ym_pf q56.2 a0 7 3 (va_rf (some h44.1))) fun h59 =>
  Option.bind (ym_nO h59 3 (.inr (1, [.null, .null, .int 0]))) fun h63 =>
  Option.bind (ym_gR h63 a0 7 2) fun v68 =>
  Option.bind (fn_X1_init N (some h59.1) v68 h63) fun q71 =>
  Option.bind (ym_pf q71.2 a0 7 4 (va_rf (some h59.1))) fun h74 =>
  Option.bind (ym_na h74 5 .null 200) fun h81 =>
  Option.bind (ym_pf h81 a0 7 5 (va_rf (some h74.1))) fun h84 =>
  Option.bind (ym_na h84 4 .null 400) fun h91 =>
  Option.bind (ym_pf h91 a0 7 6 (va_rf (some h84.1))) fun h94 =>
  some ((), h94)
set_option maxRecDepth 20000 in
set_option maxHeartbeats 4000000 in
theorem ok_X7_init {D : ym_D} {b0 : Nat} {N : Nat} {a0 : Option Nat} {h h' : ym_H} {r : Unit} (hf : fn_X7_init N a0 h = some (r, h')) : ym_M D b0 g_X7_init 5 [va_rf a0] h none h' := by
  unfold fn_X7_init at hf
  refine ym_meth (lv := [(0, va_rf a0)]) (by decide) (by simp [lg_sl, ym_c1, ym_cI, ym_cL, g_X7_init]) (by simp [lv_args, ym_c1, ym_cI, ym_cL]) ?_
  refine ym_aload_n (pc := 0) 0 dX7_init_0 rfl rfl ?_
  obtain ⟨o1, e1, hf⟩ := Option.bind_eq_some_iff.mp hf
  refine ym_objInit (pc := 1) dX7_init_1 wd_93 wd_94 wd_95 (by decide) (ym_st4 (Nat.le_of_ble_eq_true rfl)) (ym_ob_ne e1) ?_
  refine ym_aload_n (pc := 4) 0 dX7_init_4 rfl rfl ?_
  obtain ⟨h5, e5, hf⟩ := Option.bind_eq_some_iff.mp hf
  refine ym_newP (pc := 5) (h1 := h5) (ci := 3) [.null, .null, .null, .int 0, .null, .int 0] dX7_init_5 rfl iX3 tyX3 tyX3_ok wd_96 wd_97 wd_77 (by decide +kernel) e5 ?_
  refine ym_dup (pc := 8) dX7_init_8 (ym_c1 (some h.1)) ?_
  obtain ⟨q9, e9, hf⟩ := Option.bind_eq_some_iff.mp hf
  refine ym_callIN (pc := 9) (G2 := g_X3_init) (dep2 := 1) (a := (some h.1)) (As := []) (st := [va_rf (some h.1), va_rf a0]) (stk2 := [va_rf (some h.1), va_rf a0]) (r2 := none) (h1 := q9.2) dX7_init_9 (ok_X3_init e9) (sc_X7_init_X3_init) rfl rfl wd_98 wd_99 (Option.some_ne_none _) rfl rfl (ym_st4 (Nat.le_of_ble_eq_true rfl)) rfl ?_
  obtain ⟨h12, e12, hf⟩ := Option.bind_eq_some_iff.mp hf
  refine ym_putF (pc := 12) (h1 := h12) dX7_init_12 rfl (by decide) iX7 tyX7 tyX7_ok nmX7 (k := 0) (by decide) wd_186 rfl rfl rfl (tyX7_ok 0 (by decide)) (ym_nrO _ _) (ym_fiO _ _) e12 ?_
  refine ym_aload_n (pc := 15) 0 dX7_init_15 rfl rfl ?_
  obtain ⟨h16, e16, hf⟩ := Option.bind_eq_some_iff.mp hf
  refine ym_newP (pc := 16) (h1 := h16) (ci := 2) [.null, .null] dX7_init_16 rfl iX2 tyX2 tyX2_ok wd_125 wd_126 wd_78 (by decide +kernel) e16 ?_
  refine ym_dup (pc := 19) dX7_init_19 (ym_c1 (some h12.1)) ?_
  refine ym_aload_n (pc := 20) 0 dX7_init_20 rfl rfl ?_
  obtain ⟨v21, e21, hf⟩ := Option.bind_eq_some_iff.mp hf
  refine ym_get (pc := 21) dX7_init_21 rfl (by decide) iX7 (k := 0) (by decide) wd_186 (ym_gR_v e21) ?_
  refine ym_bipush (pc := 24) (v := 11) dX7_init_24 (by decide) ?_
  obtain ⟨q26, e26, hf⟩ := Option.bind_eq_some_iff.mp hf
  refine ym_callI (pc := 26) (G2 := g_X2_init) (dep2 := 2) (a := (some h12.1)) (As := [va_rf v21, .int 11]) (st := [va_rf (some h12.1), va_rf a0]) (stk2 := [va_rf (some h12.1), va_rf a0]) (r2 := none) (h1 := q26.2) dX7_init_26 (ok_X2_init e26) (sc_X7_init_X2_init) rfl rfl wd_127 wd_128 (Option.some_ne_none _) rfl rfl (ym_st4 (Nat.le_of_ble_eq_true rfl)) rfl ?_
  obtain ⟨h29, e29, hf⟩ := Option.bind_eq_some_iff.mp hf
  refine ym_putF (pc := 29) (h1 := h29) dX7_init_29 rfl (by decide) iX7 tyX7 tyX7_ok nmX7 (k := 1) (by decide) wd_187 rfl rfl rfl (tyX7_ok 1 (by decide)) (ym_nrO _ _) (ym_fiO _ _) e29 ?_
  refine ym_aload_n (pc := 32) 0 dX7_init_32 rfl rfl ?_
  obtain ⟨h33, e33, hf⟩ := Option.bind_eq_some_iff.mp hf
  refine ym_newP (pc := 33) (h1 := h33) (ci := 6) [.null] dX7_init_33 rfl iX6 tyX6 tyX6_ok wd_141 wd_142 wd_80 (by decide +kernel) e33 ?_
  refine ym_dup (pc := 36) dX7_init_36 (ym_c1 (some h29.1)) ?_
  refine ym_aload_n (pc := 37) 0 dX7_init_37 rfl rfl ?_
  obtain ⟨v38, e38, hf⟩ := Option.bind_eq_some_iff.mp hf
  refine ym_get (pc := 38) dX7_init_38 rfl (by decide) iX7 (k := 0) (by decide) wd_186 (ym_gR_v e38) ?_
  obtain ⟨q41, e41, hf⟩ := Option.bind_eq_some_iff.mp hf
  refine ym_callI (pc := 41) (G2 := g_X6_init) (dep2 := 4) (a := (some h29.1)) (As := [va_rf v38]) (st := [va_rf (some h29.1), va_rf a0]) (stk2 := [va_rf (some h29.1), va_rf a0]) (r2 := none) (h1 := q41.2) dX7_init_41 (ok_X6_init e41) (sc_X7_init_X6_init) rfl rfl wd_143 wd_144 (Option.some_ne_none _) rfl rfl (ym_st4 (Nat.le_of_ble_eq_true rfl)) rfl ?_
  obtain ⟨h44, e44, hf⟩ := Option.bind_eq_some_iff.mp hf
  refine ym_putF (pc := 44) (h1 := h44) dX7_init_44 rfl (by decide) iX7 tyX7 tyX7_ok nmX7 (k := 2) (by decide) wd_188 rfl rfl rfl (tyX7_ok 2 (by decide)) (ym_nrO _ _) (ym_fiO _ _) e44 ?_
  refine ym_aload_n (pc := 47) 0 dX7_init_47 rfl rfl ?_
  obtain ⟨h48, e48, hf⟩ := Option.bind_eq_some_iff.mp hf
  refine ym_newP (pc := 48) (h1 := h48) (ci := 6) [.null] dX7_init_48 rfl iX6 tyX6 tyX6_ok wd_141 wd_142 wd_80 (by decide +kernel) e48 ?_
  refine ym_dup (pc := 51) dX7_init_51 (ym_c1 (some h44.1)) ?_
  refine ym_aload_n (pc := 52) 0 dX7_init_52 rfl rfl ?_
  obtain ⟨v53, e53, hf⟩ := Option.bind_eq_some_iff.mp hf
  refine ym_get (pc := 53) dX7_init_53 rfl (by decide) iX7 (k := 0) (by decide) wd_186 (ym_gR_v e53) ?_
  obtain ⟨q56, e56, hf⟩ := Option.bind_eq_some_iff.mp hf
  refine ym_callI (pc := 56) (G2 := g_X6_init) (dep2 := 4) (a := (some h44.1)) (As := [va_rf v53]) (st := [va_rf (some h44.1), va_rf a0]) (stk2 := [va_rf (some h44.1), va_rf a0]) (r2 := none) (h1 := q56.2) dX7_init_56 (ok_X6_init e56) (sc_X7_init_X6_init) rfl rfl wd_143 wd_144 (Option.some_ne_none _) rfl rfl (ym_st4 (Nat.le_of_ble_eq_true rfl)) rfl ?_
  obtain ⟨h59, e59, hf⟩ := Option.bind_eq_some_iff.mp hf
  refine ym_putF (pc := 59) (h1 := h59) dX7_init_59 rfl (by decide) iX7 tyX7 tyX7_ok nmX7 (k := 3) (by decide) wd_189 rfl rfl rfl (tyX7_ok 3 (by decide)) (ym_nrO _ _) (ym_fiO _ _) e59 ?_
  refine ym_aload_n (pc := 62) 0 dX7_init_62 rfl rfl ?_
  obtain ⟨h63, e63, hf⟩ := Option.bind_eq_some_iff.mp hf
  refine ym_newP (pc := 63) (h1 := h63) (ci := 1) [.null, .null, .int 0] dX7_init_63 rfl iX1 tyX1 tyX1_ok wd_166 wd_167 wd_82 (by decide +kernel) e63 ?_
  refine ym_dup (pc := 66) dX7_init_66 (ym_c1 (some h59.1)) ?_
  refine ym_aload_n (pc := 67) 0 dX7_init_67 rfl rfl ?_
  obtain ⟨v68, e68, hf⟩ := Option.bind_eq_some_iff.mp hf
  refine ym_get (pc := 68) dX7_init_68 rfl (by decide) iX7 (k := 2) (by decide) wd_188 (ym_gR_v e68) ?_
  obtain ⟨q71, e71, hf⟩ := Option.bind_eq_some_iff.mp hf
  refine ym_callI (pc := 71) (G2 := g_X1_init) (dep2 := 1) (a := (some h59.1)) (As := [va_rf v68]) (st := [va_rf (some h59.1), va_rf a0]) (stk2 := [va_rf (some h59.1), va_rf a0]) (r2 := none) (h1 := q71.2) dX7_init_71 (ok_X1_init e71) (sc_X7_init_X1_init) rfl rfl wd_168 wd_169 (Option.some_ne_none _) rfl rfl (ym_st4 (Nat.le_of_ble_eq_true rfl)) rfl ?_
  obtain ⟨h74, e74, hf⟩ := Option.bind_eq_some_iff.mp hf
  refine ym_putF (pc := 74) (h1 := h74) dX7_init_74 rfl (by decide) iX7 tyX7 tyX7_ok nmX7 (k := 4) (by decide) wd_190 rfl rfl rfl (tyX7_ok 4 (by decide)) (ym_nrO _ _) (ym_fiO _ _) e74 ?_
  refine ym_aload_n (pc := 77) 0 dX7_init_77 rfl rfl ?_
  refine ym_sipush (pc := 78) (v := 200) dX7_init_78 (by decide) ?_
  obtain ⟨h81, e81, hf⟩ := Option.bind_eq_some_iff.mp hf
  refine ym_anew (pc := 81) (h1 := h81) dX7_init_81 (t := 5) rfl (by decide) wd_182 wd_183 e81 ?_
  obtain ⟨h84, e84, hf⟩ := Option.bind_eq_some_iff.mp hf
  refine ym_putF (pc := 84) (h1 := h84) dX7_init_84 rfl (by decide) iX7 tyX7 tyX7_ok nmX7 (k := 5) (by decide) wd_191 rfl rfl rfl (tyX7_ok 5 (by decide)) (ym_nrA _ _) (ym_fiA _ _) e84 ?_
  refine ym_aload_n (pc := 87) 0 dX7_init_87 rfl rfl ?_
  refine ym_sipush (pc := 88) (v := 400) dX7_init_88 (by decide) ?_
  obtain ⟨h91, e91, hf⟩ := Option.bind_eq_some_iff.mp hf
  refine ym_anew (pc := 91) (h1 := h91) dX7_init_91 (t := 4) rfl (by decide) wd_184 wd_185 e91 ?_
  obtain ⟨h94, e94, hf⟩ := Option.bind_eq_some_iff.mp hf
  refine ym_putF (pc := 94) (h1 := h94) dX7_init_94 rfl (by decide) iX7 tyX7 tyX7_ok nmX7 (k := 6) (by decide) wd_192 rfl rfl rfl (tyX7_ok 6 (by decide)) (ym_nrA _ _) (ym_fiA _ _) e94 ?_
  cases hf
  exact ym_vret (pc := 97) dX7_init_97 rfl
