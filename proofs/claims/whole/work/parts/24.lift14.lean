theorem dX8_written_0 : decode cX8_written 0 = .ok (.lload_n 3, 1) := by decide +kernel
theorem dX8_written_1 : decode cX8_written 1 = .ok (.invokestatic 335, 3) := by decide +kernel
theorem dX8_written_4 : decode cX8_written 4 = .ok (.ifCond .ne 7, 3) := by decide +kernel
theorem dX8_written_7 : decode cX8_written 7 = .ok (.ldc2_w 331, 3) := by decide +kernel
theorem dX8_written_10 : decode cX8_written 10 = .ok (.lreturn, 1) := by decide +kernel
theorem dX8_written_11 : decode cX8_written 11 = .ok (.aload_n 0, 1) := by decide +kernel
theorem dX8_written_12 : decode cX8_written 12 = .ok (.iload_n 1, 1) := by decide +kernel
theorem dX8_written_13 : decode cX8_written 13 = .ok (.invokevirtual 294, 3) := by decide +kernel
theorem dX8_written_16 : decode cX8_written 16 = .ok (.ifCond .le 11, 3) := by decide +kernel
theorem dX8_written_19 : decode cX8_written 19 = .ok (.aload_n 0, 1) := by decide +kernel
theorem dX8_written_20 : decode cX8_written 20 = .ok (.iload_n 1, 1) := by decide +kernel
theorem dX8_written_21 : decode cX8_written 21 = .ok (.invokevirtual 294, 3) := by decide +kernel
theorem dX8_written_24 : decode cX8_written 24 = .ok (.ineg, 1) := by decide +kernel
theorem dX8_written_25 : decode cX8_written 25 = .ok (.i2l, 1) := by decide +kernel
theorem dX8_written_26 : decode cX8_written 26 = .ok (.lreturn, 1) := by decide +kernel
theorem dX8_written_27 : decode cX8_written 27 = .ok (.aload_n 0, 1) := by decide +kernel
theorem dX8_written_28 : decode cX8_written 28 = .ok (.iload_n 1, 1) := by decide +kernel
theorem dX8_written_29 : decode cX8_written 29 = .ok (.invokevirtual 386, 3) := by decide +kernel
theorem dX8_written_32 : decode cX8_written 32 = .ok (.ifCond .ne 7, 3) := by decide +kernel
theorem dX8_written_35 : decode cX8_written 35 = .ok (.ldc2_w 359, 3) := by decide +kernel
theorem dX8_written_38 : decode cX8_written 38 = .ok (.lreturn, 1) := by decide +kernel
theorem dX8_written_39 : decode cX8_written 39 = .ok (.aload_n 0, 1) := by decide +kernel
theorem dX8_written_40 : decode cX8_written 40 = .ok (.iload_n 2, 1) := by decide +kernel
theorem dX8_written_41 : decode cX8_written 41 = .ok (.invokevirtual 343, 3) := by decide +kernel
theorem dX8_written_44 : decode cX8_written 44 = .ok (.ifCond .le 11, 3) := by decide +kernel
theorem dX8_written_47 : decode cX8_written 47 = .ok (.aload_n 0, 1) := by decide +kernel
theorem dX8_written_48 : decode cX8_written 48 = .ok (.iload_n 2, 1) := by decide +kernel
theorem dX8_written_49 : decode cX8_written 49 = .ok (.invokevirtual 343, 3) := by decide +kernel
theorem dX8_written_52 : decode cX8_written 52 = .ok (.ineg, 1) := by decide +kernel
theorem dX8_written_53 : decode cX8_written 53 = .ok (.i2l, 1) := by decide +kernel
theorem dX8_written_54 : decode cX8_written 54 = .ok (.lreturn, 1) := by decide +kernel
theorem dX8_written_55 : decode cX8_written 55 = .ok (.aload_n 0, 1) := by decide +kernel
theorem dX8_written_56 : decode cX8_written 56 = .ok (.getfield 9, 3) := by decide +kernel
theorem dX8_written_59 : decode cX8_written 59 = .ok (.iload_n 2, 1) := by decide +kernel
theorem dX8_written_60 : decode cX8_written 60 = .ok (.iaload, 1) := by decide +kernel
theorem dX8_written_61 : decode cX8_written 61 = .ok (.iconst 2, 1) := by decide +kernel
theorem dX8_written_62 : decode cX8_written 62 = .ok (.if_icmp .eq 17, 3) := by decide +kernel
theorem dX8_written_65 : decode cX8_written 65 = .ok (.aload_n 0, 1) := by decide +kernel
theorem dX8_written_66 : decode cX8_written 66 = .ok (.getfield 9, 3) := by decide +kernel
theorem dX8_written_69 : decode cX8_written 69 = .ok (.iload_n 2, 1) := by decide +kernel
theorem dX8_written_70 : decode cX8_written 70 = .ok (.iaload, 1) := by decide +kernel
theorem dX8_written_71 : decode cX8_written 71 = .ok (.iconst 3, 1) := by decide +kernel
theorem dX8_written_72 : decode cX8_written 72 = .ok (.if_icmp .eq 7, 3) := by decide +kernel
theorem dX8_written_75 : decode cX8_written 75 = .ok (.ldc2_w 359, 3) := by decide +kernel
theorem dX8_written_78 : decode cX8_written 78 = .ok (.lreturn, 1) := by decide +kernel
theorem dX8_written_79 : decode cX8_written 79 = .ok (.aload_n 0, 1) := by decide +kernel
theorem dX8_written_80 : decode cX8_written 80 = .ok (.getfield 32, 3) := by decide +kernel
theorem dX8_written_83 : decode cX8_written 83 = .ok (.iload_n 1, 1) := by decide +kernel
theorem dX8_written_84 : decode cX8_written 84 = .ok (.iaload, 1) := by decide +kernel
theorem dX8_written_85 : decode cX8_written 85 = .ok (.iconst 1, 1) := by decide +kernel
theorem dX8_written_86 : decode cX8_written 86 = .ok (.if_icmp .le 7, 3) := by decide +kernel
theorem dX8_written_89 : decode cX8_written 89 = .ok (.ldc2_w 346, 3) := by decide +kernel
theorem dX8_written_92 : decode cX8_written 92 = .ok (.lreturn, 1) := by decide +kernel
theorem dX8_written_93 : decode cX8_written 93 = .ok (.aload_n 0, 1) := by decide +kernel
theorem dX8_written_94 : decode cX8_written 94 = .ok (.iload_n 1, 1) := by decide +kernel
theorem dX8_written_95 : decode cX8_written 95 = .ok (.iload_n 2, 1) := by decide +kernel
theorem dX8_written_96 : decode cX8_written 96 = .ok (.invokevirtual 327, 3) := by decide +kernel
theorem dX8_written_99 : decode cX8_written 99 = .ok (.ifCond .lt 7, 3) := by decide +kernel
theorem dX8_written_102 : decode cX8_written 102 = .ok (.ldc2_w 368, 3) := by decide +kernel
theorem dX8_written_105 : decode cX8_written 105 = .ok (.lreturn, 1) := by decide +kernel
theorem dX8_written_106 : decode cX8_written 106 = .ok (.aload_n 0, 1) := by decide +kernel
theorem dX8_written_107 : decode cX8_written 107 = .ok (.iload_n 2, 1) := by decide +kernel
theorem dX8_written_108 : decode cX8_written 108 = .ok (.iload_n 1, 1) := by decide +kernel
theorem dX8_written_109 : decode cX8_written 109 = .ok (.lload_n 3, 1) := by decide +kernel
theorem dX8_written_110 : decode cX8_written 110 = .ok (.invokevirtual 373, 3) := by decide +kernel
theorem dX8_written_113 : decode cX8_written 113 = .ok (.ifCond .ne 7, 3) := by decide +kernel
theorem dX8_written_116 : decode cX8_written 116 = .ok (.ldc2_w 376, 3) := by decide +kernel
theorem dX8_written_119 : decode cX8_written 119 = .ok (.lreturn, 1) := by decide +kernel
theorem dX8_written_120 : decode cX8_written 120 = .ok (.aload_n 0, 1) := by decide +kernel
theorem dX8_written_121 : decode cX8_written 121 = .ok (.getfield 59, 3) := by decide +kernel
theorem dX8_written_124 : decode cX8_written 124 = .ok (.iload_n 1, 1) := by decide +kernel
theorem dX8_written_125 : decode cX8_written 125 = .ok (.iaload, 1) := by decide +kernel
theorem dX8_written_126 : decode cX8_written 126 = .ok (.bipush 40, 2) := by decide +kernel
theorem dX8_written_128 : decode cX8_written 128 = .ok (.if_icmp .eq 15, 3) := by decide +kernel
theorem dX8_written_131 : decode cX8_written 131 = .ok (.aload_n 0, 1) := by decide +kernel
theorem dX8_written_132 : decode cX8_written 132 = .ok (.getfield 44, 3) := by decide +kernel
theorem dX8_written_135 : decode cX8_written 135 = .ok (.iload_n 1, 1) := by decide +kernel
theorem dX8_written_136 : decode cX8_written 136 = .ok (.iaload, 1) := by decide +kernel
theorem dX8_written_137 : decode cX8_written 137 = .ok (.sipush 300, 3) := by decide +kernel
theorem dX8_written_140 : decode cX8_written 140 = .ok (.if_icmp .lt 7, 3) := by decide +kernel
theorem dX8_written_143 : decode cX8_written 143 = .ok (.ldc2_w 333, 3) := by decide +kernel
theorem dX8_written_146 : decode cX8_written 146 = .ok (.lreturn, 1) := by decide +kernel
theorem dX8_written_147 : decode cX8_written 147 = .ok (.aload_n 0, 1) := by decide +kernel
theorem dX8_written_148 : decode cX8_written 148 = .ok (.invokevirtual 378, 3) := by decide +kernel
theorem dX8_written_151 : decode cX8_written 151 = .ok (.istore 5, 2) := by decide +kernel
theorem dX8_written_153 : decode cX8_written 153 = .ok (.bipush 40, 2) := by decide +kernel
theorem dX8_written_155 : decode cX8_written 155 = .ok (.iload_n 1, 1) := by decide +kernel
theorem dX8_written_156 : decode cX8_written 156 = .ok (.imul, 1) := by decide +kernel
theorem dX8_written_157 : decode cX8_written 157 = .ok (.aload_n 0, 1) := by decide +kernel
theorem dX8_written_158 : decode cX8_written 158 = .ok (.getfield 59, 3) := by decide +kernel
theorem dX8_written_161 : decode cX8_written 161 = .ok (.iload_n 1, 1) := by decide +kernel
theorem dX8_written_162 : decode cX8_written 162 = .ok (.iaload, 1) := by decide +kernel
theorem dX8_written_163 : decode cX8_written 163 = .ok (.iadd, 1) := by decide +kernel
theorem dX8_written_164 : decode cX8_written 164 = .ok (.istore 6, 2) := by decide +kernel
theorem dX8_written_166 : decode cX8_written 166 = .ok (.aload_n 0, 1) := by decide +kernel
theorem dX8_written_167 : decode cX8_written 167 = .ok (.getfield 62, 3) := by decide +kernel
theorem dX8_written_170 : decode cX8_written 170 = .ok (.iload 6, 2) := by decide +kernel
theorem dX8_written_172 : decode cX8_written 172 = .ok (.iload_n 2, 1) := by decide +kernel
theorem dX8_written_173 : decode cX8_written 173 = .ok (.iastore, 1) := by decide +kernel
theorem dX8_written_174 : decode cX8_written 174 = .ok (.aload_n 0, 1) := by decide +kernel
theorem dX8_written_175 : decode cX8_written 175 = .ok (.getfield 65, 3) := by decide +kernel
theorem dX8_written_178 : decode cX8_written 178 = .ok (.iload 6, 2) := by decide +kernel
theorem dX8_written_180 : decode cX8_written 180 = .ok (.lload_n 3, 1) := by decide +kernel
theorem dX8_written_181 : decode cX8_written 181 = .ok (.lastore, 1) := by decide +kernel
theorem dX8_written_182 : decode cX8_written 182 = .ok (.aload_n 0, 1) := by decide +kernel
theorem dX8_written_183 : decode cX8_written 183 = .ok (.getfield 68, 3) := by decide +kernel
theorem dX8_written_186 : decode cX8_written 186 = .ok (.iload 6, 2) := by decide +kernel
theorem dX8_written_188 : decode cX8_written 188 = .ok (.iload 5, 2) := by decide +kernel
theorem dX8_written_190 : decode cX8_written 190 = .ok (.iastore, 1) := by decide +kernel
theorem dX8_written_191 : decode cX8_written 191 = .ok (.aload_n 0, 1) := by decide +kernel
theorem dX8_written_192 : decode cX8_written 192 = .ok (.getfield 59, 3) := by decide +kernel
theorem dX8_written_195 : decode cX8_written 195 = .ok (.iload_n 1, 1) := by decide +kernel
theorem dX8_written_196 : decode cX8_written 196 = .ok (.dup2, 1) := by decide +kernel
theorem dX8_written_197 : decode cX8_written 197 = .ok (.iaload, 1) := by decide +kernel
theorem dX8_written_198 : decode cX8_written 198 = .ok (.iconst 1, 1) := by decide +kernel
theorem dX8_written_199 : decode cX8_written 199 = .ok (.iadd, 1) := by decide +kernel
theorem dX8_written_200 : decode cX8_written 200 = .ok (.iastore, 1) := by decide +kernel
theorem dX8_written_201 : decode cX8_written 201 = .ok (.aload_n 0, 1) := by decide +kernel
theorem dX8_written_202 : decode cX8_written 202 = .ok (.getfield 32, 3) := by decide +kernel
theorem dX8_written_205 : decode cX8_written 205 = .ok (.iload_n 1, 1) := by decide +kernel
theorem dX8_written_206 : decode cX8_written 206 = .ok (.iaload, 1) := by decide +kernel
theorem dX8_written_207 : decode cX8_written 207 = .ok (.iconst 1, 1) := by decide +kernel
theorem dX8_written_208 : decode cX8_written 208 = .ok (.if_icmp .ne 8, 3) := by decide +kernel
theorem dX8_written_211 : decode cX8_written 211 = .ok (.aload_n 0, 1) := by decide +kernel
theorem dX8_written_212 : decode cX8_written 212 = .ok (.iload_n 1, 1) := by decide +kernel
theorem dX8_written_213 : decode cX8_written 213 = .ok (.invokevirtual 356, 3) := by decide +kernel
theorem dX8_written_216 : decode cX8_written 216 = .ok (.iload 5, 2) := by decide +kernel
theorem dX8_written_218 : decode cX8_written 218 = .ok (.i2l, 1) := by decide +kernel
theorem dX8_written_219 : decode cX8_written 219 = .ok (.lreturn, 1) := by decide +kernel
theorem sc_X8_written_X8_isSum : ym_site g_X8_written g_X8_isSum 5 1 1 := ⟨by decide, by decide, wd_1046, wd_83, by decide +kernel⟩
theorem sc_X8_written_X8_noLot : ym_site g_X8_written g_X8_noLot 5 1 1 := ⟨by decide, by decide, wd_1058, wd_83, by decide +kernel⟩
theorem sc_X8_written_X8_isPlain : ym_site g_X8_written g_X8_isPlain 5 1 1 := ⟨by decide, by decide, wd_1096, wd_83, by decide +kernel⟩
theorem sc_X8_written_X8_noBidder : ym_site g_X8_written g_X8_noBidder 5 1 1 := ⟨by decide, by decide, wd_1062, wd_83, by decide +kernel⟩
theorem sc_X8_written_X8_limitOf : ym_site g_X8_written g_X8_limitOf 5 1 2 := ⟨by decide, by decide, wd_1161, wd_83, by decide +kernel⟩
theorem sc_X8_written_X8_may : ym_site g_X8_written g_X8_may 5 4 3 := ⟨by decide, by decide, wd_1147, wd_83, by decide +kernel⟩
theorem sc_X8_written_X8_number : ym_site g_X8_written g_X8_number 5 1 0 := ⟨by decide, by decide, wd_1166, wd_83, by decide +kernel⟩
theorem sc_X8_written_X8_askPapers : ym_site g_X8_written g_X8_askPapers 5 3 1 := ⟨by decide, by decide, wd_1092, wd_83, by decide +kernel⟩
def bl_X8_written_79 (N : Nat) (w0 : Option Nat) (w1 : Int32) (w2 : Int32) (w3 : Int64) (h : ym_H) : Option (Int64 × ym_H) :=
  Option.bind (ym_gR h w0 8 9) fun v80 =>
  Option.bind (ym_ldI h v80 w1) fun v84 =>
  if v84 ≤ 1 then
    Option.bind (ym_ob h w0 8) fun o96 =>
    Option.bind (fn_X8_limitOf N w0 w1 w2 h) fun q96 =>
    if q96.1 < 0 then
      Option.bind (ym_ob q96.2 w0 8) fun o110 =>
      Option.bind (fn_X8_may N w0 w2 w1 w3 q96.2) fun q110 =>
      if q110.1 = 0 then
        some ((-11), q110.2)
      else
        Option.bind (ym_gR q110.2 w0 8 19) fun v121 =>
        Option.bind (ym_ldI q110.2 v121 w1) fun v125 =>
        if v125 = 40 then
          some ((-12), q110.2)
        else
          Option.bind (ym_gR q110.2 w0 8 13) fun v132 =>
          Option.bind (ym_ldI q110.2 v132 w1) fun v136 =>
          if v136 < 300 then
            Option.bind (ym_ob q110.2 w0 8) fun o148 =>
            Option.bind (fn_X8_number N w0 q110.2) fun q148 =>
            Option.bind (ym_gR q148.2 w0 8 19) fun v158 =>
            Option.bind (ym_ldI q148.2 v158 w1) fun v162 =>
            Option.bind (ym_gR q148.2 w0 8 20) fun v167 =>
            Option.bind (ym_as q148.2 v167 0 ((40 * w1) + v162) (.int w2)) fun h173 =>
            Option.bind (ym_gR h173 w0 8 21) fun v175 =>
            Option.bind (ym_as h173 v175 1 ((40 * w1) + v162) (.long w3)) fun h181 =>
            Option.bind (ym_gR h181 w0 8 22) fun v183 =>
            Option.bind (ym_as h181 v183 0 ((40 * w1) + v162) (.int q148.1)) fun h190 =>
            Option.bind (ym_gR h190 w0 8 19) fun v192 =>
            Option.bind (ym_ldI h190 v192 w1) fun v197 =>
            Option.bind (ym_as h190 v192 0 w1 (.int (v197 + 1))) fun h200 =>
            Option.bind (ym_gR h200 w0 8 9) fun v202 =>
            Option.bind (ym_ldI h200 v202 w1) fun v206 =>
            if v206 = 1 then
              Option.bind (ym_ob h200 w0 8) fun o213 =>
              Option.bind (fn_X8_askPapers N w0 w1 h200) fun q213 =>
              some ((Int32.toInt64 q148.1), q213.2)
            else
              some ((Int32.toInt64 q148.1), h200)
          else
            some ((-12), q110.2)
    else
      some ((-13), q96.2)
  else
    some ((-9), h)
set_option maxRecDepth 20000 in
set_option maxHeartbeats 4000000 in
theorem ob_X8_written_79 {D : ym_D} {b0 : Nat} {N : Nat} {w0 : Option Nat} {w1 : Int32} {w2 : Int32} {w3 : Int64} {h h' : ym_H} {r : Int64} (hf : bl_X8_written_79 N w0 w1 w2 w3 h = some (r, h')) : ym_Y D b0 g_X8_written 5 79 [(0, va_rf w0), (1, .int w1), (2, .int w2), (3, .long w3)] [] h (some (.long r)) h' := by
  unfold bl_X8_written_79 at hf
  refine ym_aload_n (pc := 79) 0 dX8_written_79 rfl rfl ?_
  obtain ⟨v80, e80, hf⟩ := Option.bind_eq_some_iff.mp hf
  refine ym_get (pc := 80) dX8_written_80 rfl (by decide) iX8 (k := 9) (by decide) wd_854 (ym_gR_v e80) ?_
  refine ym_iload_n (pc := 83) 1 dX8_written_83 rfl rfl ?_
  obtain ⟨v84, e84, hf⟩ := Option.bind_eq_some_iff.mp hf
  refine ym_iald (pc := 84) dX8_written_84 rfl (ym_ldI_v e84) ?_
  refine ym_iconst (pc := 85) (v := 1) dX8_written_85 (by decide) ?_
  by_cases c86 : v84 ≤ 1
  · rw [if_pos c86] at hf
    refine ym_icmp_le_y (pc := 86) (tgt := 93) dX8_written_86 (by decide) c86 ?_
    refine ym_aload_n (pc := 93) 0 dX8_written_93 rfl rfl ?_
    refine ym_iload_n (pc := 94) 1 dX8_written_94 rfl rfl ?_
    refine ym_iload_n (pc := 95) 2 dX8_written_95 rfl rfl ?_
    obtain ⟨o96, f96, hf⟩ := Option.bind_eq_some_iff.mp hf
    obtain ⟨q96, e96, hf⟩ := Option.bind_eq_some_iff.mp hf
    refine ym_callV (pc := 96) (G2 := g_X8_limitOf) (dep2 := 1) (As := [.int w1, .int w2]) (st := []) (stk2 := [.int q96.1]) (r2 := (some (.int q96.1))) (h1 := q96.2) dX8_written_96 (ok_X8_limitOf e96) (sc_X8_written_X8_limitOf) wd_1158 wd_1160 wd_48 (ci := 8) (q0 := (RX8, TX8, 58)) rfl (by decide) rfl f96 rfl rfl (ym_st4 (Nat.le_of_ble_eq_true rfl)) rfl ?_
    by_cases c99 : q96.1 < 0
    · rw [if_pos c99] at hf
      refine ym_if_lt_y (pc := 99) (tgt := 106) dX8_written_99 (by decide) c99 ?_
      refine ym_aload_n (pc := 106) 0 dX8_written_106 rfl rfl ?_
      refine ym_iload_n (pc := 107) 2 dX8_written_107 rfl rfl ?_
      refine ym_iload_n (pc := 108) 1 dX8_written_108 rfl rfl ?_
      refine ym_lload_n (pc := 109) 3 dX8_written_109 rfl rfl ?_
      obtain ⟨o110, f110, hf⟩ := Option.bind_eq_some_iff.mp hf
      obtain ⟨q110, e110, hf⟩ := Option.bind_eq_some_iff.mp hf
      refine ym_callV (pc := 110) (G2 := g_X8_may) (dep2 := 4) (As := [.int w2, .int w1, .long w3]) (st := []) (stk2 := [.int q110.1]) (r2 := (some (.int q110.1))) (h1 := q110.2) dX8_written_110 (ok_X8_may e110) (sc_X8_written_X8_may) wd_1144 wd_1146 wd_45 (ci := 8) (q0 := (RX8, TX8, 58)) rfl (by decide) rfl f110 rfl rfl (ym_st4 (Nat.le_of_ble_eq_true rfl)) rfl ?_
      by_cases c113 : q110.1 = 0
      · rw [if_pos c113] at hf
        refine ym_if_ne_y (pc := 113) (tgt := 120) dX8_written_113 (by decide) c113 ?_
        refine ym_ldc2 (pc := 116) dX8_written_116 wd_1162 ?_
        cases hf
        exact ym_lret (pc := 119) dX8_written_119 rfl
      · rw [if_neg c113] at hf
        refine ym_if_ne_n (pc := 113) (tgt := 120) dX8_written_113 (by decide) c113 ?_
        refine ym_aload_n (pc := 120) 0 dX8_written_120 rfl rfl ?_
        obtain ⟨v121, e121, hf⟩ := Option.bind_eq_some_iff.mp hf
        refine ym_get (pc := 121) dX8_written_121 rfl (by decide) iX8 (k := 19) (by decide) wd_864 (ym_gR_v e121) ?_
        refine ym_iload_n (pc := 124) 1 dX8_written_124 rfl rfl ?_
        obtain ⟨v125, e125, hf⟩ := Option.bind_eq_some_iff.mp hf
        refine ym_iald (pc := 125) dX8_written_125 rfl (ym_ldI_v e125) ?_
        refine ym_bipush (pc := 126) (v := 40) dX8_written_126 (by decide) ?_
        by_cases c128 : v125 = 40
        · rw [if_pos c128] at hf
          refine ym_icmp_eq_y (pc := 128) (tgt := 143) dX8_written_128 (by decide) c128 ?_
          refine ym_ldc2 (pc := 143) dX8_written_143 wd_1039 ?_
          cases hf
          exact ym_lret (pc := 146) dX8_written_146 rfl
        · rw [if_neg c128] at hf
          refine ym_icmp_eq_n (pc := 128) (tgt := 143) dX8_written_128 (by decide) c128 ?_
          refine ym_aload_n (pc := 131) 0 dX8_written_131 rfl rfl ?_
          obtain ⟨v132, e132, hf⟩ := Option.bind_eq_some_iff.mp hf
          refine ym_get (pc := 132) dX8_written_132 rfl (by decide) iX8 (k := 13) (by decide) wd_858 (ym_gR_v e132) ?_
          refine ym_iload_n (pc := 135) 1 dX8_written_135 rfl rfl ?_
          obtain ⟨v136, e136, hf⟩ := Option.bind_eq_some_iff.mp hf
          refine ym_iald (pc := 136) dX8_written_136 rfl (ym_ldI_v e136) ?_
          refine ym_sipush (pc := 137) (v := 300) dX8_written_137 (by decide) ?_
          by_cases c140 : v136 < 300
          · rw [if_pos c140] at hf
            refine ym_icmp_lt_y (pc := 140) (tgt := 147) dX8_written_140 (by decide) c140 ?_
            refine ym_aload_n (pc := 147) 0 dX8_written_147 rfl rfl ?_
            obtain ⟨o148, f148, hf⟩ := Option.bind_eq_some_iff.mp hf
            obtain ⟨q148, e148, hf⟩ := Option.bind_eq_some_iff.mp hf
            refine ym_callV (pc := 148) (G2 := g_X8_number) (dep2 := 1) (As := []) (st := []) (stk2 := [.int q148.1]) (r2 := (some (.int q148.1))) (h1 := q148.2) dX8_written_148 (ok_X8_number e148) (sc_X8_written_X8_number) wd_1163 wd_1165 wd_49 (ci := 8) (q0 := (RX8, TX8, 58)) rfl (by decide) rfl f148 rfl rfl (ym_st4 (Nat.le_of_ble_eq_true rfl)) rfl ?_
            refine ym_istore (pc := 151) (lv' := [(5, .int q148.1), (0, va_rf w0), (1, .int w1), (2, .int w2), (3, .long w3)]) dX8_written_151 (by decide) ⟨trivial, trivial, trivial, trivial, trivial⟩ rfl ?_
            refine ym_bipush (pc := 153) (v := 40) dX8_written_153 (by decide) ?_
            refine ym_iload_n (pc := 155) 2 dX8_written_155 rfl rfl ?_
            refine ym_imul (pc := 156) dX8_written_156 ?_
            refine ym_aload_n (pc := 157) 1 dX8_written_157 rfl rfl ?_
            obtain ⟨v158, e158, hf⟩ := Option.bind_eq_some_iff.mp hf
            refine ym_get (pc := 158) dX8_written_158 rfl (by decide) iX8 (k := 19) (by decide) wd_864 (ym_gR_v e158) ?_
            refine ym_iload_n (pc := 161) 2 dX8_written_161 rfl rfl ?_
            obtain ⟨v162, e162, hf⟩ := Option.bind_eq_some_iff.mp hf
            refine ym_iald (pc := 162) dX8_written_162 rfl (ym_ldI_v e162) ?_
            refine ym_iadd (pc := 163) dX8_written_163 ?_
            refine ym_istore (pc := 164) (lv' := [(6, .int ((40 * w1) + v162)), (5, .int q148.1), (0, va_rf w0), (1, .int w1), (2, .int w2), (3, .long w3)]) dX8_written_164 (by decide) ⟨rfl, trivial, trivial, trivial, trivial, trivial⟩ rfl ?_
            refine ym_aload_n (pc := 166) 2 dX8_written_166 rfl rfl ?_
            obtain ⟨v167, e167, hf⟩ := Option.bind_eq_some_iff.mp hf
            refine ym_get (pc := 167) dX8_written_167 rfl (by decide) iX8 (k := 20) (by decide) wd_865 (ym_gR_v e167) ?_
            refine ym_iload (pc := 170) 0 dX8_written_170 rfl ?_
            refine ym_iload_n (pc := 172) 4 dX8_written_172 rfl rfl ?_
            obtain ⟨h173, e173, hf⟩ := Option.bind_eq_some_iff.mp hf
            refine ym_iast (pc := 173) dX8_written_173 rfl e173 ?_
            refine ym_aload_n (pc := 174) 2 dX8_written_174 rfl rfl ?_
            obtain ⟨v175, e175, hf⟩ := Option.bind_eq_some_iff.mp hf
            refine ym_get (pc := 175) dX8_written_175 rfl (by decide) iX8 (k := 21) (by decide) wd_866 (ym_gR_v e175) ?_
            refine ym_iload (pc := 178) 0 dX8_written_178 rfl ?_
            refine ym_lload_n (pc := 180) 5 dX8_written_180 rfl rfl ?_
            obtain ⟨h181, e181, hf⟩ := Option.bind_eq_some_iff.mp hf
            refine ym_last (pc := 181) dX8_written_181 rfl e181 ?_
            refine ym_aload_n (pc := 182) 2 dX8_written_182 rfl rfl ?_
            obtain ⟨v183, e183, hf⟩ := Option.bind_eq_some_iff.mp hf
            refine ym_get (pc := 183) dX8_written_183 rfl (by decide) iX8 (k := 22) (by decide) wd_867 (ym_gR_v e183) ?_
            refine ym_iload (pc := 186) 0 dX8_written_186 rfl ?_
            refine ym_iload (pc := 188) 1 dX8_written_188 rfl ?_
            obtain ⟨h190, e190, hf⟩ := Option.bind_eq_some_iff.mp hf
            refine ym_iast (pc := 190) dX8_written_190 rfl e190 ?_
            refine ym_aload_n (pc := 191) 2 dX8_written_191 rfl rfl ?_
            obtain ⟨v192, e192, hf⟩ := Option.bind_eq_some_iff.mp hf
            refine ym_get (pc := 192) dX8_written_192 rfl (by decide) iX8 (k := 19) (by decide) wd_864 (ym_gR_v e192) ?_
            refine ym_iload_n (pc := 195) 3 dX8_written_195 rfl rfl ?_
            refine ym_dup2_11 (pc := 196) dX8_written_196 rfl (ym_c1 v192) ?_
            obtain ⟨v197, e197, hf⟩ := Option.bind_eq_some_iff.mp hf
            refine ym_iald (pc := 197) dX8_written_197 rfl (ym_ldI_v e197) ?_
            refine ym_iconst (pc := 198) (v := 1) dX8_written_198 (by decide) ?_
            refine ym_iadd (pc := 199) dX8_written_199 ?_
            obtain ⟨h200, e200, hf⟩ := Option.bind_eq_some_iff.mp hf
            refine ym_iast (pc := 200) dX8_written_200 rfl e200 ?_
            refine ym_aload_n (pc := 201) 2 dX8_written_201 rfl rfl ?_
            obtain ⟨v202, e202, hf⟩ := Option.bind_eq_some_iff.mp hf
            refine ym_get (pc := 202) dX8_written_202 rfl (by decide) iX8 (k := 9) (by decide) wd_854 (ym_gR_v e202) ?_
            refine ym_iload_n (pc := 205) 3 dX8_written_205 rfl rfl ?_
            obtain ⟨v206, e206, hf⟩ := Option.bind_eq_some_iff.mp hf
            refine ym_iald (pc := 206) dX8_written_206 rfl (ym_ldI_v e206) ?_
            refine ym_iconst (pc := 207) (v := 1) dX8_written_207 (by decide) ?_
            by_cases c208 : v206 = 1
            · rw [if_pos c208] at hf
              refine ym_icmp_ne_y (pc := 208) (tgt := 216) dX8_written_208 (by decide) c208 ?_
              refine ym_aload_n (pc := 211) 2 dX8_written_211 rfl rfl ?_
              refine ym_iload_n (pc := 212) 3 dX8_written_212 rfl rfl ?_
              obtain ⟨o213, f213, hf⟩ := Option.bind_eq_some_iff.mp hf
              obtain ⟨q213, e213, hf⟩ := Option.bind_eq_some_iff.mp hf
              refine ym_callV (pc := 213) (G2 := g_X8_askPapers) (dep2 := 3) (As := [.int w1]) (st := []) (stk2 := []) (r2 := none) (h1 := q213.2) dX8_written_213 (ok_X8_askPapers e213) (sc_X8_written_X8_askPapers) wd_1089 wd_1091 wd_34 (ci := 8) (q0 := (RX8, TX8, 58)) rfl (by decide) rfl f213 rfl rfl (ym_st4 (Nat.le_of_ble_eq_true rfl)) rfl ?_
              refine ym_iload (pc := 216) 1 dX8_written_216 rfl ?_
              refine ym_i2l (pc := 218) dX8_written_218 ?_
              cases hf
              exact ym_lret (pc := 219) dX8_written_219 rfl
            · rw [if_neg c208] at hf
              refine ym_icmp_ne_n (pc := 208) (tgt := 216) dX8_written_208 (by decide) c208 ?_
              refine ym_iload (pc := 216) 1 dX8_written_216 rfl ?_
              refine ym_i2l (pc := 218) dX8_written_218 ?_
              cases hf
              exact ym_lret (pc := 219) dX8_written_219 rfl
          · rw [if_neg c140] at hf
            refine ym_icmp_lt_n (pc := 140) (tgt := 147) dX8_written_140 (by decide) c140 ?_
            refine ym_ldc2 (pc := 143) dX8_written_143 wd_1039 ?_
            cases hf
            exact ym_lret (pc := 146) dX8_written_146 rfl
    · rw [if_neg c99] at hf
      refine ym_if_lt_n (pc := 99) (tgt := 106) dX8_written_99 (by decide) c99 ?_
      refine ym_ldc2 (pc := 102) dX8_written_102 wd_1135 ?_
      cases hf
      exact ym_lret (pc := 105) dX8_written_105 rfl
  · rw [if_neg c86] at hf
    refine ym_icmp_le_n (pc := 86) (tgt := 93) dX8_written_86 (by decide) c86 ?_
    refine ym_ldc2 (pc := 89) dX8_written_89 wd_1063 ?_
    cases hf
    exact ym_lret (pc := 92) dX8_written_92 rfl
def fn_X8_written (N : Nat) (a0 : Option Nat) (a1 : Int32) (a2 : Int32) (a3 : Int64) (h : ym_H) : Option (Int64 × ym_H) :=
  Option.bind (fn_X8_isSum N a3 h) fun q1 =>
  if q1.1 = 0 then
    some ((-1), q1.2)
  else
    Option.bind (ym_ob q1.2 a0 8) fun o13 =>
    Option.bind (fn_X8_noLot N a0 a1 q1.2) fun q13 =>
    if q13.1 ≤ 0 then
      Option.bind (ym_ob q13.2 a0 8) fun o29 =>
      Option.bind (fn_X8_isPlain N a0 a1 q13.2) fun q29 =>
      if q29.1 = 0 then
        some ((-4), q29.2)
      else
        Option.bind (ym_ob q29.2 a0 8) fun o41 =>
        Option.bind (fn_X8_noBidder N a0 a2 q29.2) fun q41 =>
        if q41.1 ≤ 0 then
          Option.bind (ym_gR q41.2 a0 8 1) fun v56 =>
          Option.bind (ym_ldI q41.2 v56 a2) fun v60 =>
          if v60 = 2 then
            bl_X8_written_79 N a0 a1 a2 a3 q41.2
          else
            Option.bind (ym_gR q41.2 a0 8 1) fun v66 =>
            Option.bind (ym_ldI q41.2 v66 a2) fun v70 =>
            if v70 = 3 then
              bl_X8_written_79 N a0 a1 a2 a3 q41.2
            else
              some ((-4), q41.2)
        else
          Option.bind (ym_ob q41.2 a0 8) fun o49 =>
          Option.bind (fn_X8_noBidder N a0 a2 q41.2) fun q49 =>
          some ((Int32.toInt64 (-q49.1)), q49.2)
    else
      Option.bind (ym_ob q13.2 a0 8) fun o21 =>
      Option.bind (fn_X8_noLot N a0 a1 q13.2) fun q21 =>
      some ((Int32.toInt64 (-q21.1)), q21.2)
set_option maxRecDepth 20000 in
set_option maxHeartbeats 4000000 in
theorem ok_X8_written {D : ym_D} {b0 : Nat} {N : Nat} {a0 : Option Nat} {a1 : Int32} {a2 : Int32} {a3 : Int64} {h h' : ym_H} {r : Int64} (hf : fn_X8_written N a0 a1 a2 a3 h = some (r, h')) : ym_M D b0 g_X8_written 5 [va_rf a0, .int a1, .int a2, .long a3] h (some (.long r)) h' := by
  unfold fn_X8_written at hf
  refine ym_meth (lv := [(0, va_rf a0), (1, .int a1), (2, .int a2), (3, .long a3)]) (by decide) (by simp [lg_sl, ym_c1, ym_cI, ym_cL, g_X8_written]) (by simp [lv_args, ym_c1, ym_cI, ym_cL]) ?_
  refine ym_lload_n (pc := 0) 3 dX8_written_0 rfl rfl ?_
  obtain ⟨q1, e1, hf⟩ := Option.bind_eq_some_iff.mp hf
  refine ym_callS (pc := 1) (G2 := g_X8_isSum) (dep2 := 1) (As := [.long a3]) (st := []) (stk2 := [.int q1.1]) (r2 := (some (.int q1.1))) (h1 := q1.2) dX8_written_1 (ok_X8_isSum e1) (sc_X8_written_X8_isSum) wd_1044 wd_1045 rfl rfl (ym_st4 (Nat.le_of_ble_eq_true rfl)) rfl ?_
  by_cases c4 : q1.1 = 0
  · rw [if_pos c4] at hf
    refine ym_if_ne_y (pc := 4) (tgt := 11) dX8_written_4 (by decide) c4 ?_
    refine ym_ldc2 (pc := 7) dX8_written_7 wd_1038 ?_
    cases hf
    exact ym_lret (pc := 10) dX8_written_10 rfl
  · rw [if_neg c4] at hf
    refine ym_if_ne_n (pc := 4) (tgt := 11) dX8_written_4 (by decide) c4 ?_
    refine ym_aload_n (pc := 11) 0 dX8_written_11 rfl rfl ?_
    refine ym_iload_n (pc := 12) 1 dX8_written_12 rfl rfl ?_
    obtain ⟨o13, f13, hf⟩ := Option.bind_eq_some_iff.mp hf
    obtain ⟨q13, e13, hf⟩ := Option.bind_eq_some_iff.mp hf
    refine ym_callV (pc := 13) (G2 := g_X8_noLot) (dep2 := 1) (As := [.int a1]) (st := []) (stk2 := [.int q13.1]) (r2 := (some (.int q13.1))) (h1 := q13.2) dX8_written_13 (ok_X8_noLot e13) (sc_X8_written_X8_noLot) wd_1055 wd_1057 wd_27 (ci := 8) (q0 := (RX8, TX8, 58)) rfl (by decide) rfl f13 rfl rfl (ym_st4 (Nat.le_of_ble_eq_true rfl)) rfl ?_
    by_cases c16 : q13.1 ≤ 0
    · rw [if_pos c16] at hf
      refine ym_if_le_y (pc := 16) (tgt := 27) dX8_written_16 (by decide) c16 ?_
      refine ym_aload_n (pc := 27) 0 dX8_written_27 rfl rfl ?_
      refine ym_iload_n (pc := 28) 1 dX8_written_28 rfl rfl ?_
      obtain ⟨o29, f29, hf⟩ := Option.bind_eq_some_iff.mp hf
      obtain ⟨q29, e29, hf⟩ := Option.bind_eq_some_iff.mp hf
      refine ym_callV (pc := 29) (G2 := g_X8_isPlain) (dep2 := 1) (As := [.int a1]) (st := []) (stk2 := [.int q29.1]) (r2 := (some (.int q29.1))) (h1 := q29.2) dX8_written_29 (ok_X8_isPlain e29) (sc_X8_written_X8_isPlain) wd_1093 wd_1095 wd_35 (ci := 8) (q0 := (RX8, TX8, 58)) rfl (by decide) rfl f29 rfl rfl (ym_st4 (Nat.le_of_ble_eq_true rfl)) rfl ?_
      by_cases c32 : q29.1 = 0
      · rw [if_pos c32] at hf
        refine ym_if_ne_y (pc := 32) (tgt := 39) dX8_written_32 (by decide) c32 ?_
        refine ym_ldc2 (pc := 35) dX8_written_35 wd_1126 ?_
        cases hf
        exact ym_lret (pc := 38) dX8_written_38 rfl
      · rw [if_neg c32] at hf
        refine ym_if_ne_n (pc := 32) (tgt := 39) dX8_written_32 (by decide) c32 ?_
        refine ym_aload_n (pc := 39) 0 dX8_written_39 rfl rfl ?_
        refine ym_iload_n (pc := 40) 2 dX8_written_40 rfl rfl ?_
        obtain ⟨o41, f41, hf⟩ := Option.bind_eq_some_iff.mp hf
        obtain ⟨q41, e41, hf⟩ := Option.bind_eq_some_iff.mp hf
        refine ym_callV (pc := 41) (G2 := g_X8_noBidder) (dep2 := 1) (As := [.int a2]) (st := []) (stk2 := [.int q41.1]) (r2 := (some (.int q41.1))) (h1 := q41.2) dX8_written_41 (ok_X8_noBidder e41) (sc_X8_written_X8_noBidder) wd_1059 wd_1061 wd_28 (ci := 8) (q0 := (RX8, TX8, 58)) rfl (by decide) rfl f41 rfl rfl (ym_st4 (Nat.le_of_ble_eq_true rfl)) rfl ?_
        by_cases c44 : q41.1 ≤ 0
        · rw [if_pos c44] at hf
          refine ym_if_le_y (pc := 44) (tgt := 55) dX8_written_44 (by decide) c44 ?_
          refine ym_aload_n (pc := 55) 0 dX8_written_55 rfl rfl ?_
          obtain ⟨v56, e56, hf⟩ := Option.bind_eq_some_iff.mp hf
          refine ym_get (pc := 56) dX8_written_56 rfl (by decide) iX8 (k := 1) (by decide) wd_846 (ym_gR_v e56) ?_
          refine ym_iload_n (pc := 59) 2 dX8_written_59 rfl rfl ?_
          obtain ⟨v60, e60, hf⟩ := Option.bind_eq_some_iff.mp hf
          refine ym_iald (pc := 60) dX8_written_60 rfl (ym_ldI_v e60) ?_
          refine ym_iconst (pc := 61) (v := 2) dX8_written_61 (by decide) ?_
          by_cases c62 : v60 = 2
          · rw [if_pos c62] at hf
            refine ym_icmp_eq_y (pc := 62) (tgt := 79) dX8_written_62 (by decide) c62 ?_
            exact ym_sub [0, 1, 2, 3] rfl (ob_X8_written_79 hf)
          · rw [if_neg c62] at hf
            refine ym_icmp_eq_n (pc := 62) (tgt := 79) dX8_written_62 (by decide) c62 ?_
            refine ym_aload_n (pc := 65) 0 dX8_written_65 rfl rfl ?_
            obtain ⟨v66, e66, hf⟩ := Option.bind_eq_some_iff.mp hf
            refine ym_get (pc := 66) dX8_written_66 rfl (by decide) iX8 (k := 1) (by decide) wd_846 (ym_gR_v e66) ?_
            refine ym_iload_n (pc := 69) 2 dX8_written_69 rfl rfl ?_
            obtain ⟨v70, e70, hf⟩ := Option.bind_eq_some_iff.mp hf
            refine ym_iald (pc := 70) dX8_written_70 rfl (ym_ldI_v e70) ?_
            refine ym_iconst (pc := 71) (v := 3) dX8_written_71 (by decide) ?_
            by_cases c72 : v70 = 3
            · rw [if_pos c72] at hf
              refine ym_icmp_eq_y (pc := 72) (tgt := 79) dX8_written_72 (by decide) c72 ?_
              exact ym_sub [0, 1, 2, 3] rfl (ob_X8_written_79 hf)
            · rw [if_neg c72] at hf
              refine ym_icmp_eq_n (pc := 72) (tgt := 79) dX8_written_72 (by decide) c72 ?_
              refine ym_ldc2 (pc := 75) dX8_written_75 wd_1126 ?_
              cases hf
              exact ym_lret (pc := 78) dX8_written_78 rfl
        · rw [if_neg c44] at hf
          refine ym_if_le_n (pc := 44) (tgt := 55) dX8_written_44 (by decide) c44 ?_
          refine ym_aload_n (pc := 47) 0 dX8_written_47 rfl rfl ?_
          refine ym_iload_n (pc := 48) 2 dX8_written_48 rfl rfl ?_
          obtain ⟨o49, f49, hf⟩ := Option.bind_eq_some_iff.mp hf
          obtain ⟨q49, e49, hf⟩ := Option.bind_eq_some_iff.mp hf
          refine ym_callV (pc := 49) (G2 := g_X8_noBidder) (dep2 := 1) (As := [.int a2]) (st := []) (stk2 := [.int q49.1]) (r2 := (some (.int q49.1))) (h1 := q49.2) dX8_written_49 (ok_X8_noBidder e49) (sc_X8_written_X8_noBidder) wd_1059 wd_1061 wd_28 (ci := 8) (q0 := (RX8, TX8, 58)) rfl (by decide) rfl f49 rfl rfl (ym_st4 (Nat.le_of_ble_eq_true rfl)) rfl ?_
          refine ym_ineg (pc := 52) dX8_written_52 ?_
          refine ym_i2l (pc := 53) dX8_written_53 ?_
          cases hf
          exact ym_lret (pc := 54) dX8_written_54 rfl
    · rw [if_neg c16] at hf
      refine ym_if_le_n (pc := 16) (tgt := 27) dX8_written_16 (by decide) c16 ?_
      refine ym_aload_n (pc := 19) 0 dX8_written_19 rfl rfl ?_
      refine ym_iload_n (pc := 20) 1 dX8_written_20 rfl rfl ?_
      obtain ⟨o21, f21, hf⟩ := Option.bind_eq_some_iff.mp hf
      obtain ⟨q21, e21, hf⟩ := Option.bind_eq_some_iff.mp hf
      refine ym_callV (pc := 21) (G2 := g_X8_noLot) (dep2 := 1) (As := [.int a1]) (st := []) (stk2 := [.int q21.1]) (r2 := (some (.int q21.1))) (h1 := q21.2) dX8_written_21 (ok_X8_noLot e21) (sc_X8_written_X8_noLot) wd_1055 wd_1057 wd_27 (ci := 8) (q0 := (RX8, TX8, 58)) rfl (by decide) rfl f21 rfl rfl (ym_st4 (Nat.le_of_ble_eq_true rfl)) rfl ?_
      refine ym_ineg (pc := 24) dX8_written_24 ?_
      refine ym_i2l (pc := 25) dX8_written_25 ?_
      cases hf
      exact ym_lret (pc := 26) dX8_written_26 rfl
theorem dX8_noLotOf_0 : decode cX8_noLotOf 0 = .ok (.aload_n 0, 1) := by decide +kernel
theorem dX8_noLotOf_1 : decode cX8_noLotOf 1 = .ok (.iload_n 1, 1) := by decide +kernel
theorem dX8_noLotOf_2 : decode cX8_noLotOf 2 = .ok (.invokevirtual 294, 3) := by decide +kernel
theorem dX8_noLotOf_5 : decode cX8_noLotOf 5 = .ok (.ifCond .le 11, 3) := by decide +kernel
theorem dX8_noLotOf_8 : decode cX8_noLotOf 8 = .ok (.aload_n 0, 1) := by decide +kernel
theorem dX8_noLotOf_9 : decode cX8_noLotOf 9 = .ok (.iload_n 1, 1) := by decide +kernel
theorem dX8_noLotOf_10 : decode cX8_noLotOf 10 = .ok (.invokevirtual 294, 3) := by decide +kernel
theorem dX8_noLotOf_13 : decode cX8_noLotOf 13 = .ok (.goto 18, 3) := by decide +kernel
theorem dX8_noLotOf_16 : decode cX8_noLotOf 16 = .ok (.aload_n 0, 1) := by decide +kernel
theorem dX8_noLotOf_17 : decode cX8_noLotOf 17 = .ok (.getfield 20, 3) := by decide +kernel
theorem dX8_noLotOf_20 : decode cX8_noLotOf 20 = .ok (.iload_n 1, 1) := by decide +kernel
theorem dX8_noLotOf_21 : decode cX8_noLotOf 21 = .ok (.iaload, 1) := by decide +kernel
theorem dX8_noLotOf_22 : decode cX8_noLotOf 22 = .ok (.iload_n 2, 1) := by decide +kernel
theorem dX8_noLotOf_23 : decode cX8_noLotOf 23 = .ok (.if_icmp .eq 7, 3) := by decide +kernel
theorem dX8_noLotOf_26 : decode cX8_noLotOf 26 = .ok (.iconst 4, 1) := by decide +kernel
theorem dX8_noLotOf_27 : decode cX8_noLotOf 27 = .ok (.goto 4, 3) := by decide +kernel
theorem dX8_noLotOf_30 : decode cX8_noLotOf 30 = .ok (.iconst 0, 1) := by decide +kernel
theorem dX8_noLotOf_31 : decode cX8_noLotOf 31 = .ok (.ireturn, 1) := by decide +kernel
theorem sc_X8_noLotOf_X8_noLot : ym_site g_X8_noLotOf g_X8_noLot 2 1 1 := ⟨by decide, by decide, wd_1058, wd_83, by decide +kernel⟩
def fn_X8_noLotOf (N : Nat) (a0 : Option Nat) (a1 : Int32) (a2 : Int32) (h : ym_H) : Option (Int32 × ym_H) :=
  Option.bind (ym_ob h a0 8) fun o2 =>
  Option.bind (fn_X8_noLot N a0 a1 h) fun q2 =>
  if q2.1 ≤ 0 then
    Option.bind (ym_gR q2.2 a0 8 5) fun v17 =>
    Option.bind (ym_ldI q2.2 v17 a1) fun v21 =>
    if v21 = a2 then
      some (0, q2.2)
    else
      some (4, q2.2)
  else
    Option.bind (ym_ob q2.2 a0 8) fun o10 =>
    Option.bind (fn_X8_noLot N a0 a1 q2.2) fun q10 =>
    some (q10.1, q10.2)
set_option maxRecDepth 20000 in
set_option maxHeartbeats 4000000 in
theorem ok_X8_noLotOf {D : ym_D} {b0 : Nat} {N : Nat} {a0 : Option Nat} {a1 : Int32} {a2 : Int32} {h h' : ym_H} {r : Int32} (hf : fn_X8_noLotOf N a0 a1 a2 h = some (r, h')) : ym_M D b0 g_X8_noLotOf 2 [va_rf a0, .int a1, .int a2] h (some (.int r)) h' := by
  unfold fn_X8_noLotOf at hf
  refine ym_meth (lv := [(0, va_rf a0), (1, .int a1), (2, .int a2)]) (by decide) (by simp [lg_sl, ym_c1, ym_cI, ym_cL, g_X8_noLotOf]) (by simp [lv_args, ym_c1, ym_cI, ym_cL]) ?_
  refine ym_aload_n (pc := 0) 0 dX8_noLotOf_0 rfl rfl ?_
  refine ym_iload_n (pc := 1) 1 dX8_noLotOf_1 rfl rfl ?_
  obtain ⟨o2, f2, hf⟩ := Option.bind_eq_some_iff.mp hf
  obtain ⟨q2, e2, hf⟩ := Option.bind_eq_some_iff.mp hf
  refine ym_callV (pc := 2) (G2 := g_X8_noLot) (dep2 := 1) (As := [.int a1]) (st := []) (stk2 := [.int q2.1]) (r2 := (some (.int q2.1))) (h1 := q2.2) dX8_noLotOf_2 (ok_X8_noLot e2) (sc_X8_noLotOf_X8_noLot) wd_1055 wd_1057 wd_27 (ci := 8) (q0 := (RX8, TX8, 58)) rfl (by decide) rfl f2 rfl rfl (ym_st4 (Nat.le_of_ble_eq_true rfl)) rfl ?_
  by_cases c5 : q2.1 ≤ 0
  · rw [if_pos c5] at hf
    refine ym_if_le_y (pc := 5) (tgt := 16) dX8_noLotOf_5 (by decide) c5 ?_
    refine ym_aload_n (pc := 16) 0 dX8_noLotOf_16 rfl rfl ?_
    obtain ⟨v17, e17, hf⟩ := Option.bind_eq_some_iff.mp hf
    refine ym_get (pc := 17) dX8_noLotOf_17 rfl (by decide) iX8 (k := 5) (by decide) wd_850 (ym_gR_v e17) ?_
    refine ym_iload_n (pc := 20) 1 dX8_noLotOf_20 rfl rfl ?_
    obtain ⟨v21, e21, hf⟩ := Option.bind_eq_some_iff.mp hf
    refine ym_iald (pc := 21) dX8_noLotOf_21 rfl (ym_ldI_v e21) ?_
    refine ym_iload_n (pc := 22) 2 dX8_noLotOf_22 rfl rfl ?_
    by_cases c23 : v21 = a2
    · rw [if_pos c23] at hf
      refine ym_icmp_eq_y (pc := 23) (tgt := 30) dX8_noLotOf_23 (by decide) c23 ?_
      refine ym_iconst (pc := 30) (v := 0) dX8_noLotOf_30 (by decide) ?_
      cases hf
      exact ym_iret (pc := 31) dX8_noLotOf_31 rfl
    · rw [if_neg c23] at hf
      refine ym_icmp_eq_n (pc := 23) (tgt := 30) dX8_noLotOf_23 (by decide) c23 ?_
      refine ym_iconst (pc := 26) (v := 4) dX8_noLotOf_26 (by decide) ?_
      refine ym_goto (pc := 27) (tgt := 31) dX8_noLotOf_27 (by decide) ?_
      cases hf
      exact ym_iret (pc := 31) dX8_noLotOf_31 rfl
  · rw [if_neg c5] at hf
    refine ym_if_le_n (pc := 5) (tgt := 16) dX8_noLotOf_5 (by decide) c5 ?_
    refine ym_aload_n (pc := 8) 0 dX8_noLotOf_8 rfl rfl ?_
    refine ym_iload_n (pc := 9) 1 dX8_noLotOf_9 rfl rfl ?_
    obtain ⟨o10, f10, hf⟩ := Option.bind_eq_some_iff.mp hf
    obtain ⟨q10, e10, hf⟩ := Option.bind_eq_some_iff.mp hf
    refine ym_callV (pc := 10) (G2 := g_X8_noLot) (dep2 := 1) (As := [.int a1]) (st := []) (stk2 := [.int q10.1]) (r2 := (some (.int q10.1))) (h1 := q10.2) dX8_noLotOf_10 (ok_X8_noLot e10) (sc_X8_noLotOf_X8_noLot) wd_1055 wd_1057 wd_27 (ci := 8) (q0 := (RX8, TX8, 58)) rfl (by decide) rfl f10 rfl rfl (ym_st4 (Nat.le_of_ble_eq_true rfl)) rfl ?_
    refine ym_goto (pc := 13) (tgt := 31) dX8_noLotOf_13 (by decide) ?_
    cases hf
    exact ym_iret (pc := 31) dX8_noLotOf_31 rfl
theorem dX8_opened_0 : decode cX8_opened 0 = .ok (.aload_n 0, 1) := by decide +kernel
theorem dX8_opened_1 : decode cX8_opened 1 = .ok (.iload_n 1, 1) := by decide +kernel
theorem dX8_opened_2 : decode cX8_opened 2 = .ok (.iconst 4, 1) := by decide +kernel
theorem dX8_opened_3 : decode cX8_opened 3 = .ok (.invokevirtual 393, 3) := by decide +kernel
theorem dX8_opened_6 : decode cX8_opened 6 = .ok (.ifCond .le 12, 3) := by decide +kernel
theorem dX8_opened_9 : decode cX8_opened 9 = .ok (.aload_n 0, 1) := by decide +kernel
theorem dX8_opened_10 : decode cX8_opened 10 = .ok (.iload_n 1, 1) := by decide +kernel
theorem dX8_opened_11 : decode cX8_opened 11 = .ok (.iconst 4, 1) := by decide +kernel
theorem dX8_opened_12 : decode cX8_opened 12 = .ok (.invokevirtual 393, 3) := by decide +kernel
theorem dX8_opened_15 : decode cX8_opened 15 = .ok (.ineg, 1) := by decide +kernel
theorem dX8_opened_16 : decode cX8_opened 16 = .ok (.i2l, 1) := by decide +kernel
theorem dX8_opened_17 : decode cX8_opened 17 = .ok (.lreturn, 1) := by decide +kernel
theorem dX8_opened_18 : decode cX8_opened 18 = .ok (.aload_n 0, 1) := by decide +kernel
theorem dX8_opened_19 : decode cX8_opened 19 = .ok (.iload_n 1, 1) := by decide +kernel
theorem dX8_opened_20 : decode cX8_opened 20 = .ok (.invokevirtual 361, 3) := by decide +kernel
theorem dX8_opened_23 : decode cX8_opened 23 = .ok (.ifCond .le 11, 3) := by decide +kernel
theorem dX8_opened_26 : decode cX8_opened 26 = .ok (.aload_n 0, 1) := by decide +kernel
theorem dX8_opened_27 : decode cX8_opened 27 = .ok (.iload_n 1, 1) := by decide +kernel
theorem dX8_opened_28 : decode cX8_opened 28 = .ok (.invokevirtual 361, 3) := by decide +kernel
theorem dX8_opened_31 : decode cX8_opened 31 = .ok (.ineg, 1) := by decide +kernel
theorem dX8_opened_32 : decode cX8_opened 32 = .ok (.i2l, 1) := by decide +kernel
theorem dX8_opened_33 : decode cX8_opened 33 = .ok (.lreturn, 1) := by decide +kernel
theorem dX8_opened_34 : decode cX8_opened 34 = .ok (.aload_n 0, 1) := by decide +kernel
theorem dX8_opened_35 : decode cX8_opened 35 = .ok (.getfield 77, 3) := by decide +kernel
theorem dX8_opened_38 : decode cX8_opened 38 = .ok (.iload_n 1, 1) := by decide +kernel
theorem dX8_opened_39 : decode cX8_opened 39 = .ok (.baload, 1) := by decide +kernel
theorem dX8_opened_40 : decode cX8_opened 40 = .ok (.ifCond .eq 7, 3) := by decide +kernel
theorem dX8_opened_43 : decode cX8_opened 43 = .ok (.ldc2_w 348, 3) := by decide +kernel
theorem dX8_opened_46 : decode cX8_opened 46 = .ok (.lreturn, 1) := by decide +kernel
theorem dX8_opened_47 : decode cX8_opened 47 = .ok (.aload_n 0, 1) := by decide +kernel
theorem dX8_opened_48 : decode cX8_opened 48 = .ok (.getfield 44, 3) := by decide +kernel
theorem dX8_opened_51 : decode cX8_opened 51 = .ok (.iload_n 1, 1) := by decide +kernel
theorem dX8_opened_52 : decode cX8_opened 52 = .ok (.iaload, 1) := by decide +kernel
theorem dX8_opened_53 : decode cX8_opened 53 = .ok (.ifCond .ne 7, 3) := by decide +kernel
theorem dX8_opened_56 : decode cX8_opened 56 = .ok (.ldc2_w 396, 3) := by decide +kernel
theorem dX8_opened_59 : decode cX8_opened 59 = .ok (.lreturn, 1) := by decide +kernel
theorem dX8_opened_60 : decode cX8_opened 60 = .ok (.aload_n 0, 1) := by decide +kernel
theorem dX8_opened_61 : decode cX8_opened 61 = .ok (.getfield 47, 3) := by decide +kernel
theorem dX8_opened_64 : decode cX8_opened 64 = .ok (.iload_n 1, 1) := by decide +kernel
theorem dX8_opened_65 : decode cX8_opened 65 = .ok (.iaload, 1) := by decide +kernel
theorem dX8_opened_66 : decode cX8_opened 66 = .ok (.istore_n 2, 1) := by decide +kernel
theorem dX8_opened_67 : decode cX8_opened 67 = .ok (.aload_n 0, 1) := by decide +kernel
theorem dX8_opened_68 : decode cX8_opened 68 = .ok (.getfield 47, 3) := by decide +kernel
theorem dX8_opened_71 : decode cX8_opened 71 = .ok (.iload_n 1, 1) := by decide +kernel
theorem dX8_opened_72 : decode cX8_opened 72 = .ok (.iaload, 1) := by decide +kernel
theorem dX8_opened_73 : decode cX8_opened 73 = .ok (.istore_n 3, 1) := by decide +kernel
theorem dX8_opened_74 : decode cX8_opened 74 = .ok (.iload_n 3, 1) := by decide +kernel
theorem dX8_opened_75 : decode cX8_opened 75 = .ok (.ifCond .lt 31, 3) := by decide +kernel
theorem dX8_opened_78 : decode cX8_opened 78 = .ok (.aload_n 0, 1) := by decide +kernel
theorem dX8_opened_79 : decode cX8_opened 79 = .ok (.getfield 53, 3) := by decide +kernel
theorem dX8_opened_82 : decode cX8_opened 82 = .ok (.iload_n 3, 1) := by decide +kernel
theorem dX8_opened_83 : decode cX8_opened 83 = .ok (.laload, 1) := by decide +kernel
theorem dX8_opened_84 : decode cX8_opened 84 = .ok (.aload_n 0, 1) := by decide +kernel
theorem dX8_opened_85 : decode cX8_opened 85 = .ok (.getfield 53, 3) := by decide +kernel
theorem dX8_opened_88 : decode cX8_opened 88 = .ok (.iload_n 2, 1) := by decide +kernel
theorem dX8_opened_89 : decode cX8_opened 89 = .ok (.laload, 1) := by decide +kernel
theorem dX8_opened_90 : decode cX8_opened 90 = .ok (.lcmp, 1) := by decide +kernel
theorem dX8_opened_91 : decode cX8_opened 91 = .ok (.ifCond .lt 5, 3) := by decide +kernel
theorem dX8_opened_94 : decode cX8_opened 94 = .ok (.iload_n 3, 1) := by decide +kernel
theorem dX8_opened_95 : decode cX8_opened 95 = .ok (.istore_n 2, 1) := by decide +kernel
theorem dX8_opened_96 : decode cX8_opened 96 = .ok (.aload_n 0, 1) := by decide +kernel
theorem dX8_opened_97 : decode cX8_opened 97 = .ok (.getfield 56, 3) := by decide +kernel
theorem dX8_opened_100 : decode cX8_opened 100 = .ok (.iload_n 3, 1) := by decide +kernel
theorem dX8_opened_101 : decode cX8_opened 101 = .ok (.iaload, 1) := by decide +kernel
theorem dX8_opened_102 : decode cX8_opened 102 = .ok (.istore_n 3, 1) := by decide +kernel
theorem dX8_opened_103 : decode cX8_opened 103 = .ok (.goto (-29), 3) := by decide +kernel
theorem dX8_opened_106 : decode cX8_opened 106 = .ok (.aload_n 0, 1) := by decide +kernel
theorem dX8_opened_107 : decode cX8_opened 107 = .ok (.getfield 23, 3) := by decide +kernel
theorem dX8_opened_110 : decode cX8_opened 110 = .ok (.iload_n 1, 1) := by decide +kernel
theorem dX8_opened_111 : decode cX8_opened 111 = .ok (.laload, 1) := by decide +kernel
theorem dX8_opened_112 : decode cX8_opened 112 = .ok (.aload_n 0, 1) := by decide +kernel
theorem dX8_opened_113 : decode cX8_opened 113 = .ok (.getfield 26, 3) := by decide +kernel
theorem dX8_opened_116 : decode cX8_opened 116 = .ok (.iload_n 1, 1) := by decide +kernel
theorem dX8_opened_117 : decode cX8_opened 117 = .ok (.laload, 1) := by decide +kernel
theorem dX8_opened_118 : decode cX8_opened 118 = .ok (.lcmp, 1) := by decide +kernel
theorem dX8_opened_119 : decode cX8_opened 119 = .ok (.ifCond .le 12, 3) := by decide +kernel
theorem dX8_opened_122 : decode cX8_opened 122 = .ok (.aload_n 0, 1) := by decide +kernel
theorem dX8_opened_123 : decode cX8_opened 123 = .ok (.getfield 23, 3) := by decide +kernel
theorem dX8_opened_126 : decode cX8_opened 126 = .ok (.iload_n 1, 1) := by decide +kernel
theorem dX8_opened_127 : decode cX8_opened 127 = .ok (.laload, 1) := by decide +kernel
theorem dX8_opened_128 : decode cX8_opened 128 = .ok (.goto 9, 3) := by decide +kernel
theorem dX8_opened_131 : decode cX8_opened 131 = .ok (.aload_n 0, 1) := by decide +kernel
theorem dX8_opened_132 : decode cX8_opened 132 = .ok (.getfield 26, 3) := by decide +kernel
theorem dX8_opened_135 : decode cX8_opened 135 = .ok (.iload_n 1, 1) := by decide +kernel
theorem dX8_opened_136 : decode cX8_opened 136 = .ok (.laload, 1) := by decide +kernel
theorem dX8_opened_137 : decode cX8_opened 137 = .ok (.lstore_n 3, 1) := by decide +kernel
theorem dX8_opened_138 : decode cX8_opened 138 = .ok (.aload_n 0, 1) := by decide +kernel
theorem dX8_opened_139 : decode cX8_opened 139 = .ok (.getfield 47, 3) := by decide +kernel
theorem dX8_opened_142 : decode cX8_opened 142 = .ok (.iload_n 1, 1) := by decide +kernel
theorem dX8_opened_143 : decode cX8_opened 143 = .ok (.iaload, 1) := by decide +kernel
theorem dX8_opened_144 : decode cX8_opened 144 = .ok (.istore 5, 2) := by decide +kernel
theorem dX8_opened_146 : decode cX8_opened 146 = .ok (.iload 5, 2) := by decide +kernel
theorem dX8_opened_148 : decode cX8_opened 148 = .ok (.ifCond .lt 41, 3) := by decide +kernel
theorem dX8_opened_151 : decode cX8_opened 151 = .ok (.iload 5, 2) := by decide +kernel
theorem dX8_opened_153 : decode cX8_opened 153 = .ok (.iload_n 2, 1) := by decide +kernel
theorem dX8_opened_154 : decode cX8_opened 154 = .ok (.if_icmp .eq 23, 3) := by decide +kernel
theorem dX8_opened_157 : decode cX8_opened 157 = .ok (.aload_n 0, 1) := by decide +kernel
theorem dX8_opened_158 : decode cX8_opened 158 = .ok (.getfield 53, 3) := by decide +kernel
theorem dX8_opened_161 : decode cX8_opened 161 = .ok (.iload 5, 2) := by decide +kernel
theorem dX8_opened_163 : decode cX8_opened 163 = .ok (.laload, 1) := by decide +kernel
theorem dX8_opened_164 : decode cX8_opened 164 = .ok (.lload_n 3, 1) := by decide +kernel
theorem dX8_opened_165 : decode cX8_opened 165 = .ok (.lcmp, 1) := by decide +kernel
theorem dX8_opened_166 : decode cX8_opened 166 = .ok (.ifCond .le 11, 3) := by decide +kernel
theorem dX8_opened_169 : decode cX8_opened 169 = .ok (.aload_n 0, 1) := by decide +kernel
theorem dX8_opened_170 : decode cX8_opened 170 = .ok (.getfield 53, 3) := by decide +kernel
theorem dX8_opened_173 : decode cX8_opened 173 = .ok (.iload 5, 2) := by decide +kernel
theorem dX8_opened_175 : decode cX8_opened 175 = .ok (.laload, 1) := by decide +kernel
theorem dX8_opened_176 : decode cX8_opened 176 = .ok (.lstore_n 3, 1) := by decide +kernel
theorem dX8_opened_177 : decode cX8_opened 177 = .ok (.aload_n 0, 1) := by decide +kernel
theorem dX8_opened_178 : decode cX8_opened 178 = .ok (.getfield 56, 3) := by decide +kernel
theorem dX8_opened_181 : decode cX8_opened 181 = .ok (.iload 5, 2) := by decide +kernel
theorem dX8_opened_183 : decode cX8_opened 183 = .ok (.iaload, 1) := by decide +kernel
theorem dX8_opened_184 : decode cX8_opened 184 = .ok (.istore 5, 2) := by decide +kernel
theorem dX8_opened_186 : decode cX8_opened 186 = .ok (.goto (-40), 3) := by decide +kernel
theorem dX8_opened_189 : decode cX8_opened 189 = .ok (.aload_n 0, 1) := by decide +kernel
theorem dX8_opened_190 : decode cX8_opened 190 = .ok (.getfield 77, 3) := by decide +kernel
theorem dX8_opened_193 : decode cX8_opened 193 = .ok (.iload_n 1, 1) := by decide +kernel
theorem dX8_opened_194 : decode cX8_opened 194 = .ok (.iconst 1, 1) := by decide +kernel
theorem dX8_opened_195 : decode cX8_opened 195 = .ok (.bastore, 1) := by decide +kernel
theorem dX8_opened_196 : decode cX8_opened 196 = .ok (.aload_n 0, 1) := by decide +kernel
theorem dX8_opened_197 : decode cX8_opened 197 = .ok (.getfield 53, 3) := by decide +kernel
theorem dX8_opened_200 : decode cX8_opened 200 = .ok (.iload_n 2, 1) := by decide +kernel
theorem dX8_opened_201 : decode cX8_opened 201 = .ok (.laload, 1) := by decide +kernel
theorem dX8_opened_202 : decode cX8_opened 202 = .ok (.aload_n 0, 1) := by decide +kernel
theorem dX8_opened_203 : decode cX8_opened 203 = .ok (.getfield 26, 3) := by decide +kernel
theorem dX8_opened_206 : decode cX8_opened 206 = .ok (.iload_n 1, 1) := by decide +kernel
theorem dX8_opened_207 : decode cX8_opened 207 = .ok (.laload, 1) := by decide +kernel
theorem dX8_opened_208 : decode cX8_opened 208 = .ok (.lcmp, 1) := by decide +kernel
theorem dX8_opened_209 : decode cX8_opened 209 = .ok (.ifCond .lt 7, 3) := by decide +kernel
theorem dX8_opened_212 : decode cX8_opened 212 = .ok (.iconst 1, 1) := by decide +kernel
theorem dX8_opened_213 : decode cX8_opened 213 = .ok (.goto 4, 3) := by decide +kernel
theorem dX8_opened_216 : decode cX8_opened 216 = .ok (.iconst 0, 1) := by decide +kernel
theorem dX8_opened_217 : decode cX8_opened 217 = .ok (.istore 5, 2) := by decide +kernel
theorem dX8_opened_219 : decode cX8_opened 219 = .ok (.aload_n 0, 1) := by decide +kernel
theorem dX8_opened_220 : decode cX8_opened 220 = .ok (.getfield 81, 3) := by decide +kernel
theorem dX8_opened_223 : decode cX8_opened 223 = .ok (.iload_n 1, 1) := by decide +kernel
theorem dX8_opened_224 : decode cX8_opened 224 = .ok (.iload 5, 2) := by decide +kernel
theorem dX8_opened_226 : decode cX8_opened 226 = .ok (.ifCond .eq 12, 3) := by decide +kernel
theorem dX8_opened_229 : decode cX8_opened 229 = .ok (.aload_n 0, 1) := by decide +kernel
theorem dX8_opened_230 : decode cX8_opened 230 = .ok (.getfield 50, 3) := by decide +kernel
theorem dX8_opened_233 : decode cX8_opened 233 = .ok (.iload_n 2, 1) := by decide +kernel
theorem dX8_opened_234 : decode cX8_opened 234 = .ok (.iaload, 1) := by decide +kernel
theorem dX8_opened_235 : decode cX8_opened 235 = .ok (.goto 4, 3) := by decide +kernel
theorem dX8_opened_238 : decode cX8_opened 238 = .ok (.iconst (-1), 1) := by decide +kernel
theorem dX8_opened_239 : decode cX8_opened 239 = .ok (.iastore, 1) := by decide +kernel
theorem dX8_opened_240 : decode cX8_opened 240 = .ok (.aload_n 0, 1) := by decide +kernel
theorem dX8_opened_241 : decode cX8_opened 241 = .ok (.getfield 84, 3) := by decide +kernel
theorem dX8_opened_244 : decode cX8_opened 244 = .ok (.iload_n 1, 1) := by decide +kernel
theorem dX8_opened_245 : decode cX8_opened 245 = .ok (.iload 5, 2) := by decide +kernel
theorem dX8_opened_247 : decode cX8_opened 247 = .ok (.ifCond .eq 7, 3) := by decide +kernel
theorem dX8_opened_250 : decode cX8_opened 250 = .ok (.lload_n 3, 1) := by decide +kernel
theorem dX8_opened_251 : decode cX8_opened 251 = .ok (.goto 4, 3) := by decide +kernel
theorem dX8_opened_254 : decode cX8_opened 254 = .ok (.lconst 0, 1) := by decide +kernel
theorem dX8_opened_255 : decode cX8_opened 255 = .ok (.lastore, 1) := by decide +kernel
theorem dX8_opened_256 : decode cX8_opened 256 = .ok (.aload_n 0, 1) := by decide +kernel
theorem dX8_opened_257 : decode cX8_opened 257 = .ok (.getfield 84, 3) := by decide +kernel
theorem dX8_opened_260 : decode cX8_opened 260 = .ok (.iload_n 1, 1) := by decide +kernel
theorem dX8_opened_261 : decode cX8_opened 261 = .ok (.laload, 1) := by decide +kernel
theorem dX8_opened_262 : decode cX8_opened 262 = .ok (.lreturn, 1) := by decide +kernel
theorem sc_X8_opened_X8_noLotOf : ym_site g_X8_opened g_X8_noLotOf 3 2 2 := ⟨by decide, by decide, wd_1178, wd_83, by decide +kernel⟩
theorem sc_X8_opened_X8_notOpen : ym_site g_X8_opened g_X8_notOpen 3 1 1 := ⟨by decide, by decide, wd_1130, wd_83, by decide +kernel⟩
def bl_X8_opened_96_74 (K : Option Nat → Int32 → Int32 → Int32 → ym_H → Option ((Int32) × ym_H)) (N : Nat) (w0 : Option Nat) (w1 : Int32) (w2 : Int32) (w3 : Int32) (h : ym_H) : Option ((Int32) × ym_H) :=
  Option.bind (ym_gR h w0 8 18) fun v97 =>
  Option.bind (ym_ldI h v97 w3) fun v101 =>
  K w0 w1 w2 v101 h
set_option maxRecDepth 20000 in
set_option maxHeartbeats 4000000 in
theorem ob_X8_opened_96_74 {D : ym_D} {b0 : Nat} {K : Option Nat → Int32 → Int32 → Int32 → ym_H → Option ((Int32) × ym_H)} {N : Nat} {w0 : Option Nat} {w1 : Int32} {w2 : Int32} {w3 : Int32} {h h1 : ym_H} {x : (Int32)} (hKl : ∀ (u2 : Int32) (u3 : Int32) (h h1 : ym_H) (x : (Int32)), K w0 w1 u2 u3 h = some (x, h1) → ∀ {r0 : Option Value} {h' : ym_H}, ym_Y D b0 g_X8_opened 3 106 [(0, va_rf w0), (1, .int w1), (2, .int x)] [] h1 r0 h' → ym_Y D b0 g_X8_opened 3 74 [(0, va_rf w0), (1, .int w1), (2, .int u2), (3, .int u3)] [] h r0 h') (hf : bl_X8_opened_96_74 K N w0 w1 w2 w3 h = some (x, h1)) {r0 : Option Value} {h' : ym_H} (k : ym_Y D b0 g_X8_opened 3 106 [(0, va_rf w0), (1, .int w1), (2, .int x)] [] h1 r0 h') : ym_Y D b0 g_X8_opened 3 96 [(0, va_rf w0), (1, .int w1), (2, .int w2), (3, .int w3)] [] h r0 h' := by
  unfold bl_X8_opened_96_74 at hf
  refine ym_aload_n (pc := 96) 0 dX8_opened_96 rfl rfl ?_
  obtain ⟨v97, e97, hf⟩ := Option.bind_eq_some_iff.mp hf
  refine ym_get (pc := 97) dX8_opened_97 rfl (by decide) iX8 (k := 18) (by decide) wd_863 (ym_gR_v e97) ?_
  refine ym_iload_n (pc := 100) 3 dX8_opened_100 rfl rfl ?_
  obtain ⟨v101, e101, hf⟩ := Option.bind_eq_some_iff.mp hf
  refine ym_iald (pc := 101) dX8_opened_101 rfl (ym_ldI_v e101) ?_
  refine ym_istore_n (pc := 102) (lv' := [(3, .int v101), (0, va_rf w0), (1, .int w1), (2, .int w2)]) dX8_opened_102 rfl (by decide) ⟨trivial, trivial, rfl, trivial, trivial⟩ rfl ?_
  refine ym_goto (pc := 103) (tgt := 74) dX8_opened_103 (by decide) ?_
  exact ym_sub [1, 2, 3, 0] rfl (hKl _ _ _ _ _ hf k)
def lb_X8_opened_74 (K : Option Nat → Int32 → Int32 → Int32 → ym_H → Option ((Int32) × ym_H)) (N : Nat) (w0 : Option Nat) (w1 : Int32) (w2 : Int32) (w3 : Int32) (h : ym_H) : Option ((Int32) × ym_H) :=
  if w3 < 0 then
    some (w2, h)
  else
    Option.bind (ym_gR h w0 8 17) fun v79 =>
    Option.bind (ym_ldL h v79 w3) fun v83 =>
    Option.bind (ym_gR h w0 8 17) fun v85 =>
    Option.bind (ym_ldL h v85 w2) fun v89 =>
    if v83 < v89 then
      bl_X8_opened_96_74 K N w0 w1 w2 w3 h
    else
      bl_X8_opened_96_74 K N w0 w1 w3 w3 h
set_option maxRecDepth 20000 in
set_option maxHeartbeats 4000000 in
theorem ol_X8_opened_74 {D : ym_D} {b0 : Nat} {K : Option Nat → Int32 → Int32 → Int32 → ym_H → Option ((Int32) × ym_H)} {N : Nat} {w0 : Option Nat} {w1 : Int32} {w2 : Int32} {w3 : Int32} {h h1 : ym_H} {x : (Int32)} (hKl : ∀ (u2 : Int32) (u3 : Int32) (h h1 : ym_H) (x : (Int32)), K w0 w1 u2 u3 h = some (x, h1) → ∀ {r0 : Option Value} {h' : ym_H}, ym_Y D b0 g_X8_opened 3 106 [(0, va_rf w0), (1, .int w1), (2, .int x)] [] h1 r0 h' → ym_Y D b0 g_X8_opened 3 74 [(0, va_rf w0), (1, .int w1), (2, .int u2), (3, .int u3)] [] h r0 h') (hf : lb_X8_opened_74 K N w0 w1 w2 w3 h = some (x, h1)) {r0 : Option Value} {h' : ym_H} (k : ym_Y D b0 g_X8_opened 3 106 [(0, va_rf w0), (1, .int w1), (2, .int x)] [] h1 r0 h') : ym_Y D b0 g_X8_opened 3 74 [(0, va_rf w0), (1, .int w1), (2, .int w2), (3, .int w3)] [] h r0 h' := by
  unfold lb_X8_opened_74 at hf
  refine ym_iload_n (pc := 74) 3 dX8_opened_74 rfl rfl ?_
  by_cases c75 : w3 < 0
  · rw [if_pos c75] at hf
    refine ym_if_lt_y (pc := 75) (tgt := 106) dX8_opened_75 (by decide) c75 ?_
    cases hf
    exact ym_sub [0, 1, 2] rfl k
  · rw [if_neg c75] at hf
    refine ym_if_lt_n (pc := 75) (tgt := 106) dX8_opened_75 (by decide) c75 ?_
    refine ym_aload_n (pc := 78) 0 dX8_opened_78 rfl rfl ?_
    obtain ⟨v79, e79, hf⟩ := Option.bind_eq_some_iff.mp hf
    refine ym_get (pc := 79) dX8_opened_79 rfl (by decide) iX8 (k := 17) (by decide) wd_862 (ym_gR_v e79) ?_
    refine ym_iload_n (pc := 82) 3 dX8_opened_82 rfl rfl ?_
    obtain ⟨v83, e83, hf⟩ := Option.bind_eq_some_iff.mp hf
    refine ym_lald (pc := 83) dX8_opened_83 rfl (ym_ldL_v e83) ?_
    refine ym_aload_n (pc := 84) 0 dX8_opened_84 rfl rfl ?_
    obtain ⟨v85, e85, hf⟩ := Option.bind_eq_some_iff.mp hf
    refine ym_get (pc := 85) dX8_opened_85 rfl (by decide) iX8 (k := 17) (by decide) wd_862 (ym_gR_v e85) ?_
    refine ym_iload_n (pc := 88) 2 dX8_opened_88 rfl rfl ?_
    obtain ⟨v89, e89, hf⟩ := Option.bind_eq_some_iff.mp hf
    refine ym_lald (pc := 89) dX8_opened_89 rfl (ym_ldL_v e89) ?_
    by_cases c90 : v83 < v89
    · rw [if_pos c90] at hf
      refine ym_lcmp_lt_y (pc := 90) (tgt := 96) dX8_opened_90 dX8_opened_91 (by decide) c90 ?_
      exact ym_sub [0, 1, 2, 3] rfl (ob_X8_opened_96_74 hKl hf k)
    · rw [if_neg c90] at hf
      refine ym_lcmp_lt_n (pc := 90) (tgt := 96) dX8_opened_90 dX8_opened_91 (by decide) c90 ?_
      refine ym_iload_n (pc := 94) 3 dX8_opened_94 rfl rfl ?_
      refine ym_istore_n (pc := 95) (lv' := [(2, .int w3), (0, va_rf w0), (1, .int w1), (3, .int w3)]) dX8_opened_95 rfl (by decide) ⟨trivial, rfl, trivial, trivial, trivial⟩ rfl ?_
      exact ym_sub [1, 2, 0, 3] rfl (ob_X8_opened_96_74 hKl hf k)
def lp_X8_opened_74 (N : Nat) : Nat → Option Nat → Int32 → Int32 → Int32 → ym_H → Option ((Int32) × ym_H)
  | 0, _, _, _, _, _ => none
  | n + 1, w0, w1, w2, w3, h => lb_X8_opened_74 (lp_X8_opened_74 N n) N w0 w1 w2 w3 h
set_option maxRecDepth 20000 in
set_option maxHeartbeats 4000000 in
theorem ok_lp_X8_opened_74 {D : ym_D} {b0 : Nat} {N : Nat} {w0 : Option Nat} {w1 : Int32} : ∀ (n : Nat) (w2 : Int32) (w3 : Int32) (h h1 : ym_H) (x : (Int32)), lp_X8_opened_74 N n w0 w1 w2 w3 h = some (x, h1) → ∀ {r0 : Option Value} {h' : ym_H}, ym_Y D b0 g_X8_opened 3 106 [(0, va_rf w0), (1, .int w1), (2, .int x)] [] h1 r0 h' → ym_Y D b0 g_X8_opened 3 74 [(0, va_rf w0), (1, .int w1), (2, .int w2), (3, .int w3)] [] h r0 h' := by
  intro n
  induction n with
  | zero =>
    intro w2 w3 h h1 x hf
    cases hf
  | succ n ih =>
    intro w2 w3 h h1 x hf r0 h' k
    exact ol_X8_opened_74 (fun w2 w3 h h1 x z r0 h' k => ih w2 w3 h h1 x z k) hf k
def bl_X8_opened_177_146 (K : Option Nat → Int32 → Int32 → Int64 → Int32 → ym_H → Option ((Int64) × ym_H)) (N : Nat) (w0 : Option Nat) (w1 : Int32) (w2 : Int32) (w3 : Int64) (w5 : Int32) (h : ym_H) : Option ((Int64) × ym_H) :=
  Option.bind (ym_gR h w0 8 18) fun v178 =>
  Option.bind (ym_ldI h v178 w5) fun v183 =>
  K w0 w1 w2 w3 v183 h
set_option maxRecDepth 20000 in
set_option maxHeartbeats 4000000 in
theorem ob_X8_opened_177_146 {D : ym_D} {b0 : Nat} {K : Option Nat → Int32 → Int32 → Int64 → Int32 → ym_H → Option ((Int64) × ym_H)} {N : Nat} {w0 : Option Nat} {w1 : Int32} {w2 : Int32} {w3 : Int64} {w5 : Int32} {h h1 : ym_H} {x : (Int64)} (hKl : ∀ (u3 : Int64) (u5 : Int32) (h h1 : ym_H) (x : (Int64)), K w0 w1 w2 u3 u5 h = some (x, h1) → ∀ {r0 : Option Value} {h' : ym_H}, ym_Y D b0 g_X8_opened 3 189 [(0, va_rf w0), (1, .int w1), (2, .int w2), (3, .long x)] [] h1 r0 h' → ym_Y D b0 g_X8_opened 3 146 [(0, va_rf w0), (1, .int w1), (2, .int w2), (3, .long u3), (5, .int u5)] [] h r0 h') (hf : bl_X8_opened_177_146 K N w0 w1 w2 w3 w5 h = some (x, h1)) {r0 : Option Value} {h' : ym_H} (k : ym_Y D b0 g_X8_opened 3 189 [(0, va_rf w0), (1, .int w1), (2, .int w2), (3, .long x)] [] h1 r0 h') : ym_Y D b0 g_X8_opened 3 177 [(0, va_rf w0), (1, .int w1), (2, .int w2), (3, .long w3), (5, .int w5)] [] h r0 h' := by
  unfold bl_X8_opened_177_146 at hf
  refine ym_aload_n (pc := 177) 0 dX8_opened_177 rfl rfl ?_
  obtain ⟨v178, e178, hf⟩ := Option.bind_eq_some_iff.mp hf
  refine ym_get (pc := 178) dX8_opened_178 rfl (by decide) iX8 (k := 18) (by decide) wd_863 (ym_gR_v e178) ?_
  refine ym_iload (pc := 181) 4 dX8_opened_181 rfl ?_
  obtain ⟨v183, e183, hf⟩ := Option.bind_eq_some_iff.mp hf
  refine ym_iald (pc := 183) dX8_opened_183 rfl (ym_ldI_v e183) ?_
  refine ym_istore (pc := 184) (lv' := [(5, .int v183), (0, va_rf w0), (1, .int w1), (2, .int w2), (3, .long w3)]) dX8_opened_184 (by decide) ⟨trivial, trivial, trivial, trivial, trivial, trivial⟩ rfl ?_
  refine ym_goto (pc := 186) (tgt := 146) dX8_opened_186 (by decide) ?_
  exact ym_sub [1, 2, 3, 4, 0] rfl (hKl _ _ _ _ _ hf k)
def lb_X8_opened_146 (K : Option Nat → Int32 → Int32 → Int64 → Int32 → ym_H → Option ((Int64) × ym_H)) (N : Nat) (w0 : Option Nat) (w1 : Int32) (w2 : Int32) (w3 : Int64) (w5 : Int32) (h : ym_H) : Option ((Int64) × ym_H) :=
  if w5 < 0 then
    some (w3, h)
  else
    if w5 = w2 then
      bl_X8_opened_177_146 K N w0 w1 w2 w3 w5 h
    else
      Option.bind (ym_gR h w0 8 17) fun v158 =>
      Option.bind (ym_ldL h v158 w5) fun v163 =>
      if v163 ≤ w3 then
        bl_X8_opened_177_146 K N w0 w1 w2 w3 w5 h
      else
        Option.bind (ym_gR h w0 8 17) fun v170 =>
        Option.bind (ym_ldL h v170 w5) fun v175 =>
        bl_X8_opened_177_146 K N w0 w1 w2 v175 w5 h
set_option maxRecDepth 20000 in
set_option maxHeartbeats 4000000 in
theorem ol_X8_opened_146 {D : ym_D} {b0 : Nat} {K : Option Nat → Int32 → Int32 → Int64 → Int32 → ym_H → Option ((Int64) × ym_H)} {N : Nat} {w0 : Option Nat} {w1 : Int32} {w2 : Int32} {w3 : Int64} {w5 : Int32} {h h1 : ym_H} {x : (Int64)} (hKl : ∀ (u3 : Int64) (u5 : Int32) (h h1 : ym_H) (x : (Int64)), K w0 w1 w2 u3 u5 h = some (x, h1) → ∀ {r0 : Option Value} {h' : ym_H}, ym_Y D b0 g_X8_opened 3 189 [(0, va_rf w0), (1, .int w1), (2, .int w2), (3, .long x)] [] h1 r0 h' → ym_Y D b0 g_X8_opened 3 146 [(0, va_rf w0), (1, .int w1), (2, .int w2), (3, .long u3), (5, .int u5)] [] h r0 h') (hf : lb_X8_opened_146 K N w0 w1 w2 w3 w5 h = some (x, h1)) {r0 : Option Value} {h' : ym_H} (k : ym_Y D b0 g_X8_opened 3 189 [(0, va_rf w0), (1, .int w1), (2, .int w2), (3, .long x)] [] h1 r0 h') : ym_Y D b0 g_X8_opened 3 146 [(0, va_rf w0), (1, .int w1), (2, .int w2), (3, .long w3), (5, .int w5)] [] h r0 h' := by
  unfold lb_X8_opened_146 at hf
  refine ym_iload (pc := 146) 4 dX8_opened_146 rfl ?_
  by_cases c148 : w5 < 0
  · rw [if_pos c148] at hf
    refine ym_if_lt_y (pc := 148) (tgt := 189) dX8_opened_148 (by decide) c148 ?_
    cases hf
    exact ym_sub [0, 1, 2, 3] rfl k
  · rw [if_neg c148] at hf
    refine ym_if_lt_n (pc := 148) (tgt := 189) dX8_opened_148 (by decide) c148 ?_
    refine ym_iload (pc := 151) 4 dX8_opened_151 rfl ?_
    refine ym_iload_n (pc := 153) 2 dX8_opened_153 rfl rfl ?_
    by_cases c154 : w5 = w2
    · rw [if_pos c154] at hf
      refine ym_icmp_eq_y (pc := 154) (tgt := 177) dX8_opened_154 (by decide) c154 ?_
      exact ym_sub [0, 1, 2, 3, 4] rfl (ob_X8_opened_177_146 hKl hf k)
    · rw [if_neg c154] at hf
      refine ym_icmp_eq_n (pc := 154) (tgt := 177) dX8_opened_154 (by decide) c154 ?_
      refine ym_aload_n (pc := 157) 0 dX8_opened_157 rfl rfl ?_
      obtain ⟨v158, e158, hf⟩ := Option.bind_eq_some_iff.mp hf
      refine ym_get (pc := 158) dX8_opened_158 rfl (by decide) iX8 (k := 17) (by decide) wd_862 (ym_gR_v e158) ?_
      refine ym_iload (pc := 161) 4 dX8_opened_161 rfl ?_
      obtain ⟨v163, e163, hf⟩ := Option.bind_eq_some_iff.mp hf
      refine ym_lald (pc := 163) dX8_opened_163 rfl (ym_ldL_v e163) ?_
      refine ym_lload_n (pc := 164) 3 dX8_opened_164 rfl rfl ?_
      by_cases c165 : v163 ≤ w3
      · rw [if_pos c165] at hf
        refine ym_lcmp_le_y (pc := 165) (tgt := 177) dX8_opened_165 dX8_opened_166 (by decide) c165 ?_
        exact ym_sub [0, 1, 2, 3, 4] rfl (ob_X8_opened_177_146 hKl hf k)
      · rw [if_neg c165] at hf
        refine ym_lcmp_le_n (pc := 165) (tgt := 177) dX8_opened_165 dX8_opened_166 (by decide) c165 ?_
        refine ym_aload_n (pc := 169) 0 dX8_opened_169 rfl rfl ?_
        obtain ⟨v170, e170, hf⟩ := Option.bind_eq_some_iff.mp hf
        refine ym_get (pc := 170) dX8_opened_170 rfl (by decide) iX8 (k := 17) (by decide) wd_862 (ym_gR_v e170) ?_
        refine ym_iload (pc := 173) 4 dX8_opened_173 rfl ?_
        obtain ⟨v175, e175, hf⟩ := Option.bind_eq_some_iff.mp hf
        refine ym_lald (pc := 175) dX8_opened_175 rfl (ym_ldL_v e175) ?_
        refine ym_lstore_n (pc := 176) (lv' := [(3, .long v175), (0, va_rf w0), (1, .int w1), (2, .int w2), (5, .int w5)]) dX8_opened_176 rfl (by decide) ⟨trivial, trivial, rfl, trivial, trivial, trivial⟩ rfl ?_
        exact ym_sub [1, 2, 3, 0, 4] rfl (ob_X8_opened_177_146 hKl hf k)
def lp_X8_opened_146 (N : Nat) : Nat → Option Nat → Int32 → Int32 → Int64 → Int32 → ym_H → Option ((Int64) × ym_H)
  | 0, _, _, _, _, _, _ => none
  | n + 1, w0, w1, w2, w3, w5, h => lb_X8_opened_146 (lp_X8_opened_146 N n) N w0 w1 w2 w3 w5 h
set_option maxRecDepth 20000 in
set_option maxHeartbeats 4000000 in
theorem ok_lp_X8_opened_146 {D : ym_D} {b0 : Nat} {N : Nat} {w0 : Option Nat} {w1 : Int32} {w2 : Int32} : ∀ (n : Nat) (w3 : Int64) (w5 : Int32) (h h1 : ym_H) (x : (Int64)), lp_X8_opened_146 N n w0 w1 w2 w3 w5 h = some (x, h1) → ∀ {r0 : Option Value} {h' : ym_H}, ym_Y D b0 g_X8_opened 3 189 [(0, va_rf w0), (1, .int w1), (2, .int w2), (3, .long x)] [] h1 r0 h' → ym_Y D b0 g_X8_opened 3 146 [(0, va_rf w0), (1, .int w1), (2, .int w2), (3, .long w3), (5, .int w5)] [] h r0 h' := by
  intro n
  induction n with
  | zero =>
    intro w3 w5 h h1 x hf
    cases hf
  | succ n ih =>
    intro w3 w5 h h1 x hf r0 h' k
    exact ol_X8_opened_146 (fun w3 w5 h h1 x z r0 h' k => ih w3 w5 h h1 x z k) hf k
def bl_X8_opened_255 (N : Nat) (w0 : Option Nat) (w1 : Int32) (s0 : Int64) (s1 : Int32) (s2 : Option Nat) (h : ym_H) : Option (Int64 × ym_H) :=
  Option.bind (ym_as h s2 1 s1 (.long s0)) fun h255 =>
  Option.bind (ym_gR h255 w0 8 27) fun v257 =>
  Option.bind (ym_ldL h255 v257 w1) fun v261 =>
  some (v261, h255)
set_option maxRecDepth 20000 in
set_option maxHeartbeats 4000000 in
theorem ob_X8_opened_255 {D : ym_D} {b0 : Nat} {N : Nat} {w0 : Option Nat} {w1 : Int32} {s0 : Int64} {s1 : Int32} {s2 : Option Nat} {h h' : ym_H} {r : Int64} (hf : bl_X8_opened_255 N w0 w1 s0 s1 s2 h = some (r, h')) : ym_Y D b0 g_X8_opened 3 255 [(0, va_rf w0), (1, .int w1)] [.long s0, .int s1, va_rf s2] h (some (.long r)) h' := by
  unfold bl_X8_opened_255 at hf
  obtain ⟨h255, e255, hf⟩ := Option.bind_eq_some_iff.mp hf
  refine ym_last (pc := 255) dX8_opened_255 rfl e255 ?_
  refine ym_aload_n (pc := 256) 0 dX8_opened_256 rfl rfl ?_
  obtain ⟨v257, e257, hf⟩ := Option.bind_eq_some_iff.mp hf
  refine ym_get (pc := 257) dX8_opened_257 rfl (by decide) iX8 (k := 27) (by decide) wd_872 (ym_gR_v e257) ?_
  refine ym_iload_n (pc := 260) 1 dX8_opened_260 rfl rfl ?_
  obtain ⟨v261, e261, hf⟩ := Option.bind_eq_some_iff.mp hf
  refine ym_lald (pc := 261) dX8_opened_261 rfl (ym_ldL_v e261) ?_
  cases hf
  exact ym_lret (pc := 262) dX8_opened_262 rfl
def bl_X8_opened_239 (N : Nat) (w0 : Option Nat) (w1 : Int32) (w3 : Int64) (w5 : Int32) (s0 : Int32) (s1 : Int32) (s2 : Option Nat) (h : ym_H) : Option (Int64 × ym_H) :=
  Option.bind (ym_as h s2 0 s1 (.int s0)) fun h239 =>
  Option.bind (ym_gR h239 w0 8 27) fun v241 =>
  if w5 = 0 then
    bl_X8_opened_255 N w0 w1 0 w1 v241 h239
  else
    bl_X8_opened_255 N w0 w1 w3 w1 v241 h239
set_option maxRecDepth 20000 in
set_option maxHeartbeats 4000000 in
theorem ob_X8_opened_239 {D : ym_D} {b0 : Nat} {N : Nat} {w0 : Option Nat} {w1 : Int32} {w3 : Int64} {w5 : Int32} {s0 : Int32} {s1 : Int32} {s2 : Option Nat} {h h' : ym_H} {r : Int64} (hf : bl_X8_opened_239 N w0 w1 w3 w5 s0 s1 s2 h = some (r, h')) : ym_Y D b0 g_X8_opened 3 239 [(0, va_rf w0), (1, .int w1), (3, .long w3), (5, .int w5)] [.int s0, .int s1, va_rf s2] h (some (.long r)) h' := by
  unfold bl_X8_opened_239 at hf
  obtain ⟨h239, e239, hf⟩ := Option.bind_eq_some_iff.mp hf
  refine ym_iast (pc := 239) dX8_opened_239 rfl e239 ?_
  refine ym_aload_n (pc := 240) 0 dX8_opened_240 rfl rfl ?_
  obtain ⟨v241, e241, hf⟩ := Option.bind_eq_some_iff.mp hf
  refine ym_get (pc := 241) dX8_opened_241 rfl (by decide) iX8 (k := 27) (by decide) wd_872 (ym_gR_v e241) ?_
  refine ym_iload_n (pc := 244) 1 dX8_opened_244 rfl rfl ?_
  refine ym_iload (pc := 245) 3 dX8_opened_245 rfl ?_
  by_cases c247 : w5 = 0
  · rw [if_pos c247] at hf
    refine ym_if_eq_y (pc := 247) (tgt := 254) dX8_opened_247 (by decide) c247 ?_
    refine ym_lconst (pc := 254) (v := 0) dX8_opened_254 (by decide) ?_
    exact ym_sub [0, 1] rfl (ob_X8_opened_255 hf)
  · rw [if_neg c247] at hf
    refine ym_if_eq_n (pc := 247) (tgt := 254) dX8_opened_247 (by decide) c247 ?_
    refine ym_lload_n (pc := 250) 2 dX8_opened_250 rfl rfl ?_
    refine ym_goto (pc := 251) (tgt := 255) dX8_opened_251 (by decide) ?_
    exact ym_sub [0, 1] rfl (ob_X8_opened_255 hf)
def bl_X8_opened_217 (N : Nat) (w0 : Option Nat) (w1 : Int32) (w2 : Int32) (w3 : Int64) (s0 : Int32) (h : ym_H) : Option (Int64 × ym_H) :=
  Option.bind (ym_gR h w0 8 26) fun v220 =>
  if s0 = 0 then
    bl_X8_opened_239 N w0 w1 w3 s0 (-1) w1 v220 h
  else
    Option.bind (ym_gR h w0 8 16) fun v230 =>
    Option.bind (ym_ldI h v230 w2) fun v234 =>
    bl_X8_opened_239 N w0 w1 w3 s0 v234 w1 v220 h
set_option maxRecDepth 20000 in
set_option maxHeartbeats 4000000 in
theorem ob_X8_opened_217 {D : ym_D} {b0 : Nat} {N : Nat} {w0 : Option Nat} {w1 : Int32} {w2 : Int32} {w3 : Int64} {s0 : Int32} {h h' : ym_H} {r : Int64} (hf : bl_X8_opened_217 N w0 w1 w2 w3 s0 h = some (r, h')) : ym_Y D b0 g_X8_opened 3 217 [(0, va_rf w0), (1, .int w1), (2, .int w2), (3, .long w3)] [.int s0] h (some (.long r)) h' := by
  unfold bl_X8_opened_217 at hf
  refine ym_istore (pc := 217) (lv' := [(5, .int s0), (0, va_rf w0), (1, .int w1), (2, .int w2), (3, .long w3)]) dX8_opened_217 (by decide) ⟨trivial, trivial, trivial, trivial, trivial⟩ rfl ?_
  refine ym_aload_n (pc := 219) 1 dX8_opened_219 rfl rfl ?_
  obtain ⟨v220, e220, hf⟩ := Option.bind_eq_some_iff.mp hf
  refine ym_get (pc := 220) dX8_opened_220 rfl (by decide) iX8 (k := 26) (by decide) wd_871 (ym_gR_v e220) ?_
  refine ym_iload_n (pc := 223) 2 dX8_opened_223 rfl rfl ?_
  refine ym_iload (pc := 224) 0 dX8_opened_224 rfl ?_
  by_cases c226 : s0 = 0
  · rw [if_pos c226] at hf
    refine ym_if_eq_y (pc := 226) (tgt := 238) dX8_opened_226 (by decide) c226 ?_
    refine ym_iconst (pc := 238) (v := (-1)) dX8_opened_238 (by decide) ?_
    exact ym_sub [1, 2, 4, 0] rfl (ob_X8_opened_239 hf)
  · rw [if_neg c226] at hf
    refine ym_if_eq_n (pc := 226) (tgt := 238) dX8_opened_226 (by decide) c226 ?_
    refine ym_aload_n (pc := 229) 1 dX8_opened_229 rfl rfl ?_
    obtain ⟨v230, e230, hf⟩ := Option.bind_eq_some_iff.mp hf
    refine ym_get (pc := 230) dX8_opened_230 rfl (by decide) iX8 (k := 16) (by decide) wd_861 (ym_gR_v e230) ?_
    refine ym_iload_n (pc := 233) 3 dX8_opened_233 rfl rfl ?_
    obtain ⟨v234, e234, hf⟩ := Option.bind_eq_some_iff.mp hf
    refine ym_iald (pc := 234) dX8_opened_234 rfl (ym_ldI_v e234) ?_
    refine ym_goto (pc := 235) (tgt := 239) dX8_opened_235 (by decide) ?_
    exact ym_sub [1, 2, 4, 0] rfl (ob_X8_opened_239 hf)
def bl_X8_opened_137 (N : Nat) (w0 : Option Nat) (w1 : Int32) (w2 : Int32) (s0 : Int64) (h : ym_H) : Option (Int64 × ym_H) :=
  Option.bind (ym_gR h w0 8 14) fun v139 =>
  Option.bind (ym_ldI h v139 w1) fun v143 =>
  Option.bind (lp_X8_opened_146 N N w0 w1 w2 s0 v143 h) fun q146 =>
  Option.bind (ym_gR q146.2 w0 8 25) fun v190 =>
  Option.bind (ym_as q146.2 v190 2 w1 (.int 1)) fun h195 =>
  Option.bind (ym_gR h195 w0 8 17) fun v197 =>
  Option.bind (ym_ldL h195 v197 w2) fun v201 =>
  Option.bind (ym_gR h195 w0 8 7) fun v203 =>
  Option.bind (ym_ldL h195 v203 w1) fun v207 =>
  if v201 < v207 then
    bl_X8_opened_217 N w0 w1 w2 q146.1 0 h195
  else
    bl_X8_opened_217 N w0 w1 w2 q146.1 1 h195
set_option maxRecDepth 20000 in
set_option maxHeartbeats 4000000 in
theorem ob_X8_opened_137 {D : ym_D} {b0 : Nat} {N : Nat} {w0 : Option Nat} {w1 : Int32} {w2 : Int32} {s0 : Int64} {h h' : ym_H} {r : Int64} (hf : bl_X8_opened_137 N w0 w1 w2 s0 h = some (r, h')) : ym_Y D b0 g_X8_opened 3 137 [(0, va_rf w0), (1, .int w1), (2, .int w2)] [.long s0] h (some (.long r)) h' := by
  unfold bl_X8_opened_137 at hf
  refine ym_lstore_n (pc := 137) (lv' := [(3, .long s0), (0, va_rf w0), (1, .int w1), (2, .int w2)]) dX8_opened_137 rfl (by decide) ⟨trivial, trivial, rfl, trivial⟩ rfl ?_
  refine ym_aload_n (pc := 138) 1 dX8_opened_138 rfl rfl ?_
  obtain ⟨v139, e139, hf⟩ := Option.bind_eq_some_iff.mp hf
  refine ym_get (pc := 139) dX8_opened_139 rfl (by decide) iX8 (k := 14) (by decide) wd_859 (ym_gR_v e139) ?_
  refine ym_iload_n (pc := 142) 2 dX8_opened_142 rfl rfl ?_
  obtain ⟨v143, e143, hf⟩ := Option.bind_eq_some_iff.mp hf
  refine ym_iald (pc := 143) dX8_opened_143 rfl (ym_ldI_v e143) ?_
  refine ym_istore (pc := 144) (lv' := [(5, .int v143), (3, .long s0), (0, va_rf w0), (1, .int w1), (2, .int w2)]) dX8_opened_144 (by decide) ⟨trivial, trivial, trivial, trivial, trivial⟩ rfl ?_
  obtain ⟨q146, e146, hf⟩ := Option.bind_eq_some_iff.mp hf
  refine ym_sub (lv' := [(0, va_rf w0), (1, .int w1), (2, .int w2), (3, .long s0), (5, .int v143)]) [2, 3, 4, 1, 0] rfl ?_
  refine ok_lp_X8_opened_146 N _ _ _ _ _ e146 ?_
  refine ym_aload_n (pc := 189) 0 dX8_opened_189 rfl rfl ?_
  obtain ⟨v190, e190, hf⟩ := Option.bind_eq_some_iff.mp hf
  refine ym_get (pc := 190) dX8_opened_190 rfl (by decide) iX8 (k := 25) (by decide) wd_870 (ym_gR_v e190) ?_
  refine ym_iload_n (pc := 193) 1 dX8_opened_193 rfl rfl ?_
  refine ym_iconst (pc := 194) (v := 1) dX8_opened_194 (by decide) ?_
  obtain ⟨h195, e195, hf⟩ := Option.bind_eq_some_iff.mp hf
  refine ym_zast (pc := 195) dX8_opened_195 rfl rfl e195 ?_
  refine ym_aload_n (pc := 196) 0 dX8_opened_196 rfl rfl ?_
  obtain ⟨v197, e197, hf⟩ := Option.bind_eq_some_iff.mp hf
  refine ym_get (pc := 197) dX8_opened_197 rfl (by decide) iX8 (k := 17) (by decide) wd_862 (ym_gR_v e197) ?_
  refine ym_iload_n (pc := 200) 2 dX8_opened_200 rfl rfl ?_
  obtain ⟨v201, e201, hf⟩ := Option.bind_eq_some_iff.mp hf
  refine ym_lald (pc := 201) dX8_opened_201 rfl (ym_ldL_v e201) ?_
  refine ym_aload_n (pc := 202) 0 dX8_opened_202 rfl rfl ?_
  obtain ⟨v203, e203, hf⟩ := Option.bind_eq_some_iff.mp hf
  refine ym_get (pc := 203) dX8_opened_203 rfl (by decide) iX8 (k := 7) (by decide) wd_852 (ym_gR_v e203) ?_
  refine ym_iload_n (pc := 206) 1 dX8_opened_206 rfl rfl ?_
  obtain ⟨v207, e207, hf⟩ := Option.bind_eq_some_iff.mp hf
  refine ym_lald (pc := 207) dX8_opened_207 rfl (ym_ldL_v e207) ?_
  by_cases c208 : v201 < v207
  · rw [if_pos c208] at hf
    refine ym_lcmp_lt_y (pc := 208) (tgt := 216) dX8_opened_208 dX8_opened_209 (by decide) c208 ?_
    refine ym_iconst (pc := 216) (v := 0) dX8_opened_216 (by decide) ?_
    exact ym_sub [0, 1, 2, 3] rfl (ob_X8_opened_217 hf)
  · rw [if_neg c208] at hf
    refine ym_lcmp_lt_n (pc := 208) (tgt := 216) dX8_opened_208 dX8_opened_209 (by decide) c208 ?_
    refine ym_iconst (pc := 212) (v := 1) dX8_opened_212 (by decide) ?_
    refine ym_goto (pc := 213) (tgt := 217) dX8_opened_213 (by decide) ?_
    exact ym_sub [0, 1, 2, 3] rfl (ob_X8_opened_217 hf)
def fn_X8_opened (N : Nat) (a0 : Option Nat) (a1 : Int32) (h : ym_H) : Option (Int64 × ym_H) :=
  Option.bind (ym_ob h a0 8) fun o3 =>
  Option.bind (fn_X8_noLotOf N a0 a1 4 h) fun q3 =>
  if q3.1 ≤ 0 then
    Option.bind (ym_ob q3.2 a0 8) fun o20 =>
    Option.bind (fn_X8_notOpen N a0 a1 q3.2) fun q20 =>
    if q20.1 ≤ 0 then
      Option.bind (ym_gR q20.2 a0 8 25) fun v35 =>
      Option.bind (ym_ldZ q20.2 v35 a1) fun v39 =>
      if v39 = 0 then
        Option.bind (ym_gR q20.2 a0 8 13) fun v48 =>
        Option.bind (ym_ldI q20.2 v48 a1) fun v52 =>
        if v52 = 0 then
          some ((-14), q20.2)
        else
          Option.bind (ym_gR q20.2 a0 8 14) fun v61 =>
          Option.bind (ym_ldI q20.2 v61 a1) fun v65 =>
          Option.bind (ym_gR q20.2 a0 8 14) fun v68 =>
          Option.bind (ym_ldI q20.2 v68 a1) fun v72 =>
          Option.bind (lp_X8_opened_74 N N a0 a1 v65 v72 q20.2) fun q74 =>
          Option.bind (ym_gR q74.2 a0 8 6) fun v107 =>
          Option.bind (ym_ldL q74.2 v107 a1) fun v111 =>
          Option.bind (ym_gR q74.2 a0 8 7) fun v113 =>
          Option.bind (ym_ldL q74.2 v113 a1) fun v117 =>
          if v111 ≤ v117 then
            Option.bind (ym_gR q74.2 a0 8 7) fun v132 =>
            Option.bind (ym_ldL q74.2 v132 a1) fun v136 =>
            bl_X8_opened_137 N a0 a1 q74.1 v136 q74.2
          else
            Option.bind (ym_gR q74.2 a0 8 6) fun v123 =>
            Option.bind (ym_ldL q74.2 v123 a1) fun v127 =>
            bl_X8_opened_137 N a0 a1 q74.1 v127 q74.2
      else
        some ((-8), q20.2)
    else
      Option.bind (ym_ob q20.2 a0 8) fun o28 =>
      Option.bind (fn_X8_notOpen N a0 a1 q20.2) fun q28 =>
      some ((Int32.toInt64 (-q28.1)), q28.2)
  else
    Option.bind (ym_ob q3.2 a0 8) fun o12 =>
    Option.bind (fn_X8_noLotOf N a0 a1 4 q3.2) fun q12 =>
    some ((Int32.toInt64 (-q12.1)), q12.2)
set_option maxRecDepth 20000 in
set_option maxHeartbeats 4000000 in
theorem ok_X8_opened {D : ym_D} {b0 : Nat} {N : Nat} {a0 : Option Nat} {a1 : Int32} {h h' : ym_H} {r : Int64} (hf : fn_X8_opened N a0 a1 h = some (r, h')) : ym_M D b0 g_X8_opened 3 [va_rf a0, .int a1] h (some (.long r)) h' := by
  unfold fn_X8_opened at hf
  refine ym_meth (lv := [(0, va_rf a0), (1, .int a1)]) (by decide) (by simp [lg_sl, ym_c1, ym_cI, ym_cL, g_X8_opened]) (by simp [lv_args, ym_c1, ym_cI, ym_cL]) ?_
  refine ym_aload_n (pc := 0) 0 dX8_opened_0 rfl rfl ?_
  refine ym_iload_n (pc := 1) 1 dX8_opened_1 rfl rfl ?_
  refine ym_iconst (pc := 2) (v := 4) dX8_opened_2 (by decide) ?_
  obtain ⟨o3, f3, hf⟩ := Option.bind_eq_some_iff.mp hf
  obtain ⟨q3, e3, hf⟩ := Option.bind_eq_some_iff.mp hf
  refine ym_callV (pc := 3) (G2 := g_X8_noLotOf) (dep2 := 2) (As := [.int a1, .int 4]) (st := []) (stk2 := [.int q3.1]) (r2 := (some (.int q3.1))) (h1 := q3.2) dX8_opened_3 (ok_X8_noLotOf e3) (sc_X8_opened_X8_noLotOf) wd_1175 wd_1177 wd_52 (ci := 8) (q0 := (RX8, TX8, 58)) rfl (by decide) rfl f3 rfl rfl (ym_st4 (Nat.le_of_ble_eq_true rfl)) rfl ?_
  by_cases c6 : q3.1 ≤ 0
  · rw [if_pos c6] at hf
    refine ym_if_le_y (pc := 6) (tgt := 18) dX8_opened_6 (by decide) c6 ?_
    refine ym_aload_n (pc := 18) 0 dX8_opened_18 rfl rfl ?_
    refine ym_iload_n (pc := 19) 1 dX8_opened_19 rfl rfl ?_
    obtain ⟨o20, f20, hf⟩ := Option.bind_eq_some_iff.mp hf
    obtain ⟨q20, e20, hf⟩ := Option.bind_eq_some_iff.mp hf
    refine ym_callV (pc := 20) (G2 := g_X8_notOpen) (dep2 := 1) (As := [.int a1]) (st := []) (stk2 := [.int q20.1]) (r2 := (some (.int q20.1))) (h1 := q20.2) dX8_opened_20 (ok_X8_notOpen e20) (sc_X8_opened_X8_notOpen) wd_1127 wd_1129 wd_41 (ci := 8) (q0 := (RX8, TX8, 58)) rfl (by decide) rfl f20 rfl rfl (ym_st4 (Nat.le_of_ble_eq_true rfl)) rfl ?_
    by_cases c23 : q20.1 ≤ 0
    · rw [if_pos c23] at hf
      refine ym_if_le_y (pc := 23) (tgt := 34) dX8_opened_23 (by decide) c23 ?_
      refine ym_aload_n (pc := 34) 0 dX8_opened_34 rfl rfl ?_
      obtain ⟨v35, e35, hf⟩ := Option.bind_eq_some_iff.mp hf
      refine ym_get (pc := 35) dX8_opened_35 rfl (by decide) iX8 (k := 25) (by decide) wd_870 (ym_gR_v e35) ?_
      refine ym_iload_n (pc := 38) 1 dX8_opened_38 rfl rfl ?_
      obtain ⟨v39, e39, hf⟩ := Option.bind_eq_some_iff.mp hf
      refine ym_zald (pc := 39) dX8_opened_39 rfl (ym_ldZ_v e39) ?_
      by_cases c40 : v39 = 0
      · rw [if_pos c40] at hf
        refine ym_if_eq_y (pc := 40) (tgt := 47) dX8_opened_40 (by decide) c40 ?_
        refine ym_aload_n (pc := 47) 0 dX8_opened_47 rfl rfl ?_
        obtain ⟨v48, e48, hf⟩ := Option.bind_eq_some_iff.mp hf
        refine ym_get (pc := 48) dX8_opened_48 rfl (by decide) iX8 (k := 13) (by decide) wd_858 (ym_gR_v e48) ?_
        refine ym_iload_n (pc := 51) 1 dX8_opened_51 rfl rfl ?_
        obtain ⟨v52, e52, hf⟩ := Option.bind_eq_some_iff.mp hf
        refine ym_iald (pc := 52) dX8_opened_52 rfl (ym_ldI_v e52) ?_
        by_cases c53 : v52 = 0
        · rw [if_pos c53] at hf
          refine ym_if_ne_y (pc := 53) (tgt := 60) dX8_opened_53 (by decide) c53 ?_
          refine ym_ldc2 (pc := 56) dX8_opened_56 wd_1179 ?_
          cases hf
          exact ym_lret (pc := 59) dX8_opened_59 rfl
        · rw [if_neg c53] at hf
          refine ym_if_ne_n (pc := 53) (tgt := 60) dX8_opened_53 (by decide) c53 ?_
          refine ym_aload_n (pc := 60) 0 dX8_opened_60 rfl rfl ?_
          obtain ⟨v61, e61, hf⟩ := Option.bind_eq_some_iff.mp hf
          refine ym_get (pc := 61) dX8_opened_61 rfl (by decide) iX8 (k := 14) (by decide) wd_859 (ym_gR_v e61) ?_
          refine ym_iload_n (pc := 64) 1 dX8_opened_64 rfl rfl ?_
          obtain ⟨v65, e65, hf⟩ := Option.bind_eq_some_iff.mp hf
          refine ym_iald (pc := 65) dX8_opened_65 rfl (ym_ldI_v e65) ?_
          refine ym_istore_n (pc := 66) (lv' := [(2, .int v65), (0, va_rf a0), (1, .int a1)]) dX8_opened_66 rfl (by decide) ⟨trivial, rfl, trivial⟩ rfl ?_
          refine ym_aload_n (pc := 67) 1 dX8_opened_67 rfl rfl ?_
          obtain ⟨v68, e68, hf⟩ := Option.bind_eq_some_iff.mp hf
          refine ym_get (pc := 68) dX8_opened_68 rfl (by decide) iX8 (k := 14) (by decide) wd_859 (ym_gR_v e68) ?_
          refine ym_iload_n (pc := 71) 2 dX8_opened_71 rfl rfl ?_
          obtain ⟨v72, e72, hf⟩ := Option.bind_eq_some_iff.mp hf
          refine ym_iald (pc := 72) dX8_opened_72 rfl (ym_ldI_v e72) ?_
          refine ym_istore_n (pc := 73) (lv' := [(3, .int v72), (2, .int v65), (0, va_rf a0), (1, .int a1)]) dX8_opened_73 rfl (by decide) ⟨rfl, trivial, trivial, trivial⟩ rfl ?_
          obtain ⟨q74, e74, hf⟩ := Option.bind_eq_some_iff.mp hf
          refine ym_sub (lv' := [(0, va_rf a0), (1, .int a1), (2, .int v65), (3, .int v72)]) [2, 3, 1, 0] rfl ?_
          refine ok_lp_X8_opened_74 N _ _ _ _ _ e74 ?_
          refine ym_aload_n (pc := 106) 0 dX8_opened_106 rfl rfl ?_
          obtain ⟨v107, e107, hf⟩ := Option.bind_eq_some_iff.mp hf
          refine ym_get (pc := 107) dX8_opened_107 rfl (by decide) iX8 (k := 6) (by decide) wd_851 (ym_gR_v e107) ?_
          refine ym_iload_n (pc := 110) 1 dX8_opened_110 rfl rfl ?_
          obtain ⟨v111, e111, hf⟩ := Option.bind_eq_some_iff.mp hf
          refine ym_lald (pc := 111) dX8_opened_111 rfl (ym_ldL_v e111) ?_
          refine ym_aload_n (pc := 112) 0 dX8_opened_112 rfl rfl ?_
          obtain ⟨v113, e113, hf⟩ := Option.bind_eq_some_iff.mp hf
          refine ym_get (pc := 113) dX8_opened_113 rfl (by decide) iX8 (k := 7) (by decide) wd_852 (ym_gR_v e113) ?_
          refine ym_iload_n (pc := 116) 1 dX8_opened_116 rfl rfl ?_
          obtain ⟨v117, e117, hf⟩ := Option.bind_eq_some_iff.mp hf
          refine ym_lald (pc := 117) dX8_opened_117 rfl (ym_ldL_v e117) ?_
          by_cases c118 : v111 ≤ v117
          · rw [if_pos c118] at hf
            refine ym_lcmp_le_y (pc := 118) (tgt := 131) dX8_opened_118 dX8_opened_119 (by decide) c118 ?_
            refine ym_aload_n (pc := 131) 0 dX8_opened_131 rfl rfl ?_
            obtain ⟨v132, e132, hf⟩ := Option.bind_eq_some_iff.mp hf
            refine ym_get (pc := 132) dX8_opened_132 rfl (by decide) iX8 (k := 7) (by decide) wd_852 (ym_gR_v e132) ?_
            refine ym_iload_n (pc := 135) 1 dX8_opened_135 rfl rfl ?_
            obtain ⟨v136, e136, hf⟩ := Option.bind_eq_some_iff.mp hf
            refine ym_lald (pc := 136) dX8_opened_136 rfl (ym_ldL_v e136) ?_
            exact ym_sub [0, 1, 2] rfl (ob_X8_opened_137 hf)
          · rw [if_neg c118] at hf
            refine ym_lcmp_le_n (pc := 118) (tgt := 131) dX8_opened_118 dX8_opened_119 (by decide) c118 ?_
            refine ym_aload_n (pc := 122) 0 dX8_opened_122 rfl rfl ?_
            obtain ⟨v123, e123, hf⟩ := Option.bind_eq_some_iff.mp hf
            refine ym_get (pc := 123) dX8_opened_123 rfl (by decide) iX8 (k := 6) (by decide) wd_851 (ym_gR_v e123) ?_
            refine ym_iload_n (pc := 126) 1 dX8_opened_126 rfl rfl ?_
            obtain ⟨v127, e127, hf⟩ := Option.bind_eq_some_iff.mp hf
            refine ym_lald (pc := 127) dX8_opened_127 rfl (ym_ldL_v e127) ?_
            refine ym_goto (pc := 128) (tgt := 137) dX8_opened_128 (by decide) ?_
            exact ym_sub [0, 1, 2] rfl (ob_X8_opened_137 hf)
      · rw [if_neg c40] at hf
        refine ym_if_eq_n (pc := 40) (tgt := 47) dX8_opened_40 (by decide) c40 ?_
        refine ym_ldc2 (pc := 43) dX8_opened_43 wd_1064 ?_
        cases hf
        exact ym_lret (pc := 46) dX8_opened_46 rfl
    · rw [if_neg c23] at hf
      refine ym_if_le_n (pc := 23) (tgt := 34) dX8_opened_23 (by decide) c23 ?_
      refine ym_aload_n (pc := 26) 0 dX8_opened_26 rfl rfl ?_
      refine ym_iload_n (pc := 27) 1 dX8_opened_27 rfl rfl ?_
      obtain ⟨o28, f28, hf⟩ := Option.bind_eq_some_iff.mp hf
      obtain ⟨q28, e28, hf⟩ := Option.bind_eq_some_iff.mp hf
      refine ym_callV (pc := 28) (G2 := g_X8_notOpen) (dep2 := 1) (As := [.int a1]) (st := []) (stk2 := [.int q28.1]) (r2 := (some (.int q28.1))) (h1 := q28.2) dX8_opened_28 (ok_X8_notOpen e28) (sc_X8_opened_X8_notOpen) wd_1127 wd_1129 wd_41 (ci := 8) (q0 := (RX8, TX8, 58)) rfl (by decide) rfl f28 rfl rfl (ym_st4 (Nat.le_of_ble_eq_true rfl)) rfl ?_
      refine ym_ineg (pc := 31) dX8_opened_31 ?_
      refine ym_i2l (pc := 32) dX8_opened_32 ?_
      cases hf
      exact ym_lret (pc := 33) dX8_opened_33 rfl
  · rw [if_neg c6] at hf
    refine ym_if_le_n (pc := 6) (tgt := 18) dX8_opened_6 (by decide) c6 ?_
    refine ym_aload_n (pc := 9) 0 dX8_opened_9 rfl rfl ?_
    refine ym_iload_n (pc := 10) 1 dX8_opened_10 rfl rfl ?_
    refine ym_iconst (pc := 11) (v := 4) dX8_opened_11 (by decide) ?_
    obtain ⟨o12, f12, hf⟩ := Option.bind_eq_some_iff.mp hf
    obtain ⟨q12, e12, hf⟩ := Option.bind_eq_some_iff.mp hf
    refine ym_callV (pc := 12) (G2 := g_X8_noLotOf) (dep2 := 2) (As := [.int a1, .int 4]) (st := []) (stk2 := [.int q12.1]) (r2 := (some (.int q12.1))) (h1 := q12.2) dX8_opened_12 (ok_X8_noLotOf e12) (sc_X8_opened_X8_noLotOf) wd_1175 wd_1177 wd_52 (ci := 8) (q0 := (RX8, TX8, 58)) rfl (by decide) rfl f12 rfl rfl (ym_st4 (Nat.le_of_ble_eq_true rfl)) rfl ?_
    refine ym_ineg (pc := 15) dX8_opened_15 ?_
    refine ym_i2l (pc := 16) dX8_opened_16 ?_
    cases hf
    exact ym_lret (pc := 17) dX8_opened_17 rfl
theorem dX8_ticked_0 : decode cX8_ticked 0 = .ok (.lload_n 2, 1) := by decide +kernel
theorem dX8_ticked_1 : decode cX8_ticked 1 = .ok (.invokestatic 335, 3) := by decide +kernel
theorem dX8_ticked_4 : decode cX8_ticked 4 = .ok (.ifCond .ne 7, 3) := by decide +kernel
theorem dX8_ticked_7 : decode cX8_ticked 7 = .ok (.ldc2_w 331, 3) := by decide +kernel
theorem dX8_ticked_10 : decode cX8_ticked 10 = .ok (.lreturn, 1) := by decide +kernel
theorem dX8_ticked_11 : decode cX8_ticked 11 = .ok (.aload_n 0, 1) := by decide +kernel
theorem dX8_ticked_12 : decode cX8_ticked 12 = .ok (.iload_n 1, 1) := by decide +kernel
theorem dX8_ticked_13 : decode cX8_ticked 13 = .ok (.iconst 5, 1) := by decide +kernel
theorem dX8_ticked_14 : decode cX8_ticked 14 = .ok (.invokevirtual 393, 3) := by decide +kernel
theorem dX8_ticked_17 : decode cX8_ticked 17 = .ok (.ifCond .le 12, 3) := by decide +kernel
theorem dX8_ticked_20 : decode cX8_ticked 20 = .ok (.aload_n 0, 1) := by decide +kernel
theorem dX8_ticked_21 : decode cX8_ticked 21 = .ok (.iload_n 1, 1) := by decide +kernel
theorem dX8_ticked_22 : decode cX8_ticked 22 = .ok (.iconst 5, 1) := by decide +kernel
theorem dX8_ticked_23 : decode cX8_ticked 23 = .ok (.invokevirtual 393, 3) := by decide +kernel
theorem dX8_ticked_26 : decode cX8_ticked 26 = .ok (.ineg, 1) := by decide +kernel
theorem dX8_ticked_27 : decode cX8_ticked 27 = .ok (.i2l, 1) := by decide +kernel
theorem dX8_ticked_28 : decode cX8_ticked 28 = .ok (.lreturn, 1) := by decide +kernel
theorem dX8_ticked_29 : decode cX8_ticked 29 = .ok (.aload_n 0, 1) := by decide +kernel
theorem dX8_ticked_30 : decode cX8_ticked 30 = .ok (.iload_n 1, 1) := by decide +kernel
theorem dX8_ticked_31 : decode cX8_ticked 31 = .ok (.invokevirtual 361, 3) := by decide +kernel
theorem dX8_ticked_34 : decode cX8_ticked 34 = .ok (.ifCond .le 11, 3) := by decide +kernel
theorem dX8_ticked_37 : decode cX8_ticked 37 = .ok (.aload_n 0, 1) := by decide +kernel
theorem dX8_ticked_38 : decode cX8_ticked 38 = .ok (.iload_n 1, 1) := by decide +kernel
theorem dX8_ticked_39 : decode cX8_ticked 39 = .ok (.invokevirtual 361, 3) := by decide +kernel
theorem dX8_ticked_42 : decode cX8_ticked 42 = .ok (.ineg, 1) := by decide +kernel
theorem dX8_ticked_43 : decode cX8_ticked 43 = .ok (.i2l, 1) := by decide +kernel
theorem dX8_ticked_44 : decode cX8_ticked 44 = .ok (.lreturn, 1) := by decide +kernel
theorem dX8_ticked_45 : decode cX8_ticked 45 = .ok (.aload_n 0, 1) := by decide +kernel
theorem dX8_ticked_46 : decode cX8_ticked 46 = .ok (.iload_n 1, 1) := by decide +kernel
theorem dX8_ticked_47 : decode cX8_ticked 47 = .ok (.invokevirtual 298, 3) := by decide +kernel
theorem dX8_ticked_50 : decode cX8_ticked 50 = .ok (.ifCond .lt 7, 3) := by decide +kernel
theorem dX8_ticked_53 : decode cX8_ticked 53 = .ok (.ldc2_w 348, 3) := by decide +kernel
theorem dX8_ticked_56 : decode cX8_ticked 56 = .ok (.lreturn, 1) := by decide +kernel
theorem dX8_ticked_57 : decode cX8_ticked 57 = .ok (.aload_n 0, 1) := by decide +kernel
theorem dX8_ticked_58 : decode cX8_ticked 58 = .ok (.getfield 26, 3) := by decide +kernel
theorem dX8_ticked_61 : decode cX8_ticked 61 = .ok (.iload_n 1, 1) := by decide +kernel
theorem dX8_ticked_62 : decode cX8_ticked 62 = .ok (.laload, 1) := by decide +kernel
theorem dX8_ticked_63 : decode cX8_ticked 63 = .ok (.lconst 1, 1) := by decide +kernel
theorem dX8_ticked_64 : decode cX8_ticked 64 = .ok (.lcmp, 1) := by decide +kernel
theorem dX8_ticked_65 : decode cX8_ticked 65 = .ok (.ifCond .le 12, 3) := by decide +kernel
theorem dX8_ticked_68 : decode cX8_ticked 68 = .ok (.aload_n 0, 1) := by decide +kernel
theorem dX8_ticked_69 : decode cX8_ticked 69 = .ok (.getfield 26, 3) := by decide +kernel
theorem dX8_ticked_72 : decode cX8_ticked 72 = .ok (.iload_n 1, 1) := by decide +kernel
theorem dX8_ticked_73 : decode cX8_ticked 73 = .ok (.laload, 1) := by decide +kernel
theorem dX8_ticked_74 : decode cX8_ticked 74 = .ok (.goto 4, 3) := by decide +kernel
theorem dX8_ticked_77 : decode cX8_ticked 77 = .ok (.lconst 1, 1) := by decide +kernel
theorem dX8_ticked_78 : decode cX8_ticked 78 = .ok (.lstore 4, 2) := by decide +kernel
theorem dX8_ticked_80 : decode cX8_ticked 80 = .ok (.aload_n 0, 1) := by decide +kernel
theorem dX8_ticked_81 : decode cX8_ticked 81 = .ok (.getfield 35, 3) := by decide +kernel
theorem dX8_ticked_84 : decode cX8_ticked 84 = .ok (.iload_n 1, 1) := by decide +kernel
theorem dX8_ticked_85 : decode cX8_ticked 85 = .ok (.laload, 1) := by decide +kernel
theorem dX8_ticked_86 : decode cX8_ticked 86 = .ok (.lload 4, 2) := by decide +kernel
theorem dX8_ticked_88 : decode cX8_ticked 88 = .ok (.lcmp, 1) := by decide +kernel
theorem dX8_ticked_89 : decode cX8_ticked 89 = .ok (.ifCond .gt 7, 3) := by decide +kernel
theorem dX8_ticked_92 : decode cX8_ticked 92 = .ok (.ldc2_w 354, 3) := by decide +kernel
theorem dX8_ticked_95 : decode cX8_ticked 95 = .ok (.lreturn, 1) := by decide +kernel
theorem dX8_ticked_96 : decode cX8_ticked 96 = .ok (.aload_n 0, 1) := by decide +kernel
theorem dX8_ticked_97 : decode cX8_ticked 97 = .ok (.getfield 35, 3) := by decide +kernel
theorem dX8_ticked_100 : decode cX8_ticked 100 = .ok (.iload_n 1, 1) := by decide +kernel
theorem dX8_ticked_101 : decode cX8_ticked 101 = .ok (.aload_n 0, 1) := by decide +kernel
theorem dX8_ticked_102 : decode cX8_ticked 102 = .ok (.getfield 35, 3) := by decide +kernel
theorem dX8_ticked_105 : decode cX8_ticked 105 = .ok (.iload_n 1, 1) := by decide +kernel
theorem dX8_ticked_106 : decode cX8_ticked 106 = .ok (.laload, 1) := by decide +kernel
theorem dX8_ticked_107 : decode cX8_ticked 107 = .ok (.lload_n 2, 1) := by decide +kernel
theorem dX8_ticked_108 : decode cX8_ticked 108 = .ok (.lsub, 1) := by decide +kernel
theorem dX8_ticked_109 : decode cX8_ticked 109 = .ok (.lload 4, 2) := by decide +kernel
theorem dX8_ticked_111 : decode cX8_ticked 111 = .ok (.lcmp, 1) := by decide +kernel
theorem dX8_ticked_112 : decode cX8_ticked 112 = .ok (.ifCond .ge 8, 3) := by decide +kernel
theorem dX8_ticked_115 : decode cX8_ticked 115 = .ok (.lload 4, 2) := by decide +kernel
theorem dX8_ticked_117 : decode cX8_ticked 117 = .ok (.goto 11, 3) := by decide +kernel
theorem dX8_ticked_120 : decode cX8_ticked 120 = .ok (.aload_n 0, 1) := by decide +kernel
theorem dX8_ticked_121 : decode cX8_ticked 121 = .ok (.getfield 35, 3) := by decide +kernel
theorem dX8_ticked_124 : decode cX8_ticked 124 = .ok (.iload_n 1, 1) := by decide +kernel
theorem dX8_ticked_125 : decode cX8_ticked 125 = .ok (.laload, 1) := by decide +kernel
theorem dX8_ticked_126 : decode cX8_ticked 126 = .ok (.lload_n 2, 1) := by decide +kernel
theorem dX8_ticked_127 : decode cX8_ticked 127 = .ok (.lsub, 1) := by decide +kernel
theorem dX8_ticked_128 : decode cX8_ticked 128 = .ok (.lastore, 1) := by decide +kernel
theorem dX8_ticked_129 : decode cX8_ticked 129 = .ok (.aload_n 0, 1) := by decide +kernel
theorem dX8_ticked_130 : decode cX8_ticked 130 = .ok (.getfield 35, 3) := by decide +kernel
theorem dX8_ticked_133 : decode cX8_ticked 133 = .ok (.iload_n 1, 1) := by decide +kernel
theorem dX8_ticked_134 : decode cX8_ticked 134 = .ok (.laload, 1) := by decide +kernel
theorem dX8_ticked_135 : decode cX8_ticked 135 = .ok (.lreturn, 1) := by decide +kernel
theorem sc_X8_ticked_X8_isSum : ym_site g_X8_ticked g_X8_isSum 3 1 1 := ⟨by decide, by decide, wd_1046, wd_83, by decide +kernel⟩
theorem sc_X8_ticked_X8_noLotOf : ym_site g_X8_ticked g_X8_noLotOf 3 2 2 := ⟨by decide, by decide, wd_1178, wd_83, by decide +kernel⟩
theorem sc_X8_ticked_X8_notOpen : ym_site g_X8_ticked g_X8_notOpen 3 1 1 := ⟨by decide, by decide, wd_1130, wd_83, by decide +kernel⟩
theorem sc_X8_ticked_X8_standing : ym_site g_X8_ticked g_X8_standing 3 1 1 := ⟨by decide, by decide, wd_1107, wd_83, by decide +kernel⟩
def bl_X8_ticked_128 (N : Nat) (w0 : Option Nat) (w1 : Int32) (s0 : Int64) (s1 : Int32) (s2 : Option Nat) (h : ym_H) : Option (Int64 × ym_H) :=
  Option.bind (ym_as h s2 1 s1 (.long s0)) fun h128 =>
  Option.bind (ym_gR h128 w0 8 10) fun v130 =>
  Option.bind (ym_ldL h128 v130 w1) fun v134 =>
  some (v134, h128)
set_option maxRecDepth 20000 in
set_option maxHeartbeats 4000000 in
theorem ob_X8_ticked_128 {D : ym_D} {b0 : Nat} {N : Nat} {w0 : Option Nat} {w1 : Int32} {s0 : Int64} {s1 : Int32} {s2 : Option Nat} {h h' : ym_H} {r : Int64} (hf : bl_X8_ticked_128 N w0 w1 s0 s1 s2 h = some (r, h')) : ym_Y D b0 g_X8_ticked 3 128 [(0, va_rf w0), (1, .int w1)] [.long s0, .int s1, va_rf s2] h (some (.long r)) h' := by
  unfold bl_X8_ticked_128 at hf
  obtain ⟨h128, e128, hf⟩ := Option.bind_eq_some_iff.mp hf
  refine ym_last (pc := 128) dX8_ticked_128 rfl e128 ?_
  refine ym_aload_n (pc := 129) 0 dX8_ticked_129 rfl rfl ?_
  obtain ⟨v130, e130, hf⟩ := Option.bind_eq_some_iff.mp hf
  refine ym_get (pc := 130) dX8_ticked_130 rfl (by decide) iX8 (k := 10) (by decide) wd_855 (ym_gR_v e130) ?_
  refine ym_iload_n (pc := 133) 1 dX8_ticked_133 rfl rfl ?_
  obtain ⟨v134, e134, hf⟩ := Option.bind_eq_some_iff.mp hf
  refine ym_lald (pc := 134) dX8_ticked_134 rfl (ym_ldL_v e134) ?_
  cases hf
  exact ym_lret (pc := 135) dX8_ticked_135 rfl
def bl_X8_ticked_78 (N : Nat) (w0 : Option Nat) (w1 : Int32) (w2 : Int64) (s0 : Int64) (h : ym_H) : Option (Int64 × ym_H) :=
  Option.bind (ym_gR h w0 8 10) fun v81 =>
  Option.bind (ym_ldL h v81 w1) fun v85 =>
  if s0 < v85 then
    Option.bind (ym_gR h w0 8 10) fun v97 =>
    Option.bind (ym_gR h w0 8 10) fun v102 =>
    Option.bind (ym_ldL h v102 w1) fun v106 =>
    if s0 ≤ (v106 - w2) then
      Option.bind (ym_gR h w0 8 10) fun v121 =>
      Option.bind (ym_ldL h v121 w1) fun v125 =>
      bl_X8_ticked_128 N w0 w1 (v125 - w2) w1 v97 h
    else
      bl_X8_ticked_128 N w0 w1 s0 w1 v97 h
  else
    some ((-10), h)
set_option maxRecDepth 20000 in
set_option maxHeartbeats 4000000 in
theorem ob_X8_ticked_78 {D : ym_D} {b0 : Nat} {N : Nat} {w0 : Option Nat} {w1 : Int32} {w2 : Int64} {s0 : Int64} {h h' : ym_H} {r : Int64} (hf : bl_X8_ticked_78 N w0 w1 w2 s0 h = some (r, h')) : ym_Y D b0 g_X8_ticked 3 78 [(0, va_rf w0), (1, .int w1), (2, .long w2)] [.long s0] h (some (.long r)) h' := by
  unfold bl_X8_ticked_78 at hf
  refine ym_lstore (pc := 78) (lv' := [(4, .long s0), (0, va_rf w0), (1, .int w1), (2, .long w2)]) dX8_ticked_78 (by decide) ⟨trivial, trivial, trivial, trivial⟩ rfl ?_
  refine ym_aload_n (pc := 80) 1 dX8_ticked_80 rfl rfl ?_
  obtain ⟨v81, e81, hf⟩ := Option.bind_eq_some_iff.mp hf
  refine ym_get (pc := 81) dX8_ticked_81 rfl (by decide) iX8 (k := 10) (by decide) wd_855 (ym_gR_v e81) ?_
  refine ym_iload_n (pc := 84) 2 dX8_ticked_84 rfl rfl ?_
  obtain ⟨v85, e85, hf⟩ := Option.bind_eq_some_iff.mp hf
  refine ym_lald (pc := 85) dX8_ticked_85 rfl (ym_ldL_v e85) ?_
  refine ym_lload (pc := 86) 0 dX8_ticked_86 rfl ?_
  by_cases c88 : s0 < v85
  · rw [if_pos c88] at hf
    refine ym_lcmp_gt_y (pc := 88) (tgt := 96) dX8_ticked_88 dX8_ticked_89 (by decide) c88 ?_
    refine ym_aload_n (pc := 96) 1 dX8_ticked_96 rfl rfl ?_
    obtain ⟨v97, e97, hf⟩ := Option.bind_eq_some_iff.mp hf
    refine ym_get (pc := 97) dX8_ticked_97 rfl (by decide) iX8 (k := 10) (by decide) wd_855 (ym_gR_v e97) ?_
    refine ym_iload_n (pc := 100) 2 dX8_ticked_100 rfl rfl ?_
    refine ym_aload_n (pc := 101) 1 dX8_ticked_101 rfl rfl ?_
    obtain ⟨v102, e102, hf⟩ := Option.bind_eq_some_iff.mp hf
    refine ym_get (pc := 102) dX8_ticked_102 rfl (by decide) iX8 (k := 10) (by decide) wd_855 (ym_gR_v e102) ?_
    refine ym_iload_n (pc := 105) 2 dX8_ticked_105 rfl rfl ?_
    obtain ⟨v106, e106, hf⟩ := Option.bind_eq_some_iff.mp hf
    refine ym_lald (pc := 106) dX8_ticked_106 rfl (ym_ldL_v e106) ?_
    refine ym_lload_n (pc := 107) 3 dX8_ticked_107 rfl rfl ?_
    refine ym_lsub (pc := 108) dX8_ticked_108 ?_
    refine ym_lload (pc := 109) 0 dX8_ticked_109 rfl ?_
    by_cases c111 : s0 ≤ (v106 - w2)
    · rw [if_pos c111] at hf
      refine ym_lcmp_ge_y (pc := 111) (tgt := 120) dX8_ticked_111 dX8_ticked_112 (by decide) c111 ?_
      refine ym_aload_n (pc := 120) 1 dX8_ticked_120 rfl rfl ?_
      obtain ⟨v121, e121, hf⟩ := Option.bind_eq_some_iff.mp hf
      refine ym_get (pc := 121) dX8_ticked_121 rfl (by decide) iX8 (k := 10) (by decide) wd_855 (ym_gR_v e121) ?_
      refine ym_iload_n (pc := 124) 2 dX8_ticked_124 rfl rfl ?_
      obtain ⟨v125, e125, hf⟩ := Option.bind_eq_some_iff.mp hf
      refine ym_lald (pc := 125) dX8_ticked_125 rfl (ym_ldL_v e125) ?_
      refine ym_lload_n (pc := 126) 3 dX8_ticked_126 rfl rfl ?_
      refine ym_lsub (pc := 127) dX8_ticked_127 ?_
      exact ym_sub [1, 2] rfl (ob_X8_ticked_128 hf)
    · rw [if_neg c111] at hf
      refine ym_lcmp_ge_n (pc := 111) (tgt := 120) dX8_ticked_111 dX8_ticked_112 (by decide) c111 ?_
      refine ym_lload (pc := 115) 0 dX8_ticked_115 rfl ?_
      refine ym_goto (pc := 117) (tgt := 128) dX8_ticked_117 (by decide) ?_
      exact ym_sub [1, 2] rfl (ob_X8_ticked_128 hf)
  · rw [if_neg c88] at hf
    refine ym_lcmp_gt_n (pc := 88) (tgt := 96) dX8_ticked_88 dX8_ticked_89 (by decide) c88 ?_
    refine ym_ldc2 (pc := 92) dX8_ticked_92 wd_1076 ?_
    cases hf
    exact ym_lret (pc := 95) dX8_ticked_95 rfl
def fn_X8_ticked (N : Nat) (a0 : Option Nat) (a1 : Int32) (a2 : Int64) (h : ym_H) : Option (Int64 × ym_H) :=
  Option.bind (fn_X8_isSum N a2 h) fun q1 =>
  if q1.1 = 0 then
    some ((-1), q1.2)
  else
    Option.bind (ym_ob q1.2 a0 8) fun o14 =>
    Option.bind (fn_X8_noLotOf N a0 a1 5 q1.2) fun q14 =>
    if q14.1 ≤ 0 then
      Option.bind (ym_ob q14.2 a0 8) fun o31 =>
      Option.bind (fn_X8_notOpen N a0 a1 q14.2) fun q31 =>
      if q31.1 ≤ 0 then
        Option.bind (ym_ob q31.2 a0 8) fun o47 =>
        Option.bind (fn_X8_standing N a0 a1 q31.2) fun q47 =>
        if q47.1 < 0 then
          Option.bind (ym_gR q47.2 a0 8 7) fun v58 =>
          Option.bind (ym_ldL q47.2 v58 a1) fun v62 =>
          if v62 ≤ 1 then
            bl_X8_ticked_78 N a0 a1 a2 1 q47.2
          else
            Option.bind (ym_gR q47.2 a0 8 7) fun v69 =>
            Option.bind (ym_ldL q47.2 v69 a1) fun v73 =>
            bl_X8_ticked_78 N a0 a1 a2 v73 q47.2
        else
          some ((-8), q47.2)
      else
        Option.bind (ym_ob q31.2 a0 8) fun o39 =>
        Option.bind (fn_X8_notOpen N a0 a1 q31.2) fun q39 =>
        some ((Int32.toInt64 (-q39.1)), q39.2)
    else
      Option.bind (ym_ob q14.2 a0 8) fun o23 =>
      Option.bind (fn_X8_noLotOf N a0 a1 5 q14.2) fun q23 =>
      some ((Int32.toInt64 (-q23.1)), q23.2)
set_option maxRecDepth 20000 in
set_option maxHeartbeats 4000000 in
theorem ok_X8_ticked {D : ym_D} {b0 : Nat} {N : Nat} {a0 : Option Nat} {a1 : Int32} {a2 : Int64} {h h' : ym_H} {r : Int64} (hf : fn_X8_ticked N a0 a1 a2 h = some (r, h')) : ym_M D b0 g_X8_ticked 3 [va_rf a0, .int a1, .long a2] h (some (.long r)) h' := by
  unfold fn_X8_ticked at hf
  refine ym_meth (lv := [(0, va_rf a0), (1, .int a1), (2, .long a2)]) (by decide) (by simp [lg_sl, ym_c1, ym_cI, ym_cL, g_X8_ticked]) (by simp [lv_args, ym_c1, ym_cI, ym_cL]) ?_
  refine ym_lload_n (pc := 0) 2 dX8_ticked_0 rfl rfl ?_
  obtain ⟨q1, e1, hf⟩ := Option.bind_eq_some_iff.mp hf
  refine ym_callS (pc := 1) (G2 := g_X8_isSum) (dep2 := 1) (As := [.long a2]) (st := []) (stk2 := [.int q1.1]) (r2 := (some (.int q1.1))) (h1 := q1.2) dX8_ticked_1 (ok_X8_isSum e1) (sc_X8_ticked_X8_isSum) wd_1044 wd_1045 rfl rfl (ym_st4 (Nat.le_of_ble_eq_true rfl)) rfl ?_
  by_cases c4 : q1.1 = 0
  · rw [if_pos c4] at hf
    refine ym_if_ne_y (pc := 4) (tgt := 11) dX8_ticked_4 (by decide) c4 ?_
    refine ym_ldc2 (pc := 7) dX8_ticked_7 wd_1038 ?_
    cases hf
    exact ym_lret (pc := 10) dX8_ticked_10 rfl
  · rw [if_neg c4] at hf
    refine ym_if_ne_n (pc := 4) (tgt := 11) dX8_ticked_4 (by decide) c4 ?_
    refine ym_aload_n (pc := 11) 0 dX8_ticked_11 rfl rfl ?_
    refine ym_iload_n (pc := 12) 1 dX8_ticked_12 rfl rfl ?_
    refine ym_iconst (pc := 13) (v := 5) dX8_ticked_13 (by decide) ?_
    obtain ⟨o14, f14, hf⟩ := Option.bind_eq_some_iff.mp hf
    obtain ⟨q14, e14, hf⟩ := Option.bind_eq_some_iff.mp hf
    refine ym_callV (pc := 14) (G2 := g_X8_noLotOf) (dep2 := 2) (As := [.int a1, .int 5]) (st := []) (stk2 := [.int q14.1]) (r2 := (some (.int q14.1))) (h1 := q14.2) dX8_ticked_14 (ok_X8_noLotOf e14) (sc_X8_ticked_X8_noLotOf) wd_1175 wd_1177 wd_52 (ci := 8) (q0 := (RX8, TX8, 58)) rfl (by decide) rfl f14 rfl rfl (ym_st4 (Nat.le_of_ble_eq_true rfl)) rfl ?_
    by_cases c17 : q14.1 ≤ 0
    · rw [if_pos c17] at hf
      refine ym_if_le_y (pc := 17) (tgt := 29) dX8_ticked_17 (by decide) c17 ?_
      refine ym_aload_n (pc := 29) 0 dX8_ticked_29 rfl rfl ?_
      refine ym_iload_n (pc := 30) 1 dX8_ticked_30 rfl rfl ?_
      obtain ⟨o31, f31, hf⟩ := Option.bind_eq_some_iff.mp hf
      obtain ⟨q31, e31, hf⟩ := Option.bind_eq_some_iff.mp hf
      refine ym_callV (pc := 31) (G2 := g_X8_notOpen) (dep2 := 1) (As := [.int a1]) (st := []) (stk2 := [.int q31.1]) (r2 := (some (.int q31.1))) (h1 := q31.2) dX8_ticked_31 (ok_X8_notOpen e31) (sc_X8_ticked_X8_notOpen) wd_1127 wd_1129 wd_41 (ci := 8) (q0 := (RX8, TX8, 58)) rfl (by decide) rfl f31 rfl rfl (ym_st4 (Nat.le_of_ble_eq_true rfl)) rfl ?_
      by_cases c34 : q31.1 ≤ 0
      · rw [if_pos c34] at hf
        refine ym_if_le_y (pc := 34) (tgt := 45) dX8_ticked_34 (by decide) c34 ?_
        refine ym_aload_n (pc := 45) 0 dX8_ticked_45 rfl rfl ?_
        refine ym_iload_n (pc := 46) 1 dX8_ticked_46 rfl rfl ?_
        obtain ⟨o47, f47, hf⟩ := Option.bind_eq_some_iff.mp hf
        obtain ⟨q47, e47, hf⟩ := Option.bind_eq_some_iff.mp hf
        refine ym_callV (pc := 47) (G2 := g_X8_standing) (dep2 := 1) (As := [.int a1]) (st := []) (stk2 := [.int q47.1]) (r2 := (some (.int q47.1))) (h1 := q47.2) dX8_ticked_47 (ok_X8_standing e47) (sc_X8_ticked_X8_standing) wd_1104 wd_1106 wd_37 (ci := 8) (q0 := (RX8, TX8, 58)) rfl (by decide) rfl f47 rfl rfl (ym_st4 (Nat.le_of_ble_eq_true rfl)) rfl ?_
        by_cases c50 : q47.1 < 0
        · rw [if_pos c50] at hf
          refine ym_if_lt_y (pc := 50) (tgt := 57) dX8_ticked_50 (by decide) c50 ?_
          refine ym_aload_n (pc := 57) 0 dX8_ticked_57 rfl rfl ?_
          obtain ⟨v58, e58, hf⟩ := Option.bind_eq_some_iff.mp hf
          refine ym_get (pc := 58) dX8_ticked_58 rfl (by decide) iX8 (k := 7) (by decide) wd_852 (ym_gR_v e58) ?_
          refine ym_iload_n (pc := 61) 1 dX8_ticked_61 rfl rfl ?_
          obtain ⟨v62, e62, hf⟩ := Option.bind_eq_some_iff.mp hf
          refine ym_lald (pc := 62) dX8_ticked_62 rfl (ym_ldL_v e62) ?_
          refine ym_lconst (pc := 63) (v := 1) dX8_ticked_63 (by decide) ?_
          by_cases c64 : v62 ≤ 1
          · rw [if_pos c64] at hf
            refine ym_lcmp_le_y (pc := 64) (tgt := 77) dX8_ticked_64 dX8_ticked_65 (by decide) c64 ?_
            refine ym_lconst (pc := 77) (v := 1) dX8_ticked_77 (by decide) ?_
            exact ym_sub [0, 1, 2] rfl (ob_X8_ticked_78 hf)
          · rw [if_neg c64] at hf
            refine ym_lcmp_le_n (pc := 64) (tgt := 77) dX8_ticked_64 dX8_ticked_65 (by decide) c64 ?_
            refine ym_aload_n (pc := 68) 0 dX8_ticked_68 rfl rfl ?_
            obtain ⟨v69, e69, hf⟩ := Option.bind_eq_some_iff.mp hf
            refine ym_get (pc := 69) dX8_ticked_69 rfl (by decide) iX8 (k := 7) (by decide) wd_852 (ym_gR_v e69) ?_
            refine ym_iload_n (pc := 72) 1 dX8_ticked_72 rfl rfl ?_
            obtain ⟨v73, e73, hf⟩ := Option.bind_eq_some_iff.mp hf
            refine ym_lald (pc := 73) dX8_ticked_73 rfl (ym_ldL_v e73) ?_
            refine ym_goto (pc := 74) (tgt := 78) dX8_ticked_74 (by decide) ?_
            exact ym_sub [0, 1, 2] rfl (ob_X8_ticked_78 hf)
        · rw [if_neg c50] at hf
          refine ym_if_lt_n (pc := 50) (tgt := 57) dX8_ticked_50 (by decide) c50 ?_
          refine ym_ldc2 (pc := 53) dX8_ticked_53 wd_1064 ?_
          cases hf
          exact ym_lret (pc := 56) dX8_ticked_56 rfl
      · rw [if_neg c34] at hf
        refine ym_if_le_n (pc := 34) (tgt := 45) dX8_ticked_34 (by decide) c34 ?_
        refine ym_aload_n (pc := 37) 0 dX8_ticked_37 rfl rfl ?_
        refine ym_iload_n (pc := 38) 1 dX8_ticked_38 rfl rfl ?_
        obtain ⟨o39, f39, hf⟩ := Option.bind_eq_some_iff.mp hf
        obtain ⟨q39, e39, hf⟩ := Option.bind_eq_some_iff.mp hf
        refine ym_callV (pc := 39) (G2 := g_X8_notOpen) (dep2 := 1) (As := [.int a1]) (st := []) (stk2 := [.int q39.1]) (r2 := (some (.int q39.1))) (h1 := q39.2) dX8_ticked_39 (ok_X8_notOpen e39) (sc_X8_ticked_X8_notOpen) wd_1127 wd_1129 wd_41 (ci := 8) (q0 := (RX8, TX8, 58)) rfl (by decide) rfl f39 rfl rfl (ym_st4 (Nat.le_of_ble_eq_true rfl)) rfl ?_
        refine ym_ineg (pc := 42) dX8_ticked_42 ?_
        refine ym_i2l (pc := 43) dX8_ticked_43 ?_
        cases hf
        exact ym_lret (pc := 44) dX8_ticked_44 rfl
    · rw [if_neg c17] at hf
      refine ym_if_le_n (pc := 17) (tgt := 29) dX8_ticked_17 (by decide) c17 ?_
      refine ym_aload_n (pc := 20) 0 dX8_ticked_20 rfl rfl ?_
      refine ym_iload_n (pc := 21) 1 dX8_ticked_21 rfl rfl ?_
      refine ym_iconst (pc := 22) (v := 5) dX8_ticked_22 (by decide) ?_
      obtain ⟨o23, f23, hf⟩ := Option.bind_eq_some_iff.mp hf
      obtain ⟨q23, e23, hf⟩ := Option.bind_eq_some_iff.mp hf
      refine ym_callV (pc := 23) (G2 := g_X8_noLotOf) (dep2 := 2) (As := [.int a1, .int 5]) (st := []) (stk2 := [.int q23.1]) (r2 := (some (.int q23.1))) (h1 := q23.2) dX8_ticked_23 (ok_X8_noLotOf e23) (sc_X8_ticked_X8_noLotOf) wd_1175 wd_1177 wd_52 (ci := 8) (q0 := (RX8, TX8, 58)) rfl (by decide) rfl f23 rfl rfl (ym_st4 (Nat.le_of_ble_eq_true rfl)) rfl ?_
      refine ym_ineg (pc := 26) dX8_ticked_26 ?_
      refine ym_i2l (pc := 27) dX8_ticked_27 ?_
      cases hf
      exact ym_lret (pc := 28) dX8_ticked_28 rfl
