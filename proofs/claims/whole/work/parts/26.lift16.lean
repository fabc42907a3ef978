theorem dX8_joined_0 : decode cX8_joined 0 = .ok (.aload_n 0, 1) := by decide +kernel
theorem dX8_joined_1 : decode cX8_joined 1 = .ok (.iload_n 1, 1) := by decide +kernel
theorem dX8_joined_2 : decode cX8_joined 2 = .ok (.invokevirtual 294, 3) := by decide +kernel
theorem dX8_joined_5 : decode cX8_joined 5 = .ok (.ifCond .le 11, 3) := by decide +kernel
theorem dX8_joined_8 : decode cX8_joined 8 = .ok (.aload_n 0, 1) := by decide +kernel
theorem dX8_joined_9 : decode cX8_joined 9 = .ok (.iload_n 1, 1) := by decide +kernel
theorem dX8_joined_10 : decode cX8_joined 10 = .ok (.invokevirtual 294, 3) := by decide +kernel
theorem dX8_joined_13 : decode cX8_joined 13 = .ok (.ineg, 1) := by decide +kernel
theorem dX8_joined_14 : decode cX8_joined 14 = .ok (.i2l, 1) := by decide +kernel
theorem dX8_joined_15 : decode cX8_joined 15 = .ok (.lreturn, 1) := by decide +kernel
theorem dX8_joined_16 : decode cX8_joined 16 = .ok (.aload_n 0, 1) := by decide +kernel
theorem dX8_joined_17 : decode cX8_joined 17 = .ok (.iload_n 2, 1) := by decide +kernel
theorem dX8_joined_18 : decode cX8_joined 18 = .ok (.invokevirtual 294, 3) := by decide +kernel
theorem dX8_joined_21 : decode cX8_joined 21 = .ok (.ifCond .le 11, 3) := by decide +kernel
theorem dX8_joined_24 : decode cX8_joined 24 = .ok (.aload_n 0, 1) := by decide +kernel
theorem dX8_joined_25 : decode cX8_joined 25 = .ok (.iload_n 2, 1) := by decide +kernel
theorem dX8_joined_26 : decode cX8_joined 26 = .ok (.invokevirtual 294, 3) := by decide +kernel
theorem dX8_joined_29 : decode cX8_joined 29 = .ok (.ineg, 1) := by decide +kernel
theorem dX8_joined_30 : decode cX8_joined 30 = .ok (.i2l, 1) := by decide +kernel
theorem dX8_joined_31 : decode cX8_joined 31 = .ok (.lreturn, 1) := by decide +kernel
theorem dX8_joined_32 : decode cX8_joined 32 = .ok (.aload_n 0, 1) := by decide +kernel
theorem dX8_joined_33 : decode cX8_joined 33 = .ok (.iload_n 3, 1) := by decide +kernel
theorem dX8_joined_34 : decode cX8_joined 34 = .ok (.invokevirtual 294, 3) := by decide +kernel
theorem dX8_joined_37 : decode cX8_joined 37 = .ok (.ifCond .le 11, 3) := by decide +kernel
theorem dX8_joined_40 : decode cX8_joined 40 = .ok (.aload_n 0, 1) := by decide +kernel
theorem dX8_joined_41 : decode cX8_joined 41 = .ok (.iload_n 3, 1) := by decide +kernel
theorem dX8_joined_42 : decode cX8_joined 42 = .ok (.invokevirtual 294, 3) := by decide +kernel
theorem dX8_joined_45 : decode cX8_joined 45 = .ok (.ineg, 1) := by decide +kernel
theorem dX8_joined_46 : decode cX8_joined 46 = .ok (.i2l, 1) := by decide +kernel
theorem dX8_joined_47 : decode cX8_joined 47 = .ok (.lreturn, 1) := by decide +kernel
theorem dX8_joined_48 : decode cX8_joined 48 = .ok (.iload_n 1, 1) := by decide +kernel
theorem dX8_joined_49 : decode cX8_joined 49 = .ok (.iload_n 2, 1) := by decide +kernel
theorem dX8_joined_50 : decode cX8_joined 50 = .ok (.if_icmp .eq 13, 3) := by decide +kernel
theorem dX8_joined_53 : decode cX8_joined 53 = .ok (.iload_n 1, 1) := by decide +kernel
theorem dX8_joined_54 : decode cX8_joined 54 = .ok (.iload_n 3, 1) := by decide +kernel
theorem dX8_joined_55 : decode cX8_joined 55 = .ok (.if_icmp .eq 8, 3) := by decide +kernel
theorem dX8_joined_58 : decode cX8_joined 58 = .ok (.iload_n 2, 1) := by decide +kernel
theorem dX8_joined_59 : decode cX8_joined 59 = .ok (.iload_n 3, 1) := by decide +kernel
theorem dX8_joined_60 : decode cX8_joined 60 = .ok (.if_icmp .ne 7, 3) := by decide +kernel
theorem dX8_joined_63 : decode cX8_joined 63 = .ok (.ldc2_w 368, 3) := by decide +kernel
theorem dX8_joined_66 : decode cX8_joined 66 = .ok (.lreturn, 1) := by decide +kernel
theorem dX8_joined_67 : decode cX8_joined 67 = .ok (.aload_n 0, 1) := by decide +kernel
theorem dX8_joined_68 : decode cX8_joined 68 = .ok (.iload_n 1, 1) := by decide +kernel
theorem dX8_joined_69 : decode cX8_joined 69 = .ok (.invokevirtual 386, 3) := by decide +kernel
theorem dX8_joined_72 : decode cX8_joined 72 = .ok (.ifCond .eq 19, 3) := by decide +kernel
theorem dX8_joined_75 : decode cX8_joined 75 = .ok (.aload_n 0, 1) := by decide +kernel
theorem dX8_joined_76 : decode cX8_joined 76 = .ok (.iload_n 2, 1) := by decide +kernel
theorem dX8_joined_77 : decode cX8_joined 77 = .ok (.invokevirtual 386, 3) := by decide +kernel
theorem dX8_joined_80 : decode cX8_joined 80 = .ok (.ifCond .eq 11, 3) := by decide +kernel
theorem dX8_joined_83 : decode cX8_joined 83 = .ok (.aload_n 0, 1) := by decide +kernel
theorem dX8_joined_84 : decode cX8_joined 84 = .ok (.iload_n 3, 1) := by decide +kernel
theorem dX8_joined_85 : decode cX8_joined 85 = .ok (.invokevirtual 386, 3) := by decide +kernel
theorem dX8_joined_88 : decode cX8_joined 88 = .ok (.ifCond .ne 7, 3) := by decide +kernel
theorem dX8_joined_91 : decode cX8_joined 91 = .ok (.ldc2_w 359, 3) := by decide +kernel
theorem dX8_joined_94 : decode cX8_joined 94 = .ok (.lreturn, 1) := by decide +kernel
theorem dX8_joined_95 : decode cX8_joined 95 = .ok (.aload_n 0, 1) := by decide +kernel
theorem dX8_joined_96 : decode cX8_joined 96 = .ok (.getfield 32, 3) := by decide +kernel
theorem dX8_joined_99 : decode cX8_joined 99 = .ok (.iload_n 1, 1) := by decide +kernel
theorem dX8_joined_100 : decode cX8_joined 100 = .ok (.iaload, 1) := by decide +kernel
theorem dX8_joined_101 : decode cX8_joined 101 = .ok (.ifCond .ne 21, 3) := by decide +kernel
theorem dX8_joined_104 : decode cX8_joined 104 = .ok (.aload_n 0, 1) := by decide +kernel
theorem dX8_joined_105 : decode cX8_joined 105 = .ok (.getfield 32, 3) := by decide +kernel
theorem dX8_joined_108 : decode cX8_joined 108 = .ok (.iload_n 2, 1) := by decide +kernel
theorem dX8_joined_109 : decode cX8_joined 109 = .ok (.iaload, 1) := by decide +kernel
theorem dX8_joined_110 : decode cX8_joined 110 = .ok (.ifCond .ne 12, 3) := by decide +kernel
theorem dX8_joined_113 : decode cX8_joined 113 = .ok (.aload_n 0, 1) := by decide +kernel
theorem dX8_joined_114 : decode cX8_joined 114 = .ok (.getfield 32, 3) := by decide +kernel
theorem dX8_joined_117 : decode cX8_joined 117 = .ok (.iload_n 3, 1) := by decide +kernel
theorem dX8_joined_118 : decode cX8_joined 118 = .ok (.iaload, 1) := by decide +kernel
theorem dX8_joined_119 : decode cX8_joined 119 = .ok (.ifCond .eq 7, 3) := by decide +kernel
theorem dX8_joined_122 : decode cX8_joined 122 = .ok (.ldc2_w 346, 3) := by decide +kernel
theorem dX8_joined_125 : decode cX8_joined 125 = .ok (.lreturn, 1) := by decide +kernel
theorem dX8_joined_126 : decode cX8_joined 126 = .ok (.aload_n 0, 1) := by decide +kernel
theorem dX8_joined_127 : decode cX8_joined 127 = .ok (.getfield 93, 3) := by decide +kernel
theorem dX8_joined_130 : decode cX8_joined 130 = .ok (.iload_n 1, 1) := by decide +kernel
theorem dX8_joined_131 : decode cX8_joined 131 = .ok (.iaload, 1) := by decide +kernel
theorem dX8_joined_132 : decode cX8_joined 132 = .ok (.ifCond .ge 21, 3) := by decide +kernel
theorem dX8_joined_135 : decode cX8_joined 135 = .ok (.aload_n 0, 1) := by decide +kernel
theorem dX8_joined_136 : decode cX8_joined 136 = .ok (.getfield 93, 3) := by decide +kernel
theorem dX8_joined_139 : decode cX8_joined 139 = .ok (.iload_n 2, 1) := by decide +kernel
theorem dX8_joined_140 : decode cX8_joined 140 = .ok (.iaload, 1) := by decide +kernel
theorem dX8_joined_141 : decode cX8_joined 141 = .ok (.ifCond .ge 12, 3) := by decide +kernel
theorem dX8_joined_144 : decode cX8_joined 144 = .ok (.aload_n 0, 1) := by decide +kernel
theorem dX8_joined_145 : decode cX8_joined 145 = .ok (.getfield 93, 3) := by decide +kernel
theorem dX8_joined_148 : decode cX8_joined 148 = .ok (.iload_n 3, 1) := by decide +kernel
theorem dX8_joined_149 : decode cX8_joined 149 = .ok (.iaload, 1) := by decide +kernel
theorem dX8_joined_150 : decode cX8_joined 150 = .ok (.ifCond .lt 7, 3) := by decide +kernel
theorem dX8_joined_153 : decode cX8_joined 153 = .ok (.ldc2_w 348, 3) := by decide +kernel
theorem dX8_joined_156 : decode cX8_joined 156 = .ok (.lreturn, 1) := by decide +kernel
theorem dX8_joined_157 : decode cX8_joined 157 = .ok (.aload_n 0, 1) := by decide +kernel
theorem dX8_joined_158 : decode cX8_joined 158 = .ok (.getfield 93, 3) := by decide +kernel
theorem dX8_joined_161 : decode cX8_joined 161 = .ok (.iload_n 1, 1) := by decide +kernel
theorem dX8_joined_162 : decode cX8_joined 162 = .ok (.iload_n 1, 1) := by decide +kernel
theorem dX8_joined_163 : decode cX8_joined 163 = .ok (.iastore, 1) := by decide +kernel
theorem dX8_joined_164 : decode cX8_joined 164 = .ok (.aload_n 0, 1) := by decide +kernel
theorem dX8_joined_165 : decode cX8_joined 165 = .ok (.getfield 93, 3) := by decide +kernel
theorem dX8_joined_168 : decode cX8_joined 168 = .ok (.iload_n 2, 1) := by decide +kernel
theorem dX8_joined_169 : decode cX8_joined 169 = .ok (.iload_n 1, 1) := by decide +kernel
theorem dX8_joined_170 : decode cX8_joined 170 = .ok (.iastore, 1) := by decide +kernel
theorem dX8_joined_171 : decode cX8_joined 171 = .ok (.aload_n 0, 1) := by decide +kernel
theorem dX8_joined_172 : decode cX8_joined 172 = .ok (.getfield 93, 3) := by decide +kernel
theorem dX8_joined_175 : decode cX8_joined 175 = .ok (.iload_n 3, 1) := by decide +kernel
theorem dX8_joined_176 : decode cX8_joined 176 = .ok (.iload_n 1, 1) := by decide +kernel
theorem dX8_joined_177 : decode cX8_joined 177 = .ok (.iastore, 1) := by decide +kernel
theorem dX8_joined_178 : decode cX8_joined 178 = .ok (.aload_n 0, 1) := by decide +kernel
theorem dX8_joined_179 : decode cX8_joined 179 = .ok (.getfield 96, 3) := by decide +kernel
theorem dX8_joined_182 : decode cX8_joined 182 = .ok (.iload_n 1, 1) := by decide +kernel
theorem dX8_joined_183 : decode cX8_joined 183 = .ok (.iload_n 2, 1) := by decide +kernel
theorem dX8_joined_184 : decode cX8_joined 184 = .ok (.iastore, 1) := by decide +kernel
theorem dX8_joined_185 : decode cX8_joined 185 = .ok (.aload_n 0, 1) := by decide +kernel
theorem dX8_joined_186 : decode cX8_joined 186 = .ok (.getfield 99, 3) := by decide +kernel
theorem dX8_joined_189 : decode cX8_joined 189 = .ok (.iload_n 1, 1) := by decide +kernel
theorem dX8_joined_190 : decode cX8_joined 190 = .ok (.iload_n 3, 1) := by decide +kernel
theorem dX8_joined_191 : decode cX8_joined 191 = .ok (.iastore, 1) := by decide +kernel
theorem dX8_joined_192 : decode cX8_joined 192 = .ok (.lconst 1, 1) := by decide +kernel
theorem dX8_joined_193 : decode cX8_joined 193 = .ok (.lreturn, 1) := by decide +kernel
theorem sc_X8_joined_X8_noLot : ym_site g_X8_joined g_X8_noLot 2 1 1 := ⟨by decide, by decide, wd_1058, wd_83, by decide +kernel⟩
theorem sc_X8_joined_X8_isPlain : ym_site g_X8_joined g_X8_isPlain 2 1 1 := ⟨by decide, by decide, wd_1096, wd_83, by decide +kernel⟩
def fn_X8_joined (N : Nat) (a0 : Option Nat) (a1 : Int32) (a2 : Int32) (a3 : Int32) (h : ym_H) : Option (Int64 × ym_H) :=
  Option.bind (ym_ob h a0 8) fun o2 =>
  Option.bind (fn_X8_noLot N a0 a1 h) fun q2 =>
  if q2.1 ≤ 0 then
    Option.bind (ym_ob q2.2 a0 8) fun o18 =>
    Option.bind (fn_X8_noLot N a0 a2 q2.2) fun q18 =>
    if q18.1 ≤ 0 then
      Option.bind (ym_ob q18.2 a0 8) fun o34 =>
      Option.bind (fn_X8_noLot N a0 a3 q18.2) fun q34 =>
      if q34.1 ≤ 0 then
        if a1 = a2 then
          some ((-13), q34.2)
        else
          if a1 = a3 then
            some ((-13), q34.2)
          else
            if a2 = a3 then
              some ((-13), q34.2)
            else
              Option.bind (ym_ob q34.2 a0 8) fun o69 =>
              Option.bind (fn_X8_isPlain N a0 a1 q34.2) fun q69 =>
              if q69.1 = 0 then
                some ((-4), q69.2)
              else
                Option.bind (ym_ob q69.2 a0 8) fun o77 =>
                Option.bind (fn_X8_isPlain N a0 a2 q69.2) fun q77 =>
                if q77.1 = 0 then
                  some ((-4), q77.2)
                else
                  Option.bind (ym_ob q77.2 a0 8) fun o85 =>
                  Option.bind (fn_X8_isPlain N a0 a3 q77.2) fun q85 =>
                  if q85.1 = 0 then
                    some ((-4), q85.2)
                  else
                    Option.bind (ym_gR q85.2 a0 8 9) fun v96 =>
                    Option.bind (ym_ldI q85.2 v96 a1) fun v100 =>
                    if v100 = 0 then
                      Option.bind (ym_gR q85.2 a0 8 9) fun v105 =>
                      Option.bind (ym_ldI q85.2 v105 a2) fun v109 =>
                      if v109 = 0 then
                        Option.bind (ym_gR q85.2 a0 8 9) fun v114 =>
                        Option.bind (ym_ldI q85.2 v114 a3) fun v118 =>
                        if v118 = 0 then
                          Option.bind (ym_gR q85.2 a0 8 30) fun v127 =>
                          Option.bind (ym_ldI q85.2 v127 a1) fun v131 =>
                          if 0 ≤ v131 then
                            some ((-8), q85.2)
                          else
                            Option.bind (ym_gR q85.2 a0 8 30) fun v136 =>
                            Option.bind (ym_ldI q85.2 v136 a2) fun v140 =>
                            if 0 ≤ v140 then
                              some ((-8), q85.2)
                            else
                              Option.bind (ym_gR q85.2 a0 8 30) fun v145 =>
                              Option.bind (ym_ldI q85.2 v145 a3) fun v149 =>
                              if v149 < 0 then
                                Option.bind (ym_gR q85.2 a0 8 30) fun v158 =>
                                Option.bind (ym_as q85.2 v158 0 a1 (.int a1)) fun h163 =>
                                Option.bind (ym_gR h163 a0 8 30) fun v165 =>
                                Option.bind (ym_as h163 v165 0 a2 (.int a1)) fun h170 =>
                                Option.bind (ym_gR h170 a0 8 30) fun v172 =>
                                Option.bind (ym_as h170 v172 0 a3 (.int a1)) fun h177 =>
                                Option.bind (ym_gR h177 a0 8 31) fun v179 =>
                                Option.bind (ym_as h177 v179 0 a1 (.int a2)) fun h184 =>
                                Option.bind (ym_gR h184 a0 8 32) fun v186 =>
                                Option.bind (ym_as h184 v186 0 a1 (.int a3)) fun h191 =>
                                some (1, h191)
                              else
                                some ((-8), q85.2)
                        else
                          some ((-9), q85.2)
                      else
                        some ((-9), q85.2)
                    else
                      some ((-9), q85.2)
      else
        Option.bind (ym_ob q34.2 a0 8) fun o42 =>
        Option.bind (fn_X8_noLot N a0 a3 q34.2) fun q42 =>
        some ((Int32.toInt64 (-q42.1)), q42.2)
    else
      Option.bind (ym_ob q18.2 a0 8) fun o26 =>
      Option.bind (fn_X8_noLot N a0 a2 q18.2) fun q26 =>
      some ((Int32.toInt64 (-q26.1)), q26.2)
  else
    Option.bind (ym_ob q2.2 a0 8) fun o10 =>
    Option.bind (fn_X8_noLot N a0 a1 q2.2) fun q10 =>
    some ((Int32.toInt64 (-q10.1)), q10.2)
set_option maxRecDepth 20000 in
set_option maxHeartbeats 4000000 in
theorem ok_X8_joined {D : ym_D} {b0 : Nat} {N : Nat} {a0 : Option Nat} {a1 : Int32} {a2 : Int32} {a3 : Int32} {h h' : ym_H} {r : Int64} (hf : fn_X8_joined N a0 a1 a2 a3 h = some (r, h')) : ym_M D b0 g_X8_joined 2 [va_rf a0, .int a1, .int a2, .int a3] h (some (.long r)) h' := by
  unfold fn_X8_joined at hf
  refine ym_meth (lv := [(0, va_rf a0), (1, .int a1), (2, .int a2), (3, .int a3)]) (by decide) (by simp [lg_sl, ym_c1, ym_cI, ym_cL, g_X8_joined]) (by simp [lv_args, ym_c1, ym_cI, ym_cL]) ?_
  refine ym_aload_n (pc := 0) 0 dX8_joined_0 rfl rfl ?_
  refine ym_iload_n (pc := 1) 1 dX8_joined_1 rfl rfl ?_
  obtain ⟨o2, f2, hf⟩ := Option.bind_eq_some_iff.mp hf
  obtain ⟨q2, e2, hf⟩ := Option.bind_eq_some_iff.mp hf
  refine ym_callV (pc := 2) (G2 := g_X8_noLot) (dep2 := 1) (As := [.int a1]) (st := []) (stk2 := [.int q2.1]) (r2 := (some (.int q2.1))) (h1 := q2.2) dX8_joined_2 (ok_X8_noLot e2) (sc_X8_joined_X8_noLot) wd_1055 wd_1057 wd_27 (ci := 8) (q0 := (RX8, TX8, 58)) rfl (by decide) rfl f2 rfl rfl (ym_st4 (Nat.le_of_ble_eq_true rfl)) rfl ?_
  by_cases c5 : q2.1 ≤ 0
  · rw [if_pos c5] at hf
    refine ym_if_le_y (pc := 5) (tgt := 16) dX8_joined_5 (by decide) c5 ?_
    refine ym_aload_n (pc := 16) 0 dX8_joined_16 rfl rfl ?_
    refine ym_iload_n (pc := 17) 2 dX8_joined_17 rfl rfl ?_
    obtain ⟨o18, f18, hf⟩ := Option.bind_eq_some_iff.mp hf
    obtain ⟨q18, e18, hf⟩ := Option.bind_eq_some_iff.mp hf
    refine ym_callV (pc := 18) (G2 := g_X8_noLot) (dep2 := 1) (As := [.int a2]) (st := []) (stk2 := [.int q18.1]) (r2 := (some (.int q18.1))) (h1 := q18.2) dX8_joined_18 (ok_X8_noLot e18) (sc_X8_joined_X8_noLot) wd_1055 wd_1057 wd_27 (ci := 8) (q0 := (RX8, TX8, 58)) rfl (by decide) rfl f18 rfl rfl (ym_st4 (Nat.le_of_ble_eq_true rfl)) rfl ?_
    by_cases c21 : q18.1 ≤ 0
    · rw [if_pos c21] at hf
      refine ym_if_le_y (pc := 21) (tgt := 32) dX8_joined_21 (by decide) c21 ?_
      refine ym_aload_n (pc := 32) 0 dX8_joined_32 rfl rfl ?_
      refine ym_iload_n (pc := 33) 3 dX8_joined_33 rfl rfl ?_
      obtain ⟨o34, f34, hf⟩ := Option.bind_eq_some_iff.mp hf
      obtain ⟨q34, e34, hf⟩ := Option.bind_eq_some_iff.mp hf
      refine ym_callV (pc := 34) (G2 := g_X8_noLot) (dep2 := 1) (As := [.int a3]) (st := []) (stk2 := [.int q34.1]) (r2 := (some (.int q34.1))) (h1 := q34.2) dX8_joined_34 (ok_X8_noLot e34) (sc_X8_joined_X8_noLot) wd_1055 wd_1057 wd_27 (ci := 8) (q0 := (RX8, TX8, 58)) rfl (by decide) rfl f34 rfl rfl (ym_st4 (Nat.le_of_ble_eq_true rfl)) rfl ?_
      by_cases c37 : q34.1 ≤ 0
      · rw [if_pos c37] at hf
        refine ym_if_le_y (pc := 37) (tgt := 48) dX8_joined_37 (by decide) c37 ?_
        refine ym_iload_n (pc := 48) 1 dX8_joined_48 rfl rfl ?_
        refine ym_iload_n (pc := 49) 2 dX8_joined_49 rfl rfl ?_
        by_cases c50 : a1 = a2
        · rw [if_pos c50] at hf
          refine ym_icmp_eq_y (pc := 50) (tgt := 63) dX8_joined_50 (by decide) c50 ?_
          refine ym_ldc2 (pc := 63) dX8_joined_63 wd_1135 ?_
          cases hf
          exact ym_lret (pc := 66) dX8_joined_66 rfl
        · rw [if_neg c50] at hf
          refine ym_icmp_eq_n (pc := 50) (tgt := 63) dX8_joined_50 (by decide) c50 ?_
          refine ym_iload_n (pc := 53) 1 dX8_joined_53 rfl rfl ?_
          refine ym_iload_n (pc := 54) 3 dX8_joined_54 rfl rfl ?_
          by_cases c55 : a1 = a3
          · rw [if_pos c55] at hf
            refine ym_icmp_eq_y (pc := 55) (tgt := 63) dX8_joined_55 (by decide) c55 ?_
            refine ym_ldc2 (pc := 63) dX8_joined_63 wd_1135 ?_
            cases hf
            exact ym_lret (pc := 66) dX8_joined_66 rfl
          · rw [if_neg c55] at hf
            refine ym_icmp_eq_n (pc := 55) (tgt := 63) dX8_joined_55 (by decide) c55 ?_
            refine ym_iload_n (pc := 58) 2 dX8_joined_58 rfl rfl ?_
            refine ym_iload_n (pc := 59) 3 dX8_joined_59 rfl rfl ?_
            by_cases c60 : a2 = a3
            · rw [if_pos c60] at hf
              refine ym_icmp_ne_y (pc := 60) (tgt := 67) dX8_joined_60 (by decide) c60 ?_
              refine ym_ldc2 (pc := 63) dX8_joined_63 wd_1135 ?_
              cases hf
              exact ym_lret (pc := 66) dX8_joined_66 rfl
            · rw [if_neg c60] at hf
              refine ym_icmp_ne_n (pc := 60) (tgt := 67) dX8_joined_60 (by decide) c60 ?_
              refine ym_aload_n (pc := 67) 0 dX8_joined_67 rfl rfl ?_
              refine ym_iload_n (pc := 68) 1 dX8_joined_68 rfl rfl ?_
              obtain ⟨o69, f69, hf⟩ := Option.bind_eq_some_iff.mp hf
              obtain ⟨q69, e69, hf⟩ := Option.bind_eq_some_iff.mp hf
              refine ym_callV (pc := 69) (G2 := g_X8_isPlain) (dep2 := 1) (As := [.int a1]) (st := []) (stk2 := [.int q69.1]) (r2 := (some (.int q69.1))) (h1 := q69.2) dX8_joined_69 (ok_X8_isPlain e69) (sc_X8_joined_X8_isPlain) wd_1093 wd_1095 wd_35 (ci := 8) (q0 := (RX8, TX8, 58)) rfl (by decide) rfl f69 rfl rfl (ym_st4 (Nat.le_of_ble_eq_true rfl)) rfl ?_
              by_cases c72 : q69.1 = 0
              · rw [if_pos c72] at hf
                refine ym_if_eq_y (pc := 72) (tgt := 91) dX8_joined_72 (by decide) c72 ?_
                refine ym_ldc2 (pc := 91) dX8_joined_91 wd_1126 ?_
                cases hf
                exact ym_lret (pc := 94) dX8_joined_94 rfl
              · rw [if_neg c72] at hf
                refine ym_if_eq_n (pc := 72) (tgt := 91) dX8_joined_72 (by decide) c72 ?_
                refine ym_aload_n (pc := 75) 0 dX8_joined_75 rfl rfl ?_
                refine ym_iload_n (pc := 76) 2 dX8_joined_76 rfl rfl ?_
                obtain ⟨o77, f77, hf⟩ := Option.bind_eq_some_iff.mp hf
                obtain ⟨q77, e77, hf⟩ := Option.bind_eq_some_iff.mp hf
                refine ym_callV (pc := 77) (G2 := g_X8_isPlain) (dep2 := 1) (As := [.int a2]) (st := []) (stk2 := [.int q77.1]) (r2 := (some (.int q77.1))) (h1 := q77.2) dX8_joined_77 (ok_X8_isPlain e77) (sc_X8_joined_X8_isPlain) wd_1093 wd_1095 wd_35 (ci := 8) (q0 := (RX8, TX8, 58)) rfl (by decide) rfl f77 rfl rfl (ym_st4 (Nat.le_of_ble_eq_true rfl)) rfl ?_
                by_cases c80 : q77.1 = 0
                · rw [if_pos c80] at hf
                  refine ym_if_eq_y (pc := 80) (tgt := 91) dX8_joined_80 (by decide) c80 ?_
                  refine ym_ldc2 (pc := 91) dX8_joined_91 wd_1126 ?_
                  cases hf
                  exact ym_lret (pc := 94) dX8_joined_94 rfl
                · rw [if_neg c80] at hf
                  refine ym_if_eq_n (pc := 80) (tgt := 91) dX8_joined_80 (by decide) c80 ?_
                  refine ym_aload_n (pc := 83) 0 dX8_joined_83 rfl rfl ?_
                  refine ym_iload_n (pc := 84) 3 dX8_joined_84 rfl rfl ?_
                  obtain ⟨o85, f85, hf⟩ := Option.bind_eq_some_iff.mp hf
                  obtain ⟨q85, e85, hf⟩ := Option.bind_eq_some_iff.mp hf
                  refine ym_callV (pc := 85) (G2 := g_X8_isPlain) (dep2 := 1) (As := [.int a3]) (st := []) (stk2 := [.int q85.1]) (r2 := (some (.int q85.1))) (h1 := q85.2) dX8_joined_85 (ok_X8_isPlain e85) (sc_X8_joined_X8_isPlain) wd_1093 wd_1095 wd_35 (ci := 8) (q0 := (RX8, TX8, 58)) rfl (by decide) rfl f85 rfl rfl (ym_st4 (Nat.le_of_ble_eq_true rfl)) rfl ?_
                  by_cases c88 : q85.1 = 0
                  · rw [if_pos c88] at hf
                    refine ym_if_ne_y (pc := 88) (tgt := 95) dX8_joined_88 (by decide) c88 ?_
                    refine ym_ldc2 (pc := 91) dX8_joined_91 wd_1126 ?_
                    cases hf
                    exact ym_lret (pc := 94) dX8_joined_94 rfl
                  · rw [if_neg c88] at hf
                    refine ym_if_ne_n (pc := 88) (tgt := 95) dX8_joined_88 (by decide) c88 ?_
                    refine ym_aload_n (pc := 95) 0 dX8_joined_95 rfl rfl ?_
                    obtain ⟨v96, e96, hf⟩ := Option.bind_eq_some_iff.mp hf
                    refine ym_get (pc := 96) dX8_joined_96 rfl (by decide) iX8 (k := 9) (by decide) wd_854 (ym_gR_v e96) ?_
                    refine ym_iload_n (pc := 99) 1 dX8_joined_99 rfl rfl ?_
                    obtain ⟨v100, e100, hf⟩ := Option.bind_eq_some_iff.mp hf
                    refine ym_iald (pc := 100) dX8_joined_100 rfl (ym_ldI_v e100) ?_
                    by_cases c101 : v100 = 0
                    · rw [if_pos c101] at hf
                      refine ym_if_ne_y (pc := 101) (tgt := 122) dX8_joined_101 (by decide) c101 ?_
                      refine ym_aload_n (pc := 104) 0 dX8_joined_104 rfl rfl ?_
                      obtain ⟨v105, e105, hf⟩ := Option.bind_eq_some_iff.mp hf
                      refine ym_get (pc := 105) dX8_joined_105 rfl (by decide) iX8 (k := 9) (by decide) wd_854 (ym_gR_v e105) ?_
                      refine ym_iload_n (pc := 108) 2 dX8_joined_108 rfl rfl ?_
                      obtain ⟨v109, e109, hf⟩ := Option.bind_eq_some_iff.mp hf
                      refine ym_iald (pc := 109) dX8_joined_109 rfl (ym_ldI_v e109) ?_
                      by_cases c110 : v109 = 0
                      · rw [if_pos c110] at hf
                        refine ym_if_ne_y (pc := 110) (tgt := 122) dX8_joined_110 (by decide) c110 ?_
                        refine ym_aload_n (pc := 113) 0 dX8_joined_113 rfl rfl ?_
                        obtain ⟨v114, e114, hf⟩ := Option.bind_eq_some_iff.mp hf
                        refine ym_get (pc := 114) dX8_joined_114 rfl (by decide) iX8 (k := 9) (by decide) wd_854 (ym_gR_v e114) ?_
                        refine ym_iload_n (pc := 117) 3 dX8_joined_117 rfl rfl ?_
                        obtain ⟨v118, e118, hf⟩ := Option.bind_eq_some_iff.mp hf
                        refine ym_iald (pc := 118) dX8_joined_118 rfl (ym_ldI_v e118) ?_
                        by_cases c119 : v118 = 0
                        · rw [if_pos c119] at hf
                          refine ym_if_eq_y (pc := 119) (tgt := 126) dX8_joined_119 (by decide) c119 ?_
                          refine ym_aload_n (pc := 126) 0 dX8_joined_126 rfl rfl ?_
                          obtain ⟨v127, e127, hf⟩ := Option.bind_eq_some_iff.mp hf
                          refine ym_get (pc := 127) dX8_joined_127 rfl (by decide) iX8 (k := 30) (by decide) wd_875 (ym_gR_v e127) ?_
                          refine ym_iload_n (pc := 130) 1 dX8_joined_130 rfl rfl ?_
                          obtain ⟨v131, e131, hf⟩ := Option.bind_eq_some_iff.mp hf
                          refine ym_iald (pc := 131) dX8_joined_131 rfl (ym_ldI_v e131) ?_
                          by_cases c132 : 0 ≤ v131
                          · rw [if_pos c132] at hf
                            refine ym_if_ge_y (pc := 132) (tgt := 153) dX8_joined_132 (by decide) c132 ?_
                            refine ym_ldc2 (pc := 153) dX8_joined_153 wd_1064 ?_
                            cases hf
                            exact ym_lret (pc := 156) dX8_joined_156 rfl
                          · rw [if_neg c132] at hf
                            refine ym_if_ge_n (pc := 132) (tgt := 153) dX8_joined_132 (by decide) c132 ?_
                            refine ym_aload_n (pc := 135) 0 dX8_joined_135 rfl rfl ?_
                            obtain ⟨v136, e136, hf⟩ := Option.bind_eq_some_iff.mp hf
                            refine ym_get (pc := 136) dX8_joined_136 rfl (by decide) iX8 (k := 30) (by decide) wd_875 (ym_gR_v e136) ?_
                            refine ym_iload_n (pc := 139) 2 dX8_joined_139 rfl rfl ?_
                            obtain ⟨v140, e140, hf⟩ := Option.bind_eq_some_iff.mp hf
                            refine ym_iald (pc := 140) dX8_joined_140 rfl (ym_ldI_v e140) ?_
                            by_cases c141 : 0 ≤ v140
                            · rw [if_pos c141] at hf
                              refine ym_if_ge_y (pc := 141) (tgt := 153) dX8_joined_141 (by decide) c141 ?_
                              refine ym_ldc2 (pc := 153) dX8_joined_153 wd_1064 ?_
                              cases hf
                              exact ym_lret (pc := 156) dX8_joined_156 rfl
                            · rw [if_neg c141] at hf
                              refine ym_if_ge_n (pc := 141) (tgt := 153) dX8_joined_141 (by decide) c141 ?_
                              refine ym_aload_n (pc := 144) 0 dX8_joined_144 rfl rfl ?_
                              obtain ⟨v145, e145, hf⟩ := Option.bind_eq_some_iff.mp hf
                              refine ym_get (pc := 145) dX8_joined_145 rfl (by decide) iX8 (k := 30) (by decide) wd_875 (ym_gR_v e145) ?_
                              refine ym_iload_n (pc := 148) 3 dX8_joined_148 rfl rfl ?_
                              obtain ⟨v149, e149, hf⟩ := Option.bind_eq_some_iff.mp hf
                              refine ym_iald (pc := 149) dX8_joined_149 rfl (ym_ldI_v e149) ?_
                              by_cases c150 : v149 < 0
                              · rw [if_pos c150] at hf
                                refine ym_if_lt_y (pc := 150) (tgt := 157) dX8_joined_150 (by decide) c150 ?_
                                refine ym_aload_n (pc := 157) 0 dX8_joined_157 rfl rfl ?_
                                obtain ⟨v158, e158, hf⟩ := Option.bind_eq_some_iff.mp hf
                                refine ym_get (pc := 158) dX8_joined_158 rfl (by decide) iX8 (k := 30) (by decide) wd_875 (ym_gR_v e158) ?_
                                refine ym_iload_n (pc := 161) 1 dX8_joined_161 rfl rfl ?_
                                refine ym_iload_n (pc := 162) 1 dX8_joined_162 rfl rfl ?_
                                obtain ⟨h163, e163, hf⟩ := Option.bind_eq_some_iff.mp hf
                                refine ym_iast (pc := 163) dX8_joined_163 rfl e163 ?_
                                refine ym_aload_n (pc := 164) 0 dX8_joined_164 rfl rfl ?_
                                obtain ⟨v165, e165, hf⟩ := Option.bind_eq_some_iff.mp hf
                                refine ym_get (pc := 165) dX8_joined_165 rfl (by decide) iX8 (k := 30) (by decide) wd_875 (ym_gR_v e165) ?_
                                refine ym_iload_n (pc := 168) 2 dX8_joined_168 rfl rfl ?_
                                refine ym_iload_n (pc := 169) 1 dX8_joined_169 rfl rfl ?_
                                obtain ⟨h170, e170, hf⟩ := Option.bind_eq_some_iff.mp hf
                                refine ym_iast (pc := 170) dX8_joined_170 rfl e170 ?_
                                refine ym_aload_n (pc := 171) 0 dX8_joined_171 rfl rfl ?_
                                obtain ⟨v172, e172, hf⟩ := Option.bind_eq_some_iff.mp hf
                                refine ym_get (pc := 172) dX8_joined_172 rfl (by decide) iX8 (k := 30) (by decide) wd_875 (ym_gR_v e172) ?_
                                refine ym_iload_n (pc := 175) 3 dX8_joined_175 rfl rfl ?_
                                refine ym_iload_n (pc := 176) 1 dX8_joined_176 rfl rfl ?_
                                obtain ⟨h177, e177, hf⟩ := Option.bind_eq_some_iff.mp hf
                                refine ym_iast (pc := 177) dX8_joined_177 rfl e177 ?_
                                refine ym_aload_n (pc := 178) 0 dX8_joined_178 rfl rfl ?_
                                obtain ⟨v179, e179, hf⟩ := Option.bind_eq_some_iff.mp hf
                                refine ym_get (pc := 179) dX8_joined_179 rfl (by decide) iX8 (k := 31) (by decide) wd_876 (ym_gR_v e179) ?_
                                refine ym_iload_n (pc := 182) 1 dX8_joined_182 rfl rfl ?_
                                refine ym_iload_n (pc := 183) 2 dX8_joined_183 rfl rfl ?_
                                obtain ⟨h184, e184, hf⟩ := Option.bind_eq_some_iff.mp hf
                                refine ym_iast (pc := 184) dX8_joined_184 rfl e184 ?_
                                refine ym_aload_n (pc := 185) 0 dX8_joined_185 rfl rfl ?_
                                obtain ⟨v186, e186, hf⟩ := Option.bind_eq_some_iff.mp hf
                                refine ym_get (pc := 186) dX8_joined_186 rfl (by decide) iX8 (k := 32) (by decide) wd_877 (ym_gR_v e186) ?_
                                refine ym_iload_n (pc := 189) 1 dX8_joined_189 rfl rfl ?_
                                refine ym_iload_n (pc := 190) 3 dX8_joined_190 rfl rfl ?_
                                obtain ⟨h191, e191, hf⟩ := Option.bind_eq_some_iff.mp hf
                                refine ym_iast (pc := 191) dX8_joined_191 rfl e191 ?_
                                refine ym_lconst (pc := 192) (v := 1) dX8_joined_192 (by decide) ?_
                                cases hf
                                exact ym_lret (pc := 193) dX8_joined_193 rfl
                              · rw [if_neg c150] at hf
                                refine ym_if_lt_n (pc := 150) (tgt := 157) dX8_joined_150 (by decide) c150 ?_
                                refine ym_ldc2 (pc := 153) dX8_joined_153 wd_1064 ?_
                                cases hf
                                exact ym_lret (pc := 156) dX8_joined_156 rfl
                        · rw [if_neg c119] at hf
                          refine ym_if_eq_n (pc := 119) (tgt := 126) dX8_joined_119 (by decide) c119 ?_
                          refine ym_ldc2 (pc := 122) dX8_joined_122 wd_1063 ?_
                          cases hf
                          exact ym_lret (pc := 125) dX8_joined_125 rfl
                      · rw [if_neg c110] at hf
                        refine ym_if_ne_n (pc := 110) (tgt := 122) dX8_joined_110 (by decide) c110 ?_
                        refine ym_ldc2 (pc := 122) dX8_joined_122 wd_1063 ?_
                        cases hf
                        exact ym_lret (pc := 125) dX8_joined_125 rfl
                    · rw [if_neg c101] at hf
                      refine ym_if_ne_n (pc := 101) (tgt := 122) dX8_joined_101 (by decide) c101 ?_
                      refine ym_ldc2 (pc := 122) dX8_joined_122 wd_1063 ?_
                      cases hf
                      exact ym_lret (pc := 125) dX8_joined_125 rfl
      · rw [if_neg c37] at hf
        refine ym_if_le_n (pc := 37) (tgt := 48) dX8_joined_37 (by decide) c37 ?_
        refine ym_aload_n (pc := 40) 0 dX8_joined_40 rfl rfl ?_
        refine ym_iload_n (pc := 41) 3 dX8_joined_41 rfl rfl ?_
        obtain ⟨o42, f42, hf⟩ := Option.bind_eq_some_iff.mp hf
        obtain ⟨q42, e42, hf⟩ := Option.bind_eq_some_iff.mp hf
        refine ym_callV (pc := 42) (G2 := g_X8_noLot) (dep2 := 1) (As := [.int a3]) (st := []) (stk2 := [.int q42.1]) (r2 := (some (.int q42.1))) (h1 := q42.2) dX8_joined_42 (ok_X8_noLot e42) (sc_X8_joined_X8_noLot) wd_1055 wd_1057 wd_27 (ci := 8) (q0 := (RX8, TX8, 58)) rfl (by decide) rfl f42 rfl rfl (ym_st4 (Nat.le_of_ble_eq_true rfl)) rfl ?_
        refine ym_ineg (pc := 45) dX8_joined_45 ?_
        refine ym_i2l (pc := 46) dX8_joined_46 ?_
        cases hf
        exact ym_lret (pc := 47) dX8_joined_47 rfl
    · rw [if_neg c21] at hf
      refine ym_if_le_n (pc := 21) (tgt := 32) dX8_joined_21 (by decide) c21 ?_
      refine ym_aload_n (pc := 24) 0 dX8_joined_24 rfl rfl ?_
      refine ym_iload_n (pc := 25) 2 dX8_joined_25 rfl rfl ?_
      obtain ⟨o26, f26, hf⟩ := Option.bind_eq_some_iff.mp hf
      obtain ⟨q26, e26, hf⟩ := Option.bind_eq_some_iff.mp hf
      refine ym_callV (pc := 26) (G2 := g_X8_noLot) (dep2 := 1) (As := [.int a2]) (st := []) (stk2 := [.int q26.1]) (r2 := (some (.int q26.1))) (h1 := q26.2) dX8_joined_26 (ok_X8_noLot e26) (sc_X8_joined_X8_noLot) wd_1055 wd_1057 wd_27 (ci := 8) (q0 := (RX8, TX8, 58)) rfl (by decide) rfl f26 rfl rfl (ym_st4 (Nat.le_of_ble_eq_true rfl)) rfl ?_
      refine ym_ineg (pc := 29) dX8_joined_29 ?_
      refine ym_i2l (pc := 30) dX8_joined_30 ?_
      cases hf
      exact ym_lret (pc := 31) dX8_joined_31 rfl
  · rw [if_neg c5] at hf
    refine ym_if_le_n (pc := 5) (tgt := 16) dX8_joined_5 (by decide) c5 ?_
    refine ym_aload_n (pc := 8) 0 dX8_joined_8 rfl rfl ?_
    refine ym_iload_n (pc := 9) 1 dX8_joined_9 rfl rfl ?_
    obtain ⟨o10, f10, hf⟩ := Option.bind_eq_some_iff.mp hf
    obtain ⟨q10, e10, hf⟩ := Option.bind_eq_some_iff.mp hf
    refine ym_callV (pc := 10) (G2 := g_X8_noLot) (dep2 := 1) (As := [.int a1]) (st := []) (stk2 := [.int q10.1]) (r2 := (some (.int q10.1))) (h1 := q10.2) dX8_joined_10 (ok_X8_noLot e10) (sc_X8_joined_X8_noLot) wd_1055 wd_1057 wd_27 (ci := 8) (q0 := (RX8, TX8, 58)) rfl (by decide) rfl f10 rfl rfl (ym_st4 (Nat.le_of_ble_eq_true rfl)) rfl ?_
    refine ym_ineg (pc := 13) dX8_joined_13 ?_
    refine ym_i2l (pc := 14) dX8_joined_14 ?_
    cases hf
    exact ym_lret (pc := 15) dX8_joined_15 rfl
theorem dX8_wouldBring_0 : decode cX8_wouldBring 0 = .ok (.aload_n 0, 1) := by decide +kernel
theorem dX8_wouldBring_1 : decode cX8_wouldBring 1 = .ok (.iload_n 1, 1) := by decide +kernel
theorem dX8_wouldBring_2 : decode cX8_wouldBring 2 = .ok (.invokevirtual 407, 3) := by decide +kernel
theorem dX8_wouldBring_5 : decode cX8_wouldBring 5 = .ok (.ifCond .eq 17, 3) := by decide +kernel
theorem dX8_wouldBring_8 : decode cX8_wouldBring 8 = .ok (.aload_n 0, 1) := by decide +kernel
theorem dX8_wouldBring_9 : decode cX8_wouldBring 9 = .ok (.iload_n 1, 1) := by decide +kernel
theorem dX8_wouldBring_10 : decode cX8_wouldBring 10 = .ok (.invokevirtual 312, 3) := by decide +kernel
theorem dX8_wouldBring_13 : decode cX8_wouldBring 13 = .ok (.aload_n 0, 1) := by decide +kernel
theorem dX8_wouldBring_14 : decode cX8_wouldBring 14 = .ok (.iload_n 1, 1) := by decide +kernel
theorem dX8_wouldBring_15 : decode cX8_wouldBring 15 = .ok (.invokevirtual 324, 3) := by decide +kernel
theorem dX8_wouldBring_18 : decode cX8_wouldBring 18 = .ok (.lmul, 1) := by decide +kernel
theorem dX8_wouldBring_19 : decode cX8_wouldBring 19 = .ok (.goto 6, 3) := by decide +kernel
theorem dX8_wouldBring_22 : decode cX8_wouldBring 22 = .ok (.ldc2_w 331, 3) := by decide +kernel
theorem dX8_wouldBring_25 : decode cX8_wouldBring 25 = .ok (.lreturn, 1) := by decide +kernel
theorem sc_X8_wouldBring_X8_soldOf : ym_site g_X8_wouldBring g_X8_soldOf 4 3 1 := ⟨by decide, by decide, wd_1199, wd_83, by decide +kernel⟩
theorem sc_X8_wouldBring_X8_standingSum : ym_site g_X8_wouldBring g_X8_standingSum 4 2 1 := ⟨by decide, by decide, wd_1111, wd_83, by decide +kernel⟩
theorem sc_X8_wouldBring_X8_piecesOf : ym_site g_X8_wouldBring g_X8_piecesOf 4 2 1 := ⟨by decide, by decide, wd_1155, wd_83, by decide +kernel⟩
def fn_X8_wouldBring (N : Nat) (a0 : Option Nat) (a1 : Int32) (h : ym_H) : Option (Int64 × ym_H) :=
  Option.bind (ym_ob h a0 8) fun o2 =>
  Option.bind (fn_X8_soldOf N a0 a1 h) fun q2 =>
  if q2.1 = 0 then
    some ((-1), q2.2)
  else
    Option.bind (ym_ob q2.2 a0 8) fun o10 =>
    Option.bind (fn_X8_standingSum N a0 a1 q2.2) fun q10 =>
    Option.bind (ym_ob q10.2 a0 8) fun o15 =>
    Option.bind (fn_X8_piecesOf N a0 a1 q10.2) fun q15 =>
    some ((q10.1 * q15.1), q15.2)
set_option maxRecDepth 20000 in
set_option maxHeartbeats 4000000 in
theorem ok_X8_wouldBring {D : ym_D} {b0 : Nat} {N : Nat} {a0 : Option Nat} {a1 : Int32} {h h' : ym_H} {r : Int64} (hf : fn_X8_wouldBring N a0 a1 h = some (r, h')) : ym_M D b0 g_X8_wouldBring 4 [va_rf a0, .int a1] h (some (.long r)) h' := by
  unfold fn_X8_wouldBring at hf
  refine ym_meth (lv := [(0, va_rf a0), (1, .int a1)]) (by decide) (by simp [lg_sl, ym_c1, ym_cI, ym_cL, g_X8_wouldBring]) (by simp [lv_args, ym_c1, ym_cI, ym_cL]) ?_
  refine ym_aload_n (pc := 0) 0 dX8_wouldBring_0 rfl rfl ?_
  refine ym_iload_n (pc := 1) 1 dX8_wouldBring_1 rfl rfl ?_
  obtain ⟨o2, f2, hf⟩ := Option.bind_eq_some_iff.mp hf
  obtain ⟨q2, e2, hf⟩ := Option.bind_eq_some_iff.mp hf
  refine ym_callV (pc := 2) (G2 := g_X8_soldOf) (dep2 := 3) (As := [.int a1]) (st := []) (stk2 := [.int q2.1]) (r2 := (some (.int q2.1))) (h1 := q2.2) dX8_wouldBring_2 (ok_X8_soldOf e2) (sc_X8_wouldBring_X8_soldOf) wd_1196 wd_1198 wd_57 (ci := 8) (q0 := (RX8, TX8, 58)) rfl (by decide) rfl f2 rfl rfl (ym_st4 (Nat.le_of_ble_eq_true rfl)) rfl ?_
  by_cases c5 : q2.1 = 0
  · rw [if_pos c5] at hf
    refine ym_if_eq_y (pc := 5) (tgt := 22) dX8_wouldBring_5 (by decide) c5 ?_
    refine ym_ldc2 (pc := 22) dX8_wouldBring_22 wd_1038 ?_
    cases hf
    exact ym_lret (pc := 25) dX8_wouldBring_25 rfl
  · rw [if_neg c5] at hf
    refine ym_if_eq_n (pc := 5) (tgt := 22) dX8_wouldBring_5 (by decide) c5 ?_
    refine ym_aload_n (pc := 8) 0 dX8_wouldBring_8 rfl rfl ?_
    refine ym_iload_n (pc := 9) 1 dX8_wouldBring_9 rfl rfl ?_
    obtain ⟨o10, f10, hf⟩ := Option.bind_eq_some_iff.mp hf
    obtain ⟨q10, e10, hf⟩ := Option.bind_eq_some_iff.mp hf
    refine ym_callV (pc := 10) (G2 := g_X8_standingSum) (dep2 := 2) (As := [.int a1]) (st := []) (stk2 := [.long q10.1]) (r2 := (some (.long q10.1))) (h1 := q10.2) dX8_wouldBring_10 (ok_X8_standingSum e10) (sc_X8_wouldBring_X8_standingSum) wd_1108 wd_1110 wd_38 (ci := 8) (q0 := (RX8, TX8, 58)) rfl (by decide) rfl f10 rfl rfl (ym_st4 (Nat.le_of_ble_eq_true rfl)) rfl ?_
    refine ym_aload_n (pc := 13) 0 dX8_wouldBring_13 rfl rfl ?_
    refine ym_iload_n (pc := 14) 1 dX8_wouldBring_14 rfl rfl ?_
    obtain ⟨o15, f15, hf⟩ := Option.bind_eq_some_iff.mp hf
    obtain ⟨q15, e15, hf⟩ := Option.bind_eq_some_iff.mp hf
    refine ym_callV (pc := 15) (G2 := g_X8_piecesOf) (dep2 := 2) (As := [.int a1]) (st := [.long q10.1]) (stk2 := [.long q15.1, .long q10.1]) (r2 := (some (.long q15.1))) (h1 := q15.2) dX8_wouldBring_15 (ok_X8_piecesOf e15) (sc_X8_wouldBring_X8_piecesOf) wd_1152 wd_1154 wd_47 (ci := 8) (q0 := (RX8, TX8, 58)) rfl (by decide) rfl f15 rfl rfl (ym_st4 (Nat.le_of_ble_eq_true rfl)) rfl ?_
    refine ym_lmul (pc := 18) dX8_wouldBring_18 ?_
    refine ym_goto (pc := 19) (tgt := 25) dX8_wouldBring_19 (by decide) ?_
    cases hf
    exact ym_lret (pc := 25) dX8_wouldBring_25 rfl
theorem dX8_settled_0 : decode cX8_settled 0 = .ok (.aload_n 0, 1) := by decide +kernel
theorem dX8_settled_1 : decode cX8_settled 1 = .ok (.iload_n 1, 1) := by decide +kernel
theorem dX8_settled_2 : decode cX8_settled 2 = .ok (.invokevirtual 294, 3) := by decide +kernel
theorem dX8_settled_5 : decode cX8_settled 5 = .ok (.ifCond .le 11, 3) := by decide +kernel
theorem dX8_settled_8 : decode cX8_settled 8 = .ok (.aload_n 0, 1) := by decide +kernel
theorem dX8_settled_9 : decode cX8_settled 9 = .ok (.iload_n 1, 1) := by decide +kernel
theorem dX8_settled_10 : decode cX8_settled 10 = .ok (.invokevirtual 294, 3) := by decide +kernel
theorem dX8_settled_13 : decode cX8_settled 13 = .ok (.ineg, 1) := by decide +kernel
theorem dX8_settled_14 : decode cX8_settled 14 = .ok (.i2l, 1) := by decide +kernel
theorem dX8_settled_15 : decode cX8_settled 15 = .ok (.lreturn, 1) := by decide +kernel
theorem dX8_settled_16 : decode cX8_settled 16 = .ok (.aload_n 0, 1) := by decide +kernel
theorem dX8_settled_17 : decode cX8_settled 17 = .ok (.getfield 93, 3) := by decide +kernel
theorem dX8_settled_20 : decode cX8_settled 20 = .ok (.iload_n 1, 1) := by decide +kernel
theorem dX8_settled_21 : decode cX8_settled 21 = .ok (.iaload, 1) := by decide +kernel
theorem dX8_settled_22 : decode cX8_settled 22 = .ok (.iload_n 1, 1) := by decide +kernel
theorem dX8_settled_23 : decode cX8_settled 23 = .ok (.if_icmp .eq 7, 3) := by decide +kernel
theorem dX8_settled_26 : decode cX8_settled 26 = .ok (.ldc2_w 396, 3) := by decide +kernel
theorem dX8_settled_29 : decode cX8_settled 29 = .ok (.lreturn, 1) := by decide +kernel
theorem dX8_settled_30 : decode cX8_settled 30 = .ok (.aload_n 0, 1) := by decide +kernel
theorem dX8_settled_31 : decode cX8_settled 31 = .ok (.getfield 96, 3) := by decide +kernel
theorem dX8_settled_34 : decode cX8_settled 34 = .ok (.iload_n 1, 1) := by decide +kernel
theorem dX8_settled_35 : decode cX8_settled 35 = .ok (.iaload, 1) := by decide +kernel
theorem dX8_settled_36 : decode cX8_settled 36 = .ok (.istore_n 2, 1) := by decide +kernel
theorem dX8_settled_37 : decode cX8_settled 37 = .ok (.aload_n 0, 1) := by decide +kernel
theorem dX8_settled_38 : decode cX8_settled 38 = .ok (.getfield 99, 3) := by decide +kernel
theorem dX8_settled_41 : decode cX8_settled 41 = .ok (.iload_n 1, 1) := by decide +kernel
theorem dX8_settled_42 : decode cX8_settled 42 = .ok (.iaload, 1) := by decide +kernel
theorem dX8_settled_43 : decode cX8_settled 43 = .ok (.istore_n 3, 1) := by decide +kernel
theorem dX8_settled_44 : decode cX8_settled 44 = .ok (.aload_n 0, 1) := by decide +kernel
theorem dX8_settled_45 : decode cX8_settled 45 = .ok (.iload_n 1, 1) := by decide +kernel
theorem dX8_settled_46 : decode cX8_settled 46 = .ok (.invokevirtual 361, 3) := by decide +kernel
theorem dX8_settled_49 : decode cX8_settled 49 = .ok (.ifCond .le 11, 3) := by decide +kernel
theorem dX8_settled_52 : decode cX8_settled 52 = .ok (.aload_n 0, 1) := by decide +kernel
theorem dX8_settled_53 : decode cX8_settled 53 = .ok (.iload_n 1, 1) := by decide +kernel
theorem dX8_settled_54 : decode cX8_settled 54 = .ok (.invokevirtual 361, 3) := by decide +kernel
theorem dX8_settled_57 : decode cX8_settled 57 = .ok (.ineg, 1) := by decide +kernel
theorem dX8_settled_58 : decode cX8_settled 58 = .ok (.i2l, 1) := by decide +kernel
theorem dX8_settled_59 : decode cX8_settled 59 = .ok (.lreturn, 1) := by decide +kernel
theorem dX8_settled_60 : decode cX8_settled 60 = .ok (.aload_n 0, 1) := by decide +kernel
theorem dX8_settled_61 : decode cX8_settled 61 = .ok (.iload_n 2, 1) := by decide +kernel
theorem dX8_settled_62 : decode cX8_settled 62 = .ok (.invokevirtual 361, 3) := by decide +kernel
theorem dX8_settled_65 : decode cX8_settled 65 = .ok (.ifCond .le 11, 3) := by decide +kernel
theorem dX8_settled_68 : decode cX8_settled 68 = .ok (.aload_n 0, 1) := by decide +kernel
theorem dX8_settled_69 : decode cX8_settled 69 = .ok (.iload_n 2, 1) := by decide +kernel
theorem dX8_settled_70 : decode cX8_settled 70 = .ok (.invokevirtual 361, 3) := by decide +kernel
theorem dX8_settled_73 : decode cX8_settled 73 = .ok (.ineg, 1) := by decide +kernel
theorem dX8_settled_74 : decode cX8_settled 74 = .ok (.i2l, 1) := by decide +kernel
theorem dX8_settled_75 : decode cX8_settled 75 = .ok (.lreturn, 1) := by decide +kernel
theorem dX8_settled_76 : decode cX8_settled 76 = .ok (.aload_n 0, 1) := by decide +kernel
theorem dX8_settled_77 : decode cX8_settled 77 = .ok (.iload_n 3, 1) := by decide +kernel
theorem dX8_settled_78 : decode cX8_settled 78 = .ok (.invokevirtual 361, 3) := by decide +kernel
theorem dX8_settled_81 : decode cX8_settled 81 = .ok (.ifCond .le 11, 3) := by decide +kernel
theorem dX8_settled_84 : decode cX8_settled 84 = .ok (.aload_n 0, 1) := by decide +kernel
theorem dX8_settled_85 : decode cX8_settled 85 = .ok (.iload_n 3, 1) := by decide +kernel
theorem dX8_settled_86 : decode cX8_settled 86 = .ok (.invokevirtual 361, 3) := by decide +kernel
theorem dX8_settled_89 : decode cX8_settled 89 = .ok (.ineg, 1) := by decide +kernel
theorem dX8_settled_90 : decode cX8_settled 90 = .ok (.i2l, 1) := by decide +kernel
theorem dX8_settled_91 : decode cX8_settled 91 = .ok (.lreturn, 1) := by decide +kernel
theorem dX8_settled_92 : decode cX8_settled 92 = .ok (.aload_n 0, 1) := by decide +kernel
theorem dX8_settled_93 : decode cX8_settled 93 = .ok (.iload_n 1, 1) := by decide +kernel
theorem dX8_settled_94 : decode cX8_settled 94 = .ok (.invokevirtual 415, 3) := by decide +kernel
theorem dX8_settled_97 : decode cX8_settled 97 = .ok (.lstore 4, 2) := by decide +kernel
theorem dX8_settled_99 : decode cX8_settled 99 = .ok (.aload_n 0, 1) := by decide +kernel
theorem dX8_settled_100 : decode cX8_settled 100 = .ok (.iload_n 2, 1) := by decide +kernel
theorem dX8_settled_101 : decode cX8_settled 101 = .ok (.invokevirtual 415, 3) := by decide +kernel
theorem dX8_settled_104 : decode cX8_settled 104 = .ok (.lstore 6, 2) := by decide +kernel
theorem dX8_settled_106 : decode cX8_settled 106 = .ok (.aload_n 0, 1) := by decide +kernel
theorem dX8_settled_107 : decode cX8_settled 107 = .ok (.iload_n 3, 1) := by decide +kernel
theorem dX8_settled_108 : decode cX8_settled 108 = .ok (.invokevirtual 415, 3) := by decide +kernel
theorem dX8_settled_111 : decode cX8_settled 111 = .ok (.lstore 8, 2) := by decide +kernel
theorem dX8_settled_113 : decode cX8_settled 113 = .ok (.lload 4, 2) := by decide +kernel
theorem dX8_settled_115 : decode cX8_settled 115 = .ok (.lconst 0, 1) := by decide +kernel
theorem dX8_settled_116 : decode cX8_settled 116 = .ok (.lcmp, 1) := by decide +kernel
theorem dX8_settled_117 : decode cX8_settled 117 = .ok (.ifCond .lt 40, 3) := by decide +kernel
theorem dX8_settled_120 : decode cX8_settled 120 = .ok (.lload 4, 2) := by decide +kernel
theorem dX8_settled_122 : decode cX8_settled 122 = .ok (.lload 6, 2) := by decide +kernel
theorem dX8_settled_124 : decode cX8_settled 124 = .ok (.lconst 0, 1) := by decide +kernel
theorem dX8_settled_125 : decode cX8_settled 125 = .ok (.lcmp, 1) := by decide +kernel
theorem dX8_settled_126 : decode cX8_settled 126 = .ok (.ifCond .le 8, 3) := by decide +kernel
theorem dX8_settled_129 : decode cX8_settled 129 = .ok (.lload 6, 2) := by decide +kernel
theorem dX8_settled_131 : decode cX8_settled 131 = .ok (.goto 4, 3) := by decide +kernel
theorem dX8_settled_134 : decode cX8_settled 134 = .ok (.lconst 0, 1) := by decide +kernel
theorem dX8_settled_135 : decode cX8_settled 135 = .ok (.lload 8, 2) := by decide +kernel
theorem dX8_settled_137 : decode cX8_settled 137 = .ok (.lconst 0, 1) := by decide +kernel
theorem dX8_settled_138 : decode cX8_settled 138 = .ok (.lcmp, 1) := by decide +kernel
theorem dX8_settled_139 : decode cX8_settled 139 = .ok (.ifCond .le 8, 3) := by decide +kernel
theorem dX8_settled_142 : decode cX8_settled 142 = .ok (.lload 8, 2) := by decide +kernel
theorem dX8_settled_144 : decode cX8_settled 144 = .ok (.goto 4, 3) := by decide +kernel
theorem dX8_settled_147 : decode cX8_settled 147 = .ok (.lconst 0, 1) := by decide +kernel
theorem dX8_settled_148 : decode cX8_settled 148 = .ok (.ladd, 1) := by decide +kernel
theorem dX8_settled_149 : decode cX8_settled 149 = .ok (.lcmp, 1) := by decide +kernel
theorem dX8_settled_150 : decode cX8_settled 150 = .ok (.ifCond .le 7, 3) := by decide +kernel
theorem dX8_settled_153 : decode cX8_settled 153 = .ok (.iconst 1, 1) := by decide +kernel
theorem dX8_settled_154 : decode cX8_settled 154 = .ok (.goto 4, 3) := by decide +kernel
theorem dX8_settled_157 : decode cX8_settled 157 = .ok (.iconst 0, 1) := by decide +kernel
theorem dX8_settled_158 : decode cX8_settled 158 = .ok (.istore 10, 2) := by decide +kernel
theorem dX8_settled_160 : decode cX8_settled 160 = .ok (.iload 10, 2) := by decide +kernel
theorem dX8_settled_162 : decode cX8_settled 162 = .ok (.ifCond .ne 14, 3) := by decide +kernel
theorem dX8_settled_165 : decode cX8_settled 165 = .ok (.lload 6, 2) := by decide +kernel
theorem dX8_settled_167 : decode cX8_settled 167 = .ok (.lconst 0, 1) := by decide +kernel
theorem dX8_settled_168 : decode cX8_settled 168 = .ok (.lcmp, 1) := by decide +kernel
theorem dX8_settled_169 : decode cX8_settled 169 = .ok (.ifCond .lt 7, 3) := by decide +kernel
theorem dX8_settled_172 : decode cX8_settled 172 = .ok (.iconst 1, 1) := by decide +kernel
theorem dX8_settled_173 : decode cX8_settled 173 = .ok (.goto 4, 3) := by decide +kernel
theorem dX8_settled_176 : decode cX8_settled 176 = .ok (.iconst 0, 1) := by decide +kernel
theorem dX8_settled_177 : decode cX8_settled 177 = .ok (.istore 11, 2) := by decide +kernel
theorem dX8_settled_179 : decode cX8_settled 179 = .ok (.iload 10, 2) := by decide +kernel
theorem dX8_settled_181 : decode cX8_settled 181 = .ok (.ifCond .ne 14, 3) := by decide +kernel
theorem dX8_settled_184 : decode cX8_settled 184 = .ok (.lload 8, 2) := by decide +kernel
theorem dX8_settled_186 : decode cX8_settled 186 = .ok (.lconst 0, 1) := by decide +kernel
theorem dX8_settled_187 : decode cX8_settled 187 = .ok (.lcmp, 1) := by decide +kernel
theorem dX8_settled_188 : decode cX8_settled 188 = .ok (.ifCond .lt 7, 3) := by decide +kernel
theorem dX8_settled_191 : decode cX8_settled 191 = .ok (.iconst 1, 1) := by decide +kernel
theorem dX8_settled_192 : decode cX8_settled 192 = .ok (.goto 4, 3) := by decide +kernel
theorem dX8_settled_195 : decode cX8_settled 195 = .ok (.iconst 0, 1) := by decide +kernel
theorem dX8_settled_196 : decode cX8_settled 196 = .ok (.istore 12, 2) := by decide +kernel
theorem dX8_settled_198 : decode cX8_settled 198 = .ok (.iload 10, 2) := by decide +kernel
theorem dX8_settled_200 : decode cX8_settled 200 = .ok (.ifCond .eq 11, 3) := by decide +kernel
theorem dX8_settled_203 : decode cX8_settled 203 = .ok (.aload_n 0, 1) := by decide +kernel
theorem dX8_settled_204 : decode cX8_settled 204 = .ok (.iload_n 1, 1) := by decide +kernel
theorem dX8_settled_205 : decode cX8_settled 205 = .ok (.invokevirtual 324, 3) := by decide +kernel
theorem dX8_settled_208 : decode cX8_settled 208 = .ok (.goto 4, 3) := by decide +kernel
theorem dX8_settled_211 : decode cX8_settled 211 = .ok (.lconst 0, 1) := by decide +kernel
theorem dX8_settled_212 : decode cX8_settled 212 = .ok (.lstore 13, 2) := by decide +kernel
theorem dX8_settled_214 : decode cX8_settled 214 = .ok (.iload 10, 2) := by decide +kernel
theorem dX8_settled_216 : decode cX8_settled 216 = .ok (.ifCond .eq 16, 3) := by decide +kernel
theorem dX8_settled_219 : decode cX8_settled 219 = .ok (.aload_n 0, 1) := by decide +kernel
theorem dX8_settled_220 : decode cX8_settled 220 = .ok (.getfield 41, 3) := by decide +kernel
theorem dX8_settled_223 : decode cX8_settled 223 = .ok (.iload_n 1, 1) := by decide +kernel
theorem dX8_settled_224 : decode cX8_settled 224 = .ok (.iaload, 1) := by decide +kernel
theorem dX8_settled_225 : decode cX8_settled 225 = .ok (.ifCond .ne 7, 3) := by decide +kernel
theorem dX8_settled_228 : decode cX8_settled 228 = .ok (.ldc2_w 410, 3) := by decide +kernel
theorem dX8_settled_231 : decode cX8_settled 231 = .ok (.lreturn, 1) := by decide +kernel
theorem dX8_settled_232 : decode cX8_settled 232 = .ok (.iload 11, 2) := by decide +kernel
theorem dX8_settled_234 : decode cX8_settled 234 = .ok (.ifCond .eq 11, 3) := by decide +kernel
theorem dX8_settled_237 : decode cX8_settled 237 = .ok (.aload_n 0, 1) := by decide +kernel
theorem dX8_settled_238 : decode cX8_settled 238 = .ok (.iload_n 2, 1) := by decide +kernel
theorem dX8_settled_239 : decode cX8_settled 239 = .ok (.invokevirtual 324, 3) := by decide +kernel
theorem dX8_settled_242 : decode cX8_settled 242 = .ok (.goto 4, 3) := by decide +kernel
theorem dX8_settled_245 : decode cX8_settled 245 = .ok (.lconst 0, 1) := by decide +kernel
theorem dX8_settled_246 : decode cX8_settled 246 = .ok (.lstore 15, 2) := by decide +kernel
theorem dX8_settled_248 : decode cX8_settled 248 = .ok (.iload 11, 2) := by decide +kernel
theorem dX8_settled_250 : decode cX8_settled 250 = .ok (.ifCond .eq 16, 3) := by decide +kernel
theorem dX8_settled_253 : decode cX8_settled 253 = .ok (.aload_n 0, 1) := by decide +kernel
theorem dX8_settled_254 : decode cX8_settled 254 = .ok (.getfield 41, 3) := by decide +kernel
theorem dX8_settled_257 : decode cX8_settled 257 = .ok (.iload_n 2, 1) := by decide +kernel
theorem dX8_settled_258 : decode cX8_settled 258 = .ok (.iaload, 1) := by decide +kernel
theorem dX8_settled_259 : decode cX8_settled 259 = .ok (.ifCond .ne 7, 3) := by decide +kernel
theorem dX8_settled_262 : decode cX8_settled 262 = .ok (.ldc2_w 410, 3) := by decide +kernel
theorem dX8_settled_265 : decode cX8_settled 265 = .ok (.lreturn, 1) := by decide +kernel
theorem dX8_settled_266 : decode cX8_settled 266 = .ok (.iload 12, 2) := by decide +kernel
theorem dX8_settled_268 : decode cX8_settled 268 = .ok (.ifCond .eq 11, 3) := by decide +kernel
theorem dX8_settled_271 : decode cX8_settled 271 = .ok (.aload_n 0, 1) := by decide +kernel
theorem dX8_settled_272 : decode cX8_settled 272 = .ok (.iload_n 3, 1) := by decide +kernel
theorem dX8_settled_273 : decode cX8_settled 273 = .ok (.invokevirtual 324, 3) := by decide +kernel
theorem dX8_settled_276 : decode cX8_settled 276 = .ok (.goto 4, 3) := by decide +kernel
theorem dX8_settled_279 : decode cX8_settled 279 = .ok (.lconst 0, 1) := by decide +kernel
theorem dX8_settled_280 : decode cX8_settled 280 = .ok (.lstore 17, 2) := by decide +kernel
theorem dX8_settled_282 : decode cX8_settled 282 = .ok (.iload 12, 2) := by decide +kernel
theorem dX8_settled_284 : decode cX8_settled 284 = .ok (.ifCond .eq 16, 3) := by decide +kernel
theorem dX8_settled_287 : decode cX8_settled 287 = .ok (.aload_n 0, 1) := by decide +kernel
theorem dX8_settled_288 : decode cX8_settled 288 = .ok (.getfield 41, 3) := by decide +kernel
theorem dX8_settled_291 : decode cX8_settled 291 = .ok (.iload_n 3, 1) := by decide +kernel
theorem dX8_settled_292 : decode cX8_settled 292 = .ok (.iaload, 1) := by decide +kernel
theorem dX8_settled_293 : decode cX8_settled 293 = .ok (.ifCond .ne 7, 3) := by decide +kernel
theorem dX8_settled_296 : decode cX8_settled 296 = .ok (.ldc2_w 410, 3) := by decide +kernel
theorem dX8_settled_299 : decode cX8_settled 299 = .ok (.lreturn, 1) := by decide +kernel
theorem dX8_settled_300 : decode cX8_settled 300 = .ok (.aload_n 0, 1) := by decide +kernel
theorem dX8_settled_301 : decode cX8_settled 301 = .ok (.getfield 32, 3) := by decide +kernel
theorem dX8_settled_304 : decode cX8_settled 304 = .ok (.iload_n 1, 1) := by decide +kernel
theorem dX8_settled_305 : decode cX8_settled 305 = .ok (.iconst 3, 1) := by decide +kernel
theorem dX8_settled_306 : decode cX8_settled 306 = .ok (.iastore, 1) := by decide +kernel
theorem dX8_settled_307 : decode cX8_settled 307 = .ok (.aload_n 0, 1) := by decide +kernel
theorem dX8_settled_308 : decode cX8_settled 308 = .ok (.getfield 32, 3) := by decide +kernel
theorem dX8_settled_311 : decode cX8_settled 311 = .ok (.iload_n 2, 1) := by decide +kernel
theorem dX8_settled_312 : decode cX8_settled 312 = .ok (.iconst 3, 1) := by decide +kernel
theorem dX8_settled_313 : decode cX8_settled 313 = .ok (.iastore, 1) := by decide +kernel
theorem dX8_settled_314 : decode cX8_settled 314 = .ok (.aload_n 0, 1) := by decide +kernel
theorem dX8_settled_315 : decode cX8_settled 315 = .ok (.getfield 32, 3) := by decide +kernel
theorem dX8_settled_318 : decode cX8_settled 318 = .ok (.iload_n 3, 1) := by decide +kernel
theorem dX8_settled_319 : decode cX8_settled 319 = .ok (.iconst 3, 1) := by decide +kernel
theorem dX8_settled_320 : decode cX8_settled 320 = .ok (.iastore, 1) := by decide +kernel
theorem dX8_settled_321 : decode cX8_settled 321 = .ok (.lconst 0, 1) := by decide +kernel
theorem dX8_settled_322 : decode cX8_settled 322 = .ok (.lstore 19, 2) := by decide +kernel
theorem dX8_settled_324 : decode cX8_settled 324 = .ok (.iload 10, 2) := by decide +kernel
theorem dX8_settled_326 : decode cX8_settled 326 = .ok (.ifCond .eq 15, 3) := by decide +kernel
theorem dX8_settled_329 : decode cX8_settled 329 = .ok (.lload 19, 2) := by decide +kernel
theorem dX8_settled_331 : decode cX8_settled 331 = .ok (.aload_n 0, 1) := by decide +kernel
theorem dX8_settled_332 : decode cX8_settled 332 = .ok (.iload_n 1, 1) := by decide +kernel
theorem dX8_settled_333 : decode cX8_settled 333 = .ok (.lload 13, 2) := by decide +kernel
theorem dX8_settled_335 : decode cX8_settled 335 = .ok (.invokevirtual 412, 3) := by decide +kernel
theorem dX8_settled_338 : decode cX8_settled 338 = .ok (.ladd, 1) := by decide +kernel
theorem dX8_settled_339 : decode cX8_settled 339 = .ok (.lstore 19, 2) := by decide +kernel
theorem dX8_settled_341 : decode cX8_settled 341 = .ok (.iload 11, 2) := by decide +kernel
theorem dX8_settled_343 : decode cX8_settled 343 = .ok (.ifCond .eq 15, 3) := by decide +kernel
theorem dX8_settled_346 : decode cX8_settled 346 = .ok (.lload 19, 2) := by decide +kernel
theorem dX8_settled_348 : decode cX8_settled 348 = .ok (.aload_n 0, 1) := by decide +kernel
theorem dX8_settled_349 : decode cX8_settled 349 = .ok (.iload_n 2, 1) := by decide +kernel
theorem dX8_settled_350 : decode cX8_settled 350 = .ok (.lload 15, 2) := by decide +kernel
theorem dX8_settled_352 : decode cX8_settled 352 = .ok (.invokevirtual 412, 3) := by decide +kernel
theorem dX8_settled_355 : decode cX8_settled 355 = .ok (.ladd, 1) := by decide +kernel
theorem dX8_settled_356 : decode cX8_settled 356 = .ok (.lstore 19, 2) := by decide +kernel
theorem dX8_settled_358 : decode cX8_settled 358 = .ok (.iload 12, 2) := by decide +kernel
theorem dX8_settled_360 : decode cX8_settled 360 = .ok (.ifCond .eq 15, 3) := by decide +kernel
theorem dX8_settled_363 : decode cX8_settled 363 = .ok (.lload 19, 2) := by decide +kernel
theorem dX8_settled_365 : decode cX8_settled 365 = .ok (.aload_n 0, 1) := by decide +kernel
theorem dX8_settled_366 : decode cX8_settled 366 = .ok (.iload_n 3, 1) := by decide +kernel
theorem dX8_settled_367 : decode cX8_settled 367 = .ok (.lload 17, 2) := by decide +kernel
theorem dX8_settled_369 : decode cX8_settled 369 = .ok (.invokevirtual 412, 3) := by decide +kernel
theorem dX8_settled_372 : decode cX8_settled 372 = .ok (.ladd, 1) := by decide +kernel
theorem dX8_settled_373 : decode cX8_settled 373 = .ok (.lstore 19, 2) := by decide +kernel
theorem dX8_settled_375 : decode cX8_settled 375 = .ok (.lload 19, 2) := by decide +kernel
theorem dX8_settled_377 : decode cX8_settled 377 = .ok (.lreturn, 1) := by decide +kernel
theorem sc_X8_settled_X8_noLot : ym_site g_X8_settled g_X8_noLot 5 1 1 := ⟨by decide, by decide, wd_1058, wd_83, by decide +kernel⟩
theorem sc_X8_settled_X8_notOpen : ym_site g_X8_settled g_X8_notOpen 5 1 1 := ⟨by decide, by decide, wd_1130, wd_83, by decide +kernel⟩
theorem sc_X8_settled_X8_wouldBring : ym_site g_X8_settled g_X8_wouldBring 5 4 1 := ⟨by decide, by decide, wd_1224, wd_83, by decide +kernel⟩
theorem sc_X8_settled_X8_sell : ym_site g_X8_settled g_X8_sell 5 3 2 := ⟨by decide, by decide, wd_1204, wd_83, by decide +kernel⟩
def bl_X8_settled_358 (N : Nat) (w0 : Option Nat) (w3 : Int32) (w12 : Int32) (w17 : Int64) (w19 : Int64) (h : ym_H) : Option (Int64 × ym_H) :=
  if w12 = 0 then
    some (w19, h)
  else
    Option.bind (ym_ob h w0 8) fun o369 =>
    Option.bind (fn_X8_sell N w0 w3 w17 h) fun q369 =>
    some ((w19 + q369.1), q369.2)
set_option maxRecDepth 20000 in
set_option maxHeartbeats 4000000 in
theorem ob_X8_settled_358 {D : ym_D} {b0 : Nat} {N : Nat} {w0 : Option Nat} {w3 : Int32} {w12 : Int32} {w17 : Int64} {w19 : Int64} {h h' : ym_H} {r : Int64} (hf : bl_X8_settled_358 N w0 w3 w12 w17 w19 h = some (r, h')) : ym_Y D b0 g_X8_settled 5 358 [(0, va_rf w0), (3, .int w3), (12, .int w12), (17, .long w17), (19, .long w19)] [] h (some (.long r)) h' := by
  unfold bl_X8_settled_358 at hf
  refine ym_iload (pc := 358) 2 dX8_settled_358 rfl ?_
  by_cases c360 : w12 = 0
  · rw [if_pos c360] at hf
    refine ym_if_eq_y (pc := 360) (tgt := 375) dX8_settled_360 (by decide) c360 ?_
    refine ym_lload (pc := 375) 4 dX8_settled_375 rfl ?_
    cases hf
    exact ym_lret (pc := 377) dX8_settled_377 rfl
  · rw [if_neg c360] at hf
    refine ym_if_eq_n (pc := 360) (tgt := 375) dX8_settled_360 (by decide) c360 ?_
    refine ym_lload (pc := 363) 4 dX8_settled_363 rfl ?_
    refine ym_aload_n (pc := 365) 0 dX8_settled_365 rfl rfl ?_
    refine ym_iload_n (pc := 366) 1 dX8_settled_366 rfl rfl ?_
    refine ym_lload (pc := 367) 3 dX8_settled_367 rfl ?_
    obtain ⟨o369, f369, hf⟩ := Option.bind_eq_some_iff.mp hf
    obtain ⟨q369, e369, hf⟩ := Option.bind_eq_some_iff.mp hf
    refine ym_callV (pc := 369) (G2 := g_X8_sell) (dep2 := 3) (As := [.int w3, .long w17]) (st := [.long w19]) (stk2 := [.long q369.1, .long w19]) (r2 := (some (.long q369.1))) (h1 := q369.2) dX8_settled_369 (ok_X8_sell e369) (sc_X8_settled_X8_sell) wd_1201 wd_1203 wd_58 (ci := 8) (q0 := (RX8, TX8, 58)) rfl (by decide) rfl f369 rfl rfl (ym_st4 (Nat.le_of_ble_eq_true rfl)) rfl ?_
    refine ym_ladd (pc := 372) dX8_settled_372 ?_
    refine ym_sub (lv' := []) [] rfl ?_
    refine ym_lstore (pc := 373) (lv' := [(19, .long (w19 + q369.1))]) dX8_settled_373 (by decide) trivial rfl ?_
    refine ym_lload (pc := 375) 0 dX8_settled_375 rfl ?_
    cases hf
    exact ym_lret (pc := 377) dX8_settled_377 rfl
def bl_X8_settled_341 (N : Nat) (w0 : Option Nat) (w2 : Int32) (w3 : Int32) (w11 : Int32) (w12 : Int32) (w15 : Int64) (w17 : Int64) (w19 : Int64) (h : ym_H) : Option (Int64 × ym_H) :=
  if w11 = 0 then
    bl_X8_settled_358 N w0 w3 w12 w17 w19 h
  else
    Option.bind (ym_ob h w0 8) fun o352 =>
    Option.bind (fn_X8_sell N w0 w2 w15 h) fun q352 =>
    bl_X8_settled_358 N w0 w3 w12 w17 (w19 + q352.1) q352.2
set_option maxRecDepth 20000 in
set_option maxHeartbeats 4000000 in
theorem ob_X8_settled_341 {D : ym_D} {b0 : Nat} {N : Nat} {w0 : Option Nat} {w2 : Int32} {w3 : Int32} {w11 : Int32} {w12 : Int32} {w15 : Int64} {w17 : Int64} {w19 : Int64} {h h' : ym_H} {r : Int64} (hf : bl_X8_settled_341 N w0 w2 w3 w11 w12 w15 w17 w19 h = some (r, h')) : ym_Y D b0 g_X8_settled 5 341 [(0, va_rf w0), (2, .int w2), (3, .int w3), (11, .int w11), (12, .int w12), (15, .long w15), (17, .long w17), (19, .long w19)] [] h (some (.long r)) h' := by
  unfold bl_X8_settled_341 at hf
  refine ym_iload (pc := 341) 3 dX8_settled_341 rfl ?_
  by_cases c343 : w11 = 0
  · rw [if_pos c343] at hf
    refine ym_if_eq_y (pc := 343) (tgt := 358) dX8_settled_343 (by decide) c343 ?_
    exact ym_sub [0, 2, 4, 6, 7] rfl (ob_X8_settled_358 hf)
  · rw [if_neg c343] at hf
    refine ym_if_eq_n (pc := 343) (tgt := 358) dX8_settled_343 (by decide) c343 ?_
    refine ym_lload (pc := 346) 7 dX8_settled_346 rfl ?_
    refine ym_aload_n (pc := 348) 0 dX8_settled_348 rfl rfl ?_
    refine ym_iload_n (pc := 349) 1 dX8_settled_349 rfl rfl ?_
    refine ym_lload (pc := 350) 5 dX8_settled_350 rfl ?_
    obtain ⟨o352, f352, hf⟩ := Option.bind_eq_some_iff.mp hf
    obtain ⟨q352, e352, hf⟩ := Option.bind_eq_some_iff.mp hf
    refine ym_callV (pc := 352) (G2 := g_X8_sell) (dep2 := 3) (As := [.int w2, .long w15]) (st := [.long w19]) (stk2 := [.long q352.1, .long w19]) (r2 := (some (.long q352.1))) (h1 := q352.2) dX8_settled_352 (ok_X8_sell e352) (sc_X8_settled_X8_sell) wd_1201 wd_1203 wd_58 (ci := 8) (q0 := (RX8, TX8, 58)) rfl (by decide) rfl f352 rfl rfl (ym_st4 (Nat.le_of_ble_eq_true rfl)) rfl ?_
    refine ym_ladd (pc := 355) dX8_settled_355 ?_
    refine ym_sub (lv' := [(0, va_rf w0), (3, .int w3), (12, .int w12), (17, .long w17)]) [0, 2, 4, 6] rfl ?_
    refine ym_lstore (pc := 356) (lv' := [(19, .long (w19 + q352.1)), (0, va_rf w0), (3, .int w3), (12, .int w12), (17, .long w17)]) dX8_settled_356 (by decide) ⟨trivial, trivial, trivial, trivial, trivial⟩ rfl ?_
    exact ym_sub [1, 2, 3, 4, 0] rfl (ob_X8_settled_358 hf)
def bl_X8_settled_300 (N : Nat) (w0 : Option Nat) (w1 : Int32) (w2 : Int32) (w3 : Int32) (w10 : Int32) (w11 : Int32) (w12 : Int32) (w13 : Int64) (w15 : Int64) (w17 : Int64) (h : ym_H) : Option (Int64 × ym_H) :=
  Option.bind (ym_gR h w0 8 9) fun v301 =>
  Option.bind (ym_as h v301 0 w1 (.int 3)) fun h306 =>
  Option.bind (ym_gR h306 w0 8 9) fun v308 =>
  Option.bind (ym_as h306 v308 0 w2 (.int 3)) fun h313 =>
  Option.bind (ym_gR h313 w0 8 9) fun v315 =>
  Option.bind (ym_as h313 v315 0 w3 (.int 3)) fun h320 =>
  if w10 = 0 then
    bl_X8_settled_341 N w0 w2 w3 w11 w12 w15 w17 0 h320
  else
    Option.bind (ym_ob h320 w0 8) fun o335 =>
    Option.bind (fn_X8_sell N w0 w1 w13 h320) fun q335 =>
    bl_X8_settled_341 N w0 w2 w3 w11 w12 w15 w17 (0 + q335.1) q335.2
set_option maxRecDepth 20000 in
set_option maxHeartbeats 4000000 in
theorem ob_X8_settled_300 {D : ym_D} {b0 : Nat} {N : Nat} {w0 : Option Nat} {w1 : Int32} {w2 : Int32} {w3 : Int32} {w10 : Int32} {w11 : Int32} {w12 : Int32} {w13 : Int64} {w15 : Int64} {w17 : Int64} {h h' : ym_H} {r : Int64} (hf : bl_X8_settled_300 N w0 w1 w2 w3 w10 w11 w12 w13 w15 w17 h = some (r, h')) : ym_Y D b0 g_X8_settled 5 300 [(0, va_rf w0), (1, .int w1), (2, .int w2), (3, .int w3), (10, .int w10), (11, .int w11), (12, .int w12), (13, .long w13), (15, .long w15), (17, .long w17)] [] h (some (.long r)) h' := by
  unfold bl_X8_settled_300 at hf
  refine ym_aload_n (pc := 300) 0 dX8_settled_300 rfl rfl ?_
  obtain ⟨v301, e301, hf⟩ := Option.bind_eq_some_iff.mp hf
  refine ym_get (pc := 301) dX8_settled_301 rfl (by decide) iX8 (k := 9) (by decide) wd_854 (ym_gR_v e301) ?_
  refine ym_iload_n (pc := 304) 1 dX8_settled_304 rfl rfl ?_
  refine ym_iconst (pc := 305) (v := 3) dX8_settled_305 (by decide) ?_
  obtain ⟨h306, e306, hf⟩ := Option.bind_eq_some_iff.mp hf
  refine ym_iast (pc := 306) dX8_settled_306 rfl e306 ?_
  refine ym_aload_n (pc := 307) 0 dX8_settled_307 rfl rfl ?_
  obtain ⟨v308, e308, hf⟩ := Option.bind_eq_some_iff.mp hf
  refine ym_get (pc := 308) dX8_settled_308 rfl (by decide) iX8 (k := 9) (by decide) wd_854 (ym_gR_v e308) ?_
  refine ym_iload_n (pc := 311) 2 dX8_settled_311 rfl rfl ?_
  refine ym_iconst (pc := 312) (v := 3) dX8_settled_312 (by decide) ?_
  obtain ⟨h313, e313, hf⟩ := Option.bind_eq_some_iff.mp hf
  refine ym_iast (pc := 313) dX8_settled_313 rfl e313 ?_
  refine ym_aload_n (pc := 314) 0 dX8_settled_314 rfl rfl ?_
  obtain ⟨v315, e315, hf⟩ := Option.bind_eq_some_iff.mp hf
  refine ym_get (pc := 315) dX8_settled_315 rfl (by decide) iX8 (k := 9) (by decide) wd_854 (ym_gR_v e315) ?_
  refine ym_iload_n (pc := 318) 3 dX8_settled_318 rfl rfl ?_
  refine ym_iconst (pc := 319) (v := 3) dX8_settled_319 (by decide) ?_
  obtain ⟨h320, e320, hf⟩ := Option.bind_eq_some_iff.mp hf
  refine ym_iast (pc := 320) dX8_settled_320 rfl e320 ?_
  refine ym_lconst (pc := 321) (v := 0) dX8_settled_321 (by decide) ?_
  refine ym_lstore (pc := 322) (lv' := [(19, .long 0), (0, va_rf w0), (1, .int w1), (2, .int w2), (3, .int w3), (10, .int w10), (11, .int w11), (12, .int w12), (13, .long w13), (15, .long w15), (17, .long w17)]) dX8_settled_322 (by decide) ⟨trivial, trivial, trivial, trivial, trivial, trivial, trivial, trivial, trivial, trivial, trivial⟩ rfl ?_
  refine ym_iload (pc := 324) 5 dX8_settled_324 rfl ?_
  by_cases c326 : w10 = 0
  · rw [if_pos c326] at hf
    refine ym_if_eq_y (pc := 326) (tgt := 341) dX8_settled_326 (by decide) c326 ?_
    exact ym_sub [1, 3, 4, 6, 7, 9, 10, 0] rfl (ob_X8_settled_341 hf)
  · rw [if_neg c326] at hf
    refine ym_if_eq_n (pc := 326) (tgt := 341) dX8_settled_326 (by decide) c326 ?_
    refine ym_lload (pc := 329) 0 dX8_settled_329 rfl ?_
    refine ym_aload_n (pc := 331) 1 dX8_settled_331 rfl rfl ?_
    refine ym_iload_n (pc := 332) 2 dX8_settled_332 rfl rfl ?_
    refine ym_lload (pc := 333) 8 dX8_settled_333 rfl ?_
    obtain ⟨o335, f335, hf⟩ := Option.bind_eq_some_iff.mp hf
    obtain ⟨q335, e335, hf⟩ := Option.bind_eq_some_iff.mp hf
    refine ym_callV (pc := 335) (G2 := g_X8_sell) (dep2 := 3) (As := [.int w1, .long w13]) (st := [.long 0]) (stk2 := [.long q335.1, .long 0]) (r2 := (some (.long q335.1))) (h1 := q335.2) dX8_settled_335 (ok_X8_sell e335) (sc_X8_settled_X8_sell) wd_1201 wd_1203 wd_58 (ci := 8) (q0 := (RX8, TX8, 58)) rfl (by decide) rfl f335 rfl rfl (ym_st4 (Nat.le_of_ble_eq_true rfl)) rfl ?_
    refine ym_ladd (pc := 338) dX8_settled_338 ?_
    refine ym_sub (lv' := [(0, va_rf w0), (2, .int w2), (3, .int w3), (11, .int w11), (12, .int w12), (15, .long w15), (17, .long w17)]) [1, 3, 4, 6, 7, 9, 10] rfl ?_
    refine ym_lstore (pc := 339) (lv' := [(19, .long (0 + q335.1)), (0, va_rf w0), (2, .int w2), (3, .int w3), (11, .int w11), (12, .int w12), (15, .long w15), (17, .long w17)]) dX8_settled_339 (by decide) ⟨trivial, trivial, trivial, trivial, trivial, trivial, trivial, trivial⟩ rfl ?_
    exact ym_sub [1, 2, 3, 4, 5, 6, 7, 0] rfl (ob_X8_settled_341 hf)
def bl_X8_settled_280 (N : Nat) (w0 : Option Nat) (w1 : Int32) (w2 : Int32) (w3 : Int32) (w10 : Int32) (w11 : Int32) (w12 : Int32) (w13 : Int64) (w15 : Int64) (s0 : Int64) (h : ym_H) : Option (Int64 × ym_H) :=
  if w12 = 0 then
    bl_X8_settled_300 N w0 w1 w2 w3 w10 w11 w12 w13 w15 s0 h
  else
    Option.bind (ym_gR h w0 8 12) fun v288 =>
    Option.bind (ym_ldI h v288 w3) fun v292 =>
    if v292 = 0 then
      some ((-5), h)
    else
      bl_X8_settled_300 N w0 w1 w2 w3 w10 w11 w12 w13 w15 s0 h
set_option maxRecDepth 20000 in
set_option maxHeartbeats 4000000 in
theorem ob_X8_settled_280 {D : ym_D} {b0 : Nat} {N : Nat} {w0 : Option Nat} {w1 : Int32} {w2 : Int32} {w3 : Int32} {w10 : Int32} {w11 : Int32} {w12 : Int32} {w13 : Int64} {w15 : Int64} {s0 : Int64} {h h' : ym_H} {r : Int64} (hf : bl_X8_settled_280 N w0 w1 w2 w3 w10 w11 w12 w13 w15 s0 h = some (r, h')) : ym_Y D b0 g_X8_settled 5 280 [(0, va_rf w0), (1, .int w1), (2, .int w2), (3, .int w3), (10, .int w10), (11, .int w11), (12, .int w12), (13, .long w13), (15, .long w15)] [.long s0] h (some (.long r)) h' := by
  unfold bl_X8_settled_280 at hf
  refine ym_lstore (pc := 280) (lv' := [(17, .long s0), (0, va_rf w0), (1, .int w1), (2, .int w2), (3, .int w3), (10, .int w10), (11, .int w11), (12, .int w12), (13, .long w13), (15, .long w15)]) dX8_settled_280 (by decide) ⟨trivial, trivial, trivial, trivial, trivial, trivial, trivial, trivial, trivial, trivial⟩ rfl ?_
  refine ym_iload (pc := 282) 7 dX8_settled_282 rfl ?_
  by_cases c284 : w12 = 0
  · rw [if_pos c284] at hf
    refine ym_if_eq_y (pc := 284) (tgt := 300) dX8_settled_284 (by decide) c284 ?_
    exact ym_sub [1, 2, 3, 4, 5, 6, 7, 8, 9, 0] rfl (ob_X8_settled_300 hf)
  · rw [if_neg c284] at hf
    refine ym_if_eq_n (pc := 284) (tgt := 300) dX8_settled_284 (by decide) c284 ?_
    refine ym_aload_n (pc := 287) 1 dX8_settled_287 rfl rfl ?_
    obtain ⟨v288, e288, hf⟩ := Option.bind_eq_some_iff.mp hf
    refine ym_get (pc := 288) dX8_settled_288 rfl (by decide) iX8 (k := 12) (by decide) wd_857 (ym_gR_v e288) ?_
    refine ym_iload_n (pc := 291) 4 dX8_settled_291 rfl rfl ?_
    obtain ⟨v292, e292, hf⟩ := Option.bind_eq_some_iff.mp hf
    refine ym_iald (pc := 292) dX8_settled_292 rfl (ym_ldI_v e292) ?_
    by_cases c293 : v292 = 0
    · rw [if_pos c293] at hf
      refine ym_if_ne_y (pc := 293) (tgt := 300) dX8_settled_293 (by decide) c293 ?_
      refine ym_ldc2 (pc := 296) dX8_settled_296 wd_1200 ?_
      cases hf
      exact ym_lret (pc := 299) dX8_settled_299 rfl
    · rw [if_neg c293] at hf
      refine ym_if_ne_n (pc := 293) (tgt := 300) dX8_settled_293 (by decide) c293 ?_
      exact ym_sub [1, 2, 3, 4, 5, 6, 7, 8, 9, 0] rfl (ob_X8_settled_300 hf)
theorem sc_X8_settled_X8_piecesOf : ym_site g_X8_settled g_X8_piecesOf 5 2 1 := ⟨by decide, by decide, wd_1155, wd_83, by decide +kernel⟩
def bl_X8_settled_266 (N : Nat) (w0 : Option Nat) (w1 : Int32) (w2 : Int32) (w3 : Int32) (w10 : Int32) (w11 : Int32) (w12 : Int32) (w13 : Int64) (w15 : Int64) (h : ym_H) : Option (Int64 × ym_H) :=
  if w12 = 0 then
    bl_X8_settled_280 N w0 w1 w2 w3 w10 w11 w12 w13 w15 0 h
  else
    Option.bind (ym_ob h w0 8) fun o273 =>
    Option.bind (fn_X8_piecesOf N w0 w3 h) fun q273 =>
    bl_X8_settled_280 N w0 w1 w2 w3 w10 w11 w12 w13 w15 q273.1 q273.2
set_option maxRecDepth 20000 in
set_option maxHeartbeats 4000000 in
theorem ob_X8_settled_266 {D : ym_D} {b0 : Nat} {N : Nat} {w0 : Option Nat} {w1 : Int32} {w2 : Int32} {w3 : Int32} {w10 : Int32} {w11 : Int32} {w12 : Int32} {w13 : Int64} {w15 : Int64} {h h' : ym_H} {r : Int64} (hf : bl_X8_settled_266 N w0 w1 w2 w3 w10 w11 w12 w13 w15 h = some (r, h')) : ym_Y D b0 g_X8_settled 5 266 [(0, va_rf w0), (1, .int w1), (2, .int w2), (3, .int w3), (10, .int w10), (11, .int w11), (12, .int w12), (13, .long w13), (15, .long w15)] [] h (some (.long r)) h' := by
  unfold bl_X8_settled_266 at hf
  refine ym_iload (pc := 266) 6 dX8_settled_266 rfl ?_
  by_cases c268 : w12 = 0
  · rw [if_pos c268] at hf
    refine ym_if_eq_y (pc := 268) (tgt := 279) dX8_settled_268 (by decide) c268 ?_
    refine ym_lconst (pc := 279) (v := 0) dX8_settled_279 (by decide) ?_
    exact ym_sub [0, 1, 2, 3, 4, 5, 6, 7, 8] rfl (ob_X8_settled_280 hf)
  · rw [if_neg c268] at hf
    refine ym_if_eq_n (pc := 268) (tgt := 279) dX8_settled_268 (by decide) c268 ?_
    refine ym_aload_n (pc := 271) 0 dX8_settled_271 rfl rfl ?_
    refine ym_iload_n (pc := 272) 3 dX8_settled_272 rfl rfl ?_
    obtain ⟨o273, f273, hf⟩ := Option.bind_eq_some_iff.mp hf
    obtain ⟨q273, e273, hf⟩ := Option.bind_eq_some_iff.mp hf
    refine ym_callV (pc := 273) (G2 := g_X8_piecesOf) (dep2 := 2) (As := [.int w3]) (st := []) (stk2 := [.long q273.1]) (r2 := (some (.long q273.1))) (h1 := q273.2) dX8_settled_273 (ok_X8_piecesOf e273) (sc_X8_settled_X8_piecesOf) wd_1152 wd_1154 wd_47 (ci := 8) (q0 := (RX8, TX8, 58)) rfl (by decide) rfl f273 rfl rfl (ym_st4 (Nat.le_of_ble_eq_true rfl)) rfl ?_
    refine ym_goto (pc := 276) (tgt := 280) dX8_settled_276 (by decide) ?_
    exact ym_sub [0, 1, 2, 3, 4, 5, 6, 7, 8] rfl (ob_X8_settled_280 hf)
def bl_X8_settled_246 (N : Nat) (w0 : Option Nat) (w1 : Int32) (w2 : Int32) (w3 : Int32) (w10 : Int32) (w11 : Int32) (w12 : Int32) (w13 : Int64) (s0 : Int64) (h : ym_H) : Option (Int64 × ym_H) :=
  if w11 = 0 then
    bl_X8_settled_266 N w0 w1 w2 w3 w10 w11 w12 w13 s0 h
  else
    Option.bind (ym_gR h w0 8 12) fun v254 =>
    Option.bind (ym_ldI h v254 w2) fun v258 =>
    if v258 = 0 then
      some ((-5), h)
    else
      bl_X8_settled_266 N w0 w1 w2 w3 w10 w11 w12 w13 s0 h
set_option maxRecDepth 20000 in
set_option maxHeartbeats 4000000 in
theorem ob_X8_settled_246 {D : ym_D} {b0 : Nat} {N : Nat} {w0 : Option Nat} {w1 : Int32} {w2 : Int32} {w3 : Int32} {w10 : Int32} {w11 : Int32} {w12 : Int32} {w13 : Int64} {s0 : Int64} {h h' : ym_H} {r : Int64} (hf : bl_X8_settled_246 N w0 w1 w2 w3 w10 w11 w12 w13 s0 h = some (r, h')) : ym_Y D b0 g_X8_settled 5 246 [(0, va_rf w0), (1, .int w1), (2, .int w2), (3, .int w3), (10, .int w10), (11, .int w11), (12, .int w12), (13, .long w13)] [.long s0] h (some (.long r)) h' := by
  unfold bl_X8_settled_246 at hf
  refine ym_lstore (pc := 246) (lv' := [(15, .long s0), (0, va_rf w0), (1, .int w1), (2, .int w2), (3, .int w3), (10, .int w10), (11, .int w11), (12, .int w12), (13, .long w13)]) dX8_settled_246 (by decide) ⟨trivial, trivial, trivial, trivial, trivial, trivial, trivial, trivial, trivial⟩ rfl ?_
  refine ym_iload (pc := 248) 6 dX8_settled_248 rfl ?_
  by_cases c250 : w11 = 0
  · rw [if_pos c250] at hf
    refine ym_if_eq_y (pc := 250) (tgt := 266) dX8_settled_250 (by decide) c250 ?_
    exact ym_sub [1, 2, 3, 4, 5, 6, 7, 8, 0] rfl (ob_X8_settled_266 hf)
  · rw [if_neg c250] at hf
    refine ym_if_eq_n (pc := 250) (tgt := 266) dX8_settled_250 (by decide) c250 ?_
    refine ym_aload_n (pc := 253) 1 dX8_settled_253 rfl rfl ?_
    obtain ⟨v254, e254, hf⟩ := Option.bind_eq_some_iff.mp hf
    refine ym_get (pc := 254) dX8_settled_254 rfl (by decide) iX8 (k := 12) (by decide) wd_857 (ym_gR_v e254) ?_
    refine ym_iload_n (pc := 257) 3 dX8_settled_257 rfl rfl ?_
    obtain ⟨v258, e258, hf⟩ := Option.bind_eq_some_iff.mp hf
    refine ym_iald (pc := 258) dX8_settled_258 rfl (ym_ldI_v e258) ?_
    by_cases c259 : v258 = 0
    · rw [if_pos c259] at hf
      refine ym_if_ne_y (pc := 259) (tgt := 266) dX8_settled_259 (by decide) c259 ?_
      refine ym_ldc2 (pc := 262) dX8_settled_262 wd_1200 ?_
      cases hf
      exact ym_lret (pc := 265) dX8_settled_265 rfl
    · rw [if_neg c259] at hf
      refine ym_if_ne_n (pc := 259) (tgt := 266) dX8_settled_259 (by decide) c259 ?_
      exact ym_sub [1, 2, 3, 4, 5, 6, 7, 8, 0] rfl (ob_X8_settled_266 hf)
def bl_X8_settled_232 (N : Nat) (w0 : Option Nat) (w1 : Int32) (w2 : Int32) (w3 : Int32) (w10 : Int32) (w11 : Int32) (w12 : Int32) (w13 : Int64) (h : ym_H) : Option (Int64 × ym_H) :=
  if w11 = 0 then
    bl_X8_settled_246 N w0 w1 w2 w3 w10 w11 w12 w13 0 h
  else
    Option.bind (ym_ob h w0 8) fun o239 =>
    Option.bind (fn_X8_piecesOf N w0 w2 h) fun q239 =>
    bl_X8_settled_246 N w0 w1 w2 w3 w10 w11 w12 w13 q239.1 q239.2
set_option maxRecDepth 20000 in
set_option maxHeartbeats 4000000 in
theorem ob_X8_settled_232 {D : ym_D} {b0 : Nat} {N : Nat} {w0 : Option Nat} {w1 : Int32} {w2 : Int32} {w3 : Int32} {w10 : Int32} {w11 : Int32} {w12 : Int32} {w13 : Int64} {h h' : ym_H} {r : Int64} (hf : bl_X8_settled_232 N w0 w1 w2 w3 w10 w11 w12 w13 h = some (r, h')) : ym_Y D b0 g_X8_settled 5 232 [(0, va_rf w0), (1, .int w1), (2, .int w2), (3, .int w3), (10, .int w10), (11, .int w11), (12, .int w12), (13, .long w13)] [] h (some (.long r)) h' := by
  unfold bl_X8_settled_232 at hf
  refine ym_iload (pc := 232) 5 dX8_settled_232 rfl ?_
  by_cases c234 : w11 = 0
  · rw [if_pos c234] at hf
    refine ym_if_eq_y (pc := 234) (tgt := 245) dX8_settled_234 (by decide) c234 ?_
    refine ym_lconst (pc := 245) (v := 0) dX8_settled_245 (by decide) ?_
    exact ym_sub [0, 1, 2, 3, 4, 5, 6, 7] rfl (ob_X8_settled_246 hf)
  · rw [if_neg c234] at hf
    refine ym_if_eq_n (pc := 234) (tgt := 245) dX8_settled_234 (by decide) c234 ?_
    refine ym_aload_n (pc := 237) 0 dX8_settled_237 rfl rfl ?_
    refine ym_iload_n (pc := 238) 2 dX8_settled_238 rfl rfl ?_
    obtain ⟨o239, f239, hf⟩ := Option.bind_eq_some_iff.mp hf
    obtain ⟨q239, e239, hf⟩ := Option.bind_eq_some_iff.mp hf
    refine ym_callV (pc := 239) (G2 := g_X8_piecesOf) (dep2 := 2) (As := [.int w2]) (st := []) (stk2 := [.long q239.1]) (r2 := (some (.long q239.1))) (h1 := q239.2) dX8_settled_239 (ok_X8_piecesOf e239) (sc_X8_settled_X8_piecesOf) wd_1152 wd_1154 wd_47 (ci := 8) (q0 := (RX8, TX8, 58)) rfl (by decide) rfl f239 rfl rfl (ym_st4 (Nat.le_of_ble_eq_true rfl)) rfl ?_
    refine ym_goto (pc := 242) (tgt := 246) dX8_settled_242 (by decide) ?_
    exact ym_sub [0, 1, 2, 3, 4, 5, 6, 7] rfl (ob_X8_settled_246 hf)
def bl_X8_settled_212 (N : Nat) (w0 : Option Nat) (w1 : Int32) (w2 : Int32) (w3 : Int32) (w10 : Int32) (w11 : Int32) (w12 : Int32) (s0 : Int64) (h : ym_H) : Option (Int64 × ym_H) :=
  if w10 = 0 then
    bl_X8_settled_232 N w0 w1 w2 w3 w10 w11 w12 s0 h
  else
    Option.bind (ym_gR h w0 8 12) fun v220 =>
    Option.bind (ym_ldI h v220 w1) fun v224 =>
    if v224 = 0 then
      some ((-5), h)
    else
      bl_X8_settled_232 N w0 w1 w2 w3 w10 w11 w12 s0 h
set_option maxRecDepth 20000 in
set_option maxHeartbeats 4000000 in
theorem ob_X8_settled_212 {D : ym_D} {b0 : Nat} {N : Nat} {w0 : Option Nat} {w1 : Int32} {w2 : Int32} {w3 : Int32} {w10 : Int32} {w11 : Int32} {w12 : Int32} {s0 : Int64} {h h' : ym_H} {r : Int64} (hf : bl_X8_settled_212 N w0 w1 w2 w3 w10 w11 w12 s0 h = some (r, h')) : ym_Y D b0 g_X8_settled 5 212 [(0, va_rf w0), (1, .int w1), (2, .int w2), (3, .int w3), (10, .int w10), (11, .int w11), (12, .int w12)] [.long s0] h (some (.long r)) h' := by
  unfold bl_X8_settled_212 at hf
  refine ym_lstore (pc := 212) (lv' := [(13, .long s0), (0, va_rf w0), (1, .int w1), (2, .int w2), (3, .int w3), (10, .int w10), (11, .int w11), (12, .int w12)]) dX8_settled_212 (by decide) ⟨trivial, trivial, trivial, trivial, trivial, trivial, rfl, trivial⟩ rfl ?_
  refine ym_iload (pc := 214) 5 dX8_settled_214 rfl ?_
  by_cases c216 : w10 = 0
  · rw [if_pos c216] at hf
    refine ym_if_eq_y (pc := 216) (tgt := 232) dX8_settled_216 (by decide) c216 ?_
    exact ym_sub [1, 2, 3, 4, 5, 6, 7, 0] rfl (ob_X8_settled_232 hf)
  · rw [if_neg c216] at hf
    refine ym_if_eq_n (pc := 216) (tgt := 232) dX8_settled_216 (by decide) c216 ?_
    refine ym_aload_n (pc := 219) 1 dX8_settled_219 rfl rfl ?_
    obtain ⟨v220, e220, hf⟩ := Option.bind_eq_some_iff.mp hf
    refine ym_get (pc := 220) dX8_settled_220 rfl (by decide) iX8 (k := 12) (by decide) wd_857 (ym_gR_v e220) ?_
    refine ym_iload_n (pc := 223) 2 dX8_settled_223 rfl rfl ?_
    obtain ⟨v224, e224, hf⟩ := Option.bind_eq_some_iff.mp hf
    refine ym_iald (pc := 224) dX8_settled_224 rfl (ym_ldI_v e224) ?_
    by_cases c225 : v224 = 0
    · rw [if_pos c225] at hf
      refine ym_if_ne_y (pc := 225) (tgt := 232) dX8_settled_225 (by decide) c225 ?_
      refine ym_ldc2 (pc := 228) dX8_settled_228 wd_1200 ?_
      cases hf
      exact ym_lret (pc := 231) dX8_settled_231 rfl
    · rw [if_neg c225] at hf
      refine ym_if_ne_n (pc := 225) (tgt := 232) dX8_settled_225 (by decide) c225 ?_
      exact ym_sub [1, 2, 3, 4, 5, 6, 7, 0] rfl (ob_X8_settled_232 hf)
def bl_X8_settled_196 (N : Nat) (w0 : Option Nat) (w1 : Int32) (w2 : Int32) (w3 : Int32) (w10 : Int32) (w11 : Int32) (s0 : Int32) (h : ym_H) : Option (Int64 × ym_H) :=
  if w10 = 0 then
    bl_X8_settled_212 N w0 w1 w2 w3 w10 w11 s0 0 h
  else
    Option.bind (ym_ob h w0 8) fun o205 =>
    Option.bind (fn_X8_piecesOf N w0 w1 h) fun q205 =>
    bl_X8_settled_212 N w0 w1 w2 w3 w10 w11 s0 q205.1 q205.2
set_option maxRecDepth 20000 in
set_option maxHeartbeats 4000000 in
theorem ob_X8_settled_196 {D : ym_D} {b0 : Nat} {N : Nat} {w0 : Option Nat} {w1 : Int32} {w2 : Int32} {w3 : Int32} {w10 : Int32} {w11 : Int32} {s0 : Int32} {h h' : ym_H} {r : Int64} (hf : bl_X8_settled_196 N w0 w1 w2 w3 w10 w11 s0 h = some (r, h')) : ym_Y D b0 g_X8_settled 5 196 [(0, va_rf w0), (1, .int w1), (2, .int w2), (3, .int w3), (10, .int w10), (11, .int w11)] [.int s0] h (some (.long r)) h' := by
  unfold bl_X8_settled_196 at hf
  refine ym_istore (pc := 196) (lv' := [(12, .int s0), (0, va_rf w0), (1, .int w1), (2, .int w2), (3, .int w3), (10, .int w10), (11, .int w11)]) dX8_settled_196 (by decide) ⟨trivial, trivial, trivial, trivial, trivial, rfl, trivial⟩ rfl ?_
  refine ym_iload (pc := 198) 5 dX8_settled_198 rfl ?_
  by_cases c200 : w10 = 0
  · rw [if_pos c200] at hf
    refine ym_if_eq_y (pc := 200) (tgt := 211) dX8_settled_200 (by decide) c200 ?_
    refine ym_lconst (pc := 211) (v := 0) dX8_settled_211 (by decide) ?_
    exact ym_sub [1, 2, 3, 4, 5, 6, 0] rfl (ob_X8_settled_212 hf)
  · rw [if_neg c200] at hf
    refine ym_if_eq_n (pc := 200) (tgt := 211) dX8_settled_200 (by decide) c200 ?_
    refine ym_aload_n (pc := 203) 1 dX8_settled_203 rfl rfl ?_
    refine ym_iload_n (pc := 204) 2 dX8_settled_204 rfl rfl ?_
    obtain ⟨o205, f205, hf⟩ := Option.bind_eq_some_iff.mp hf
    obtain ⟨q205, e205, hf⟩ := Option.bind_eq_some_iff.mp hf
    refine ym_callV (pc := 205) (G2 := g_X8_piecesOf) (dep2 := 2) (As := [.int w1]) (st := []) (stk2 := [.long q205.1]) (r2 := (some (.long q205.1))) (h1 := q205.2) dX8_settled_205 (ok_X8_piecesOf e205) (sc_X8_settled_X8_piecesOf) wd_1152 wd_1154 wd_47 (ci := 8) (q0 := (RX8, TX8, 58)) rfl (by decide) rfl f205 rfl rfl (ym_st4 (Nat.le_of_ble_eq_true rfl)) rfl ?_
    refine ym_goto (pc := 208) (tgt := 212) dX8_settled_208 (by decide) ?_
    exact ym_sub [1, 2, 3, 4, 5, 6, 0] rfl (ob_X8_settled_212 hf)
def bl_X8_settled_195 (N : Nat) (w0 : Option Nat) (w1 : Int32) (w2 : Int32) (w3 : Int32) (w10 : Int32) (w11 : Int32) (h : ym_H) : Option (Int64 × ym_H) :=
  bl_X8_settled_196 N w0 w1 w2 w3 w10 w11 0 h
set_option maxRecDepth 20000 in
set_option maxHeartbeats 4000000 in
theorem ob_X8_settled_195 {D : ym_D} {b0 : Nat} {N : Nat} {w0 : Option Nat} {w1 : Int32} {w2 : Int32} {w3 : Int32} {w10 : Int32} {w11 : Int32} {h h' : ym_H} {r : Int64} (hf : bl_X8_settled_195 N w0 w1 w2 w3 w10 w11 h = some (r, h')) : ym_Y D b0 g_X8_settled 5 195 [(0, va_rf w0), (1, .int w1), (2, .int w2), (3, .int w3), (10, .int w10), (11, .int w11)] [] h (some (.long r)) h' := by
  unfold bl_X8_settled_195 at hf
  refine ym_iconst (pc := 195) (v := 0) dX8_settled_195 (by decide) ?_
  exact ym_sub [0, 1, 2, 3, 4, 5] rfl (ob_X8_settled_196 hf)
def bl_X8_settled_177 (N : Nat) (w0 : Option Nat) (w1 : Int32) (w2 : Int32) (w3 : Int32) (w8 : Int64) (w10 : Int32) (s0 : Int32) (h : ym_H) : Option (Int64 × ym_H) :=
  if w10 = 0 then
    if w8 < 0 then
      bl_X8_settled_195 N w0 w1 w2 w3 w10 s0 h
    else
      bl_X8_settled_196 N w0 w1 w2 w3 w10 s0 1 h
  else
    bl_X8_settled_195 N w0 w1 w2 w3 w10 s0 h
set_option maxRecDepth 20000 in
set_option maxHeartbeats 4000000 in
theorem ob_X8_settled_177 {D : ym_D} {b0 : Nat} {N : Nat} {w0 : Option Nat} {w1 : Int32} {w2 : Int32} {w3 : Int32} {w8 : Int64} {w10 : Int32} {s0 : Int32} {h h' : ym_H} {r : Int64} (hf : bl_X8_settled_177 N w0 w1 w2 w3 w8 w10 s0 h = some (r, h')) : ym_Y D b0 g_X8_settled 5 177 [(0, va_rf w0), (1, .int w1), (2, .int w2), (3, .int w3), (8, .long w8), (10, .int w10)] [.int s0] h (some (.long r)) h' := by
  unfold bl_X8_settled_177 at hf
  refine ym_istore (pc := 177) (lv' := [(11, .int s0), (0, va_rf w0), (1, .int w1), (2, .int w2), (3, .int w3), (8, .long w8), (10, .int w10)]) dX8_settled_177 (by decide) ⟨trivial, trivial, trivial, trivial, trivial, rfl, trivial⟩ rfl ?_
  refine ym_iload (pc := 179) 6 dX8_settled_179 rfl ?_
  by_cases c181 : w10 = 0
  · rw [if_pos c181] at hf
    refine ym_if_ne_y (pc := 181) (tgt := 195) dX8_settled_181 (by decide) c181 ?_
    refine ym_lload (pc := 184) 5 dX8_settled_184 rfl ?_
    refine ym_lconst (pc := 186) (v := 0) dX8_settled_186 (by decide) ?_
    by_cases c187 : w8 < 0
    · rw [if_pos c187] at hf
      refine ym_lcmp_lt_y (pc := 187) (tgt := 195) dX8_settled_187 dX8_settled_188 (by decide) c187 ?_
      exact ym_sub [1, 2, 3, 4, 6, 0] rfl (ob_X8_settled_195 hf)
    · rw [if_neg c187] at hf
      refine ym_lcmp_lt_n (pc := 187) (tgt := 195) dX8_settled_187 dX8_settled_188 (by decide) c187 ?_
      refine ym_iconst (pc := 191) (v := 1) dX8_settled_191 (by decide) ?_
      refine ym_goto (pc := 192) (tgt := 196) dX8_settled_192 (by decide) ?_
      exact ym_sub [1, 2, 3, 4, 6, 0] rfl (ob_X8_settled_196 hf)
  · rw [if_neg c181] at hf
    refine ym_if_ne_n (pc := 181) (tgt := 195) dX8_settled_181 (by decide) c181 ?_
    exact ym_sub [1, 2, 3, 4, 6, 0] rfl (ob_X8_settled_195 hf)
def bl_X8_settled_176 (N : Nat) (w0 : Option Nat) (w1 : Int32) (w2 : Int32) (w3 : Int32) (w8 : Int64) (w10 : Int32) (h : ym_H) : Option (Int64 × ym_H) :=
  bl_X8_settled_177 N w0 w1 w2 w3 w8 w10 0 h
set_option maxRecDepth 20000 in
set_option maxHeartbeats 4000000 in
theorem ob_X8_settled_176 {D : ym_D} {b0 : Nat} {N : Nat} {w0 : Option Nat} {w1 : Int32} {w2 : Int32} {w3 : Int32} {w8 : Int64} {w10 : Int32} {h h' : ym_H} {r : Int64} (hf : bl_X8_settled_176 N w0 w1 w2 w3 w8 w10 h = some (r, h')) : ym_Y D b0 g_X8_settled 5 176 [(0, va_rf w0), (1, .int w1), (2, .int w2), (3, .int w3), (8, .long w8), (10, .int w10)] [] h (some (.long r)) h' := by
  unfold bl_X8_settled_176 at hf
  refine ym_iconst (pc := 176) (v := 0) dX8_settled_176 (by decide) ?_
  exact ym_sub [0, 1, 2, 3, 4, 5] rfl (ob_X8_settled_177 hf)
def bl_X8_settled_158 (N : Nat) (w0 : Option Nat) (w1 : Int32) (w2 : Int32) (w3 : Int32) (w6 : Int64) (w8 : Int64) (s0 : Int32) (h : ym_H) : Option (Int64 × ym_H) :=
  if s0 = 0 then
    if w6 < 0 then
      bl_X8_settled_176 N w0 w1 w2 w3 w8 s0 h
    else
      bl_X8_settled_177 N w0 w1 w2 w3 w8 s0 1 h
  else
    bl_X8_settled_176 N w0 w1 w2 w3 w8 s0 h
set_option maxRecDepth 20000 in
set_option maxHeartbeats 4000000 in
theorem ob_X8_settled_158 {D : ym_D} {b0 : Nat} {N : Nat} {w0 : Option Nat} {w1 : Int32} {w2 : Int32} {w3 : Int32} {w6 : Int64} {w8 : Int64} {s0 : Int32} {h h' : ym_H} {r : Int64} (hf : bl_X8_settled_158 N w0 w1 w2 w3 w6 w8 s0 h = some (r, h')) : ym_Y D b0 g_X8_settled 5 158 [(0, va_rf w0), (1, .int w1), (2, .int w2), (3, .int w3), (6, .long w6), (8, .long w8)] [.int s0] h (some (.long r)) h' := by
  unfold bl_X8_settled_158 at hf
  refine ym_istore (pc := 158) (lv' := [(10, .int s0), (0, va_rf w0), (1, .int w1), (2, .int w2), (3, .int w3), (6, .long w6), (8, .long w8)]) dX8_settled_158 (by decide) ⟨trivial, trivial, trivial, trivial, trivial, trivial, trivial⟩ rfl ?_
  refine ym_iload (pc := 160) 0 dX8_settled_160 rfl ?_
  by_cases c162 : s0 = 0
  · rw [if_pos c162] at hf
    refine ym_if_ne_y (pc := 162) (tgt := 176) dX8_settled_162 (by decide) c162 ?_
    refine ym_lload (pc := 165) 5 dX8_settled_165 rfl ?_
    refine ym_lconst (pc := 167) (v := 0) dX8_settled_167 (by decide) ?_
    by_cases c168 : w6 < 0
    · rw [if_pos c168] at hf
      refine ym_lcmp_lt_y (pc := 168) (tgt := 176) dX8_settled_168 dX8_settled_169 (by decide) c168 ?_
      exact ym_sub [1, 2, 3, 4, 6, 0] rfl (ob_X8_settled_176 hf)
    · rw [if_neg c168] at hf
      refine ym_lcmp_lt_n (pc := 168) (tgt := 176) dX8_settled_168 dX8_settled_169 (by decide) c168 ?_
      refine ym_iconst (pc := 172) (v := 1) dX8_settled_172 (by decide) ?_
      refine ym_goto (pc := 173) (tgt := 177) dX8_settled_173 (by decide) ?_
      exact ym_sub [1, 2, 3, 4, 6, 0] rfl (ob_X8_settled_177 hf)
  · rw [if_neg c162] at hf
    refine ym_if_ne_n (pc := 162) (tgt := 176) dX8_settled_162 (by decide) c162 ?_
    exact ym_sub [1, 2, 3, 4, 6, 0] rfl (ob_X8_settled_176 hf)
def bl_X8_settled_157 (N : Nat) (w0 : Option Nat) (w1 : Int32) (w2 : Int32) (w3 : Int32) (w6 : Int64) (w8 : Int64) (h : ym_H) : Option (Int64 × ym_H) :=
  bl_X8_settled_158 N w0 w1 w2 w3 w6 w8 0 h
set_option maxRecDepth 20000 in
set_option maxHeartbeats 4000000 in
theorem ob_X8_settled_157 {D : ym_D} {b0 : Nat} {N : Nat} {w0 : Option Nat} {w1 : Int32} {w2 : Int32} {w3 : Int32} {w6 : Int64} {w8 : Int64} {h h' : ym_H} {r : Int64} (hf : bl_X8_settled_157 N w0 w1 w2 w3 w6 w8 h = some (r, h')) : ym_Y D b0 g_X8_settled 5 157 [(0, va_rf w0), (1, .int w1), (2, .int w2), (3, .int w3), (6, .long w6), (8, .long w8)] [] h (some (.long r)) h' := by
  unfold bl_X8_settled_157 at hf
  refine ym_iconst (pc := 157) (v := 0) dX8_settled_157 (by decide) ?_
  exact ym_sub [0, 1, 2, 3, 4, 5] rfl (ob_X8_settled_158 hf)
def bl_X8_settled_148 (N : Nat) (w0 : Option Nat) (w1 : Int32) (w2 : Int32) (w3 : Int32) (w6 : Int64) (w8 : Int64) (s0 : Int64) (s1 : Int64) (s2 : Int64) (h : ym_H) : Option (Int64 × ym_H) :=
  if s2 ≤ (s1 + s0) then
    bl_X8_settled_157 N w0 w1 w2 w3 w6 w8 h
  else
    bl_X8_settled_158 N w0 w1 w2 w3 w6 w8 1 h
set_option maxRecDepth 20000 in
set_option maxHeartbeats 4000000 in
theorem ob_X8_settled_148 {D : ym_D} {b0 : Nat} {N : Nat} {w0 : Option Nat} {w1 : Int32} {w2 : Int32} {w3 : Int32} {w6 : Int64} {w8 : Int64} {s0 : Int64} {s1 : Int64} {s2 : Int64} {h h' : ym_H} {r : Int64} (hf : bl_X8_settled_148 N w0 w1 w2 w3 w6 w8 s0 s1 s2 h = some (r, h')) : ym_Y D b0 g_X8_settled 5 148 [(0, va_rf w0), (1, .int w1), (2, .int w2), (3, .int w3), (6, .long w6), (8, .long w8)] [.long s0, .long s1, .long s2] h (some (.long r)) h' := by
  unfold bl_X8_settled_148 at hf
  refine ym_ladd (pc := 148) dX8_settled_148 ?_
  by_cases c149 : s2 ≤ (s1 + s0)
  · rw [if_pos c149] at hf
    refine ym_lcmp_le_y (pc := 149) (tgt := 157) dX8_settled_149 dX8_settled_150 (by decide) c149 ?_
    exact ym_sub [0, 1, 2, 3, 4, 5] rfl (ob_X8_settled_157 hf)
  · rw [if_neg c149] at hf
    refine ym_lcmp_le_n (pc := 149) (tgt := 157) dX8_settled_149 dX8_settled_150 (by decide) c149 ?_
    refine ym_iconst (pc := 153) (v := 1) dX8_settled_153 (by decide) ?_
    refine ym_goto (pc := 154) (tgt := 158) dX8_settled_154 (by decide) ?_
    exact ym_sub [0, 1, 2, 3, 4, 5] rfl (ob_X8_settled_158 hf)
def bl_X8_settled_135 (N : Nat) (w0 : Option Nat) (w1 : Int32) (w2 : Int32) (w3 : Int32) (w6 : Int64) (w8 : Int64) (s0 : Int64) (s1 : Int64) (h : ym_H) : Option (Int64 × ym_H) :=
  if w8 ≤ 0 then
    bl_X8_settled_148 N w0 w1 w2 w3 w6 w8 0 s0 s1 h
  else
    bl_X8_settled_148 N w0 w1 w2 w3 w6 w8 w8 s0 s1 h
set_option maxRecDepth 20000 in
set_option maxHeartbeats 4000000 in
theorem ob_X8_settled_135 {D : ym_D} {b0 : Nat} {N : Nat} {w0 : Option Nat} {w1 : Int32} {w2 : Int32} {w3 : Int32} {w6 : Int64} {w8 : Int64} {s0 : Int64} {s1 : Int64} {h h' : ym_H} {r : Int64} (hf : bl_X8_settled_135 N w0 w1 w2 w3 w6 w8 s0 s1 h = some (r, h')) : ym_Y D b0 g_X8_settled 5 135 [(0, va_rf w0), (1, .int w1), (2, .int w2), (3, .int w3), (6, .long w6), (8, .long w8)] [.long s0, .long s1] h (some (.long r)) h' := by
  unfold bl_X8_settled_135 at hf
  refine ym_lload (pc := 135) 5 dX8_settled_135 rfl ?_
  refine ym_lconst (pc := 137) (v := 0) dX8_settled_137 (by decide) ?_
  by_cases c138 : w8 ≤ 0
  · rw [if_pos c138] at hf
    refine ym_lcmp_le_y (pc := 138) (tgt := 147) dX8_settled_138 dX8_settled_139 (by decide) c138 ?_
    refine ym_lconst (pc := 147) (v := 0) dX8_settled_147 (by decide) ?_
    exact ym_sub [0, 1, 2, 3, 4, 5] rfl (ob_X8_settled_148 hf)
  · rw [if_neg c138] at hf
    refine ym_lcmp_le_n (pc := 138) (tgt := 147) dX8_settled_138 dX8_settled_139 (by decide) c138 ?_
    refine ym_lload (pc := 142) 5 dX8_settled_142 rfl ?_
    refine ym_goto (pc := 144) (tgt := 148) dX8_settled_144 (by decide) ?_
    exact ym_sub [0, 1, 2, 3, 4, 5] rfl (ob_X8_settled_148 hf)
def fn_X8_settled (N : Nat) (a0 : Option Nat) (a1 : Int32) (h : ym_H) : Option (Int64 × ym_H) :=
  Option.bind (ym_ob h a0 8) fun o2 =>
  Option.bind (fn_X8_noLot N a0 a1 h) fun q2 =>
  if q2.1 ≤ 0 then
    Option.bind (ym_gR q2.2 a0 8 30) fun v17 =>
    Option.bind (ym_ldI q2.2 v17 a1) fun v21 =>
    if v21 = a1 then
      Option.bind (ym_gR q2.2 a0 8 31) fun v31 =>
      Option.bind (ym_ldI q2.2 v31 a1) fun v35 =>
      Option.bind (ym_gR q2.2 a0 8 32) fun v38 =>
      Option.bind (ym_ldI q2.2 v38 a1) fun v42 =>
      Option.bind (ym_ob q2.2 a0 8) fun o46 =>
      Option.bind (fn_X8_notOpen N a0 a1 q2.2) fun q46 =>
      if q46.1 ≤ 0 then
        Option.bind (ym_ob q46.2 a0 8) fun o62 =>
        Option.bind (fn_X8_notOpen N a0 v35 q46.2) fun q62 =>
        if q62.1 ≤ 0 then
          Option.bind (ym_ob q62.2 a0 8) fun o78 =>
          Option.bind (fn_X8_notOpen N a0 v42 q62.2) fun q78 =>
          if q78.1 ≤ 0 then
            Option.bind (ym_ob q78.2 a0 8) fun o94 =>
            Option.bind (fn_X8_wouldBring N a0 a1 q78.2) fun q94 =>
            Option.bind (ym_ob q94.2 a0 8) fun o101 =>
            Option.bind (fn_X8_wouldBring N a0 v35 q94.2) fun q101 =>
            Option.bind (ym_ob q101.2 a0 8) fun o108 =>
            Option.bind (fn_X8_wouldBring N a0 v42 q101.2) fun q108 =>
            if q94.1 < 0 then
              bl_X8_settled_157 N a0 a1 v35 v42 q101.1 q108.1 q108.2
            else
              if q101.1 ≤ 0 then
                bl_X8_settled_135 N a0 a1 v35 v42 q101.1 q108.1 0 q94.1 q108.2
              else
                bl_X8_settled_135 N a0 a1 v35 v42 q101.1 q108.1 q101.1 q94.1 q108.2
          else
            Option.bind (ym_ob q78.2 a0 8) fun o86 =>
            Option.bind (fn_X8_notOpen N a0 v42 q78.2) fun q86 =>
            some ((Int32.toInt64 (-q86.1)), q86.2)
        else
          Option.bind (ym_ob q62.2 a0 8) fun o70 =>
          Option.bind (fn_X8_notOpen N a0 v35 q62.2) fun q70 =>
          some ((Int32.toInt64 (-q70.1)), q70.2)
      else
        Option.bind (ym_ob q46.2 a0 8) fun o54 =>
        Option.bind (fn_X8_notOpen N a0 a1 q46.2) fun q54 =>
        some ((Int32.toInt64 (-q54.1)), q54.2)
    else
      some ((-14), q2.2)
  else
    Option.bind (ym_ob q2.2 a0 8) fun o10 =>
    Option.bind (fn_X8_noLot N a0 a1 q2.2) fun q10 =>
    some ((Int32.toInt64 (-q10.1)), q10.2)
set_option maxRecDepth 20000 in
set_option maxHeartbeats 4000000 in
theorem ok_X8_settled {D : ym_D} {b0 : Nat} {N : Nat} {a0 : Option Nat} {a1 : Int32} {h h' : ym_H} {r : Int64} (hf : fn_X8_settled N a0 a1 h = some (r, h')) : ym_M D b0 g_X8_settled 5 [va_rf a0, .int a1] h (some (.long r)) h' := by
  unfold fn_X8_settled at hf
  refine ym_meth (lv := [(0, va_rf a0), (1, .int a1)]) (by decide) (by simp [lg_sl, ym_c1, ym_cI, ym_cL, g_X8_settled]) (by simp [lv_args, ym_c1, ym_cI, ym_cL]) ?_
  refine ym_aload_n (pc := 0) 0 dX8_settled_0 rfl rfl ?_
  refine ym_iload_n (pc := 1) 1 dX8_settled_1 rfl rfl ?_
  obtain ⟨o2, f2, hf⟩ := Option.bind_eq_some_iff.mp hf
  obtain ⟨q2, e2, hf⟩ := Option.bind_eq_some_iff.mp hf
  refine ym_callV (pc := 2) (G2 := g_X8_noLot) (dep2 := 1) (As := [.int a1]) (st := []) (stk2 := [.int q2.1]) (r2 := (some (.int q2.1))) (h1 := q2.2) dX8_settled_2 (ok_X8_noLot e2) (sc_X8_settled_X8_noLot) wd_1055 wd_1057 wd_27 (ci := 8) (q0 := (RX8, TX8, 58)) rfl (by decide) rfl f2 rfl rfl (ym_st4 (Nat.le_of_ble_eq_true rfl)) rfl ?_
  by_cases c5 : q2.1 ≤ 0
  · rw [if_pos c5] at hf
    refine ym_if_le_y (pc := 5) (tgt := 16) dX8_settled_5 (by decide) c5 ?_
    refine ym_aload_n (pc := 16) 0 dX8_settled_16 rfl rfl ?_
    obtain ⟨v17, e17, hf⟩ := Option.bind_eq_some_iff.mp hf
    refine ym_get (pc := 17) dX8_settled_17 rfl (by decide) iX8 (k := 30) (by decide) wd_875 (ym_gR_v e17) ?_
    refine ym_iload_n (pc := 20) 1 dX8_settled_20 rfl rfl ?_
    obtain ⟨v21, e21, hf⟩ := Option.bind_eq_some_iff.mp hf
    refine ym_iald (pc := 21) dX8_settled_21 rfl (ym_ldI_v e21) ?_
    refine ym_iload_n (pc := 22) 1 dX8_settled_22 rfl rfl ?_
    by_cases c23 : v21 = a1
    · rw [if_pos c23] at hf
      refine ym_icmp_eq_y (pc := 23) (tgt := 30) dX8_settled_23 (by decide) c23 ?_
      refine ym_aload_n (pc := 30) 0 dX8_settled_30 rfl rfl ?_
      obtain ⟨v31, e31, hf⟩ := Option.bind_eq_some_iff.mp hf
      refine ym_get (pc := 31) dX8_settled_31 rfl (by decide) iX8 (k := 31) (by decide) wd_876 (ym_gR_v e31) ?_
      refine ym_iload_n (pc := 34) 1 dX8_settled_34 rfl rfl ?_
      obtain ⟨v35, e35, hf⟩ := Option.bind_eq_some_iff.mp hf
      refine ym_iald (pc := 35) dX8_settled_35 rfl (ym_ldI_v e35) ?_
      refine ym_istore_n (pc := 36) (lv' := [(2, .int v35), (0, va_rf a0), (1, .int a1)]) dX8_settled_36 rfl (by decide) ⟨trivial, rfl, trivial⟩ rfl ?_
      refine ym_aload_n (pc := 37) 1 dX8_settled_37 rfl rfl ?_
      obtain ⟨v38, e38, hf⟩ := Option.bind_eq_some_iff.mp hf
      refine ym_get (pc := 38) dX8_settled_38 rfl (by decide) iX8 (k := 32) (by decide) wd_877 (ym_gR_v e38) ?_
      refine ym_iload_n (pc := 41) 2 dX8_settled_41 rfl rfl ?_
      obtain ⟨v42, e42, hf⟩ := Option.bind_eq_some_iff.mp hf
      refine ym_iald (pc := 42) dX8_settled_42 rfl (ym_ldI_v e42) ?_
      refine ym_istore_n (pc := 43) (lv' := [(3, .int v42), (2, .int v35), (0, va_rf a0), (1, .int a1)]) dX8_settled_43 rfl (by decide) ⟨rfl, trivial, trivial, trivial⟩ rfl ?_
      refine ym_aload_n (pc := 44) 2 dX8_settled_44 rfl rfl ?_
      refine ym_iload_n (pc := 45) 3 dX8_settled_45 rfl rfl ?_
      obtain ⟨o46, f46, hf⟩ := Option.bind_eq_some_iff.mp hf
      obtain ⟨q46, e46, hf⟩ := Option.bind_eq_some_iff.mp hf
      refine ym_callV (pc := 46) (G2 := g_X8_notOpen) (dep2 := 1) (As := [.int a1]) (st := []) (stk2 := [.int q46.1]) (r2 := (some (.int q46.1))) (h1 := q46.2) dX8_settled_46 (ok_X8_notOpen e46) (sc_X8_settled_X8_notOpen) wd_1127 wd_1129 wd_41 (ci := 8) (q0 := (RX8, TX8, 58)) rfl (by decide) rfl f46 rfl rfl (ym_st4 (Nat.le_of_ble_eq_true rfl)) rfl ?_
      by_cases c49 : q46.1 ≤ 0
      · rw [if_pos c49] at hf
        refine ym_if_le_y (pc := 49) (tgt := 60) dX8_settled_49 (by decide) c49 ?_
        refine ym_aload_n (pc := 60) 2 dX8_settled_60 rfl rfl ?_
        refine ym_iload_n (pc := 61) 1 dX8_settled_61 rfl rfl ?_
        obtain ⟨o62, f62, hf⟩ := Option.bind_eq_some_iff.mp hf
        obtain ⟨q62, e62, hf⟩ := Option.bind_eq_some_iff.mp hf
        refine ym_callV (pc := 62) (G2 := g_X8_notOpen) (dep2 := 1) (As := [.int v35]) (st := []) (stk2 := [.int q62.1]) (r2 := (some (.int q62.1))) (h1 := q62.2) dX8_settled_62 (ok_X8_notOpen e62) (sc_X8_settled_X8_notOpen) wd_1127 wd_1129 wd_41 (ci := 8) (q0 := (RX8, TX8, 58)) rfl (by decide) rfl f62 rfl rfl (ym_st4 (Nat.le_of_ble_eq_true rfl)) rfl ?_
        by_cases c65 : q62.1 ≤ 0
        · rw [if_pos c65] at hf
          refine ym_if_le_y (pc := 65) (tgt := 76) dX8_settled_65 (by decide) c65 ?_
          refine ym_aload_n (pc := 76) 2 dX8_settled_76 rfl rfl ?_
          refine ym_iload_n (pc := 77) 0 dX8_settled_77 rfl rfl ?_
          obtain ⟨o78, f78, hf⟩ := Option.bind_eq_some_iff.mp hf
          obtain ⟨q78, e78, hf⟩ := Option.bind_eq_some_iff.mp hf
          refine ym_callV (pc := 78) (G2 := g_X8_notOpen) (dep2 := 1) (As := [.int v42]) (st := []) (stk2 := [.int q78.1]) (r2 := (some (.int q78.1))) (h1 := q78.2) dX8_settled_78 (ok_X8_notOpen e78) (sc_X8_settled_X8_notOpen) wd_1127 wd_1129 wd_41 (ci := 8) (q0 := (RX8, TX8, 58)) rfl (by decide) rfl f78 rfl rfl (ym_st4 (Nat.le_of_ble_eq_true rfl)) rfl ?_
          by_cases c81 : q78.1 ≤ 0
          · rw [if_pos c81] at hf
            refine ym_if_le_y (pc := 81) (tgt := 92) dX8_settled_81 (by decide) c81 ?_
            refine ym_aload_n (pc := 92) 2 dX8_settled_92 rfl rfl ?_
            refine ym_iload_n (pc := 93) 3 dX8_settled_93 rfl rfl ?_
            obtain ⟨o94, f94, hf⟩ := Option.bind_eq_some_iff.mp hf
            obtain ⟨q94, e94, hf⟩ := Option.bind_eq_some_iff.mp hf
            refine ym_callV (pc := 94) (G2 := g_X8_wouldBring) (dep2 := 4) (As := [.int a1]) (st := []) (stk2 := [.long q94.1]) (r2 := (some (.long q94.1))) (h1 := q94.2) dX8_settled_94 (ok_X8_wouldBring e94) (sc_X8_settled_X8_wouldBring) wd_1221 wd_1223 wd_62 (ci := 8) (q0 := (RX8, TX8, 58)) rfl (by decide) rfl f94 rfl rfl (ym_st4 (Nat.le_of_ble_eq_true rfl)) rfl ?_
            refine ym_lstore (pc := 97) (lv' := [(4, .long q94.1), (3, .int v42), (2, .int v35), (0, va_rf a0), (1, .int a1)]) dX8_settled_97 (by decide) ⟨rfl, trivial, trivial, trivial, trivial⟩ rfl ?_
            refine ym_aload_n (pc := 99) 3 dX8_settled_99 rfl rfl ?_
            refine ym_iload_n (pc := 100) 2 dX8_settled_100 rfl rfl ?_
            obtain ⟨o101, f101, hf⟩ := Option.bind_eq_some_iff.mp hf
            obtain ⟨q101, e101, hf⟩ := Option.bind_eq_some_iff.mp hf
            refine ym_callV (pc := 101) (G2 := g_X8_wouldBring) (dep2 := 4) (As := [.int v35]) (st := []) (stk2 := [.long q101.1]) (r2 := (some (.long q101.1))) (h1 := q101.2) dX8_settled_101 (ok_X8_wouldBring e101) (sc_X8_settled_X8_wouldBring) wd_1221 wd_1223 wd_62 (ci := 8) (q0 := (RX8, TX8, 58)) rfl (by decide) rfl f101 rfl rfl (ym_st4 (Nat.le_of_ble_eq_true rfl)) rfl ?_
            refine ym_lstore (pc := 104) (lv' := [(6, .long q101.1), (4, .long q94.1), (3, .int v42), (2, .int v35), (0, va_rf a0), (1, .int a1)]) dX8_settled_104 (by decide) ⟨trivial, trivial, trivial, trivial, trivial, trivial⟩ rfl ?_
            refine ym_aload_n (pc := 106) 4 dX8_settled_106 rfl rfl ?_
            refine ym_iload_n (pc := 107) 2 dX8_settled_107 rfl rfl ?_
            obtain ⟨o108, f108, hf⟩ := Option.bind_eq_some_iff.mp hf
            obtain ⟨q108, e108, hf⟩ := Option.bind_eq_some_iff.mp hf
            refine ym_callV (pc := 108) (G2 := g_X8_wouldBring) (dep2 := 4) (As := [.int v42]) (st := []) (stk2 := [.long q108.1]) (r2 := (some (.long q108.1))) (h1 := q108.2) dX8_settled_108 (ok_X8_wouldBring e108) (sc_X8_settled_X8_wouldBring) wd_1221 wd_1223 wd_62 (ci := 8) (q0 := (RX8, TX8, 58)) rfl (by decide) rfl f108 rfl rfl (ym_st4 (Nat.le_of_ble_eq_true rfl)) rfl ?_
            refine ym_lstore (pc := 111) (lv' := [(8, .long q108.1), (6, .long q101.1), (4, .long q94.1), (3, .int v42), (2, .int v35), (0, va_rf a0), (1, .int a1)]) dX8_settled_111 (by decide) ⟨trivial, trivial, trivial, trivial, trivial, trivial, trivial⟩ rfl ?_
            refine ym_lload (pc := 113) 2 dX8_settled_113 rfl ?_
            refine ym_lconst (pc := 115) (v := 0) dX8_settled_115 (by decide) ?_
            by_cases c116 : q94.1 < 0
            · rw [if_pos c116] at hf
              refine ym_lcmp_lt_y (pc := 116) (tgt := 157) dX8_settled_116 dX8_settled_117 (by decide) c116 ?_
              exact ym_sub [5, 6, 4, 3, 1, 0] rfl (ob_X8_settled_157 hf)
            · rw [if_neg c116] at hf
              refine ym_lcmp_lt_n (pc := 116) (tgt := 157) dX8_settled_116 dX8_settled_117 (by decide) c116 ?_
              refine ym_lload (pc := 120) 2 dX8_settled_120 rfl ?_
              refine ym_lload (pc := 122) 1 dX8_settled_122 rfl ?_
              refine ym_lconst (pc := 124) (v := 0) dX8_settled_124 (by decide) ?_
              by_cases c125 : q101.1 ≤ 0
              · rw [if_pos c125] at hf
                refine ym_lcmp_le_y (pc := 125) (tgt := 134) dX8_settled_125 dX8_settled_126 (by decide) c125 ?_
                refine ym_lconst (pc := 134) (v := 0) dX8_settled_134 (by decide) ?_
                exact ym_sub [5, 6, 4, 3, 1, 0] rfl (ob_X8_settled_135 hf)
              · rw [if_neg c125] at hf
                refine ym_lcmp_le_n (pc := 125) (tgt := 134) dX8_settled_125 dX8_settled_126 (by decide) c125 ?_
                refine ym_lload (pc := 129) 1 dX8_settled_129 rfl ?_
                refine ym_goto (pc := 131) (tgt := 135) dX8_settled_131 (by decide) ?_
                exact ym_sub [5, 6, 4, 3, 1, 0] rfl (ob_X8_settled_135 hf)
          · rw [if_neg c81] at hf
            refine ym_if_le_n (pc := 81) (tgt := 92) dX8_settled_81 (by decide) c81 ?_
            refine ym_aload_n (pc := 84) 2 dX8_settled_84 rfl rfl ?_
            refine ym_iload_n (pc := 85) 0 dX8_settled_85 rfl rfl ?_
            obtain ⟨o86, f86, hf⟩ := Option.bind_eq_some_iff.mp hf
            obtain ⟨q86, e86, hf⟩ := Option.bind_eq_some_iff.mp hf
            refine ym_callV (pc := 86) (G2 := g_X8_notOpen) (dep2 := 1) (As := [.int v42]) (st := []) (stk2 := [.int q86.1]) (r2 := (some (.int q86.1))) (h1 := q86.2) dX8_settled_86 (ok_X8_notOpen e86) (sc_X8_settled_X8_notOpen) wd_1127 wd_1129 wd_41 (ci := 8) (q0 := (RX8, TX8, 58)) rfl (by decide) rfl f86 rfl rfl (ym_st4 (Nat.le_of_ble_eq_true rfl)) rfl ?_
            refine ym_ineg (pc := 89) dX8_settled_89 ?_
            refine ym_i2l (pc := 90) dX8_settled_90 ?_
            cases hf
            exact ym_lret (pc := 91) dX8_settled_91 rfl
        · rw [if_neg c65] at hf
          refine ym_if_le_n (pc := 65) (tgt := 76) dX8_settled_65 (by decide) c65 ?_
          refine ym_aload_n (pc := 68) 2 dX8_settled_68 rfl rfl ?_
          refine ym_iload_n (pc := 69) 1 dX8_settled_69 rfl rfl ?_
          obtain ⟨o70, f70, hf⟩ := Option.bind_eq_some_iff.mp hf
          obtain ⟨q70, e70, hf⟩ := Option.bind_eq_some_iff.mp hf
          refine ym_callV (pc := 70) (G2 := g_X8_notOpen) (dep2 := 1) (As := [.int v35]) (st := []) (stk2 := [.int q70.1]) (r2 := (some (.int q70.1))) (h1 := q70.2) dX8_settled_70 (ok_X8_notOpen e70) (sc_X8_settled_X8_notOpen) wd_1127 wd_1129 wd_41 (ci := 8) (q0 := (RX8, TX8, 58)) rfl (by decide) rfl f70 rfl rfl (ym_st4 (Nat.le_of_ble_eq_true rfl)) rfl ?_
          refine ym_ineg (pc := 73) dX8_settled_73 ?_
          refine ym_i2l (pc := 74) dX8_settled_74 ?_
          cases hf
          exact ym_lret (pc := 75) dX8_settled_75 rfl
      · rw [if_neg c49] at hf
        refine ym_if_le_n (pc := 49) (tgt := 60) dX8_settled_49 (by decide) c49 ?_
        refine ym_aload_n (pc := 52) 2 dX8_settled_52 rfl rfl ?_
        refine ym_iload_n (pc := 53) 3 dX8_settled_53 rfl rfl ?_
        obtain ⟨o54, f54, hf⟩ := Option.bind_eq_some_iff.mp hf
        obtain ⟨q54, e54, hf⟩ := Option.bind_eq_some_iff.mp hf
        refine ym_callV (pc := 54) (G2 := g_X8_notOpen) (dep2 := 1) (As := [.int a1]) (st := []) (stk2 := [.int q54.1]) (r2 := (some (.int q54.1))) (h1 := q54.2) dX8_settled_54 (ok_X8_notOpen e54) (sc_X8_settled_X8_notOpen) wd_1127 wd_1129 wd_41 (ci := 8) (q0 := (RX8, TX8, 58)) rfl (by decide) rfl f54 rfl rfl (ym_st4 (Nat.le_of_ble_eq_true rfl)) rfl ?_
        refine ym_ineg (pc := 57) dX8_settled_57 ?_
        refine ym_i2l (pc := 58) dX8_settled_58 ?_
        cases hf
        exact ym_lret (pc := 59) dX8_settled_59 rfl
    · rw [if_neg c23] at hf
      refine ym_icmp_eq_n (pc := 23) (tgt := 30) dX8_settled_23 (by decide) c23 ?_
      refine ym_ldc2 (pc := 26) dX8_settled_26 wd_1179 ?_
      cases hf
      exact ym_lret (pc := 29) dX8_settled_29 rfl
  · rw [if_neg c5] at hf
    refine ym_if_le_n (pc := 5) (tgt := 16) dX8_settled_5 (by decide) c5 ?_
    refine ym_aload_n (pc := 8) 0 dX8_settled_8 rfl rfl ?_
    refine ym_iload_n (pc := 9) 1 dX8_settled_9 rfl rfl ?_
    obtain ⟨o10, f10, hf⟩ := Option.bind_eq_some_iff.mp hf
    obtain ⟨q10, e10, hf⟩ := Option.bind_eq_some_iff.mp hf
    refine ym_callV (pc := 10) (G2 := g_X8_noLot) (dep2 := 1) (As := [.int a1]) (st := []) (stk2 := [.int q10.1]) (r2 := (some (.int q10.1))) (h1 := q10.2) dX8_settled_10 (ok_X8_noLot e10) (sc_X8_settled_X8_noLot) wd_1055 wd_1057 wd_27 (ci := 8) (q0 := (RX8, TX8, 58)) rfl (by decide) rfl f10 rfl rfl (ym_st4 (Nat.le_of_ble_eq_true rfl)) rfl ?_
    refine ym_ineg (pc := 13) dX8_settled_13 ?_
    refine ym_i2l (pc := 14) dX8_settled_14 ?_
    cases hf
    exact ym_lret (pc := 15) dX8_settled_15 rfl
