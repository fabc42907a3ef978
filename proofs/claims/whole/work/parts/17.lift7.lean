theorem dX7_join_0 : decode cX7_join 0 = .ok (.aload_n 0, 1) := by decide +kernel
theorem dX7_join_1 : decode cX7_join 1 = .ok (.invokevirtual 58, 3) := by decide +kernel
theorem dX7_join_4 : decode cX7_join 4 = .ok (.aload_n 0, 1) := by decide +kernel
theorem dX7_join_5 : decode cX7_join 5 = .ok (.iload_n 1, 1) := by decide +kernel
theorem dX7_join_6 : decode cX7_join 6 = .ok (.invokevirtual 89, 3) := by decide +kernel
theorem dX7_join_9 : decode cX7_join 9 = .ok (.astore 4, 2) := by decide +kernel
theorem dX7_join_11 : decode cX7_join 11 = .ok (.aload 4, 2) := by decide +kernel
theorem dX7_join_13 : decode cX7_join 13 = .ok (.ifnonnull 12, 3) := by decide +kernel
theorem dX7_join_16 : decode cX7_join 16 = .ok (.aload_n 0, 1) := by decide +kernel
theorem dX7_join_17 : decode cX7_join 17 = .ok (.iload_n 1, 1) := by decide +kernel
theorem dX7_join_18 : decode cX7_join 18 = .ok (.invokestatic 93, 3) := by decide +kernel
theorem dX7_join_21 : decode cX7_join 21 = .ok (.invokevirtual 61, 3) := by decide +kernel
theorem dX7_join_24 : decode cX7_join 24 = .ok (.lreturn, 1) := by decide +kernel
theorem dX7_join_25 : decode cX7_join 25 = .ok (.aload_n 0, 1) := by decide +kernel
theorem dX7_join_26 : decode cX7_join 26 = .ok (.iload_n 2, 1) := by decide +kernel
theorem dX7_join_27 : decode cX7_join 27 = .ok (.invokevirtual 89, 3) := by decide +kernel
theorem dX7_join_30 : decode cX7_join 30 = .ok (.astore 5, 2) := by decide +kernel
theorem dX7_join_32 : decode cX7_join 32 = .ok (.aload 5, 2) := by decide +kernel
theorem dX7_join_34 : decode cX7_join 34 = .ok (.ifnonnull 12, 3) := by decide +kernel
theorem dX7_join_37 : decode cX7_join 37 = .ok (.aload_n 0, 1) := by decide +kernel
theorem dX7_join_38 : decode cX7_join 38 = .ok (.iload_n 2, 1) := by decide +kernel
theorem dX7_join_39 : decode cX7_join 39 = .ok (.invokestatic 93, 3) := by decide +kernel
theorem dX7_join_42 : decode cX7_join 42 = .ok (.invokevirtual 61, 3) := by decide +kernel
theorem dX7_join_45 : decode cX7_join 45 = .ok (.lreturn, 1) := by decide +kernel
theorem dX7_join_46 : decode cX7_join 46 = .ok (.aload_n 0, 1) := by decide +kernel
theorem dX7_join_47 : decode cX7_join 47 = .ok (.iload_n 3, 1) := by decide +kernel
theorem dX7_join_48 : decode cX7_join 48 = .ok (.invokevirtual 89, 3) := by decide +kernel
theorem dX7_join_51 : decode cX7_join 51 = .ok (.astore 6, 2) := by decide +kernel
theorem dX7_join_53 : decode cX7_join 53 = .ok (.aload 6, 2) := by decide +kernel
theorem dX7_join_55 : decode cX7_join 55 = .ok (.ifnonnull 12, 3) := by decide +kernel
theorem dX7_join_58 : decode cX7_join 58 = .ok (.aload_n 0, 1) := by decide +kernel
theorem dX7_join_59 : decode cX7_join 59 = .ok (.iload_n 3, 1) := by decide +kernel
theorem dX7_join_60 : decode cX7_join 60 = .ok (.invokestatic 93, 3) := by decide +kernel
theorem dX7_join_63 : decode cX7_join 63 = .ok (.invokevirtual 61, 3) := by decide +kernel
theorem dX7_join_66 : decode cX7_join 66 = .ok (.lreturn, 1) := by decide +kernel
theorem dX7_join_67 : decode cX7_join 67 = .ok (.iload_n 1, 1) := by decide +kernel
theorem dX7_join_68 : decode cX7_join 68 = .ok (.iload_n 2, 1) := by decide +kernel
theorem dX7_join_69 : decode cX7_join 69 = .ok (.if_icmp .eq 13, 3) := by decide +kernel
theorem dX7_join_72 : decode cX7_join 72 = .ok (.iload_n 1, 1) := by decide +kernel
theorem dX7_join_73 : decode cX7_join 73 = .ok (.iload_n 3, 1) := by decide +kernel
theorem dX7_join_74 : decode cX7_join 74 = .ok (.if_icmp .eq 8, 3) := by decide +kernel
theorem dX7_join_77 : decode cX7_join 77 = .ok (.iload_n 2, 1) := by decide +kernel
theorem dX7_join_78 : decode cX7_join 78 = .ok (.iload_n 3, 1) := by decide +kernel
theorem dX7_join_79 : decode cX7_join 79 = .ok (.if_icmp .ne 10, 3) := by decide +kernel
theorem dX7_join_82 : decode cX7_join 82 = .ok (.aload_n 0, 1) := by decide +kernel
theorem dX7_join_83 : decode cX7_join 83 = .ok (.bipush 13, 2) := by decide +kernel
theorem dX7_join_85 : decode cX7_join 85 = .ok (.invokevirtual 61, 3) := by decide +kernel
theorem dX7_join_88 : decode cX7_join 88 = .ok (.lreturn, 1) := by decide +kernel
theorem dX7_join_89 : decode cX7_join 89 = .ok (.aload 4, 2) := by decide +kernel
theorem dX7_join_91 : decode cX7_join 91 = .ok (.invokevirtual 183, 3) := by decide +kernel
theorem dX7_join_94 : decode cX7_join 94 = .ok (.ifCond .eq 19, 3) := by decide +kernel
theorem dX7_join_97 : decode cX7_join 97 = .ok (.aload 5, 2) := by decide +kernel
theorem dX7_join_99 : decode cX7_join 99 = .ok (.invokevirtual 183, 3) := by decide +kernel
theorem dX7_join_102 : decode cX7_join 102 = .ok (.ifCond .eq 11, 3) := by decide +kernel
theorem dX7_join_105 : decode cX7_join 105 = .ok (.aload 6, 2) := by decide +kernel
theorem dX7_join_107 : decode cX7_join 107 = .ok (.invokevirtual 183, 3) := by decide +kernel
theorem dX7_join_110 : decode cX7_join 110 = .ok (.ifCond .ne 9, 3) := by decide +kernel
theorem dX7_join_113 : decode cX7_join 113 = .ok (.aload_n 0, 1) := by decide +kernel
theorem dX7_join_114 : decode cX7_join 114 = .ok (.iconst 4, 1) := by decide +kernel
theorem dX7_join_115 : decode cX7_join 115 = .ok (.invokevirtual 61, 3) := by decide +kernel
theorem dX7_join_118 : decode cX7_join 118 = .ok (.lreturn, 1) := by decide +kernel
theorem dX7_join_119 : decode cX7_join 119 = .ok (.aload 4, 2) := by decide +kernel
theorem dX7_join_121 : decode cX7_join 121 = .ok (.invokevirtual 104, 3) := by decide +kernel
theorem dX7_join_124 : decode cX7_join 124 = .ok (.ifCond .ne 19, 3) := by decide +kernel
theorem dX7_join_127 : decode cX7_join 127 = .ok (.aload 5, 2) := by decide +kernel
theorem dX7_join_129 : decode cX7_join 129 = .ok (.invokevirtual 104, 3) := by decide +kernel
theorem dX7_join_132 : decode cX7_join 132 = .ok (.ifCond .ne 11, 3) := by decide +kernel
theorem dX7_join_135 : decode cX7_join 135 = .ok (.aload 6, 2) := by decide +kernel
theorem dX7_join_137 : decode cX7_join 137 = .ok (.invokevirtual 104, 3) := by decide +kernel
theorem dX7_join_140 : decode cX7_join 140 = .ok (.ifCond .eq 10, 3) := by decide +kernel
theorem dX7_join_143 : decode cX7_join 143 = .ok (.aload_n 0, 1) := by decide +kernel
theorem dX7_join_144 : decode cX7_join 144 = .ok (.bipush 9, 2) := by decide +kernel
theorem dX7_join_146 : decode cX7_join 146 = .ok (.invokevirtual 61, 3) := by decide +kernel
theorem dX7_join_149 : decode cX7_join 149 = .ok (.lreturn, 1) := by decide +kernel
theorem dX7_join_150 : decode cX7_join 150 = .ok (.aload 4, 2) := by decide +kernel
theorem dX7_join_152 : decode cX7_join 152 = .ok (.invokevirtual 222, 3) := by decide +kernel
theorem dX7_join_155 : decode cX7_join 155 = .ok (.ifCond .ne 19, 3) := by decide +kernel
theorem dX7_join_158 : decode cX7_join 158 = .ok (.aload 5, 2) := by decide +kernel
theorem dX7_join_160 : decode cX7_join 160 = .ok (.invokevirtual 222, 3) := by decide +kernel
theorem dX7_join_163 : decode cX7_join 163 = .ok (.ifCond .ne 11, 3) := by decide +kernel
theorem dX7_join_166 : decode cX7_join 166 = .ok (.aload 6, 2) := by decide +kernel
theorem dX7_join_168 : decode cX7_join 168 = .ok (.invokevirtual 222, 3) := by decide +kernel
theorem dX7_join_171 : decode cX7_join 171 = .ok (.ifCond .eq 10, 3) := by decide +kernel
theorem dX7_join_174 : decode cX7_join 174 = .ok (.aload_n 0, 1) := by decide +kernel
theorem dX7_join_175 : decode cX7_join 175 = .ok (.bipush 8, 2) := by decide +kernel
theorem dX7_join_177 : decode cX7_join 177 = .ok (.invokevirtual 61, 3) := by decide +kernel
theorem dX7_join_180 : decode cX7_join 180 = .ok (.lreturn, 1) := by decide +kernel
theorem dX7_join_181 : decode cX7_join 181 = .ok (.aload 4, 2) := by decide +kernel
theorem dX7_join_183 : decode cX7_join 183 = .ok (.getfield 129, 3) := by decide +kernel
theorem dX7_join_186 : decode cX7_join 186 = .ok (.bipush 11, 2) := by decide +kernel
theorem dX7_join_188 : decode cX7_join 188 = .ok (.iload_n 1, 1) := by decide +kernel
theorem dX7_join_189 : decode cX7_join 189 = .ok (.i2l, 1) := by decide +kernel
theorem dX7_join_190 : decode cX7_join 190 = .ok (.invokevirtual 76, 3) := by decide +kernel
theorem dX7_join_193 : decode cX7_join 193 = .ok (.aload 4, 2) := by decide +kernel
theorem dX7_join_195 : decode cX7_join 195 = .ok (.getfield 129, 3) := by decide +kernel
theorem dX7_join_198 : decode cX7_join 198 = .ok (.bipush 12, 2) := by decide +kernel
theorem dX7_join_200 : decode cX7_join 200 = .ok (.iload_n 2, 1) := by decide +kernel
theorem dX7_join_201 : decode cX7_join 201 = .ok (.i2l, 1) := by decide +kernel
theorem dX7_join_202 : decode cX7_join 202 = .ok (.invokevirtual 76, 3) := by decide +kernel
theorem dX7_join_205 : decode cX7_join 205 = .ok (.aload 4, 2) := by decide +kernel
theorem dX7_join_207 : decode cX7_join 207 = .ok (.getfield 129, 3) := by decide +kernel
theorem dX7_join_210 : decode cX7_join 210 = .ok (.bipush 13, 2) := by decide +kernel
theorem dX7_join_212 : decode cX7_join 212 = .ok (.iload_n 3, 1) := by decide +kernel
theorem dX7_join_213 : decode cX7_join 213 = .ok (.i2l, 1) := by decide +kernel
theorem dX7_join_214 : decode cX7_join 214 = .ok (.invokevirtual 76, 3) := by decide +kernel
theorem dX7_join_217 : decode cX7_join 217 = .ok (.aload 5, 2) := by decide +kernel
theorem dX7_join_219 : decode cX7_join 219 = .ok (.getfield 129, 3) := by decide +kernel
theorem dX7_join_222 : decode cX7_join 222 = .ok (.bipush 11, 2) := by decide +kernel
theorem dX7_join_224 : decode cX7_join 224 = .ok (.iload_n 1, 1) := by decide +kernel
theorem dX7_join_225 : decode cX7_join 225 = .ok (.i2l, 1) := by decide +kernel
theorem dX7_join_226 : decode cX7_join 226 = .ok (.invokevirtual 76, 3) := by decide +kernel
theorem dX7_join_229 : decode cX7_join 229 = .ok (.aload 6, 2) := by decide +kernel
theorem dX7_join_231 : decode cX7_join 231 = .ok (.getfield 129, 3) := by decide +kernel
theorem dX7_join_234 : decode cX7_join 234 = .ok (.bipush 11, 2) := by decide +kernel
theorem dX7_join_236 : decode cX7_join 236 = .ok (.iload_n 1, 1) := by decide +kernel
theorem dX7_join_237 : decode cX7_join 237 = .ok (.i2l, 1) := by decide +kernel
theorem dX7_join_238 : decode cX7_join 238 = .ok (.invokevirtual 76, 3) := by decide +kernel
theorem dX7_join_241 : decode cX7_join 241 = .ok (.lconst 1, 1) := by decide +kernel
theorem dX7_join_242 : decode cX7_join 242 = .ok (.lreturn, 1) := by decide +kernel
theorem sc_X7_join_X7_startAct : ym_site g_X7_join g_X7_startAct 5 2 0 := ⟨by decide, by decide, wd_224, wd_76, by decide +kernel⟩
theorem sc_X7_join_X7_lotAt : ym_site g_X7_join g_X7_lotAt 5 3 1 := ⟨by decide, by decide, wd_374, wd_76, by decide +kernel⟩
theorem sc_X7_join_X7_whyNoLot : ym_site g_X7_join g_X7_whyNoLot 5 1 1 := ⟨by decide, by decide, wd_377, wd_76, by decide +kernel⟩
theorem sc_X7_join_X7_refuse : ym_site g_X7_join g_X7_refuse 5 4 1 := ⟨by decide, by decide, wd_232, wd_76, by decide +kernel⟩
def bl_X7_join_82 (N : Nat) (w0 : Option Nat) (h : ym_H) : Option (Int64 × ym_H) :=
  Option.bind (ym_ob h w0 7) fun o85 =>
  Option.bind (fn_X7_refuse N w0 13 h) fun q85 =>
  some (q85.1, q85.2)
set_option maxRecDepth 20000 in
set_option maxHeartbeats 4000000 in
theorem ob_X7_join_82 {D : ym_D} {b0 : Nat} {N : Nat} {w0 : Option Nat} {h h' : ym_H} {r : Int64} (hf : bl_X7_join_82 N w0 h = some (r, h')) : ym_Y D b0 g_X7_join 5 82 [(0, va_rf w0)] [] h (some (.long r)) h' := by
  unfold bl_X7_join_82 at hf
  refine ym_aload_n (pc := 82) 0 dX7_join_82 rfl rfl ?_
  refine ym_bipush (pc := 83) (v := 13) dX7_join_83 (by decide) ?_
  obtain ⟨o85, f85, hf⟩ := Option.bind_eq_some_iff.mp hf
  obtain ⟨q85, e85, hf⟩ := Option.bind_eq_some_iff.mp hf
  refine ym_callV (pc := 85) (G2 := g_X7_refuse) (dep2 := 4) (As := [.int 13]) (st := []) (stk2 := [.long q85.1]) (r2 := (some (.long q85.1))) (h1 := q85.2) dX7_join_85 (ok_X7_refuse e85) (sc_X7_join_X7_refuse) wd_229 wd_231 wd_1 (ci := 7) (q0 := (RX7, TX7, 10)) rfl (by decide) rfl f85 rfl rfl (ym_st4 (Nat.le_of_ble_eq_true rfl)) rfl ?_
  cases hf
  exact ym_lret (pc := 88) dX7_join_88 rfl
theorem sc_X7_join_X4_isRaised : ym_site g_X7_join g_X4_isRaised 5 1 0 := ⟨by decide, by decide, wd_467, wd_87, by decide +kernel⟩
def bl_X7_join_113 (N : Nat) (w0 : Option Nat) (h : ym_H) : Option (Int64 × ym_H) :=
  Option.bind (ym_ob h w0 7) fun o115 =>
  Option.bind (fn_X7_refuse N w0 4 h) fun q115 =>
  some (q115.1, q115.2)
set_option maxRecDepth 20000 in
set_option maxHeartbeats 4000000 in
theorem ob_X7_join_113 {D : ym_D} {b0 : Nat} {N : Nat} {w0 : Option Nat} {h h' : ym_H} {r : Int64} (hf : bl_X7_join_113 N w0 h = some (r, h')) : ym_Y D b0 g_X7_join 5 113 [(0, va_rf w0)] [] h (some (.long r)) h' := by
  unfold bl_X7_join_113 at hf
  refine ym_aload_n (pc := 113) 0 dX7_join_113 rfl rfl ?_
  refine ym_iconst (pc := 114) (v := 4) dX7_join_114 (by decide) ?_
  obtain ⟨o115, f115, hf⟩ := Option.bind_eq_some_iff.mp hf
  obtain ⟨q115, e115, hf⟩ := Option.bind_eq_some_iff.mp hf
  refine ym_callV (pc := 115) (G2 := g_X7_refuse) (dep2 := 4) (As := [.int 4]) (st := []) (stk2 := [.long q115.1]) (r2 := (some (.long q115.1))) (h1 := q115.2) dX7_join_115 (ok_X7_refuse e115) (sc_X7_join_X7_refuse) wd_229 wd_231 wd_1 (ci := 7) (q0 := (RX7, TX7, 10)) rfl (by decide) rfl f115 rfl rfl (ym_st4 (Nat.le_of_ble_eq_true rfl)) rfl ?_
  cases hf
  exact ym_lret (pc := 118) dX7_join_118 rfl
theorem sc_X7_join_X4_stateNow : ym_site g_X7_join g_X4_stateNow 5 2 0 := ⟨by decide, by decide, wd_388, wd_87, by decide +kernel⟩
theorem sc_X7_join_X4_isJoined : ym_site g_X7_join g_X4_isJoined 5 2 0 := ⟨by decide, by decide, wd_644, wd_87, by decide +kernel⟩
theorem sc_X7_join_X2_put : ym_site g_X7_join g_X2_put 5 4 2 := ⟨by decide, by decide, wd_284, wd_78, by decide +kernel⟩
def bl_X7_join_174 (N : Nat) (w0 : Option Nat) (h : ym_H) : Option (Int64 × ym_H) :=
  Option.bind (ym_ob h w0 7) fun o177 =>
  Option.bind (fn_X7_refuse N w0 8 h) fun q177 =>
  some (q177.1, q177.2)
set_option maxRecDepth 20000 in
set_option maxHeartbeats 4000000 in
theorem ob_X7_join_174 {D : ym_D} {b0 : Nat} {N : Nat} {w0 : Option Nat} {h h' : ym_H} {r : Int64} (hf : bl_X7_join_174 N w0 h = some (r, h')) : ym_Y D b0 g_X7_join 5 174 [(0, va_rf w0)] [] h (some (.long r)) h' := by
  unfold bl_X7_join_174 at hf
  refine ym_aload_n (pc := 174) 0 dX7_join_174 rfl rfl ?_
  refine ym_bipush (pc := 175) (v := 8) dX7_join_175 (by decide) ?_
  obtain ⟨o177, f177, hf⟩ := Option.bind_eq_some_iff.mp hf
  obtain ⟨q177, e177, hf⟩ := Option.bind_eq_some_iff.mp hf
  refine ym_callV (pc := 177) (G2 := g_X7_refuse) (dep2 := 4) (As := [.int 8]) (st := []) (stk2 := [.long q177.1]) (r2 := (some (.long q177.1))) (h1 := q177.2) dX7_join_177 (ok_X7_refuse e177) (sc_X7_join_X7_refuse) wd_229 wd_231 wd_1 (ci := 7) (q0 := (RX7, TX7, 10)) rfl (by decide) rfl f177 rfl rfl (ym_st4 (Nat.le_of_ble_eq_true rfl)) rfl ?_
  cases hf
  exact ym_lret (pc := 180) dX7_join_180 rfl
def bl_X7_join_143 (N : Nat) (w0 : Option Nat) (h : ym_H) : Option (Int64 × ym_H) :=
  Option.bind (ym_ob h w0 7) fun o146 =>
  Option.bind (fn_X7_refuse N w0 9 h) fun q146 =>
  some (q146.1, q146.2)
set_option maxRecDepth 20000 in
set_option maxHeartbeats 4000000 in
theorem ob_X7_join_143 {D : ym_D} {b0 : Nat} {N : Nat} {w0 : Option Nat} {h h' : ym_H} {r : Int64} (hf : bl_X7_join_143 N w0 h = some (r, h')) : ym_Y D b0 g_X7_join 5 143 [(0, va_rf w0)] [] h (some (.long r)) h' := by
  unfold bl_X7_join_143 at hf
  refine ym_aload_n (pc := 143) 0 dX7_join_143 rfl rfl ?_
  refine ym_bipush (pc := 144) (v := 9) dX7_join_144 (by decide) ?_
  obtain ⟨o146, f146, hf⟩ := Option.bind_eq_some_iff.mp hf
  obtain ⟨q146, e146, hf⟩ := Option.bind_eq_some_iff.mp hf
  refine ym_callV (pc := 146) (G2 := g_X7_refuse) (dep2 := 4) (As := [.int 9]) (st := []) (stk2 := [.long q146.1]) (r2 := (some (.long q146.1))) (h1 := q146.2) dX7_join_146 (ok_X7_refuse e146) (sc_X7_join_X7_refuse) wd_229 wd_231 wd_1 (ci := 7) (q0 := (RX7, TX7, 10)) rfl (by decide) rfl f146 rfl rfl (ym_st4 (Nat.le_of_ble_eq_true rfl)) rfl ?_
  cases hf
  exact ym_lret (pc := 149) dX7_join_149 rfl
def fn_X7_join (N : Nat) (a0 : Option Nat) (a1 : Int32) (a2 : Int32) (a3 : Int32) (h : ym_H) : Option (Int64 × ym_H) :=
  Option.bind (ym_ob h a0 7) fun o1 =>
  Option.bind (fn_X7_startAct N a0 h) fun q1 =>
  Option.bind (ym_ob q1.2 a0 7) fun o6 =>
  Option.bind (fn_X7_lotAt N a0 a1 q1.2) fun q6 =>
  if q6.1 = none then
    Option.bind (fn_X7_whyNoLot N a1 q6.2) fun q18 =>
    Option.bind (ym_ob q18.2 a0 7) fun o21 =>
    Option.bind (fn_X7_refuse N a0 q18.1 q18.2) fun q21 =>
    some (q21.1, q21.2)
  else
    Option.bind (ym_ob q6.2 a0 7) fun o27 =>
    Option.bind (fn_X7_lotAt N a0 a2 q6.2) fun q27 =>
    if q27.1 = none then
      Option.bind (fn_X7_whyNoLot N a2 q27.2) fun q39 =>
      Option.bind (ym_ob q39.2 a0 7) fun o42 =>
      Option.bind (fn_X7_refuse N a0 q39.1 q39.2) fun q42 =>
      some (q42.1, q42.2)
    else
      Option.bind (ym_ob q27.2 a0 7) fun o48 =>
      Option.bind (fn_X7_lotAt N a0 a3 q27.2) fun q48 =>
      if q48.1 = none then
        Option.bind (fn_X7_whyNoLot N a3 q48.2) fun q60 =>
        Option.bind (ym_ob q60.2 a0 7) fun o63 =>
        Option.bind (fn_X7_refuse N a0 q60.1 q60.2) fun q63 =>
        some (q63.1, q63.2)
      else
        if a1 = a2 then
          bl_X7_join_82 N a0 q48.2
        else
          if a1 = a3 then
            bl_X7_join_82 N a0 q48.2
          else
            if a2 = a3 then
              bl_X7_join_82 N a0 q48.2
            else
              Option.bind (ym_ob q48.2 q6.1 4) fun o91 =>
              Option.bind (fn_X4_isRaised N q6.1 q48.2) fun q91 =>
              if q91.1 = 0 then
                bl_X7_join_113 N a0 q91.2
              else
                Option.bind (ym_ob q91.2 q27.1 4) fun o99 =>
                Option.bind (fn_X4_isRaised N q27.1 q91.2) fun q99 =>
                if q99.1 = 0 then
                  bl_X7_join_113 N a0 q99.2
                else
                  Option.bind (ym_ob q99.2 q48.1 4) fun o107 =>
                  Option.bind (fn_X4_isRaised N q48.1 q99.2) fun q107 =>
                  if q107.1 = 0 then
                    bl_X7_join_113 N a0 q107.2
                  else
                    Option.bind (ym_ob q107.2 q6.1 4) fun o121 =>
                    Option.bind (fn_X4_stateNow N q6.1 q107.2) fun q121 =>
                    if q121.1 = 0 then
                      Option.bind (ym_ob q121.2 q27.1 4) fun o129 =>
                      Option.bind (fn_X4_stateNow N q27.1 q121.2) fun q129 =>
                      if q129.1 = 0 then
                        Option.bind (ym_ob q129.2 q48.1 4) fun o137 =>
                        Option.bind (fn_X4_stateNow N q48.1 q129.2) fun q137 =>
                        if q137.1 = 0 then
                          Option.bind (ym_ob q137.2 q6.1 4) fun o152 =>
                          Option.bind (fn_X4_isJoined N q6.1 q137.2) fun q152 =>
                          if q152.1 = 0 then
                            Option.bind (ym_ob q152.2 q27.1 4) fun o160 =>
                            Option.bind (fn_X4_isJoined N q27.1 q152.2) fun q160 =>
                            if q160.1 = 0 then
                              Option.bind (ym_ob q160.2 q48.1 4) fun o168 =>
                              Option.bind (fn_X4_isJoined N q48.1 q160.2) fun q168 =>
                              if q168.1 = 0 then
                                Option.bind (ym_gR q168.2 q6.1 4 2) fun v183 =>
                                Option.bind (ym_ob q168.2 v183 2) fun o190 =>
                                Option.bind (fn_X2_put N v183 11 (Int32.toInt64 a1) q168.2) fun q190 =>
                                Option.bind (ym_gR q190.2 q6.1 4 2) fun v195 =>
                                Option.bind (ym_ob q190.2 v195 2) fun o202 =>
                                Option.bind (fn_X2_put N v195 12 (Int32.toInt64 a2) q190.2) fun q202 =>
                                Option.bind (ym_gR q202.2 q6.1 4 2) fun v207 =>
                                Option.bind (ym_ob q202.2 v207 2) fun o214 =>
                                Option.bind (fn_X2_put N v207 13 (Int32.toInt64 a3) q202.2) fun q214 =>
                                Option.bind (ym_gR q214.2 q27.1 4 2) fun v219 =>
                                Option.bind (ym_ob q214.2 v219 2) fun o226 =>
                                Option.bind (fn_X2_put N v219 11 (Int32.toInt64 a1) q214.2) fun q226 =>
                                Option.bind (ym_gR q226.2 q48.1 4 2) fun v231 =>
                                Option.bind (ym_ob q226.2 v231 2) fun o238 =>
                                Option.bind (fn_X2_put N v231 11 (Int32.toInt64 a1) q226.2) fun q238 =>
                                some (1, q238.2)
                              else
                                bl_X7_join_174 N a0 q168.2
                            else
                              bl_X7_join_174 N a0 q160.2
                          else
                            bl_X7_join_174 N a0 q152.2
                        else
                          bl_X7_join_143 N a0 q137.2
                      else
                        bl_X7_join_143 N a0 q129.2
                    else
                      bl_X7_join_143 N a0 q121.2
set_option maxRecDepth 20000 in
set_option maxHeartbeats 4000000 in
theorem ok_X7_join {D : ym_D} {b0 : Nat} {N : Nat} {a0 : Option Nat} {a1 : Int32} {a2 : Int32} {a3 : Int32} {h h' : ym_H} {r : Int64} (hf : fn_X7_join N a0 a1 a2 a3 h = some (r, h')) : ym_M D b0 g_X7_join 5 [va_rf a0, .int a1, .int a2, .int a3] h (some (.long r)) h' := by
  unfold fn_X7_join at hf
  refine ym_meth (lv := [(0, va_rf a0), (1, .int a1), (2, .int a2), (3, .int a3)]) (by decide) (by simp [lg_sl, ym_c1, ym_cI, ym_cL, g_X7_join]) (by simp [lv_args, ym_c1, ym_cI, ym_cL]) ?_
  refine ym_aload_n (pc := 0) 0 dX7_join_0 rfl rfl ?_
  obtain ⟨o1, f1, hf⟩ := Option.bind_eq_some_iff.mp hf
  obtain ⟨q1, e1, hf⟩ := Option.bind_eq_some_iff.mp hf
  refine ym_callV (pc := 1) (G2 := g_X7_startAct) (dep2 := 2) (As := []) (st := []) (stk2 := []) (r2 := none) (h1 := q1.2) dX7_join_1 (ok_X7_startAct e1) (sc_X7_join_X7_startAct) wd_221 wd_223 wd_0 (ci := 7) (q0 := (RX7, TX7, 10)) rfl (by decide) rfl f1 rfl rfl (ym_st4 (Nat.le_of_ble_eq_true rfl)) rfl ?_
  refine ym_aload_n (pc := 4) 0 dX7_join_4 rfl rfl ?_
  refine ym_iload_n (pc := 5) 1 dX7_join_5 rfl rfl ?_
  obtain ⟨o6, f6, hf⟩ := Option.bind_eq_some_iff.mp hf
  obtain ⟨q6, e6, hf⟩ := Option.bind_eq_some_iff.mp hf
  refine ym_callV (pc := 6) (G2 := g_X7_lotAt) (dep2 := 3) (As := [.int a1]) (st := []) (stk2 := [va_rf q6.1]) (r2 := (some (va_rf q6.1))) (h1 := q6.2) dX7_join_6 (ok_X7_lotAt e6) (sc_X7_join_X7_lotAt) wd_371 wd_373 wd_5 (ci := 7) (q0 := (RX7, TX7, 10)) rfl (by decide) rfl f6 rfl rfl (ym_st4 (Nat.le_of_ble_eq_true rfl)) rfl ?_
  refine ym_astore (pc := 9) (lv' := [(4, va_rf q6.1), (0, va_rf a0), (1, .int a1), (2, .int a2), (3, .int a3)]) dX7_join_9 (by decide) ⟨trivial, trivial, trivial, rfl, trivial⟩ rfl ?_
  refine ym_aload (pc := 11) 0 dX7_join_11 rfl ?_
  by_cases c13 : q6.1 = none
  · rw [if_pos c13] at hf
    refine ym_ifnonnull_y (pc := 13) (tgt := 25) dX7_join_13 (by decide) c13 ?_
    refine ym_aload_n (pc := 16) 1 dX7_join_16 rfl rfl ?_
    refine ym_iload_n (pc := 17) 2 dX7_join_17 rfl rfl ?_
    obtain ⟨q18, e18, hf⟩ := Option.bind_eq_some_iff.mp hf
    refine ym_callS (pc := 18) (G2 := g_X7_whyNoLot) (dep2 := 1) (As := [.int a1]) (st := [va_rf a0]) (stk2 := [.int q18.1, va_rf a0]) (r2 := (some (.int q18.1))) (h1 := q18.2) dX7_join_18 (ok_X7_whyNoLot e18) (sc_X7_join_X7_whyNoLot) wd_375 wd_376 rfl rfl (ym_st4 (Nat.le_of_ble_eq_true rfl)) rfl ?_
    obtain ⟨o21, f21, hf⟩ := Option.bind_eq_some_iff.mp hf
    obtain ⟨q21, e21, hf⟩ := Option.bind_eq_some_iff.mp hf
    refine ym_callV (pc := 21) (G2 := g_X7_refuse) (dep2 := 4) (As := [.int q18.1]) (st := []) (stk2 := [.long q21.1]) (r2 := (some (.long q21.1))) (h1 := q21.2) dX7_join_21 (ok_X7_refuse e21) (sc_X7_join_X7_refuse) wd_229 wd_231 wd_1 (ci := 7) (q0 := (RX7, TX7, 10)) rfl (by decide) rfl f21 rfl rfl (ym_st4 (Nat.le_of_ble_eq_true rfl)) rfl ?_
    cases hf
    exact ym_lret (pc := 24) dX7_join_24 rfl
  · rw [if_neg c13] at hf
    refine ym_ifnonnull_n (pc := 13) (tgt := 25) dX7_join_13 (by decide) c13 ?_
    refine ym_aload_n (pc := 25) 1 dX7_join_25 rfl rfl ?_
    refine ym_iload_n (pc := 26) 3 dX7_join_26 rfl rfl ?_
    obtain ⟨o27, f27, hf⟩ := Option.bind_eq_some_iff.mp hf
    obtain ⟨q27, e27, hf⟩ := Option.bind_eq_some_iff.mp hf
    refine ym_callV (pc := 27) (G2 := g_X7_lotAt) (dep2 := 3) (As := [.int a2]) (st := []) (stk2 := [va_rf q27.1]) (r2 := (some (va_rf q27.1))) (h1 := q27.2) dX7_join_27 (ok_X7_lotAt e27) (sc_X7_join_X7_lotAt) wd_371 wd_373 wd_5 (ci := 7) (q0 := (RX7, TX7, 10)) rfl (by decide) rfl f27 rfl rfl (ym_st4 (Nat.le_of_ble_eq_true rfl)) rfl ?_
    refine ym_astore (pc := 30) (lv' := [(5, va_rf q27.1), (4, va_rf q6.1), (0, va_rf a0), (1, .int a1), (2, .int a2), (3, .int a3)]) dX7_join_30 (by decide) ⟨ym_c1 q6.1, trivial, trivial, trivial, trivial, trivial⟩ rfl ?_
    refine ym_aload (pc := 32) 0 dX7_join_32 rfl ?_
    by_cases c34 : q27.1 = none
    · rw [if_pos c34] at hf
      refine ym_ifnonnull_y (pc := 34) (tgt := 46) dX7_join_34 (by decide) c34 ?_
      refine ym_aload_n (pc := 37) 2 dX7_join_37 rfl rfl ?_
      refine ym_iload_n (pc := 38) 4 dX7_join_38 rfl rfl ?_
      obtain ⟨q39, e39, hf⟩ := Option.bind_eq_some_iff.mp hf
      refine ym_callS (pc := 39) (G2 := g_X7_whyNoLot) (dep2 := 1) (As := [.int a2]) (st := [va_rf a0]) (stk2 := [.int q39.1, va_rf a0]) (r2 := (some (.int q39.1))) (h1 := q39.2) dX7_join_39 (ok_X7_whyNoLot e39) (sc_X7_join_X7_whyNoLot) wd_375 wd_376 rfl rfl (ym_st4 (Nat.le_of_ble_eq_true rfl)) rfl ?_
      obtain ⟨o42, f42, hf⟩ := Option.bind_eq_some_iff.mp hf
      obtain ⟨q42, e42, hf⟩ := Option.bind_eq_some_iff.mp hf
      refine ym_callV (pc := 42) (G2 := g_X7_refuse) (dep2 := 4) (As := [.int q39.1]) (st := []) (stk2 := [.long q42.1]) (r2 := (some (.long q42.1))) (h1 := q42.2) dX7_join_42 (ok_X7_refuse e42) (sc_X7_join_X7_refuse) wd_229 wd_231 wd_1 (ci := 7) (q0 := (RX7, TX7, 10)) rfl (by decide) rfl f42 rfl rfl (ym_st4 (Nat.le_of_ble_eq_true rfl)) rfl ?_
      cases hf
      exact ym_lret (pc := 45) dX7_join_45 rfl
    · rw [if_neg c34] at hf
      refine ym_ifnonnull_n (pc := 34) (tgt := 46) dX7_join_34 (by decide) c34 ?_
      refine ym_aload_n (pc := 46) 2 dX7_join_46 rfl rfl ?_
      refine ym_iload_n (pc := 47) 5 dX7_join_47 rfl rfl ?_
      obtain ⟨o48, f48, hf⟩ := Option.bind_eq_some_iff.mp hf
      obtain ⟨q48, e48, hf⟩ := Option.bind_eq_some_iff.mp hf
      refine ym_callV (pc := 48) (G2 := g_X7_lotAt) (dep2 := 3) (As := [.int a3]) (st := []) (stk2 := [va_rf q48.1]) (r2 := (some (va_rf q48.1))) (h1 := q48.2) dX7_join_48 (ok_X7_lotAt e48) (sc_X7_join_X7_lotAt) wd_371 wd_373 wd_5 (ci := 7) (q0 := (RX7, TX7, 10)) rfl (by decide) rfl f48 rfl rfl (ym_st4 (Nat.le_of_ble_eq_true rfl)) rfl ?_
      refine ym_astore (pc := 51) (lv' := [(6, va_rf q48.1), (5, va_rf q27.1), (4, va_rf q6.1), (0, va_rf a0), (1, .int a1), (2, .int a2), (3, .int a3)]) dX7_join_51 (by decide) ⟨ym_c1 q27.1, trivial, trivial, trivial, trivial, trivial, trivial⟩ rfl ?_
      refine ym_aload (pc := 53) 0 dX7_join_53 rfl ?_
      by_cases c55 : q48.1 = none
      · rw [if_pos c55] at hf
        refine ym_ifnonnull_y (pc := 55) (tgt := 67) dX7_join_55 (by decide) c55 ?_
        refine ym_aload_n (pc := 58) 3 dX7_join_58 rfl rfl ?_
        refine ym_iload_n (pc := 59) 6 dX7_join_59 rfl rfl ?_
        obtain ⟨q60, e60, hf⟩ := Option.bind_eq_some_iff.mp hf
        refine ym_callS (pc := 60) (G2 := g_X7_whyNoLot) (dep2 := 1) (As := [.int a3]) (st := [va_rf a0]) (stk2 := [.int q60.1, va_rf a0]) (r2 := (some (.int q60.1))) (h1 := q60.2) dX7_join_60 (ok_X7_whyNoLot e60) (sc_X7_join_X7_whyNoLot) wd_375 wd_376 rfl rfl (ym_st4 (Nat.le_of_ble_eq_true rfl)) rfl ?_
        obtain ⟨o63, f63, hf⟩ := Option.bind_eq_some_iff.mp hf
        obtain ⟨q63, e63, hf⟩ := Option.bind_eq_some_iff.mp hf
        refine ym_callV (pc := 63) (G2 := g_X7_refuse) (dep2 := 4) (As := [.int q60.1]) (st := []) (stk2 := [.long q63.1]) (r2 := (some (.long q63.1))) (h1 := q63.2) dX7_join_63 (ok_X7_refuse e63) (sc_X7_join_X7_refuse) wd_229 wd_231 wd_1 (ci := 7) (q0 := (RX7, TX7, 10)) rfl (by decide) rfl f63 rfl rfl (ym_st4 (Nat.le_of_ble_eq_true rfl)) rfl ?_
        cases hf
        exact ym_lret (pc := 66) dX7_join_66 rfl
      · rw [if_neg c55] at hf
        refine ym_ifnonnull_n (pc := 55) (tgt := 67) dX7_join_55 (by decide) c55 ?_
        refine ym_iload_n (pc := 67) 4 dX7_join_67 rfl rfl ?_
        refine ym_iload_n (pc := 68) 5 dX7_join_68 rfl rfl ?_
        by_cases c69 : a1 = a2
        · rw [if_pos c69] at hf
          refine ym_icmp_eq_y (pc := 69) (tgt := 82) dX7_join_69 (by decide) c69 ?_
          exact ym_sub [3] rfl (ob_X7_join_82 hf)
        · rw [if_neg c69] at hf
          refine ym_icmp_eq_n (pc := 69) (tgt := 82) dX7_join_69 (by decide) c69 ?_
          refine ym_iload_n (pc := 72) 4 dX7_join_72 rfl rfl ?_
          refine ym_iload_n (pc := 73) 6 dX7_join_73 rfl rfl ?_
          by_cases c74 : a1 = a3
          · rw [if_pos c74] at hf
            refine ym_icmp_eq_y (pc := 74) (tgt := 82) dX7_join_74 (by decide) c74 ?_
            exact ym_sub [3] rfl (ob_X7_join_82 hf)
          · rw [if_neg c74] at hf
            refine ym_icmp_eq_n (pc := 74) (tgt := 82) dX7_join_74 (by decide) c74 ?_
            refine ym_iload_n (pc := 77) 5 dX7_join_77 rfl rfl ?_
            refine ym_iload_n (pc := 78) 6 dX7_join_78 rfl rfl ?_
            by_cases c79 : a2 = a3
            · rw [if_pos c79] at hf
              refine ym_icmp_ne_y (pc := 79) (tgt := 89) dX7_join_79 (by decide) c79 ?_
              exact ym_sub [3] rfl (ob_X7_join_82 hf)
            · rw [if_neg c79] at hf
              refine ym_icmp_ne_n (pc := 79) (tgt := 89) dX7_join_79 (by decide) c79 ?_
              refine ym_aload (pc := 89) 2 dX7_join_89 rfl ?_
              obtain ⟨o91, f91, hf⟩ := Option.bind_eq_some_iff.mp hf
              obtain ⟨q91, e91, hf⟩ := Option.bind_eq_some_iff.mp hf
              refine ym_callV (pc := 91) (G2 := g_X4_isRaised) (dep2 := 1) (As := []) (st := []) (stk2 := [.int q91.1]) (r2 := (some (.int q91.1))) (h1 := q91.2) dX7_join_91 (ok_X4_isRaised e91) (sc_X7_join_X4_isRaised) wd_464 wd_465 wd_466 (ci := 4) (q0 := (RX4, TX4, 6)) rfl (by decide) rfl f91 rfl rfl (ym_st4 (Nat.le_of_ble_eq_true rfl)) rfl ?_
              by_cases c94 : q91.1 = 0
              · rw [if_pos c94] at hf
                refine ym_if_eq_y (pc := 94) (tgt := 113) dX7_join_94 (by decide) c94 ?_
                exact ym_sub [3] rfl (ob_X7_join_113 hf)
              · rw [if_neg c94] at hf
                refine ym_if_eq_n (pc := 94) (tgt := 113) dX7_join_94 (by decide) c94 ?_
                refine ym_aload (pc := 97) 1 dX7_join_97 rfl ?_
                obtain ⟨o99, f99, hf⟩ := Option.bind_eq_some_iff.mp hf
                obtain ⟨q99, e99, hf⟩ := Option.bind_eq_some_iff.mp hf
                refine ym_callV (pc := 99) (G2 := g_X4_isRaised) (dep2 := 1) (As := []) (st := []) (stk2 := [.int q99.1]) (r2 := (some (.int q99.1))) (h1 := q99.2) dX7_join_99 (ok_X4_isRaised e99) (sc_X7_join_X4_isRaised) wd_464 wd_465 wd_466 (ci := 4) (q0 := (RX4, TX4, 6)) rfl (by decide) rfl f99 rfl rfl (ym_st4 (Nat.le_of_ble_eq_true rfl)) rfl ?_
                by_cases c102 : q99.1 = 0
                · rw [if_pos c102] at hf
                  refine ym_if_eq_y (pc := 102) (tgt := 113) dX7_join_102 (by decide) c102 ?_
                  exact ym_sub [3] rfl (ob_X7_join_113 hf)
                · rw [if_neg c102] at hf
                  refine ym_if_eq_n (pc := 102) (tgt := 113) dX7_join_102 (by decide) c102 ?_
                  refine ym_aload (pc := 105) 0 dX7_join_105 rfl ?_
                  obtain ⟨o107, f107, hf⟩ := Option.bind_eq_some_iff.mp hf
                  obtain ⟨q107, e107, hf⟩ := Option.bind_eq_some_iff.mp hf
                  refine ym_callV (pc := 107) (G2 := g_X4_isRaised) (dep2 := 1) (As := []) (st := []) (stk2 := [.int q107.1]) (r2 := (some (.int q107.1))) (h1 := q107.2) dX7_join_107 (ok_X4_isRaised e107) (sc_X7_join_X4_isRaised) wd_464 wd_465 wd_466 (ci := 4) (q0 := (RX4, TX4, 6)) rfl (by decide) rfl f107 rfl rfl (ym_st4 (Nat.le_of_ble_eq_true rfl)) rfl ?_
                  by_cases c110 : q107.1 = 0
                  · rw [if_pos c110] at hf
                    refine ym_if_ne_y (pc := 110) (tgt := 119) dX7_join_110 (by decide) c110 ?_
                    exact ym_sub [3] rfl (ob_X7_join_113 hf)
                  · rw [if_neg c110] at hf
                    refine ym_if_ne_n (pc := 110) (tgt := 119) dX7_join_110 (by decide) c110 ?_
                    refine ym_aload (pc := 119) 2 dX7_join_119 rfl ?_
                    obtain ⟨o121, f121, hf⟩ := Option.bind_eq_some_iff.mp hf
                    obtain ⟨q121, e121, hf⟩ := Option.bind_eq_some_iff.mp hf
                    refine ym_callV (pc := 121) (G2 := g_X4_stateNow) (dep2 := 2) (As := []) (st := []) (stk2 := [.int q121.1]) (r2 := (some (.int q121.1))) (h1 := q121.2) dX7_join_121 (ok_X4_stateNow e121) (sc_X7_join_X4_stateNow) wd_385 wd_386 wd_387 (ci := 4) (q0 := (RX4, TX4, 6)) rfl (by decide) rfl f121 rfl rfl (ym_st4 (Nat.le_of_ble_eq_true rfl)) rfl ?_
                    by_cases c124 : q121.1 = 0
                    · rw [if_pos c124] at hf
                      refine ym_if_ne_y (pc := 124) (tgt := 143) dX7_join_124 (by decide) c124 ?_
                      refine ym_aload (pc := 127) 1 dX7_join_127 rfl ?_
                      obtain ⟨o129, f129, hf⟩ := Option.bind_eq_some_iff.mp hf
                      obtain ⟨q129, e129, hf⟩ := Option.bind_eq_some_iff.mp hf
                      refine ym_callV (pc := 129) (G2 := g_X4_stateNow) (dep2 := 2) (As := []) (st := []) (stk2 := [.int q129.1]) (r2 := (some (.int q129.1))) (h1 := q129.2) dX7_join_129 (ok_X4_stateNow e129) (sc_X7_join_X4_stateNow) wd_385 wd_386 wd_387 (ci := 4) (q0 := (RX4, TX4, 6)) rfl (by decide) rfl f129 rfl rfl (ym_st4 (Nat.le_of_ble_eq_true rfl)) rfl ?_
                      by_cases c132 : q129.1 = 0
                      · rw [if_pos c132] at hf
                        refine ym_if_ne_y (pc := 132) (tgt := 143) dX7_join_132 (by decide) c132 ?_
                        refine ym_aload (pc := 135) 0 dX7_join_135 rfl ?_
                        obtain ⟨o137, f137, hf⟩ := Option.bind_eq_some_iff.mp hf
                        obtain ⟨q137, e137, hf⟩ := Option.bind_eq_some_iff.mp hf
                        refine ym_callV (pc := 137) (G2 := g_X4_stateNow) (dep2 := 2) (As := []) (st := []) (stk2 := [.int q137.1]) (r2 := (some (.int q137.1))) (h1 := q137.2) dX7_join_137 (ok_X4_stateNow e137) (sc_X7_join_X4_stateNow) wd_385 wd_386 wd_387 (ci := 4) (q0 := (RX4, TX4, 6)) rfl (by decide) rfl f137 rfl rfl (ym_st4 (Nat.le_of_ble_eq_true rfl)) rfl ?_
                        by_cases c140 : q137.1 = 0
                        · rw [if_pos c140] at hf
                          refine ym_if_eq_y (pc := 140) (tgt := 150) dX7_join_140 (by decide) c140 ?_
                          refine ym_aload (pc := 150) 2 dX7_join_150 rfl ?_
                          obtain ⟨o152, f152, hf⟩ := Option.bind_eq_some_iff.mp hf
                          obtain ⟨q152, e152, hf⟩ := Option.bind_eq_some_iff.mp hf
                          refine ym_callV (pc := 152) (G2 := g_X4_isJoined) (dep2 := 2) (As := []) (st := []) (stk2 := [.int q152.1]) (r2 := (some (.int q152.1))) (h1 := q152.2) dX7_join_152 (ok_X4_isJoined e152) (sc_X7_join_X4_isJoined) wd_641 wd_642 wd_643 (ci := 4) (q0 := (RX4, TX4, 6)) rfl (by decide) rfl f152 rfl rfl (ym_st4 (Nat.le_of_ble_eq_true rfl)) rfl ?_
                          by_cases c155 : q152.1 = 0
                          · rw [if_pos c155] at hf
                            refine ym_if_ne_y (pc := 155) (tgt := 174) dX7_join_155 (by decide) c155 ?_
                            refine ym_aload (pc := 158) 1 dX7_join_158 rfl ?_
                            obtain ⟨o160, f160, hf⟩ := Option.bind_eq_some_iff.mp hf
                            obtain ⟨q160, e160, hf⟩ := Option.bind_eq_some_iff.mp hf
                            refine ym_callV (pc := 160) (G2 := g_X4_isJoined) (dep2 := 2) (As := []) (st := []) (stk2 := [.int q160.1]) (r2 := (some (.int q160.1))) (h1 := q160.2) dX7_join_160 (ok_X4_isJoined e160) (sc_X7_join_X4_isJoined) wd_641 wd_642 wd_643 (ci := 4) (q0 := (RX4, TX4, 6)) rfl (by decide) rfl f160 rfl rfl (ym_st4 (Nat.le_of_ble_eq_true rfl)) rfl ?_
                            by_cases c163 : q160.1 = 0
                            · rw [if_pos c163] at hf
                              refine ym_if_ne_y (pc := 163) (tgt := 174) dX7_join_163 (by decide) c163 ?_
                              refine ym_aload (pc := 166) 0 dX7_join_166 rfl ?_
                              obtain ⟨o168, f168, hf⟩ := Option.bind_eq_some_iff.mp hf
                              obtain ⟨q168, e168, hf⟩ := Option.bind_eq_some_iff.mp hf
                              refine ym_callV (pc := 168) (G2 := g_X4_isJoined) (dep2 := 2) (As := []) (st := []) (stk2 := [.int q168.1]) (r2 := (some (.int q168.1))) (h1 := q168.2) dX7_join_168 (ok_X4_isJoined e168) (sc_X7_join_X4_isJoined) wd_641 wd_642 wd_643 (ci := 4) (q0 := (RX4, TX4, 6)) rfl (by decide) rfl f168 rfl rfl (ym_st4 (Nat.le_of_ble_eq_true rfl)) rfl ?_
                              by_cases c171 : q168.1 = 0
                              · rw [if_pos c171] at hf
                                refine ym_if_eq_y (pc := 171) (tgt := 181) dX7_join_171 (by decide) c171 ?_
                                refine ym_aload (pc := 181) 2 dX7_join_181 rfl ?_
                                obtain ⟨v183, e183, hf⟩ := Option.bind_eq_some_iff.mp hf
                                refine ym_getN (pc := 183) dX7_join_183 rfl (by decide) iX4 (k := 2) (by decide) wd_346 (ym_gR_v e183) ?_
                                refine ym_bipush (pc := 186) (v := 11) dX7_join_186 (by decide) ?_
                                refine ym_iload_n (pc := 188) 4 dX7_join_188 rfl rfl ?_
                                refine ym_i2l (pc := 189) dX7_join_189 ?_
                                obtain ⟨o190, f190, hf⟩ := Option.bind_eq_some_iff.mp hf
                                obtain ⟨q190, e190, hf⟩ := Option.bind_eq_some_iff.mp hf
                                refine ym_callV (pc := 190) (G2 := g_X2_put) (dep2 := 4) (As := [.int 11, .long (Int32.toInt64 a1)]) (st := []) (stk2 := []) (r2 := none) (h1 := q190.2) dX7_join_190 (ok_X2_put e190) (sc_X7_join_X2_put) wd_281 wd_282 wd_283 (ci := 2) (q0 := (RX2, TX2, 2)) rfl (by decide) rfl f190 rfl rfl (ym_st4 (Nat.le_of_ble_eq_true rfl)) rfl ?_
                                refine ym_aload (pc := 193) 2 dX7_join_193 rfl ?_
                                obtain ⟨v195, e195, hf⟩ := Option.bind_eq_some_iff.mp hf
                                refine ym_getN (pc := 195) dX7_join_195 rfl (by decide) iX4 (k := 2) (by decide) wd_346 (ym_gR_v e195) ?_
                                refine ym_bipush (pc := 198) (v := 12) dX7_join_198 (by decide) ?_
                                refine ym_iload_n (pc := 200) 5 dX7_join_200 rfl rfl ?_
                                refine ym_i2l (pc := 201) dX7_join_201 ?_
                                obtain ⟨o202, f202, hf⟩ := Option.bind_eq_some_iff.mp hf
                                obtain ⟨q202, e202, hf⟩ := Option.bind_eq_some_iff.mp hf
                                refine ym_callV (pc := 202) (G2 := g_X2_put) (dep2 := 4) (As := [.int 12, .long (Int32.toInt64 a2)]) (st := []) (stk2 := []) (r2 := none) (h1 := q202.2) dX7_join_202 (ok_X2_put e202) (sc_X7_join_X2_put) wd_281 wd_282 wd_283 (ci := 2) (q0 := (RX2, TX2, 2)) rfl (by decide) rfl f202 rfl rfl (ym_st4 (Nat.le_of_ble_eq_true rfl)) rfl ?_
                                refine ym_aload (pc := 205) 2 dX7_join_205 rfl ?_
                                obtain ⟨v207, e207, hf⟩ := Option.bind_eq_some_iff.mp hf
                                refine ym_getN (pc := 207) dX7_join_207 rfl (by decide) iX4 (k := 2) (by decide) wd_346 (ym_gR_v e207) ?_
                                refine ym_bipush (pc := 210) (v := 13) dX7_join_210 (by decide) ?_
                                refine ym_iload_n (pc := 212) 6 dX7_join_212 rfl rfl ?_
                                refine ym_i2l (pc := 213) dX7_join_213 ?_
                                obtain ⟨o214, f214, hf⟩ := Option.bind_eq_some_iff.mp hf
                                obtain ⟨q214, e214, hf⟩ := Option.bind_eq_some_iff.mp hf
                                refine ym_callV (pc := 214) (G2 := g_X2_put) (dep2 := 4) (As := [.int 13, .long (Int32.toInt64 a3)]) (st := []) (stk2 := []) (r2 := none) (h1 := q214.2) dX7_join_214 (ok_X2_put e214) (sc_X7_join_X2_put) wd_281 wd_282 wd_283 (ci := 2) (q0 := (RX2, TX2, 2)) rfl (by decide) rfl f214 rfl rfl (ym_st4 (Nat.le_of_ble_eq_true rfl)) rfl ?_
                                refine ym_aload (pc := 217) 1 dX7_join_217 rfl ?_
                                obtain ⟨v219, e219, hf⟩ := Option.bind_eq_some_iff.mp hf
                                refine ym_getN (pc := 219) dX7_join_219 rfl (by decide) iX4 (k := 2) (by decide) wd_346 (ym_gR_v e219) ?_
                                refine ym_bipush (pc := 222) (v := 11) dX7_join_222 (by decide) ?_
                                refine ym_iload_n (pc := 224) 4 dX7_join_224 rfl rfl ?_
                                refine ym_i2l (pc := 225) dX7_join_225 ?_
                                obtain ⟨o226, f226, hf⟩ := Option.bind_eq_some_iff.mp hf
                                obtain ⟨q226, e226, hf⟩ := Option.bind_eq_some_iff.mp hf
                                refine ym_callV (pc := 226) (G2 := g_X2_put) (dep2 := 4) (As := [.int 11, .long (Int32.toInt64 a1)]) (st := []) (stk2 := []) (r2 := none) (h1 := q226.2) dX7_join_226 (ok_X2_put e226) (sc_X7_join_X2_put) wd_281 wd_282 wd_283 (ci := 2) (q0 := (RX2, TX2, 2)) rfl (by decide) rfl f226 rfl rfl (ym_st4 (Nat.le_of_ble_eq_true rfl)) rfl ?_
                                refine ym_aload (pc := 229) 0 dX7_join_229 rfl ?_
                                obtain ⟨v231, e231, hf⟩ := Option.bind_eq_some_iff.mp hf
                                refine ym_getN (pc := 231) dX7_join_231 rfl (by decide) iX4 (k := 2) (by decide) wd_346 (ym_gR_v e231) ?_
                                refine ym_bipush (pc := 234) (v := 11) dX7_join_234 (by decide) ?_
                                refine ym_iload_n (pc := 236) 4 dX7_join_236 rfl rfl ?_
                                refine ym_i2l (pc := 237) dX7_join_237 ?_
                                obtain ⟨o238, f238, hf⟩ := Option.bind_eq_some_iff.mp hf
                                obtain ⟨q238, e238, hf⟩ := Option.bind_eq_some_iff.mp hf
                                refine ym_callV (pc := 238) (G2 := g_X2_put) (dep2 := 4) (As := [.int 11, .long (Int32.toInt64 a1)]) (st := []) (stk2 := []) (r2 := none) (h1 := q238.2) dX7_join_238 (ok_X2_put e238) (sc_X7_join_X2_put) wd_281 wd_282 wd_283 (ci := 2) (q0 := (RX2, TX2, 2)) rfl (by decide) rfl f238 rfl rfl (ym_st4 (Nat.le_of_ble_eq_true rfl)) rfl ?_
                                refine ym_lconst (pc := 241) (v := 1) dX7_join_241 (by decide) ?_
                                cases hf
                                exact ym_lret (pc := 242) dX7_join_242 rfl
                              · rw [if_neg c171] at hf
                                refine ym_if_eq_n (pc := 171) (tgt := 181) dX7_join_171 (by decide) c171 ?_
                                exact ym_sub [3] rfl (ob_X7_join_174 hf)
                            · rw [if_neg c163] at hf
                              refine ym_if_ne_n (pc := 163) (tgt := 174) dX7_join_163 (by decide) c163 ?_
                              exact ym_sub [3] rfl (ob_X7_join_174 hf)
                          · rw [if_neg c155] at hf
                            refine ym_if_ne_n (pc := 155) (tgt := 174) dX7_join_155 (by decide) c155 ?_
                            exact ym_sub [3] rfl (ob_X7_join_174 hf)
                        · rw [if_neg c140] at hf
                          refine ym_if_eq_n (pc := 140) (tgt := 150) dX7_join_140 (by decide) c140 ?_
                          exact ym_sub [3] rfl (ob_X7_join_143 hf)
                      · rw [if_neg c132] at hf
                        refine ym_if_ne_n (pc := 132) (tgt := 143) dX7_join_132 (by decide) c132 ?_
                        exact ym_sub [3] rfl (ob_X7_join_143 hf)
                    · rw [if_neg c124] at hf
                      refine ym_if_ne_n (pc := 124) (tgt := 143) dX7_join_124 (by decide) c124 ?_
                      exact ym_sub [3] rfl (ob_X7_join_143 hf)
theorem dX7_kindOf_0 : decode cX7_kindOf 0 = .ok (.aload_n 0, 1) := by decide +kernel
theorem dX7_kindOf_1 : decode cX7_kindOf 1 = .ok (.iload_n 1, 1) := by decide +kernel
theorem dX7_kindOf_2 : decode cX7_kindOf 2 = .ok (.invokevirtual 89, 3) := by decide +kernel
theorem dX7_kindOf_5 : decode cX7_kindOf 5 = .ok (.astore_n 2, 1) := by decide +kernel
theorem dX7_kindOf_6 : decode cX7_kindOf 6 = .ok (.aload_n 2, 1) := by decide +kernel
theorem dX7_kindOf_7 : decode cX7_kindOf 7 = .ok (.ifnonnull 7, 3) := by decide +kernel
theorem dX7_kindOf_10 : decode cX7_kindOf 10 = .ok (.iconst 0, 1) := by decide +kernel
theorem dX7_kindOf_11 : decode cX7_kindOf 11 = .ok (.goto 7, 3) := by decide +kernel
theorem dX7_kindOf_14 : decode cX7_kindOf 14 = .ok (.aload_n 2, 1) := by decide +kernel
theorem dX7_kindOf_15 : decode cX7_kindOf 15 = .ok (.getfield 137, 3) := by decide +kernel
theorem dX7_kindOf_18 : decode cX7_kindOf 18 = .ok (.ireturn, 1) := by decide +kernel
theorem sc_X7_kindOf_X7_lotAt : ym_site g_X7_kindOf g_X7_lotAt 4 3 1 := ⟨by decide, by decide, wd_374, wd_76, by decide +kernel⟩
def fn_X7_kindOf (N : Nat) (a0 : Option Nat) (a1 : Int32) (h : ym_H) : Option (Int32 × ym_H) :=
  Option.bind (ym_ob h a0 7) fun o2 =>
  Option.bind (fn_X7_lotAt N a0 a1 h) fun q2 =>
  if q2.1 = none then
    some (0, q2.2)
  else
    Option.bind (ym_gI q2.2 q2.1 4 0) fun v15 =>
    some (v15, q2.2)
set_option maxRecDepth 20000 in
set_option maxHeartbeats 4000000 in
theorem ok_X7_kindOf {D : ym_D} {b0 : Nat} {N : Nat} {a0 : Option Nat} {a1 : Int32} {h h' : ym_H} {r : Int32} (hf : fn_X7_kindOf N a0 a1 h = some (r, h')) : ym_M D b0 g_X7_kindOf 4 [va_rf a0, .int a1] h (some (.int r)) h' := by
  unfold fn_X7_kindOf at hf
  refine ym_meth (lv := [(0, va_rf a0), (1, .int a1)]) (by decide) (by simp [lg_sl, ym_c1, ym_cI, ym_cL, g_X7_kindOf]) (by simp [lv_args, ym_c1, ym_cI, ym_cL]) ?_
  refine ym_aload_n (pc := 0) 0 dX7_kindOf_0 rfl rfl ?_
  refine ym_iload_n (pc := 1) 1 dX7_kindOf_1 rfl rfl ?_
  obtain ⟨o2, f2, hf⟩ := Option.bind_eq_some_iff.mp hf
  obtain ⟨q2, e2, hf⟩ := Option.bind_eq_some_iff.mp hf
  refine ym_callV (pc := 2) (G2 := g_X7_lotAt) (dep2 := 3) (As := [.int a1]) (st := []) (stk2 := [va_rf q2.1]) (r2 := (some (va_rf q2.1))) (h1 := q2.2) dX7_kindOf_2 (ok_X7_lotAt e2) (sc_X7_kindOf_X7_lotAt) wd_371 wd_373 wd_5 (ci := 7) (q0 := (RX7, TX7, 10)) rfl (by decide) rfl f2 rfl rfl (ym_st4 (Nat.le_of_ble_eq_true rfl)) rfl ?_
  refine ym_sub (lv' := []) [] rfl ?_
  refine ym_astore_n (pc := 5) (lv' := [(2, va_rf q2.1)]) dX7_kindOf_5 rfl (by decide) trivial rfl ?_
  refine ym_aload_n (pc := 6) 0 dX7_kindOf_6 rfl rfl ?_
  by_cases c7 : q2.1 = none
  · rw [if_pos c7] at hf
    refine ym_ifnonnull_y (pc := 7) (tgt := 14) dX7_kindOf_7 (by decide) c7 ?_
    refine ym_iconst (pc := 10) (v := 0) dX7_kindOf_10 (by decide) ?_
    refine ym_goto (pc := 11) (tgt := 18) dX7_kindOf_11 (by decide) ?_
    cases hf
    exact ym_iret (pc := 18) dX7_kindOf_18 rfl
  · rw [if_neg c7] at hf
    refine ym_ifnonnull_n (pc := 7) (tgt := 14) dX7_kindOf_7 (by decide) c7 ?_
    refine ym_aload_n (pc := 14) 0 dX7_kindOf_14 rfl rfl ?_
    obtain ⟨v15, e15, hf⟩ := Option.bind_eq_some_iff.mp hf
    refine ym_getN (pc := 15) dX7_kindOf_15 rfl (by decide) iX4 (k := 0) (by decide) wd_340 (ym_gI_v e15) ?_
    cases hf
    exact ym_iret (pc := 18) dX7_kindOf_18 rfl
theorem dX7_lacksSeller_0 : decode cX7_lacksSeller 0 = .ok (.lload_n 2, 1) := by decide +kernel
theorem dX7_lacksSeller_1 : decode cX7_lacksSeller 1 = .ok (.lconst 0, 1) := by decide +kernel
theorem dX7_lacksSeller_2 : decode cX7_lacksSeller 2 = .ok (.lcmp, 1) := by decide +kernel
theorem dX7_lacksSeller_3 : decode cX7_lacksSeller 3 = .ok (.ifCond .ne 5, 3) := by decide +kernel
theorem dX7_lacksSeller_6 : decode cX7_lacksSeller 6 = .ok (.iconst 0, 1) := by decide +kernel
theorem dX7_lacksSeller_7 : decode cX7_lacksSeller 7 = .ok (.ireturn, 1) := by decide +kernel
theorem dX7_lacksSeller_8 : decode cX7_lacksSeller 8 = .ok (.aload_n 0, 1) := by decide +kernel
theorem dX7_lacksSeller_9 : decode cX7_lacksSeller 9 = .ok (.getfield 42, 3) := by decide +kernel
theorem dX7_lacksSeller_12 : decode cX7_lacksSeller 12 = .ok (.aload_n 1, 1) := by decide +kernel
theorem dX7_lacksSeller_13 : decode cX7_lacksSeller 13 = .ok (.invokevirtual 344, 3) := by decide +kernel
theorem dX7_lacksSeller_16 : decode cX7_lacksSeller 16 = .ok (.pop2, 1) := by decide +kernel
theorem dX7_lacksSeller_17 : decode cX7_lacksSeller 17 = .ok (.aload_n 1, 1) := by decide +kernel
theorem dX7_lacksSeller_18 : decode cX7_lacksSeller 18 = .ok (.getfield 107, 3) := by decide +kernel
theorem dX7_lacksSeller_21 : decode cX7_lacksSeller 21 = .ok (.invokevirtual 116, 3) := by decide +kernel
theorem dX7_lacksSeller_24 : decode cX7_lacksSeller 24 = .ok (.ifCond .ne 7, 3) := by decide +kernel
theorem dX7_lacksSeller_27 : decode cX7_lacksSeller 27 = .ok (.iconst 1, 1) := by decide +kernel
theorem dX7_lacksSeller_28 : decode cX7_lacksSeller 28 = .ok (.goto 4, 3) := by decide +kernel
theorem dX7_lacksSeller_31 : decode cX7_lacksSeller 31 = .ok (.iconst 0, 1) := by decide +kernel
theorem dX7_lacksSeller_32 : decode cX7_lacksSeller 32 = .ok (.ireturn, 1) := by decide +kernel
theorem sc_X7_lacksSeller_X1_piecesOf : ym_site g_X7_lacksSeller g_X1_piecesOf 3 2 1 := ⟨by decide, by decide, wd_575, wd_82, by decide +kernel⟩
theorem sc_X7_lacksSeller_X5_rows : ym_site g_X7_lacksSeller g_X5_rows 3 2 0 := ⟨by decide, by decide, wd_397, wd_81, by decide +kernel⟩
def fn_X7_lacksSeller (N : Nat) (a0 : Option Nat) (a1 : Option Nat) (a2 : Int64) (h : ym_H) : Option (Int32 × ym_H) :=
  if a2 = 0 then
    some (0, h)
  else
    Option.bind (ym_gR h a0 7 4) fun v9 =>
    Option.bind (ym_ob h v9 1) fun o13 =>
    Option.bind (fn_X1_piecesOf N v9 a1 h) fun q13 =>
    Option.bind (ym_gR q13.2 a1 4 5) fun v18 =>
    Option.bind (ym_ob q13.2 v18 5) fun o21 =>
    Option.bind (fn_X5_rows N v18 q13.2) fun q21 =>
    if q21.1 = 0 then
      some (1, q21.2)
    else
      some (0, q21.2)
set_option maxRecDepth 20000 in
set_option maxHeartbeats 4000000 in
theorem ok_X7_lacksSeller {D : ym_D} {b0 : Nat} {N : Nat} {a0 : Option Nat} {a1 : Option Nat} {a2 : Int64} {h h' : ym_H} {r : Int32} (hf : fn_X7_lacksSeller N a0 a1 a2 h = some (r, h')) : ym_M D b0 g_X7_lacksSeller 3 [va_rf a0, va_rf a1, .long a2] h (some (.int r)) h' := by
  unfold fn_X7_lacksSeller at hf
  refine ym_meth (lv := [(0, va_rf a0), (1, va_rf a1), (2, .long a2)]) (by decide) (by simp [lg_sl, ym_c1, ym_cI, ym_cL, g_X7_lacksSeller]) (by simp [lv_args, ym_c1, ym_cI, ym_cL]) ?_
  refine ym_lload_n (pc := 0) 2 dX7_lacksSeller_0 rfl rfl ?_
  refine ym_lconst (pc := 1) (v := 0) dX7_lacksSeller_1 (by decide) ?_
  by_cases c2 : a2 = 0
  · rw [if_pos c2] at hf
    refine ym_lcmp_ne_y (pc := 2) (tgt := 8) dX7_lacksSeller_2 dX7_lacksSeller_3 (by decide) c2 ?_
    refine ym_iconst (pc := 6) (v := 0) dX7_lacksSeller_6 (by decide) ?_
    cases hf
    exact ym_zret (pc := 7) dX7_lacksSeller_7 rfl rfl
  · rw [if_neg c2] at hf
    refine ym_lcmp_ne_n (pc := 2) (tgt := 8) dX7_lacksSeller_2 dX7_lacksSeller_3 (by decide) c2 ?_
    refine ym_aload_n (pc := 8) 0 dX7_lacksSeller_8 rfl rfl ?_
    obtain ⟨v9, e9, hf⟩ := Option.bind_eq_some_iff.mp hf
    refine ym_get (pc := 9) dX7_lacksSeller_9 rfl (by decide) iX7 (k := 4) (by decide) wd_190 (ym_gR_v e9) ?_
    refine ym_aload_n (pc := 12) 1 dX7_lacksSeller_12 rfl rfl ?_
    obtain ⟨o13, f13, hf⟩ := Option.bind_eq_some_iff.mp hf
    obtain ⟨q13, e13, hf⟩ := Option.bind_eq_some_iff.mp hf
    refine ym_callV (pc := 13) (G2 := g_X1_piecesOf) (dep2 := 2) (As := [va_rf a1]) (st := []) (stk2 := [.long q13.1]) (r2 := (some (.long q13.1))) (h1 := q13.2) dX7_lacksSeller_13 (ok_X1_piecesOf e13) (sc_X7_lacksSeller_X1_piecesOf) wd_702 wd_573 wd_574 (ci := 1) (q0 := (RX1, TX1, 3)) rfl (by decide) rfl f13 rfl rfl (ym_st4 (Nat.le_of_ble_eq_true rfl)) rfl ?_
    refine ym_pop2_2 (pc := 16) dX7_lacksSeller_16 rfl ?_
    refine ym_aload_n (pc := 17) 1 dX7_lacksSeller_17 rfl rfl ?_
    obtain ⟨v18, e18, hf⟩ := Option.bind_eq_some_iff.mp hf
    refine ym_getN (pc := 18) dX7_lacksSeller_18 rfl (by decide) iX4 (k := 5) (by decide) wd_353 (ym_gR_v e18) ?_
    obtain ⟨o21, f21, hf⟩ := Option.bind_eq_some_iff.mp hf
    obtain ⟨q21, e21, hf⟩ := Option.bind_eq_some_iff.mp hf
    refine ym_callV (pc := 21) (G2 := g_X5_rows) (dep2 := 2) (As := []) (st := []) (stk2 := [.int q21.1]) (r2 := (some (.int q21.1))) (h1 := q21.2) dX7_lacksSeller_21 (ok_X5_rows e21) (sc_X7_lacksSeller_X5_rows) wd_403 wd_395 wd_396 (ci := 5) (q0 := (RX5, TX5, 2)) rfl (by decide) rfl f21 rfl rfl (ym_st4 (Nat.le_of_ble_eq_true rfl)) rfl ?_
    by_cases c24 : q21.1 = 0
    · rw [if_pos c24] at hf
      refine ym_if_ne_y (pc := 24) (tgt := 31) dX7_lacksSeller_24 (by decide) c24 ?_
      refine ym_iconst (pc := 27) (v := 1) dX7_lacksSeller_27 (by decide) ?_
      refine ym_goto (pc := 28) (tgt := 32) dX7_lacksSeller_28 (by decide) ?_
      cases hf
      exact ym_zret (pc := 32) dX7_lacksSeller_32 rfl rfl
    · rw [if_neg c24] at hf
      refine ym_if_ne_n (pc := 24) (tgt := 31) dX7_lacksSeller_24 (by decide) c24 ?_
      refine ym_iconst (pc := 31) (v := 0) dX7_lacksSeller_31 (by decide) ?_
      cases hf
      exact ym_zret (pc := 32) dX7_lacksSeller_32 rfl rfl
theorem dX7_limit_0 : decode cX7_limit 0 = .ok (.aload_n 0, 1) := by decide +kernel
theorem dX7_limit_1 : decode cX7_limit 1 = .ok (.invokevirtual 58, 3) := by decide +kernel
theorem dX7_limit_4 : decode cX7_limit 4 = .ok (.lload_n 3, 1) := by decide +kernel
theorem dX7_limit_5 : decode cX7_limit 5 = .ok (.invokestatic 80, 3) := by decide +kernel
theorem dX7_limit_8 : decode cX7_limit 8 = .ok (.ifCond .ne 9, 3) := by decide +kernel
theorem dX7_limit_11 : decode cX7_limit 11 = .ok (.aload_n 0, 1) := by decide +kernel
theorem dX7_limit_12 : decode cX7_limit 12 = .ok (.iconst 1, 1) := by decide +kernel
theorem dX7_limit_13 : decode cX7_limit 13 = .ok (.invokevirtual 61, 3) := by decide +kernel
theorem dX7_limit_16 : decode cX7_limit 16 = .ok (.lreturn, 1) := by decide +kernel
theorem dX7_limit_17 : decode cX7_limit 17 = .ok (.aload_n 0, 1) := by decide +kernel
theorem dX7_limit_18 : decode cX7_limit 18 = .ok (.iload_n 1, 1) := by decide +kernel
theorem dX7_limit_19 : decode cX7_limit 19 = .ok (.invokevirtual 89, 3) := by decide +kernel
theorem dX7_limit_22 : decode cX7_limit 22 = .ok (.astore 5, 2) := by decide +kernel
theorem dX7_limit_24 : decode cX7_limit 24 = .ok (.aload 5, 2) := by decide +kernel
theorem dX7_limit_26 : decode cX7_limit 26 = .ok (.ifnonnull 12, 3) := by decide +kernel
theorem dX7_limit_29 : decode cX7_limit 29 = .ok (.aload_n 0, 1) := by decide +kernel
theorem dX7_limit_30 : decode cX7_limit 30 = .ok (.iload_n 1, 1) := by decide +kernel
theorem dX7_limit_31 : decode cX7_limit 31 = .ok (.invokestatic 93, 3) := by decide +kernel
theorem dX7_limit_34 : decode cX7_limit 34 = .ok (.invokevirtual 61, 3) := by decide +kernel
theorem dX7_limit_37 : decode cX7_limit 37 = .ok (.lreturn, 1) := by decide +kernel
theorem dX7_limit_38 : decode cX7_limit 38 = .ok (.aload 5, 2) := by decide +kernel
theorem dX7_limit_40 : decode cX7_limit 40 = .ok (.invokevirtual 183, 3) := by decide +kernel
theorem dX7_limit_43 : decode cX7_limit 43 = .ok (.ifCond .ne 9, 3) := by decide +kernel
theorem dX7_limit_46 : decode cX7_limit 46 = .ok (.aload_n 0, 1) := by decide +kernel
theorem dX7_limit_47 : decode cX7_limit 47 = .ok (.iconst 4, 1) := by decide +kernel
theorem dX7_limit_48 : decode cX7_limit 48 = .ok (.invokevirtual 61, 3) := by decide +kernel
theorem dX7_limit_51 : decode cX7_limit 51 = .ok (.lreturn, 1) := by decide +kernel
theorem dX7_limit_52 : decode cX7_limit 52 = .ok (.aload_n 0, 1) := by decide +kernel
theorem dX7_limit_53 : decode cX7_limit 53 = .ok (.iload_n 2, 1) := by decide +kernel
theorem dX7_limit_54 : decode cX7_limit 54 = .ok (.invokevirtual 97, 3) := by decide +kernel
theorem dX7_limit_57 : decode cX7_limit 57 = .ok (.astore 6, 2) := by decide +kernel
theorem dX7_limit_59 : decode cX7_limit 59 = .ok (.aload 6, 2) := by decide +kernel
theorem dX7_limit_61 : decode cX7_limit 61 = .ok (.ifnonnull 12, 3) := by decide +kernel
theorem dX7_limit_64 : decode cX7_limit 64 = .ok (.aload_n 0, 1) := by decide +kernel
theorem dX7_limit_65 : decode cX7_limit 65 = .ok (.iload_n 2, 1) := by decide +kernel
theorem dX7_limit_66 : decode cX7_limit 66 = .ok (.invokestatic 101, 3) := by decide +kernel
theorem dX7_limit_69 : decode cX7_limit 69 = .ok (.invokevirtual 61, 3) := by decide +kernel
theorem dX7_limit_72 : decode cX7_limit 72 = .ok (.lreturn, 1) := by decide +kernel
theorem dX7_limit_73 : decode cX7_limit 73 = .ok (.aload 6, 2) := by decide +kernel
theorem dX7_limit_75 : decode cX7_limit 75 = .ok (.invokevirtual 152, 3) := by decide +kernel
theorem dX7_limit_78 : decode cX7_limit 78 = .ok (.ifCond .ne 9, 3) := by decide +kernel
theorem dX7_limit_81 : decode cX7_limit 81 = .ok (.aload_n 0, 1) := by decide +kernel
theorem dX7_limit_82 : decode cX7_limit 82 = .ok (.iconst 4, 1) := by decide +kernel
theorem dX7_limit_83 : decode cX7_limit 83 = .ok (.invokevirtual 61, 3) := by decide +kernel
theorem dX7_limit_86 : decode cX7_limit 86 = .ok (.lreturn, 1) := by decide +kernel
theorem dX7_limit_87 : decode cX7_limit 87 = .ok (.aload 5, 2) := by decide +kernel
theorem dX7_limit_89 : decode cX7_limit 89 = .ok (.invokevirtual 186, 3) := by decide +kernel
theorem dX7_limit_92 : decode cX7_limit 92 = .ok (.ifCond .ne 10, 3) := by decide +kernel
theorem dX7_limit_95 : decode cX7_limit 95 = .ok (.aload_n 0, 1) := by decide +kernel
theorem dX7_limit_96 : decode cX7_limit 96 = .ok (.bipush 9, 2) := by decide +kernel
theorem dX7_limit_98 : decode cX7_limit 98 = .ok (.invokevirtual 61, 3) := by decide +kernel
theorem dX7_limit_101 : decode cX7_limit 101 = .ok (.lreturn, 1) := by decide +kernel
theorem dX7_limit_102 : decode cX7_limit 102 = .ok (.aload 5, 2) := by decide +kernel
theorem dX7_limit_104 : decode cX7_limit 104 = .ok (.getfield 189, 3) := by decide +kernel
theorem dX7_limit_107 : decode cX7_limit 107 = .ok (.iload_n 2, 1) := by decide +kernel
theorem dX7_limit_108 : decode cX7_limit 108 = .ok (.invokevirtual 111, 3) := by decide +kernel
theorem dX7_limit_111 : decode cX7_limit 111 = .ok (.iconst (-1), 1) := by decide +kernel
theorem dX7_limit_112 : decode cX7_limit 112 = .ok (.if_icmp .eq 10, 3) := by decide +kernel
theorem dX7_limit_115 : decode cX7_limit 115 = .ok (.aload_n 0, 1) := by decide +kernel
theorem dX7_limit_116 : decode cX7_limit 116 = .ok (.bipush 13, 2) := by decide +kernel
theorem dX7_limit_118 : decode cX7_limit 118 = .ok (.invokevirtual 61, 3) := by decide +kernel
theorem dX7_limit_121 : decode cX7_limit 121 = .ok (.lreturn, 1) := by decide +kernel
theorem dX7_limit_122 : decode cX7_limit 122 = .ok (.aload_n 0, 1) := by decide +kernel
theorem dX7_limit_123 : decode cX7_limit 123 = .ok (.getfield 42, 3) := by decide +kernel
theorem dX7_limit_126 : decode cX7_limit 126 = .ok (.aload 6, 2) := by decide +kernel
theorem dX7_limit_128 : decode cX7_limit 128 = .ok (.aload 5, 2) := by decide +kernel
theorem dX7_limit_130 : decode cX7_limit 130 = .ok (.lload_n 3, 1) := by decide +kernel
theorem dX7_limit_131 : decode cX7_limit 131 = .ok (.aload_n 0, 1) := by decide +kernel
theorem dX7_limit_132 : decode cX7_limit 132 = .ok (.getfield 54, 3) := by decide +kernel
theorem dX7_limit_135 : decode cX7_limit 135 = .ok (.aload_n 0, 1) := by decide +kernel
theorem dX7_limit_136 : decode cX7_limit 136 = .ok (.invokevirtual 83, 3) := by decide +kernel
theorem dX7_limit_139 : decode cX7_limit 139 = .ok (.invokevirtual 172, 3) := by decide +kernel
theorem dX7_limit_142 : decode cX7_limit 142 = .ok (.ifCond .ne 10, 3) := by decide +kernel
theorem dX7_limit_145 : decode cX7_limit 145 = .ok (.aload_n 0, 1) := by decide +kernel
theorem dX7_limit_146 : decode cX7_limit 146 = .ok (.bipush 11, 2) := by decide +kernel
theorem dX7_limit_148 : decode cX7_limit 148 = .ok (.invokevirtual 61, 3) := by decide +kernel
theorem dX7_limit_151 : decode cX7_limit 151 = .ok (.lreturn, 1) := by decide +kernel
theorem dX7_limit_152 : decode cX7_limit 152 = .ok (.aload 5, 2) := by decide +kernel
theorem dX7_limit_154 : decode cX7_limit 154 = .ok (.getfield 189, 3) := by decide +kernel
theorem dX7_limit_157 : decode cX7_limit 157 = .ok (.invokevirtual 116, 3) := by decide +kernel
theorem dX7_limit_160 : decode cX7_limit 160 = .ok (.bipush 40, 2) := by decide +kernel
theorem dX7_limit_162 : decode cX7_limit 162 = .ok (.if_icmp .ge 17, 3) := by decide +kernel
theorem dX7_limit_165 : decode cX7_limit 165 = .ok (.aload 5, 2) := by decide +kernel
theorem dX7_limit_167 : decode cX7_limit 167 = .ok (.getfield 149, 3) := by decide +kernel
theorem dX7_limit_170 : decode cX7_limit 170 = .ok (.invokevirtual 116, 3) := by decide +kernel
theorem dX7_limit_173 : decode cX7_limit 173 = .ok (.sipush 300, 3) := by decide +kernel
theorem dX7_limit_176 : decode cX7_limit 176 = .ok (.if_icmp .lt 10, 3) := by decide +kernel
theorem dX7_limit_179 : decode cX7_limit 179 = .ok (.aload_n 0, 1) := by decide +kernel
theorem dX7_limit_180 : decode cX7_limit 180 = .ok (.bipush 12, 2) := by decide +kernel
theorem dX7_limit_182 : decode cX7_limit 182 = .ok (.invokevirtual 61, 3) := by decide +kernel
theorem dX7_limit_185 : decode cX7_limit 185 = .ok (.lreturn, 1) := by decide +kernel
theorem dX7_limit_186 : decode cX7_limit 186 = .ok (.aload_n 0, 1) := by decide +kernel
theorem dX7_limit_187 : decode cX7_limit 187 = .ok (.dup, 1) := by decide +kernel
theorem dX7_limit_188 : decode cX7_limit 188 = .ok (.getfield 176, 3) := by decide +kernel
theorem dX7_limit_191 : decode cX7_limit 191 = .ok (.iconst 1, 1) := by decide +kernel
theorem dX7_limit_192 : decode cX7_limit 192 = .ok (.iadd, 1) := by decide +kernel
theorem dX7_limit_193 : decode cX7_limit 193 = .ok (.putfield 176, 3) := by decide +kernel
theorem dX7_limit_196 : decode cX7_limit 196 = .ok (.aload 5, 2) := by decide +kernel
theorem dX7_limit_198 : decode cX7_limit 198 = .ok (.iload_n 2, 1) := by decide +kernel
theorem dX7_limit_199 : decode cX7_limit 199 = .ok (.lload_n 3, 1) := by decide +kernel
theorem dX7_limit_200 : decode cX7_limit 200 = .ok (.aload_n 0, 1) := by decide +kernel
theorem dX7_limit_201 : decode cX7_limit 201 = .ok (.getfield 176, 3) := by decide +kernel
theorem dX7_limit_204 : decode cX7_limit 204 = .ok (.invokevirtual 192, 3) := by decide +kernel
theorem dX7_limit_207 : decode cX7_limit 207 = .ok (.aload 5, 2) := by decide +kernel
theorem dX7_limit_209 : decode cX7_limit 209 = .ok (.invokevirtual 104, 3) := by decide +kernel
theorem dX7_limit_212 : decode cX7_limit 212 = .ok (.iconst 1, 1) := by decide +kernel
theorem dX7_limit_213 : decode cX7_limit 213 = .ok (.if_icmp .ne 9, 3) := by decide +kernel
theorem dX7_limit_216 : decode cX7_limit 216 = .ok (.aload_n 0, 1) := by decide +kernel
theorem dX7_limit_217 : decode cX7_limit 217 = .ok (.aload 5, 2) := by decide +kernel
theorem dX7_limit_219 : decode cX7_limit 219 = .ok (.invokevirtual 145, 3) := by decide +kernel
theorem dX7_limit_222 : decode cX7_limit 222 = .ok (.aload_n 0, 1) := by decide +kernel
theorem dX7_limit_223 : decode cX7_limit 223 = .ok (.getfield 176, 3) := by decide +kernel
theorem dX7_limit_226 : decode cX7_limit 226 = .ok (.i2l, 1) := by decide +kernel
theorem dX7_limit_227 : decode cX7_limit 227 = .ok (.lreturn, 1) := by decide +kernel
theorem sc_X7_limit_X7_startAct : ym_site g_X7_limit g_X7_startAct 8 2 0 := ⟨by decide, by decide, wd_224, wd_76, by decide +kernel⟩
theorem sc_X7_limit_X7_isSum : ym_site g_X7_limit g_X7_isSum 8 1 1 := ⟨by decide, by decide, wd_322, wd_76, by decide +kernel⟩
theorem sc_X7_limit_X7_refuse : ym_site g_X7_limit g_X7_refuse 8 4 1 := ⟨by decide, by decide, wd_232, wd_76, by decide +kernel⟩
theorem sc_X7_limit_X7_lotAt : ym_site g_X7_limit g_X7_lotAt 8 3 1 := ⟨by decide, by decide, wd_374, wd_76, by decide +kernel⟩
theorem sc_X7_limit_X7_whyNoLot : ym_site g_X7_limit g_X7_whyNoLot 8 1 1 := ⟨by decide, by decide, wd_377, wd_76, by decide +kernel⟩
theorem sc_X7_limit_X4_isRaised : ym_site g_X7_limit g_X4_isRaised 8 1 0 := ⟨by decide, by decide, wd_467, wd_87, by decide +kernel⟩
theorem sc_X7_limit_X7_bidderWith : ym_site g_X7_limit g_X7_bidderWith 8 3 1 := ⟨by decide, by decide, wd_381, wd_76, by decide +kernel⟩
theorem sc_X7_limit_X7_whyNoBidder : ym_site g_X7_limit g_X7_whyNoBidder 8 1 1 := ⟨by decide, by decide, wd_384, wd_76, by decide +kernel⟩
theorem sc_X7_limit_X0_isPaper : ym_site g_X7_limit g_X0_isPaper 8 1 0 := ⟨by decide, by decide, wd_534, wd_84, by decide +kernel⟩
theorem sc_X7_limit_X4_isNewOrCalled : ym_site g_X7_limit g_X4_isNewOrCalled 8 3 0 := ⟨by decide, by decide, wd_585, wd_87, by decide +kernel⟩
theorem sc_X7_limit_X5_rowOf : ym_site g_X7_limit g_X5_rowOf 8 3 1 := ⟨by decide, by decide, wd_393, wd_81, by decide +kernel⟩
theorem sc_X7_limit_X7_lotsMade : ym_site g_X7_limit g_X7_lotsMade 8 2 0 := ⟨by decide, by decide, wd_326, wd_76, by decide +kernel⟩
theorem sc_X7_limit_X1_mayBid : ym_site g_X7_limit g_X1_mayBid 8 5 5 := ⟨by decide, by decide, wd_571, wd_82, by decide +kernel⟩
theorem sc_X7_limit_X5_rows : ym_site g_X7_limit g_X5_rows 8 2 0 := ⟨by decide, by decide, wd_397, wd_81, by decide +kernel⟩
def bl_X7_limit_179 (N : Nat) (w0 : Option Nat) (h : ym_H) : Option (Int64 × ym_H) :=
  Option.bind (ym_ob h w0 7) fun o182 =>
  Option.bind (fn_X7_refuse N w0 12 h) fun q182 =>
  some (q182.1, q182.2)
set_option maxRecDepth 20000 in
set_option maxHeartbeats 4000000 in
theorem ob_X7_limit_179 {D : ym_D} {b0 : Nat} {N : Nat} {w0 : Option Nat} {h h' : ym_H} {r : Int64} (hf : bl_X7_limit_179 N w0 h = some (r, h')) : ym_Y D b0 g_X7_limit 8 179 [(0, va_rf w0)] [] h (some (.long r)) h' := by
  unfold bl_X7_limit_179 at hf
  refine ym_aload_n (pc := 179) 0 dX7_limit_179 rfl rfl ?_
  refine ym_bipush (pc := 180) (v := 12) dX7_limit_180 (by decide) ?_
  obtain ⟨o182, f182, hf⟩ := Option.bind_eq_some_iff.mp hf
  obtain ⟨q182, e182, hf⟩ := Option.bind_eq_some_iff.mp hf
  refine ym_callV (pc := 182) (G2 := g_X7_refuse) (dep2 := 4) (As := [.int 12]) (st := []) (stk2 := [.long q182.1]) (r2 := (some (.long q182.1))) (h1 := q182.2) dX7_limit_182 (ok_X7_refuse e182) (sc_X7_limit_X7_refuse) wd_229 wd_231 wd_1 (ci := 7) (q0 := (RX7, TX7, 10)) rfl (by decide) rfl f182 rfl rfl (ym_st4 (Nat.le_of_ble_eq_true rfl)) rfl ?_
  cases hf
  exact ym_lret (pc := 185) dX7_limit_185 rfl
theorem sc_X7_limit_X4_writeLimit : ym_site g_X7_limit g_X4_writeLimit 8 6 3 := ⟨by decide, by decide, wd_602, wd_87, by decide +kernel⟩
theorem sc_X7_limit_X4_stateNow : ym_site g_X7_limit g_X4_stateNow 8 2 0 := ⟨by decide, by decide, wd_388, wd_87, by decide +kernel⟩
theorem sc_X7_limit_X7_askPapers : ym_site g_X7_limit g_X7_askPapers 8 7 1 := ⟨by decide, by decide, wd_463, wd_76, by decide +kernel⟩
def fn_X7_limit (N : Nat) (a0 : Option Nat) (a1 : Int32) (a2 : Int32) (a3 : Int64) (h : ym_H) : Option (Int64 × ym_H) :=
  Option.bind (ym_ob h a0 7) fun o1 =>
  Option.bind (fn_X7_startAct N a0 h) fun q1 =>
  Option.bind (fn_X7_isSum N a3 q1.2) fun q5 =>
  if q5.1 = 0 then
    Option.bind (ym_ob q5.2 a0 7) fun o13 =>
    Option.bind (fn_X7_refuse N a0 1 q5.2) fun q13 =>
    some (q13.1, q13.2)
  else
    Option.bind (ym_ob q5.2 a0 7) fun o19 =>
    Option.bind (fn_X7_lotAt N a0 a1 q5.2) fun q19 =>
    if q19.1 = none then
      Option.bind (fn_X7_whyNoLot N a1 q19.2) fun q31 =>
      Option.bind (ym_ob q31.2 a0 7) fun o34 =>
      Option.bind (fn_X7_refuse N a0 q31.1 q31.2) fun q34 =>
      some (q34.1, q34.2)
    else
      Option.bind (ym_ob q19.2 q19.1 4) fun o40 =>
      Option.bind (fn_X4_isRaised N q19.1 q19.2) fun q40 =>
      if q40.1 = 0 then
        Option.bind (ym_ob q40.2 a0 7) fun o48 =>
        Option.bind (fn_X7_refuse N a0 4 q40.2) fun q48 =>
        some (q48.1, q48.2)
      else
        Option.bind (ym_ob q40.2 a0 7) fun o54 =>
        Option.bind (fn_X7_bidderWith N a0 a2 q40.2) fun q54 =>
        if q54.1 = none then
          Option.bind (fn_X7_whyNoBidder N a2 q54.2) fun q66 =>
          Option.bind (ym_ob q66.2 a0 7) fun o69 =>
          Option.bind (fn_X7_refuse N a0 q66.1 q66.2) fun q69 =>
          some (q69.1, q69.2)
        else
          Option.bind (ym_ob q54.2 q54.1 0) fun o75 =>
          Option.bind (fn_X0_isPaper N q54.1 q54.2) fun q75 =>
          if q75.1 = 0 then
            Option.bind (ym_ob q75.2 a0 7) fun o83 =>
            Option.bind (fn_X7_refuse N a0 4 q75.2) fun q83 =>
            some (q83.1, q83.2)
          else
            Option.bind (ym_ob q75.2 q19.1 4) fun o89 =>
            Option.bind (fn_X4_isNewOrCalled N q19.1 q75.2) fun q89 =>
            if q89.1 = 0 then
              Option.bind (ym_ob q89.2 a0 7) fun o98 =>
              Option.bind (fn_X7_refuse N a0 9 q89.2) fun q98 =>
              some (q98.1, q98.2)
            else
              Option.bind (ym_gR q89.2 q19.1 4 4) fun v104 =>
              Option.bind (ym_ob q89.2 v104 5) fun o108 =>
              Option.bind (fn_X5_rowOf N v104 a2 q89.2) fun q108 =>
              if q108.1 = (-1) then
                Option.bind (ym_gR q108.2 a0 7 4) fun v123 =>
                Option.bind (ym_gR q108.2 a0 7 6) fun v132 =>
                Option.bind (ym_ob q108.2 a0 7) fun o136 =>
                Option.bind (fn_X7_lotsMade N a0 q108.2) fun q136 =>
                Option.bind (ym_ob q136.2 v123 1) fun o139 =>
                Option.bind (fn_X1_mayBid N v123 q54.1 q19.1 a3 v132 q136.1 q136.2) fun q139 =>
                if q139.1 = 0 then
                  Option.bind (ym_ob q139.2 a0 7) fun o148 =>
                  Option.bind (fn_X7_refuse N a0 11 q139.2) fun q148 =>
                  some (q148.1, q148.2)
                else
                  Option.bind (ym_gR q139.2 q19.1 4 4) fun v154 =>
                  Option.bind (ym_ob q139.2 v154 5) fun o157 =>
                  Option.bind (fn_X5_rows N v154 q139.2) fun q157 =>
                  if 40 ≤ q157.1 then
                    bl_X7_limit_179 N a0 q157.2
                  else
                    Option.bind (ym_gR q157.2 q19.1 4 3) fun v167 =>
                    Option.bind (ym_ob q157.2 v167 5) fun o170 =>
                    Option.bind (fn_X5_rows N v167 q157.2) fun q170 =>
                    if q170.1 < 300 then
                      Option.bind (ym_gI q170.2 a0 7 7) fun v188 =>
                      Option.bind (ym_pf q170.2 a0 7 7 (.int (v188 + 1))) fun h193 =>
                      Option.bind (ym_gI h193 a0 7 7) fun v201 =>
                      Option.bind (ym_ob h193 q19.1 4) fun o204 =>
                      Option.bind (fn_X4_writeLimit N q19.1 a2 a3 v201 h193) fun q204 =>
                      Option.bind (ym_ob q204.2 q19.1 4) fun o209 =>
                      Option.bind (fn_X4_stateNow N q19.1 q204.2) fun q209 =>
                      if q209.1 = 1 then
                        Option.bind (ym_ob q209.2 a0 7) fun o219 =>
                        Option.bind (fn_X7_askPapers N a0 q19.1 q209.2) fun q219 =>
                        Option.bind (ym_gI q219.2 a0 7 7) fun v223 =>
                        some ((Int32.toInt64 v223), q219.2)
                      else
                        Option.bind (ym_gI q209.2 a0 7 7) fun v223 =>
                        some ((Int32.toInt64 v223), q209.2)
                    else
                      bl_X7_limit_179 N a0 q170.2
              else
                Option.bind (ym_ob q108.2 a0 7) fun o118 =>
                Option.bind (fn_X7_refuse N a0 13 q108.2) fun q118 =>
                some (q118.1, q118.2)
set_option maxRecDepth 20000 in
set_option maxHeartbeats 4000000 in
theorem ok_X7_limit {D : ym_D} {b0 : Nat} {N : Nat} {a0 : Option Nat} {a1 : Int32} {a2 : Int32} {a3 : Int64} {h h' : ym_H} {r : Int64} (hf : fn_X7_limit N a0 a1 a2 a3 h = some (r, h')) : ym_M D b0 g_X7_limit 8 [va_rf a0, .int a1, .int a2, .long a3] h (some (.long r)) h' := by
  unfold fn_X7_limit at hf
  refine ym_meth (lv := [(0, va_rf a0), (1, .int a1), (2, .int a2), (3, .long a3)]) (by decide) (by simp [lg_sl, ym_c1, ym_cI, ym_cL, g_X7_limit]) (by simp [lv_args, ym_c1, ym_cI, ym_cL]) ?_
  refine ym_aload_n (pc := 0) 0 dX7_limit_0 rfl rfl ?_
  obtain ⟨o1, f1, hf⟩ := Option.bind_eq_some_iff.mp hf
  obtain ⟨q1, e1, hf⟩ := Option.bind_eq_some_iff.mp hf
  refine ym_callV (pc := 1) (G2 := g_X7_startAct) (dep2 := 2) (As := []) (st := []) (stk2 := []) (r2 := none) (h1 := q1.2) dX7_limit_1 (ok_X7_startAct e1) (sc_X7_limit_X7_startAct) wd_221 wd_223 wd_0 (ci := 7) (q0 := (RX7, TX7, 10)) rfl (by decide) rfl f1 rfl rfl (ym_st4 (Nat.le_of_ble_eq_true rfl)) rfl ?_
  refine ym_lload_n (pc := 4) 3 dX7_limit_4 rfl rfl ?_
  obtain ⟨q5, e5, hf⟩ := Option.bind_eq_some_iff.mp hf
  refine ym_callS (pc := 5) (G2 := g_X7_isSum) (dep2 := 1) (As := [.long a3]) (st := []) (stk2 := [.int q5.1]) (r2 := (some (.int q5.1))) (h1 := q5.2) dX7_limit_5 (ok_X7_isSum e5) (sc_X7_limit_X7_isSum) wd_320 wd_321 rfl rfl (ym_st4 (Nat.le_of_ble_eq_true rfl)) rfl ?_
  by_cases c8 : q5.1 = 0
  · rw [if_pos c8] at hf
    refine ym_if_ne_y (pc := 8) (tgt := 17) dX7_limit_8 (by decide) c8 ?_
    refine ym_aload_n (pc := 11) 0 dX7_limit_11 rfl rfl ?_
    refine ym_iconst (pc := 12) (v := 1) dX7_limit_12 (by decide) ?_
    obtain ⟨o13, f13, hf⟩ := Option.bind_eq_some_iff.mp hf
    obtain ⟨q13, e13, hf⟩ := Option.bind_eq_some_iff.mp hf
    refine ym_callV (pc := 13) (G2 := g_X7_refuse) (dep2 := 4) (As := [.int 1]) (st := []) (stk2 := [.long q13.1]) (r2 := (some (.long q13.1))) (h1 := q13.2) dX7_limit_13 (ok_X7_refuse e13) (sc_X7_limit_X7_refuse) wd_229 wd_231 wd_1 (ci := 7) (q0 := (RX7, TX7, 10)) rfl (by decide) rfl f13 rfl rfl (ym_st4 (Nat.le_of_ble_eq_true rfl)) rfl ?_
    cases hf
    exact ym_lret (pc := 16) dX7_limit_16 rfl
  · rw [if_neg c8] at hf
    refine ym_if_ne_n (pc := 8) (tgt := 17) dX7_limit_8 (by decide) c8 ?_
    refine ym_aload_n (pc := 17) 0 dX7_limit_17 rfl rfl ?_
    refine ym_iload_n (pc := 18) 1 dX7_limit_18 rfl rfl ?_
    obtain ⟨o19, f19, hf⟩ := Option.bind_eq_some_iff.mp hf
    obtain ⟨q19, e19, hf⟩ := Option.bind_eq_some_iff.mp hf
    refine ym_callV (pc := 19) (G2 := g_X7_lotAt) (dep2 := 3) (As := [.int a1]) (st := []) (stk2 := [va_rf q19.1]) (r2 := (some (va_rf q19.1))) (h1 := q19.2) dX7_limit_19 (ok_X7_lotAt e19) (sc_X7_limit_X7_lotAt) wd_371 wd_373 wd_5 (ci := 7) (q0 := (RX7, TX7, 10)) rfl (by decide) rfl f19 rfl rfl (ym_st4 (Nat.le_of_ble_eq_true rfl)) rfl ?_
    refine ym_astore (pc := 22) (lv' := [(5, va_rf q19.1), (0, va_rf a0), (1, .int a1), (2, .int a2), (3, .long a3)]) dX7_limit_22 (by decide) ⟨trivial, trivial, trivial, trivial, trivial⟩ rfl ?_
    refine ym_aload (pc := 24) 0 dX7_limit_24 rfl ?_
    by_cases c26 : q19.1 = none
    · rw [if_pos c26] at hf
      refine ym_ifnonnull_y (pc := 26) (tgt := 38) dX7_limit_26 (by decide) c26 ?_
      refine ym_aload_n (pc := 29) 1 dX7_limit_29 rfl rfl ?_
      refine ym_iload_n (pc := 30) 2 dX7_limit_30 rfl rfl ?_
      obtain ⟨q31, e31, hf⟩ := Option.bind_eq_some_iff.mp hf
      refine ym_callS (pc := 31) (G2 := g_X7_whyNoLot) (dep2 := 1) (As := [.int a1]) (st := [va_rf a0]) (stk2 := [.int q31.1, va_rf a0]) (r2 := (some (.int q31.1))) (h1 := q31.2) dX7_limit_31 (ok_X7_whyNoLot e31) (sc_X7_limit_X7_whyNoLot) wd_375 wd_376 rfl rfl (ym_st4 (Nat.le_of_ble_eq_true rfl)) rfl ?_
      obtain ⟨o34, f34, hf⟩ := Option.bind_eq_some_iff.mp hf
      obtain ⟨q34, e34, hf⟩ := Option.bind_eq_some_iff.mp hf
      refine ym_callV (pc := 34) (G2 := g_X7_refuse) (dep2 := 4) (As := [.int q31.1]) (st := []) (stk2 := [.long q34.1]) (r2 := (some (.long q34.1))) (h1 := q34.2) dX7_limit_34 (ok_X7_refuse e34) (sc_X7_limit_X7_refuse) wd_229 wd_231 wd_1 (ci := 7) (q0 := (RX7, TX7, 10)) rfl (by decide) rfl f34 rfl rfl (ym_st4 (Nat.le_of_ble_eq_true rfl)) rfl ?_
      cases hf
      exact ym_lret (pc := 37) dX7_limit_37 rfl
    · rw [if_neg c26] at hf
      refine ym_ifnonnull_n (pc := 26) (tgt := 38) dX7_limit_26 (by decide) c26 ?_
      refine ym_aload (pc := 38) 0 dX7_limit_38 rfl ?_
      obtain ⟨o40, f40, hf⟩ := Option.bind_eq_some_iff.mp hf
      obtain ⟨q40, e40, hf⟩ := Option.bind_eq_some_iff.mp hf
      refine ym_callV (pc := 40) (G2 := g_X4_isRaised) (dep2 := 1) (As := []) (st := []) (stk2 := [.int q40.1]) (r2 := (some (.int q40.1))) (h1 := q40.2) dX7_limit_40 (ok_X4_isRaised e40) (sc_X7_limit_X4_isRaised) wd_464 wd_465 wd_466 (ci := 4) (q0 := (RX4, TX4, 6)) rfl (by decide) rfl f40 rfl rfl (ym_st4 (Nat.le_of_ble_eq_true rfl)) rfl ?_
      by_cases c43 : q40.1 = 0
      · rw [if_pos c43] at hf
        refine ym_if_ne_y (pc := 43) (tgt := 52) dX7_limit_43 (by decide) c43 ?_
        refine ym_aload_n (pc := 46) 1 dX7_limit_46 rfl rfl ?_
        refine ym_iconst (pc := 47) (v := 4) dX7_limit_47 (by decide) ?_
        obtain ⟨o48, f48, hf⟩ := Option.bind_eq_some_iff.mp hf
        obtain ⟨q48, e48, hf⟩ := Option.bind_eq_some_iff.mp hf
        refine ym_callV (pc := 48) (G2 := g_X7_refuse) (dep2 := 4) (As := [.int 4]) (st := []) (stk2 := [.long q48.1]) (r2 := (some (.long q48.1))) (h1 := q48.2) dX7_limit_48 (ok_X7_refuse e48) (sc_X7_limit_X7_refuse) wd_229 wd_231 wd_1 (ci := 7) (q0 := (RX7, TX7, 10)) rfl (by decide) rfl f48 rfl rfl (ym_st4 (Nat.le_of_ble_eq_true rfl)) rfl ?_
        cases hf
        exact ym_lret (pc := 51) dX7_limit_51 rfl
      · rw [if_neg c43] at hf
        refine ym_if_ne_n (pc := 43) (tgt := 52) dX7_limit_43 (by decide) c43 ?_
        refine ym_aload_n (pc := 52) 1 dX7_limit_52 rfl rfl ?_
        refine ym_iload_n (pc := 53) 3 dX7_limit_53 rfl rfl ?_
        obtain ⟨o54, f54, hf⟩ := Option.bind_eq_some_iff.mp hf
        obtain ⟨q54, e54, hf⟩ := Option.bind_eq_some_iff.mp hf
        refine ym_callV (pc := 54) (G2 := g_X7_bidderWith) (dep2 := 3) (As := [.int a2]) (st := []) (stk2 := [va_rf q54.1]) (r2 := (some (va_rf q54.1))) (h1 := q54.2) dX7_limit_54 (ok_X7_bidderWith e54) (sc_X7_limit_X7_bidderWith) wd_378 wd_380 wd_6 (ci := 7) (q0 := (RX7, TX7, 10)) rfl (by decide) rfl f54 rfl rfl (ym_st4 (Nat.le_of_ble_eq_true rfl)) rfl ?_
        refine ym_sub (lv' := [(5, va_rf q19.1), (0, va_rf a0), (2, .int a2), (3, .long a3)]) [0, 1, 3, 4] rfl ?_
        refine ym_astore (pc := 57) (lv' := [(6, va_rf q54.1), (5, va_rf q19.1), (0, va_rf a0), (2, .int a2), (3, .long a3)]) dX7_limit_57 (by decide) ⟨ym_c1 q19.1, trivial, trivial, trivial, trivial⟩ rfl ?_
        refine ym_aload (pc := 59) 0 dX7_limit_59 rfl ?_
        by_cases c61 : q54.1 = none
        · rw [if_pos c61] at hf
          refine ym_ifnonnull_y (pc := 61) (tgt := 73) dX7_limit_61 (by decide) c61 ?_
          refine ym_aload_n (pc := 64) 2 dX7_limit_64 rfl rfl ?_
          refine ym_iload_n (pc := 65) 3 dX7_limit_65 rfl rfl ?_
          obtain ⟨q66, e66, hf⟩ := Option.bind_eq_some_iff.mp hf
          refine ym_callS (pc := 66) (G2 := g_X7_whyNoBidder) (dep2 := 1) (As := [.int a2]) (st := [va_rf a0]) (stk2 := [.int q66.1, va_rf a0]) (r2 := (some (.int q66.1))) (h1 := q66.2) dX7_limit_66 (ok_X7_whyNoBidder e66) (sc_X7_limit_X7_whyNoBidder) wd_382 wd_383 rfl rfl (ym_st4 (Nat.le_of_ble_eq_true rfl)) rfl ?_
          obtain ⟨o69, f69, hf⟩ := Option.bind_eq_some_iff.mp hf
          obtain ⟨q69, e69, hf⟩ := Option.bind_eq_some_iff.mp hf
          refine ym_callV (pc := 69) (G2 := g_X7_refuse) (dep2 := 4) (As := [.int q66.1]) (st := []) (stk2 := [.long q69.1]) (r2 := (some (.long q69.1))) (h1 := q69.2) dX7_limit_69 (ok_X7_refuse e69) (sc_X7_limit_X7_refuse) wd_229 wd_231 wd_1 (ci := 7) (q0 := (RX7, TX7, 10)) rfl (by decide) rfl f69 rfl rfl (ym_st4 (Nat.le_of_ble_eq_true rfl)) rfl ?_
          cases hf
          exact ym_lret (pc := 72) dX7_limit_72 rfl
        · rw [if_neg c61] at hf
          refine ym_ifnonnull_n (pc := 61) (tgt := 73) dX7_limit_61 (by decide) c61 ?_
          refine ym_aload (pc := 73) 0 dX7_limit_73 rfl ?_
          obtain ⟨o75, f75, hf⟩ := Option.bind_eq_some_iff.mp hf
          obtain ⟨q75, e75, hf⟩ := Option.bind_eq_some_iff.mp hf
          refine ym_callV (pc := 75) (G2 := g_X0_isPaper) (dep2 := 1) (As := []) (st := []) (stk2 := [.int q75.1]) (r2 := (some (.int q75.1))) (h1 := q75.2) dX7_limit_75 (ok_X0_isPaper e75) (sc_X7_limit_X0_isPaper) wd_531 wd_532 wd_533 (ci := 0) (q0 := (RX0, TX0, 4)) rfl (by decide) rfl f75 rfl rfl (ym_st4 (Nat.le_of_ble_eq_true rfl)) rfl ?_
          by_cases c78 : q75.1 = 0
          · rw [if_pos c78] at hf
            refine ym_if_ne_y (pc := 78) (tgt := 87) dX7_limit_78 (by decide) c78 ?_
            refine ym_aload_n (pc := 81) 2 dX7_limit_81 rfl rfl ?_
            refine ym_iconst (pc := 82) (v := 4) dX7_limit_82 (by decide) ?_
            obtain ⟨o83, f83, hf⟩ := Option.bind_eq_some_iff.mp hf
            obtain ⟨q83, e83, hf⟩ := Option.bind_eq_some_iff.mp hf
            refine ym_callV (pc := 83) (G2 := g_X7_refuse) (dep2 := 4) (As := [.int 4]) (st := []) (stk2 := [.long q83.1]) (r2 := (some (.long q83.1))) (h1 := q83.2) dX7_limit_83 (ok_X7_refuse e83) (sc_X7_limit_X7_refuse) wd_229 wd_231 wd_1 (ci := 7) (q0 := (RX7, TX7, 10)) rfl (by decide) rfl f83 rfl rfl (ym_st4 (Nat.le_of_ble_eq_true rfl)) rfl ?_
            cases hf
            exact ym_lret (pc := 86) dX7_limit_86 rfl
          · rw [if_neg c78] at hf
            refine ym_if_ne_n (pc := 78) (tgt := 87) dX7_limit_78 (by decide) c78 ?_
            refine ym_aload (pc := 87) 1 dX7_limit_87 rfl ?_
            obtain ⟨o89, f89, hf⟩ := Option.bind_eq_some_iff.mp hf
            obtain ⟨q89, e89, hf⟩ := Option.bind_eq_some_iff.mp hf
            refine ym_callV (pc := 89) (G2 := g_X4_isNewOrCalled) (dep2 := 3) (As := []) (st := []) (stk2 := [.int q89.1]) (r2 := (some (.int q89.1))) (h1 := q89.2) dX7_limit_89 (ok_X4_isNewOrCalled e89) (sc_X7_limit_X4_isNewOrCalled) wd_598 wd_583 wd_584 (ci := 4) (q0 := (RX4, TX4, 6)) rfl (by decide) rfl f89 rfl rfl (ym_st4 (Nat.le_of_ble_eq_true rfl)) rfl ?_
            by_cases c92 : q89.1 = 0
            · rw [if_pos c92] at hf
              refine ym_if_ne_y (pc := 92) (tgt := 102) dX7_limit_92 (by decide) c92 ?_
              refine ym_aload_n (pc := 95) 2 dX7_limit_95 rfl rfl ?_
              refine ym_bipush (pc := 96) (v := 9) dX7_limit_96 (by decide) ?_
              obtain ⟨o98, f98, hf⟩ := Option.bind_eq_some_iff.mp hf
              obtain ⟨q98, e98, hf⟩ := Option.bind_eq_some_iff.mp hf
              refine ym_callV (pc := 98) (G2 := g_X7_refuse) (dep2 := 4) (As := [.int 9]) (st := []) (stk2 := [.long q98.1]) (r2 := (some (.long q98.1))) (h1 := q98.2) dX7_limit_98 (ok_X7_refuse e98) (sc_X7_limit_X7_refuse) wd_229 wd_231 wd_1 (ci := 7) (q0 := (RX7, TX7, 10)) rfl (by decide) rfl f98 rfl rfl (ym_st4 (Nat.le_of_ble_eq_true rfl)) rfl ?_
              cases hf
              exact ym_lret (pc := 101) dX7_limit_101 rfl
            · rw [if_neg c92] at hf
              refine ym_if_ne_n (pc := 92) (tgt := 102) dX7_limit_92 (by decide) c92 ?_
              refine ym_aload (pc := 102) 1 dX7_limit_102 rfl ?_
              obtain ⟨v104, e104, hf⟩ := Option.bind_eq_some_iff.mp hf
              refine ym_getN (pc := 104) dX7_limit_104 rfl (by decide) iX4 (k := 4) (by decide) wd_351 (ym_gR_v e104) ?_
              refine ym_iload_n (pc := 107) 3 dX7_limit_107 rfl rfl ?_
              obtain ⟨o108, f108, hf⟩ := Option.bind_eq_some_iff.mp hf
              obtain ⟨q108, e108, hf⟩ := Option.bind_eq_some_iff.mp hf
              refine ym_callV (pc := 108) (G2 := g_X5_rowOf) (dep2 := 3) (As := [.int a2]) (st := []) (stk2 := [.int q108.1]) (r2 := (some (.int q108.1))) (h1 := q108.2) dX7_limit_108 (ok_X5_rowOf e108) (sc_X7_limit_X5_rowOf) wd_390 wd_391 wd_392 (ci := 5) (q0 := (RX5, TX5, 2)) rfl (by decide) rfl f108 rfl rfl (ym_st4 (Nat.le_of_ble_eq_true rfl)) rfl ?_
              refine ym_iconst (pc := 111) (v := (-1)) dX7_limit_111 (by decide) ?_
              by_cases c112 : q108.1 = (-1)
              · rw [if_pos c112] at hf
                refine ym_icmp_eq_y (pc := 112) (tgt := 122) dX7_limit_112 (by decide) c112 ?_
                refine ym_aload_n (pc := 122) 2 dX7_limit_122 rfl rfl ?_
                obtain ⟨v123, e123, hf⟩ := Option.bind_eq_some_iff.mp hf
                refine ym_get (pc := 123) dX7_limit_123 rfl (by decide) iX7 (k := 4) (by decide) wd_190 (ym_gR_v e123) ?_
                refine ym_aload (pc := 126) 0 dX7_limit_126 rfl ?_
                refine ym_aload (pc := 128) 1 dX7_limit_128 rfl ?_
                refine ym_lload_n (pc := 130) 4 dX7_limit_130 rfl rfl ?_
                refine ym_aload_n (pc := 131) 2 dX7_limit_131 rfl rfl ?_
                obtain ⟨v132, e132, hf⟩ := Option.bind_eq_some_iff.mp hf
                refine ym_get (pc := 132) dX7_limit_132 rfl (by decide) iX7 (k := 6) (by decide) wd_192 (ym_gR_v e132) ?_
                refine ym_aload_n (pc := 135) 2 dX7_limit_135 rfl rfl ?_
                obtain ⟨o136, f136, hf⟩ := Option.bind_eq_some_iff.mp hf
                obtain ⟨q136, e136, hf⟩ := Option.bind_eq_some_iff.mp hf
                refine ym_callV (pc := 136) (G2 := g_X7_lotsMade) (dep2 := 2) (As := []) (st := [va_rf v132, .long a3, va_rf q19.1, va_rf q54.1, va_rf v123]) (stk2 := [.int q136.1, va_rf v132, .long a3, va_rf q19.1, va_rf q54.1, va_rf v123]) (r2 := (some (.int q136.1))) (h1 := q136.2) dX7_limit_136 (ok_X7_lotsMade e136) (sc_X7_limit_X7_lotsMade) wd_323 wd_325 wd_4 (ci := 7) (q0 := (RX7, TX7, 10)) rfl (by decide) rfl f136 rfl rfl (by simp [ym_c1, ym_cI, ym_cL]) rfl ?_
                obtain ⟨o139, f139, hf⟩ := Option.bind_eq_some_iff.mp hf
                obtain ⟨q139, e139, hf⟩ := Option.bind_eq_some_iff.mp hf
                refine ym_callV (pc := 139) (G2 := g_X1_mayBid) (dep2 := 5) (As := [va_rf q54.1, va_rf q19.1, .long a3, va_rf v132, .int q136.1]) (st := []) (stk2 := [.int q139.1]) (r2 := (some (.int q139.1))) (h1 := q139.2) dX7_limit_139 (ok_X1_mayBid e139) (sc_X7_limit_X1_mayBid) wd_568 wd_569 wd_570 (ci := 1) (q0 := (RX1, TX1, 3)) rfl (by decide) rfl f139 rfl rfl (ym_st4 (Nat.le_of_ble_eq_true rfl)) rfl ?_
                by_cases c142 : q139.1 = 0
                · rw [if_pos c142] at hf
                  refine ym_if_ne_y (pc := 142) (tgt := 152) dX7_limit_142 (by decide) c142 ?_
                  refine ym_aload_n (pc := 145) 2 dX7_limit_145 rfl rfl ?_
                  refine ym_bipush (pc := 146) (v := 11) dX7_limit_146 (by decide) ?_
                  obtain ⟨o148, f148, hf⟩ := Option.bind_eq_some_iff.mp hf
                  obtain ⟨q148, e148, hf⟩ := Option.bind_eq_some_iff.mp hf
                  refine ym_callV (pc := 148) (G2 := g_X7_refuse) (dep2 := 4) (As := [.int 11]) (st := []) (stk2 := [.long q148.1]) (r2 := (some (.long q148.1))) (h1 := q148.2) dX7_limit_148 (ok_X7_refuse e148) (sc_X7_limit_X7_refuse) wd_229 wd_231 wd_1 (ci := 7) (q0 := (RX7, TX7, 10)) rfl (by decide) rfl f148 rfl rfl (ym_st4 (Nat.le_of_ble_eq_true rfl)) rfl ?_
                  cases hf
                  exact ym_lret (pc := 151) dX7_limit_151 rfl
                · rw [if_neg c142] at hf
                  refine ym_if_ne_n (pc := 142) (tgt := 152) dX7_limit_142 (by decide) c142 ?_
                  refine ym_aload (pc := 152) 1 dX7_limit_152 rfl ?_
                  obtain ⟨v154, e154, hf⟩ := Option.bind_eq_some_iff.mp hf
                  refine ym_getN (pc := 154) dX7_limit_154 rfl (by decide) iX4 (k := 4) (by decide) wd_351 (ym_gR_v e154) ?_
                  obtain ⟨o157, f157, hf⟩ := Option.bind_eq_some_iff.mp hf
                  obtain ⟨q157, e157, hf⟩ := Option.bind_eq_some_iff.mp hf
                  refine ym_callV (pc := 157) (G2 := g_X5_rows) (dep2 := 2) (As := []) (st := []) (stk2 := [.int q157.1]) (r2 := (some (.int q157.1))) (h1 := q157.2) dX7_limit_157 (ok_X5_rows e157) (sc_X7_limit_X5_rows) wd_403 wd_395 wd_396 (ci := 5) (q0 := (RX5, TX5, 2)) rfl (by decide) rfl f157 rfl rfl (ym_st4 (Nat.le_of_ble_eq_true rfl)) rfl ?_
                  refine ym_bipush (pc := 160) (v := 40) dX7_limit_160 (by decide) ?_
                  by_cases c162 : 40 ≤ q157.1
                  · rw [if_pos c162] at hf
                    refine ym_icmp_ge_y (pc := 162) (tgt := 179) dX7_limit_162 (by decide) c162 ?_
                    exact ym_sub [2] rfl (ob_X7_limit_179 hf)
                  · rw [if_neg c162] at hf
                    refine ym_icmp_ge_n (pc := 162) (tgt := 179) dX7_limit_162 (by decide) c162 ?_
                    refine ym_aload (pc := 165) 1 dX7_limit_165 rfl ?_
                    obtain ⟨v167, e167, hf⟩ := Option.bind_eq_some_iff.mp hf
                    refine ym_getN (pc := 167) dX7_limit_167 rfl (by decide) iX4 (k := 3) (by decide) wd_348 (ym_gR_v e167) ?_
                    obtain ⟨o170, f170, hf⟩ := Option.bind_eq_some_iff.mp hf
                    obtain ⟨q170, e170, hf⟩ := Option.bind_eq_some_iff.mp hf
                    refine ym_callV (pc := 170) (G2 := g_X5_rows) (dep2 := 2) (As := []) (st := []) (stk2 := [.int q170.1]) (r2 := (some (.int q170.1))) (h1 := q170.2) dX7_limit_170 (ok_X5_rows e170) (sc_X7_limit_X5_rows) wd_403 wd_395 wd_396 (ci := 5) (q0 := (RX5, TX5, 2)) rfl (by decide) rfl f170 rfl rfl (ym_st4 (Nat.le_of_ble_eq_true rfl)) rfl ?_
                    refine ym_sipush (pc := 173) (v := 300) dX7_limit_173 (by decide) ?_
                    by_cases c176 : q170.1 < 300
                    · rw [if_pos c176] at hf
                      refine ym_icmp_lt_y (pc := 176) (tgt := 186) dX7_limit_176 (by decide) c176 ?_
                      refine ym_aload_n (pc := 186) 2 dX7_limit_186 rfl rfl ?_
                      refine ym_dup (pc := 187) dX7_limit_187 (ym_c1 a0) ?_
                      obtain ⟨v188, e188, hf⟩ := Option.bind_eq_some_iff.mp hf
                      refine ym_get (pc := 188) dX7_limit_188 rfl (by decide) iX7 (k := 7) (by decide) wd_193 (ym_gI_v e188) ?_
                      refine ym_iconst (pc := 191) (v := 1) dX7_limit_191 (by decide) ?_
                      refine ym_iadd (pc := 192) dX7_limit_192 ?_
                      obtain ⟨h193, e193, hf⟩ := Option.bind_eq_some_iff.mp hf
                      refine ym_put (pc := 193) (h1 := h193) dX7_limit_193 rfl (by decide) iX7 tyX7 tyX7_ok nmX7 (k := 7) (by decide) wd_193 rfl (tyX7_ok 7 (by decide)) rfl rfl e193 ?_
                      refine ym_aload (pc := 196) 1 dX7_limit_196 rfl ?_
                      refine ym_iload_n (pc := 198) 3 dX7_limit_198 rfl rfl ?_
                      refine ym_lload_n (pc := 199) 4 dX7_limit_199 rfl rfl ?_
                      refine ym_aload_n (pc := 200) 2 dX7_limit_200 rfl rfl ?_
                      obtain ⟨v201, e201, hf⟩ := Option.bind_eq_some_iff.mp hf
                      refine ym_get (pc := 201) dX7_limit_201 rfl (by decide) iX7 (k := 7) (by decide) wd_193 (ym_gI_v e201) ?_
                      obtain ⟨o204, f204, hf⟩ := Option.bind_eq_some_iff.mp hf
                      obtain ⟨q204, e204, hf⟩ := Option.bind_eq_some_iff.mp hf
                      refine ym_callV (pc := 204) (G2 := g_X4_writeLimit) (dep2 := 6) (As := [.int a2, .long a3, .int v201]) (st := []) (stk2 := []) (r2 := none) (h1 := q204.2) dX7_limit_204 (ok_X4_writeLimit e204) (sc_X7_limit_X4_writeLimit) wd_599 wd_600 wd_601 (ci := 4) (q0 := (RX4, TX4, 6)) rfl (by decide) rfl f204 rfl rfl (ym_st4 (Nat.le_of_ble_eq_true rfl)) rfl ?_
                      refine ym_aload (pc := 207) 1 dX7_limit_207 rfl ?_
                      obtain ⟨o209, f209, hf⟩ := Option.bind_eq_some_iff.mp hf
                      obtain ⟨q209, e209, hf⟩ := Option.bind_eq_some_iff.mp hf
                      refine ym_callV (pc := 209) (G2 := g_X4_stateNow) (dep2 := 2) (As := []) (st := []) (stk2 := [.int q209.1]) (r2 := (some (.int q209.1))) (h1 := q209.2) dX7_limit_209 (ok_X4_stateNow e209) (sc_X7_limit_X4_stateNow) wd_385 wd_386 wd_387 (ci := 4) (q0 := (RX4, TX4, 6)) rfl (by decide) rfl f209 rfl rfl (ym_st4 (Nat.le_of_ble_eq_true rfl)) rfl ?_
                      refine ym_iconst (pc := 212) (v := 1) dX7_limit_212 (by decide) ?_
                      by_cases c213 : q209.1 = 1
                      · rw [if_pos c213] at hf
                        refine ym_icmp_ne_y (pc := 213) (tgt := 222) dX7_limit_213 (by decide) c213 ?_
                        refine ym_aload_n (pc := 216) 2 dX7_limit_216 rfl rfl ?_
                        refine ym_aload (pc := 217) 1 dX7_limit_217 rfl ?_
                        obtain ⟨o219, f219, hf⟩ := Option.bind_eq_some_iff.mp hf
                        obtain ⟨q219, e219, hf⟩ := Option.bind_eq_some_iff.mp hf
                        refine ym_callV (pc := 219) (G2 := g_X7_askPapers) (dep2 := 7) (As := [va_rf q19.1]) (st := []) (stk2 := []) (r2 := none) (h1 := q219.2) dX7_limit_219 (ok_X7_askPapers e219) (sc_X7_limit_X7_askPapers) wd_460 wd_462 wd_8 (ci := 7) (q0 := (RX7, TX7, 10)) rfl (by decide) rfl f219 rfl rfl (ym_st4 (Nat.le_of_ble_eq_true rfl)) rfl ?_
                        refine ym_aload_n (pc := 222) 2 dX7_limit_222 rfl rfl ?_
                        obtain ⟨v223, e223, hf⟩ := Option.bind_eq_some_iff.mp hf
                        refine ym_get (pc := 223) dX7_limit_223 rfl (by decide) iX7 (k := 7) (by decide) wd_193 (ym_gI_v e223) ?_
                        refine ym_i2l (pc := 226) dX7_limit_226 ?_
                        cases hf
                        exact ym_lret (pc := 227) dX7_limit_227 rfl
                      · rw [if_neg c213] at hf
                        refine ym_icmp_ne_n (pc := 213) (tgt := 222) dX7_limit_213 (by decide) c213 ?_
                        refine ym_aload_n (pc := 222) 2 dX7_limit_222 rfl rfl ?_
                        obtain ⟨v223, e223, hf⟩ := Option.bind_eq_some_iff.mp hf
                        refine ym_get (pc := 223) dX7_limit_223 rfl (by decide) iX7 (k := 7) (by decide) wd_193 (ym_gI_v e223) ?_
                        refine ym_i2l (pc := 226) dX7_limit_226 ?_
                        cases hf
                        exact ym_lret (pc := 227) dX7_limit_227 rfl
                    · rw [if_neg c176] at hf
                      refine ym_icmp_lt_n (pc := 176) (tgt := 186) dX7_limit_176 (by decide) c176 ?_
                      exact ym_sub [2] rfl (ob_X7_limit_179 hf)
              · rw [if_neg c112] at hf
                refine ym_icmp_eq_n (pc := 112) (tgt := 122) dX7_limit_112 (by decide) c112 ?_
                refine ym_aload_n (pc := 115) 2 dX7_limit_115 rfl rfl ?_
                refine ym_bipush (pc := 116) (v := 13) dX7_limit_116 (by decide) ?_
                obtain ⟨o118, f118, hf⟩ := Option.bind_eq_some_iff.mp hf
                obtain ⟨q118, e118, hf⟩ := Option.bind_eq_some_iff.mp hf
                refine ym_callV (pc := 118) (G2 := g_X7_refuse) (dep2 := 4) (As := [.int 13]) (st := []) (stk2 := [.long q118.1]) (r2 := (some (.long q118.1))) (h1 := q118.2) dX7_limit_118 (ok_X7_refuse e118) (sc_X7_limit_X7_refuse) wd_229 wd_231 wd_1 (ci := 7) (q0 := (RX7, TX7, 10)) rfl (by decide) rfl f118 rfl rfl (ym_st4 (Nat.le_of_ble_eq_true rfl)) rfl ?_
                cases hf
                exact ym_lret (pc := 121) dX7_limit_121 rfl
theorem dX7_lot_0 : decode cX7_lot 0 = .ok (.aload_n 0, 1) := by decide +kernel
theorem dX7_lot_1 : decode cX7_lot 1 = .ok (.invokevirtual 58, 3) := by decide +kernel
theorem dX7_lot_4 : decode cX7_lot 4 = .ok (.iload_n 1, 1) := by decide +kernel
theorem dX7_lot_5 : decode cX7_lot 5 = .ok (.iconst 1, 1) := by decide +kernel
theorem dX7_lot_6 : decode cX7_lot 6 = .ok (.if_icmp .lt 8, 3) := by decide +kernel
theorem dX7_lot_9 : decode cX7_lot 9 = .ok (.iload_n 1, 1) := by decide +kernel
theorem dX7_lot_10 : decode cX7_lot 10 = .ok (.iconst 5, 1) := by decide +kernel
theorem dX7_lot_11 : decode cX7_lot 11 = .ok (.if_icmp .le 9, 3) := by decide +kernel
theorem dX7_lot_14 : decode cX7_lot 14 = .ok (.aload_n 0, 1) := by decide +kernel
theorem dX7_lot_15 : decode cX7_lot 15 = .ok (.iconst 1, 1) := by decide +kernel
theorem dX7_lot_16 : decode cX7_lot 16 = .ok (.invokevirtual 61, 3) := by decide +kernel
theorem dX7_lot_19 : decode cX7_lot 19 = .ok (.lreturn, 1) := by decide +kernel
theorem dX7_lot_20 : decode cX7_lot 20 = .ok (.lload_n 2, 1) := by decide +kernel
theorem dX7_lot_21 : decode cX7_lot 21 = .ok (.invokestatic 80, 3) := by decide +kernel
theorem dX7_lot_24 : decode cX7_lot 24 = .ok (.ifCond .eq 11, 3) := by decide +kernel
theorem dX7_lot_27 : decode cX7_lot 27 = .ok (.lload 4, 2) := by decide +kernel
theorem dX7_lot_29 : decode cX7_lot 29 = .ok (.invokestatic 65, 3) := by decide +kernel
theorem dX7_lot_32 : decode cX7_lot 32 = .ok (.ifCond .ne 9, 3) := by decide +kernel
theorem dX7_lot_35 : decode cX7_lot 35 = .ok (.aload_n 0, 1) := by decide +kernel
theorem dX7_lot_36 : decode cX7_lot 36 = .ok (.iconst 1, 1) := by decide +kernel
theorem dX7_lot_37 : decode cX7_lot 37 = .ok (.invokevirtual 61, 3) := by decide +kernel
theorem dX7_lot_40 : decode cX7_lot 40 = .ok (.lreturn, 1) := by decide +kernel
theorem dX7_lot_41 : decode cX7_lot 41 = .ok (.iload_n 1, 1) := by decide +kernel
theorem dX7_lot_42 : decode cX7_lot 42 = .ok (.iconst 5, 1) := by decide +kernel
theorem dX7_lot_43 : decode cX7_lot 43 = .ok (.if_icmp .ne 16, 3) := by decide +kernel
theorem dX7_lot_46 : decode cX7_lot 46 = .ok (.lload 4, 2) := by decide +kernel
theorem dX7_lot_48 : decode cX7_lot 48 = .ok (.lload_n 2, 1) := by decide +kernel
theorem dX7_lot_49 : decode cX7_lot 49 = .ok (.lcmp, 1) := by decide +kernel
theorem dX7_lot_50 : decode cX7_lot 50 = .ok (.ifCond .le 9, 3) := by decide +kernel
theorem dX7_lot_53 : decode cX7_lot 53 = .ok (.aload_n 0, 1) := by decide +kernel
theorem dX7_lot_54 : decode cX7_lot 54 = .ok (.iconst 1, 1) := by decide +kernel
theorem dX7_lot_55 : decode cX7_lot 55 = .ok (.invokevirtual 61, 3) := by decide +kernel
theorem dX7_lot_58 : decode cX7_lot 58 = .ok (.lreturn, 1) := by decide +kernel
theorem dX7_lot_59 : decode cX7_lot 59 = .ok (.aload_n 0, 1) := by decide +kernel
theorem dX7_lot_60 : decode cX7_lot 60 = .ok (.invokevirtual 83, 3) := by decide +kernel
theorem dX7_lot_63 : decode cX7_lot 63 = .ok (.istore 6, 2) := by decide +kernel
theorem dX7_lot_65 : decode cX7_lot 65 = .ok (.iload 6, 2) := by decide +kernel
theorem dX7_lot_67 : decode cX7_lot 67 = .ok (.ifCond .lt 13, 3) := by decide +kernel
theorem dX7_lot_70 : decode cX7_lot 70 = .ok (.iload 6, 2) := by decide +kernel
theorem dX7_lot_72 : decode cX7_lot 72 = .ok (.aload_n 0, 1) := by decide +kernel
theorem dX7_lot_73 : decode cX7_lot 73 = .ok (.getfield 54, 3) := by decide +kernel
theorem dX7_lot_76 : decode cX7_lot 76 = .ok (.arraylength, 1) := by decide +kernel
theorem dX7_lot_77 : decode cX7_lot 77 = .ok (.if_icmp .lt 10, 3) := by decide +kernel
theorem dX7_lot_80 : decode cX7_lot 80 = .ok (.aload_n 0, 1) := by decide +kernel
theorem dX7_lot_81 : decode cX7_lot 81 = .ok (.bipush 12, 2) := by decide +kernel
theorem dX7_lot_83 : decode cX7_lot 83 = .ok (.invokevirtual 61, 3) := by decide +kernel
theorem dX7_lot_86 : decode cX7_lot 86 = .ok (.lreturn, 1) := by decide +kernel
theorem dX7_lot_87 : decode cX7_lot 87 = .ok (.aload_n 0, 1) := by decide +kernel
theorem dX7_lot_88 : decode cX7_lot 88 = .ok (.getfield 54, 3) := by decide +kernel
theorem dX7_lot_91 : decode cX7_lot 91 = .ok (.iload 6, 2) := by decide +kernel
theorem dX7_lot_93 : decode cX7_lot 93 = .ok (.new 52, 3) := by decide +kernel
theorem dX7_lot_96 : decode cX7_lot 96 = .ok (.dup, 1) := by decide +kernel
theorem dX7_lot_97 : decode cX7_lot 97 = .ok (.aload_n 0, 1) := by decide +kernel
theorem dX7_lot_98 : decode cX7_lot 98 = .ok (.getfield 12, 3) := by decide +kernel
theorem dX7_lot_101 : decode cX7_lot 101 = .ok (.iload_n 1, 1) := by decide +kernel
theorem dX7_lot_102 : decode cX7_lot 102 = .ok (.lload_n 2, 1) := by decide +kernel
theorem dX7_lot_103 : decode cX7_lot 103 = .ok (.lload 4, 2) := by decide +kernel
theorem dX7_lot_105 : decode cX7_lot 105 = .ok (.invokespecial 86, 3) := by decide +kernel
theorem dX7_lot_108 : decode cX7_lot 108 = .ok (.aastore, 1) := by decide +kernel
theorem dX7_lot_109 : decode cX7_lot 109 = .ok (.aload_n 0, 1) := by decide +kernel
theorem dX7_lot_110 : decode cX7_lot 110 = .ok (.getfield 21, 3) := by decide +kernel
theorem dX7_lot_113 : decode cX7_lot 113 = .ok (.iconst 1, 1) := by decide +kernel
theorem dX7_lot_114 : decode cX7_lot 114 = .ok (.iload 6, 2) := by decide +kernel
theorem dX7_lot_116 : decode cX7_lot 116 = .ok (.iconst 1, 1) := by decide +kernel
theorem dX7_lot_117 : decode cX7_lot 117 = .ok (.iadd, 1) := by decide +kernel
theorem dX7_lot_118 : decode cX7_lot 118 = .ok (.i2l, 1) := by decide +kernel
theorem dX7_lot_119 : decode cX7_lot 119 = .ok (.invokevirtual 76, 3) := by decide +kernel
theorem dX7_lot_122 : decode cX7_lot 122 = .ok (.iload 6, 2) := by decide +kernel
theorem dX7_lot_124 : decode cX7_lot 124 = .ok (.i2l, 1) := by decide +kernel
theorem dX7_lot_125 : decode cX7_lot 125 = .ok (.lreturn, 1) := by decide +kernel
theorem sc_X7_lot_X7_startAct : ym_site g_X7_lot g_X7_startAct 5 2 0 := ⟨by decide, by decide, wd_224, wd_76, by decide +kernel⟩
theorem sc_X7_lot_X7_refuse : ym_site g_X7_lot g_X7_refuse 5 4 1 := ⟨by decide, by decide, wd_232, wd_76, by decide +kernel⟩
def bl_X7_lot_14 (N : Nat) (w0 : Option Nat) (h : ym_H) : Option (Int64 × ym_H) :=
  Option.bind (ym_ob h w0 7) fun o16 =>
  Option.bind (fn_X7_refuse N w0 1 h) fun q16 =>
  some (q16.1, q16.2)
set_option maxRecDepth 20000 in
set_option maxHeartbeats 4000000 in
theorem ob_X7_lot_14 {D : ym_D} {b0 : Nat} {N : Nat} {w0 : Option Nat} {h h' : ym_H} {r : Int64} (hf : bl_X7_lot_14 N w0 h = some (r, h')) : ym_Y D b0 g_X7_lot 5 14 [(0, va_rf w0)] [] h (some (.long r)) h' := by
  unfold bl_X7_lot_14 at hf
  refine ym_aload_n (pc := 14) 0 dX7_lot_14 rfl rfl ?_
  refine ym_iconst (pc := 15) (v := 1) dX7_lot_15 (by decide) ?_
  obtain ⟨o16, f16, hf⟩ := Option.bind_eq_some_iff.mp hf
  obtain ⟨q16, e16, hf⟩ := Option.bind_eq_some_iff.mp hf
  refine ym_callV (pc := 16) (G2 := g_X7_refuse) (dep2 := 4) (As := [.int 1]) (st := []) (stk2 := [.long q16.1]) (r2 := (some (.long q16.1))) (h1 := q16.2) dX7_lot_16 (ok_X7_refuse e16) (sc_X7_lot_X7_refuse) wd_229 wd_231 wd_1 (ci := 7) (q0 := (RX7, TX7, 10)) rfl (by decide) rfl f16 rfl rfl (ym_st4 (Nat.le_of_ble_eq_true rfl)) rfl ?_
  cases hf
  exact ym_lret (pc := 19) dX7_lot_19 rfl
theorem sc_X7_lot_X7_isSum : ym_site g_X7_lot g_X7_isSum 5 1 1 := ⟨by decide, by decide, wd_322, wd_76, by decide +kernel⟩
def bl_X7_lot_35 (N : Nat) (w0 : Option Nat) (h : ym_H) : Option (Int64 × ym_H) :=
  Option.bind (ym_ob h w0 7) fun o37 =>
  Option.bind (fn_X7_refuse N w0 1 h) fun q37 =>
  some (q37.1, q37.2)
set_option maxRecDepth 20000 in
set_option maxHeartbeats 4000000 in
theorem ob_X7_lot_35 {D : ym_D} {b0 : Nat} {N : Nat} {w0 : Option Nat} {h h' : ym_H} {r : Int64} (hf : bl_X7_lot_35 N w0 h = some (r, h')) : ym_Y D b0 g_X7_lot 5 35 [(0, va_rf w0)] [] h (some (.long r)) h' := by
  unfold bl_X7_lot_35 at hf
  refine ym_aload_n (pc := 35) 0 dX7_lot_35 rfl rfl ?_
  refine ym_iconst (pc := 36) (v := 1) dX7_lot_36 (by decide) ?_
  obtain ⟨o37, f37, hf⟩ := Option.bind_eq_some_iff.mp hf
  obtain ⟨q37, e37, hf⟩ := Option.bind_eq_some_iff.mp hf
  refine ym_callV (pc := 37) (G2 := g_X7_refuse) (dep2 := 4) (As := [.int 1]) (st := []) (stk2 := [.long q37.1]) (r2 := (some (.long q37.1))) (h1 := q37.2) dX7_lot_37 (ok_X7_refuse e37) (sc_X7_lot_X7_refuse) wd_229 wd_231 wd_1 (ci := 7) (q0 := (RX7, TX7, 10)) rfl (by decide) rfl f37 rfl rfl (ym_st4 (Nat.le_of_ble_eq_true rfl)) rfl ?_
  cases hf
  exact ym_lret (pc := 40) dX7_lot_40 rfl
theorem sc_X7_lot_X7_isMoney : ym_site g_X7_lot g_X7_isMoney 5 1 1 := ⟨by decide, by decide, wd_247, wd_76, by decide +kernel⟩
theorem sc_X7_lot_X7_lotsMade : ym_site g_X7_lot g_X7_lotsMade 5 2 0 := ⟨by decide, by decide, wd_326, wd_76, by decide +kernel⟩
def bl_X7_lot_80 (N : Nat) (w0 : Option Nat) (h : ym_H) : Option (Int64 × ym_H) :=
  Option.bind (ym_ob h w0 7) fun o83 =>
  Option.bind (fn_X7_refuse N w0 12 h) fun q83 =>
  some (q83.1, q83.2)
set_option maxRecDepth 20000 in
set_option maxHeartbeats 4000000 in
theorem ob_X7_lot_80 {D : ym_D} {b0 : Nat} {N : Nat} {w0 : Option Nat} {h h' : ym_H} {r : Int64} (hf : bl_X7_lot_80 N w0 h = some (r, h')) : ym_Y D b0 g_X7_lot 5 80 [(0, va_rf w0)] [] h (some (.long r)) h' := by
  unfold bl_X7_lot_80 at hf
  refine ym_aload_n (pc := 80) 0 dX7_lot_80 rfl rfl ?_
  refine ym_bipush (pc := 81) (v := 12) dX7_lot_81 (by decide) ?_
  obtain ⟨o83, f83, hf⟩ := Option.bind_eq_some_iff.mp hf
  obtain ⟨q83, e83, hf⟩ := Option.bind_eq_some_iff.mp hf
  refine ym_callV (pc := 83) (G2 := g_X7_refuse) (dep2 := 4) (As := [.int 12]) (st := []) (stk2 := [.long q83.1]) (r2 := (some (.long q83.1))) (h1 := q83.2) dX7_lot_83 (ok_X7_refuse e83) (sc_X7_lot_X7_refuse) wd_229 wd_231 wd_1 (ci := 7) (q0 := (RX7, TX7, 10)) rfl (by decide) rfl f83 rfl rfl (ym_st4 (Nat.le_of_ble_eq_true rfl)) rfl ?_
  cases hf
  exact ym_lret (pc := 86) dX7_lot_86 rfl
theorem sc_X7_lot_X4_init : ym_site g_X7_lot g_X4_init 5 4 4 := ⟨by decide, by decide, wd_330, wd_87, by decide +kernel⟩
theorem sc_X7_lot_X2_put : ym_site g_X7_lot g_X2_put 5 4 2 := ⟨by decide, by decide, wd_284, wd_78, by decide +kernel⟩
def bl_X7_lot_59 (N : Nat) (w0 : Option Nat) (w1 : Int32) (w2 : Int64) (w4 : Int64) (h : ym_H) : Option (Int64 × ym_H) :=
  Option.bind (ym_ob h w0 7) fun o60 =>
  Option.bind (fn_X7_lotsMade N w0 h) fun q60 =>
  if q60.1 < 0 then
    bl_X7_lot_80 N w0 q60.2
  else
    Option.bind (ym_gR q60.2 w0 7 6) fun v73 =>
    Option.bind (ym_len q60.2 v73) fun v76 =>
    if q60.1 < v76 then
      Option.bind (ym_gR q60.2 w0 7 6) fun v88 =>
      Option.bind (ym_nO q60.2 6 (.inr (4, [.int 0, .long 0, .null, .null, .null, .null]))) fun h93 =>
      Option.bind (ym_gR h93 w0 7 0) fun v98 =>
      Option.bind (fn_X4_init N (some q60.2.1) v98 w1 w2 w4 h93) fun q105 =>
      Option.bind (ym_ob q105.2 (some q60.2.1) 4) fun o108 =>
      Option.bind (ym_as q105.2 v88 4 q60.1 (va_rf (some q60.2.1))) fun h108 =>
      Option.bind (ym_gR h108 w0 7 1) fun v110 =>
      Option.bind (ym_ob h108 v110 2) fun o119 =>
      Option.bind (fn_X2_put N v110 1 (Int32.toInt64 (q60.1 + 1)) h108) fun q119 =>
      some ((Int32.toInt64 q60.1), q119.2)
    else
      bl_X7_lot_80 N w0 q60.2
set_option maxRecDepth 20000 in
set_option maxHeartbeats 4000000 in
theorem ob_X7_lot_59 {D : ym_D} {b0 : Nat} {N : Nat} {w0 : Option Nat} {w1 : Int32} {w2 : Int64} {w4 : Int64} {h h' : ym_H} {r : Int64} (hf : bl_X7_lot_59 N w0 w1 w2 w4 h = some (r, h')) : ym_Y D b0 g_X7_lot 5 59 [(0, va_rf w0), (1, .int w1), (2, .long w2), (4, .long w4)] [] h (some (.long r)) h' := by
  unfold bl_X7_lot_59 at hf
  refine ym_aload_n (pc := 59) 0 dX7_lot_59 rfl rfl ?_
  obtain ⟨o60, f60, hf⟩ := Option.bind_eq_some_iff.mp hf
  obtain ⟨q60, e60, hf⟩ := Option.bind_eq_some_iff.mp hf
  refine ym_callV (pc := 60) (G2 := g_X7_lotsMade) (dep2 := 2) (As := []) (st := []) (stk2 := [.int q60.1]) (r2 := (some (.int q60.1))) (h1 := q60.2) dX7_lot_60 (ok_X7_lotsMade e60) (sc_X7_lot_X7_lotsMade) wd_323 wd_325 wd_4 (ci := 7) (q0 := (RX7, TX7, 10)) rfl (by decide) rfl f60 rfl rfl (ym_st4 (Nat.le_of_ble_eq_true rfl)) rfl ?_
  refine ym_istore (pc := 63) (lv' := [(6, .int q60.1), (0, va_rf w0), (1, .int w1), (2, .long w2), (4, .long w4)]) dX7_lot_63 (by decide) ⟨trivial, trivial, trivial, trivial, trivial⟩ rfl ?_
  refine ym_iload (pc := 65) 0 dX7_lot_65 rfl ?_
  by_cases c67 : q60.1 < 0
  · rw [if_pos c67] at hf
    refine ym_if_lt_y (pc := 67) (tgt := 80) dX7_lot_67 (by decide) c67 ?_
    exact ym_sub [1] rfl (ob_X7_lot_80 hf)
  · rw [if_neg c67] at hf
    refine ym_if_lt_n (pc := 67) (tgt := 80) dX7_lot_67 (by decide) c67 ?_
    refine ym_iload (pc := 70) 0 dX7_lot_70 rfl ?_
    refine ym_aload_n (pc := 72) 1 dX7_lot_72 rfl rfl ?_
    obtain ⟨v73, e73, hf⟩ := Option.bind_eq_some_iff.mp hf
    refine ym_get (pc := 73) dX7_lot_73 rfl (by decide) iX7 (k := 6) (by decide) wd_192 (ym_gR_v e73) ?_
    obtain ⟨v76, e76, hf⟩ := Option.bind_eq_some_iff.mp hf
    refine ym_alen (pc := 76) dX7_lot_76 e76 ?_
    by_cases c77 : q60.1 < v76
    · rw [if_pos c77] at hf
      refine ym_icmp_lt_y (pc := 77) (tgt := 87) dX7_lot_77 (by decide) c77 ?_
      refine ym_aload_n (pc := 87) 1 dX7_lot_87 rfl rfl ?_
      obtain ⟨v88, e88, hf⟩ := Option.bind_eq_some_iff.mp hf
      refine ym_get (pc := 88) dX7_lot_88 rfl (by decide) iX7 (k := 6) (by decide) wd_192 (ym_gR_v e88) ?_
      refine ym_iload (pc := 91) 0 dX7_lot_91 rfl ?_
      obtain ⟨h93, e93, hf⟩ := Option.bind_eq_some_iff.mp hf
      refine ym_newP (pc := 93) (h1 := h93) (ci := 4) [.int 0, .long 0, .null, .null, .null, .null] dX7_lot_93 rfl iX4 tyX4 tyX4_ok wd_184 wd_327 wd_87 (by decide +kernel) e93 ?_
      refine ym_dup (pc := 96) dX7_lot_96 (ym_c1 (some q60.2.1)) ?_
      refine ym_aload_n (pc := 97) 1 dX7_lot_97 rfl rfl ?_
      obtain ⟨v98, e98, hf⟩ := Option.bind_eq_some_iff.mp hf
      refine ym_get (pc := 98) dX7_lot_98 rfl (by decide) iX7 (k := 0) (by decide) wd_186 (ym_gR_v e98) ?_
      refine ym_iload_n (pc := 101) 2 dX7_lot_101 rfl rfl ?_
      refine ym_lload_n (pc := 102) 3 dX7_lot_102 rfl rfl ?_
      refine ym_lload (pc := 103) 4 dX7_lot_103 rfl ?_
      obtain ⟨q105, e105, hf⟩ := Option.bind_eq_some_iff.mp hf
      refine ym_callI (pc := 105) (G2 := g_X4_init) (dep2 := 4) (a := (some q60.2.1)) (As := [va_rf v98, .int w1, .long w2, .long w4]) (st := [va_rf (some q60.2.1), .int q60.1, va_rf v88]) (stk2 := [va_rf (some q60.2.1), .int q60.1, va_rf v88]) (r2 := none) (h1 := q105.2) dX7_lot_105 (ok_X4_init e105) (sc_X7_lot_X4_init) rfl rfl wd_328 wd_329 (Option.some_ne_none _) rfl rfl (ym_st4 (Nat.le_of_ble_eq_true rfl)) rfl ?_
      obtain ⟨o108, f108, hf⟩ := Option.bind_eq_some_iff.mp hf
      obtain ⟨h108, e108, hf⟩ := Option.bind_eq_some_iff.mp hf
      refine ym_aast (pc := 108) (q0 := (RX4, TX4, 6)) dX7_lot_108 rfl (ci := 4) rfl (by decide) (Or.inr ⟨_, f108⟩) e108 ?_
      refine ym_aload_n (pc := 109) 1 dX7_lot_109 rfl rfl ?_
      obtain ⟨v110, e110, hf⟩ := Option.bind_eq_some_iff.mp hf
      refine ym_get (pc := 110) dX7_lot_110 rfl (by decide) iX7 (k := 1) (by decide) wd_187 (ym_gR_v e110) ?_
      refine ym_iconst (pc := 113) (v := 1) dX7_lot_113 (by decide) ?_
      refine ym_iload (pc := 114) 0 dX7_lot_114 rfl ?_
      refine ym_iconst (pc := 116) (v := 1) dX7_lot_116 (by decide) ?_
      refine ym_iadd (pc := 117) dX7_lot_117 ?_
      refine ym_i2l (pc := 118) dX7_lot_118 ?_
      obtain ⟨o119, f119, hf⟩ := Option.bind_eq_some_iff.mp hf
      obtain ⟨q119, e119, hf⟩ := Option.bind_eq_some_iff.mp hf
      refine ym_callV (pc := 119) (G2 := g_X2_put) (dep2 := 4) (As := [.int 1, .long (Int32.toInt64 (q60.1 + 1))]) (st := []) (stk2 := []) (r2 := none) (h1 := q119.2) dX7_lot_119 (ok_X2_put e119) (sc_X7_lot_X2_put) wd_281 wd_282 wd_283 (ci := 2) (q0 := (RX2, TX2, 2)) rfl (by decide) rfl f119 rfl rfl (ym_st4 (Nat.le_of_ble_eq_true rfl)) rfl ?_
      refine ym_iload (pc := 122) 0 dX7_lot_122 rfl ?_
      refine ym_i2l (pc := 124) dX7_lot_124 ?_
      cases hf
      exact ym_lret (pc := 125) dX7_lot_125 rfl
    · rw [if_neg c77] at hf
      refine ym_icmp_lt_n (pc := 77) (tgt := 87) dX7_lot_77 (by decide) c77 ?_
      exact ym_sub [1] rfl (ob_X7_lot_80 hf)
def fn_X7_lot (N : Nat) (a0 : Option Nat) (a1 : Int32) (a2 : Int64) (a4 : Int64) (h : ym_H) : Option (Int64 × ym_H) :=
  Option.bind (ym_ob h a0 7) fun o1 =>
  Option.bind (fn_X7_startAct N a0 h) fun q1 =>
  if a1 < 1 then
    bl_X7_lot_14 N a0 q1.2
  else
    if a1 ≤ 5 then
      Option.bind (fn_X7_isSum N a2 q1.2) fun q21 =>
      if q21.1 = 0 then
        bl_X7_lot_35 N a0 q21.2
      else
        Option.bind (fn_X7_isMoney N a4 q21.2) fun q29 =>
        if q29.1 = 0 then
          bl_X7_lot_35 N a0 q29.2
        else
          if a1 = 5 then
            if a4 ≤ a2 then
              bl_X7_lot_59 N a0 a1 a2 a4 q29.2
            else
              Option.bind (ym_ob q29.2 a0 7) fun o55 =>
              Option.bind (fn_X7_refuse N a0 1 q29.2) fun q55 =>
              some (q55.1, q55.2)
          else
            bl_X7_lot_59 N a0 a1 a2 a4 q29.2
    else
      bl_X7_lot_14 N a0 q1.2
set_option maxRecDepth 20000 in
set_option maxHeartbeats 4000000 in
theorem ok_X7_lot {D : ym_D} {b0 : Nat} {N : Nat} {a0 : Option Nat} {a1 : Int32} {a2 : Int64} {a4 : Int64} {h h' : ym_H} {r : Int64} (hf : fn_X7_lot N a0 a1 a2 a4 h = some (r, h')) : ym_M D b0 g_X7_lot 5 [va_rf a0, .int a1, .long a2, .long a4] h (some (.long r)) h' := by
  unfold fn_X7_lot at hf
  refine ym_meth (lv := [(0, va_rf a0), (1, .int a1), (2, .long a2), (4, .long a4)]) (by decide) (by simp [lg_sl, ym_c1, ym_cI, ym_cL, g_X7_lot]) (by simp [lv_args, ym_c1, ym_cI, ym_cL]) ?_
  refine ym_aload_n (pc := 0) 0 dX7_lot_0 rfl rfl ?_
  obtain ⟨o1, f1, hf⟩ := Option.bind_eq_some_iff.mp hf
  obtain ⟨q1, e1, hf⟩ := Option.bind_eq_some_iff.mp hf
  refine ym_callV (pc := 1) (G2 := g_X7_startAct) (dep2 := 2) (As := []) (st := []) (stk2 := []) (r2 := none) (h1 := q1.2) dX7_lot_1 (ok_X7_startAct e1) (sc_X7_lot_X7_startAct) wd_221 wd_223 wd_0 (ci := 7) (q0 := (RX7, TX7, 10)) rfl (by decide) rfl f1 rfl rfl (ym_st4 (Nat.le_of_ble_eq_true rfl)) rfl ?_
  refine ym_iload_n (pc := 4) 1 dX7_lot_4 rfl rfl ?_
  refine ym_iconst (pc := 5) (v := 1) dX7_lot_5 (by decide) ?_
  by_cases c6 : a1 < 1
  · rw [if_pos c6] at hf
    refine ym_icmp_lt_y (pc := 6) (tgt := 14) dX7_lot_6 (by decide) c6 ?_
    exact ym_sub [0] rfl (ob_X7_lot_14 hf)
  · rw [if_neg c6] at hf
    refine ym_icmp_lt_n (pc := 6) (tgt := 14) dX7_lot_6 (by decide) c6 ?_
    refine ym_iload_n (pc := 9) 1 dX7_lot_9 rfl rfl ?_
    refine ym_iconst (pc := 10) (v := 5) dX7_lot_10 (by decide) ?_
    by_cases c11 : a1 ≤ 5
    · rw [if_pos c11] at hf
      refine ym_icmp_le_y (pc := 11) (tgt := 20) dX7_lot_11 (by decide) c11 ?_
      refine ym_lload_n (pc := 20) 2 dX7_lot_20 rfl rfl ?_
      obtain ⟨q21, e21, hf⟩ := Option.bind_eq_some_iff.mp hf
      refine ym_callS (pc := 21) (G2 := g_X7_isSum) (dep2 := 1) (As := [.long a2]) (st := []) (stk2 := [.int q21.1]) (r2 := (some (.int q21.1))) (h1 := q21.2) dX7_lot_21 (ok_X7_isSum e21) (sc_X7_lot_X7_isSum) wd_320 wd_321 rfl rfl (ym_st4 (Nat.le_of_ble_eq_true rfl)) rfl ?_
      by_cases c24 : q21.1 = 0
      · rw [if_pos c24] at hf
        refine ym_if_eq_y (pc := 24) (tgt := 35) dX7_lot_24 (by decide) c24 ?_
        exact ym_sub [0] rfl (ob_X7_lot_35 hf)
      · rw [if_neg c24] at hf
        refine ym_if_eq_n (pc := 24) (tgt := 35) dX7_lot_24 (by decide) c24 ?_
        refine ym_lload (pc := 27) 3 dX7_lot_27 rfl ?_
        obtain ⟨q29, e29, hf⟩ := Option.bind_eq_some_iff.mp hf
        refine ym_callS (pc := 29) (G2 := g_X7_isMoney) (dep2 := 1) (As := [.long a4]) (st := []) (stk2 := [.int q29.1]) (r2 := (some (.int q29.1))) (h1 := q29.2) dX7_lot_29 (ok_X7_isMoney e29) (sc_X7_lot_X7_isMoney) wd_245 wd_246 rfl rfl (ym_st4 (Nat.le_of_ble_eq_true rfl)) rfl ?_
        by_cases c32 : q29.1 = 0
        · rw [if_pos c32] at hf
          refine ym_if_ne_y (pc := 32) (tgt := 41) dX7_lot_32 (by decide) c32 ?_
          exact ym_sub [0] rfl (ob_X7_lot_35 hf)
        · rw [if_neg c32] at hf
          refine ym_if_ne_n (pc := 32) (tgt := 41) dX7_lot_32 (by decide) c32 ?_
          refine ym_iload_n (pc := 41) 1 dX7_lot_41 rfl rfl ?_
          refine ym_iconst (pc := 42) (v := 5) dX7_lot_42 (by decide) ?_
          by_cases c43 : a1 = 5
          · rw [if_pos c43] at hf
            refine ym_icmp_ne_y (pc := 43) (tgt := 59) dX7_lot_43 (by decide) c43 ?_
            refine ym_lload (pc := 46) 3 dX7_lot_46 rfl ?_
            refine ym_lload_n (pc := 48) 2 dX7_lot_48 rfl rfl ?_
            by_cases c49 : a4 ≤ a2
            · rw [if_pos c49] at hf
              refine ym_lcmp_le_y (pc := 49) (tgt := 59) dX7_lot_49 dX7_lot_50 (by decide) c49 ?_
              exact ym_sub [0, 1, 2, 3] rfl (ob_X7_lot_59 hf)
            · rw [if_neg c49] at hf
              refine ym_lcmp_le_n (pc := 49) (tgt := 59) dX7_lot_49 dX7_lot_50 (by decide) c49 ?_
              refine ym_aload_n (pc := 53) 0 dX7_lot_53 rfl rfl ?_
              refine ym_iconst (pc := 54) (v := 1) dX7_lot_54 (by decide) ?_
              obtain ⟨o55, f55, hf⟩ := Option.bind_eq_some_iff.mp hf
              obtain ⟨q55, e55, hf⟩ := Option.bind_eq_some_iff.mp hf
              refine ym_callV (pc := 55) (G2 := g_X7_refuse) (dep2 := 4) (As := [.int 1]) (st := []) (stk2 := [.long q55.1]) (r2 := (some (.long q55.1))) (h1 := q55.2) dX7_lot_55 (ok_X7_refuse e55) (sc_X7_lot_X7_refuse) wd_229 wd_231 wd_1 (ci := 7) (q0 := (RX7, TX7, 10)) rfl (by decide) rfl f55 rfl rfl (ym_st4 (Nat.le_of_ble_eq_true rfl)) rfl ?_
              cases hf
              exact ym_lret (pc := 58) dX7_lot_58 rfl
          · rw [if_neg c43] at hf
            refine ym_icmp_ne_n (pc := 43) (tgt := 59) dX7_lot_43 (by decide) c43 ?_
            exact ym_sub [0, 1, 2, 3] rfl (ob_X7_lot_59 hf)
    · rw [if_neg c11] at hf
      refine ym_icmp_le_n (pc := 11) (tgt := 20) dX7_lot_11 (by decide) c11 ?_
      exact ym_sub [0] rfl (ob_X7_lot_14 hf)
theorem dX7_numbers_0 : decode cX7_numbers 0 = .ok (.iload_n 1, 1) := by decide +kernel
theorem dX7_numbers_1 : decode cX7_numbers 1 = .ok (.ifCond .eq 8, 3) := by decide +kernel
theorem dX7_numbers_4 : decode cX7_numbers 4 = .ok (.iload_n 1, 1) := by decide +kernel
theorem dX7_numbers_5 : decode cX7_numbers 5 = .ok (.iconst 1, 1) := by decide +kernel
theorem dX7_numbers_6 : decode cX7_numbers 6 = .ok (.if_icmp .ne 10, 3) := by decide +kernel
theorem dX7_numbers_9 : decode cX7_numbers 9 = .ok (.aload_n 0, 1) := by decide +kernel
theorem dX7_numbers_10 : decode cX7_numbers 10 = .ok (.getfield 176, 3) := by decide +kernel
theorem dX7_numbers_13 : decode cX7_numbers 13 = .ok (.goto 4, 3) := by decide +kernel
theorem dX7_numbers_16 : decode cX7_numbers 16 = .ok (.iconst 0, 1) := by decide +kernel
theorem dX7_numbers_17 : decode cX7_numbers 17 = .ok (.ireturn, 1) := by decide +kernel
def fn_X7_numbers (N : Nat) (a0 : Option Nat) (a1 : Int32) (h : ym_H) : Option (Int32 × ym_H) :=
  if a1 = 0 then
    Option.bind (ym_gI h a0 7 7) fun v10 =>
    some (v10, h)
  else
    if a1 = 1 then
      Option.bind (ym_gI h a0 7 7) fun v10 =>
      some (v10, h)
    else
      some (0, h)
set_option maxRecDepth 20000 in
set_option maxHeartbeats 4000000 in
theorem ok_X7_numbers {D : ym_D} {b0 : Nat} {N : Nat} {a0 : Option Nat} {a1 : Int32} {h h' : ym_H} {r : Int32} (hf : fn_X7_numbers N a0 a1 h = some (r, h')) : ym_M D b0 g_X7_numbers 1 [va_rf a0, .int a1] h (some (.int r)) h' := by
  unfold fn_X7_numbers at hf
  refine ym_meth (lv := [(0, va_rf a0), (1, .int a1)]) (by decide) (by simp [lg_sl, ym_c1, ym_cI, ym_cL, g_X7_numbers]) (by simp [lv_args, ym_c1, ym_cI, ym_cL]) ?_
  refine ym_iload_n (pc := 0) 1 dX7_numbers_0 rfl rfl ?_
  by_cases c1 : a1 = 0
  · rw [if_pos c1] at hf
    refine ym_if_eq_y (pc := 1) (tgt := 9) dX7_numbers_1 (by decide) c1 ?_
    refine ym_aload_n (pc := 9) 0 dX7_numbers_9 rfl rfl ?_
    obtain ⟨v10, e10, hf⟩ := Option.bind_eq_some_iff.mp hf
    refine ym_get (pc := 10) dX7_numbers_10 rfl (by decide) iX7 (k := 7) (by decide) wd_193 (ym_gI_v e10) ?_
    refine ym_goto (pc := 13) (tgt := 17) dX7_numbers_13 (by decide) ?_
    cases hf
    exact ym_iret (pc := 17) dX7_numbers_17 rfl
  · rw [if_neg c1] at hf
    refine ym_if_eq_n (pc := 1) (tgt := 9) dX7_numbers_1 (by decide) c1 ?_
    refine ym_iload_n (pc := 4) 1 dX7_numbers_4 rfl rfl ?_
    refine ym_iconst (pc := 5) (v := 1) dX7_numbers_5 (by decide) ?_
    by_cases c6 : a1 = 1
    · rw [if_pos c6] at hf
      refine ym_icmp_ne_y (pc := 6) (tgt := 16) dX7_numbers_6 (by decide) c6 ?_
      refine ym_aload_n (pc := 9) 0 dX7_numbers_9 rfl rfl ?_
      obtain ⟨v10, e10, hf⟩ := Option.bind_eq_some_iff.mp hf
      refine ym_get (pc := 10) dX7_numbers_10 rfl (by decide) iX7 (k := 7) (by decide) wd_193 (ym_gI_v e10) ?_
      refine ym_goto (pc := 13) (tgt := 17) dX7_numbers_13 (by decide) ?_
      cases hf
      exact ym_iret (pc := 17) dX7_numbers_17 rfl
    · rw [if_neg c6] at hf
      refine ym_icmp_ne_n (pc := 6) (tgt := 16) dX7_numbers_6 (by decide) c6 ?_
      refine ym_iconst (pc := 16) (v := 0) dX7_numbers_16 (by decide) ?_
      cases hf
      exact ym_iret (pc := 17) dX7_numbers_17 rfl
