theorem dX7_settle_0 : decode cX7_settle 0 = .ok (.aload_n 0, 1) := by decide +kernel
theorem dX7_settle_1 : decode cX7_settle 1 = .ok (.invokevirtual 58, 3) := by decide +kernel
theorem dX7_settle_4 : decode cX7_settle 4 = .ok (.aload_n 0, 1) := by decide +kernel
theorem dX7_settle_5 : decode cX7_settle 5 = .ok (.iload_n 1, 1) := by decide +kernel
theorem dX7_settle_6 : decode cX7_settle 6 = .ok (.invokevirtual 89, 3) := by decide +kernel
theorem dX7_settle_9 : decode cX7_settle 9 = .ok (.astore_n 2, 1) := by decide +kernel
theorem dX7_settle_10 : decode cX7_settle 10 = .ok (.aload_n 2, 1) := by decide +kernel
theorem dX7_settle_11 : decode cX7_settle 11 = .ok (.ifnonnull 12, 3) := by decide +kernel
theorem dX7_settle_14 : decode cX7_settle 14 = .ok (.aload_n 0, 1) := by decide +kernel
theorem dX7_settle_15 : decode cX7_settle 15 = .ok (.iload_n 1, 1) := by decide +kernel
theorem dX7_settle_16 : decode cX7_settle 16 = .ok (.invokestatic 93, 3) := by decide +kernel
theorem dX7_settle_19 : decode cX7_settle 19 = .ok (.invokevirtual 61, 3) := by decide +kernel
theorem dX7_settle_22 : decode cX7_settle 22 = .ok (.lreturn, 1) := by decide +kernel
theorem dX7_settle_23 : decode cX7_settle 23 = .ok (.aload_n 0, 1) := by decide +kernel
theorem dX7_settle_24 : decode cX7_settle 24 = .ok (.aload_n 2, 1) := by decide +kernel
theorem dX7_settle_25 : decode cX7_settle 25 = .ok (.bipush 12, 2) := by decide +kernel
theorem dX7_settle_27 : decode cX7_settle 27 = .ok (.iload_n 1, 1) := by decide +kernel
theorem dX7_settle_28 : decode cX7_settle 28 = .ok (.invokevirtual 232, 3) := by decide +kernel
theorem dX7_settle_31 : decode cX7_settle 31 = .ok (.invokevirtual 89, 3) := by decide +kernel
theorem dX7_settle_34 : decode cX7_settle 34 = .ok (.astore_n 3, 1) := by decide +kernel
theorem dX7_settle_35 : decode cX7_settle 35 = .ok (.aload_n 0, 1) := by decide +kernel
theorem dX7_settle_36 : decode cX7_settle 36 = .ok (.aload_n 2, 1) := by decide +kernel
theorem dX7_settle_37 : decode cX7_settle 37 = .ok (.bipush 13, 2) := by decide +kernel
theorem dX7_settle_39 : decode cX7_settle 39 = .ok (.iload_n 1, 1) := by decide +kernel
theorem dX7_settle_40 : decode cX7_settle 40 = .ok (.invokevirtual 232, 3) := by decide +kernel
theorem dX7_settle_43 : decode cX7_settle 43 = .ok (.invokevirtual 89, 3) := by decide +kernel
theorem dX7_settle_46 : decode cX7_settle 46 = .ok (.astore 4, 2) := by decide +kernel
theorem dX7_settle_48 : decode cX7_settle 48 = .ok (.aload_n 3, 1) := by decide +kernel
theorem dX7_settle_49 : decode cX7_settle 49 = .ok (.ifnull 8, 3) := by decide +kernel
theorem dX7_settle_52 : decode cX7_settle 52 = .ok (.aload 4, 2) := by decide +kernel
theorem dX7_settle_54 : decode cX7_settle 54 = .ok (.ifnonnull 10, 3) := by decide +kernel
theorem dX7_settle_57 : decode cX7_settle 57 = .ok (.aload_n 0, 1) := by decide +kernel
theorem dX7_settle_58 : decode cX7_settle 58 = .ok (.bipush 14, 2) := by decide +kernel
theorem dX7_settle_60 : decode cX7_settle 60 = .ok (.invokevirtual 61, 3) := by decide +kernel
theorem dX7_settle_63 : decode cX7_settle 63 = .ok (.lreturn, 1) := by decide +kernel
theorem dX7_settle_64 : decode cX7_settle 64 = .ok (.aload_n 2, 1) := by decide +kernel
theorem dX7_settle_65 : decode cX7_settle 65 = .ok (.invokevirtual 156, 3) := by decide +kernel
theorem dX7_settle_68 : decode cX7_settle 68 = .ok (.ifCond .ne 12, 3) := by decide +kernel
theorem dX7_settle_71 : decode cX7_settle 71 = .ok (.aload_n 0, 1) := by decide +kernel
theorem dX7_settle_72 : decode cX7_settle 72 = .ok (.aload_n 2, 1) := by decide +kernel
theorem dX7_settle_73 : decode cX7_settle 73 = .ok (.invokevirtual 159, 3) := by decide +kernel
theorem dX7_settle_76 : decode cX7_settle 76 = .ok (.invokevirtual 61, 3) := by decide +kernel
theorem dX7_settle_79 : decode cX7_settle 79 = .ok (.lreturn, 1) := by decide +kernel
theorem dX7_settle_80 : decode cX7_settle 80 = .ok (.aload_n 3, 1) := by decide +kernel
theorem dX7_settle_81 : decode cX7_settle 81 = .ok (.invokevirtual 156, 3) := by decide +kernel
theorem dX7_settle_84 : decode cX7_settle 84 = .ok (.ifCond .ne 12, 3) := by decide +kernel
theorem dX7_settle_87 : decode cX7_settle 87 = .ok (.aload_n 0, 1) := by decide +kernel
theorem dX7_settle_88 : decode cX7_settle 88 = .ok (.aload_n 3, 1) := by decide +kernel
theorem dX7_settle_89 : decode cX7_settle 89 = .ok (.invokevirtual 159, 3) := by decide +kernel
theorem dX7_settle_92 : decode cX7_settle 92 = .ok (.invokevirtual 61, 3) := by decide +kernel
theorem dX7_settle_95 : decode cX7_settle 95 = .ok (.lreturn, 1) := by decide +kernel
theorem dX7_settle_96 : decode cX7_settle 96 = .ok (.aload 4, 2) := by decide +kernel
theorem dX7_settle_98 : decode cX7_settle 98 = .ok (.invokevirtual 156, 3) := by decide +kernel
theorem dX7_settle_101 : decode cX7_settle 101 = .ok (.ifCond .ne 13, 3) := by decide +kernel
theorem dX7_settle_104 : decode cX7_settle 104 = .ok (.aload_n 0, 1) := by decide +kernel
theorem dX7_settle_105 : decode cX7_settle 105 = .ok (.aload 4, 2) := by decide +kernel
theorem dX7_settle_107 : decode cX7_settle 107 = .ok (.invokevirtual 159, 3) := by decide +kernel
theorem dX7_settle_110 : decode cX7_settle 110 = .ok (.invokevirtual 61, 3) := by decide +kernel
theorem dX7_settle_113 : decode cX7_settle 113 = .ok (.lreturn, 1) := by decide +kernel
theorem dX7_settle_114 : decode cX7_settle 114 = .ok (.aload_n 0, 1) := by decide +kernel
theorem dX7_settle_115 : decode cX7_settle 115 = .ok (.getfield 42, 3) := by decide +kernel
theorem dX7_settle_118 : decode cX7_settle 118 = .ok (.aload_n 2, 1) := by decide +kernel
theorem dX7_settle_119 : decode cX7_settle 119 = .ok (.invokevirtual 225, 3) := by decide +kernel
theorem dX7_settle_122 : decode cX7_settle 122 = .ok (.lstore 5, 2) := by decide +kernel
theorem dX7_settle_124 : decode cX7_settle 124 = .ok (.aload_n 0, 1) := by decide +kernel
theorem dX7_settle_125 : decode cX7_settle 125 = .ok (.getfield 42, 3) := by decide +kernel
theorem dX7_settle_128 : decode cX7_settle 128 = .ok (.aload_n 3, 1) := by decide +kernel
theorem dX7_settle_129 : decode cX7_settle 129 = .ok (.invokevirtual 225, 3) := by decide +kernel
theorem dX7_settle_132 : decode cX7_settle 132 = .ok (.lstore 7, 2) := by decide +kernel
theorem dX7_settle_134 : decode cX7_settle 134 = .ok (.aload_n 0, 1) := by decide +kernel
theorem dX7_settle_135 : decode cX7_settle 135 = .ok (.getfield 42, 3) := by decide +kernel
theorem dX7_settle_138 : decode cX7_settle 138 = .ok (.aload 4, 2) := by decide +kernel
theorem dX7_settle_140 : decode cX7_settle 140 = .ok (.invokevirtual 225, 3) := by decide +kernel
theorem dX7_settle_143 : decode cX7_settle 143 = .ok (.lstore 9, 2) := by decide +kernel
theorem dX7_settle_145 : decode cX7_settle 145 = .ok (.lload 5, 2) := by decide +kernel
theorem dX7_settle_147 : decode cX7_settle 147 = .ok (.lload 7, 2) := by decide +kernel
theorem dX7_settle_149 : decode cX7_settle 149 = .ok (.lload 9, 2) := by decide +kernel
theorem dX7_settle_151 : decode cX7_settle 151 = .ok (.ladd, 1) := by decide +kernel
theorem dX7_settle_152 : decode cX7_settle 152 = .ok (.lcmp, 1) := by decide +kernel
theorem dX7_settle_153 : decode cX7_settle 153 = .ok (.ifCond .le 12, 3) := by decide +kernel
theorem dX7_settle_156 : decode cX7_settle 156 = .ok (.lconst 0, 1) := by decide +kernel
theorem dX7_settle_157 : decode cX7_settle 157 = .ok (.lstore 7, 2) := by decide +kernel
theorem dX7_settle_159 : decode cX7_settle 159 = .ok (.lconst 0, 1) := by decide +kernel
theorem dX7_settle_160 : decode cX7_settle 160 = .ok (.lstore 9, 2) := by decide +kernel
theorem dX7_settle_162 : decode cX7_settle 162 = .ok (.goto 6, 3) := by decide +kernel
theorem dX7_settle_165 : decode cX7_settle 165 = .ok (.lconst 0, 1) := by decide +kernel
theorem dX7_settle_166 : decode cX7_settle 166 = .ok (.lstore 5, 2) := by decide +kernel
theorem dX7_settle_168 : decode cX7_settle 168 = .ok (.aload_n 0, 1) := by decide +kernel
theorem dX7_settle_169 : decode cX7_settle 169 = .ok (.aload_n 2, 1) := by decide +kernel
theorem dX7_settle_170 : decode cX7_settle 170 = .ok (.lload 5, 2) := by decide +kernel
theorem dX7_settle_172 : decode cX7_settle 172 = .ok (.invokevirtual 236, 3) := by decide +kernel
theorem dX7_settle_175 : decode cX7_settle 175 = .ok (.ifCond .ne 24, 3) := by decide +kernel
theorem dX7_settle_178 : decode cX7_settle 178 = .ok (.aload_n 0, 1) := by decide +kernel
theorem dX7_settle_179 : decode cX7_settle 179 = .ok (.aload_n 3, 1) := by decide +kernel
theorem dX7_settle_180 : decode cX7_settle 180 = .ok (.lload 7, 2) := by decide +kernel
theorem dX7_settle_182 : decode cX7_settle 182 = .ok (.invokevirtual 236, 3) := by decide +kernel
theorem dX7_settle_185 : decode cX7_settle 185 = .ok (.ifCond .ne 14, 3) := by decide +kernel
theorem dX7_settle_188 : decode cX7_settle 188 = .ok (.aload_n 0, 1) := by decide +kernel
theorem dX7_settle_189 : decode cX7_settle 189 = .ok (.aload 4, 2) := by decide +kernel
theorem dX7_settle_191 : decode cX7_settle 191 = .ok (.lload 9, 2) := by decide +kernel
theorem dX7_settle_193 : decode cX7_settle 193 = .ok (.invokevirtual 236, 3) := by decide +kernel
theorem dX7_settle_196 : decode cX7_settle 196 = .ok (.ifCond .eq 9, 3) := by decide +kernel
theorem dX7_settle_199 : decode cX7_settle 199 = .ok (.aload_n 0, 1) := by decide +kernel
theorem dX7_settle_200 : decode cX7_settle 200 = .ok (.iconst 5, 1) := by decide +kernel
theorem dX7_settle_201 : decode cX7_settle 201 = .ok (.invokevirtual 61, 3) := by decide +kernel
theorem dX7_settle_204 : decode cX7_settle 204 = .ok (.lreturn, 1) := by decide +kernel
theorem dX7_settle_205 : decode cX7_settle 205 = .ok (.aload_n 0, 1) := by decide +kernel
theorem dX7_settle_206 : decode cX7_settle 206 = .ok (.aload_n 2, 1) := by decide +kernel
theorem dX7_settle_207 : decode cX7_settle 207 = .ok (.lload 5, 2) := by decide +kernel
theorem dX7_settle_209 : decode cX7_settle 209 = .ok (.invokevirtual 228, 3) := by decide +kernel
theorem dX7_settle_212 : decode cX7_settle 212 = .ok (.aload_n 0, 1) := by decide +kernel
theorem dX7_settle_213 : decode cX7_settle 213 = .ok (.aload_n 3, 1) := by decide +kernel
theorem dX7_settle_214 : decode cX7_settle 214 = .ok (.lload 7, 2) := by decide +kernel
theorem dX7_settle_216 : decode cX7_settle 216 = .ok (.invokevirtual 228, 3) := by decide +kernel
theorem dX7_settle_219 : decode cX7_settle 219 = .ok (.aload_n 0, 1) := by decide +kernel
theorem dX7_settle_220 : decode cX7_settle 220 = .ok (.aload 4, 2) := by decide +kernel
theorem dX7_settle_222 : decode cX7_settle 222 = .ok (.lload 9, 2) := by decide +kernel
theorem dX7_settle_224 : decode cX7_settle 224 = .ok (.invokevirtual 228, 3) := by decide +kernel
theorem dX7_settle_227 : decode cX7_settle 227 = .ok (.lload 5, 2) := by decide +kernel
theorem dX7_settle_229 : decode cX7_settle 229 = .ok (.lload 7, 2) := by decide +kernel
theorem dX7_settle_231 : decode cX7_settle 231 = .ok (.ladd, 1) := by decide +kernel
theorem dX7_settle_232 : decode cX7_settle 232 = .ok (.lload 9, 2) := by decide +kernel
theorem dX7_settle_234 : decode cX7_settle 234 = .ok (.ladd, 1) := by decide +kernel
theorem dX7_settle_235 : decode cX7_settle 235 = .ok (.lreturn, 1) := by decide +kernel
theorem sc_X7_settle_X7_startAct : ym_site g_X7_settle g_X7_startAct 9 2 0 := ⟨by decide, by decide, wd_224, wd_76, by decide +kernel⟩
theorem sc_X7_settle_X7_lotAt : ym_site g_X7_settle g_X7_lotAt 9 3 1 := ⟨by decide, by decide, wd_374, wd_76, by decide +kernel⟩
theorem sc_X7_settle_X7_whyNoLot : ym_site g_X7_settle g_X7_whyNoLot 9 1 1 := ⟨by decide, by decide, wd_377, wd_76, by decide +kernel⟩
theorem sc_X7_settle_X7_refuse : ym_site g_X7_settle g_X7_refuse 9 4 1 := ⟨by decide, by decide, wd_232, wd_76, by decide +kernel⟩
theorem sc_X7_settle_X4_partNumber : ym_site g_X7_settle g_X4_partNumber 9 2 2 := ⟨by decide, by decide, wd_697, wd_87, by decide +kernel⟩
def bl_X7_settle_57 (N : Nat) (w0 : Option Nat) (h : ym_H) : Option (Int64 × ym_H) :=
  Option.bind (ym_ob h w0 7) fun o60 =>
  Option.bind (fn_X7_refuse N w0 14 h) fun q60 =>
  some (q60.1, q60.2)
set_option maxRecDepth 20000 in
set_option maxHeartbeats 4000000 in
theorem ob_X7_settle_57 {D : ym_D} {b0 : Nat} {N : Nat} {w0 : Option Nat} {h h' : ym_H} {r : Int64} (hf : bl_X7_settle_57 N w0 h = some (r, h')) : ym_Y D b0 g_X7_settle 9 57 [(0, va_rf w0)] [] h (some (.long r)) h' := by
  unfold bl_X7_settle_57 at hf
  refine ym_aload_n (pc := 57) 0 dX7_settle_57 rfl rfl ?_
  refine ym_bipush (pc := 58) (v := 14) dX7_settle_58 (by decide) ?_
  obtain ⟨o60, f60, hf⟩ := Option.bind_eq_some_iff.mp hf
  obtain ⟨q60, e60, hf⟩ := Option.bind_eq_some_iff.mp hf
  refine ym_callV (pc := 60) (G2 := g_X7_refuse) (dep2 := 4) (As := [.int 14]) (st := []) (stk2 := [.long q60.1]) (r2 := (some (.long q60.1))) (h1 := q60.2) dX7_settle_60 (ok_X7_refuse e60) (sc_X7_settle_X7_refuse) wd_229 wd_231 wd_1 (ci := 7) (q0 := (RX7, TX7, 10)) rfl (by decide) rfl f60 rfl rfl (ym_st4 (Nat.le_of_ble_eq_true rfl)) rfl ?_
  cases hf
  exact ym_lret (pc := 63) dX7_settle_63 rfl
theorem sc_X7_settle_X4_isOpen : ym_site g_X7_settle g_X4_isOpen 9 3 0 := ⟨by decide, by decide, wd_538, wd_87, by decide +kernel⟩
theorem sc_X7_settle_X4_whyNotOpen : ym_site g_X7_settle g_X4_whyNotOpen 9 4 0 := ⟨by decide, by decide, wd_543, wd_87, by decide +kernel⟩
theorem sc_X7_settle_X1_bringsIfSold : ym_site g_X7_settle g_X1_bringsIfSold 9 5 1 := ⟨by decide, by decide, wd_648, wd_82, by decide +kernel⟩
theorem sc_X7_settle_X7_lacksSeller : ym_site g_X7_settle g_X7_lacksSeller 9 3 2 := ⟨by decide, by decide, wd_701, wd_76, by decide +kernel⟩
theorem sc_X7_settle_X7_finish : ym_site g_X7_settle g_X7_finish 9 8 2 := ⟨by decide, by decide, wd_656, wd_76, by decide +kernel⟩
def bl_X7_settle_199 (N : Nat) (w0 : Option Nat) (h : ym_H) : Option (Int64 × ym_H) :=
  Option.bind (ym_ob h w0 7) fun o201 =>
  Option.bind (fn_X7_refuse N w0 5 h) fun q201 =>
  some (q201.1, q201.2)
set_option maxRecDepth 20000 in
set_option maxHeartbeats 4000000 in
theorem ob_X7_settle_199 {D : ym_D} {b0 : Nat} {N : Nat} {w0 : Option Nat} {h h' : ym_H} {r : Int64} (hf : bl_X7_settle_199 N w0 h = some (r, h')) : ym_Y D b0 g_X7_settle 9 199 [(0, va_rf w0)] [] h (some (.long r)) h' := by
  unfold bl_X7_settle_199 at hf
  refine ym_aload_n (pc := 199) 0 dX7_settle_199 rfl rfl ?_
  refine ym_iconst (pc := 200) (v := 5) dX7_settle_200 (by decide) ?_
  obtain ⟨o201, f201, hf⟩ := Option.bind_eq_some_iff.mp hf
  obtain ⟨q201, e201, hf⟩ := Option.bind_eq_some_iff.mp hf
  refine ym_callV (pc := 201) (G2 := g_X7_refuse) (dep2 := 4) (As := [.int 5]) (st := []) (stk2 := [.long q201.1]) (r2 := (some (.long q201.1))) (h1 := q201.2) dX7_settle_201 (ok_X7_refuse e201) (sc_X7_settle_X7_refuse) wd_229 wd_231 wd_1 (ci := 7) (q0 := (RX7, TX7, 10)) rfl (by decide) rfl f201 rfl rfl (ym_st4 (Nat.le_of_ble_eq_true rfl)) rfl ?_
  cases hf
  exact ym_lret (pc := 204) dX7_settle_204 rfl
def bl_X7_settle_168 (N : Nat) (w0 : Option Nat) (w2 : Option Nat) (w3 : Option Nat) (w4 : Option Nat) (w5 : Int64) (w7 : Int64) (w9 : Int64) (h : ym_H) : Option (Int64 × ym_H) :=
  Option.bind (ym_ob h w0 7) fun o172 =>
  Option.bind (fn_X7_lacksSeller N w0 w2 w5 h) fun q172 =>
  if q172.1 = 0 then
    Option.bind (ym_ob q172.2 w0 7) fun o182 =>
    Option.bind (fn_X7_lacksSeller N w0 w3 w7 q172.2) fun q182 =>
    if q182.1 = 0 then
      Option.bind (ym_ob q182.2 w0 7) fun o193 =>
      Option.bind (fn_X7_lacksSeller N w0 w4 w9 q182.2) fun q193 =>
      if q193.1 = 0 then
        Option.bind (ym_ob q193.2 w0 7) fun o209 =>
        Option.bind (fn_X7_finish N w0 w2 w5 q193.2) fun q209 =>
        Option.bind (ym_ob q209.2 w0 7) fun o216 =>
        Option.bind (fn_X7_finish N w0 w3 w7 q209.2) fun q216 =>
        Option.bind (ym_ob q216.2 w0 7) fun o224 =>
        Option.bind (fn_X7_finish N w0 w4 w9 q216.2) fun q224 =>
        some (((w5 + w7) + w9), q224.2)
      else
        bl_X7_settle_199 N w0 q193.2
    else
      bl_X7_settle_199 N w0 q182.2
  else
    bl_X7_settle_199 N w0 q172.2
set_option maxRecDepth 20000 in
set_option maxHeartbeats 4000000 in
theorem ob_X7_settle_168 {D : ym_D} {b0 : Nat} {N : Nat} {w0 : Option Nat} {w2 : Option Nat} {w3 : Option Nat} {w4 : Option Nat} {w5 : Int64} {w7 : Int64} {w9 : Int64} {h h' : ym_H} {r : Int64} (hf : bl_X7_settle_168 N w0 w2 w3 w4 w5 w7 w9 h = some (r, h')) : ym_Y D b0 g_X7_settle 9 168 [(0, va_rf w0), (2, va_rf w2), (3, va_rf w3), (4, va_rf w4), (5, .long w5), (7, .long w7), (9, .long w9)] [] h (some (.long r)) h' := by
  unfold bl_X7_settle_168 at hf
  refine ym_aload_n (pc := 168) 0 dX7_settle_168 rfl rfl ?_
  refine ym_aload_n (pc := 169) 1 dX7_settle_169 rfl rfl ?_
  refine ym_lload (pc := 170) 4 dX7_settle_170 rfl ?_
  obtain ⟨o172, f172, hf⟩ := Option.bind_eq_some_iff.mp hf
  obtain ⟨q172, e172, hf⟩ := Option.bind_eq_some_iff.mp hf
  refine ym_callV (pc := 172) (G2 := g_X7_lacksSeller) (dep2 := 3) (As := [va_rf w2, .long w5]) (st := []) (stk2 := [.int q172.1]) (r2 := (some (.int q172.1))) (h1 := q172.2) dX7_settle_172 (ok_X7_lacksSeller e172) (sc_X7_settle_X7_lacksSeller) wd_698 wd_700 wd_18 (ci := 7) (q0 := (RX7, TX7, 10)) rfl (by decide) rfl f172 rfl rfl (ym_st4 (Nat.le_of_ble_eq_true rfl)) rfl ?_
  by_cases c175 : q172.1 = 0
  · rw [if_pos c175] at hf
    refine ym_if_ne_y (pc := 175) (tgt := 199) dX7_settle_175 (by decide) c175 ?_
    refine ym_aload_n (pc := 178) 0 dX7_settle_178 rfl rfl ?_
    refine ym_aload_n (pc := 179) 2 dX7_settle_179 rfl rfl ?_
    refine ym_lload (pc := 180) 5 dX7_settle_180 rfl ?_
    obtain ⟨o182, f182, hf⟩ := Option.bind_eq_some_iff.mp hf
    obtain ⟨q182, e182, hf⟩ := Option.bind_eq_some_iff.mp hf
    refine ym_callV (pc := 182) (G2 := g_X7_lacksSeller) (dep2 := 3) (As := [va_rf w3, .long w7]) (st := []) (stk2 := [.int q182.1]) (r2 := (some (.int q182.1))) (h1 := q182.2) dX7_settle_182 (ok_X7_lacksSeller e182) (sc_X7_settle_X7_lacksSeller) wd_698 wd_700 wd_18 (ci := 7) (q0 := (RX7, TX7, 10)) rfl (by decide) rfl f182 rfl rfl (ym_st4 (Nat.le_of_ble_eq_true rfl)) rfl ?_
    by_cases c185 : q182.1 = 0
    · rw [if_pos c185] at hf
      refine ym_if_ne_y (pc := 185) (tgt := 199) dX7_settle_185 (by decide) c185 ?_
      refine ym_aload_n (pc := 188) 0 dX7_settle_188 rfl rfl ?_
      refine ym_aload (pc := 189) 3 dX7_settle_189 rfl ?_
      refine ym_lload (pc := 191) 6 dX7_settle_191 rfl ?_
      obtain ⟨o193, f193, hf⟩ := Option.bind_eq_some_iff.mp hf
      obtain ⟨q193, e193, hf⟩ := Option.bind_eq_some_iff.mp hf
      refine ym_callV (pc := 193) (G2 := g_X7_lacksSeller) (dep2 := 3) (As := [va_rf w4, .long w9]) (st := []) (stk2 := [.int q193.1]) (r2 := (some (.int q193.1))) (h1 := q193.2) dX7_settle_193 (ok_X7_lacksSeller e193) (sc_X7_settle_X7_lacksSeller) wd_698 wd_700 wd_18 (ci := 7) (q0 := (RX7, TX7, 10)) rfl (by decide) rfl f193 rfl rfl (ym_st4 (Nat.le_of_ble_eq_true rfl)) rfl ?_
      by_cases c196 : q193.1 = 0
      · rw [if_pos c196] at hf
        refine ym_if_eq_y (pc := 196) (tgt := 205) dX7_settle_196 (by decide) c196 ?_
        refine ym_aload_n (pc := 205) 0 dX7_settle_205 rfl rfl ?_
        refine ym_aload_n (pc := 206) 1 dX7_settle_206 rfl rfl ?_
        refine ym_lload (pc := 207) 4 dX7_settle_207 rfl ?_
        obtain ⟨o209, f209, hf⟩ := Option.bind_eq_some_iff.mp hf
        obtain ⟨q209, e209, hf⟩ := Option.bind_eq_some_iff.mp hf
        refine ym_callV (pc := 209) (G2 := g_X7_finish) (dep2 := 8) (As := [va_rf w2, .long w5]) (st := []) (stk2 := []) (r2 := none) (h1 := q209.2) dX7_settle_209 (ok_X7_finish e209) (sc_X7_settle_X7_finish) wd_653 wd_655 wd_14 (ci := 7) (q0 := (RX7, TX7, 10)) rfl (by decide) rfl f209 rfl rfl (ym_st4 (Nat.le_of_ble_eq_true rfl)) rfl ?_
        refine ym_aload_n (pc := 212) 0 dX7_settle_212 rfl rfl ?_
        refine ym_aload_n (pc := 213) 2 dX7_settle_213 rfl rfl ?_
        refine ym_lload (pc := 214) 5 dX7_settle_214 rfl ?_
        obtain ⟨o216, f216, hf⟩ := Option.bind_eq_some_iff.mp hf
        obtain ⟨q216, e216, hf⟩ := Option.bind_eq_some_iff.mp hf
        refine ym_callV (pc := 216) (G2 := g_X7_finish) (dep2 := 8) (As := [va_rf w3, .long w7]) (st := []) (stk2 := []) (r2 := none) (h1 := q216.2) dX7_settle_216 (ok_X7_finish e216) (sc_X7_settle_X7_finish) wd_653 wd_655 wd_14 (ci := 7) (q0 := (RX7, TX7, 10)) rfl (by decide) rfl f216 rfl rfl (ym_st4 (Nat.le_of_ble_eq_true rfl)) rfl ?_
        refine ym_aload_n (pc := 219) 0 dX7_settle_219 rfl rfl ?_
        refine ym_aload (pc := 220) 3 dX7_settle_220 rfl ?_
        refine ym_lload (pc := 222) 6 dX7_settle_222 rfl ?_
        obtain ⟨o224, f224, hf⟩ := Option.bind_eq_some_iff.mp hf
        obtain ⟨q224, e224, hf⟩ := Option.bind_eq_some_iff.mp hf
        refine ym_callV (pc := 224) (G2 := g_X7_finish) (dep2 := 8) (As := [va_rf w4, .long w9]) (st := []) (stk2 := []) (r2 := none) (h1 := q224.2) dX7_settle_224 (ok_X7_finish e224) (sc_X7_settle_X7_finish) wd_653 wd_655 wd_14 (ci := 7) (q0 := (RX7, TX7, 10)) rfl (by decide) rfl f224 rfl rfl (ym_st4 (Nat.le_of_ble_eq_true rfl)) rfl ?_
        refine ym_lload (pc := 227) 4 dX7_settle_227 rfl ?_
        refine ym_lload (pc := 229) 5 dX7_settle_229 rfl ?_
        refine ym_ladd (pc := 231) dX7_settle_231 ?_
        refine ym_lload (pc := 232) 6 dX7_settle_232 rfl ?_
        refine ym_ladd (pc := 234) dX7_settle_234 ?_
        cases hf
        exact ym_lret (pc := 235) dX7_settle_235 rfl
      · rw [if_neg c196] at hf
        refine ym_if_eq_n (pc := 196) (tgt := 205) dX7_settle_196 (by decide) c196 ?_
        exact ym_sub [0] rfl (ob_X7_settle_199 hf)
    · rw [if_neg c185] at hf
      refine ym_if_ne_n (pc := 185) (tgt := 199) dX7_settle_185 (by decide) c185 ?_
      exact ym_sub [0] rfl (ob_X7_settle_199 hf)
  · rw [if_neg c175] at hf
    refine ym_if_ne_n (pc := 175) (tgt := 199) dX7_settle_175 (by decide) c175 ?_
    exact ym_sub [0] rfl (ob_X7_settle_199 hf)
def fn_X7_settle (N : Nat) (a0 : Option Nat) (a1 : Int32) (h : ym_H) : Option (Int64 × ym_H) :=
  Option.bind (ym_ob h a0 7) fun o1 =>
  Option.bind (fn_X7_startAct N a0 h) fun q1 =>
  Option.bind (ym_ob q1.2 a0 7) fun o6 =>
  Option.bind (fn_X7_lotAt N a0 a1 q1.2) fun q6 =>
  if q6.1 = none then
    Option.bind (fn_X7_whyNoLot N a1 q6.2) fun q16 =>
    Option.bind (ym_ob q16.2 a0 7) fun o19 =>
    Option.bind (fn_X7_refuse N a0 q16.1 q16.2) fun q19 =>
    some (q19.1, q19.2)
  else
    Option.bind (ym_ob q6.2 q6.1 4) fun o28 =>
    Option.bind (fn_X4_partNumber N q6.1 12 a1 q6.2) fun q28 =>
    Option.bind (ym_ob q28.2 a0 7) fun o31 =>
    Option.bind (fn_X7_lotAt N a0 q28.1 q28.2) fun q31 =>
    Option.bind (ym_ob q31.2 q6.1 4) fun o40 =>
    Option.bind (fn_X4_partNumber N q6.1 13 a1 q31.2) fun q40 =>
    Option.bind (ym_ob q40.2 a0 7) fun o43 =>
    Option.bind (fn_X7_lotAt N a0 q40.1 q40.2) fun q43 =>
    if q31.1 = none then
      bl_X7_settle_57 N a0 q43.2
    else
      if q43.1 = none then
        bl_X7_settle_57 N a0 q43.2
      else
        Option.bind (ym_ob q43.2 q6.1 4) fun o65 =>
        Option.bind (fn_X4_isOpen N q6.1 q43.2) fun q65 =>
        if q65.1 = 0 then
          Option.bind (ym_ob q65.2 q6.1 4) fun o73 =>
          Option.bind (fn_X4_whyNotOpen N q6.1 q65.2) fun q73 =>
          Option.bind (ym_ob q73.2 a0 7) fun o76 =>
          Option.bind (fn_X7_refuse N a0 q73.1 q73.2) fun q76 =>
          some (q76.1, q76.2)
        else
          Option.bind (ym_ob q65.2 q31.1 4) fun o81 =>
          Option.bind (fn_X4_isOpen N q31.1 q65.2) fun q81 =>
          if q81.1 = 0 then
            Option.bind (ym_ob q81.2 q31.1 4) fun o89 =>
            Option.bind (fn_X4_whyNotOpen N q31.1 q81.2) fun q89 =>
            Option.bind (ym_ob q89.2 a0 7) fun o92 =>
            Option.bind (fn_X7_refuse N a0 q89.1 q89.2) fun q92 =>
            some (q92.1, q92.2)
          else
            Option.bind (ym_ob q81.2 q43.1 4) fun o98 =>
            Option.bind (fn_X4_isOpen N q43.1 q81.2) fun q98 =>
            if q98.1 = 0 then
              Option.bind (ym_ob q98.2 q43.1 4) fun o107 =>
              Option.bind (fn_X4_whyNotOpen N q43.1 q98.2) fun q107 =>
              Option.bind (ym_ob q107.2 a0 7) fun o110 =>
              Option.bind (fn_X7_refuse N a0 q107.1 q107.2) fun q110 =>
              some (q110.1, q110.2)
            else
              Option.bind (ym_gR q98.2 a0 7 4) fun v115 =>
              Option.bind (ym_ob q98.2 v115 1) fun o119 =>
              Option.bind (fn_X1_bringsIfSold N v115 q6.1 q98.2) fun q119 =>
              Option.bind (ym_gR q119.2 a0 7 4) fun v125 =>
              Option.bind (ym_ob q119.2 v125 1) fun o129 =>
              Option.bind (fn_X1_bringsIfSold N v125 q31.1 q119.2) fun q129 =>
              Option.bind (ym_gR q129.2 a0 7 4) fun v135 =>
              Option.bind (ym_ob q129.2 v135 1) fun o140 =>
              Option.bind (fn_X1_bringsIfSold N v135 q43.1 q129.2) fun q140 =>
              if q119.1 ≤ (q129.1 + q140.1) then
                bl_X7_settle_168 N a0 q6.1 q31.1 q43.1 0 q129.1 q140.1 q140.2
              else
                bl_X7_settle_168 N a0 q6.1 q31.1 q43.1 q119.1 0 0 q140.2
set_option maxRecDepth 20000 in
set_option maxHeartbeats 4000000 in
theorem ok_X7_settle {D : ym_D} {b0 : Nat} {N : Nat} {a0 : Option Nat} {a1 : Int32} {h h' : ym_H} {r : Int64} (hf : fn_X7_settle N a0 a1 h = some (r, h')) : ym_M D b0 g_X7_settle 9 [va_rf a0, .int a1] h (some (.long r)) h' := by
  unfold fn_X7_settle at hf
  refine ym_meth (lv := [(0, va_rf a0), (1, .int a1)]) (by decide) (by simp [lg_sl, ym_c1, ym_cI, ym_cL, g_X7_settle]) (by simp [lv_args, ym_c1, ym_cI, ym_cL]) ?_
  refine ym_aload_n (pc := 0) 0 dX7_settle_0 rfl rfl ?_
  obtain ⟨o1, f1, hf⟩ := Option.bind_eq_some_iff.mp hf
  obtain ⟨q1, e1, hf⟩ := Option.bind_eq_some_iff.mp hf
  refine ym_callV (pc := 1) (G2 := g_X7_startAct) (dep2 := 2) (As := []) (st := []) (stk2 := []) (r2 := none) (h1 := q1.2) dX7_settle_1 (ok_X7_startAct e1) (sc_X7_settle_X7_startAct) wd_221 wd_223 wd_0 (ci := 7) (q0 := (RX7, TX7, 10)) rfl (by decide) rfl f1 rfl rfl (ym_st4 (Nat.le_of_ble_eq_true rfl)) rfl ?_
  refine ym_aload_n (pc := 4) 0 dX7_settle_4 rfl rfl ?_
  refine ym_iload_n (pc := 5) 1 dX7_settle_5 rfl rfl ?_
  obtain ⟨o6, f6, hf⟩ := Option.bind_eq_some_iff.mp hf
  obtain ⟨q6, e6, hf⟩ := Option.bind_eq_some_iff.mp hf
  refine ym_callV (pc := 6) (G2 := g_X7_lotAt) (dep2 := 3) (As := [.int a1]) (st := []) (stk2 := [va_rf q6.1]) (r2 := (some (va_rf q6.1))) (h1 := q6.2) dX7_settle_6 (ok_X7_lotAt e6) (sc_X7_settle_X7_lotAt) wd_371 wd_373 wd_5 (ci := 7) (q0 := (RX7, TX7, 10)) rfl (by decide) rfl f6 rfl rfl (ym_st4 (Nat.le_of_ble_eq_true rfl)) rfl ?_
  refine ym_astore_n (pc := 9) (lv' := [(2, va_rf q6.1), (0, va_rf a0), (1, .int a1)]) dX7_settle_9 rfl (by decide) ⟨trivial, rfl, trivial⟩ rfl ?_
  refine ym_aload_n (pc := 10) 0 dX7_settle_10 rfl rfl ?_
  by_cases c11 : q6.1 = none
  · rw [if_pos c11] at hf
    refine ym_ifnonnull_y (pc := 11) (tgt := 23) dX7_settle_11 (by decide) c11 ?_
    refine ym_aload_n (pc := 14) 1 dX7_settle_14 rfl rfl ?_
    refine ym_iload_n (pc := 15) 2 dX7_settle_15 rfl rfl ?_
    obtain ⟨q16, e16, hf⟩ := Option.bind_eq_some_iff.mp hf
    refine ym_callS (pc := 16) (G2 := g_X7_whyNoLot) (dep2 := 1) (As := [.int a1]) (st := [va_rf a0]) (stk2 := [.int q16.1, va_rf a0]) (r2 := (some (.int q16.1))) (h1 := q16.2) dX7_settle_16 (ok_X7_whyNoLot e16) (sc_X7_settle_X7_whyNoLot) wd_375 wd_376 rfl rfl (ym_st4 (Nat.le_of_ble_eq_true rfl)) rfl ?_
    obtain ⟨o19, f19, hf⟩ := Option.bind_eq_some_iff.mp hf
    obtain ⟨q19, e19, hf⟩ := Option.bind_eq_some_iff.mp hf
    refine ym_callV (pc := 19) (G2 := g_X7_refuse) (dep2 := 4) (As := [.int q16.1]) (st := []) (stk2 := [.long q19.1]) (r2 := (some (.long q19.1))) (h1 := q19.2) dX7_settle_19 (ok_X7_refuse e19) (sc_X7_settle_X7_refuse) wd_229 wd_231 wd_1 (ci := 7) (q0 := (RX7, TX7, 10)) rfl (by decide) rfl f19 rfl rfl (ym_st4 (Nat.le_of_ble_eq_true rfl)) rfl ?_
    cases hf
    exact ym_lret (pc := 22) dX7_settle_22 rfl
  · rw [if_neg c11] at hf
    refine ym_ifnonnull_n (pc := 11) (tgt := 23) dX7_settle_11 (by decide) c11 ?_
    refine ym_aload_n (pc := 23) 1 dX7_settle_23 rfl rfl ?_
    refine ym_aload_n (pc := 24) 0 dX7_settle_24 rfl rfl ?_
    refine ym_bipush (pc := 25) (v := 12) dX7_settle_25 (by decide) ?_
    refine ym_iload_n (pc := 27) 2 dX7_settle_27 rfl rfl ?_
    obtain ⟨o28, f28, hf⟩ := Option.bind_eq_some_iff.mp hf
    obtain ⟨q28, e28, hf⟩ := Option.bind_eq_some_iff.mp hf
    refine ym_callV (pc := 28) (G2 := g_X4_partNumber) (dep2 := 2) (As := [.int 12, .int a1]) (st := [va_rf a0]) (stk2 := [.int q28.1, va_rf a0]) (r2 := (some (.int q28.1))) (h1 := q28.2) dX7_settle_28 (ok_X4_partNumber e28) (sc_X7_settle_X4_partNumber) wd_694 wd_695 wd_696 (ci := 4) (q0 := (RX4, TX4, 6)) rfl (by decide) rfl f28 rfl rfl (ym_st4 (Nat.le_of_ble_eq_true rfl)) rfl ?_
    obtain ⟨o31, f31, hf⟩ := Option.bind_eq_some_iff.mp hf
    obtain ⟨q31, e31, hf⟩ := Option.bind_eq_some_iff.mp hf
    refine ym_callV (pc := 31) (G2 := g_X7_lotAt) (dep2 := 3) (As := [.int q28.1]) (st := []) (stk2 := [va_rf q31.1]) (r2 := (some (va_rf q31.1))) (h1 := q31.2) dX7_settle_31 (ok_X7_lotAt e31) (sc_X7_settle_X7_lotAt) wd_371 wd_373 wd_5 (ci := 7) (q0 := (RX7, TX7, 10)) rfl (by decide) rfl f31 rfl rfl (ym_st4 (Nat.le_of_ble_eq_true rfl)) rfl ?_
    refine ym_astore_n (pc := 34) (lv' := [(3, va_rf q31.1), (2, va_rf q6.1), (0, va_rf a0), (1, .int a1)]) dX7_settle_34 rfl (by decide) ⟨ym_c1 q6.1, trivial, trivial, trivial⟩ rfl ?_
    refine ym_aload_n (pc := 35) 2 dX7_settle_35 rfl rfl ?_
    refine ym_aload_n (pc := 36) 1 dX7_settle_36 rfl rfl ?_
    refine ym_bipush (pc := 37) (v := 13) dX7_settle_37 (by decide) ?_
    refine ym_iload_n (pc := 39) 3 dX7_settle_39 rfl rfl ?_
    obtain ⟨o40, f40, hf⟩ := Option.bind_eq_some_iff.mp hf
    obtain ⟨q40, e40, hf⟩ := Option.bind_eq_some_iff.mp hf
    refine ym_callV (pc := 40) (G2 := g_X4_partNumber) (dep2 := 2) (As := [.int 13, .int a1]) (st := [va_rf a0]) (stk2 := [.int q40.1, va_rf a0]) (r2 := (some (.int q40.1))) (h1 := q40.2) dX7_settle_40 (ok_X4_partNumber e40) (sc_X7_settle_X4_partNumber) wd_694 wd_695 wd_696 (ci := 4) (q0 := (RX4, TX4, 6)) rfl (by decide) rfl f40 rfl rfl (ym_st4 (Nat.le_of_ble_eq_true rfl)) rfl ?_
    obtain ⟨o43, f43, hf⟩ := Option.bind_eq_some_iff.mp hf
    obtain ⟨q43, e43, hf⟩ := Option.bind_eq_some_iff.mp hf
    refine ym_callV (pc := 43) (G2 := g_X7_lotAt) (dep2 := 3) (As := [.int q40.1]) (st := []) (stk2 := [va_rf q43.1]) (r2 := (some (va_rf q43.1))) (h1 := q43.2) dX7_settle_43 (ok_X7_lotAt e43) (sc_X7_settle_X7_lotAt) wd_371 wd_373 wd_5 (ci := 7) (q0 := (RX7, TX7, 10)) rfl (by decide) rfl f43 rfl rfl (ym_st4 (Nat.le_of_ble_eq_true rfl)) rfl ?_
    refine ym_sub (lv' := [(3, va_rf q31.1), (2, va_rf q6.1), (0, va_rf a0)]) [0, 1, 2] rfl ?_
    refine ym_astore (pc := 46) (lv' := [(4, va_rf q43.1), (3, va_rf q31.1), (2, va_rf q6.1), (0, va_rf a0)]) dX7_settle_46 (by decide) ⟨ym_c1 q31.1, trivial, trivial, trivial⟩ rfl ?_
    refine ym_aload_n (pc := 48) 1 dX7_settle_48 rfl rfl ?_
    by_cases c49 : q31.1 = none
    · rw [if_pos c49] at hf
      refine ym_ifnull_y (pc := 49) (tgt := 57) dX7_settle_49 (by decide) c49 ?_
      exact ym_sub [3] rfl (ob_X7_settle_57 hf)
    · rw [if_neg c49] at hf
      refine ym_ifnull_n (pc := 49) (tgt := 57) dX7_settle_49 (by decide) c49 ?_
      refine ym_aload (pc := 52) 0 dX7_settle_52 rfl ?_
      by_cases c54 : q43.1 = none
      · rw [if_pos c54] at hf
        refine ym_ifnonnull_y (pc := 54) (tgt := 64) dX7_settle_54 (by decide) c54 ?_
        exact ym_sub [3] rfl (ob_X7_settle_57 hf)
      · rw [if_neg c54] at hf
        refine ym_ifnonnull_n (pc := 54) (tgt := 64) dX7_settle_54 (by decide) c54 ?_
        refine ym_aload_n (pc := 64) 2 dX7_settle_64 rfl rfl ?_
        obtain ⟨o65, f65, hf⟩ := Option.bind_eq_some_iff.mp hf
        obtain ⟨q65, e65, hf⟩ := Option.bind_eq_some_iff.mp hf
        refine ym_callV (pc := 65) (G2 := g_X4_isOpen) (dep2 := 3) (As := []) (st := []) (stk2 := [.int q65.1]) (r2 := (some (.int q65.1))) (h1 := q65.2) dX7_settle_65 (ok_X4_isOpen e65) (sc_X7_settle_X4_isOpen) wd_535 wd_536 wd_537 (ci := 4) (q0 := (RX4, TX4, 6)) rfl (by decide) rfl f65 rfl rfl (ym_st4 (Nat.le_of_ble_eq_true rfl)) rfl ?_
        by_cases c68 : q65.1 = 0
        · rw [if_pos c68] at hf
          refine ym_if_ne_y (pc := 68) (tgt := 80) dX7_settle_68 (by decide) c68 ?_
          refine ym_aload_n (pc := 71) 3 dX7_settle_71 rfl rfl ?_
          refine ym_aload_n (pc := 72) 2 dX7_settle_72 rfl rfl ?_
          obtain ⟨o73, f73, hf⟩ := Option.bind_eq_some_iff.mp hf
          obtain ⟨q73, e73, hf⟩ := Option.bind_eq_some_iff.mp hf
          refine ym_callV (pc := 73) (G2 := g_X4_whyNotOpen) (dep2 := 4) (As := []) (st := [va_rf a0]) (stk2 := [.int q73.1, va_rf a0]) (r2 := (some (.int q73.1))) (h1 := q73.2) dX7_settle_73 (ok_X4_whyNotOpen e73) (sc_X7_settle_X4_whyNotOpen) wd_540 wd_541 wd_542 (ci := 4) (q0 := (RX4, TX4, 6)) rfl (by decide) rfl f73 rfl rfl (ym_st4 (Nat.le_of_ble_eq_true rfl)) rfl ?_
          obtain ⟨o76, f76, hf⟩ := Option.bind_eq_some_iff.mp hf
          obtain ⟨q76, e76, hf⟩ := Option.bind_eq_some_iff.mp hf
          refine ym_callV (pc := 76) (G2 := g_X7_refuse) (dep2 := 4) (As := [.int q73.1]) (st := []) (stk2 := [.long q76.1]) (r2 := (some (.long q76.1))) (h1 := q76.2) dX7_settle_76 (ok_X7_refuse e76) (sc_X7_settle_X7_refuse) wd_229 wd_231 wd_1 (ci := 7) (q0 := (RX7, TX7, 10)) rfl (by decide) rfl f76 rfl rfl (ym_st4 (Nat.le_of_ble_eq_true rfl)) rfl ?_
          cases hf
          exact ym_lret (pc := 79) dX7_settle_79 rfl
        · rw [if_neg c68] at hf
          refine ym_if_ne_n (pc := 68) (tgt := 80) dX7_settle_68 (by decide) c68 ?_
          refine ym_aload_n (pc := 80) 1 dX7_settle_80 rfl rfl ?_
          obtain ⟨o81, f81, hf⟩ := Option.bind_eq_some_iff.mp hf
          obtain ⟨q81, e81, hf⟩ := Option.bind_eq_some_iff.mp hf
          refine ym_callV (pc := 81) (G2 := g_X4_isOpen) (dep2 := 3) (As := []) (st := []) (stk2 := [.int q81.1]) (r2 := (some (.int q81.1))) (h1 := q81.2) dX7_settle_81 (ok_X4_isOpen e81) (sc_X7_settle_X4_isOpen) wd_535 wd_536 wd_537 (ci := 4) (q0 := (RX4, TX4, 6)) rfl (by decide) rfl f81 rfl rfl (ym_st4 (Nat.le_of_ble_eq_true rfl)) rfl ?_
          by_cases c84 : q81.1 = 0
          · rw [if_pos c84] at hf
            refine ym_if_ne_y (pc := 84) (tgt := 96) dX7_settle_84 (by decide) c84 ?_
            refine ym_aload_n (pc := 87) 3 dX7_settle_87 rfl rfl ?_
            refine ym_aload_n (pc := 88) 1 dX7_settle_88 rfl rfl ?_
            obtain ⟨o89, f89, hf⟩ := Option.bind_eq_some_iff.mp hf
            obtain ⟨q89, e89, hf⟩ := Option.bind_eq_some_iff.mp hf
            refine ym_callV (pc := 89) (G2 := g_X4_whyNotOpen) (dep2 := 4) (As := []) (st := [va_rf a0]) (stk2 := [.int q89.1, va_rf a0]) (r2 := (some (.int q89.1))) (h1 := q89.2) dX7_settle_89 (ok_X4_whyNotOpen e89) (sc_X7_settle_X4_whyNotOpen) wd_540 wd_541 wd_542 (ci := 4) (q0 := (RX4, TX4, 6)) rfl (by decide) rfl f89 rfl rfl (ym_st4 (Nat.le_of_ble_eq_true rfl)) rfl ?_
            obtain ⟨o92, f92, hf⟩ := Option.bind_eq_some_iff.mp hf
            obtain ⟨q92, e92, hf⟩ := Option.bind_eq_some_iff.mp hf
            refine ym_callV (pc := 92) (G2 := g_X7_refuse) (dep2 := 4) (As := [.int q89.1]) (st := []) (stk2 := [.long q92.1]) (r2 := (some (.long q92.1))) (h1 := q92.2) dX7_settle_92 (ok_X7_refuse e92) (sc_X7_settle_X7_refuse) wd_229 wd_231 wd_1 (ci := 7) (q0 := (RX7, TX7, 10)) rfl (by decide) rfl f92 rfl rfl (ym_st4 (Nat.le_of_ble_eq_true rfl)) rfl ?_
            cases hf
            exact ym_lret (pc := 95) dX7_settle_95 rfl
          · rw [if_neg c84] at hf
            refine ym_if_ne_n (pc := 84) (tgt := 96) dX7_settle_84 (by decide) c84 ?_
            refine ym_aload (pc := 96) 0 dX7_settle_96 rfl ?_
            obtain ⟨o98, f98, hf⟩ := Option.bind_eq_some_iff.mp hf
            obtain ⟨q98, e98, hf⟩ := Option.bind_eq_some_iff.mp hf
            refine ym_callV (pc := 98) (G2 := g_X4_isOpen) (dep2 := 3) (As := []) (st := []) (stk2 := [.int q98.1]) (r2 := (some (.int q98.1))) (h1 := q98.2) dX7_settle_98 (ok_X4_isOpen e98) (sc_X7_settle_X4_isOpen) wd_535 wd_536 wd_537 (ci := 4) (q0 := (RX4, TX4, 6)) rfl (by decide) rfl f98 rfl rfl (ym_st4 (Nat.le_of_ble_eq_true rfl)) rfl ?_
            by_cases c101 : q98.1 = 0
            · rw [if_pos c101] at hf
              refine ym_if_ne_y (pc := 101) (tgt := 114) dX7_settle_101 (by decide) c101 ?_
              refine ym_aload_n (pc := 104) 3 dX7_settle_104 rfl rfl ?_
              refine ym_aload (pc := 105) 0 dX7_settle_105 rfl ?_
              obtain ⟨o107, f107, hf⟩ := Option.bind_eq_some_iff.mp hf
              obtain ⟨q107, e107, hf⟩ := Option.bind_eq_some_iff.mp hf
              refine ym_callV (pc := 107) (G2 := g_X4_whyNotOpen) (dep2 := 4) (As := []) (st := [va_rf a0]) (stk2 := [.int q107.1, va_rf a0]) (r2 := (some (.int q107.1))) (h1 := q107.2) dX7_settle_107 (ok_X4_whyNotOpen e107) (sc_X7_settle_X4_whyNotOpen) wd_540 wd_541 wd_542 (ci := 4) (q0 := (RX4, TX4, 6)) rfl (by decide) rfl f107 rfl rfl (ym_st4 (Nat.le_of_ble_eq_true rfl)) rfl ?_
              obtain ⟨o110, f110, hf⟩ := Option.bind_eq_some_iff.mp hf
              obtain ⟨q110, e110, hf⟩ := Option.bind_eq_some_iff.mp hf
              refine ym_callV (pc := 110) (G2 := g_X7_refuse) (dep2 := 4) (As := [.int q107.1]) (st := []) (stk2 := [.long q110.1]) (r2 := (some (.long q110.1))) (h1 := q110.2) dX7_settle_110 (ok_X7_refuse e110) (sc_X7_settle_X7_refuse) wd_229 wd_231 wd_1 (ci := 7) (q0 := (RX7, TX7, 10)) rfl (by decide) rfl f110 rfl rfl (ym_st4 (Nat.le_of_ble_eq_true rfl)) rfl ?_
              cases hf
              exact ym_lret (pc := 113) dX7_settle_113 rfl
            · rw [if_neg c101] at hf
              refine ym_if_ne_n (pc := 101) (tgt := 114) dX7_settle_101 (by decide) c101 ?_
              refine ym_aload_n (pc := 114) 3 dX7_settle_114 rfl rfl ?_
              obtain ⟨v115, e115, hf⟩ := Option.bind_eq_some_iff.mp hf
              refine ym_get (pc := 115) dX7_settle_115 rfl (by decide) iX7 (k := 4) (by decide) wd_190 (ym_gR_v e115) ?_
              refine ym_aload_n (pc := 118) 2 dX7_settle_118 rfl rfl ?_
              obtain ⟨o119, f119, hf⟩ := Option.bind_eq_some_iff.mp hf
              obtain ⟨q119, e119, hf⟩ := Option.bind_eq_some_iff.mp hf
              refine ym_callV (pc := 119) (G2 := g_X1_bringsIfSold) (dep2 := 5) (As := [va_rf q6.1]) (st := []) (stk2 := [.long q119.1]) (r2 := (some (.long q119.1))) (h1 := q119.2) dX7_settle_119 (ok_X1_bringsIfSold e119) (sc_X7_settle_X1_bringsIfSold) wd_645 wd_646 wd_647 (ci := 1) (q0 := (RX1, TX1, 3)) rfl (by decide) rfl f119 rfl rfl (ym_st4 (Nat.le_of_ble_eq_true rfl)) rfl ?_
              refine ym_lstore (pc := 122) (lv' := [(5, .long q119.1), (4, va_rf q43.1), (3, va_rf q31.1), (2, va_rf q6.1), (0, va_rf a0)]) dX7_settle_122 (by decide) ⟨ym_c1 q43.1, trivial, trivial, trivial, trivial⟩ rfl ?_
              refine ym_aload_n (pc := 124) 4 dX7_settle_124 rfl rfl ?_
              obtain ⟨v125, e125, hf⟩ := Option.bind_eq_some_iff.mp hf
              refine ym_get (pc := 125) dX7_settle_125 rfl (by decide) iX7 (k := 4) (by decide) wd_190 (ym_gR_v e125) ?_
              refine ym_aload_n (pc := 128) 2 dX7_settle_128 rfl rfl ?_
              obtain ⟨o129, f129, hf⟩ := Option.bind_eq_some_iff.mp hf
              obtain ⟨q129, e129, hf⟩ := Option.bind_eq_some_iff.mp hf
              refine ym_callV (pc := 129) (G2 := g_X1_bringsIfSold) (dep2 := 5) (As := [va_rf q31.1]) (st := []) (stk2 := [.long q129.1]) (r2 := (some (.long q129.1))) (h1 := q129.2) dX7_settle_129 (ok_X1_bringsIfSold e129) (sc_X7_settle_X1_bringsIfSold) wd_645 wd_646 wd_647 (ci := 1) (q0 := (RX1, TX1, 3)) rfl (by decide) rfl f129 rfl rfl (ym_st4 (Nat.le_of_ble_eq_true rfl)) rfl ?_
              refine ym_lstore (pc := 132) (lv' := [(7, .long q129.1), (5, .long q119.1), (4, va_rf q43.1), (3, va_rf q31.1), (2, va_rf q6.1), (0, va_rf a0)]) dX7_settle_132 (by decide) ⟨trivial, trivial, trivial, trivial, trivial, trivial⟩ rfl ?_
              refine ym_aload_n (pc := 134) 5 dX7_settle_134 rfl rfl ?_
              obtain ⟨v135, e135, hf⟩ := Option.bind_eq_some_iff.mp hf
              refine ym_get (pc := 135) dX7_settle_135 rfl (by decide) iX7 (k := 4) (by decide) wd_190 (ym_gR_v e135) ?_
              refine ym_aload (pc := 138) 2 dX7_settle_138 rfl ?_
              obtain ⟨o140, f140, hf⟩ := Option.bind_eq_some_iff.mp hf
              obtain ⟨q140, e140, hf⟩ := Option.bind_eq_some_iff.mp hf
              refine ym_callV (pc := 140) (G2 := g_X1_bringsIfSold) (dep2 := 5) (As := [va_rf q43.1]) (st := []) (stk2 := [.long q140.1]) (r2 := (some (.long q140.1))) (h1 := q140.2) dX7_settle_140 (ok_X1_bringsIfSold e140) (sc_X7_settle_X1_bringsIfSold) wd_645 wd_646 wd_647 (ci := 1) (q0 := (RX1, TX1, 3)) rfl (by decide) rfl f140 rfl rfl (ym_st4 (Nat.le_of_ble_eq_true rfl)) rfl ?_
              refine ym_lstore (pc := 143) (lv' := [(9, .long q140.1), (7, .long q129.1), (5, .long q119.1), (4, va_rf q43.1), (3, va_rf q31.1), (2, va_rf q6.1), (0, va_rf a0)]) dX7_settle_143 (by decide) ⟨trivial, trivial, trivial, trivial, trivial, trivial, trivial⟩ rfl ?_
              refine ym_lload (pc := 145) 2 dX7_settle_145 rfl ?_
              refine ym_lload (pc := 147) 1 dX7_settle_147 rfl ?_
              refine ym_lload (pc := 149) 0 dX7_settle_149 rfl ?_
              refine ym_ladd (pc := 151) dX7_settle_151 ?_
              by_cases c152 : q119.1 ≤ (q129.1 + q140.1)
              · rw [if_pos c152] at hf
                refine ym_lcmp_le_y (pc := 152) (tgt := 165) dX7_settle_152 dX7_settle_153 (by decide) c152 ?_
                refine ym_lconst (pc := 165) (v := 0) dX7_settle_165 (by decide) ?_
                refine ym_lstore (pc := 166) (lv' := [(5, .long 0), (9, .long q140.1), (7, .long q129.1), (4, va_rf q43.1), (3, va_rf q31.1), (2, va_rf q6.1), (0, va_rf a0)]) dX7_settle_166 (by decide) ⟨trivial, trivial, trivial, ym_c1 q43.1, trivial, trivial, trivial, trivial⟩ rfl ?_
                exact ym_sub [6, 5, 4, 3, 0, 2, 1] rfl (ob_X7_settle_168 hf)
              · rw [if_neg c152] at hf
                refine ym_lcmp_le_n (pc := 152) (tgt := 165) dX7_settle_152 dX7_settle_153 (by decide) c152 ?_
                refine ym_lconst (pc := 156) (v := 0) dX7_settle_156 (by decide) ?_
                refine ym_sub (lv' := [(5, .long q119.1), (4, va_rf q43.1), (3, va_rf q31.1), (2, va_rf q6.1), (0, va_rf a0)]) [2, 3, 4, 5, 6] rfl ?_
                refine ym_lstore (pc := 157) (lv' := [(7, .long 0), (5, .long q119.1), (4, va_rf q43.1), (3, va_rf q31.1), (2, va_rf q6.1), (0, va_rf a0)]) dX7_settle_157 (by decide) ⟨trivial, trivial, trivial, trivial, trivial, trivial⟩ rfl ?_
                refine ym_lconst (pc := 159) (v := 0) dX7_settle_159 (by decide) ?_
                refine ym_lstore (pc := 160) (lv' := [(9, .long 0), (7, .long 0), (5, .long q119.1), (4, va_rf q43.1), (3, va_rf q31.1), (2, va_rf q6.1), (0, va_rf a0)]) dX7_settle_160 (by decide) ⟨trivial, trivial, trivial, trivial, trivial, trivial, trivial⟩ rfl ?_
                refine ym_goto (pc := 162) (tgt := 168) dX7_settle_162 (by decide) ?_
                exact ym_sub [6, 5, 4, 3, 2, 1, 0] rfl (ob_X7_settle_168 hf)
theorem dX7_stands_0 : decode cX7_stands 0 = .ok (.aload_n 0, 1) := by decide +kernel
theorem dX7_stands_1 : decode cX7_stands 1 = .ok (.iload_n 1, 1) := by decide +kernel
theorem dX7_stands_2 : decode cX7_stands 2 = .ok (.invokevirtual 89, 3) := by decide +kernel
theorem dX7_stands_5 : decode cX7_stands 5 = .ok (.astore_n 2, 1) := by decide +kernel
theorem dX7_stands_6 : decode cX7_stands 6 = .ok (.aload_n 2, 1) := by decide +kernel
theorem dX7_stands_7 : decode cX7_stands 7 = .ok (.ifnonnull 7, 3) := by decide +kernel
theorem dX7_stands_10 : decode cX7_stands 10 = .ok (.iconst (-1), 1) := by decide +kernel
theorem dX7_stands_11 : decode cX7_stands 11 = .ok (.goto 7, 3) := by decide +kernel
theorem dX7_stands_14 : decode cX7_stands 14 = .ok (.aload_n 2, 1) := by decide +kernel
theorem dX7_stands_15 : decode cX7_stands 15 = .ok (.invokevirtual 201, 3) := by decide +kernel
theorem dX7_stands_18 : decode cX7_stands 18 = .ok (.ireturn, 1) := by decide +kernel
theorem sc_X7_stands_X7_lotAt : ym_site g_X7_stands g_X7_lotAt 4 3 1 := ⟨by decide, by decide, wd_374, wd_76, by decide +kernel⟩
theorem sc_X7_stands_X4_standingBidder : ym_site g_X7_stands g_X4_standingBidder 4 3 0 := ⟨by decide, by decide, wd_512, wd_87, by decide +kernel⟩
def fn_X7_stands (N : Nat) (a0 : Option Nat) (a1 : Int32) (h : ym_H) : Option (Int32 × ym_H) :=
  Option.bind (ym_ob h a0 7) fun o2 =>
  Option.bind (fn_X7_lotAt N a0 a1 h) fun q2 =>
  if q2.1 = none then
    some ((-1), q2.2)
  else
    Option.bind (ym_ob q2.2 q2.1 4) fun o15 =>
    Option.bind (fn_X4_standingBidder N q2.1 q2.2) fun q15 =>
    some (q15.1, q15.2)
set_option maxRecDepth 20000 in
set_option maxHeartbeats 4000000 in
theorem ok_X7_stands {D : ym_D} {b0 : Nat} {N : Nat} {a0 : Option Nat} {a1 : Int32} {h h' : ym_H} {r : Int32} (hf : fn_X7_stands N a0 a1 h = some (r, h')) : ym_M D b0 g_X7_stands 4 [va_rf a0, .int a1] h (some (.int r)) h' := by
  unfold fn_X7_stands at hf
  refine ym_meth (lv := [(0, va_rf a0), (1, .int a1)]) (by decide) (by simp [lg_sl, ym_c1, ym_cI, ym_cL, g_X7_stands]) (by simp [lv_args, ym_c1, ym_cI, ym_cL]) ?_
  refine ym_aload_n (pc := 0) 0 dX7_stands_0 rfl rfl ?_
  refine ym_iload_n (pc := 1) 1 dX7_stands_1 rfl rfl ?_
  obtain ⟨o2, f2, hf⟩ := Option.bind_eq_some_iff.mp hf
  obtain ⟨q2, e2, hf⟩ := Option.bind_eq_some_iff.mp hf
  refine ym_callV (pc := 2) (G2 := g_X7_lotAt) (dep2 := 3) (As := [.int a1]) (st := []) (stk2 := [va_rf q2.1]) (r2 := (some (va_rf q2.1))) (h1 := q2.2) dX7_stands_2 (ok_X7_lotAt e2) (sc_X7_stands_X7_lotAt) wd_371 wd_373 wd_5 (ci := 7) (q0 := (RX7, TX7, 10)) rfl (by decide) rfl f2 rfl rfl (ym_st4 (Nat.le_of_ble_eq_true rfl)) rfl ?_
  refine ym_sub (lv' := []) [] rfl ?_
  refine ym_astore_n (pc := 5) (lv' := [(2, va_rf q2.1)]) dX7_stands_5 rfl (by decide) trivial rfl ?_
  refine ym_aload_n (pc := 6) 0 dX7_stands_6 rfl rfl ?_
  by_cases c7 : q2.1 = none
  · rw [if_pos c7] at hf
    refine ym_ifnonnull_y (pc := 7) (tgt := 14) dX7_stands_7 (by decide) c7 ?_
    refine ym_iconst (pc := 10) (v := (-1)) dX7_stands_10 (by decide) ?_
    refine ym_goto (pc := 11) (tgt := 18) dX7_stands_11 (by decide) ?_
    cases hf
    exact ym_iret (pc := 18) dX7_stands_18 rfl
  · rw [if_neg c7] at hf
    refine ym_ifnonnull_n (pc := 7) (tgt := 14) dX7_stands_7 (by decide) c7 ?_
    refine ym_aload_n (pc := 14) 0 dX7_stands_14 rfl rfl ?_
    obtain ⟨o15, f15, hf⟩ := Option.bind_eq_some_iff.mp hf
    obtain ⟨q15, e15, hf⟩ := Option.bind_eq_some_iff.mp hf
    refine ym_callV (pc := 15) (G2 := g_X4_standingBidder) (dep2 := 3) (As := []) (st := []) (stk2 := [.int q15.1]) (r2 := (some (.int q15.1))) (h1 := q15.2) dX7_stands_15 (ok_X4_standingBidder e15) (sc_X7_stands_X4_standingBidder) wd_509 wd_510 wd_511 (ci := 4) (q0 := (RX4, TX4, 6)) rfl (by decide) rfl f15 rfl rfl (ym_st4 (Nat.le_of_ble_eq_true rfl)) rfl ?_
    cases hf
    exact ym_iret (pc := 18) dX7_stands_18 rfl
theorem dX7_state_0 : decode cX7_state 0 = .ok (.aload_n 0, 1) := by decide +kernel
theorem dX7_state_1 : decode cX7_state 1 = .ok (.iload_n 1, 1) := by decide +kernel
theorem dX7_state_2 : decode cX7_state 2 = .ok (.invokevirtual 89, 3) := by decide +kernel
theorem dX7_state_5 : decode cX7_state 5 = .ok (.astore_n 2, 1) := by decide +kernel
theorem dX7_state_6 : decode cX7_state 6 = .ok (.aload_n 2, 1) := by decide +kernel
theorem dX7_state_7 : decode cX7_state 7 = .ok (.ifnonnull 7, 3) := by decide +kernel
theorem dX7_state_10 : decode cX7_state 10 = .ok (.iconst (-1), 1) := by decide +kernel
theorem dX7_state_11 : decode cX7_state 11 = .ok (.goto 7, 3) := by decide +kernel
theorem dX7_state_14 : decode cX7_state 14 = .ok (.aload_n 2, 1) := by decide +kernel
theorem dX7_state_15 : decode cX7_state 15 = .ok (.invokevirtual 104, 3) := by decide +kernel
theorem dX7_state_18 : decode cX7_state 18 = .ok (.ireturn, 1) := by decide +kernel
theorem sc_X7_state_X7_lotAt : ym_site g_X7_state g_X7_lotAt 4 3 1 := ⟨by decide, by decide, wd_374, wd_76, by decide +kernel⟩
theorem sc_X7_state_X4_stateNow : ym_site g_X7_state g_X4_stateNow 4 2 0 := ⟨by decide, by decide, wd_388, wd_87, by decide +kernel⟩
def fn_X7_state (N : Nat) (a0 : Option Nat) (a1 : Int32) (h : ym_H) : Option (Int32 × ym_H) :=
  Option.bind (ym_ob h a0 7) fun o2 =>
  Option.bind (fn_X7_lotAt N a0 a1 h) fun q2 =>
  if q2.1 = none then
    some ((-1), q2.2)
  else
    Option.bind (ym_ob q2.2 q2.1 4) fun o15 =>
    Option.bind (fn_X4_stateNow N q2.1 q2.2) fun q15 =>
    some (q15.1, q15.2)
set_option maxRecDepth 20000 in
set_option maxHeartbeats 4000000 in
theorem ok_X7_state {D : ym_D} {b0 : Nat} {N : Nat} {a0 : Option Nat} {a1 : Int32} {h h' : ym_H} {r : Int32} (hf : fn_X7_state N a0 a1 h = some (r, h')) : ym_M D b0 g_X7_state 4 [va_rf a0, .int a1] h (some (.int r)) h' := by
  unfold fn_X7_state at hf
  refine ym_meth (lv := [(0, va_rf a0), (1, .int a1)]) (by decide) (by simp [lg_sl, ym_c1, ym_cI, ym_cL, g_X7_state]) (by simp [lv_args, ym_c1, ym_cI, ym_cL]) ?_
  refine ym_aload_n (pc := 0) 0 dX7_state_0 rfl rfl ?_
  refine ym_iload_n (pc := 1) 1 dX7_state_1 rfl rfl ?_
  obtain ⟨o2, f2, hf⟩ := Option.bind_eq_some_iff.mp hf
  obtain ⟨q2, e2, hf⟩ := Option.bind_eq_some_iff.mp hf
  refine ym_callV (pc := 2) (G2 := g_X7_lotAt) (dep2 := 3) (As := [.int a1]) (st := []) (stk2 := [va_rf q2.1]) (r2 := (some (va_rf q2.1))) (h1 := q2.2) dX7_state_2 (ok_X7_lotAt e2) (sc_X7_state_X7_lotAt) wd_371 wd_373 wd_5 (ci := 7) (q0 := (RX7, TX7, 10)) rfl (by decide) rfl f2 rfl rfl (ym_st4 (Nat.le_of_ble_eq_true rfl)) rfl ?_
  refine ym_sub (lv' := []) [] rfl ?_
  refine ym_astore_n (pc := 5) (lv' := [(2, va_rf q2.1)]) dX7_state_5 rfl (by decide) trivial rfl ?_
  refine ym_aload_n (pc := 6) 0 dX7_state_6 rfl rfl ?_
  by_cases c7 : q2.1 = none
  · rw [if_pos c7] at hf
    refine ym_ifnonnull_y (pc := 7) (tgt := 14) dX7_state_7 (by decide) c7 ?_
    refine ym_iconst (pc := 10) (v := (-1)) dX7_state_10 (by decide) ?_
    refine ym_goto (pc := 11) (tgt := 18) dX7_state_11 (by decide) ?_
    cases hf
    exact ym_iret (pc := 18) dX7_state_18 rfl
  · rw [if_neg c7] at hf
    refine ym_ifnonnull_n (pc := 7) (tgt := 14) dX7_state_7 (by decide) c7 ?_
    refine ym_aload_n (pc := 14) 0 dX7_state_14 rfl rfl ?_
    obtain ⟨o15, f15, hf⟩ := Option.bind_eq_some_iff.mp hf
    obtain ⟨q15, e15, hf⟩ := Option.bind_eq_some_iff.mp hf
    refine ym_callV (pc := 15) (G2 := g_X4_stateNow) (dep2 := 2) (As := []) (st := []) (stk2 := [.int q15.1]) (r2 := (some (.int q15.1))) (h1 := q15.2) dX7_state_15 (ok_X4_stateNow e15) (sc_X7_state_X4_stateNow) wd_385 wd_386 wd_387 (ci := 4) (q0 := (RX4, TX4, 6)) rfl (by decide) rfl f15 rfl rfl (ym_st4 (Nat.le_of_ble_eq_true rfl)) rfl ?_
    cases hf
    exact ym_iret (pc := 18) dX7_state_18 rfl
theorem dX7_step_0 : decode cX7_step 0 = .ok (.aload_n 0, 1) := by decide +kernel
theorem dX7_step_1 : decode cX7_step 1 = .ok (.invokevirtual 58, 3) := by decide +kernel
theorem dX7_step_4 : decode cX7_step 4 = .ok (.lload_n 1, 1) := by decide +kernel
theorem dX7_step_5 : decode cX7_step 5 = .ok (.invokestatic 65, 3) := by decide +kernel
theorem dX7_step_8 : decode cX7_step 8 = .ok (.ifCond .eq 10, 3) := by decide +kernel
theorem dX7_step_11 : decode cX7_step 11 = .ok (.lload_n 3, 1) := by decide +kernel
theorem dX7_step_12 : decode cX7_step 12 = .ok (.invokestatic 80, 3) := by decide +kernel
theorem dX7_step_15 : decode cX7_step 15 = .ok (.ifCond .ne 9, 3) := by decide +kernel
theorem dX7_step_18 : decode cX7_step 18 = .ok (.aload_n 0, 1) := by decide +kernel
theorem dX7_step_19 : decode cX7_step 19 = .ok (.iconst 1, 1) := by decide +kernel
theorem dX7_step_20 : decode cX7_step 20 = .ok (.invokevirtual 61, 3) := by decide +kernel
theorem dX7_step_23 : decode cX7_step 23 = .ok (.lreturn, 1) := by decide +kernel
theorem dX7_step_24 : decode cX7_step 24 = .ok (.aload_n 0, 1) := by decide +kernel
theorem dX7_step_25 : decode cX7_step 25 = .ok (.aload_n 0, 1) := by decide +kernel
theorem dX7_step_26 : decode cX7_step 26 = .ok (.getfield 30, 3) := by decide +kernel
theorem dX7_step_29 : decode cX7_step 29 = .ok (.lload_n 1, 1) := by decide +kernel
theorem dX7_step_30 : decode cX7_step 30 = .ok (.lload_n 3, 1) := by decide +kernel
theorem dX7_step_31 : decode cX7_step 31 = .ok (.invokevirtual 133, 3) := by decide +kernel
theorem dX7_step_34 : decode cX7_step 34 = .ok (.lreturn, 1) := by decide +kernel
theorem sc_X7_step_X7_startAct : ym_site g_X7_step g_X7_startAct 8 2 0 := ⟨by decide, by decide, wd_224, wd_76, by decide +kernel⟩
theorem sc_X7_step_X7_isMoney : ym_site g_X7_step g_X7_isMoney 8 1 1 := ⟨by decide, by decide, wd_247, wd_76, by decide +kernel⟩
theorem sc_X7_step_X7_refuse : ym_site g_X7_step g_X7_refuse 8 4 1 := ⟨by decide, by decide, wd_232, wd_76, by decide +kernel⟩
def bl_X7_step_18 (N : Nat) (w0 : Option Nat) (h : ym_H) : Option (Int64 × ym_H) :=
  Option.bind (ym_ob h w0 7) fun o20 =>
  Option.bind (fn_X7_refuse N w0 1 h) fun q20 =>
  some (q20.1, q20.2)
set_option maxRecDepth 20000 in
set_option maxHeartbeats 4000000 in
theorem ob_X7_step_18 {D : ym_D} {b0 : Nat} {N : Nat} {w0 : Option Nat} {h h' : ym_H} {r : Int64} (hf : bl_X7_step_18 N w0 h = some (r, h')) : ym_Y D b0 g_X7_step 8 18 [(0, va_rf w0)] [] h (some (.long r)) h' := by
  unfold bl_X7_step_18 at hf
  refine ym_aload_n (pc := 18) 0 dX7_step_18 rfl rfl ?_
  refine ym_iconst (pc := 19) (v := 1) dX7_step_19 (by decide) ?_
  obtain ⟨o20, f20, hf⟩ := Option.bind_eq_some_iff.mp hf
  obtain ⟨q20, e20, hf⟩ := Option.bind_eq_some_iff.mp hf
  refine ym_callV (pc := 20) (G2 := g_X7_refuse) (dep2 := 4) (As := [.int 1]) (st := []) (stk2 := [.long q20.1]) (r2 := (some (.long q20.1))) (h1 := q20.2) dX7_step_20 (ok_X7_refuse e20) (sc_X7_step_X7_refuse) wd_229 wd_231 wd_1 (ci := 7) (q0 := (RX7, TX7, 10)) rfl (by decide) rfl f20 rfl rfl (ym_st4 (Nat.le_of_ble_eq_true rfl)) rfl ?_
  cases hf
  exact ym_lret (pc := 23) dX7_step_23 rfl
theorem sc_X7_step_X7_isSum : ym_site g_X7_step g_X7_isSum 8 1 1 := ⟨by decide, by decide, wd_322, wd_76, by decide +kernel⟩
theorem sc_X7_step_X7_addTableRow : ym_site g_X7_step g_X7_addTableRow 8 7 3 := ⟨by decide, by decide, wd_427, wd_76, by decide +kernel⟩
def fn_X7_step (N : Nat) (a0 : Option Nat) (a1 : Int64) (a3 : Int64) (h : ym_H) : Option (Int64 × ym_H) :=
  Option.bind (ym_ob h a0 7) fun o1 =>
  Option.bind (fn_X7_startAct N a0 h) fun q1 =>
  Option.bind (fn_X7_isMoney N a1 q1.2) fun q5 =>
  if q5.1 = 0 then
    bl_X7_step_18 N a0 q5.2
  else
    Option.bind (fn_X7_isSum N a3 q5.2) fun q12 =>
    if q12.1 = 0 then
      bl_X7_step_18 N a0 q12.2
    else
      Option.bind (ym_gR q12.2 a0 7 2) fun v26 =>
      Option.bind (ym_ob q12.2 a0 7) fun o31 =>
      Option.bind (fn_X7_addTableRow N a0 v26 a1 a3 q12.2) fun q31 =>
      some (q31.1, q31.2)
set_option maxRecDepth 20000 in
set_option maxHeartbeats 4000000 in
theorem ok_X7_step {D : ym_D} {b0 : Nat} {N : Nat} {a0 : Option Nat} {a1 : Int64} {a3 : Int64} {h h' : ym_H} {r : Int64} (hf : fn_X7_step N a0 a1 a3 h = some (r, h')) : ym_M D b0 g_X7_step 8 [va_rf a0, .long a1, .long a3] h (some (.long r)) h' := by
  unfold fn_X7_step at hf
  refine ym_meth (lv := [(0, va_rf a0), (1, .long a1), (3, .long a3)]) (by decide) (by simp [lg_sl, ym_c1, ym_cI, ym_cL, g_X7_step]) (by simp [lv_args, ym_c1, ym_cI, ym_cL]) ?_
  refine ym_aload_n (pc := 0) 0 dX7_step_0 rfl rfl ?_
  obtain ⟨o1, f1, hf⟩ := Option.bind_eq_some_iff.mp hf
  obtain ⟨q1, e1, hf⟩ := Option.bind_eq_some_iff.mp hf
  refine ym_callV (pc := 1) (G2 := g_X7_startAct) (dep2 := 2) (As := []) (st := []) (stk2 := []) (r2 := none) (h1 := q1.2) dX7_step_1 (ok_X7_startAct e1) (sc_X7_step_X7_startAct) wd_221 wd_223 wd_0 (ci := 7) (q0 := (RX7, TX7, 10)) rfl (by decide) rfl f1 rfl rfl (ym_st4 (Nat.le_of_ble_eq_true rfl)) rfl ?_
  refine ym_lload_n (pc := 4) 1 dX7_step_4 rfl rfl ?_
  obtain ⟨q5, e5, hf⟩ := Option.bind_eq_some_iff.mp hf
  refine ym_callS (pc := 5) (G2 := g_X7_isMoney) (dep2 := 1) (As := [.long a1]) (st := []) (stk2 := [.int q5.1]) (r2 := (some (.int q5.1))) (h1 := q5.2) dX7_step_5 (ok_X7_isMoney e5) (sc_X7_step_X7_isMoney) wd_245 wd_246 rfl rfl (ym_st4 (Nat.le_of_ble_eq_true rfl)) rfl ?_
  by_cases c8 : q5.1 = 0
  · rw [if_pos c8] at hf
    refine ym_if_eq_y (pc := 8) (tgt := 18) dX7_step_8 (by decide) c8 ?_
    exact ym_sub [0] rfl (ob_X7_step_18 hf)
  · rw [if_neg c8] at hf
    refine ym_if_eq_n (pc := 8) (tgt := 18) dX7_step_8 (by decide) c8 ?_
    refine ym_lload_n (pc := 11) 2 dX7_step_11 rfl rfl ?_
    obtain ⟨q12, e12, hf⟩ := Option.bind_eq_some_iff.mp hf
    refine ym_callS (pc := 12) (G2 := g_X7_isSum) (dep2 := 1) (As := [.long a3]) (st := []) (stk2 := [.int q12.1]) (r2 := (some (.int q12.1))) (h1 := q12.2) dX7_step_12 (ok_X7_isSum e12) (sc_X7_step_X7_isSum) wd_320 wd_321 rfl rfl (ym_st4 (Nat.le_of_ble_eq_true rfl)) rfl ?_
    by_cases c15 : q12.1 = 0
    · rw [if_pos c15] at hf
      refine ym_if_ne_y (pc := 15) (tgt := 24) dX7_step_15 (by decide) c15 ?_
      exact ym_sub [0] rfl (ob_X7_step_18 hf)
    · rw [if_neg c15] at hf
      refine ym_if_ne_n (pc := 15) (tgt := 24) dX7_step_15 (by decide) c15 ?_
      refine ym_aload_n (pc := 24) 0 dX7_step_24 rfl rfl ?_
      refine ym_aload_n (pc := 25) 0 dX7_step_25 rfl rfl ?_
      obtain ⟨v26, e26, hf⟩ := Option.bind_eq_some_iff.mp hf
      refine ym_get (pc := 26) dX7_step_26 rfl (by decide) iX7 (k := 2) (by decide) wd_188 (ym_gR_v e26) ?_
      refine ym_lload_n (pc := 29) 1 dX7_step_29 rfl rfl ?_
      refine ym_lload_n (pc := 30) 2 dX7_step_30 rfl rfl ?_
      obtain ⟨o31, f31, hf⟩ := Option.bind_eq_some_iff.mp hf
      obtain ⟨q31, e31, hf⟩ := Option.bind_eq_some_iff.mp hf
      refine ym_callV (pc := 31) (G2 := g_X7_addTableRow) (dep2 := 7) (As := [va_rf v26, .long a1, .long a3]) (st := []) (stk2 := [.long q31.1]) (r2 := (some (.long q31.1))) (h1 := q31.2) dX7_step_31 (ok_X7_addTableRow e31) (sc_X7_step_X7_addTableRow) wd_424 wd_426 wd_7 (ci := 7) (q0 := (RX7, TX7, 10)) rfl (by decide) rfl f31 rfl rfl (ym_st4 (Nat.le_of_ble_eq_true rfl)) rfl ?_
      cases hf
      exact ym_lret (pc := 34) dX7_step_34 rfl
theorem dX7_sum_0 : decode cX7_sum 0 = .ok (.aload_n 0, 1) := by decide +kernel
theorem dX7_sum_1 : decode cX7_sum 1 = .ok (.iload_n 1, 1) := by decide +kernel
theorem dX7_sum_2 : decode cX7_sum 2 = .ok (.invokevirtual 89, 3) := by decide +kernel
theorem dX7_sum_5 : decode cX7_sum 5 = .ok (.astore_n 2, 1) := by decide +kernel
theorem dX7_sum_6 : decode cX7_sum 6 = .ok (.aload_n 2, 1) := by decide +kernel
theorem dX7_sum_7 : decode cX7_sum 7 = .ok (.ifnonnull 7, 3) := by decide +kernel
theorem dX7_sum_10 : decode cX7_sum 10 = .ok (.lconst 0, 1) := by decide +kernel
theorem dX7_sum_11 : decode cX7_sum 11 = .ok (.goto 7, 3) := by decide +kernel
theorem dX7_sum_14 : decode cX7_sum 14 = .ok (.aload_n 2, 1) := by decide +kernel
theorem dX7_sum_15 : decode cX7_sum 15 = .ok (.invokevirtual 198, 3) := by decide +kernel
theorem dX7_sum_18 : decode cX7_sum 18 = .ok (.lreturn, 1) := by decide +kernel
theorem sc_X7_sum_X7_lotAt : ym_site g_X7_sum g_X7_lotAt 4 3 1 := ⟨by decide, by decide, wd_374, wd_76, by decide +kernel⟩
theorem sc_X7_sum_X4_standingSum : ym_site g_X7_sum g_X4_standingSum 4 3 0 := ⟨by decide, by decide, wd_520, wd_87, by decide +kernel⟩
def fn_X7_sum (N : Nat) (a0 : Option Nat) (a1 : Int32) (h : ym_H) : Option (Int64 × ym_H) :=
  Option.bind (ym_ob h a0 7) fun o2 =>
  Option.bind (fn_X7_lotAt N a0 a1 h) fun q2 =>
  if q2.1 = none then
    some (0, q2.2)
  else
    Option.bind (ym_ob q2.2 q2.1 4) fun o15 =>
    Option.bind (fn_X4_standingSum N q2.1 q2.2) fun q15 =>
    some (q15.1, q15.2)
set_option maxRecDepth 20000 in
set_option maxHeartbeats 4000000 in
theorem ok_X7_sum {D : ym_D} {b0 : Nat} {N : Nat} {a0 : Option Nat} {a1 : Int32} {h h' : ym_H} {r : Int64} (hf : fn_X7_sum N a0 a1 h = some (r, h')) : ym_M D b0 g_X7_sum 4 [va_rf a0, .int a1] h (some (.long r)) h' := by
  unfold fn_X7_sum at hf
  refine ym_meth (lv := [(0, va_rf a0), (1, .int a1)]) (by decide) (by simp [lg_sl, ym_c1, ym_cI, ym_cL, g_X7_sum]) (by simp [lv_args, ym_c1, ym_cI, ym_cL]) ?_
  refine ym_aload_n (pc := 0) 0 dX7_sum_0 rfl rfl ?_
  refine ym_iload_n (pc := 1) 1 dX7_sum_1 rfl rfl ?_
  obtain ⟨o2, f2, hf⟩ := Option.bind_eq_some_iff.mp hf
  obtain ⟨q2, e2, hf⟩ := Option.bind_eq_some_iff.mp hf
  refine ym_callV (pc := 2) (G2 := g_X7_lotAt) (dep2 := 3) (As := [.int a1]) (st := []) (stk2 := [va_rf q2.1]) (r2 := (some (va_rf q2.1))) (h1 := q2.2) dX7_sum_2 (ok_X7_lotAt e2) (sc_X7_sum_X7_lotAt) wd_371 wd_373 wd_5 (ci := 7) (q0 := (RX7, TX7, 10)) rfl (by decide) rfl f2 rfl rfl (ym_st4 (Nat.le_of_ble_eq_true rfl)) rfl ?_
  refine ym_sub (lv' := []) [] rfl ?_
  refine ym_astore_n (pc := 5) (lv' := [(2, va_rf q2.1)]) dX7_sum_5 rfl (by decide) trivial rfl ?_
  refine ym_aload_n (pc := 6) 0 dX7_sum_6 rfl rfl ?_
  by_cases c7 : q2.1 = none
  · rw [if_pos c7] at hf
    refine ym_ifnonnull_y (pc := 7) (tgt := 14) dX7_sum_7 (by decide) c7 ?_
    refine ym_lconst (pc := 10) (v := 0) dX7_sum_10 (by decide) ?_
    refine ym_goto (pc := 11) (tgt := 18) dX7_sum_11 (by decide) ?_
    cases hf
    exact ym_lret (pc := 18) dX7_sum_18 rfl
  · rw [if_neg c7] at hf
    refine ym_ifnonnull_n (pc := 7) (tgt := 14) dX7_sum_7 (by decide) c7 ?_
    refine ym_aload_n (pc := 14) 0 dX7_sum_14 rfl rfl ?_
    obtain ⟨o15, f15, hf⟩ := Option.bind_eq_some_iff.mp hf
    obtain ⟨q15, e15, hf⟩ := Option.bind_eq_some_iff.mp hf
    refine ym_callV (pc := 15) (G2 := g_X4_standingSum) (dep2 := 3) (As := []) (st := []) (stk2 := [.long q15.1]) (r2 := (some (.long q15.1))) (h1 := q15.2) dX7_sum_15 (ok_X4_standingSum e15) (sc_X7_sum_X4_standingSum) wd_517 wd_518 wd_519 (ci := 4) (q0 := (RX4, TX4, 6)) rfl (by decide) rfl f15 rfl rfl (ym_st4 (Nat.le_of_ble_eq_true rfl)) rfl ?_
    cases hf
    exact ym_lret (pc := 18) dX7_sum_18 rfl
theorem dX7_sumAt_0 : decode cX7_sumAt 0 = .ok (.aload_n 0, 1) := by decide +kernel
theorem dX7_sumAt_1 : decode cX7_sumAt 1 = .ok (.iload_n 1, 1) := by decide +kernel
theorem dX7_sumAt_2 : decode cX7_sumAt 2 = .ok (.iload_n 2, 1) := by decide +kernel
theorem dX7_sumAt_3 : decode cX7_sumAt 3 = .ok (.iconst 1, 1) := by decide +kernel
theorem dX7_sumAt_4 : decode cX7_sumAt 4 = .ok (.invokevirtual 218, 3) := by decide +kernel
theorem dX7_sumAt_7 : decode cX7_sumAt 7 = .ok (.lreturn, 1) := by decide +kernel
theorem sc_X7_sumAt_X7_readEntry : ym_site g_X7_sumAt g_X7_readEntry 6 5 3 := ⟨by decide, by decide, wd_631, wd_76, by decide +kernel⟩
def fn_X7_sumAt (N : Nat) (a0 : Option Nat) (a1 : Int32) (a2 : Int32) (h : ym_H) : Option (Int64 × ym_H) :=
  Option.bind (ym_ob h a0 7) fun o4 =>
  Option.bind (fn_X7_readEntry N a0 a1 a2 1 h) fun q4 =>
  some (q4.1, q4.2)
set_option maxRecDepth 20000 in
set_option maxHeartbeats 4000000 in
theorem ok_X7_sumAt {D : ym_D} {b0 : Nat} {N : Nat} {a0 : Option Nat} {a1 : Int32} {a2 : Int32} {h h' : ym_H} {r : Int64} (hf : fn_X7_sumAt N a0 a1 a2 h = some (r, h')) : ym_M D b0 g_X7_sumAt 6 [va_rf a0, .int a1, .int a2] h (some (.long r)) h' := by
  unfold fn_X7_sumAt at hf
  refine ym_meth (lv := [(0, va_rf a0), (1, .int a1), (2, .int a2)]) (by decide) (by simp [lg_sl, ym_c1, ym_cI, ym_cL, g_X7_sumAt]) (by simp [lv_args, ym_c1, ym_cI, ym_cL]) ?_
  refine ym_aload_n (pc := 0) 0 dX7_sumAt_0 rfl rfl ?_
  refine ym_iload_n (pc := 1) 1 dX7_sumAt_1 rfl rfl ?_
  refine ym_iload_n (pc := 2) 2 dX7_sumAt_2 rfl rfl ?_
  refine ym_iconst (pc := 3) (v := 1) dX7_sumAt_3 (by decide) ?_
  obtain ⟨o4, f4, hf⟩ := Option.bind_eq_some_iff.mp hf
  obtain ⟨q4, e4, hf⟩ := Option.bind_eq_some_iff.mp hf
  refine ym_callV (pc := 4) (G2 := g_X7_readEntry) (dep2 := 5) (As := [.int a1, .int a2, .int 1]) (st := []) (stk2 := [.long q4.1]) (r2 := (some (.long q4.1))) (h1 := q4.2) dX7_sumAt_4 (ok_X7_readEntry e4) (sc_X7_sumAt_X7_readEntry) wd_628 wd_630 wd_12 (ci := 7) (q0 := (RX7, TX7, 10)) rfl (by decide) rfl f4 rfl rfl (ym_st4 (Nat.le_of_ble_eq_true rfl)) rfl ?_
  cases hf
  exact ym_lret (pc := 7) dX7_sumAt_7 rfl
theorem dX7_take_0 : decode cX7_take 0 = .ok (.aload_n 0, 1) := by decide +kernel
theorem dX7_take_1 : decode cX7_take 1 = .ok (.invokevirtual 58, 3) := by decide +kernel
theorem dX7_take_4 : decode cX7_take 4 = .ok (.aload_n 0, 1) := by decide +kernel
theorem dX7_take_5 : decode cX7_take 5 = .ok (.iload_n 1, 1) := by decide +kernel
theorem dX7_take_6 : decode cX7_take 6 = .ok (.invokevirtual 89, 3) := by decide +kernel
theorem dX7_take_9 : decode cX7_take 9 = .ok (.astore_n 3, 1) := by decide +kernel
theorem dX7_take_10 : decode cX7_take 10 = .ok (.aload_n 3, 1) := by decide +kernel
theorem dX7_take_11 : decode cX7_take 11 = .ok (.ifnonnull 12, 3) := by decide +kernel
theorem dX7_take_14 : decode cX7_take 14 = .ok (.aload_n 0, 1) := by decide +kernel
theorem dX7_take_15 : decode cX7_take 15 = .ok (.iload_n 1, 1) := by decide +kernel
theorem dX7_take_16 : decode cX7_take 16 = .ok (.invokestatic 93, 3) := by decide +kernel
theorem dX7_take_19 : decode cX7_take 19 = .ok (.invokevirtual 61, 3) := by decide +kernel
theorem dX7_take_22 : decode cX7_take 22 = .ok (.lreturn, 1) := by decide +kernel
theorem dX7_take_23 : decode cX7_take 23 = .ok (.aload_n 3, 1) := by decide +kernel
theorem dX7_take_24 : decode cX7_take 24 = .ok (.getfield 137, 3) := by decide +kernel
theorem dX7_take_27 : decode cX7_take 27 = .ok (.iconst 5, 1) := by decide +kernel
theorem dX7_take_28 : decode cX7_take 28 = .ok (.if_icmp .eq 9, 3) := by decide +kernel
theorem dX7_take_31 : decode cX7_take 31 = .ok (.aload_n 0, 1) := by decide +kernel
theorem dX7_take_32 : decode cX7_take 32 = .ok (.iconst 4, 1) := by decide +kernel
theorem dX7_take_33 : decode cX7_take 33 = .ok (.invokevirtual 61, 3) := by decide +kernel
theorem dX7_take_36 : decode cX7_take 36 = .ok (.lreturn, 1) := by decide +kernel
theorem dX7_take_37 : decode cX7_take 37 = .ok (.aload_n 0, 1) := by decide +kernel
theorem dX7_take_38 : decode cX7_take 38 = .ok (.iload_n 2, 1) := by decide +kernel
theorem dX7_take_39 : decode cX7_take 39 = .ok (.invokevirtual 97, 3) := by decide +kernel
theorem dX7_take_42 : decode cX7_take 42 = .ok (.astore 4, 2) := by decide +kernel
theorem dX7_take_44 : decode cX7_take 44 = .ok (.aload 4, 2) := by decide +kernel
theorem dX7_take_46 : decode cX7_take 46 = .ok (.ifnonnull 12, 3) := by decide +kernel
theorem dX7_take_49 : decode cX7_take 49 = .ok (.aload_n 0, 1) := by decide +kernel
theorem dX7_take_50 : decode cX7_take 50 = .ok (.iload_n 2, 1) := by decide +kernel
theorem dX7_take_51 : decode cX7_take 51 = .ok (.invokestatic 101, 3) := by decide +kernel
theorem dX7_take_54 : decode cX7_take 54 = .ok (.invokevirtual 61, 3) := by decide +kernel
theorem dX7_take_57 : decode cX7_take 57 = .ok (.lreturn, 1) := by decide +kernel
theorem dX7_take_58 : decode cX7_take 58 = .ok (.aload 4, 2) := by decide +kernel
theorem dX7_take_60 : decode cX7_take 60 = .ok (.getfield 214, 3) := by decide +kernel
theorem dX7_take_63 : decode cX7_take 63 = .ok (.iconst 1, 1) := by decide +kernel
theorem dX7_take_64 : decode cX7_take 64 = .ok (.if_icmp .eq 9, 3) := by decide +kernel
theorem dX7_take_67 : decode cX7_take 67 = .ok (.aload_n 0, 1) := by decide +kernel
theorem dX7_take_68 : decode cX7_take 68 = .ok (.iconst 4, 1) := by decide +kernel
theorem dX7_take_69 : decode cX7_take 69 = .ok (.invokevirtual 61, 3) := by decide +kernel
theorem dX7_take_72 : decode cX7_take 72 = .ok (.lreturn, 1) := by decide +kernel
theorem dX7_take_73 : decode cX7_take 73 = .ok (.aload_n 3, 1) := by decide +kernel
theorem dX7_take_74 : decode cX7_take 74 = .ok (.invokevirtual 156, 3) := by decide +kernel
theorem dX7_take_77 : decode cX7_take 77 = .ok (.ifCond .ne 12, 3) := by decide +kernel
theorem dX7_take_80 : decode cX7_take 80 = .ok (.aload_n 0, 1) := by decide +kernel
theorem dX7_take_81 : decode cX7_take 81 = .ok (.aload_n 3, 1) := by decide +kernel
theorem dX7_take_82 : decode cX7_take 82 = .ok (.invokevirtual 159, 3) := by decide +kernel
theorem dX7_take_85 : decode cX7_take 85 = .ok (.invokevirtual 61, 3) := by decide +kernel
theorem dX7_take_88 : decode cX7_take 88 = .ok (.lreturn, 1) := by decide +kernel
theorem dX7_take_89 : decode cX7_take 89 = .ok (.aload_n 3, 1) := by decide +kernel
theorem dX7_take_90 : decode cX7_take 90 = .ok (.invokevirtual 201, 3) := by decide +kernel
theorem dX7_take_93 : decode cX7_take 93 = .ok (.iconst (-1), 1) := by decide +kernel
theorem dX7_take_94 : decode cX7_take 94 = .ok (.if_icmp .eq 10, 3) := by decide +kernel
theorem dX7_take_97 : decode cX7_take 97 = .ok (.aload_n 0, 1) := by decide +kernel
theorem dX7_take_98 : decode cX7_take 98 = .ok (.bipush 8, 2) := by decide +kernel
theorem dX7_take_100 : decode cX7_take 100 = .ok (.invokevirtual 61, 3) := by decide +kernel
theorem dX7_take_103 : decode cX7_take 103 = .ok (.lreturn, 1) := by decide +kernel
theorem dX7_take_104 : decode cX7_take 104 = .ok (.aload_n 3, 1) := by decide +kernel
theorem dX7_take_105 : decode cX7_take 105 = .ok (.iload_n 2, 1) := by decide +kernel
theorem dX7_take_106 : decode cX7_take 106 = .ok (.aload_n 3, 1) := by decide +kernel
theorem dX7_take_107 : decode cX7_take 107 = .ok (.getfield 129, 3) := by decide +kernel
theorem dX7_take_110 : decode cX7_take 110 = .ok (.iconst 3, 1) := by decide +kernel
theorem dX7_take_111 : decode cX7_take 111 = .ok (.invokevirtual 130, 3) := by decide +kernel
theorem dX7_take_114 : decode cX7_take 114 = .ok (.invokevirtual 215, 3) := by decide +kernel
theorem dX7_take_117 : decode cX7_take 117 = .ok (.aload_n 3, 1) := by decide +kernel
theorem dX7_take_118 : decode cX7_take 118 = .ok (.getfield 129, 3) := by decide +kernel
theorem dX7_take_121 : decode cX7_take 121 = .ok (.iconst 3, 1) := by decide +kernel
theorem dX7_take_122 : decode cX7_take 122 = .ok (.invokevirtual 130, 3) := by decide +kernel
theorem dX7_take_125 : decode cX7_take 125 = .ok (.lreturn, 1) := by decide +kernel
theorem sc_X7_take_X7_startAct : ym_site g_X7_take g_X7_startAct 7 2 0 := ⟨by decide, by decide, wd_224, wd_76, by decide +kernel⟩
theorem sc_X7_take_X7_lotAt : ym_site g_X7_take g_X7_lotAt 7 3 1 := ⟨by decide, by decide, wd_374, wd_76, by decide +kernel⟩
theorem sc_X7_take_X7_whyNoLot : ym_site g_X7_take g_X7_whyNoLot 7 1 1 := ⟨by decide, by decide, wd_377, wd_76, by decide +kernel⟩
theorem sc_X7_take_X7_refuse : ym_site g_X7_take g_X7_refuse 7 4 1 := ⟨by decide, by decide, wd_232, wd_76, by decide +kernel⟩
theorem sc_X7_take_X7_bidderWith : ym_site g_X7_take g_X7_bidderWith 7 3 1 := ⟨by decide, by decide, wd_381, wd_76, by decide +kernel⟩
theorem sc_X7_take_X7_whyNoBidder : ym_site g_X7_take g_X7_whyNoBidder 7 1 1 := ⟨by decide, by decide, wd_384, wd_76, by decide +kernel⟩
theorem sc_X7_take_X4_isOpen : ym_site g_X7_take g_X4_isOpen 7 3 0 := ⟨by decide, by decide, wd_538, wd_87, by decide +kernel⟩
theorem sc_X7_take_X4_whyNotOpen : ym_site g_X7_take g_X4_whyNotOpen 7 4 0 := ⟨by decide, by decide, wd_543, wd_87, by decide +kernel⟩
theorem sc_X7_take_X4_standingBidder : ym_site g_X7_take g_X4_standingBidder 7 3 0 := ⟨by decide, by decide, wd_512, wd_87, by decide +kernel⟩
theorem sc_X7_take_X2_get : ym_site g_X7_take g_X2_get 7 1 1 := ⟨by decide, by decide, wd_256, wd_78, by decide +kernel⟩
theorem sc_X7_take_X4_enter : ym_site g_X7_take g_X4_enter 7 6 2 := ⟨by decide, by decide, wd_524, wd_87, by decide +kernel⟩
def fn_X7_take (N : Nat) (a0 : Option Nat) (a1 : Int32) (a2 : Int32) (h : ym_H) : Option (Int64 × ym_H) :=
  Option.bind (ym_ob h a0 7) fun o1 =>
  Option.bind (fn_X7_startAct N a0 h) fun q1 =>
  Option.bind (ym_ob q1.2 a0 7) fun o6 =>
  Option.bind (fn_X7_lotAt N a0 a1 q1.2) fun q6 =>
  if q6.1 = none then
    Option.bind (fn_X7_whyNoLot N a1 q6.2) fun q16 =>
    Option.bind (ym_ob q16.2 a0 7) fun o19 =>
    Option.bind (fn_X7_refuse N a0 q16.1 q16.2) fun q19 =>
    some (q19.1, q19.2)
  else
    Option.bind (ym_gI q6.2 q6.1 4 0) fun v24 =>
    if v24 = 5 then
      Option.bind (ym_ob q6.2 a0 7) fun o39 =>
      Option.bind (fn_X7_bidderWith N a0 a2 q6.2) fun q39 =>
      if q39.1 = none then
        Option.bind (fn_X7_whyNoBidder N a2 q39.2) fun q51 =>
        Option.bind (ym_ob q51.2 a0 7) fun o54 =>
        Option.bind (fn_X7_refuse N a0 q51.1 q51.2) fun q54 =>
        some (q54.1, q54.2)
      else
        Option.bind (ym_gI q39.2 q39.1 0 0) fun v60 =>
        if v60 = 1 then
          Option.bind (ym_ob q39.2 q6.1 4) fun o74 =>
          Option.bind (fn_X4_isOpen N q6.1 q39.2) fun q74 =>
          if q74.1 = 0 then
            Option.bind (ym_ob q74.2 q6.1 4) fun o82 =>
            Option.bind (fn_X4_whyNotOpen N q6.1 q74.2) fun q82 =>
            Option.bind (ym_ob q82.2 a0 7) fun o85 =>
            Option.bind (fn_X7_refuse N a0 q82.1 q82.2) fun q85 =>
            some (q85.1, q85.2)
          else
            Option.bind (ym_ob q74.2 q6.1 4) fun o90 =>
            Option.bind (fn_X4_standingBidder N q6.1 q74.2) fun q90 =>
            if q90.1 = (-1) then
              Option.bind (ym_gR q90.2 q6.1 4 2) fun v107 =>
              Option.bind (ym_ob q90.2 v107 2) fun o111 =>
              Option.bind (fn_X2_get N v107 3 q90.2) fun q111 =>
              Option.bind (ym_ob q111.2 q6.1 4) fun o114 =>
              Option.bind (fn_X4_enter N q6.1 a2 q111.1 q111.2) fun q114 =>
              Option.bind (ym_gR q114.2 q6.1 4 2) fun v118 =>
              Option.bind (ym_ob q114.2 v118 2) fun o122 =>
              Option.bind (fn_X2_get N v118 3 q114.2) fun q122 =>
              some (q122.1, q122.2)
            else
              Option.bind (ym_ob q90.2 a0 7) fun o100 =>
              Option.bind (fn_X7_refuse N a0 8 q90.2) fun q100 =>
              some (q100.1, q100.2)
        else
          Option.bind (ym_ob q39.2 a0 7) fun o69 =>
          Option.bind (fn_X7_refuse N a0 4 q39.2) fun q69 =>
          some (q69.1, q69.2)
    else
      Option.bind (ym_ob q6.2 a0 7) fun o33 =>
      Option.bind (fn_X7_refuse N a0 4 q6.2) fun q33 =>
      some (q33.1, q33.2)
set_option maxRecDepth 20000 in
set_option maxHeartbeats 4000000 in
theorem ok_X7_take {D : ym_D} {b0 : Nat} {N : Nat} {a0 : Option Nat} {a1 : Int32} {a2 : Int32} {h h' : ym_H} {r : Int64} (hf : fn_X7_take N a0 a1 a2 h = some (r, h')) : ym_M D b0 g_X7_take 7 [va_rf a0, .int a1, .int a2] h (some (.long r)) h' := by
  unfold fn_X7_take at hf
  refine ym_meth (lv := [(0, va_rf a0), (1, .int a1), (2, .int a2)]) (by decide) (by simp [lg_sl, ym_c1, ym_cI, ym_cL, g_X7_take]) (by simp [lv_args, ym_c1, ym_cI, ym_cL]) ?_
  refine ym_aload_n (pc := 0) 0 dX7_take_0 rfl rfl ?_
  obtain ⟨o1, f1, hf⟩ := Option.bind_eq_some_iff.mp hf
  obtain ⟨q1, e1, hf⟩ := Option.bind_eq_some_iff.mp hf
  refine ym_callV (pc := 1) (G2 := g_X7_startAct) (dep2 := 2) (As := []) (st := []) (stk2 := []) (r2 := none) (h1 := q1.2) dX7_take_1 (ok_X7_startAct e1) (sc_X7_take_X7_startAct) wd_221 wd_223 wd_0 (ci := 7) (q0 := (RX7, TX7, 10)) rfl (by decide) rfl f1 rfl rfl (ym_st4 (Nat.le_of_ble_eq_true rfl)) rfl ?_
  refine ym_aload_n (pc := 4) 0 dX7_take_4 rfl rfl ?_
  refine ym_iload_n (pc := 5) 1 dX7_take_5 rfl rfl ?_
  obtain ⟨o6, f6, hf⟩ := Option.bind_eq_some_iff.mp hf
  obtain ⟨q6, e6, hf⟩ := Option.bind_eq_some_iff.mp hf
  refine ym_callV (pc := 6) (G2 := g_X7_lotAt) (dep2 := 3) (As := [.int a1]) (st := []) (stk2 := [va_rf q6.1]) (r2 := (some (va_rf q6.1))) (h1 := q6.2) dX7_take_6 (ok_X7_lotAt e6) (sc_X7_take_X7_lotAt) wd_371 wd_373 wd_5 (ci := 7) (q0 := (RX7, TX7, 10)) rfl (by decide) rfl f6 rfl rfl (ym_st4 (Nat.le_of_ble_eq_true rfl)) rfl ?_
  refine ym_astore_n (pc := 9) (lv' := [(3, va_rf q6.1), (0, va_rf a0), (1, .int a1), (2, .int a2)]) dX7_take_9 rfl (by decide) ⟨trivial, trivial, rfl, trivial⟩ rfl ?_
  refine ym_aload_n (pc := 10) 0 dX7_take_10 rfl rfl ?_
  by_cases c11 : q6.1 = none
  · rw [if_pos c11] at hf
    refine ym_ifnonnull_y (pc := 11) (tgt := 23) dX7_take_11 (by decide) c11 ?_
    refine ym_aload_n (pc := 14) 1 dX7_take_14 rfl rfl ?_
    refine ym_iload_n (pc := 15) 2 dX7_take_15 rfl rfl ?_
    obtain ⟨q16, e16, hf⟩ := Option.bind_eq_some_iff.mp hf
    refine ym_callS (pc := 16) (G2 := g_X7_whyNoLot) (dep2 := 1) (As := [.int a1]) (st := [va_rf a0]) (stk2 := [.int q16.1, va_rf a0]) (r2 := (some (.int q16.1))) (h1 := q16.2) dX7_take_16 (ok_X7_whyNoLot e16) (sc_X7_take_X7_whyNoLot) wd_375 wd_376 rfl rfl (ym_st4 (Nat.le_of_ble_eq_true rfl)) rfl ?_
    obtain ⟨o19, f19, hf⟩ := Option.bind_eq_some_iff.mp hf
    obtain ⟨q19, e19, hf⟩ := Option.bind_eq_some_iff.mp hf
    refine ym_callV (pc := 19) (G2 := g_X7_refuse) (dep2 := 4) (As := [.int q16.1]) (st := []) (stk2 := [.long q19.1]) (r2 := (some (.long q19.1))) (h1 := q19.2) dX7_take_19 (ok_X7_refuse e19) (sc_X7_take_X7_refuse) wd_229 wd_231 wd_1 (ci := 7) (q0 := (RX7, TX7, 10)) rfl (by decide) rfl f19 rfl rfl (ym_st4 (Nat.le_of_ble_eq_true rfl)) rfl ?_
    cases hf
    exact ym_lret (pc := 22) dX7_take_22 rfl
  · rw [if_neg c11] at hf
    refine ym_ifnonnull_n (pc := 11) (tgt := 23) dX7_take_11 (by decide) c11 ?_
    refine ym_aload_n (pc := 23) 0 dX7_take_23 rfl rfl ?_
    obtain ⟨v24, e24, hf⟩ := Option.bind_eq_some_iff.mp hf
    refine ym_getN (pc := 24) dX7_take_24 rfl (by decide) iX4 (k := 0) (by decide) wd_340 (ym_gI_v e24) ?_
    refine ym_iconst (pc := 27) (v := 5) dX7_take_27 (by decide) ?_
    by_cases c28 : v24 = 5
    · rw [if_pos c28] at hf
      refine ym_icmp_eq_y (pc := 28) (tgt := 37) dX7_take_28 (by decide) c28 ?_
      refine ym_aload_n (pc := 37) 1 dX7_take_37 rfl rfl ?_
      refine ym_iload_n (pc := 38) 3 dX7_take_38 rfl rfl ?_
      obtain ⟨o39, f39, hf⟩ := Option.bind_eq_some_iff.mp hf
      obtain ⟨q39, e39, hf⟩ := Option.bind_eq_some_iff.mp hf
      refine ym_callV (pc := 39) (G2 := g_X7_bidderWith) (dep2 := 3) (As := [.int a2]) (st := []) (stk2 := [va_rf q39.1]) (r2 := (some (va_rf q39.1))) (h1 := q39.2) dX7_take_39 (ok_X7_bidderWith e39) (sc_X7_take_X7_bidderWith) wd_378 wd_380 wd_6 (ci := 7) (q0 := (RX7, TX7, 10)) rfl (by decide) rfl f39 rfl rfl (ym_st4 (Nat.le_of_ble_eq_true rfl)) rfl ?_
      refine ym_sub (lv' := [(3, va_rf q6.1), (0, va_rf a0), (2, .int a2)]) [0, 1, 3] rfl ?_
      refine ym_astore (pc := 42) (lv' := [(4, va_rf q39.1), (3, va_rf q6.1), (0, va_rf a0), (2, .int a2)]) dX7_take_42 (by decide) ⟨ym_c1 q6.1, trivial, trivial, trivial⟩ rfl ?_
      refine ym_aload (pc := 44) 0 dX7_take_44 rfl ?_
      by_cases c46 : q39.1 = none
      · rw [if_pos c46] at hf
        refine ym_ifnonnull_y (pc := 46) (tgt := 58) dX7_take_46 (by decide) c46 ?_
        refine ym_aload_n (pc := 49) 2 dX7_take_49 rfl rfl ?_
        refine ym_iload_n (pc := 50) 3 dX7_take_50 rfl rfl ?_
        obtain ⟨q51, e51, hf⟩ := Option.bind_eq_some_iff.mp hf
        refine ym_callS (pc := 51) (G2 := g_X7_whyNoBidder) (dep2 := 1) (As := [.int a2]) (st := [va_rf a0]) (stk2 := [.int q51.1, va_rf a0]) (r2 := (some (.int q51.1))) (h1 := q51.2) dX7_take_51 (ok_X7_whyNoBidder e51) (sc_X7_take_X7_whyNoBidder) wd_382 wd_383 rfl rfl (ym_st4 (Nat.le_of_ble_eq_true rfl)) rfl ?_
        obtain ⟨o54, f54, hf⟩ := Option.bind_eq_some_iff.mp hf
        obtain ⟨q54, e54, hf⟩ := Option.bind_eq_some_iff.mp hf
        refine ym_callV (pc := 54) (G2 := g_X7_refuse) (dep2 := 4) (As := [.int q51.1]) (st := []) (stk2 := [.long q54.1]) (r2 := (some (.long q54.1))) (h1 := q54.2) dX7_take_54 (ok_X7_refuse e54) (sc_X7_take_X7_refuse) wd_229 wd_231 wd_1 (ci := 7) (q0 := (RX7, TX7, 10)) rfl (by decide) rfl f54 rfl rfl (ym_st4 (Nat.le_of_ble_eq_true rfl)) rfl ?_
        cases hf
        exact ym_lret (pc := 57) dX7_take_57 rfl
      · rw [if_neg c46] at hf
        refine ym_ifnonnull_n (pc := 46) (tgt := 58) dX7_take_46 (by decide) c46 ?_
        refine ym_aload (pc := 58) 0 dX7_take_58 rfl ?_
        obtain ⟨v60, e60, hf⟩ := Option.bind_eq_some_iff.mp hf
        refine ym_getN (pc := 60) dX7_take_60 rfl (by decide) iX0 (k := 0) (by decide) wd_266 (ym_gI_v e60) ?_
        refine ym_iconst (pc := 63) (v := 1) dX7_take_63 (by decide) ?_
        by_cases c64 : v60 = 1
        · rw [if_pos c64] at hf
          refine ym_icmp_eq_y (pc := 64) (tgt := 73) dX7_take_64 (by decide) c64 ?_
          refine ym_aload_n (pc := 73) 1 dX7_take_73 rfl rfl ?_
          obtain ⟨o74, f74, hf⟩ := Option.bind_eq_some_iff.mp hf
          obtain ⟨q74, e74, hf⟩ := Option.bind_eq_some_iff.mp hf
          refine ym_callV (pc := 74) (G2 := g_X4_isOpen) (dep2 := 3) (As := []) (st := []) (stk2 := [.int q74.1]) (r2 := (some (.int q74.1))) (h1 := q74.2) dX7_take_74 (ok_X4_isOpen e74) (sc_X7_take_X4_isOpen) wd_535 wd_536 wd_537 (ci := 4) (q0 := (RX4, TX4, 6)) rfl (by decide) rfl f74 rfl rfl (ym_st4 (Nat.le_of_ble_eq_true rfl)) rfl ?_
          by_cases c77 : q74.1 = 0
          · rw [if_pos c77] at hf
            refine ym_if_ne_y (pc := 77) (tgt := 89) dX7_take_77 (by decide) c77 ?_
            refine ym_aload_n (pc := 80) 2 dX7_take_80 rfl rfl ?_
            refine ym_aload_n (pc := 81) 1 dX7_take_81 rfl rfl ?_
            obtain ⟨o82, f82, hf⟩ := Option.bind_eq_some_iff.mp hf
            obtain ⟨q82, e82, hf⟩ := Option.bind_eq_some_iff.mp hf
            refine ym_callV (pc := 82) (G2 := g_X4_whyNotOpen) (dep2 := 4) (As := []) (st := [va_rf a0]) (stk2 := [.int q82.1, va_rf a0]) (r2 := (some (.int q82.1))) (h1 := q82.2) dX7_take_82 (ok_X4_whyNotOpen e82) (sc_X7_take_X4_whyNotOpen) wd_540 wd_541 wd_542 (ci := 4) (q0 := (RX4, TX4, 6)) rfl (by decide) rfl f82 rfl rfl (ym_st4 (Nat.le_of_ble_eq_true rfl)) rfl ?_
            obtain ⟨o85, f85, hf⟩ := Option.bind_eq_some_iff.mp hf
            obtain ⟨q85, e85, hf⟩ := Option.bind_eq_some_iff.mp hf
            refine ym_callV (pc := 85) (G2 := g_X7_refuse) (dep2 := 4) (As := [.int q82.1]) (st := []) (stk2 := [.long q85.1]) (r2 := (some (.long q85.1))) (h1 := q85.2) dX7_take_85 (ok_X7_refuse e85) (sc_X7_take_X7_refuse) wd_229 wd_231 wd_1 (ci := 7) (q0 := (RX7, TX7, 10)) rfl (by decide) rfl f85 rfl rfl (ym_st4 (Nat.le_of_ble_eq_true rfl)) rfl ?_
            cases hf
            exact ym_lret (pc := 88) dX7_take_88 rfl
          · rw [if_neg c77] at hf
            refine ym_if_ne_n (pc := 77) (tgt := 89) dX7_take_77 (by decide) c77 ?_
            refine ym_aload_n (pc := 89) 1 dX7_take_89 rfl rfl ?_
            obtain ⟨o90, f90, hf⟩ := Option.bind_eq_some_iff.mp hf
            obtain ⟨q90, e90, hf⟩ := Option.bind_eq_some_iff.mp hf
            refine ym_callV (pc := 90) (G2 := g_X4_standingBidder) (dep2 := 3) (As := []) (st := []) (stk2 := [.int q90.1]) (r2 := (some (.int q90.1))) (h1 := q90.2) dX7_take_90 (ok_X4_standingBidder e90) (sc_X7_take_X4_standingBidder) wd_509 wd_510 wd_511 (ci := 4) (q0 := (RX4, TX4, 6)) rfl (by decide) rfl f90 rfl rfl (ym_st4 (Nat.le_of_ble_eq_true rfl)) rfl ?_
            refine ym_iconst (pc := 93) (v := (-1)) dX7_take_93 (by decide) ?_
            by_cases c94 : q90.1 = (-1)
            · rw [if_pos c94] at hf
              refine ym_icmp_eq_y (pc := 94) (tgt := 104) dX7_take_94 (by decide) c94 ?_
              refine ym_aload_n (pc := 104) 1 dX7_take_104 rfl rfl ?_
              refine ym_iload_n (pc := 105) 3 dX7_take_105 rfl rfl ?_
              refine ym_aload_n (pc := 106) 1 dX7_take_106 rfl rfl ?_
              obtain ⟨v107, e107, hf⟩ := Option.bind_eq_some_iff.mp hf
              refine ym_getN (pc := 107) dX7_take_107 rfl (by decide) iX4 (k := 2) (by decide) wd_346 (ym_gR_v e107) ?_
              refine ym_iconst (pc := 110) (v := 3) dX7_take_110 (by decide) ?_
              obtain ⟨o111, f111, hf⟩ := Option.bind_eq_some_iff.mp hf
              obtain ⟨q111, e111, hf⟩ := Option.bind_eq_some_iff.mp hf
              refine ym_callV (pc := 111) (G2 := g_X2_get) (dep2 := 1) (As := [.int 3]) (st := [.int a2, va_rf q6.1]) (stk2 := [.long q111.1, .int a2, va_rf q6.1]) (r2 := (some (.long q111.1))) (h1 := q111.2) dX7_take_111 (ok_X2_get e111) (sc_X7_take_X2_get) wd_253 wd_254 wd_255 (ci := 2) (q0 := (RX2, TX2, 2)) rfl (by decide) rfl f111 rfl rfl (ym_st4 (Nat.le_of_ble_eq_true rfl)) rfl ?_
              obtain ⟨o114, f114, hf⟩ := Option.bind_eq_some_iff.mp hf
              obtain ⟨q114, e114, hf⟩ := Option.bind_eq_some_iff.mp hf
              refine ym_callV (pc := 114) (G2 := g_X4_enter) (dep2 := 6) (As := [.int a2, .long q111.1]) (st := []) (stk2 := []) (r2 := none) (h1 := q114.2) dX7_take_114 (ok_X4_enter e114) (sc_X7_take_X4_enter) wd_521 wd_522 wd_523 (ci := 4) (q0 := (RX4, TX4, 6)) rfl (by decide) rfl f114 rfl rfl (ym_st4 (Nat.le_of_ble_eq_true rfl)) rfl ?_
              refine ym_aload_n (pc := 117) 1 dX7_take_117 rfl rfl ?_
              obtain ⟨v118, e118, hf⟩ := Option.bind_eq_some_iff.mp hf
              refine ym_getN (pc := 118) dX7_take_118 rfl (by decide) iX4 (k := 2) (by decide) wd_346 (ym_gR_v e118) ?_
              refine ym_iconst (pc := 121) (v := 3) dX7_take_121 (by decide) ?_
              obtain ⟨o122, f122, hf⟩ := Option.bind_eq_some_iff.mp hf
              obtain ⟨q122, e122, hf⟩ := Option.bind_eq_some_iff.mp hf
              refine ym_callV (pc := 122) (G2 := g_X2_get) (dep2 := 1) (As := [.int 3]) (st := []) (stk2 := [.long q122.1]) (r2 := (some (.long q122.1))) (h1 := q122.2) dX7_take_122 (ok_X2_get e122) (sc_X7_take_X2_get) wd_253 wd_254 wd_255 (ci := 2) (q0 := (RX2, TX2, 2)) rfl (by decide) rfl f122 rfl rfl (ym_st4 (Nat.le_of_ble_eq_true rfl)) rfl ?_
              cases hf
              exact ym_lret (pc := 125) dX7_take_125 rfl
            · rw [if_neg c94] at hf
              refine ym_icmp_eq_n (pc := 94) (tgt := 104) dX7_take_94 (by decide) c94 ?_
              refine ym_aload_n (pc := 97) 2 dX7_take_97 rfl rfl ?_
              refine ym_bipush (pc := 98) (v := 8) dX7_take_98 (by decide) ?_
              obtain ⟨o100, f100, hf⟩ := Option.bind_eq_some_iff.mp hf
              obtain ⟨q100, e100, hf⟩ := Option.bind_eq_some_iff.mp hf
              refine ym_callV (pc := 100) (G2 := g_X7_refuse) (dep2 := 4) (As := [.int 8]) (st := []) (stk2 := [.long q100.1]) (r2 := (some (.long q100.1))) (h1 := q100.2) dX7_take_100 (ok_X7_refuse e100) (sc_X7_take_X7_refuse) wd_229 wd_231 wd_1 (ci := 7) (q0 := (RX7, TX7, 10)) rfl (by decide) rfl f100 rfl rfl (ym_st4 (Nat.le_of_ble_eq_true rfl)) rfl ?_
              cases hf
              exact ym_lret (pc := 103) dX7_take_103 rfl
        · rw [if_neg c64] at hf
          refine ym_icmp_eq_n (pc := 64) (tgt := 73) dX7_take_64 (by decide) c64 ?_
          refine ym_aload_n (pc := 67) 2 dX7_take_67 rfl rfl ?_
          refine ym_iconst (pc := 68) (v := 4) dX7_take_68 (by decide) ?_
          obtain ⟨o69, f69, hf⟩ := Option.bind_eq_some_iff.mp hf
          obtain ⟨q69, e69, hf⟩ := Option.bind_eq_some_iff.mp hf
          refine ym_callV (pc := 69) (G2 := g_X7_refuse) (dep2 := 4) (As := [.int 4]) (st := []) (stk2 := [.long q69.1]) (r2 := (some (.long q69.1))) (h1 := q69.2) dX7_take_69 (ok_X7_refuse e69) (sc_X7_take_X7_refuse) wd_229 wd_231 wd_1 (ci := 7) (q0 := (RX7, TX7, 10)) rfl (by decide) rfl f69 rfl rfl (ym_st4 (Nat.le_of_ble_eq_true rfl)) rfl ?_
          cases hf
          exact ym_lret (pc := 72) dX7_take_72 rfl
    · rw [if_neg c28] at hf
      refine ym_icmp_eq_n (pc := 28) (tgt := 37) dX7_take_28 (by decide) c28 ?_
      refine ym_aload_n (pc := 31) 1 dX7_take_31 rfl rfl ?_
      refine ym_iconst (pc := 32) (v := 4) dX7_take_32 (by decide) ?_
      obtain ⟨o33, f33, hf⟩ := Option.bind_eq_some_iff.mp hf
      obtain ⟨q33, e33, hf⟩ := Option.bind_eq_some_iff.mp hf
      refine ym_callV (pc := 33) (G2 := g_X7_refuse) (dep2 := 4) (As := [.int 4]) (st := []) (stk2 := [.long q33.1]) (r2 := (some (.long q33.1))) (h1 := q33.2) dX7_take_33 (ok_X7_refuse e33) (sc_X7_take_X7_refuse) wd_229 wd_231 wd_1 (ci := 7) (q0 := (RX7, TX7, 10)) rfl (by decide) rfl f33 rfl rfl (ym_st4 (Nat.le_of_ble_eq_true rfl)) rfl ?_
      cases hf
      exact ym_lret (pc := 36) dX7_take_36 rfl
theorem dX7_tax_0 : decode cX7_tax 0 = .ok (.aload_n 0, 1) := by decide +kernel
theorem dX7_tax_1 : decode cX7_tax 1 = .ok (.invokevirtual 58, 3) := by decide +kernel
theorem dX7_tax_4 : decode cX7_tax 4 = .ok (.iload_n 1, 1) := by decide +kernel
theorem dX7_tax_5 : decode cX7_tax 5 = .ok (.iconst 1, 1) := by decide +kernel
theorem dX7_tax_6 : decode cX7_tax 6 = .ok (.if_icmp .lt 15, 3) := by decide +kernel
theorem dX7_tax_9 : decode cX7_tax 9 = .ok (.iload_n 1, 1) := by decide +kernel
theorem dX7_tax_10 : decode cX7_tax 10 = .ok (.iconst 5, 1) := by decide +kernel
theorem dX7_tax_11 : decode cX7_tax 11 = .ok (.if_icmp .gt 10, 3) := by decide +kernel
theorem dX7_tax_14 : decode cX7_tax 14 = .ok (.iload_n 2, 1) := by decide +kernel
theorem dX7_tax_15 : decode cX7_tax 15 = .ok (.invokestatic 125, 3) := by decide +kernel
theorem dX7_tax_18 : decode cX7_tax 18 = .ok (.ifCond .ne 9, 3) := by decide +kernel
theorem dX7_tax_21 : decode cX7_tax 21 = .ok (.aload_n 0, 1) := by decide +kernel
theorem dX7_tax_22 : decode cX7_tax 22 = .ok (.iconst 1, 1) := by decide +kernel
theorem dX7_tax_23 : decode cX7_tax 23 = .ok (.invokevirtual 61, 3) := by decide +kernel
theorem dX7_tax_26 : decode cX7_tax 26 = .ok (.lreturn, 1) := by decide +kernel
theorem dX7_tax_27 : decode cX7_tax 27 = .ok (.aload_n 0, 1) := by decide +kernel
theorem dX7_tax_28 : decode cX7_tax 28 = .ok (.getfield 21, 3) := by decide +kernel
theorem dX7_tax_31 : decode cX7_tax 31 = .ok (.iconst 5, 1) := by decide +kernel
theorem dX7_tax_32 : decode cX7_tax 32 = .ok (.iload_n 1, 1) := by decide +kernel
theorem dX7_tax_33 : decode cX7_tax 33 = .ok (.iadd, 1) := by decide +kernel
theorem dX7_tax_34 : decode cX7_tax 34 = .ok (.invokevirtual 130, 3) := by decide +kernel
theorem dX7_tax_37 : decode cX7_tax 37 = .ok (.lstore_n 3, 1) := by decide +kernel
theorem dX7_tax_38 : decode cX7_tax 38 = .ok (.aload_n 0, 1) := by decide +kernel
theorem dX7_tax_39 : decode cX7_tax 39 = .ok (.getfield 21, 3) := by decide +kernel
theorem dX7_tax_42 : decode cX7_tax 42 = .ok (.iconst 5, 1) := by decide +kernel
theorem dX7_tax_43 : decode cX7_tax 43 = .ok (.iload_n 1, 1) := by decide +kernel
theorem dX7_tax_44 : decode cX7_tax 44 = .ok (.iadd, 1) := by decide +kernel
theorem dX7_tax_45 : decode cX7_tax 45 = .ok (.iload_n 2, 1) := by decide +kernel
theorem dX7_tax_46 : decode cX7_tax 46 = .ok (.i2l, 1) := by decide +kernel
theorem dX7_tax_47 : decode cX7_tax 47 = .ok (.invokevirtual 76, 3) := by decide +kernel
theorem dX7_tax_50 : decode cX7_tax 50 = .ok (.lload_n 3, 1) := by decide +kernel
theorem dX7_tax_51 : decode cX7_tax 51 = .ok (.lreturn, 1) := by decide +kernel
theorem sc_X7_tax_X7_startAct : ym_site g_X7_tax g_X7_startAct 5 2 0 := ⟨by decide, by decide, wd_224, wd_76, by decide +kernel⟩
theorem sc_X7_tax_X7_refuse : ym_site g_X7_tax g_X7_refuse 5 4 1 := ⟨by decide, by decide, wd_232, wd_76, by decide +kernel⟩
def bl_X7_tax_21 (N : Nat) (w0 : Option Nat) (h : ym_H) : Option (Int64 × ym_H) :=
  Option.bind (ym_ob h w0 7) fun o23 =>
  Option.bind (fn_X7_refuse N w0 1 h) fun q23 =>
  some (q23.1, q23.2)
set_option maxRecDepth 20000 in
set_option maxHeartbeats 4000000 in
theorem ob_X7_tax_21 {D : ym_D} {b0 : Nat} {N : Nat} {w0 : Option Nat} {h h' : ym_H} {r : Int64} (hf : bl_X7_tax_21 N w0 h = some (r, h')) : ym_Y D b0 g_X7_tax 5 21 [(0, va_rf w0)] [] h (some (.long r)) h' := by
  unfold bl_X7_tax_21 at hf
  refine ym_aload_n (pc := 21) 0 dX7_tax_21 rfl rfl ?_
  refine ym_iconst (pc := 22) (v := 1) dX7_tax_22 (by decide) ?_
  obtain ⟨o23, f23, hf⟩ := Option.bind_eq_some_iff.mp hf
  obtain ⟨q23, e23, hf⟩ := Option.bind_eq_some_iff.mp hf
  refine ym_callV (pc := 23) (G2 := g_X7_refuse) (dep2 := 4) (As := [.int 1]) (st := []) (stk2 := [.long q23.1]) (r2 := (some (.long q23.1))) (h1 := q23.2) dX7_tax_23 (ok_X7_refuse e23) (sc_X7_tax_X7_refuse) wd_229 wd_231 wd_1 (ci := 7) (q0 := (RX7, TX7, 10)) rfl (by decide) rfl f23 rfl rfl (ym_st4 (Nat.le_of_ble_eq_true rfl)) rfl ?_
  cases hf
  exact ym_lret (pc := 26) dX7_tax_26 rfl
theorem sc_X7_tax_X7_isRate : ym_site g_X7_tax g_X7_isRate 5 1 1 := ⟨by decide, by decide, wd_419, wd_76, by decide +kernel⟩
theorem sc_X7_tax_X2_get : ym_site g_X7_tax g_X2_get 5 1 1 := ⟨by decide, by decide, wd_256, wd_78, by decide +kernel⟩
theorem sc_X7_tax_X2_put : ym_site g_X7_tax g_X2_put 5 4 2 := ⟨by decide, by decide, wd_284, wd_78, by decide +kernel⟩
def fn_X7_tax (N : Nat) (a0 : Option Nat) (a1 : Int32) (a2 : Int32) (h : ym_H) : Option (Int64 × ym_H) :=
  Option.bind (ym_ob h a0 7) fun o1 =>
  Option.bind (fn_X7_startAct N a0 h) fun q1 =>
  if a1 < 1 then
    bl_X7_tax_21 N a0 q1.2
  else
    if 5 < a1 then
      bl_X7_tax_21 N a0 q1.2
    else
      Option.bind (fn_X7_isRate N a2 q1.2) fun q15 =>
      if q15.1 = 0 then
        bl_X7_tax_21 N a0 q15.2
      else
        Option.bind (ym_gR q15.2 a0 7 1) fun v28 =>
        Option.bind (ym_ob q15.2 v28 2) fun o34 =>
        Option.bind (fn_X2_get N v28 (5 + a1) q15.2) fun q34 =>
        Option.bind (ym_gR q34.2 a0 7 1) fun v39 =>
        Option.bind (ym_ob q34.2 v39 2) fun o47 =>
        Option.bind (fn_X2_put N v39 (5 + a1) (Int32.toInt64 a2) q34.2) fun q47 =>
        some (q34.1, q47.2)
set_option maxRecDepth 20000 in
set_option maxHeartbeats 4000000 in
theorem ok_X7_tax {D : ym_D} {b0 : Nat} {N : Nat} {a0 : Option Nat} {a1 : Int32} {a2 : Int32} {h h' : ym_H} {r : Int64} (hf : fn_X7_tax N a0 a1 a2 h = some (r, h')) : ym_M D b0 g_X7_tax 5 [va_rf a0, .int a1, .int a2] h (some (.long r)) h' := by
  unfold fn_X7_tax at hf
  refine ym_meth (lv := [(0, va_rf a0), (1, .int a1), (2, .int a2)]) (by decide) (by simp [lg_sl, ym_c1, ym_cI, ym_cL, g_X7_tax]) (by simp [lv_args, ym_c1, ym_cI, ym_cL]) ?_
  refine ym_aload_n (pc := 0) 0 dX7_tax_0 rfl rfl ?_
  obtain ⟨o1, f1, hf⟩ := Option.bind_eq_some_iff.mp hf
  obtain ⟨q1, e1, hf⟩ := Option.bind_eq_some_iff.mp hf
  refine ym_callV (pc := 1) (G2 := g_X7_startAct) (dep2 := 2) (As := []) (st := []) (stk2 := []) (r2 := none) (h1 := q1.2) dX7_tax_1 (ok_X7_startAct e1) (sc_X7_tax_X7_startAct) wd_221 wd_223 wd_0 (ci := 7) (q0 := (RX7, TX7, 10)) rfl (by decide) rfl f1 rfl rfl (ym_st4 (Nat.le_of_ble_eq_true rfl)) rfl ?_
  refine ym_iload_n (pc := 4) 1 dX7_tax_4 rfl rfl ?_
  refine ym_iconst (pc := 5) (v := 1) dX7_tax_5 (by decide) ?_
  by_cases c6 : a1 < 1
  · rw [if_pos c6] at hf
    refine ym_icmp_lt_y (pc := 6) (tgt := 21) dX7_tax_6 (by decide) c6 ?_
    exact ym_sub [0] rfl (ob_X7_tax_21 hf)
  · rw [if_neg c6] at hf
    refine ym_icmp_lt_n (pc := 6) (tgt := 21) dX7_tax_6 (by decide) c6 ?_
    refine ym_iload_n (pc := 9) 1 dX7_tax_9 rfl rfl ?_
    refine ym_iconst (pc := 10) (v := 5) dX7_tax_10 (by decide) ?_
    by_cases c11 : 5 < a1
    · rw [if_pos c11] at hf
      refine ym_icmp_gt_y (pc := 11) (tgt := 21) dX7_tax_11 (by decide) c11 ?_
      exact ym_sub [0] rfl (ob_X7_tax_21 hf)
    · rw [if_neg c11] at hf
      refine ym_icmp_gt_n (pc := 11) (tgt := 21) dX7_tax_11 (by decide) c11 ?_
      refine ym_iload_n (pc := 14) 2 dX7_tax_14 rfl rfl ?_
      obtain ⟨q15, e15, hf⟩ := Option.bind_eq_some_iff.mp hf
      refine ym_callS (pc := 15) (G2 := g_X7_isRate) (dep2 := 1) (As := [.int a2]) (st := []) (stk2 := [.int q15.1]) (r2 := (some (.int q15.1))) (h1 := q15.2) dX7_tax_15 (ok_X7_isRate e15) (sc_X7_tax_X7_isRate) wd_417 wd_418 rfl rfl (ym_st4 (Nat.le_of_ble_eq_true rfl)) rfl ?_
      by_cases c18 : q15.1 = 0
      · rw [if_pos c18] at hf
        refine ym_if_ne_y (pc := 18) (tgt := 27) dX7_tax_18 (by decide) c18 ?_
        exact ym_sub [0] rfl (ob_X7_tax_21 hf)
      · rw [if_neg c18] at hf
        refine ym_if_ne_n (pc := 18) (tgt := 27) dX7_tax_18 (by decide) c18 ?_
        refine ym_aload_n (pc := 27) 0 dX7_tax_27 rfl rfl ?_
        obtain ⟨v28, e28, hf⟩ := Option.bind_eq_some_iff.mp hf
        refine ym_get (pc := 28) dX7_tax_28 rfl (by decide) iX7 (k := 1) (by decide) wd_187 (ym_gR_v e28) ?_
        refine ym_iconst (pc := 31) (v := 5) dX7_tax_31 (by decide) ?_
        refine ym_iload_n (pc := 32) 1 dX7_tax_32 rfl rfl ?_
        refine ym_iadd (pc := 33) dX7_tax_33 ?_
        obtain ⟨o34, f34, hf⟩ := Option.bind_eq_some_iff.mp hf
        obtain ⟨q34, e34, hf⟩ := Option.bind_eq_some_iff.mp hf
        refine ym_callV (pc := 34) (G2 := g_X2_get) (dep2 := 1) (As := [.int (5 + a1)]) (st := []) (stk2 := [.long q34.1]) (r2 := (some (.long q34.1))) (h1 := q34.2) dX7_tax_34 (ok_X2_get e34) (sc_X7_tax_X2_get) wd_253 wd_254 wd_255 (ci := 2) (q0 := (RX2, TX2, 2)) rfl (by decide) rfl f34 rfl rfl (ym_st4 (Nat.le_of_ble_eq_true rfl)) rfl ?_
        refine ym_lstore_n (pc := 37) (lv' := [(3, .long q34.1), (0, va_rf a0), (1, .int a1), (2, .int a2)]) dX7_tax_37 rfl (by decide) ⟨trivial, trivial, rfl, trivial⟩ rfl ?_
        refine ym_aload_n (pc := 38) 1 dX7_tax_38 rfl rfl ?_
        obtain ⟨v39, e39, hf⟩ := Option.bind_eq_some_iff.mp hf
        refine ym_get (pc := 39) dX7_tax_39 rfl (by decide) iX7 (k := 1) (by decide) wd_187 (ym_gR_v e39) ?_
        refine ym_iconst (pc := 42) (v := 5) dX7_tax_42 (by decide) ?_
        refine ym_iload_n (pc := 43) 2 dX7_tax_43 rfl rfl ?_
        refine ym_iadd (pc := 44) dX7_tax_44 ?_
        refine ym_iload_n (pc := 45) 3 dX7_tax_45 rfl rfl ?_
        refine ym_i2l (pc := 46) dX7_tax_46 ?_
        obtain ⟨o47, f47, hf⟩ := Option.bind_eq_some_iff.mp hf
        obtain ⟨q47, e47, hf⟩ := Option.bind_eq_some_iff.mp hf
        refine ym_callV (pc := 47) (G2 := g_X2_put) (dep2 := 4) (As := [.int (5 + a1), .long (Int32.toInt64 a2)]) (st := []) (stk2 := []) (r2 := none) (h1 := q47.2) dX7_tax_47 (ok_X2_put e47) (sc_X7_tax_X2_put) wd_281 wd_282 wd_283 (ci := 2) (q0 := (RX2, TX2, 2)) rfl (by decide) rfl f47 rfl rfl (ym_st4 (Nat.le_of_ble_eq_true rfl)) rfl ?_
        refine ym_lload_n (pc := 50) 0 dX7_tax_50 rfl rfl ?_
        cases hf
        exact ym_lret (pc := 51) dX7_tax_51 rfl
