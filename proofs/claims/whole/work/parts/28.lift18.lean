theorem dX8_done_0 : decode cX8_done 0 = .ok (.iload_n 1, 1) := by decide +kernel
theorem dX8_done_1 : decode cX8_done 1 = .ok (.tableswitch 168 1 13 #[67, 75, 85, 92, 99, 108, 116, 123, 129, 138, 147, 153, 161], 67) := by decide +kernel
theorem dX8_done_68 : decode cX8_done 68 = .ok (.aload_n 0, 1) := by decide +kernel
theorem dX8_done_69 : decode cX8_done 69 = .ok (.iload_n 2, 1) := by decide +kernel
theorem dX8_done_70 : decode cX8_done 70 = .ok (.lload 5, 2) := by decide +kernel
theorem dX8_done_72 : decode cX8_done 72 = .ok (.invokevirtual 207, 3) := by decide +kernel
theorem dX8_done_75 : decode cX8_done 75 = .ok (.lreturn, 1) := by decide +kernel
theorem dX8_done_76 : decode cX8_done 76 = .ok (.aload_n 0, 1) := by decide +kernel
theorem dX8_done_77 : decode cX8_done 77 = .ok (.iload_n 2, 1) := by decide +kernel
theorem dX8_done_78 : decode cX8_done 78 = .ok (.lload 5, 2) := by decide +kernel
theorem dX8_done_80 : decode cX8_done 80 = .ok (.lload 7, 2) := by decide +kernel
theorem dX8_done_82 : decode cX8_done 82 = .ok (.invokevirtual 211, 3) := by decide +kernel
theorem dX8_done_85 : decode cX8_done 85 = .ok (.lreturn, 1) := by decide +kernel
theorem dX8_done_86 : decode cX8_done 86 = .ok (.aload_n 0, 1) := by decide +kernel
theorem dX8_done_87 : decode cX8_done 87 = .ok (.iload_n 2, 1) := by decide +kernel
theorem dX8_done_88 : decode cX8_done 88 = .ok (.iload_n 3, 1) := by decide +kernel
theorem dX8_done_89 : decode cX8_done 89 = .ok (.invokevirtual 215, 3) := by decide +kernel
theorem dX8_done_92 : decode cX8_done 92 = .ok (.lreturn, 1) := by decide +kernel
theorem dX8_done_93 : decode cX8_done 93 = .ok (.aload_n 0, 1) := by decide +kernel
theorem dX8_done_94 : decode cX8_done 94 = .ok (.iload_n 2, 1) := by decide +kernel
theorem dX8_done_95 : decode cX8_done 95 = .ok (.iload_n 3, 1) := by decide +kernel
theorem dX8_done_96 : decode cX8_done 96 = .ok (.invokevirtual 219, 3) := by decide +kernel
theorem dX8_done_99 : decode cX8_done 99 = .ok (.lreturn, 1) := by decide +kernel
theorem dX8_done_100 : decode cX8_done 100 = .ok (.aload_n 0, 1) := by decide +kernel
theorem dX8_done_101 : decode cX8_done 101 = .ok (.lload 5, 2) := by decide +kernel
theorem dX8_done_103 : decode cX8_done 103 = .ok (.lload 7, 2) := by decide +kernel
theorem dX8_done_105 : decode cX8_done 105 = .ok (.invokevirtual 222, 3) := by decide +kernel
theorem dX8_done_108 : decode cX8_done 108 = .ok (.lreturn, 1) := by decide +kernel
theorem dX8_done_109 : decode cX8_done 109 = .ok (.aload_n 0, 1) := by decide +kernel
theorem dX8_done_110 : decode cX8_done 110 = .ok (.lload 5, 2) := by decide +kernel
theorem dX8_done_112 : decode cX8_done 112 = .ok (.iload_n 2, 1) := by decide +kernel
theorem dX8_done_113 : decode cX8_done 113 = .ok (.invokevirtual 226, 3) := by decide +kernel
theorem dX8_done_116 : decode cX8_done 116 = .ok (.lreturn, 1) := by decide +kernel
theorem dX8_done_117 : decode cX8_done 117 = .ok (.aload_n 0, 1) := by decide +kernel
theorem dX8_done_118 : decode cX8_done 118 = .ok (.iload_n 2, 1) := by decide +kernel
theorem dX8_done_119 : decode cX8_done 119 = .ok (.iload_n 3, 1) := by decide +kernel
theorem dX8_done_120 : decode cX8_done 120 = .ok (.invokevirtual 230, 3) := by decide +kernel
theorem dX8_done_123 : decode cX8_done 123 = .ok (.lreturn, 1) := by decide +kernel
theorem dX8_done_124 : decode cX8_done 124 = .ok (.aload_n 0, 1) := by decide +kernel
theorem dX8_done_125 : decode cX8_done 125 = .ok (.iload_n 2, 1) := by decide +kernel
theorem dX8_done_126 : decode cX8_done 126 = .ok (.invokevirtual 233, 3) := by decide +kernel
theorem dX8_done_129 : decode cX8_done 129 = .ok (.lreturn, 1) := by decide +kernel
theorem dX8_done_130 : decode cX8_done 130 = .ok (.aload_n 0, 1) := by decide +kernel
theorem dX8_done_131 : decode cX8_done 131 = .ok (.iload_n 2, 1) := by decide +kernel
theorem dX8_done_132 : decode cX8_done 132 = .ok (.iload_n 3, 1) := by decide +kernel
theorem dX8_done_133 : decode cX8_done 133 = .ok (.lload 5, 2) := by decide +kernel
theorem dX8_done_135 : decode cX8_done 135 = .ok (.invokevirtual 237, 3) := by decide +kernel
theorem dX8_done_138 : decode cX8_done 138 = .ok (.lreturn, 1) := by decide +kernel
theorem dX8_done_139 : decode cX8_done 139 = .ok (.aload_n 0, 1) := by decide +kernel
theorem dX8_done_140 : decode cX8_done 140 = .ok (.iload_n 2, 1) := by decide +kernel
theorem dX8_done_141 : decode cX8_done 141 = .ok (.iload_n 3, 1) := by decide +kernel
theorem dX8_done_142 : decode cX8_done 142 = .ok (.lload 5, 2) := by decide +kernel
theorem dX8_done_144 : decode cX8_done 144 = .ok (.invokevirtual 241, 3) := by decide +kernel
theorem dX8_done_147 : decode cX8_done 147 = .ok (.lreturn, 1) := by decide +kernel
theorem dX8_done_148 : decode cX8_done 148 = .ok (.aload_n 0, 1) := by decide +kernel
theorem dX8_done_149 : decode cX8_done 149 = .ok (.iload_n 2, 1) := by decide +kernel
theorem dX8_done_150 : decode cX8_done 150 = .ok (.invokevirtual 244, 3) := by decide +kernel
theorem dX8_done_153 : decode cX8_done 153 = .ok (.lreturn, 1) := by decide +kernel
theorem dX8_done_154 : decode cX8_done 154 = .ok (.aload_n 0, 1) := by decide +kernel
theorem dX8_done_155 : decode cX8_done 155 = .ok (.iload_n 2, 1) := by decide +kernel
theorem dX8_done_156 : decode cX8_done 156 = .ok (.lload 5, 2) := by decide +kernel
theorem dX8_done_158 : decode cX8_done 158 = .ok (.invokevirtual 247, 3) := by decide +kernel
theorem dX8_done_161 : decode cX8_done 161 = .ok (.lreturn, 1) := by decide +kernel
theorem dX8_done_162 : decode cX8_done 162 = .ok (.aload_n 0, 1) := by decide +kernel
theorem dX8_done_163 : decode cX8_done 163 = .ok (.iload_n 2, 1) := by decide +kernel
theorem dX8_done_164 : decode cX8_done 164 = .ok (.iload_n 3, 1) := by decide +kernel
theorem dX8_done_165 : decode cX8_done 165 = .ok (.invokevirtual 250, 3) := by decide +kernel
theorem dX8_done_168 : decode cX8_done 168 = .ok (.lreturn, 1) := by decide +kernel
theorem dX8_done_169 : decode cX8_done 169 = .ok (.aload_n 0, 1) := by decide +kernel
theorem dX8_done_170 : decode cX8_done 170 = .ok (.iload_n 1, 1) := by decide +kernel
theorem dX8_done_171 : decode cX8_done 171 = .ok (.iload_n 2, 1) := by decide +kernel
theorem dX8_done_172 : decode cX8_done 172 = .ok (.iload_n 3, 1) := by decide +kernel
theorem dX8_done_173 : decode cX8_done 173 = .ok (.iload 4, 2) := by decide +kernel
theorem dX8_done_175 : decode cX8_done 175 = .ok (.lload 5, 2) := by decide +kernel
theorem dX8_done_177 : decode cX8_done 177 = .ok (.invokevirtual 253, 3) := by decide +kernel
theorem dX8_done_180 : decode cX8_done 180 = .ok (.lreturn, 1) := by decide +kernel
theorem sc_X8_done_X8_newBidder {dk : Nat} (hdk : 10 ≤ dk) : ym_site g_X8_done g_X8_newBidder (dk + 3) 1 2 := ⟨by omega, by decide, wd_1036, wd_83, by decide +kernel⟩
theorem sc_X8_done_X8_newLot {dk : Nat} (hdk : 10 ≤ dk) : ym_site g_X8_done g_X8_newLot (dk + 3) 2 3 := ⟨by omega, by decide, wd_1043, wd_83, by decide +kernel⟩
theorem sc_X8_done_X8_newSeller {dk : Nat} (hdk : 10 ≤ dk) : ym_site g_X8_done g_X8_newSeller (dk + 3) 2 2 := ⟨by omega, by decide, wd_1054, wd_83, by decide +kernel⟩
theorem sc_X8_done_X8_newCut {dk : Nat} (hdk : 10 ≤ dk) : ym_site g_X8_done g_X8_newCut (dk + 3) 2 2 := ⟨by omega, by decide, wd_1068, wd_83, by decide +kernel⟩
theorem sc_X8_done_X8_newStep {dk : Nat} (hdk : 10 ≤ dk) : ym_site g_X8_done g_X8_newStep (dk + 3) 2 2 := ⟨by omega, by decide, wd_1075, wd_83, by decide +kernel⟩
theorem sc_X8_done_X8_newBracket {dk : Nat} (hdk : 10 ≤ dk) : ym_site g_X8_done g_X8_newBracket (dk + 3) 2 2 := ⟨by omega, by decide, wd_1080, wd_83, by decide +kernel⟩
theorem sc_X8_done_X8_newTax {dk : Nat} (hdk : 10 ≤ dk) : ym_site g_X8_done g_X8_newTax (dk + 3) 2 2 := ⟨by omega, by decide, wd_1084, wd_83, by decide +kernel⟩
theorem sc_X8_done_X8_called {dk : Nat} (hdk : 10 ≤ dk) : ym_site g_X8_done g_X8_called (dk + 3) 4 1 := ⟨by omega, by decide, wd_1088, wd_83, by decide +kernel⟩
theorem sc_X8_done_X8_bidden {dk : Nat} (hdk : 10 ≤ dk) : ym_site g_X8_done g_X8_bidden (dk + 3) 5 3 := ⟨by omega, by decide, wd_1125, wd_83, by decide +kernel⟩
theorem sc_X8_done_X8_written {dk : Nat} (hdk : 10 ≤ dk) : ym_site g_X8_done g_X8_written (dk + 3) 5 3 := ⟨by omega, by decide, wd_1170, wd_83, by decide +kernel⟩
theorem sc_X8_done_X8_opened {dk : Nat} (hdk : 10 ≤ dk) : ym_site g_X8_done g_X8_opened (dk + 3) 3 1 := ⟨by omega, by decide, wd_1174, wd_83, by decide +kernel⟩
theorem sc_X8_done_X8_ticked {dk : Nat} (hdk : 10 ≤ dk) : ym_site g_X8_done g_X8_ticked (dk + 3) 3 2 := ⟨by omega, by decide, wd_1183, wd_83, by decide +kernel⟩
theorem sc_X8_done_X8_took {dk : Nat} (hdk : 10 ≤ dk) : ym_site g_X8_done g_X8_took (dk + 3) 3 2 := ⟨by omega, by decide, wd_1187, wd_83, by decide +kernel⟩
theorem sc_X8_done_X8_doneElse {dk : Nat} (hdk : 10 ≤ dk) : ym_site g_X8_done g_X8_doneElse (dk + 3) (dk + 2) 5 := ⟨by omega, by decide, wd_1191, wd_83, by decide +kernel⟩
theorem sw_X8_done_1 {x : Int32} (c1 : ¬ x = 1) (c2 : ¬ x = 2) (c3 : ¬ x = 3) (c4 : ¬ x = 4) (c5 : ¬ x = 5) (c6 : ¬ x = 6) (c7 : ¬ x = 7) (c8 : ¬ x = 8) (c9 : ¬ x = 9) (c10 : ¬ x = 10) (c11 : ¬ x = 11) (c12 : ¬ x = 12) (c13 : ¬ x = 13) : x.toInt < (1) ∨ (13) < x.toInt := by
  have d1 : ¬ x.toInt = (1) := fun q => c1 (Int32.toInt_inj.mp (by rw [q]; rfl))
  have d2 : ¬ x.toInt = (2) := fun q => c2 (Int32.toInt_inj.mp (by rw [q]; rfl))
  have d3 : ¬ x.toInt = (3) := fun q => c3 (Int32.toInt_inj.mp (by rw [q]; rfl))
  have d4 : ¬ x.toInt = (4) := fun q => c4 (Int32.toInt_inj.mp (by rw [q]; rfl))
  have d5 : ¬ x.toInt = (5) := fun q => c5 (Int32.toInt_inj.mp (by rw [q]; rfl))
  have d6 : ¬ x.toInt = (6) := fun q => c6 (Int32.toInt_inj.mp (by rw [q]; rfl))
  have d7 : ¬ x.toInt = (7) := fun q => c7 (Int32.toInt_inj.mp (by rw [q]; rfl))
  have d8 : ¬ x.toInt = (8) := fun q => c8 (Int32.toInt_inj.mp (by rw [q]; rfl))
  have d9 : ¬ x.toInt = (9) := fun q => c9 (Int32.toInt_inj.mp (by rw [q]; rfl))
  have d10 : ¬ x.toInt = (10) := fun q => c10 (Int32.toInt_inj.mp (by rw [q]; rfl))
  have d11 : ¬ x.toInt = (11) := fun q => c11 (Int32.toInt_inj.mp (by rw [q]; rfl))
  have d12 : ¬ x.toInt = (12) := fun q => c12 (Int32.toInt_inj.mp (by rw [q]; rfl))
  have d13 : ¬ x.toInt = (13) := fun q => c13 (Int32.toInt_inj.mp (by rw [q]; rfl))
  omega
def fn_X8_done (Kb : Option Nat → Int32 → ym_H → Option (Unit × ym_H)) (N : Nat) (a0 : Option Nat) (a1 : Int32) (a2 : Int32) (a3 : Int32) (a4 : Int32) (a5 : Int64) (a7 : Int64) (h : ym_H) : Option (Int64 × ym_H) :=
  if a1 = 1 then
    Option.bind (ym_ob h a0 8) fun o72 =>
    Option.bind (fn_X8_newBidder N a0 a2 a5 h) fun q72 =>
    some (q72.1, q72.2)
  else
  if a1 = 2 then
    Option.bind (ym_ob h a0 8) fun o82 =>
    Option.bind (fn_X8_newLot N a0 a2 a5 a7 h) fun q82 =>
    some (q82.1, q82.2)
  else
  if a1 = 3 then
    Option.bind (ym_ob h a0 8) fun o89 =>
    Option.bind (fn_X8_newSeller N a0 a2 a3 h) fun q89 =>
    some (q89.1, q89.2)
  else
  if a1 = 4 then
    Option.bind (ym_ob h a0 8) fun o96 =>
    Option.bind (fn_X8_newCut N a0 a2 a3 h) fun q96 =>
    some (q96.1, q96.2)
  else
  if a1 = 5 then
    Option.bind (ym_ob h a0 8) fun o105 =>
    Option.bind (fn_X8_newStep N a0 a5 a7 h) fun q105 =>
    some (q105.1, q105.2)
  else
  if a1 = 6 then
    Option.bind (ym_ob h a0 8) fun o113 =>
    Option.bind (fn_X8_newBracket N a0 a5 a2 h) fun q113 =>
    some (q113.1, q113.2)
  else
  if a1 = 7 then
    Option.bind (ym_ob h a0 8) fun o120 =>
    Option.bind (fn_X8_newTax N a0 a2 a3 h) fun q120 =>
    some (q120.1, q120.2)
  else
  if a1 = 8 then
    Option.bind (ym_ob h a0 8) fun o126 =>
    Option.bind (fn_X8_called N a0 a2 h) fun q126 =>
    some (q126.1, q126.2)
  else
  if a1 = 9 then
    Option.bind (ym_ob h a0 8) fun o135 =>
    Option.bind (fn_X8_bidden N a0 a2 a3 a5 h) fun q135 =>
    some (q135.1, q135.2)
  else
  if a1 = 10 then
    Option.bind (ym_ob h a0 8) fun o144 =>
    Option.bind (fn_X8_written N a0 a2 a3 a5 h) fun q144 =>
    some (q144.1, q144.2)
  else
  if a1 = 11 then
    Option.bind (ym_ob h a0 8) fun o150 =>
    Option.bind (fn_X8_opened N a0 a2 h) fun q150 =>
    some (q150.1, q150.2)
  else
  if a1 = 12 then
    Option.bind (ym_ob h a0 8) fun o158 =>
    Option.bind (fn_X8_ticked N a0 a2 a5 h) fun q158 =>
    some (q158.1, q158.2)
  else
  if a1 = 13 then
    Option.bind (ym_ob h a0 8) fun o165 =>
    Option.bind (fn_X8_took N a0 a2 a3 h) fun q165 =>
    some (q165.1, q165.2)
  else
  Option.bind (ym_ob h a0 8) fun o177 =>
  Option.bind (fn_X8_doneElse Kb N a0 a1 a2 a3 a4 a5 h) fun q177 =>
  some (q177.1, q177.2)
set_option maxRecDepth 20000 in
set_option maxHeartbeats 4000000 in
theorem ok_X8_done {D : ym_D} {b0 : Nat} {dk : Nat} (hdk : 10 ≤ dk) {Kb : Option Nat → Int32 → ym_H → Option (Unit × ym_H)} (hK : ∀ (a0 : Option Nat) (a1 : Int32) (h h1 : ym_H) (r : Unit), Kb a0 a1 h = some (r, h1) → ym_M D b0 g_X8_back dk [va_rf a0, .int a1] h none h1) {N : Nat} {a0 : Option Nat} {a1 : Int32} {a2 : Int32} {a3 : Int32} {a4 : Int32} {a5 : Int64} {a7 : Int64} {h h' : ym_H} {r : Int64} (hf : fn_X8_done Kb N a0 a1 a2 a3 a4 a5 a7 h = some (r, h')) : ym_M D b0 g_X8_done (dk + 3) [va_rf a0, .int a1, .int a2, .int a3, .int a4, .long a5, .long a7] h (some (.long r)) h' := by
  unfold fn_X8_done at hf
  refine ym_meth (lv := [(0, va_rf a0), (1, .int a1), (2, .int a2), (3, .int a3), (4, .int a4), (5, .long a5), (7, .long a7)]) (by decide) (by simp [lg_sl, ym_c1, ym_cI, ym_cL, g_X8_done]) (by simp [lv_args, ym_c1, ym_cI, ym_cL]) ?_
  refine ym_iload_n (pc := 0) 1 dX8_done_0 rfl rfl ?_
  by_cases c1_1 : a1 = 1
  · rw [if_pos c1_1] at hf
    refine ym_swIn (pc := 1) (off := 67) (tgt := 68) dX8_done_1 (by rw [c1_1]; decide) (by rw [c1_1]; decide) (by rw [c1_1]; decide) (by decide) ?_
    refine ym_aload_n (pc := 68) 0 dX8_done_68 rfl rfl ?_
    refine ym_iload_n (pc := 69) 2 dX8_done_69 rfl rfl ?_
    refine ym_lload (pc := 70) 5 dX8_done_70 rfl ?_
    obtain ⟨o72, f72, hf⟩ := Option.bind_eq_some_iff.mp hf
    obtain ⟨q72, e72, hf⟩ := Option.bind_eq_some_iff.mp hf
    refine ym_callV (pc := 72) (G2 := g_X8_newBidder) (dep2 := 1) (As := [.int a2, .long a5]) (st := []) (stk2 := [.long q72.1]) (r2 := (some (.long q72.1))) (h1 := q72.2) dX8_done_72 (ok_X8_newBidder e72) (sc_X8_done_X8_newBidder hdk) wd_1033 wd_1035 wd_23 (ci := 8) (q0 := (RX8, TX8, 58)) rfl (by decide) rfl f72 rfl rfl (ym_st4 (Nat.le_of_ble_eq_true rfl)) rfl ?_
    cases hf
    exact ym_lret (pc := 75) dX8_done_75 rfl
  rw [if_neg c1_1] at hf
  by_cases c1_2 : a1 = 2
  · rw [if_pos c1_2] at hf
    refine ym_swIn (pc := 1) (off := 75) (tgt := 76) dX8_done_1 (by rw [c1_2]; decide) (by rw [c1_2]; decide) (by rw [c1_2]; decide) (by decide) ?_
    refine ym_aload_n (pc := 76) 0 dX8_done_76 rfl rfl ?_
    refine ym_iload_n (pc := 77) 2 dX8_done_77 rfl rfl ?_
    refine ym_lload (pc := 78) 5 dX8_done_78 rfl ?_
    refine ym_lload (pc := 80) 6 dX8_done_80 rfl ?_
    obtain ⟨o82, f82, hf⟩ := Option.bind_eq_some_iff.mp hf
    obtain ⟨q82, e82, hf⟩ := Option.bind_eq_some_iff.mp hf
    refine ym_callV (pc := 82) (G2 := g_X8_newLot) (dep2 := 2) (As := [.int a2, .long a5, .long a7]) (st := []) (stk2 := [.long q82.1]) (r2 := (some (.long q82.1))) (h1 := q82.2) dX8_done_82 (ok_X8_newLot e82) (sc_X8_done_X8_newLot hdk) wd_1040 wd_1042 wd_24 (ci := 8) (q0 := (RX8, TX8, 58)) rfl (by decide) rfl f82 rfl rfl (ym_st4 (Nat.le_of_ble_eq_true rfl)) rfl ?_
    cases hf
    exact ym_lret (pc := 85) dX8_done_85 rfl
  rw [if_neg c1_2] at hf
  by_cases c1_3 : a1 = 3
  · rw [if_pos c1_3] at hf
    refine ym_swIn (pc := 1) (off := 85) (tgt := 86) dX8_done_1 (by rw [c1_3]; decide) (by rw [c1_3]; decide) (by rw [c1_3]; decide) (by decide) ?_
    refine ym_aload_n (pc := 86) 0 dX8_done_86 rfl rfl ?_
    refine ym_iload_n (pc := 87) 2 dX8_done_87 rfl rfl ?_
    refine ym_iload_n (pc := 88) 3 dX8_done_88 rfl rfl ?_
    obtain ⟨o89, f89, hf⟩ := Option.bind_eq_some_iff.mp hf
    obtain ⟨q89, e89, hf⟩ := Option.bind_eq_some_iff.mp hf
    refine ym_callV (pc := 89) (G2 := g_X8_newSeller) (dep2 := 2) (As := [.int a2, .int a3]) (st := []) (stk2 := [.long q89.1]) (r2 := (some (.long q89.1))) (h1 := q89.2) dX8_done_89 (ok_X8_newSeller e89) (sc_X8_done_X8_newSeller hdk) wd_1051 wd_1053 wd_26 (ci := 8) (q0 := (RX8, TX8, 58)) rfl (by decide) rfl f89 rfl rfl (ym_st4 (Nat.le_of_ble_eq_true rfl)) rfl ?_
    cases hf
    exact ym_lret (pc := 92) dX8_done_92 rfl
  rw [if_neg c1_3] at hf
  by_cases c1_4 : a1 = 4
  · rw [if_pos c1_4] at hf
    refine ym_swIn (pc := 1) (off := 92) (tgt := 93) dX8_done_1 (by rw [c1_4]; decide) (by rw [c1_4]; decide) (by rw [c1_4]; decide) (by decide) ?_
    refine ym_aload_n (pc := 93) 0 dX8_done_93 rfl rfl ?_
    refine ym_iload_n (pc := 94) 2 dX8_done_94 rfl rfl ?_
    refine ym_iload_n (pc := 95) 3 dX8_done_95 rfl rfl ?_
    obtain ⟨o96, f96, hf⟩ := Option.bind_eq_some_iff.mp hf
    obtain ⟨q96, e96, hf⟩ := Option.bind_eq_some_iff.mp hf
    refine ym_callV (pc := 96) (G2 := g_X8_newCut) (dep2 := 2) (As := [.int a2, .int a3]) (st := []) (stk2 := [.long q96.1]) (r2 := (some (.long q96.1))) (h1 := q96.2) dX8_done_96 (ok_X8_newCut e96) (sc_X8_done_X8_newCut hdk) wd_1065 wd_1067 wd_29 (ci := 8) (q0 := (RX8, TX8, 58)) rfl (by decide) rfl f96 rfl rfl (ym_st4 (Nat.le_of_ble_eq_true rfl)) rfl ?_
    cases hf
    exact ym_lret (pc := 99) dX8_done_99 rfl
  rw [if_neg c1_4] at hf
  by_cases c1_5 : a1 = 5
  · rw [if_pos c1_5] at hf
    refine ym_swIn (pc := 1) (off := 99) (tgt := 100) dX8_done_1 (by rw [c1_5]; decide) (by rw [c1_5]; decide) (by rw [c1_5]; decide) (by decide) ?_
    refine ym_aload_n (pc := 100) 0 dX8_done_100 rfl rfl ?_
    refine ym_lload (pc := 101) 5 dX8_done_101 rfl ?_
    refine ym_lload (pc := 103) 6 dX8_done_103 rfl ?_
    obtain ⟨o105, f105, hf⟩ := Option.bind_eq_some_iff.mp hf
    obtain ⟨q105, e105, hf⟩ := Option.bind_eq_some_iff.mp hf
    refine ym_callV (pc := 105) (G2 := g_X8_newStep) (dep2 := 2) (As := [.long a5, .long a7]) (st := []) (stk2 := [.long q105.1]) (r2 := (some (.long q105.1))) (h1 := q105.2) dX8_done_105 (ok_X8_newStep e105) (sc_X8_done_X8_newStep hdk) wd_1072 wd_1074 wd_30 (ci := 8) (q0 := (RX8, TX8, 58)) rfl (by decide) rfl f105 rfl rfl (ym_st4 (Nat.le_of_ble_eq_true rfl)) rfl ?_
    cases hf
    exact ym_lret (pc := 108) dX8_done_108 rfl
  rw [if_neg c1_5] at hf
  by_cases c1_6 : a1 = 6
  · rw [if_pos c1_6] at hf
    refine ym_swIn (pc := 1) (off := 108) (tgt := 109) dX8_done_1 (by rw [c1_6]; decide) (by rw [c1_6]; decide) (by rw [c1_6]; decide) (by decide) ?_
    refine ym_aload_n (pc := 109) 0 dX8_done_109 rfl rfl ?_
    refine ym_lload (pc := 110) 5 dX8_done_110 rfl ?_
    refine ym_iload_n (pc := 112) 2 dX8_done_112 rfl rfl ?_
    obtain ⟨o113, f113, hf⟩ := Option.bind_eq_some_iff.mp hf
    obtain ⟨q113, e113, hf⟩ := Option.bind_eq_some_iff.mp hf
    refine ym_callV (pc := 113) (G2 := g_X8_newBracket) (dep2 := 2) (As := [.long a5, .int a2]) (st := []) (stk2 := [.long q113.1]) (r2 := (some (.long q113.1))) (h1 := q113.2) dX8_done_113 (ok_X8_newBracket e113) (sc_X8_done_X8_newBracket hdk) wd_1077 wd_1079 wd_31 (ci := 8) (q0 := (RX8, TX8, 58)) rfl (by decide) rfl f113 rfl rfl (ym_st4 (Nat.le_of_ble_eq_true rfl)) rfl ?_
    cases hf
    exact ym_lret (pc := 116) dX8_done_116 rfl
  rw [if_neg c1_6] at hf
  by_cases c1_7 : a1 = 7
  · rw [if_pos c1_7] at hf
    refine ym_swIn (pc := 1) (off := 116) (tgt := 117) dX8_done_1 (by rw [c1_7]; decide) (by rw [c1_7]; decide) (by rw [c1_7]; decide) (by decide) ?_
    refine ym_aload_n (pc := 117) 0 dX8_done_117 rfl rfl ?_
    refine ym_iload_n (pc := 118) 2 dX8_done_118 rfl rfl ?_
    refine ym_iload_n (pc := 119) 3 dX8_done_119 rfl rfl ?_
    obtain ⟨o120, f120, hf⟩ := Option.bind_eq_some_iff.mp hf
    obtain ⟨q120, e120, hf⟩ := Option.bind_eq_some_iff.mp hf
    refine ym_callV (pc := 120) (G2 := g_X8_newTax) (dep2 := 2) (As := [.int a2, .int a3]) (st := []) (stk2 := [.long q120.1]) (r2 := (some (.long q120.1))) (h1 := q120.2) dX8_done_120 (ok_X8_newTax e120) (sc_X8_done_X8_newTax hdk) wd_1081 wd_1083 wd_32 (ci := 8) (q0 := (RX8, TX8, 58)) rfl (by decide) rfl f120 rfl rfl (ym_st4 (Nat.le_of_ble_eq_true rfl)) rfl ?_
    cases hf
    exact ym_lret (pc := 123) dX8_done_123 rfl
  rw [if_neg c1_7] at hf
  by_cases c1_8 : a1 = 8
  · rw [if_pos c1_8] at hf
    refine ym_swIn (pc := 1) (off := 123) (tgt := 124) dX8_done_1 (by rw [c1_8]; decide) (by rw [c1_8]; decide) (by rw [c1_8]; decide) (by decide) ?_
    refine ym_aload_n (pc := 124) 0 dX8_done_124 rfl rfl ?_
    refine ym_iload_n (pc := 125) 2 dX8_done_125 rfl rfl ?_
    obtain ⟨o126, f126, hf⟩ := Option.bind_eq_some_iff.mp hf
    obtain ⟨q126, e126, hf⟩ := Option.bind_eq_some_iff.mp hf
    refine ym_callV (pc := 126) (G2 := g_X8_called) (dep2 := 4) (As := [.int a2]) (st := []) (stk2 := [.long q126.1]) (r2 := (some (.long q126.1))) (h1 := q126.2) dX8_done_126 (ok_X8_called e126) (sc_X8_done_X8_called hdk) wd_1085 wd_1087 wd_33 (ci := 8) (q0 := (RX8, TX8, 58)) rfl (by decide) rfl f126 rfl rfl (ym_st4 (Nat.le_of_ble_eq_true rfl)) rfl ?_
    cases hf
    exact ym_lret (pc := 129) dX8_done_129 rfl
  rw [if_neg c1_8] at hf
  by_cases c1_9 : a1 = 9
  · rw [if_pos c1_9] at hf
    refine ym_swIn (pc := 1) (off := 129) (tgt := 130) dX8_done_1 (by rw [c1_9]; decide) (by rw [c1_9]; decide) (by rw [c1_9]; decide) (by decide) ?_
    refine ym_aload_n (pc := 130) 0 dX8_done_130 rfl rfl ?_
    refine ym_iload_n (pc := 131) 2 dX8_done_131 rfl rfl ?_
    refine ym_iload_n (pc := 132) 3 dX8_done_132 rfl rfl ?_
    refine ym_lload (pc := 133) 5 dX8_done_133 rfl ?_
    obtain ⟨o135, f135, hf⟩ := Option.bind_eq_some_iff.mp hf
    obtain ⟨q135, e135, hf⟩ := Option.bind_eq_some_iff.mp hf
    refine ym_callV (pc := 135) (G2 := g_X8_bidden) (dep2 := 5) (As := [.int a2, .int a3, .long a5]) (st := []) (stk2 := [.long q135.1]) (r2 := (some (.long q135.1))) (h1 := q135.2) dX8_done_135 (ok_X8_bidden e135) (sc_X8_done_X8_bidden hdk) wd_1122 wd_1124 wd_40 (ci := 8) (q0 := (RX8, TX8, 58)) rfl (by decide) rfl f135 rfl rfl (ym_st4 (Nat.le_of_ble_eq_true rfl)) rfl ?_
    cases hf
    exact ym_lret (pc := 138) dX8_done_138 rfl
  rw [if_neg c1_9] at hf
  by_cases c1_10 : a1 = 10
  · rw [if_pos c1_10] at hf
    refine ym_swIn (pc := 1) (off := 138) (tgt := 139) dX8_done_1 (by rw [c1_10]; decide) (by rw [c1_10]; decide) (by rw [c1_10]; decide) (by decide) ?_
    refine ym_aload_n (pc := 139) 0 dX8_done_139 rfl rfl ?_
    refine ym_iload_n (pc := 140) 2 dX8_done_140 rfl rfl ?_
    refine ym_iload_n (pc := 141) 3 dX8_done_141 rfl rfl ?_
    refine ym_lload (pc := 142) 5 dX8_done_142 rfl ?_
    obtain ⟨o144, f144, hf⟩ := Option.bind_eq_some_iff.mp hf
    obtain ⟨q144, e144, hf⟩ := Option.bind_eq_some_iff.mp hf
    refine ym_callV (pc := 144) (G2 := g_X8_written) (dep2 := 5) (As := [.int a2, .int a3, .long a5]) (st := []) (stk2 := [.long q144.1]) (r2 := (some (.long q144.1))) (h1 := q144.2) dX8_done_144 (ok_X8_written e144) (sc_X8_done_X8_written hdk) wd_1167 wd_1169 wd_50 (ci := 8) (q0 := (RX8, TX8, 58)) rfl (by decide) rfl f144 rfl rfl (ym_st4 (Nat.le_of_ble_eq_true rfl)) rfl ?_
    cases hf
    exact ym_lret (pc := 147) dX8_done_147 rfl
  rw [if_neg c1_10] at hf
  by_cases c1_11 : a1 = 11
  · rw [if_pos c1_11] at hf
    refine ym_swIn (pc := 1) (off := 147) (tgt := 148) dX8_done_1 (by rw [c1_11]; decide) (by rw [c1_11]; decide) (by rw [c1_11]; decide) (by decide) ?_
    refine ym_aload_n (pc := 148) 0 dX8_done_148 rfl rfl ?_
    refine ym_iload_n (pc := 149) 2 dX8_done_149 rfl rfl ?_
    obtain ⟨o150, f150, hf⟩ := Option.bind_eq_some_iff.mp hf
    obtain ⟨q150, e150, hf⟩ := Option.bind_eq_some_iff.mp hf
    refine ym_callV (pc := 150) (G2 := g_X8_opened) (dep2 := 3) (As := [.int a2]) (st := []) (stk2 := [.long q150.1]) (r2 := (some (.long q150.1))) (h1 := q150.2) dX8_done_150 (ok_X8_opened e150) (sc_X8_done_X8_opened hdk) wd_1171 wd_1173 wd_51 (ci := 8) (q0 := (RX8, TX8, 58)) rfl (by decide) rfl f150 rfl rfl (ym_st4 (Nat.le_of_ble_eq_true rfl)) rfl ?_
    cases hf
    exact ym_lret (pc := 153) dX8_done_153 rfl
  rw [if_neg c1_11] at hf
  by_cases c1_12 : a1 = 12
  · rw [if_pos c1_12] at hf
    refine ym_swIn (pc := 1) (off := 153) (tgt := 154) dX8_done_1 (by rw [c1_12]; decide) (by rw [c1_12]; decide) (by rw [c1_12]; decide) (by decide) ?_
    refine ym_aload_n (pc := 154) 0 dX8_done_154 rfl rfl ?_
    refine ym_iload_n (pc := 155) 2 dX8_done_155 rfl rfl ?_
    refine ym_lload (pc := 156) 5 dX8_done_156 rfl ?_
    obtain ⟨o158, f158, hf⟩ := Option.bind_eq_some_iff.mp hf
    obtain ⟨q158, e158, hf⟩ := Option.bind_eq_some_iff.mp hf
    refine ym_callV (pc := 158) (G2 := g_X8_ticked) (dep2 := 3) (As := [.int a2, .long a5]) (st := []) (stk2 := [.long q158.1]) (r2 := (some (.long q158.1))) (h1 := q158.2) dX8_done_158 (ok_X8_ticked e158) (sc_X8_done_X8_ticked hdk) wd_1180 wd_1182 wd_53 (ci := 8) (q0 := (RX8, TX8, 58)) rfl (by decide) rfl f158 rfl rfl (ym_st4 (Nat.le_of_ble_eq_true rfl)) rfl ?_
    cases hf
    exact ym_lret (pc := 161) dX8_done_161 rfl
  rw [if_neg c1_12] at hf
  by_cases c1_13 : a1 = 13
  · rw [if_pos c1_13] at hf
    refine ym_swIn (pc := 1) (off := 161) (tgt := 162) dX8_done_1 (by rw [c1_13]; decide) (by rw [c1_13]; decide) (by rw [c1_13]; decide) (by decide) ?_
    refine ym_aload_n (pc := 162) 0 dX8_done_162 rfl rfl ?_
    refine ym_iload_n (pc := 163) 2 dX8_done_163 rfl rfl ?_
    refine ym_iload_n (pc := 164) 3 dX8_done_164 rfl rfl ?_
    obtain ⟨o165, f165, hf⟩ := Option.bind_eq_some_iff.mp hf
    obtain ⟨q165, e165, hf⟩ := Option.bind_eq_some_iff.mp hf
    refine ym_callV (pc := 165) (G2 := g_X8_took) (dep2 := 3) (As := [.int a2, .int a3]) (st := []) (stk2 := [.long q165.1]) (r2 := (some (.long q165.1))) (h1 := q165.2) dX8_done_165 (ok_X8_took e165) (sc_X8_done_X8_took hdk) wd_1184 wd_1186 wd_54 (ci := 8) (q0 := (RX8, TX8, 58)) rfl (by decide) rfl f165 rfl rfl (ym_st4 (Nat.le_of_ble_eq_true rfl)) rfl ?_
    cases hf
    exact ym_lret (pc := 168) dX8_done_168 rfl
  rw [if_neg c1_13] at hf
  refine ym_swOut (pc := 1) (tgt := 169) dX8_done_1 (sw_X8_done_1 c1_1 c1_2 c1_3 c1_4 c1_5 c1_6 c1_7 c1_8 c1_9 c1_10 c1_11 c1_12 c1_13) (by decide) ?_
  refine ym_aload_n (pc := 169) 0 dX8_done_169 rfl rfl ?_
  refine ym_iload_n (pc := 170) 1 dX8_done_170 rfl rfl ?_
  refine ym_iload_n (pc := 171) 2 dX8_done_171 rfl rfl ?_
  refine ym_iload_n (pc := 172) 3 dX8_done_172 rfl rfl ?_
  refine ym_iload (pc := 173) 4 dX8_done_173 rfl ?_
  refine ym_lload (pc := 175) 5 dX8_done_175 rfl ?_
  obtain ⟨o177, f177, hf⟩ := Option.bind_eq_some_iff.mp hf
  obtain ⟨q177, e177, hf⟩ := Option.bind_eq_some_iff.mp hf
  refine ym_callV (pc := 177) (G2 := g_X8_doneElse) (dep2 := (dk + 2)) (As := [.int a1, .int a2, .int a3, .int a4, .long a5]) (st := []) (stk2 := [.long q177.1]) (r2 := (some (.long q177.1))) (h1 := q177.2) dX8_done_177 (ok_X8_doneElse hdk hK e177) (sc_X8_done_X8_doneElse hdk) wd_1188 wd_1190 wd_55 (ci := 8) (q0 := (RX8, TX8, 58)) rfl (by decide) rfl f177 rfl rfl (ym_st4 (Nat.le_of_ble_eq_true rfl)) rfl ?_
  cases hf
  exact ym_lret (pc := 180) dX8_done_180 rfl
theorem dX8_back_0 : decode cX8_back 0 = .ok (.aload_n 0, 1) := by decide +kernel
theorem dX8_back_1 : decode cX8_back 1 = .ok (.iconst 0, 1) := by decide +kernel
theorem dX8_back_2 : decode cX8_back 2 = .ok (.putfield 185, 3) := by decide +kernel
theorem dX8_back_5 : decode cX8_back 5 = .ok (.aload_n 0, 1) := by decide +kernel
theorem dX8_back_6 : decode cX8_back 6 = .ok (.iconst 0, 1) := by decide +kernel
theorem dX8_back_7 : decode cX8_back 7 = .ok (.putfield 188, 3) := by decide +kernel
theorem dX8_back_10 : decode cX8_back 10 = .ok (.aload_n 0, 1) := by decide +kernel
theorem dX8_back_11 : decode cX8_back 11 = .ok (.iconst 0, 1) := by decide +kernel
theorem dX8_back_12 : decode cX8_back 12 = .ok (.putfield 191, 3) := by decide +kernel
theorem dX8_back_15 : decode cX8_back 15 = .ok (.aload_n 0, 1) := by decide +kernel
theorem dX8_back_16 : decode cX8_back 16 = .ok (.iconst 0, 1) := by decide +kernel
theorem dX8_back_17 : decode cX8_back 17 = .ok (.putfield 194, 3) := by decide +kernel
theorem dX8_back_20 : decode cX8_back 20 = .ok (.aload_n 0, 1) := by decide +kernel
theorem dX8_back_21 : decode cX8_back 21 = .ok (.iconst 0, 1) := by decide +kernel
theorem dX8_back_22 : decode cX8_back 22 = .ok (.putfield 197, 3) := by decide +kernel
theorem dX8_back_25 : decode cX8_back 25 = .ok (.iconst 0, 1) := by decide +kernel
theorem dX8_back_26 : decode cX8_back 26 = .ok (.istore_n 2, 1) := by decide +kernel
theorem dX8_back_27 : decode cX8_back 27 = .ok (.iload_n 2, 1) := by decide +kernel
theorem dX8_back_28 : decode cX8_back 28 = .ok (.bipush 6, 2) := by decide +kernel
theorem dX8_back_30 : decode cX8_back 30 = .ok (.if_icmp .ge 16, 3) := by decide +kernel
theorem dX8_back_33 : decode cX8_back 33 = .ok (.aload_n 0, 1) := by decide +kernel
theorem dX8_back_34 : decode cX8_back 34 = .ok (.getfield 114, 3) := by decide +kernel
theorem dX8_back_37 : decode cX8_back 37 = .ok (.iload_n 2, 1) := by decide +kernel
theorem dX8_back_38 : decode cX8_back 38 = .ok (.iconst 0, 1) := by decide +kernel
theorem dX8_back_39 : decode cX8_back 39 = .ok (.iastore, 1) := by decide +kernel
theorem dX8_back_40 : decode cX8_back 40 = .ok (.iinc 2 1, 3) := by decide +kernel
theorem dX8_back_43 : decode cX8_back 43 = .ok (.goto (-16), 3) := by decide +kernel
theorem dX8_back_46 : decode cX8_back 46 = .ok (.iconst 0, 1) := by decide +kernel
theorem dX8_back_47 : decode cX8_back 47 = .ok (.istore_n 2, 1) := by decide +kernel
theorem dX8_back_48 : decode cX8_back 48 = .ok (.iload_n 2, 1) := by decide +kernel
theorem dX8_back_49 : decode cX8_back 49 = .ok (.iconst 3, 1) := by decide +kernel
theorem dX8_back_50 : decode cX8_back 50 = .ok (.if_icmp .ge 16, 3) := by decide +kernel
theorem dX8_back_53 : decode cX8_back 53 = .ok (.aload_n 0, 1) := by decide +kernel
theorem dX8_back_54 : decode cX8_back 54 = .ok (.getfield 117, 3) := by decide +kernel
theorem dX8_back_57 : decode cX8_back 57 = .ok (.iload_n 2, 1) := by decide +kernel
theorem dX8_back_58 : decode cX8_back 58 = .ok (.lconst 0, 1) := by decide +kernel
theorem dX8_back_59 : decode cX8_back 59 = .ok (.lastore, 1) := by decide +kernel
theorem dX8_back_60 : decode cX8_back 60 = .ok (.iinc 2 1, 3) := by decide +kernel
theorem dX8_back_63 : decode cX8_back 63 = .ok (.goto (-15), 3) := by decide +kernel
theorem dX8_back_66 : decode cX8_back 66 = .ok (.aload_n 0, 1) := by decide +kernel
theorem dX8_back_67 : decode cX8_back 67 = .ok (.iload_n 1, 1) := by decide +kernel
theorem dX8_back_68 : decode cX8_back 68 = .ok (.putfield 175, 3) := by decide +kernel
theorem dX8_back_71 : decode cX8_back 71 = .ok (.aload_n 0, 1) := by decide +kernel
theorem dX8_back_72 : decode cX8_back 72 = .ok (.iconst 1, 1) := by decide +kernel
theorem dX8_back_73 : decode cX8_back 73 = .ok (.putfield 200, 3) := by decide +kernel
theorem dX8_back_76 : decode cX8_back 76 = .ok (.iconst 0, 1) := by decide +kernel
theorem dX8_back_77 : decode cX8_back 77 = .ok (.istore_n 2, 1) := by decide +kernel
theorem dX8_back_78 : decode cX8_back 78 = .ok (.iload_n 2, 1) := by decide +kernel
theorem dX8_back_79 : decode cX8_back 79 = .ok (.iload_n 1, 1) := by decide +kernel
theorem dX8_back_80 : decode cX8_back 80 = .ok (.if_icmp .ge 60, 3) := by decide +kernel
theorem dX8_back_83 : decode cX8_back 83 = .ok (.aload_n 0, 1) := by decide +kernel
theorem dX8_back_84 : decode cX8_back 84 = .ok (.aload_n 0, 1) := by decide +kernel
theorem dX8_back_85 : decode cX8_back 85 = .ok (.getfield 138, 3) := by decide +kernel
theorem dX8_back_88 : decode cX8_back 88 = .ok (.iload_n 2, 1) := by decide +kernel
theorem dX8_back_89 : decode cX8_back 89 = .ok (.iaload, 1) := by decide +kernel
theorem dX8_back_90 : decode cX8_back 90 = .ok (.putfield 154, 3) := by decide +kernel
theorem dX8_back_93 : decode cX8_back 93 = .ok (.aload_n 0, 1) := by decide +kernel
theorem dX8_back_94 : decode cX8_back 94 = .ok (.aload_n 0, 1) := by decide +kernel
theorem dX8_back_95 : decode cX8_back 95 = .ok (.getfield 120, 3) := by decide +kernel
theorem dX8_back_98 : decode cX8_back 98 = .ok (.iload_n 2, 1) := by decide +kernel
theorem dX8_back_99 : decode cX8_back 99 = .ok (.iaload, 1) := by decide +kernel
theorem dX8_back_100 : decode cX8_back 100 = .ok (.aload_n 0, 1) := by decide +kernel
theorem dX8_back_101 : decode cX8_back 101 = .ok (.getfield 123, 3) := by decide +kernel
theorem dX8_back_104 : decode cX8_back 104 = .ok (.iload_n 2, 1) := by decide +kernel
theorem dX8_back_105 : decode cX8_back 105 = .ok (.iaload, 1) := by decide +kernel
theorem dX8_back_106 : decode cX8_back 106 = .ok (.aload_n 0, 1) := by decide +kernel
theorem dX8_back_107 : decode cX8_back 107 = .ok (.getfield 126, 3) := by decide +kernel
theorem dX8_back_110 : decode cX8_back 110 = .ok (.iload_n 2, 1) := by decide +kernel
theorem dX8_back_111 : decode cX8_back 111 = .ok (.iaload, 1) := by decide +kernel
theorem dX8_back_112 : decode cX8_back 112 = .ok (.aload_n 0, 1) := by decide +kernel
theorem dX8_back_113 : decode cX8_back 113 = .ok (.getfield 129, 3) := by decide +kernel
theorem dX8_back_116 : decode cX8_back 116 = .ok (.iload_n 2, 1) := by decide +kernel
theorem dX8_back_117 : decode cX8_back 117 = .ok (.iaload, 1) := by decide +kernel
theorem dX8_back_118 : decode cX8_back 118 = .ok (.aload_n 0, 1) := by decide +kernel
theorem dX8_back_119 : decode cX8_back 119 = .ok (.getfield 132, 3) := by decide +kernel
theorem dX8_back_122 : decode cX8_back 122 = .ok (.iload_n 2, 1) := by decide +kernel
theorem dX8_back_123 : decode cX8_back 123 = .ok (.laload, 1) := by decide +kernel
theorem dX8_back_124 : decode cX8_back 124 = .ok (.aload_n 0, 1) := by decide +kernel
theorem dX8_back_125 : decode cX8_back 125 = .ok (.getfield 135, 3) := by decide +kernel
theorem dX8_back_128 : decode cX8_back 128 = .ok (.iload_n 2, 1) := by decide +kernel
theorem dX8_back_129 : decode cX8_back 129 = .ok (.laload, 1) := by decide +kernel
theorem dX8_back_130 : decode cX8_back 130 = .ok (.invokevirtual 157, 3) := by decide +kernel
theorem dX8_back_133 : decode cX8_back 133 = .ok (.lstore_n 3, 1) := by decide +kernel
theorem dX8_back_134 : decode cX8_back 134 = .ok (.iinc 2 1, 3) := by decide +kernel
theorem dX8_back_137 : decode cX8_back 137 = .ok (.goto (-59), 3) := by decide +kernel
theorem dX8_back_140 : decode cX8_back 140 = .ok (.aload_n 0, 1) := by decide +kernel
theorem dX8_back_141 : decode cX8_back 141 = .ok (.iconst 0, 1) := by decide +kernel
theorem dX8_back_142 : decode cX8_back 142 = .ok (.putfield 200, 3) := by decide +kernel
theorem dX8_back_145 : decode cX8_back 145 = .ok (.return_, 1) := by decide +kernel
def lb_X8_back_27 (K : Option Nat → Int32 → Int32 → ym_H → Option ((Unit) × ym_H)) (N : Nat) (w0 : Option Nat) (w1 : Int32) (w2 : Int32) (h : ym_H) : Option ((Unit) × ym_H) :=
  if 6 ≤ w2 then
    some ((), h)
  else
    Option.bind (ym_gR h w0 8 39) fun v34 =>
    Option.bind (ym_as h v34 0 w2 (.int 0)) fun h39 =>
    K w0 w1 (w2 + 1) h39
set_option maxRecDepth 20000 in
set_option maxHeartbeats 4000000 in
theorem ol_X8_back_27 {D : ym_D} {b0 : Nat} {K : Option Nat → Int32 → Int32 → ym_H → Option ((Unit) × ym_H)} {N : Nat} {w0 : Option Nat} {w1 : Int32} {w2 : Int32} {h h1 : ym_H} {x : (Unit)} (hKl : ∀ (u2 : Int32) (h h1 : ym_H) (x : (Unit)), K w0 w1 u2 h = some (x, h1) → ∀ {r0 : Option Value} {h' : ym_H}, ym_Y D b0 g_X8_back 14 46 [(0, va_rf w0), (1, .int w1)] [] h1 r0 h' → ym_Y D b0 g_X8_back 14 27 [(0, va_rf w0), (1, .int w1), (2, .int u2)] [] h r0 h') (hf : lb_X8_back_27 K N w0 w1 w2 h = some (x, h1)) {r0 : Option Value} {h' : ym_H} (k : ym_Y D b0 g_X8_back 14 46 [(0, va_rf w0), (1, .int w1)] [] h1 r0 h') : ym_Y D b0 g_X8_back 14 27 [(0, va_rf w0), (1, .int w1), (2, .int w2)] [] h r0 h' := by
  unfold lb_X8_back_27 at hf
  refine ym_iload_n (pc := 27) 2 dX8_back_27 rfl rfl ?_
  refine ym_bipush (pc := 28) (v := 6) dX8_back_28 (by decide) ?_
  by_cases c30 : 6 ≤ w2
  · rw [if_pos c30] at hf
    refine ym_icmp_ge_y (pc := 30) (tgt := 46) dX8_back_30 (by decide) c30 ?_
    cases hf
    exact ym_sub [0, 1] rfl k
  · rw [if_neg c30] at hf
    refine ym_icmp_ge_n (pc := 30) (tgt := 46) dX8_back_30 (by decide) c30 ?_
    refine ym_aload_n (pc := 33) 0 dX8_back_33 rfl rfl ?_
    obtain ⟨v34, e34, hf⟩ := Option.bind_eq_some_iff.mp hf
    refine ym_get (pc := 34) dX8_back_34 rfl (by decide) iX8 (k := 39) (by decide) wd_884 (ym_gR_v e34) ?_
    refine ym_iload_n (pc := 37) 2 dX8_back_37 rfl rfl ?_
    refine ym_iconst (pc := 38) (v := 0) dX8_back_38 (by decide) ?_
    obtain ⟨h39, e39, hf⟩ := Option.bind_eq_some_iff.mp hf
    refine ym_iast (pc := 39) dX8_back_39 rfl e39 ?_
    refine ym_iinc (pc := 40) (lv' := [(2, .int (w2 + 1)), (0, va_rf w0), (1, .int w1)]) (v := (w2 + 1)) 2 dX8_back_40 rfl (by rw [show Int32.ofInt 1 = 1 by decide]) (by decide) ⟨trivial, rfl, trivial, trivial⟩ rfl ?_
    refine ym_goto (pc := 43) (tgt := 27) dX8_back_43 (by decide) ?_
    exact ym_sub [1, 2, 0] rfl (hKl _ _ _ _ hf k)
def lp_X8_back_27 (N : Nat) : Nat → Option Nat → Int32 → Int32 → ym_H → Option ((Unit) × ym_H)
  | 0, _, _, _, _ => none
  | n + 1, w0, w1, w2, h => lb_X8_back_27 (lp_X8_back_27 N n) N w0 w1 w2 h
set_option maxRecDepth 20000 in
set_option maxHeartbeats 4000000 in
theorem ok_lp_X8_back_27 {D : ym_D} {b0 : Nat} {N : Nat} {w0 : Option Nat} {w1 : Int32} : ∀ (n : Nat) (w2 : Int32) (h h1 : ym_H) (x : (Unit)), lp_X8_back_27 N n w0 w1 w2 h = some (x, h1) → ∀ {r0 : Option Value} {h' : ym_H}, ym_Y D b0 g_X8_back 14 46 [(0, va_rf w0), (1, .int w1)] [] h1 r0 h' → ym_Y D b0 g_X8_back 14 27 [(0, va_rf w0), (1, .int w1), (2, .int w2)] [] h r0 h' := by
  intro n
  induction n with
  | zero =>
    intro w2 h h1 x hf
    cases hf
  | succ n ih =>
    intro w2 h h1 x hf r0 h' k
    exact ol_X8_back_27 (fun w2 h h1 x z r0 h' k => ih w2 h h1 x z k) hf k
def lb_X8_back_48 (K : Option Nat → Int32 → Int32 → ym_H → Option ((Unit) × ym_H)) (N : Nat) (w0 : Option Nat) (w1 : Int32) (w2 : Int32) (h : ym_H) : Option ((Unit) × ym_H) :=
  if 3 ≤ w2 then
    some ((), h)
  else
    Option.bind (ym_gR h w0 8 40) fun v54 =>
    Option.bind (ym_as h v54 1 w2 (.long 0)) fun h59 =>
    K w0 w1 (w2 + 1) h59
set_option maxRecDepth 20000 in
set_option maxHeartbeats 4000000 in
theorem ol_X8_back_48 {D : ym_D} {b0 : Nat} {K : Option Nat → Int32 → Int32 → ym_H → Option ((Unit) × ym_H)} {N : Nat} {w0 : Option Nat} {w1 : Int32} {w2 : Int32} {h h1 : ym_H} {x : (Unit)} (hKl : ∀ (u2 : Int32) (h h1 : ym_H) (x : (Unit)), K w0 w1 u2 h = some (x, h1) → ∀ {r0 : Option Value} {h' : ym_H}, ym_Y D b0 g_X8_back 14 66 [(0, va_rf w0), (1, .int w1)] [] h1 r0 h' → ym_Y D b0 g_X8_back 14 48 [(0, va_rf w0), (1, .int w1), (2, .int u2)] [] h r0 h') (hf : lb_X8_back_48 K N w0 w1 w2 h = some (x, h1)) {r0 : Option Value} {h' : ym_H} (k : ym_Y D b0 g_X8_back 14 66 [(0, va_rf w0), (1, .int w1)] [] h1 r0 h') : ym_Y D b0 g_X8_back 14 48 [(0, va_rf w0), (1, .int w1), (2, .int w2)] [] h r0 h' := by
  unfold lb_X8_back_48 at hf
  refine ym_iload_n (pc := 48) 2 dX8_back_48 rfl rfl ?_
  refine ym_iconst (pc := 49) (v := 3) dX8_back_49 (by decide) ?_
  by_cases c50 : 3 ≤ w2
  · rw [if_pos c50] at hf
    refine ym_icmp_ge_y (pc := 50) (tgt := 66) dX8_back_50 (by decide) c50 ?_
    cases hf
    exact ym_sub [0, 1] rfl k
  · rw [if_neg c50] at hf
    refine ym_icmp_ge_n (pc := 50) (tgt := 66) dX8_back_50 (by decide) c50 ?_
    refine ym_aload_n (pc := 53) 0 dX8_back_53 rfl rfl ?_
    obtain ⟨v54, e54, hf⟩ := Option.bind_eq_some_iff.mp hf
    refine ym_get (pc := 54) dX8_back_54 rfl (by decide) iX8 (k := 40) (by decide) wd_885 (ym_gR_v e54) ?_
    refine ym_iload_n (pc := 57) 2 dX8_back_57 rfl rfl ?_
    refine ym_lconst (pc := 58) (v := 0) dX8_back_58 (by decide) ?_
    obtain ⟨h59, e59, hf⟩ := Option.bind_eq_some_iff.mp hf
    refine ym_last (pc := 59) dX8_back_59 rfl e59 ?_
    refine ym_iinc (pc := 60) (lv' := [(2, .int (w2 + 1)), (0, va_rf w0), (1, .int w1)]) (v := (w2 + 1)) 2 dX8_back_60 rfl (by rw [show Int32.ofInt 1 = 1 by decide]) (by decide) ⟨trivial, rfl, trivial, trivial⟩ rfl ?_
    refine ym_goto (pc := 63) (tgt := 48) dX8_back_63 (by decide) ?_
    exact ym_sub [1, 2, 0] rfl (hKl _ _ _ _ hf k)
def lp_X8_back_48 (N : Nat) : Nat → Option Nat → Int32 → Int32 → ym_H → Option ((Unit) × ym_H)
  | 0, _, _, _, _ => none
  | n + 1, w0, w1, w2, h => lb_X8_back_48 (lp_X8_back_48 N n) N w0 w1 w2 h
set_option maxRecDepth 20000 in
set_option maxHeartbeats 4000000 in
theorem ok_lp_X8_back_48 {D : ym_D} {b0 : Nat} {N : Nat} {w0 : Option Nat} {w1 : Int32} : ∀ (n : Nat) (w2 : Int32) (h h1 : ym_H) (x : (Unit)), lp_X8_back_48 N n w0 w1 w2 h = some (x, h1) → ∀ {r0 : Option Value} {h' : ym_H}, ym_Y D b0 g_X8_back 14 66 [(0, va_rf w0), (1, .int w1)] [] h1 r0 h' → ym_Y D b0 g_X8_back 14 48 [(0, va_rf w0), (1, .int w1), (2, .int w2)] [] h r0 h' := by
  intro n
  induction n with
  | zero =>
    intro w2 h h1 x hf
    cases hf
  | succ n ih =>
    intro w2 h h1 x hf r0 h' k
    exact ol_X8_back_48 (fun w2 h h1 x z r0 h' k => ih w2 h h1 x z k) hf k
theorem sc_X8_back_X8_done : ym_site g_X8_back g_X8_done 14 13 6 := ⟨by decide, by decide, wd_1032, wd_83, by decide +kernel⟩
def lb_X8_back_78 (K : Option Nat → Int32 → Int32 → ym_H → Option ((Unit) × ym_H)) (N : Nat) (w0 : Option Nat) (w1 : Int32) (w2 : Int32) (h : ym_H) : Option ((Unit) × ym_H) :=
  if w1 ≤ w2 then
    some ((), h)
  else
    Option.bind (ym_gR h w0 8 48) fun v85 =>
    Option.bind (ym_ldI h v85 w2) fun v89 =>
    Option.bind (ym_pf h w0 8 57 (.int v89)) fun h90 =>
    Option.bind (ym_gR h90 w0 8 42) fun v95 =>
    Option.bind (ym_ldI h90 v95 w2) fun v99 =>
    Option.bind (ym_gR h90 w0 8 43) fun v101 =>
    Option.bind (ym_ldI h90 v101 w2) fun v105 =>
    Option.bind (ym_gR h90 w0 8 44) fun v107 =>
    Option.bind (ym_ldI h90 v107 w2) fun v111 =>
    Option.bind (ym_gR h90 w0 8 45) fun v113 =>
    Option.bind (ym_ldI h90 v113 w2) fun v117 =>
    Option.bind (ym_gR h90 w0 8 46) fun v119 =>
    Option.bind (ym_ldL h90 v119 w2) fun v123 =>
    Option.bind (ym_gR h90 w0 8 47) fun v125 =>
    Option.bind (ym_ldL h90 v125 w2) fun v129 =>
    Option.bind (ym_ob h90 w0 8) fun o130 =>
    Option.bind (fn_X8_done (fun _ _ _ => none) N w0 v99 v105 v111 v117 v123 v129 h90) fun q130 =>
    K w0 w1 (w2 + 1) q130.2
set_option maxRecDepth 20000 in
set_option maxHeartbeats 4000000 in
theorem ol_X8_back_78 {D : ym_D} {b0 : Nat} {K : Option Nat → Int32 → Int32 → ym_H → Option ((Unit) × ym_H)} {N : Nat} {w0 : Option Nat} {w1 : Int32} {w2 : Int32} {h h1 : ym_H} {x : (Unit)} (hKl : ∀ (u1 : Int32) (u2 : Int32) (h h1 : ym_H) (x : (Unit)), K w0 u1 u2 h = some (x, h1) → ∀ {r0 : Option Value} {h' : ym_H}, ym_Y D b0 g_X8_back 14 140 [(0, va_rf w0)] [] h1 r0 h' → ym_Y D b0 g_X8_back 14 78 [(0, va_rf w0), (1, .int u1), (2, .int u2)] [] h r0 h') (hf : lb_X8_back_78 K N w0 w1 w2 h = some (x, h1)) {r0 : Option Value} {h' : ym_H} (k : ym_Y D b0 g_X8_back 14 140 [(0, va_rf w0)] [] h1 r0 h') : ym_Y D b0 g_X8_back 14 78 [(0, va_rf w0), (1, .int w1), (2, .int w2)] [] h r0 h' := by
  unfold lb_X8_back_78 at hf
  refine ym_iload_n (pc := 78) 2 dX8_back_78 rfl rfl ?_
  refine ym_iload_n (pc := 79) 1 dX8_back_79 rfl rfl ?_
  by_cases c80 : w1 ≤ w2
  · rw [if_pos c80] at hf
    refine ym_icmp_ge_y (pc := 80) (tgt := 140) dX8_back_80 (by decide) c80 ?_
    cases hf
    exact ym_sub [0] rfl k
  · rw [if_neg c80] at hf
    refine ym_icmp_ge_n (pc := 80) (tgt := 140) dX8_back_80 (by decide) c80 ?_
    refine ym_aload_n (pc := 83) 0 dX8_back_83 rfl rfl ?_
    refine ym_aload_n (pc := 84) 0 dX8_back_84 rfl rfl ?_
    obtain ⟨v85, e85, hf⟩ := Option.bind_eq_some_iff.mp hf
    refine ym_get (pc := 85) dX8_back_85 rfl (by decide) iX8 (k := 48) (by decide) wd_893 (ym_gR_v e85) ?_
    refine ym_iload_n (pc := 88) 2 dX8_back_88 rfl rfl ?_
    obtain ⟨v89, e89, hf⟩ := Option.bind_eq_some_iff.mp hf
    refine ym_iald (pc := 89) dX8_back_89 rfl (ym_ldI_v e89) ?_
    obtain ⟨h90, e90, hf⟩ := Option.bind_eq_some_iff.mp hf
    refine ym_put (pc := 90) (h1 := h90) dX8_back_90 rfl (by decide) iX8 tyX8 tyX8_ok nmX8 (k := 57) (by decide) wd_902 rfl (tyX8_ok 57 (by decide)) rfl rfl e90 ?_
    refine ym_aload_n (pc := 93) 0 dX8_back_93 rfl rfl ?_
    refine ym_aload_n (pc := 94) 0 dX8_back_94 rfl rfl ?_
    obtain ⟨v95, e95, hf⟩ := Option.bind_eq_some_iff.mp hf
    refine ym_get (pc := 95) dX8_back_95 rfl (by decide) iX8 (k := 42) (by decide) wd_887 (ym_gR_v e95) ?_
    refine ym_iload_n (pc := 98) 2 dX8_back_98 rfl rfl ?_
    obtain ⟨v99, e99, hf⟩ := Option.bind_eq_some_iff.mp hf
    refine ym_iald (pc := 99) dX8_back_99 rfl (ym_ldI_v e99) ?_
    refine ym_aload_n (pc := 100) 0 dX8_back_100 rfl rfl ?_
    obtain ⟨v101, e101, hf⟩ := Option.bind_eq_some_iff.mp hf
    refine ym_get (pc := 101) dX8_back_101 rfl (by decide) iX8 (k := 43) (by decide) wd_888 (ym_gR_v e101) ?_
    refine ym_iload_n (pc := 104) 2 dX8_back_104 rfl rfl ?_
    obtain ⟨v105, e105, hf⟩ := Option.bind_eq_some_iff.mp hf
    refine ym_iald (pc := 105) dX8_back_105 rfl (ym_ldI_v e105) ?_
    refine ym_aload_n (pc := 106) 0 dX8_back_106 rfl rfl ?_
    obtain ⟨v107, e107, hf⟩ := Option.bind_eq_some_iff.mp hf
    refine ym_get (pc := 107) dX8_back_107 rfl (by decide) iX8 (k := 44) (by decide) wd_889 (ym_gR_v e107) ?_
    refine ym_iload_n (pc := 110) 2 dX8_back_110 rfl rfl ?_
    obtain ⟨v111, e111, hf⟩ := Option.bind_eq_some_iff.mp hf
    refine ym_iald (pc := 111) dX8_back_111 rfl (ym_ldI_v e111) ?_
    refine ym_aload_n (pc := 112) 0 dX8_back_112 rfl rfl ?_
    obtain ⟨v113, e113, hf⟩ := Option.bind_eq_some_iff.mp hf
    refine ym_get (pc := 113) dX8_back_113 rfl (by decide) iX8 (k := 45) (by decide) wd_890 (ym_gR_v e113) ?_
    refine ym_iload_n (pc := 116) 2 dX8_back_116 rfl rfl ?_
    obtain ⟨v117, e117, hf⟩ := Option.bind_eq_some_iff.mp hf
    refine ym_iald (pc := 117) dX8_back_117 rfl (ym_ldI_v e117) ?_
    refine ym_aload_n (pc := 118) 0 dX8_back_118 rfl rfl ?_
    obtain ⟨v119, e119, hf⟩ := Option.bind_eq_some_iff.mp hf
    refine ym_get (pc := 119) dX8_back_119 rfl (by decide) iX8 (k := 46) (by decide) wd_891 (ym_gR_v e119) ?_
    refine ym_iload_n (pc := 122) 2 dX8_back_122 rfl rfl ?_
    obtain ⟨v123, e123, hf⟩ := Option.bind_eq_some_iff.mp hf
    refine ym_lald (pc := 123) dX8_back_123 rfl (ym_ldL_v e123) ?_
    refine ym_aload_n (pc := 124) 0 dX8_back_124 rfl rfl ?_
    obtain ⟨v125, e125, hf⟩ := Option.bind_eq_some_iff.mp hf
    refine ym_get (pc := 125) dX8_back_125 rfl (by decide) iX8 (k := 47) (by decide) wd_892 (ym_gR_v e125) ?_
    refine ym_iload_n (pc := 128) 2 dX8_back_128 rfl rfl ?_
    obtain ⟨v129, e129, hf⟩ := Option.bind_eq_some_iff.mp hf
    refine ym_lald (pc := 129) dX8_back_129 rfl (ym_ldL_v e129) ?_
    obtain ⟨o130, f130, hf⟩ := Option.bind_eq_some_iff.mp hf
    obtain ⟨q130, e130, hf⟩ := Option.bind_eq_some_iff.mp hf
    refine ym_callV (pc := 130) (G2 := g_X8_done) (dep2 := 13) (As := [.int v99, .int v105, .int v111, .int v117, .long v123, .long v129]) (st := []) (stk2 := [.long q130.1]) (r2 := (some (.long q130.1))) (h1 := q130.2) dX8_back_130 (ok_X8_done (dk := 10) (by decide) (Kb := fun _ _ _ => none) (fun _ _ _ _ _ z => by cases z) e130) (sc_X8_back_X8_done) wd_1029 wd_1031 wd_22 (ci := 8) (q0 := (RX8, TX8, 58)) rfl (by decide) rfl f130 rfl rfl (ym_st4 (Nat.le_of_ble_eq_true rfl)) rfl ?_
    refine ym_lstore_n (pc := 133) (lv' := [(3, .long q130.1), (0, va_rf w0), (1, .int w1), (2, .int w2)]) dX8_back_133 rfl (by decide) ⟨trivial, trivial, rfl, trivial⟩ rfl ?_
    refine ym_iinc (pc := 134) (lv' := [(2, .int (w2 + 1)), (3, .long q130.1), (0, va_rf w0), (1, .int w1)]) (v := (w2 + 1)) 3 dX8_back_134 rfl (by rw [show Int32.ofInt 1 = 1 by decide]) (by decide) ⟨trivial, trivial, rfl, trivial, trivial⟩ rfl ?_
    refine ym_goto (pc := 137) (tgt := 78) dX8_back_137 (by decide) ?_
    exact ym_sub [2, 3, 0] rfl (hKl _ _ _ _ _ hf k)
def lp_X8_back_78 (N : Nat) : Nat → Option Nat → Int32 → Int32 → ym_H → Option ((Unit) × ym_H)
  | 0, _, _, _, _ => none
  | n + 1, w0, w1, w2, h => lb_X8_back_78 (lp_X8_back_78 N n) N w0 w1 w2 h
set_option maxRecDepth 20000 in
set_option maxHeartbeats 4000000 in
theorem ok_lp_X8_back_78 {D : ym_D} {b0 : Nat} {N : Nat} {w0 : Option Nat} : ∀ (n : Nat) (w1 : Int32) (w2 : Int32) (h h1 : ym_H) (x : (Unit)), lp_X8_back_78 N n w0 w1 w2 h = some (x, h1) → ∀ {r0 : Option Value} {h' : ym_H}, ym_Y D b0 g_X8_back 14 140 [(0, va_rf w0)] [] h1 r0 h' → ym_Y D b0 g_X8_back 14 78 [(0, va_rf w0), (1, .int w1), (2, .int w2)] [] h r0 h' := by
  intro n
  induction n with
  | zero =>
    intro w1 w2 h h1 x hf
    cases hf
  | succ n ih =>
    intro w1 w2 h h1 x hf r0 h' k
    exact ol_X8_back_78 (fun w1 w2 h h1 x z r0 h' k => ih w1 w2 h h1 x z k) hf k
def fn_X8_back (N : Nat) (a0 : Option Nat) (a1 : Int32) (h : ym_H) : Option (Unit × ym_H) :=
  Option.bind (ym_pf h a0 8 0 (.int 0)) fun h2 =>
  Option.bind (ym_pf h2 a0 8 4 (.int 0)) fun h7 =>
  Option.bind (ym_pf h7 a0 8 15 (.int 0)) fun h12 =>
  Option.bind (ym_pf h12 a0 8 33 (.int 0)) fun h17 =>
  Option.bind (ym_pf h17 a0 8 36 (.int 0)) fun h22 =>
  Option.bind (lp_X8_back_27 N N a0 a1 0 h22) fun q27 =>
  Option.bind (lp_X8_back_48 N N a0 a1 0 q27.2) fun q48 =>
  Option.bind (ym_pf q48.2 a0 8 41 (.int a1)) fun h68 =>
  Option.bind (ym_pf h68 a0 8 56 (.int 1)) fun h73 =>
  Option.bind (lp_X8_back_78 N N a0 a1 0 h73) fun q78 =>
  Option.bind (ym_pf q78.2 a0 8 56 (.int 0)) fun h142 =>
  some ((), h142)
set_option maxRecDepth 20000 in
set_option maxHeartbeats 4000000 in
theorem ok_X8_back {D : ym_D} {b0 : Nat} {N : Nat} {a0 : Option Nat} {a1 : Int32} {h h' : ym_H} {r : Unit} (hf : fn_X8_back N a0 a1 h = some (r, h')) : ym_M D b0 g_X8_back 14 [va_rf a0, .int a1] h none h' := by
  unfold fn_X8_back at hf
  refine ym_meth (lv := [(0, va_rf a0), (1, .int a1)]) (by decide) (by simp [lg_sl, ym_c1, ym_cI, ym_cL, g_X8_back]) (by simp [lv_args, ym_c1, ym_cI, ym_cL]) ?_
  refine ym_aload_n (pc := 0) 0 dX8_back_0 rfl rfl ?_
  refine ym_iconst (pc := 1) (v := 0) dX8_back_1 (by decide) ?_
  obtain ⟨h2, e2, hf⟩ := Option.bind_eq_some_iff.mp hf
  refine ym_put (pc := 2) (h1 := h2) dX8_back_2 rfl (by decide) iX8 tyX8 tyX8_ok nmX8 (k := 0) (by decide) wd_845 rfl (tyX8_ok 0 (by decide)) rfl rfl e2 ?_
  refine ym_aload_n (pc := 5) 0 dX8_back_5 rfl rfl ?_
  refine ym_iconst (pc := 6) (v := 0) dX8_back_6 (by decide) ?_
  obtain ⟨h7, e7, hf⟩ := Option.bind_eq_some_iff.mp hf
  refine ym_put (pc := 7) (h1 := h7) dX8_back_7 rfl (by decide) iX8 tyX8 tyX8_ok nmX8 (k := 4) (by decide) wd_849 rfl (tyX8_ok 4 (by decide)) rfl rfl e7 ?_
  refine ym_aload_n (pc := 10) 0 dX8_back_10 rfl rfl ?_
  refine ym_iconst (pc := 11) (v := 0) dX8_back_11 (by decide) ?_
  obtain ⟨h12, e12, hf⟩ := Option.bind_eq_some_iff.mp hf
  refine ym_put (pc := 12) (h1 := h12) dX8_back_12 rfl (by decide) iX8 tyX8 tyX8_ok nmX8 (k := 15) (by decide) wd_860 rfl (tyX8_ok 15 (by decide)) rfl rfl e12 ?_
  refine ym_aload_n (pc := 15) 0 dX8_back_15 rfl rfl ?_
  refine ym_iconst (pc := 16) (v := 0) dX8_back_16 (by decide) ?_
  obtain ⟨h17, e17, hf⟩ := Option.bind_eq_some_iff.mp hf
  refine ym_put (pc := 17) (h1 := h17) dX8_back_17 rfl (by decide) iX8 tyX8 tyX8_ok nmX8 (k := 33) (by decide) wd_878 rfl (tyX8_ok 33 (by decide)) rfl rfl e17 ?_
  refine ym_aload_n (pc := 20) 0 dX8_back_20 rfl rfl ?_
  refine ym_iconst (pc := 21) (v := 0) dX8_back_21 (by decide) ?_
  obtain ⟨h22, e22, hf⟩ := Option.bind_eq_some_iff.mp hf
  refine ym_put (pc := 22) (h1 := h22) dX8_back_22 rfl (by decide) iX8 tyX8 tyX8_ok nmX8 (k := 36) (by decide) wd_881 rfl (tyX8_ok 36 (by decide)) rfl rfl e22 ?_
  refine ym_iconst (pc := 25) (v := 0) dX8_back_25 (by decide) ?_
  refine ym_istore_n (pc := 26) (lv' := [(2, .int 0), (0, va_rf a0), (1, .int a1)]) dX8_back_26 rfl (by decide) ⟨trivial, rfl, trivial⟩ rfl ?_
  obtain ⟨q27, e27, hf⟩ := Option.bind_eq_some_iff.mp hf
  refine ym_sub (lv' := [(0, va_rf a0), (1, .int a1), (2, .int 0)]) [1, 2, 0] rfl ?_
  refine ok_lp_X8_back_27 N _ _ _ _ e27 ?_
  refine ym_iconst (pc := 46) (v := 0) dX8_back_46 (by decide) ?_
  refine ym_istore_n (pc := 47) (lv' := [(2, .int 0), (0, va_rf a0), (1, .int a1)]) dX8_back_47 rfl (by decide) ⟨trivial, rfl, trivial⟩ rfl ?_
  obtain ⟨q48, e48, hf⟩ := Option.bind_eq_some_iff.mp hf
  refine ym_sub (lv' := [(0, va_rf a0), (1, .int a1), (2, .int 0)]) [1, 2, 0] rfl ?_
  refine ok_lp_X8_back_48 N _ _ _ _ e48 ?_
  refine ym_aload_n (pc := 66) 0 dX8_back_66 rfl rfl ?_
  refine ym_iload_n (pc := 67) 1 dX8_back_67 rfl rfl ?_
  obtain ⟨h68, e68, hf⟩ := Option.bind_eq_some_iff.mp hf
  refine ym_put (pc := 68) (h1 := h68) dX8_back_68 rfl (by decide) iX8 tyX8 tyX8_ok nmX8 (k := 41) (by decide) wd_886 rfl (tyX8_ok 41 (by decide)) rfl rfl e68 ?_
  refine ym_aload_n (pc := 71) 0 dX8_back_71 rfl rfl ?_
  refine ym_iconst (pc := 72) (v := 1) dX8_back_72 (by decide) ?_
  obtain ⟨h73, e73, hf⟩ := Option.bind_eq_some_iff.mp hf
  refine ym_put (pc := 73) (h1 := h73) dX8_back_73 rfl (by decide) iX8 tyX8 tyX8_ok nmX8 (k := 56) (by decide) wd_901 rfl (tyX8_ok 56 (by decide)) rfl rfl e73 ?_
  refine ym_iconst (pc := 76) (v := 0) dX8_back_76 (by decide) ?_
  refine ym_istore_n (pc := 77) (lv' := [(2, .int 0), (0, va_rf a0), (1, .int a1)]) dX8_back_77 rfl (by decide) ⟨trivial, rfl, trivial⟩ rfl ?_
  obtain ⟨q78, e78, hf⟩ := Option.bind_eq_some_iff.mp hf
  refine ym_sub (lv' := [(0, va_rf a0), (1, .int a1), (2, .int 0)]) [1, 2, 0] rfl ?_
  refine ok_lp_X8_back_78 N _ _ _ _ _ e78 ?_
  refine ym_aload_n (pc := 140) 0 dX8_back_140 rfl rfl ?_
  refine ym_iconst (pc := 141) (v := 0) dX8_back_141 (by decide) ?_
  obtain ⟨h142, e142, hf⟩ := Option.bind_eq_some_iff.mp hf
  refine ym_put (pc := 142) (h1 := h142) dX8_back_142 rfl (by decide) iX8 tyX8 tyX8_ok nmX8 (k := 56) (by decide) wd_901 rfl (tyX8_ok 56 (by decide)) rfl rfl e142 ?_
  cases hf
  exact ym_vret (pc := 145) dX8_back_145 rfl
theorem dX8_note_0 : decode cX8_note 0 = .ok (.aload_n 0, 1) := by decide +kernel
theorem dX8_note_1 : decode cX8_note 1 = .ok (.getfield 175, 3) := by decide +kernel
theorem dX8_note_4 : decode cX8_note 4 = .ok (.aload_n 0, 1) := by decide +kernel
theorem dX8_note_5 : decode cX8_note 5 = .ok (.getfield 120, 3) := by decide +kernel
theorem dX8_note_8 : decode cX8_note 8 = .ok (.arraylength, 1) := by decide +kernel
theorem dX8_note_9 : decode cX8_note 9 = .ok (.if_icmp .ne 80, 3) := by decide +kernel
theorem dX8_note_12 : decode cX8_note 12 = .ok (.aload_n 0, 1) := by decide +kernel
theorem dX8_note_13 : decode cX8_note 13 = .ok (.aload_n 0, 1) := by decide +kernel
theorem dX8_note_14 : decode cX8_note 14 = .ok (.getfield 120, 3) := by decide +kernel
theorem dX8_note_17 : decode cX8_note 17 = .ok (.invokestatic 178, 3) := by decide +kernel
theorem dX8_note_20 : decode cX8_note 20 = .ok (.putfield 120, 3) := by decide +kernel
theorem dX8_note_23 : decode cX8_note 23 = .ok (.aload_n 0, 1) := by decide +kernel
theorem dX8_note_24 : decode cX8_note 24 = .ok (.aload_n 0, 1) := by decide +kernel
theorem dX8_note_25 : decode cX8_note 25 = .ok (.getfield 123, 3) := by decide +kernel
theorem dX8_note_28 : decode cX8_note 28 = .ok (.invokestatic 178, 3) := by decide +kernel
theorem dX8_note_31 : decode cX8_note 31 = .ok (.putfield 123, 3) := by decide +kernel
theorem dX8_note_34 : decode cX8_note 34 = .ok (.aload_n 0, 1) := by decide +kernel
theorem dX8_note_35 : decode cX8_note 35 = .ok (.aload_n 0, 1) := by decide +kernel
theorem dX8_note_36 : decode cX8_note 36 = .ok (.getfield 126, 3) := by decide +kernel
theorem dX8_note_39 : decode cX8_note 39 = .ok (.invokestatic 178, 3) := by decide +kernel
theorem dX8_note_42 : decode cX8_note 42 = .ok (.putfield 126, 3) := by decide +kernel
theorem dX8_note_45 : decode cX8_note 45 = .ok (.aload_n 0, 1) := by decide +kernel
theorem dX8_note_46 : decode cX8_note 46 = .ok (.aload_n 0, 1) := by decide +kernel
theorem dX8_note_47 : decode cX8_note 47 = .ok (.getfield 129, 3) := by decide +kernel
theorem dX8_note_50 : decode cX8_note 50 = .ok (.invokestatic 178, 3) := by decide +kernel
theorem dX8_note_53 : decode cX8_note 53 = .ok (.putfield 129, 3) := by decide +kernel
theorem dX8_note_56 : decode cX8_note 56 = .ok (.aload_n 0, 1) := by decide +kernel
theorem dX8_note_57 : decode cX8_note 57 = .ok (.aload_n 0, 1) := by decide +kernel
theorem dX8_note_58 : decode cX8_note 58 = .ok (.getfield 132, 3) := by decide +kernel
theorem dX8_note_61 : decode cX8_note 61 = .ok (.invokestatic 182, 3) := by decide +kernel
theorem dX8_note_64 : decode cX8_note 64 = .ok (.putfield 132, 3) := by decide +kernel
theorem dX8_note_67 : decode cX8_note 67 = .ok (.aload_n 0, 1) := by decide +kernel
theorem dX8_note_68 : decode cX8_note 68 = .ok (.aload_n 0, 1) := by decide +kernel
theorem dX8_note_69 : decode cX8_note 69 = .ok (.getfield 135, 3) := by decide +kernel
theorem dX8_note_72 : decode cX8_note 72 = .ok (.invokestatic 182, 3) := by decide +kernel
theorem dX8_note_75 : decode cX8_note 75 = .ok (.putfield 135, 3) := by decide +kernel
theorem dX8_note_78 : decode cX8_note 78 = .ok (.aload_n 0, 1) := by decide +kernel
theorem dX8_note_79 : decode cX8_note 79 = .ok (.aload_n 0, 1) := by decide +kernel
theorem dX8_note_80 : decode cX8_note 80 = .ok (.getfield 138, 3) := by decide +kernel
theorem dX8_note_83 : decode cX8_note 83 = .ok (.invokestatic 178, 3) := by decide +kernel
theorem dX8_note_86 : decode cX8_note 86 = .ok (.putfield 138, 3) := by decide +kernel
theorem dX8_note_89 : decode cX8_note 89 = .ok (.aload_n 0, 1) := by decide +kernel
theorem dX8_note_90 : decode cX8_note 90 = .ok (.getfield 120, 3) := by decide +kernel
theorem dX8_note_93 : decode cX8_note 93 = .ok (.aload_n 0, 1) := by decide +kernel
theorem dX8_note_94 : decode cX8_note 94 = .ok (.getfield 175, 3) := by decide +kernel
theorem dX8_note_97 : decode cX8_note 97 = .ok (.iload_n 1, 1) := by decide +kernel
theorem dX8_note_98 : decode cX8_note 98 = .ok (.iastore, 1) := by decide +kernel
theorem dX8_note_99 : decode cX8_note 99 = .ok (.aload_n 0, 1) := by decide +kernel
theorem dX8_note_100 : decode cX8_note 100 = .ok (.getfield 123, 3) := by decide +kernel
theorem dX8_note_103 : decode cX8_note 103 = .ok (.aload_n 0, 1) := by decide +kernel
theorem dX8_note_104 : decode cX8_note 104 = .ok (.getfield 175, 3) := by decide +kernel
theorem dX8_note_107 : decode cX8_note 107 = .ok (.iload_n 2, 1) := by decide +kernel
theorem dX8_note_108 : decode cX8_note 108 = .ok (.iastore, 1) := by decide +kernel
theorem dX8_note_109 : decode cX8_note 109 = .ok (.aload_n 0, 1) := by decide +kernel
theorem dX8_note_110 : decode cX8_note 110 = .ok (.getfield 126, 3) := by decide +kernel
theorem dX8_note_113 : decode cX8_note 113 = .ok (.aload_n 0, 1) := by decide +kernel
theorem dX8_note_114 : decode cX8_note 114 = .ok (.getfield 175, 3) := by decide +kernel
theorem dX8_note_117 : decode cX8_note 117 = .ok (.iload_n 3, 1) := by decide +kernel
theorem dX8_note_118 : decode cX8_note 118 = .ok (.iastore, 1) := by decide +kernel
theorem dX8_note_119 : decode cX8_note 119 = .ok (.aload_n 0, 1) := by decide +kernel
theorem dX8_note_120 : decode cX8_note 120 = .ok (.getfield 129, 3) := by decide +kernel
theorem dX8_note_123 : decode cX8_note 123 = .ok (.aload_n 0, 1) := by decide +kernel
theorem dX8_note_124 : decode cX8_note 124 = .ok (.getfield 175, 3) := by decide +kernel
theorem dX8_note_127 : decode cX8_note 127 = .ok (.iload 4, 2) := by decide +kernel
theorem dX8_note_129 : decode cX8_note 129 = .ok (.iastore, 1) := by decide +kernel
theorem dX8_note_130 : decode cX8_note 130 = .ok (.aload_n 0, 1) := by decide +kernel
theorem dX8_note_131 : decode cX8_note 131 = .ok (.getfield 132, 3) := by decide +kernel
theorem dX8_note_134 : decode cX8_note 134 = .ok (.aload_n 0, 1) := by decide +kernel
theorem dX8_note_135 : decode cX8_note 135 = .ok (.getfield 175, 3) := by decide +kernel
theorem dX8_note_138 : decode cX8_note 138 = .ok (.lload 5, 2) := by decide +kernel
theorem dX8_note_140 : decode cX8_note 140 = .ok (.lastore, 1) := by decide +kernel
theorem dX8_note_141 : decode cX8_note 141 = .ok (.aload_n 0, 1) := by decide +kernel
theorem dX8_note_142 : decode cX8_note 142 = .ok (.getfield 135, 3) := by decide +kernel
theorem dX8_note_145 : decode cX8_note 145 = .ok (.aload_n 0, 1) := by decide +kernel
theorem dX8_note_146 : decode cX8_note 146 = .ok (.getfield 175, 3) := by decide +kernel
theorem dX8_note_149 : decode cX8_note 149 = .ok (.lload 7, 2) := by decide +kernel
theorem dX8_note_151 : decode cX8_note 151 = .ok (.lastore, 1) := by decide +kernel
theorem dX8_note_152 : decode cX8_note 152 = .ok (.aload_n 0, 1) := by decide +kernel
theorem dX8_note_153 : decode cX8_note 153 = .ok (.getfield 138, 3) := by decide +kernel
theorem dX8_note_156 : decode cX8_note 156 = .ok (.aload_n 0, 1) := by decide +kernel
theorem dX8_note_157 : decode cX8_note 157 = .ok (.getfield 175, 3) := by decide +kernel
theorem dX8_note_160 : decode cX8_note 160 = .ok (.aload_n 0, 1) := by decide +kernel
theorem dX8_note_161 : decode cX8_note 161 = .ok (.getfield 154, 3) := by decide +kernel
theorem dX8_note_164 : decode cX8_note 164 = .ok (.iastore, 1) := by decide +kernel
theorem dX8_note_165 : decode cX8_note 165 = .ok (.aload_n 0, 1) := by decide +kernel
theorem dX8_note_166 : decode cX8_note 166 = .ok (.dup, 1) := by decide +kernel
theorem dX8_note_167 : decode cX8_note 167 = .ok (.getfield 175, 3) := by decide +kernel
theorem dX8_note_170 : decode cX8_note 170 = .ok (.iconst 1, 1) := by decide +kernel
theorem dX8_note_171 : decode cX8_note 171 = .ok (.iadd, 1) := by decide +kernel
theorem dX8_note_172 : decode cX8_note 172 = .ok (.putfield 175, 3) := by decide +kernel
theorem dX8_note_175 : decode cX8_note 175 = .ok (.return_, 1) := by decide +kernel
theorem sc_X8_note_X8_longer : ym_site g_X8_note g_X8_longer 2 1 1 := ⟨by decide, by decide, wd_1118, wd_83, by decide +kernel⟩
theorem sc_X8_note_X8_longer_ : ym_site g_X8_note g_X8_longer_ 2 1 1 := ⟨by decide, by decide, wd_1121, wd_83, by decide +kernel⟩
def bl_X8_note_89 (N : Nat) (w0 : Option Nat) (w1 : Int32) (w2 : Int32) (w3 : Int32) (w4 : Int32) (w5 : Int64) (w7 : Int64) (h : ym_H) : Option (Unit × ym_H) :=
  Option.bind (ym_gR h w0 8 42) fun v90 =>
  Option.bind (ym_gI h w0 8 41) fun v94 =>
  Option.bind (ym_as h v90 0 v94 (.int w1)) fun h98 =>
  Option.bind (ym_gR h98 w0 8 43) fun v100 =>
  Option.bind (ym_gI h98 w0 8 41) fun v104 =>
  Option.bind (ym_as h98 v100 0 v104 (.int w2)) fun h108 =>
  Option.bind (ym_gR h108 w0 8 44) fun v110 =>
  Option.bind (ym_gI h108 w0 8 41) fun v114 =>
  Option.bind (ym_as h108 v110 0 v114 (.int w3)) fun h118 =>
  Option.bind (ym_gR h118 w0 8 45) fun v120 =>
  Option.bind (ym_gI h118 w0 8 41) fun v124 =>
  Option.bind (ym_as h118 v120 0 v124 (.int w4)) fun h129 =>
  Option.bind (ym_gR h129 w0 8 46) fun v131 =>
  Option.bind (ym_gI h129 w0 8 41) fun v135 =>
  Option.bind (ym_as h129 v131 1 v135 (.long w5)) fun h140 =>
  Option.bind (ym_gR h140 w0 8 47) fun v142 =>
  Option.bind (ym_gI h140 w0 8 41) fun v146 =>
  Option.bind (ym_as h140 v142 1 v146 (.long w7)) fun h151 =>
  Option.bind (ym_gR h151 w0 8 48) fun v153 =>
  Option.bind (ym_gI h151 w0 8 41) fun v157 =>
  Option.bind (ym_gI h151 w0 8 57) fun v161 =>
  Option.bind (ym_as h151 v153 0 v157 (.int v161)) fun h164 =>
  Option.bind (ym_gI h164 w0 8 41) fun v167 =>
  Option.bind (ym_pf h164 w0 8 41 (.int (v167 + 1))) fun h172 =>
  some ((), h172)
set_option maxRecDepth 20000 in
set_option maxHeartbeats 4000000 in
theorem ob_X8_note_89 {D : ym_D} {b0 : Nat} {N : Nat} {w0 : Option Nat} {w1 : Int32} {w2 : Int32} {w3 : Int32} {w4 : Int32} {w5 : Int64} {w7 : Int64} {h h' : ym_H} {r : Unit} (hf : bl_X8_note_89 N w0 w1 w2 w3 w4 w5 w7 h = some (r, h')) : ym_Y D b0 g_X8_note 2 89 [(0, va_rf w0), (1, .int w1), (2, .int w2), (3, .int w3), (4, .int w4), (5, .long w5), (7, .long w7)] [] h none h' := by
  unfold bl_X8_note_89 at hf
  refine ym_aload_n (pc := 89) 0 dX8_note_89 rfl rfl ?_
  obtain ⟨v90, e90, hf⟩ := Option.bind_eq_some_iff.mp hf
  refine ym_get (pc := 90) dX8_note_90 rfl (by decide) iX8 (k := 42) (by decide) wd_887 (ym_gR_v e90) ?_
  refine ym_aload_n (pc := 93) 0 dX8_note_93 rfl rfl ?_
  obtain ⟨v94, e94, hf⟩ := Option.bind_eq_some_iff.mp hf
  refine ym_get (pc := 94) dX8_note_94 rfl (by decide) iX8 (k := 41) (by decide) wd_886 (ym_gI_v e94) ?_
  refine ym_iload_n (pc := 97) 1 dX8_note_97 rfl rfl ?_
  obtain ⟨h98, e98, hf⟩ := Option.bind_eq_some_iff.mp hf
  refine ym_iast (pc := 98) dX8_note_98 rfl e98 ?_
  refine ym_aload_n (pc := 99) 0 dX8_note_99 rfl rfl ?_
  obtain ⟨v100, e100, hf⟩ := Option.bind_eq_some_iff.mp hf
  refine ym_get (pc := 100) dX8_note_100 rfl (by decide) iX8 (k := 43) (by decide) wd_888 (ym_gR_v e100) ?_
  refine ym_aload_n (pc := 103) 0 dX8_note_103 rfl rfl ?_
  obtain ⟨v104, e104, hf⟩ := Option.bind_eq_some_iff.mp hf
  refine ym_get (pc := 104) dX8_note_104 rfl (by decide) iX8 (k := 41) (by decide) wd_886 (ym_gI_v e104) ?_
  refine ym_iload_n (pc := 107) 2 dX8_note_107 rfl rfl ?_
  obtain ⟨h108, e108, hf⟩ := Option.bind_eq_some_iff.mp hf
  refine ym_iast (pc := 108) dX8_note_108 rfl e108 ?_
  refine ym_aload_n (pc := 109) 0 dX8_note_109 rfl rfl ?_
  obtain ⟨v110, e110, hf⟩ := Option.bind_eq_some_iff.mp hf
  refine ym_get (pc := 110) dX8_note_110 rfl (by decide) iX8 (k := 44) (by decide) wd_889 (ym_gR_v e110) ?_
  refine ym_aload_n (pc := 113) 0 dX8_note_113 rfl rfl ?_
  obtain ⟨v114, e114, hf⟩ := Option.bind_eq_some_iff.mp hf
  refine ym_get (pc := 114) dX8_note_114 rfl (by decide) iX8 (k := 41) (by decide) wd_886 (ym_gI_v e114) ?_
  refine ym_iload_n (pc := 117) 3 dX8_note_117 rfl rfl ?_
  obtain ⟨h118, e118, hf⟩ := Option.bind_eq_some_iff.mp hf
  refine ym_iast (pc := 118) dX8_note_118 rfl e118 ?_
  refine ym_aload_n (pc := 119) 0 dX8_note_119 rfl rfl ?_
  obtain ⟨v120, e120, hf⟩ := Option.bind_eq_some_iff.mp hf
  refine ym_get (pc := 120) dX8_note_120 rfl (by decide) iX8 (k := 45) (by decide) wd_890 (ym_gR_v e120) ?_
  refine ym_aload_n (pc := 123) 0 dX8_note_123 rfl rfl ?_
  obtain ⟨v124, e124, hf⟩ := Option.bind_eq_some_iff.mp hf
  refine ym_get (pc := 124) dX8_note_124 rfl (by decide) iX8 (k := 41) (by decide) wd_886 (ym_gI_v e124) ?_
  refine ym_iload (pc := 127) 4 dX8_note_127 rfl ?_
  obtain ⟨h129, e129, hf⟩ := Option.bind_eq_some_iff.mp hf
  refine ym_iast (pc := 129) dX8_note_129 rfl e129 ?_
  refine ym_aload_n (pc := 130) 0 dX8_note_130 rfl rfl ?_
  obtain ⟨v131, e131, hf⟩ := Option.bind_eq_some_iff.mp hf
  refine ym_get (pc := 131) dX8_note_131 rfl (by decide) iX8 (k := 46) (by decide) wd_891 (ym_gR_v e131) ?_
  refine ym_aload_n (pc := 134) 0 dX8_note_134 rfl rfl ?_
  obtain ⟨v135, e135, hf⟩ := Option.bind_eq_some_iff.mp hf
  refine ym_get (pc := 135) dX8_note_135 rfl (by decide) iX8 (k := 41) (by decide) wd_886 (ym_gI_v e135) ?_
  refine ym_lload (pc := 138) 5 dX8_note_138 rfl ?_
  obtain ⟨h140, e140, hf⟩ := Option.bind_eq_some_iff.mp hf
  refine ym_last (pc := 140) dX8_note_140 rfl e140 ?_
  refine ym_aload_n (pc := 141) 0 dX8_note_141 rfl rfl ?_
  obtain ⟨v142, e142, hf⟩ := Option.bind_eq_some_iff.mp hf
  refine ym_get (pc := 142) dX8_note_142 rfl (by decide) iX8 (k := 47) (by decide) wd_892 (ym_gR_v e142) ?_
  refine ym_aload_n (pc := 145) 0 dX8_note_145 rfl rfl ?_
  obtain ⟨v146, e146, hf⟩ := Option.bind_eq_some_iff.mp hf
  refine ym_get (pc := 146) dX8_note_146 rfl (by decide) iX8 (k := 41) (by decide) wd_886 (ym_gI_v e146) ?_
  refine ym_lload (pc := 149) 6 dX8_note_149 rfl ?_
  obtain ⟨h151, e151, hf⟩ := Option.bind_eq_some_iff.mp hf
  refine ym_last (pc := 151) dX8_note_151 rfl e151 ?_
  refine ym_aload_n (pc := 152) 0 dX8_note_152 rfl rfl ?_
  obtain ⟨v153, e153, hf⟩ := Option.bind_eq_some_iff.mp hf
  refine ym_get (pc := 153) dX8_note_153 rfl (by decide) iX8 (k := 48) (by decide) wd_893 (ym_gR_v e153) ?_
  refine ym_aload_n (pc := 156) 0 dX8_note_156 rfl rfl ?_
  obtain ⟨v157, e157, hf⟩ := Option.bind_eq_some_iff.mp hf
  refine ym_get (pc := 157) dX8_note_157 rfl (by decide) iX8 (k := 41) (by decide) wd_886 (ym_gI_v e157) ?_
  refine ym_aload_n (pc := 160) 0 dX8_note_160 rfl rfl ?_
  obtain ⟨v161, e161, hf⟩ := Option.bind_eq_some_iff.mp hf
  refine ym_get (pc := 161) dX8_note_161 rfl (by decide) iX8 (k := 57) (by decide) wd_902 (ym_gI_v e161) ?_
  obtain ⟨h164, e164, hf⟩ := Option.bind_eq_some_iff.mp hf
  refine ym_iast (pc := 164) dX8_note_164 rfl e164 ?_
  refine ym_aload_n (pc := 165) 0 dX8_note_165 rfl rfl ?_
  refine ym_dup (pc := 166) dX8_note_166 (ym_c1 w0) ?_
  obtain ⟨v167, e167, hf⟩ := Option.bind_eq_some_iff.mp hf
  refine ym_get (pc := 167) dX8_note_167 rfl (by decide) iX8 (k := 41) (by decide) wd_886 (ym_gI_v e167) ?_
  refine ym_iconst (pc := 170) (v := 1) dX8_note_170 (by decide) ?_
  refine ym_iadd (pc := 171) dX8_note_171 ?_
  obtain ⟨h172, e172, hf⟩ := Option.bind_eq_some_iff.mp hf
  refine ym_put (pc := 172) (h1 := h172) dX8_note_172 rfl (by decide) iX8 tyX8 tyX8_ok nmX8 (k := 41) (by decide) wd_886 rfl (tyX8_ok 41 (by decide)) rfl rfl e172 ?_
  cases hf
  exact ym_vret (pc := 175) dX8_note_175 rfl
def fn_X8_note (N : Nat) (a0 : Option Nat) (a1 : Int32) (a2 : Int32) (a3 : Int32) (a4 : Int32) (a5 : Int64) (a7 : Int64) (h : ym_H) : Option (Unit × ym_H) :=
  Option.bind (ym_gI h a0 8 41) fun v1 =>
  Option.bind (ym_gR h a0 8 42) fun v5 =>
  Option.bind (ym_len h v5) fun v8 =>
  if v1 = v8 then
    Option.bind (ym_gR h a0 8 42) fun v14 =>
    Option.bind (fn_X8_longer N v14 h) fun q17 =>
    Option.bind (ym_pf q17.2 a0 8 42 (va_rf q17.1)) fun h20 =>
    Option.bind (ym_gR h20 a0 8 43) fun v25 =>
    Option.bind (fn_X8_longer N v25 h20) fun q28 =>
    Option.bind (ym_pf q28.2 a0 8 43 (va_rf q28.1)) fun h31 =>
    Option.bind (ym_gR h31 a0 8 44) fun v36 =>
    Option.bind (fn_X8_longer N v36 h31) fun q39 =>
    Option.bind (ym_pf q39.2 a0 8 44 (va_rf q39.1)) fun h42 =>
    Option.bind (ym_gR h42 a0 8 45) fun v47 =>
    Option.bind (fn_X8_longer N v47 h42) fun q50 =>
    Option.bind (ym_pf q50.2 a0 8 45 (va_rf q50.1)) fun h53 =>
    Option.bind (ym_gR h53 a0 8 46) fun v58 =>
    Option.bind (fn_X8_longer_ N v58 h53) fun q61 =>
    Option.bind (ym_pf q61.2 a0 8 46 (va_rf q61.1)) fun h64 =>
    Option.bind (ym_gR h64 a0 8 47) fun v69 =>
    Option.bind (fn_X8_longer_ N v69 h64) fun q72 =>
    Option.bind (ym_pf q72.2 a0 8 47 (va_rf q72.1)) fun h75 =>
    Option.bind (ym_gR h75 a0 8 48) fun v80 =>
    Option.bind (fn_X8_longer N v80 h75) fun q83 =>
    Option.bind (ym_pf q83.2 a0 8 48 (va_rf q83.1)) fun h86 =>
    bl_X8_note_89 N a0 a1 a2 a3 a4 a5 a7 h86
  else
    bl_X8_note_89 N a0 a1 a2 a3 a4 a5 a7 h
set_option maxRecDepth 20000 in
set_option maxHeartbeats 4000000 in
theorem ok_X8_note {D : ym_D} {b0 : Nat} {N : Nat} {a0 : Option Nat} {a1 : Int32} {a2 : Int32} {a3 : Int32} {a4 : Int32} {a5 : Int64} {a7 : Int64} {h h' : ym_H} {r : Unit} (hf : fn_X8_note N a0 a1 a2 a3 a4 a5 a7 h = some (r, h')) : ym_M D b0 g_X8_note 2 [va_rf a0, .int a1, .int a2, .int a3, .int a4, .long a5, .long a7] h none h' := by
  unfold fn_X8_note at hf
  refine ym_meth (lv := [(0, va_rf a0), (1, .int a1), (2, .int a2), (3, .int a3), (4, .int a4), (5, .long a5), (7, .long a7)]) (by decide) (by simp [lg_sl, ym_c1, ym_cI, ym_cL, g_X8_note]) (by simp [lv_args, ym_c1, ym_cI, ym_cL]) ?_
  refine ym_aload_n (pc := 0) 0 dX8_note_0 rfl rfl ?_
  obtain ⟨v1, e1, hf⟩ := Option.bind_eq_some_iff.mp hf
  refine ym_get (pc := 1) dX8_note_1 rfl (by decide) iX8 (k := 41) (by decide) wd_886 (ym_gI_v e1) ?_
  refine ym_aload_n (pc := 4) 0 dX8_note_4 rfl rfl ?_
  obtain ⟨v5, e5, hf⟩ := Option.bind_eq_some_iff.mp hf
  refine ym_get (pc := 5) dX8_note_5 rfl (by decide) iX8 (k := 42) (by decide) wd_887 (ym_gR_v e5) ?_
  obtain ⟨v8, e8, hf⟩ := Option.bind_eq_some_iff.mp hf
  refine ym_alen (pc := 8) dX8_note_8 e8 ?_
  by_cases c9 : v1 = v8
  · rw [if_pos c9] at hf
    refine ym_icmp_ne_y (pc := 9) (tgt := 89) dX8_note_9 (by decide) c9 ?_
    refine ym_aload_n (pc := 12) 0 dX8_note_12 rfl rfl ?_
    refine ym_aload_n (pc := 13) 0 dX8_note_13 rfl rfl ?_
    obtain ⟨v14, e14, hf⟩ := Option.bind_eq_some_iff.mp hf
    refine ym_get (pc := 14) dX8_note_14 rfl (by decide) iX8 (k := 42) (by decide) wd_887 (ym_gR_v e14) ?_
    obtain ⟨q17, e17, hf⟩ := Option.bind_eq_some_iff.mp hf
    refine ym_callS (pc := 17) (G2 := g_X8_longer) (dep2 := 1) (As := [va_rf v14]) (st := [va_rf a0]) (stk2 := [va_rf q17.1, va_rf a0]) (r2 := (some (va_rf q17.1))) (h1 := q17.2) dX8_note_17 (ok_X8_longer e17) (sc_X8_note_X8_longer) wd_1116 wd_1117 rfl rfl (ym_st4 (Nat.le_of_ble_eq_true rfl)) rfl ?_
    obtain ⟨h20, e20, hf⟩ := Option.bind_eq_some_iff.mp hf
    refine ym_put (pc := 20) (h1 := h20) dX8_note_20 rfl (by decide) iX8 tyX8 tyX8_ok nmX8 (k := 42) (by decide) wd_887 rfl (tyX8_ok 42 (by decide)) (ym_nrA _ _) (ym_fiA _ _) e20 ?_
    refine ym_aload_n (pc := 23) 0 dX8_note_23 rfl rfl ?_
    refine ym_aload_n (pc := 24) 0 dX8_note_24 rfl rfl ?_
    obtain ⟨v25, e25, hf⟩ := Option.bind_eq_some_iff.mp hf
    refine ym_get (pc := 25) dX8_note_25 rfl (by decide) iX8 (k := 43) (by decide) wd_888 (ym_gR_v e25) ?_
    obtain ⟨q28, e28, hf⟩ := Option.bind_eq_some_iff.mp hf
    refine ym_callS (pc := 28) (G2 := g_X8_longer) (dep2 := 1) (As := [va_rf v25]) (st := [va_rf a0]) (stk2 := [va_rf q28.1, va_rf a0]) (r2 := (some (va_rf q28.1))) (h1 := q28.2) dX8_note_28 (ok_X8_longer e28) (sc_X8_note_X8_longer) wd_1116 wd_1117 rfl rfl (ym_st4 (Nat.le_of_ble_eq_true rfl)) rfl ?_
    obtain ⟨h31, e31, hf⟩ := Option.bind_eq_some_iff.mp hf
    refine ym_put (pc := 31) (h1 := h31) dX8_note_31 rfl (by decide) iX8 tyX8 tyX8_ok nmX8 (k := 43) (by decide) wd_888 rfl (tyX8_ok 43 (by decide)) (ym_nrA _ _) (ym_fiA _ _) e31 ?_
    refine ym_aload_n (pc := 34) 0 dX8_note_34 rfl rfl ?_
    refine ym_aload_n (pc := 35) 0 dX8_note_35 rfl rfl ?_
    obtain ⟨v36, e36, hf⟩ := Option.bind_eq_some_iff.mp hf
    refine ym_get (pc := 36) dX8_note_36 rfl (by decide) iX8 (k := 44) (by decide) wd_889 (ym_gR_v e36) ?_
    obtain ⟨q39, e39, hf⟩ := Option.bind_eq_some_iff.mp hf
    refine ym_callS (pc := 39) (G2 := g_X8_longer) (dep2 := 1) (As := [va_rf v36]) (st := [va_rf a0]) (stk2 := [va_rf q39.1, va_rf a0]) (r2 := (some (va_rf q39.1))) (h1 := q39.2) dX8_note_39 (ok_X8_longer e39) (sc_X8_note_X8_longer) wd_1116 wd_1117 rfl rfl (ym_st4 (Nat.le_of_ble_eq_true rfl)) rfl ?_
    obtain ⟨h42, e42, hf⟩ := Option.bind_eq_some_iff.mp hf
    refine ym_put (pc := 42) (h1 := h42) dX8_note_42 rfl (by decide) iX8 tyX8 tyX8_ok nmX8 (k := 44) (by decide) wd_889 rfl (tyX8_ok 44 (by decide)) (ym_nrA _ _) (ym_fiA _ _) e42 ?_
    refine ym_aload_n (pc := 45) 0 dX8_note_45 rfl rfl ?_
    refine ym_aload_n (pc := 46) 0 dX8_note_46 rfl rfl ?_
    obtain ⟨v47, e47, hf⟩ := Option.bind_eq_some_iff.mp hf
    refine ym_get (pc := 47) dX8_note_47 rfl (by decide) iX8 (k := 45) (by decide) wd_890 (ym_gR_v e47) ?_
    obtain ⟨q50, e50, hf⟩ := Option.bind_eq_some_iff.mp hf
    refine ym_callS (pc := 50) (G2 := g_X8_longer) (dep2 := 1) (As := [va_rf v47]) (st := [va_rf a0]) (stk2 := [va_rf q50.1, va_rf a0]) (r2 := (some (va_rf q50.1))) (h1 := q50.2) dX8_note_50 (ok_X8_longer e50) (sc_X8_note_X8_longer) wd_1116 wd_1117 rfl rfl (ym_st4 (Nat.le_of_ble_eq_true rfl)) rfl ?_
    obtain ⟨h53, e53, hf⟩ := Option.bind_eq_some_iff.mp hf
    refine ym_put (pc := 53) (h1 := h53) dX8_note_53 rfl (by decide) iX8 tyX8 tyX8_ok nmX8 (k := 45) (by decide) wd_890 rfl (tyX8_ok 45 (by decide)) (ym_nrA _ _) (ym_fiA _ _) e53 ?_
    refine ym_aload_n (pc := 56) 0 dX8_note_56 rfl rfl ?_
    refine ym_aload_n (pc := 57) 0 dX8_note_57 rfl rfl ?_
    obtain ⟨v58, e58, hf⟩ := Option.bind_eq_some_iff.mp hf
    refine ym_get (pc := 58) dX8_note_58 rfl (by decide) iX8 (k := 46) (by decide) wd_891 (ym_gR_v e58) ?_
    obtain ⟨q61, e61, hf⟩ := Option.bind_eq_some_iff.mp hf
    refine ym_callS (pc := 61) (G2 := g_X8_longer_) (dep2 := 1) (As := [va_rf v58]) (st := [va_rf a0]) (stk2 := [va_rf q61.1, va_rf a0]) (r2 := (some (va_rf q61.1))) (h1 := q61.2) dX8_note_61 (ok_X8_longer_ e61) (sc_X8_note_X8_longer_) wd_1119 wd_1120 rfl rfl (ym_st4 (Nat.le_of_ble_eq_true rfl)) rfl ?_
    obtain ⟨h64, e64, hf⟩ := Option.bind_eq_some_iff.mp hf
    refine ym_put (pc := 64) (h1 := h64) dX8_note_64 rfl (by decide) iX8 tyX8 tyX8_ok nmX8 (k := 46) (by decide) wd_891 rfl (tyX8_ok 46 (by decide)) (ym_nrA _ _) (ym_fiA _ _) e64 ?_
    refine ym_aload_n (pc := 67) 0 dX8_note_67 rfl rfl ?_
    refine ym_aload_n (pc := 68) 0 dX8_note_68 rfl rfl ?_
    obtain ⟨v69, e69, hf⟩ := Option.bind_eq_some_iff.mp hf
    refine ym_get (pc := 69) dX8_note_69 rfl (by decide) iX8 (k := 47) (by decide) wd_892 (ym_gR_v e69) ?_
    obtain ⟨q72, e72, hf⟩ := Option.bind_eq_some_iff.mp hf
    refine ym_callS (pc := 72) (G2 := g_X8_longer_) (dep2 := 1) (As := [va_rf v69]) (st := [va_rf a0]) (stk2 := [va_rf q72.1, va_rf a0]) (r2 := (some (va_rf q72.1))) (h1 := q72.2) dX8_note_72 (ok_X8_longer_ e72) (sc_X8_note_X8_longer_) wd_1119 wd_1120 rfl rfl (ym_st4 (Nat.le_of_ble_eq_true rfl)) rfl ?_
    obtain ⟨h75, e75, hf⟩ := Option.bind_eq_some_iff.mp hf
    refine ym_put (pc := 75) (h1 := h75) dX8_note_75 rfl (by decide) iX8 tyX8 tyX8_ok nmX8 (k := 47) (by decide) wd_892 rfl (tyX8_ok 47 (by decide)) (ym_nrA _ _) (ym_fiA _ _) e75 ?_
    refine ym_aload_n (pc := 78) 0 dX8_note_78 rfl rfl ?_
    refine ym_aload_n (pc := 79) 0 dX8_note_79 rfl rfl ?_
    obtain ⟨v80, e80, hf⟩ := Option.bind_eq_some_iff.mp hf
    refine ym_get (pc := 80) dX8_note_80 rfl (by decide) iX8 (k := 48) (by decide) wd_893 (ym_gR_v e80) ?_
    obtain ⟨q83, e83, hf⟩ := Option.bind_eq_some_iff.mp hf
    refine ym_callS (pc := 83) (G2 := g_X8_longer) (dep2 := 1) (As := [va_rf v80]) (st := [va_rf a0]) (stk2 := [va_rf q83.1, va_rf a0]) (r2 := (some (va_rf q83.1))) (h1 := q83.2) dX8_note_83 (ok_X8_longer e83) (sc_X8_note_X8_longer) wd_1116 wd_1117 rfl rfl (ym_st4 (Nat.le_of_ble_eq_true rfl)) rfl ?_
    obtain ⟨h86, e86, hf⟩ := Option.bind_eq_some_iff.mp hf
    refine ym_put (pc := 86) (h1 := h86) dX8_note_86 rfl (by decide) iX8 tyX8 tyX8_ok nmX8 (k := 48) (by decide) wd_893 rfl (tyX8_ok 48 (by decide)) (ym_nrA _ _) (ym_fiA _ _) e86 ?_
    exact ym_sub [0, 1, 2, 3, 4, 5, 6] rfl (ob_X8_note_89 hf)
  · rw [if_neg c9] at hf
    refine ym_icmp_ne_n (pc := 9) (tgt := 89) dX8_note_9 (by decide) c9 ?_
    exact ym_sub [0, 1, 2, 3, 4, 5, 6] rfl (ob_X8_note_89 hf)
theorem dX8_act_0 : decode cX8_act 0 = .ok (.aload_n 0, 1) := by decide +kernel
theorem dX8_act_1 : decode cX8_act 1 = .ok (.dup, 1) := by decide +kernel
theorem dX8_act_2 : decode cX8_act 2 = .ok (.getfield 147, 3) := by decide +kernel
theorem dX8_act_5 : decode cX8_act 5 = .ok (.iconst 1, 1) := by decide +kernel
theorem dX8_act_6 : decode cX8_act 6 = .ok (.iadd, 1) := by decide +kernel
theorem dX8_act_7 : decode cX8_act 7 = .ok (.putfield 147, 3) := by decide +kernel
theorem dX8_act_10 : decode cX8_act 10 = .ok (.aload_n 0, 1) := by decide +kernel
theorem dX8_act_11 : decode cX8_act 11 = .ok (.iconst 0, 1) := by decide +kernel
theorem dX8_act_12 : decode cX8_act 12 = .ok (.putfield 151, 3) := by decide +kernel
theorem dX8_act_15 : decode cX8_act 15 = .ok (.aload_n 0, 1) := by decide +kernel
theorem dX8_act_16 : decode cX8_act 16 = .ok (.iconst 0, 1) := by decide +kernel
theorem dX8_act_17 : decode cX8_act 17 = .ok (.putfield 154, 3) := by decide +kernel
theorem dX8_act_20 : decode cX8_act 20 = .ok (.aload_n 0, 1) := by decide +kernel
theorem dX8_act_21 : decode cX8_act 21 = .ok (.iload_n 1, 1) := by decide +kernel
theorem dX8_act_22 : decode cX8_act 22 = .ok (.iload_n 2, 1) := by decide +kernel
theorem dX8_act_23 : decode cX8_act 23 = .ok (.iload_n 3, 1) := by decide +kernel
theorem dX8_act_24 : decode cX8_act 24 = .ok (.iload 4, 2) := by decide +kernel
theorem dX8_act_26 : decode cX8_act 26 = .ok (.lload 5, 2) := by decide +kernel
theorem dX8_act_28 : decode cX8_act 28 = .ok (.lload 7, 2) := by decide +kernel
theorem dX8_act_30 : decode cX8_act 30 = .ok (.invokevirtual 157, 3) := by decide +kernel
theorem dX8_act_33 : decode cX8_act 33 = .ok (.lstore 9, 2) := by decide +kernel
theorem dX8_act_35 : decode cX8_act 35 = .ok (.lload 9, 2) := by decide +kernel
theorem dX8_act_37 : decode cX8_act 37 = .ok (.lconst 0, 1) := by decide +kernel
theorem dX8_act_38 : decode cX8_act 38 = .ok (.lcmp, 1) := by decide +kernel
theorem dX8_act_39 : decode cX8_act 39 = .ok (.ifCond .ge 36, 3) := by decide +kernel
theorem dX8_act_42 : decode cX8_act 42 = .ok (.aload_n 0, 1) := by decide +kernel
theorem dX8_act_43 : decode cX8_act 43 = .ok (.lload 9, 2) := by decide +kernel
theorem dX8_act_45 : decode cX8_act 45 = .ok (.lneg, 1) := by decide +kernel
theorem dX8_act_46 : decode cX8_act 46 = .ok (.l2i, 1) := by decide +kernel
theorem dX8_act_47 : decode cX8_act 47 = .ok (.putfield 161, 3) := by decide +kernel
theorem dX8_act_50 : decode cX8_act 50 = .ok (.aload_n 0, 1) := by decide +kernel
theorem dX8_act_51 : decode cX8_act 51 = .ok (.getfield 164, 3) := by decide +kernel
theorem dX8_act_54 : decode cX8_act 54 = .ok (.ifCond .le 13, 3) := by decide +kernel
theorem dX8_act_57 : decode cX8_act 57 = .ok (.aload_n 0, 1) := by decide +kernel
theorem dX8_act_58 : decode cX8_act 58 = .ok (.aload_n 0, 1) := by decide +kernel
theorem dX8_act_59 : decode cX8_act 59 = .ok (.getfield 141, 3) := by decide +kernel
theorem dX8_act_62 : decode cX8_act 62 = .ok (.iconst 0, 1) := by decide +kernel
theorem dX8_act_63 : decode cX8_act 63 = .ok (.iaload, 1) := by decide +kernel
theorem dX8_act_64 : decode cX8_act 64 = .ok (.invokevirtual 167, 3) := by decide +kernel
theorem dX8_act_67 : decode cX8_act 67 = .ok (.aload_n 0, 1) := by decide +kernel
theorem dX8_act_68 : decode cX8_act 68 = .ok (.iconst 0, 1) := by decide +kernel
theorem dX8_act_69 : decode cX8_act 69 = .ok (.putfield 164, 3) := by decide +kernel
theorem dX8_act_72 : decode cX8_act 72 = .ok (.lload 9, 2) := by decide +kernel
theorem dX8_act_74 : decode cX8_act 74 = .ok (.lreturn, 1) := by decide +kernel
theorem dX8_act_75 : decode cX8_act 75 = .ok (.aload_n 0, 1) := by decide +kernel
theorem dX8_act_76 : decode cX8_act 76 = .ok (.iconst 0, 1) := by decide +kernel
theorem dX8_act_77 : decode cX8_act 77 = .ok (.putfield 161, 3) := by decide +kernel
theorem dX8_act_80 : decode cX8_act 80 = .ok (.iload_n 1, 1) := by decide +kernel
theorem dX8_act_81 : decode cX8_act 81 = .ok (.bipush 19, 2) := by decide +kernel
theorem dX8_act_83 : decode cX8_act 83 = .ok (.if_icmp .gt 16, 3) := by decide +kernel
theorem dX8_act_86 : decode cX8_act 86 = .ok (.aload_n 0, 1) := by decide +kernel
theorem dX8_act_87 : decode cX8_act 87 = .ok (.iload_n 1, 1) := by decide +kernel
theorem dX8_act_88 : decode cX8_act 88 = .ok (.iload_n 2, 1) := by decide +kernel
theorem dX8_act_89 : decode cX8_act 89 = .ok (.iload_n 3, 1) := by decide +kernel
theorem dX8_act_90 : decode cX8_act 90 = .ok (.iload 4, 2) := by decide +kernel
theorem dX8_act_92 : decode cX8_act 92 = .ok (.lload 5, 2) := by decide +kernel
theorem dX8_act_94 : decode cX8_act 94 = .ok (.lload 7, 2) := by decide +kernel
theorem dX8_act_96 : decode cX8_act 96 = .ok (.invokevirtual 171, 3) := by decide +kernel
theorem dX8_act_99 : decode cX8_act 99 = .ok (.lload 9, 2) := by decide +kernel
theorem dX8_act_101 : decode cX8_act 101 = .ok (.lreturn, 1) := by decide +kernel
theorem sc_X8_act_X8_done : ym_site g_X8_act g_X8_done 18 (14 + 3) 6 := ⟨by decide, by decide, wd_1032, wd_83, by decide +kernel⟩
theorem sc_X8_act_X8_note : ym_site g_X8_act g_X8_note 18 2 6 := ⟨by decide, by decide, wd_1268, wd_83, by decide +kernel⟩
def bl_X8_act_67 (N : Nat) (w0 : Option Nat) (w9 : Int64) (h : ym_H) : Option (Int64 × ym_H) :=
  Option.bind (ym_pf h w0 8 49 (.int 0)) fun h69 =>
  some (w9, h69)
set_option maxRecDepth 20000 in
set_option maxHeartbeats 4000000 in
theorem ob_X8_act_67 {D : ym_D} {b0 : Nat} {N : Nat} {w0 : Option Nat} {w9 : Int64} {h h' : ym_H} {r : Int64} (hf : bl_X8_act_67 N w0 w9 h = some (r, h')) : ym_Y D b0 g_X8_act 18 67 [(0, va_rf w0), (9, .long w9)] [] h (some (.long r)) h' := by
  unfold bl_X8_act_67 at hf
  refine ym_aload_n (pc := 67) 0 dX8_act_67 rfl rfl ?_
  refine ym_iconst (pc := 68) (v := 0) dX8_act_68 (by decide) ?_
  obtain ⟨h69, e69, hf⟩ := Option.bind_eq_some_iff.mp hf
  refine ym_put (pc := 69) (h1 := h69) dX8_act_69 rfl (by decide) iX8 tyX8 tyX8_ok nmX8 (k := 49) (by decide) wd_894 rfl (tyX8_ok 49 (by decide)) rfl rfl e69 ?_
  refine ym_lload (pc := 72) 1 dX8_act_72 rfl ?_
  cases hf
  exact ym_lret (pc := 74) dX8_act_74 rfl
theorem sc_X8_act_X8_back : ym_site g_X8_act g_X8_back 18 14 1 := ⟨by decide, by decide, wd_1264, wd_83, by decide +kernel⟩
def fn_X8_act (N : Nat) (a0 : Option Nat) (a1 : Int32) (a2 : Int32) (a3 : Int32) (a4 : Int32) (a5 : Int64) (a7 : Int64) (h : ym_H) : Option (Int64 × ym_H) :=
  Option.bind (ym_gI h a0 8 52) fun v2 =>
  Option.bind (ym_pf h a0 8 52 (.int (v2 + 1))) fun h7 =>
  Option.bind (ym_pf h7 a0 8 55 (.int 0)) fun h12 =>
  Option.bind (ym_pf h12 a0 8 57 (.int 0)) fun h17 =>
  Option.bind (ym_ob h17 a0 8) fun o30 =>
  Option.bind (fn_X8_done (fn_X8_back N) N a0 a1 a2 a3 a4 a5 a7 h17) fun q30 =>
  if 0 ≤ q30.1 then
    Option.bind (ym_pf q30.2 a0 8 53 (.int 0)) fun h77 =>
    if 19 < a1 then
      some (q30.1, h77)
    else
      Option.bind (ym_ob h77 a0 8) fun o96 =>
      Option.bind (fn_X8_note N a0 a1 a2 a3 a4 a5 a7 h77) fun q96 =>
      some (q30.1, q96.2)
  else
    Option.bind (ym_pf q30.2 a0 8 53 (.int (Int64.toInt32 (-q30.1)))) fun h47 =>
    Option.bind (ym_gI h47 a0 8 49) fun v51 =>
    if v51 ≤ 0 then
      bl_X8_act_67 N a0 q30.1 h47
    else
      Option.bind (ym_gR h47 a0 8 50) fun v59 =>
      Option.bind (ym_ldI h47 v59 0) fun v63 =>
      Option.bind (ym_ob h47 a0 8) fun o64 =>
      Option.bind (fn_X8_back N a0 v63 h47) fun q64 =>
      bl_X8_act_67 N a0 q30.1 q64.2
set_option maxRecDepth 20000 in
set_option maxHeartbeats 4000000 in
theorem ok_X8_act {D : ym_D} {b0 : Nat} {N : Nat} {a0 : Option Nat} {a1 : Int32} {a2 : Int32} {a3 : Int32} {a4 : Int32} {a5 : Int64} {a7 : Int64} {h h' : ym_H} {r : Int64} (hf : fn_X8_act N a0 a1 a2 a3 a4 a5 a7 h = some (r, h')) : ym_M D b0 g_X8_act 18 [va_rf a0, .int a1, .int a2, .int a3, .int a4, .long a5, .long a7] h (some (.long r)) h' := by
  unfold fn_X8_act at hf
  refine ym_meth (lv := [(0, va_rf a0), (1, .int a1), (2, .int a2), (3, .int a3), (4, .int a4), (5, .long a5), (7, .long a7)]) (by decide) (by simp [lg_sl, ym_c1, ym_cI, ym_cL, g_X8_act]) (by simp [lv_args, ym_c1, ym_cI, ym_cL]) ?_
  refine ym_aload_n (pc := 0) 0 dX8_act_0 rfl rfl ?_
  refine ym_dup (pc := 1) dX8_act_1 (ym_c1 a0) ?_
  obtain ⟨v2, e2, hf⟩ := Option.bind_eq_some_iff.mp hf
  refine ym_get (pc := 2) dX8_act_2 rfl (by decide) iX8 (k := 52) (by decide) wd_897 (ym_gI_v e2) ?_
  refine ym_iconst (pc := 5) (v := 1) dX8_act_5 (by decide) ?_
  refine ym_iadd (pc := 6) dX8_act_6 ?_
  obtain ⟨h7, e7, hf⟩ := Option.bind_eq_some_iff.mp hf
  refine ym_put (pc := 7) (h1 := h7) dX8_act_7 rfl (by decide) iX8 tyX8 tyX8_ok nmX8 (k := 52) (by decide) wd_897 rfl (tyX8_ok 52 (by decide)) rfl rfl e7 ?_
  refine ym_aload_n (pc := 10) 0 dX8_act_10 rfl rfl ?_
  refine ym_iconst (pc := 11) (v := 0) dX8_act_11 (by decide) ?_
  obtain ⟨h12, e12, hf⟩ := Option.bind_eq_some_iff.mp hf
  refine ym_put (pc := 12) (h1 := h12) dX8_act_12 rfl (by decide) iX8 tyX8 tyX8_ok nmX8 (k := 55) (by decide) wd_900 rfl (tyX8_ok 55 (by decide)) rfl rfl e12 ?_
  refine ym_aload_n (pc := 15) 0 dX8_act_15 rfl rfl ?_
  refine ym_iconst (pc := 16) (v := 0) dX8_act_16 (by decide) ?_
  obtain ⟨h17, e17, hf⟩ := Option.bind_eq_some_iff.mp hf
  refine ym_put (pc := 17) (h1 := h17) dX8_act_17 rfl (by decide) iX8 tyX8 tyX8_ok nmX8 (k := 57) (by decide) wd_902 rfl (tyX8_ok 57 (by decide)) rfl rfl e17 ?_
  refine ym_aload_n (pc := 20) 0 dX8_act_20 rfl rfl ?_
  refine ym_iload_n (pc := 21) 1 dX8_act_21 rfl rfl ?_
  refine ym_iload_n (pc := 22) 2 dX8_act_22 rfl rfl ?_
  refine ym_iload_n (pc := 23) 3 dX8_act_23 rfl rfl ?_
  refine ym_iload (pc := 24) 4 dX8_act_24 rfl ?_
  refine ym_lload (pc := 26) 5 dX8_act_26 rfl ?_
  refine ym_lload (pc := 28) 6 dX8_act_28 rfl ?_
  obtain ⟨o30, f30, hf⟩ := Option.bind_eq_some_iff.mp hf
  obtain ⟨q30, e30, hf⟩ := Option.bind_eq_some_iff.mp hf
  refine ym_callV (pc := 30) (G2 := g_X8_done) (dep2 := (14 + 3)) (As := [.int a1, .int a2, .int a3, .int a4, .long a5, .long a7]) (st := []) (stk2 := [.long q30.1]) (r2 := (some (.long q30.1))) (h1 := q30.2) dX8_act_30 (ok_X8_done (dk := 14) (by decide) (Kb := fn_X8_back N) (fun _ _ _ _ _ z => ok_X8_back z) e30) (sc_X8_act_X8_done) wd_1029 wd_1031 wd_22 (ci := 8) (q0 := (RX8, TX8, 58)) rfl (by decide) rfl f30 rfl rfl (ym_st4 (Nat.le_of_ble_eq_true rfl)) rfl ?_
  refine ym_lstore (pc := 33) (lv' := [(9, .long q30.1), (0, va_rf a0), (1, .int a1), (2, .int a2), (3, .int a3), (4, .int a4), (5, .long a5), (7, .long a7)]) dX8_act_33 (by decide) ⟨trivial, trivial, trivial, trivial, trivial, trivial, trivial, trivial⟩ rfl ?_
  refine ym_lload (pc := 35) 0 dX8_act_35 rfl ?_
  refine ym_lconst (pc := 37) (v := 0) dX8_act_37 (by decide) ?_
  by_cases c38 : 0 ≤ q30.1
  · rw [if_pos c38] at hf
    refine ym_lcmp_ge_y (pc := 38) (tgt := 75) dX8_act_38 dX8_act_39 (by decide) c38 ?_
    refine ym_aload_n (pc := 75) 1 dX8_act_75 rfl rfl ?_
    refine ym_iconst (pc := 76) (v := 0) dX8_act_76 (by decide) ?_
    obtain ⟨h77, e77, hf⟩ := Option.bind_eq_some_iff.mp hf
    refine ym_put (pc := 77) (h1 := h77) dX8_act_77 rfl (by decide) iX8 tyX8 tyX8_ok nmX8 (k := 53) (by decide) wd_898 rfl (tyX8_ok 53 (by decide)) rfl rfl e77 ?_
    refine ym_iload_n (pc := 80) 2 dX8_act_80 rfl rfl ?_
    refine ym_bipush (pc := 81) (v := 19) dX8_act_81 (by decide) ?_
    by_cases c83 : 19 < a1
    · rw [if_pos c83] at hf
      refine ym_icmp_gt_y (pc := 83) (tgt := 99) dX8_act_83 (by decide) c83 ?_
      refine ym_lload (pc := 99) 0 dX8_act_99 rfl ?_
      cases hf
      exact ym_lret (pc := 101) dX8_act_101 rfl
    · rw [if_neg c83] at hf
      refine ym_icmp_gt_n (pc := 83) (tgt := 99) dX8_act_83 (by decide) c83 ?_
      refine ym_aload_n (pc := 86) 1 dX8_act_86 rfl rfl ?_
      refine ym_iload_n (pc := 87) 2 dX8_act_87 rfl rfl ?_
      refine ym_iload_n (pc := 88) 3 dX8_act_88 rfl rfl ?_
      refine ym_iload_n (pc := 89) 4 dX8_act_89 rfl rfl ?_
      refine ym_iload (pc := 90) 5 dX8_act_90 rfl ?_
      refine ym_lload (pc := 92) 6 dX8_act_92 rfl ?_
      refine ym_lload (pc := 94) 7 dX8_act_94 rfl ?_
      obtain ⟨o96, f96, hf⟩ := Option.bind_eq_some_iff.mp hf
      obtain ⟨q96, e96, hf⟩ := Option.bind_eq_some_iff.mp hf
      refine ym_callV (pc := 96) (G2 := g_X8_note) (dep2 := 2) (As := [.int a1, .int a2, .int a3, .int a4, .long a5, .long a7]) (st := []) (stk2 := []) (r2 := none) (h1 := q96.2) dX8_act_96 (ok_X8_note e96) (sc_X8_act_X8_note) wd_1265 wd_1267 wd_72 (ci := 8) (q0 := (RX8, TX8, 58)) rfl (by decide) rfl f96 rfl rfl (ym_st4 (Nat.le_of_ble_eq_true rfl)) rfl ?_
      refine ym_lload (pc := 99) 0 dX8_act_99 rfl ?_
      cases hf
      exact ym_lret (pc := 101) dX8_act_101 rfl
  · rw [if_neg c38] at hf
    refine ym_lcmp_ge_n (pc := 38) (tgt := 75) dX8_act_38 dX8_act_39 (by decide) c38 ?_
    refine ym_aload_n (pc := 42) 1 dX8_act_42 rfl rfl ?_
    refine ym_lload (pc := 43) 0 dX8_act_43 rfl ?_
    refine ym_lneg (pc := 45) dX8_act_45 ?_
    refine ym_l2i (pc := 46) dX8_act_46 ?_
    obtain ⟨h47, e47, hf⟩ := Option.bind_eq_some_iff.mp hf
    refine ym_put (pc := 47) (h1 := h47) dX8_act_47 rfl (by decide) iX8 tyX8 tyX8_ok nmX8 (k := 53) (by decide) wd_898 rfl (tyX8_ok 53 (by decide)) rfl rfl e47 ?_
    refine ym_aload_n (pc := 50) 1 dX8_act_50 rfl rfl ?_
    obtain ⟨v51, e51, hf⟩ := Option.bind_eq_some_iff.mp hf
    refine ym_get (pc := 51) dX8_act_51 rfl (by decide) iX8 (k := 49) (by decide) wd_894 (ym_gI_v e51) ?_
    by_cases c54 : v51 ≤ 0
    · rw [if_pos c54] at hf
      refine ym_if_le_y (pc := 54) (tgt := 67) dX8_act_54 (by decide) c54 ?_
      exact ym_sub [1, 0] rfl (ob_X8_act_67 hf)
    · rw [if_neg c54] at hf
      refine ym_if_le_n (pc := 54) (tgt := 67) dX8_act_54 (by decide) c54 ?_
      refine ym_aload_n (pc := 57) 1 dX8_act_57 rfl rfl ?_
      refine ym_aload_n (pc := 58) 1 dX8_act_58 rfl rfl ?_
      obtain ⟨v59, e59, hf⟩ := Option.bind_eq_some_iff.mp hf
      refine ym_get (pc := 59) dX8_act_59 rfl (by decide) iX8 (k := 50) (by decide) wd_895 (ym_gR_v e59) ?_
      refine ym_iconst (pc := 62) (v := 0) dX8_act_62 (by decide) ?_
      obtain ⟨v63, e63, hf⟩ := Option.bind_eq_some_iff.mp hf
      refine ym_iald (pc := 63) dX8_act_63 rfl (ym_ldI_v e63) ?_
      obtain ⟨o64, f64, hf⟩ := Option.bind_eq_some_iff.mp hf
      obtain ⟨q64, e64, hf⟩ := Option.bind_eq_some_iff.mp hf
      refine ym_callV (pc := 64) (G2 := g_X8_back) (dep2 := 14) (As := [.int v63]) (st := []) (stk2 := []) (r2 := none) (h1 := q64.2) dX8_act_64 (ok_X8_back e64) (sc_X8_act_X8_back) wd_1261 wd_1263 wd_71 (ci := 8) (q0 := (RX8, TX8, 58)) rfl (by decide) rfl f64 rfl rfl (ym_st4 (Nat.le_of_ble_eq_true rfl)) rfl ?_
      exact ym_sub [1, 0] rfl (ob_X8_act_67 hf)
theorem dX8_ask_0 : decode cX8_ask 0 = .ok (.aload_n 0, 1) := by decide +kernel
theorem dX8_ask_1 : decode cX8_ask 1 = .ok (.bipush 20, 2) := by decide +kernel
theorem dX8_ask_3 : decode cX8_ask 3 = .ok (.iload_n 1, 1) := by decide +kernel
theorem dX8_ask_4 : decode cX8_ask 4 = .ok (.iconst 0, 1) := by decide +kernel
theorem dX8_ask_5 : decode cX8_ask 5 = .ok (.iconst 0, 1) := by decide +kernel
theorem dX8_ask_6 : decode cX8_ask 6 = .ok (.lconst 0, 1) := by decide +kernel
theorem dX8_ask_7 : decode cX8_ask 7 = .ok (.lconst 0, 1) := by decide +kernel
theorem dX8_ask_8 : decode cX8_ask 8 = .ok (.invokevirtual 420, 3) := by decide +kernel
theorem dX8_ask_11 : decode cX8_ask 11 = .ok (.lreturn, 1) := by decide +kernel
theorem sc_X8_ask_X8_act : ym_site g_X8_ask g_X8_act 19 18 6 := ⟨by decide, by decide, wd_1028, wd_83, by decide +kernel⟩
def fn_X8_ask (N : Nat) (a0 : Option Nat) (a1 : Int32) (h : ym_H) : Option (Int64 × ym_H) :=
  Option.bind (ym_ob h a0 8) fun o8 =>
  Option.bind (fn_X8_act N a0 20 a1 0 0 0 0 h) fun q8 =>
  some (q8.1, q8.2)
set_option maxRecDepth 20000 in
set_option maxHeartbeats 4000000 in
theorem ok_X8_ask {D : ym_D} {b0 : Nat} {N : Nat} {a0 : Option Nat} {a1 : Int32} {h h' : ym_H} {r : Int64} (hf : fn_X8_ask N a0 a1 h = some (r, h')) : ym_M D b0 g_X8_ask 19 [va_rf a0, .int a1] h (some (.long r)) h' := by
  unfold fn_X8_ask at hf
  refine ym_meth (lv := [(0, va_rf a0), (1, .int a1)]) (by decide) (by simp [lg_sl, ym_c1, ym_cI, ym_cL, g_X8_ask]) (by simp [lv_args, ym_c1, ym_cI, ym_cL]) ?_
  refine ym_aload_n (pc := 0) 0 dX8_ask_0 rfl rfl ?_
  refine ym_bipush (pc := 1) (v := 20) dX8_ask_1 (by decide) ?_
  refine ym_iload_n (pc := 3) 1 dX8_ask_3 rfl rfl ?_
  refine ym_iconst (pc := 4) (v := 0) dX8_ask_4 (by decide) ?_
  refine ym_iconst (pc := 5) (v := 0) dX8_ask_5 (by decide) ?_
  refine ym_lconst (pc := 6) (v := 0) dX8_ask_6 (by decide) ?_
  refine ym_lconst (pc := 7) (v := 0) dX8_ask_7 (by decide) ?_
  obtain ⟨o8, f8, hf⟩ := Option.bind_eq_some_iff.mp hf
  obtain ⟨q8, e8, hf⟩ := Option.bind_eq_some_iff.mp hf
  refine ym_callV (pc := 8) (G2 := g_X8_act) (dep2 := 18) (As := [.int 20, .int a1, .int 0, .int 0, .long 0, .long 0]) (st := []) (stk2 := [.long q8.1]) (r2 := (some (.long q8.1))) (h1 := q8.2) dX8_ask_8 (ok_X8_act e8) (sc_X8_ask_X8_act) wd_1025 wd_1027 wd_21 (ci := 8) (q0 := (RX8, TX8, 58)) rfl (by decide) rfl f8 rfl rfl (ym_st4 (Nat.le_of_ble_eq_true rfl)) rfl ?_
  cases hf
  exact ym_lret (pc := 11) dX8_ask_11 rfl
theorem dX8_isBidder_0 : decode cX8_isBidder 0 = .ok (.aload_n 0, 1) := by decide +kernel
theorem dX8_isBidder_1 : decode cX8_isBidder 1 = .ok (.iload_n 1, 1) := by decide +kernel
theorem dX8_isBidder_2 : decode cX8_isBidder 2 = .ok (.invokevirtual 343, 3) := by decide +kernel
theorem dX8_isBidder_5 : decode cX8_isBidder 5 = .ok (.ifCond .ne 7, 3) := by decide +kernel
theorem dX8_isBidder_8 : decode cX8_isBidder 8 = .ok (.iconst 1, 1) := by decide +kernel
theorem dX8_isBidder_9 : decode cX8_isBidder 9 = .ok (.goto 4, 3) := by decide +kernel
theorem dX8_isBidder_12 : decode cX8_isBidder 12 = .ok (.iconst 0, 1) := by decide +kernel
theorem dX8_isBidder_13 : decode cX8_isBidder 13 = .ok (.ireturn, 1) := by decide +kernel
theorem sc_X8_isBidder_X8_noBidder : ym_site g_X8_isBidder g_X8_noBidder 2 1 1 := ⟨by decide, by decide, wd_1062, wd_83, by decide +kernel⟩
def fn_X8_isBidder (N : Nat) (a0 : Option Nat) (a1 : Int32) (h : ym_H) : Option (Int32 × ym_H) :=
  Option.bind (ym_ob h a0 8) fun o2 =>
  Option.bind (fn_X8_noBidder N a0 a1 h) fun q2 =>
  if q2.1 = 0 then
    some (1, q2.2)
  else
    some (0, q2.2)
set_option maxRecDepth 20000 in
set_option maxHeartbeats 4000000 in
theorem ok_X8_isBidder {D : ym_D} {b0 : Nat} {N : Nat} {a0 : Option Nat} {a1 : Int32} {h h' : ym_H} {r : Int32} (hf : fn_X8_isBidder N a0 a1 h = some (r, h')) : ym_M D b0 g_X8_isBidder 2 [va_rf a0, .int a1] h (some (.int r)) h' := by
  unfold fn_X8_isBidder at hf
  refine ym_meth (lv := [(0, va_rf a0), (1, .int a1)]) (by decide) (by simp [lg_sl, ym_c1, ym_cI, ym_cL, g_X8_isBidder]) (by simp [lv_args, ym_c1, ym_cI, ym_cL]) ?_
  refine ym_aload_n (pc := 0) 0 dX8_isBidder_0 rfl rfl ?_
  refine ym_iload_n (pc := 1) 1 dX8_isBidder_1 rfl rfl ?_
  obtain ⟨o2, f2, hf⟩ := Option.bind_eq_some_iff.mp hf
  obtain ⟨q2, e2, hf⟩ := Option.bind_eq_some_iff.mp hf
  refine ym_callV (pc := 2) (G2 := g_X8_noBidder) (dep2 := 1) (As := [.int a1]) (st := []) (stk2 := [.int q2.1]) (r2 := (some (.int q2.1))) (h1 := q2.2) dX8_isBidder_2 (ok_X8_noBidder e2) (sc_X8_isBidder_X8_noBidder) wd_1059 wd_1061 wd_28 (ci := 8) (q0 := (RX8, TX8, 58)) rfl (by decide) rfl f2 rfl rfl (ym_st4 (Nat.le_of_ble_eq_true rfl)) rfl ?_
  by_cases c5 : q2.1 = 0
  · rw [if_pos c5] at hf
    refine ym_if_ne_y (pc := 5) (tgt := 12) dX8_isBidder_5 (by decide) c5 ?_
    refine ym_iconst (pc := 8) (v := 1) dX8_isBidder_8 (by decide) ?_
    refine ym_goto (pc := 9) (tgt := 13) dX8_isBidder_9 (by decide) ?_
    cases hf
    exact ym_zret (pc := 13) dX8_isBidder_13 rfl rfl
  · rw [if_neg c5] at hf
    refine ym_if_ne_n (pc := 5) (tgt := 12) dX8_isBidder_5 (by decide) c5 ?_
    refine ym_iconst (pc := 12) (v := 0) dX8_isBidder_12 (by decide) ?_
    cases hf
    exact ym_zret (pc := 13) dX8_isBidder_13 rfl rfl
theorem dX8_balance_0 : decode cX8_balance 0 = .ok (.aload_n 0, 1) := by decide +kernel
theorem dX8_balance_1 : decode cX8_balance 1 = .ok (.iload_n 1, 1) := by decide +kernel
theorem dX8_balance_2 : decode cX8_balance 2 = .ok (.invokevirtual 426, 3) := by decide +kernel
theorem dX8_balance_5 : decode cX8_balance 5 = .ok (.ifCond .eq 12, 3) := by decide +kernel
theorem dX8_balance_8 : decode cX8_balance 8 = .ok (.aload_n 0, 1) := by decide +kernel
theorem dX8_balance_9 : decode cX8_balance 9 = .ok (.getfield 17, 3) := by decide +kernel
theorem dX8_balance_12 : decode cX8_balance 12 = .ok (.iload_n 1, 1) := by decide +kernel
theorem dX8_balance_13 : decode cX8_balance 13 = .ok (.laload, 1) := by decide +kernel
theorem dX8_balance_14 : decode cX8_balance 14 = .ok (.goto 4, 3) := by decide +kernel
theorem dX8_balance_17 : decode cX8_balance 17 = .ok (.lconst 0, 1) := by decide +kernel
theorem dX8_balance_18 : decode cX8_balance 18 = .ok (.lreturn, 1) := by decide +kernel
theorem sc_X8_balance_X8_isBidder : ym_site g_X8_balance g_X8_isBidder 3 2 1 := ⟨by decide, by decide, wd_1380, wd_83, by decide +kernel⟩
def fn_X8_balance (N : Nat) (a0 : Option Nat) (a1 : Int32) (h : ym_H) : Option (Int64 × ym_H) :=
  Option.bind (ym_ob h a0 8) fun o2 =>
  Option.bind (fn_X8_isBidder N a0 a1 h) fun q2 =>
  if q2.1 = 0 then
    some (0, q2.2)
  else
    Option.bind (ym_gR q2.2 a0 8 3) fun v9 =>
    Option.bind (ym_ldL q2.2 v9 a1) fun v13 =>
    some (v13, q2.2)
set_option maxRecDepth 20000 in
set_option maxHeartbeats 4000000 in
theorem ok_X8_balance {D : ym_D} {b0 : Nat} {N : Nat} {a0 : Option Nat} {a1 : Int32} {h h' : ym_H} {r : Int64} (hf : fn_X8_balance N a0 a1 h = some (r, h')) : ym_M D b0 g_X8_balance 3 [va_rf a0, .int a1] h (some (.long r)) h' := by
  unfold fn_X8_balance at hf
  refine ym_meth (lv := [(0, va_rf a0), (1, .int a1)]) (by decide) (by simp [lg_sl, ym_c1, ym_cI, ym_cL, g_X8_balance]) (by simp [lv_args, ym_c1, ym_cI, ym_cL]) ?_
  refine ym_aload_n (pc := 0) 0 dX8_balance_0 rfl rfl ?_
  refine ym_iload_n (pc := 1) 1 dX8_balance_1 rfl rfl ?_
  obtain ⟨o2, f2, hf⟩ := Option.bind_eq_some_iff.mp hf
  obtain ⟨q2, e2, hf⟩ := Option.bind_eq_some_iff.mp hf
  refine ym_callV (pc := 2) (G2 := g_X8_isBidder) (dep2 := 2) (As := [.int a1]) (st := []) (stk2 := [.int q2.1]) (r2 := (some (.int q2.1))) (h1 := q2.2) dX8_balance_2 (ok_X8_isBidder e2) (sc_X8_balance_X8_isBidder) wd_1377 wd_1379 wd_74 (ci := 8) (q0 := (RX8, TX8, 58)) rfl (by decide) rfl f2 rfl rfl (ym_st4 (Nat.le_of_ble_eq_true rfl)) rfl ?_
  by_cases c5 : q2.1 = 0
  · rw [if_pos c5] at hf
    refine ym_if_eq_y (pc := 5) (tgt := 17) dX8_balance_5 (by decide) c5 ?_
    refine ym_lconst (pc := 17) (v := 0) dX8_balance_17 (by decide) ?_
    cases hf
    exact ym_lret (pc := 18) dX8_balance_18 rfl
  · rw [if_neg c5] at hf
    refine ym_if_eq_n (pc := 5) (tgt := 17) dX8_balance_5 (by decide) c5 ?_
    refine ym_aload_n (pc := 8) 0 dX8_balance_8 rfl rfl ?_
    obtain ⟨v9, e9, hf⟩ := Option.bind_eq_some_iff.mp hf
    refine ym_get (pc := 9) dX8_balance_9 rfl (by decide) iX8 (k := 3) (by decide) wd_848 (ym_gR_v e9) ?_
    refine ym_iload_n (pc := 12) 1 dX8_balance_12 rfl rfl ?_
    obtain ⟨v13, e13, hf⟩ := Option.bind_eq_some_iff.mp hf
    refine ym_lald (pc := 13) dX8_balance_13 rfl (ym_ldL_v e13) ?_
    refine ym_goto (pc := 14) (tgt := 18) dX8_balance_14 (by decide) ?_
    cases hf
    exact ym_lret (pc := 18) dX8_balance_18 rfl
theorem dX8_batch_0 : decode cX8_batch 0 = .ok (.aload_n 0, 1) := by decide +kernel
theorem dX8_batch_1 : decode cX8_batch 1 = .ok (.bipush 23, 2) := by decide +kernel
theorem dX8_batch_3 : decode cX8_batch 3 = .ok (.iconst 0, 1) := by decide +kernel
theorem dX8_batch_4 : decode cX8_batch 4 = .ok (.iconst 0, 1) := by decide +kernel
theorem dX8_batch_5 : decode cX8_batch 5 = .ok (.iconst 0, 1) := by decide +kernel
theorem dX8_batch_6 : decode cX8_batch 6 = .ok (.lconst 0, 1) := by decide +kernel
theorem dX8_batch_7 : decode cX8_batch 7 = .ok (.lconst 0, 1) := by decide +kernel
theorem dX8_batch_8 : decode cX8_batch 8 = .ok (.invokevirtual 420, 3) := by decide +kernel
theorem dX8_batch_11 : decode cX8_batch 11 = .ok (.lreturn, 1) := by decide +kernel
theorem sc_X8_batch_X8_act : ym_site g_X8_batch g_X8_act 19 18 6 := ⟨by decide, by decide, wd_1028, wd_83, by decide +kernel⟩
def fn_X8_batch (N : Nat) (a0 : Option Nat) (h : ym_H) : Option (Int64 × ym_H) :=
  Option.bind (ym_ob h a0 8) fun o8 =>
  Option.bind (fn_X8_act N a0 23 0 0 0 0 0 h) fun q8 =>
  some (q8.1, q8.2)
set_option maxRecDepth 20000 in
set_option maxHeartbeats 4000000 in
theorem ok_X8_batch {D : ym_D} {b0 : Nat} {N : Nat} {a0 : Option Nat} {h h' : ym_H} {r : Int64} (hf : fn_X8_batch N a0 h = some (r, h')) : ym_M D b0 g_X8_batch 19 [va_rf a0] h (some (.long r)) h' := by
  unfold fn_X8_batch at hf
  refine ym_meth (lv := [(0, va_rf a0)]) (by decide) (by simp [lg_sl, ym_c1, ym_cI, ym_cL, g_X8_batch]) (by simp [lv_args, ym_c1, ym_cI, ym_cL]) ?_
  refine ym_aload_n (pc := 0) 0 dX8_batch_0 rfl rfl ?_
  refine ym_bipush (pc := 1) (v := 23) dX8_batch_1 (by decide) ?_
  refine ym_iconst (pc := 3) (v := 0) dX8_batch_3 (by decide) ?_
  refine ym_iconst (pc := 4) (v := 0) dX8_batch_4 (by decide) ?_
  refine ym_iconst (pc := 5) (v := 0) dX8_batch_5 (by decide) ?_
  refine ym_lconst (pc := 6) (v := 0) dX8_batch_6 (by decide) ?_
  refine ym_lconst (pc := 7) (v := 0) dX8_batch_7 (by decide) ?_
  obtain ⟨o8, f8, hf⟩ := Option.bind_eq_some_iff.mp hf
  obtain ⟨q8, e8, hf⟩ := Option.bind_eq_some_iff.mp hf
  refine ym_callV (pc := 8) (G2 := g_X8_act) (dep2 := 18) (As := [.int 23, .int 0, .int 0, .int 0, .long 0, .long 0]) (st := []) (stk2 := [.long q8.1]) (r2 := (some (.long q8.1))) (h1 := q8.2) dX8_batch_8 (ok_X8_act e8) (sc_X8_batch_X8_act) wd_1025 wd_1027 wd_21 (ci := 8) (q0 := (RX8, TX8, 58)) rfl (by decide) rfl f8 rfl rfl (ym_st4 (Nat.le_of_ble_eq_true rfl)) rfl ?_
  cases hf
  exact ym_lret (pc := 11) dX8_batch_11 rfl
theorem dX8_batches_0 : decode cX8_batches 0 = .ok (.aload_n 0, 1) := by decide +kernel
theorem dX8_batches_1 : decode cX8_batches 1 = .ok (.getfield 164, 3) := by decide +kernel
theorem dX8_batches_4 : decode cX8_batches 4 = .ok (.ireturn, 1) := by decide +kernel
def fn_X8_batches (N : Nat) (a0 : Option Nat) (h : ym_H) : Option (Int32 × ym_H) :=
  Option.bind (ym_gI h a0 8 49) fun v1 =>
  some (v1, h)
set_option maxRecDepth 20000 in
set_option maxHeartbeats 4000000 in
theorem ok_X8_batches {D : ym_D} {b0 : Nat} {N : Nat} {a0 : Option Nat} {h h' : ym_H} {r : Int32} (hf : fn_X8_batches N a0 h = some (r, h')) : ym_M D b0 g_X8_batches 1 [va_rf a0] h (some (.int r)) h' := by
  unfold fn_X8_batches at hf
  refine ym_meth (lv := [(0, va_rf a0)]) (by decide) (by simp [lg_sl, ym_c1, ym_cI, ym_cL, g_X8_batches]) (by simp [lv_args, ym_c1, ym_cI, ym_cL]) ?_
  refine ym_aload_n (pc := 0) 0 dX8_batches_0 rfl rfl ?_
  obtain ⟨v1, e1, hf⟩ := Option.bind_eq_some_iff.mp hf
  refine ym_get (pc := 1) dX8_batches_1 rfl (by decide) iX8 (k := 49) (by decide) wd_894 (ym_gI_v e1) ?_
  cases hf
  exact ym_iret (pc := 4) dX8_batches_4 rfl
theorem dX8_bid_0 : decode cX8_bid 0 = .ok (.aload_n 0, 1) := by decide +kernel
theorem dX8_bid_1 : decode cX8_bid 1 = .ok (.bipush 9, 2) := by decide +kernel
theorem dX8_bid_3 : decode cX8_bid 3 = .ok (.iload_n 1, 1) := by decide +kernel
theorem dX8_bid_4 : decode cX8_bid 4 = .ok (.iload_n 2, 1) := by decide +kernel
theorem dX8_bid_5 : decode cX8_bid 5 = .ok (.iconst 0, 1) := by decide +kernel
theorem dX8_bid_6 : decode cX8_bid 6 = .ok (.lload_n 3, 1) := by decide +kernel
theorem dX8_bid_7 : decode cX8_bid 7 = .ok (.lconst 0, 1) := by decide +kernel
theorem dX8_bid_8 : decode cX8_bid 8 = .ok (.invokevirtual 420, 3) := by decide +kernel
theorem dX8_bid_11 : decode cX8_bid 11 = .ok (.lreturn, 1) := by decide +kernel
theorem sc_X8_bid_X8_act : ym_site g_X8_bid g_X8_act 19 18 6 := ⟨by decide, by decide, wd_1028, wd_83, by decide +kernel⟩
def fn_X8_bid (N : Nat) (a0 : Option Nat) (a1 : Int32) (a2 : Int32) (a3 : Int64) (h : ym_H) : Option (Int64 × ym_H) :=
  Option.bind (ym_ob h a0 8) fun o8 =>
  Option.bind (fn_X8_act N a0 9 a1 a2 0 a3 0 h) fun q8 =>
  some (q8.1, q8.2)
set_option maxRecDepth 20000 in
set_option maxHeartbeats 4000000 in
theorem ok_X8_bid {D : ym_D} {b0 : Nat} {N : Nat} {a0 : Option Nat} {a1 : Int32} {a2 : Int32} {a3 : Int64} {h h' : ym_H} {r : Int64} (hf : fn_X8_bid N a0 a1 a2 a3 h = some (r, h')) : ym_M D b0 g_X8_bid 19 [va_rf a0, .int a1, .int a2, .long a3] h (some (.long r)) h' := by
  unfold fn_X8_bid at hf
  refine ym_meth (lv := [(0, va_rf a0), (1, .int a1), (2, .int a2), (3, .long a3)]) (by decide) (by simp [lg_sl, ym_c1, ym_cI, ym_cL, g_X8_bid]) (by simp [lv_args, ym_c1, ym_cI, ym_cL]) ?_
  refine ym_aload_n (pc := 0) 0 dX8_bid_0 rfl rfl ?_
  refine ym_bipush (pc := 1) (v := 9) dX8_bid_1 (by decide) ?_
  refine ym_iload_n (pc := 3) 1 dX8_bid_3 rfl rfl ?_
  refine ym_iload_n (pc := 4) 2 dX8_bid_4 rfl rfl ?_
  refine ym_iconst (pc := 5) (v := 0) dX8_bid_5 (by decide) ?_
  refine ym_lload_n (pc := 6) 3 dX8_bid_6 rfl rfl ?_
  refine ym_lconst (pc := 7) (v := 0) dX8_bid_7 (by decide) ?_
  obtain ⟨o8, f8, hf⟩ := Option.bind_eq_some_iff.mp hf
  obtain ⟨q8, e8, hf⟩ := Option.bind_eq_some_iff.mp hf
  refine ym_callV (pc := 8) (G2 := g_X8_act) (dep2 := 18) (As := [.int 9, .int a1, .int a2, .int 0, .long a3, .long 0]) (st := []) (stk2 := [.long q8.1]) (r2 := (some (.long q8.1))) (h1 := q8.2) dX8_bid_8 (ok_X8_act e8) (sc_X8_bid_X8_act) wd_1025 wd_1027 wd_21 (ci := 8) (q0 := (RX8, TX8, 58)) rfl (by decide) rfl f8 rfl rfl (ym_st4 (Nat.le_of_ble_eq_true rfl)) rfl ?_
  cases hf
  exact ym_lret (pc := 11) dX8_bid_11 rfl
theorem dX8_bidder_0 : decode cX8_bidder 0 = .ok (.aload_n 0, 1) := by decide +kernel
theorem dX8_bidder_1 : decode cX8_bidder 1 = .ok (.iconst 1, 1) := by decide +kernel
theorem dX8_bidder_2 : decode cX8_bidder 2 = .ok (.iload_n 1, 1) := by decide +kernel
theorem dX8_bidder_3 : decode cX8_bidder 3 = .ok (.iconst 0, 1) := by decide +kernel
theorem dX8_bidder_4 : decode cX8_bidder 4 = .ok (.iconst 0, 1) := by decide +kernel
theorem dX8_bidder_5 : decode cX8_bidder 5 = .ok (.lload_n 2, 1) := by decide +kernel
theorem dX8_bidder_6 : decode cX8_bidder 6 = .ok (.lconst 0, 1) := by decide +kernel
theorem dX8_bidder_7 : decode cX8_bidder 7 = .ok (.invokevirtual 420, 3) := by decide +kernel
theorem dX8_bidder_10 : decode cX8_bidder 10 = .ok (.lreturn, 1) := by decide +kernel
theorem sc_X8_bidder_X8_act : ym_site g_X8_bidder g_X8_act 19 18 6 := ⟨by decide, by decide, wd_1028, wd_83, by decide +kernel⟩
def fn_X8_bidder (N : Nat) (a0 : Option Nat) (a1 : Int32) (a2 : Int64) (h : ym_H) : Option (Int64 × ym_H) :=
  Option.bind (ym_ob h a0 8) fun o7 =>
  Option.bind (fn_X8_act N a0 1 a1 0 0 a2 0 h) fun q7 =>
  some (q7.1, q7.2)
set_option maxRecDepth 20000 in
set_option maxHeartbeats 4000000 in
theorem ok_X8_bidder {D : ym_D} {b0 : Nat} {N : Nat} {a0 : Option Nat} {a1 : Int32} {a2 : Int64} {h h' : ym_H} {r : Int64} (hf : fn_X8_bidder N a0 a1 a2 h = some (r, h')) : ym_M D b0 g_X8_bidder 19 [va_rf a0, .int a1, .long a2] h (some (.long r)) h' := by
  unfold fn_X8_bidder at hf
  refine ym_meth (lv := [(0, va_rf a0), (1, .int a1), (2, .long a2)]) (by decide) (by simp [lg_sl, ym_c1, ym_cI, ym_cL, g_X8_bidder]) (by simp [lv_args, ym_c1, ym_cI, ym_cL]) ?_
  refine ym_aload_n (pc := 0) 0 dX8_bidder_0 rfl rfl ?_
  refine ym_iconst (pc := 1) (v := 1) dX8_bidder_1 (by decide) ?_
  refine ym_iload_n (pc := 2) 1 dX8_bidder_2 rfl rfl ?_
  refine ym_iconst (pc := 3) (v := 0) dX8_bidder_3 (by decide) ?_
  refine ym_iconst (pc := 4) (v := 0) dX8_bidder_4 (by decide) ?_
  refine ym_lload_n (pc := 5) 2 dX8_bidder_5 rfl rfl ?_
  refine ym_lconst (pc := 6) (v := 0) dX8_bidder_6 (by decide) ?_
  obtain ⟨o7, f7, hf⟩ := Option.bind_eq_some_iff.mp hf
  obtain ⟨q7, e7, hf⟩ := Option.bind_eq_some_iff.mp hf
  refine ym_callV (pc := 7) (G2 := g_X8_act) (dep2 := 18) (As := [.int 1, .int a1, .int 0, .int 0, .long a2, .long 0]) (st := []) (stk2 := [.long q7.1]) (r2 := (some (.long q7.1))) (h1 := q7.2) dX8_bidder_7 (ok_X8_act e7) (sc_X8_bidder_X8_act) wd_1025 wd_1027 wd_21 (ci := 8) (q0 := (RX8, TX8, 58)) rfl (by decide) rfl f7 rfl rfl (ym_st4 (Nat.le_of_ble_eq_true rfl)) rfl ?_
  cases hf
  exact ym_lret (pc := 10) dX8_bidder_10 rfl
theorem dX8_bidderAt_0 : decode cX8_bidderAt 0 = .ok (.aload_n 0, 1) := by decide +kernel
theorem dX8_bidderAt_1 : decode cX8_bidderAt 1 = .ok (.bipush 21, 2) := by decide +kernel
theorem dX8_bidderAt_3 : decode cX8_bidderAt 3 = .ok (.iload_n 1, 1) := by decide +kernel
theorem dX8_bidderAt_4 : decode cX8_bidderAt 4 = .ok (.iload_n 2, 1) := by decide +kernel
theorem dX8_bidderAt_5 : decode cX8_bidderAt 5 = .ok (.iconst 0, 1) := by decide +kernel
theorem dX8_bidderAt_6 : decode cX8_bidderAt 6 = .ok (.lconst 0, 1) := by decide +kernel
theorem dX8_bidderAt_7 : decode cX8_bidderAt 7 = .ok (.lconst 0, 1) := by decide +kernel
theorem dX8_bidderAt_8 : decode cX8_bidderAt 8 = .ok (.invokevirtual 420, 3) := by decide +kernel
theorem dX8_bidderAt_11 : decode cX8_bidderAt 11 = .ok (.lreturn, 1) := by decide +kernel
theorem sc_X8_bidderAt_X8_act : ym_site g_X8_bidderAt g_X8_act 19 18 6 := ⟨by decide, by decide, wd_1028, wd_83, by decide +kernel⟩
def fn_X8_bidderAt (N : Nat) (a0 : Option Nat) (a1 : Int32) (a2 : Int32) (h : ym_H) : Option (Int64 × ym_H) :=
  Option.bind (ym_ob h a0 8) fun o8 =>
  Option.bind (fn_X8_act N a0 21 a1 a2 0 0 0 h) fun q8 =>
  some (q8.1, q8.2)
set_option maxRecDepth 20000 in
set_option maxHeartbeats 4000000 in
theorem ok_X8_bidderAt {D : ym_D} {b0 : Nat} {N : Nat} {a0 : Option Nat} {a1 : Int32} {a2 : Int32} {h h' : ym_H} {r : Int64} (hf : fn_X8_bidderAt N a0 a1 a2 h = some (r, h')) : ym_M D b0 g_X8_bidderAt 19 [va_rf a0, .int a1, .int a2] h (some (.long r)) h' := by
  unfold fn_X8_bidderAt at hf
  refine ym_meth (lv := [(0, va_rf a0), (1, .int a1), (2, .int a2)]) (by decide) (by simp [lg_sl, ym_c1, ym_cI, ym_cL, g_X8_bidderAt]) (by simp [lv_args, ym_c1, ym_cI, ym_cL]) ?_
  refine ym_aload_n (pc := 0) 0 dX8_bidderAt_0 rfl rfl ?_
  refine ym_bipush (pc := 1) (v := 21) dX8_bidderAt_1 (by decide) ?_
  refine ym_iload_n (pc := 3) 1 dX8_bidderAt_3 rfl rfl ?_
  refine ym_iload_n (pc := 4) 2 dX8_bidderAt_4 rfl rfl ?_
  refine ym_iconst (pc := 5) (v := 0) dX8_bidderAt_5 (by decide) ?_
  refine ym_lconst (pc := 6) (v := 0) dX8_bidderAt_6 (by decide) ?_
  refine ym_lconst (pc := 7) (v := 0) dX8_bidderAt_7 (by decide) ?_
  obtain ⟨o8, f8, hf⟩ := Option.bind_eq_some_iff.mp hf
  obtain ⟨q8, e8, hf⟩ := Option.bind_eq_some_iff.mp hf
  refine ym_callV (pc := 8) (G2 := g_X8_act) (dep2 := 18) (As := [.int 21, .int a1, .int a2, .int 0, .long 0, .long 0]) (st := []) (stk2 := [.long q8.1]) (r2 := (some (.long q8.1))) (h1 := q8.2) dX8_bidderAt_8 (ok_X8_act e8) (sc_X8_bidderAt_X8_act) wd_1025 wd_1027 wd_21 (ci := 8) (q0 := (RX8, TX8, 58)) rfl (by decide) rfl f8 rfl rfl (ym_st4 (Nat.le_of_ble_eq_true rfl)) rfl ?_
  cases hf
  exact ym_lret (pc := 11) dX8_bidderAt_11 rfl
theorem dX8_bidderKind_0 : decode cX8_bidderKind 0 = .ok (.aload_n 0, 1) := by decide +kernel
theorem dX8_bidderKind_1 : decode cX8_bidderKind 1 = .ok (.iload_n 1, 1) := by decide +kernel
theorem dX8_bidderKind_2 : decode cX8_bidderKind 2 = .ok (.invokevirtual 426, 3) := by decide +kernel
theorem dX8_bidderKind_5 : decode cX8_bidderKind 5 = .ok (.ifCond .eq 12, 3) := by decide +kernel
theorem dX8_bidderKind_8 : decode cX8_bidderKind 8 = .ok (.aload_n 0, 1) := by decide +kernel
theorem dX8_bidderKind_9 : decode cX8_bidderKind 9 = .ok (.getfield 9, 3) := by decide +kernel
theorem dX8_bidderKind_12 : decode cX8_bidderKind 12 = .ok (.iload_n 1, 1) := by decide +kernel
theorem dX8_bidderKind_13 : decode cX8_bidderKind 13 = .ok (.iaload, 1) := by decide +kernel
theorem dX8_bidderKind_14 : decode cX8_bidderKind 14 = .ok (.goto 4, 3) := by decide +kernel
theorem dX8_bidderKind_17 : decode cX8_bidderKind 17 = .ok (.iconst 0, 1) := by decide +kernel
theorem dX8_bidderKind_18 : decode cX8_bidderKind 18 = .ok (.ireturn, 1) := by decide +kernel
theorem sc_X8_bidderKind_X8_isBidder : ym_site g_X8_bidderKind g_X8_isBidder 3 2 1 := ⟨by decide, by decide, wd_1380, wd_83, by decide +kernel⟩
def fn_X8_bidderKind (N : Nat) (a0 : Option Nat) (a1 : Int32) (h : ym_H) : Option (Int32 × ym_H) :=
  Option.bind (ym_ob h a0 8) fun o2 =>
  Option.bind (fn_X8_isBidder N a0 a1 h) fun q2 =>
  if q2.1 = 0 then
    some (0, q2.2)
  else
    Option.bind (ym_gR q2.2 a0 8 1) fun v9 =>
    Option.bind (ym_ldI q2.2 v9 a1) fun v13 =>
    some (v13, q2.2)
set_option maxRecDepth 20000 in
set_option maxHeartbeats 4000000 in
theorem ok_X8_bidderKind {D : ym_D} {b0 : Nat} {N : Nat} {a0 : Option Nat} {a1 : Int32} {h h' : ym_H} {r : Int32} (hf : fn_X8_bidderKind N a0 a1 h = some (r, h')) : ym_M D b0 g_X8_bidderKind 3 [va_rf a0, .int a1] h (some (.int r)) h' := by
  unfold fn_X8_bidderKind at hf
  refine ym_meth (lv := [(0, va_rf a0), (1, .int a1)]) (by decide) (by simp [lg_sl, ym_c1, ym_cI, ym_cL, g_X8_bidderKind]) (by simp [lv_args, ym_c1, ym_cI, ym_cL]) ?_
  refine ym_aload_n (pc := 0) 0 dX8_bidderKind_0 rfl rfl ?_
  refine ym_iload_n (pc := 1) 1 dX8_bidderKind_1 rfl rfl ?_
  obtain ⟨o2, f2, hf⟩ := Option.bind_eq_some_iff.mp hf
  obtain ⟨q2, e2, hf⟩ := Option.bind_eq_some_iff.mp hf
  refine ym_callV (pc := 2) (G2 := g_X8_isBidder) (dep2 := 2) (As := [.int a1]) (st := []) (stk2 := [.int q2.1]) (r2 := (some (.int q2.1))) (h1 := q2.2) dX8_bidderKind_2 (ok_X8_isBidder e2) (sc_X8_bidderKind_X8_isBidder) wd_1377 wd_1379 wd_74 (ci := 8) (q0 := (RX8, TX8, 58)) rfl (by decide) rfl f2 rfl rfl (ym_st4 (Nat.le_of_ble_eq_true rfl)) rfl ?_
  by_cases c5 : q2.1 = 0
  · rw [if_pos c5] at hf
    refine ym_if_eq_y (pc := 5) (tgt := 17) dX8_bidderKind_5 (by decide) c5 ?_
    refine ym_iconst (pc := 17) (v := 0) dX8_bidderKind_17 (by decide) ?_
    cases hf
    exact ym_iret (pc := 18) dX8_bidderKind_18 rfl
  · rw [if_neg c5] at hf
    refine ym_if_eq_n (pc := 5) (tgt := 17) dX8_bidderKind_5 (by decide) c5 ?_
    refine ym_aload_n (pc := 8) 0 dX8_bidderKind_8 rfl rfl ?_
    obtain ⟨v9, e9, hf⟩ := Option.bind_eq_some_iff.mp hf
    refine ym_get (pc := 9) dX8_bidderKind_9 rfl (by decide) iX8 (k := 1) (by decide) wd_846 (ym_gR_v e9) ?_
    refine ym_iload_n (pc := 12) 1 dX8_bidderKind_12 rfl rfl ?_
    obtain ⟨v13, e13, hf⟩ := Option.bind_eq_some_iff.mp hf
    refine ym_iald (pc := 13) dX8_bidderKind_13 rfl (ym_ldI_v e13) ?_
    refine ym_goto (pc := 14) (tgt := 18) dX8_bidderKind_14 (by decide) ?_
    cases hf
    exact ym_iret (pc := 18) dX8_bidderKind_18 rfl
theorem dX8_call_0 : decode cX8_call 0 = .ok (.aload_n 0, 1) := by decide +kernel
theorem dX8_call_1 : decode cX8_call 1 = .ok (.bipush 8, 2) := by decide +kernel
theorem dX8_call_3 : decode cX8_call 3 = .ok (.iload_n 1, 1) := by decide +kernel
theorem dX8_call_4 : decode cX8_call 4 = .ok (.iconst 0, 1) := by decide +kernel
theorem dX8_call_5 : decode cX8_call 5 = .ok (.iconst 0, 1) := by decide +kernel
theorem dX8_call_6 : decode cX8_call 6 = .ok (.lconst 0, 1) := by decide +kernel
theorem dX8_call_7 : decode cX8_call 7 = .ok (.lconst 0, 1) := by decide +kernel
theorem dX8_call_8 : decode cX8_call 8 = .ok (.invokevirtual 420, 3) := by decide +kernel
theorem dX8_call_11 : decode cX8_call 11 = .ok (.lreturn, 1) := by decide +kernel
theorem sc_X8_call_X8_act : ym_site g_X8_call g_X8_act 19 18 6 := ⟨by decide, by decide, wd_1028, wd_83, by decide +kernel⟩
def fn_X8_call (N : Nat) (a0 : Option Nat) (a1 : Int32) (h : ym_H) : Option (Int64 × ym_H) :=
  Option.bind (ym_ob h a0 8) fun o8 =>
  Option.bind (fn_X8_act N a0 8 a1 0 0 0 0 h) fun q8 =>
  some (q8.1, q8.2)
set_option maxRecDepth 20000 in
set_option maxHeartbeats 4000000 in
theorem ok_X8_call {D : ym_D} {b0 : Nat} {N : Nat} {a0 : Option Nat} {a1 : Int32} {h h' : ym_H} {r : Int64} (hf : fn_X8_call N a0 a1 h = some (r, h')) : ym_M D b0 g_X8_call 19 [va_rf a0, .int a1] h (some (.long r)) h' := by
  unfold fn_X8_call at hf
  refine ym_meth (lv := [(0, va_rf a0), (1, .int a1)]) (by decide) (by simp [lg_sl, ym_c1, ym_cI, ym_cL, g_X8_call]) (by simp [lv_args, ym_c1, ym_cI, ym_cL]) ?_
  refine ym_aload_n (pc := 0) 0 dX8_call_0 rfl rfl ?_
  refine ym_bipush (pc := 1) (v := 8) dX8_call_1 (by decide) ?_
  refine ym_iload_n (pc := 3) 1 dX8_call_3 rfl rfl ?_
  refine ym_iconst (pc := 4) (v := 0) dX8_call_4 (by decide) ?_
  refine ym_iconst (pc := 5) (v := 0) dX8_call_5 (by decide) ?_
  refine ym_lconst (pc := 6) (v := 0) dX8_call_6 (by decide) ?_
  refine ym_lconst (pc := 7) (v := 0) dX8_call_7 (by decide) ?_
  obtain ⟨o8, f8, hf⟩ := Option.bind_eq_some_iff.mp hf
  obtain ⟨q8, e8, hf⟩ := Option.bind_eq_some_iff.mp hf
  refine ym_callV (pc := 8) (G2 := g_X8_act) (dep2 := 18) (As := [.int 8, .int a1, .int 0, .int 0, .long 0, .long 0]) (st := []) (stk2 := [.long q8.1]) (r2 := (some (.long q8.1))) (h1 := q8.2) dX8_call_8 (ok_X8_act e8) (sc_X8_call_X8_act) wd_1025 wd_1027 wd_21 (ci := 8) (q0 := (RX8, TX8, 58)) rfl (by decide) rfl f8 rfl rfl (ym_st4 (Nat.le_of_ble_eq_true rfl)) rfl ?_
  cases hf
  exact ym_lret (pc := 11) dX8_call_11 rfl
