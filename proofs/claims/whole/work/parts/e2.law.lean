/-! a round of the law's loop -/
section LP
variable {b L M1 M2 B0 S0 T N i : Nat} {xs : Nat → Int32} {h : ym_H} {K : Option Nat → Option Nat → Option Nat → Int32 → ym_H → Option (((Unit) ⊕ Int32) × ym_H)}
set_option maxHeartbeats 4000000 in
set_option maxRecDepth 20000 in
theorem LI_step (I : LI b L xs M1 M2 B0 S0 h T) (hT : T < 512) (hi : 6 * i + 6 ≤ L) (hL : L ≤ 3072) (hN : 40000 ≤ N) : ∃ h', lb_L_law_18 K N (some b) (some M1) (some M2) (nI (6 * i)) h = K (some b) (some M1) (some M2) (nI (6 * i) + 6) h' ∧ LI b L xs M1 M2 B0 S0 h' (T + 1) := by
  have S := LI_scr I
  obtain ⟨l1, l2, l3, l4, l5⟩ := sc_5 S hi hL
  obtain ⟨fs, ob⟩ := LI_ob I
  unfold lb_L_law_18
  rw [sc_len S, Option.bind_some, if_neg (by rw [show nI L - 6 = nI (L - 6) from cz_sub (b := 6) (by omega) (by omega), cz_lt (by omega) (by omega)]; omega), sc_ld S (by omega) hL, Option.bind_some]
  generalize xs (6 * i) &&& 63 = v
  by_cases c0 : v = 0
  · rw [if_pos c0]
    obtain ⟨r, h1, h2, e1, e2, ⟨fs2, e3⟩, e4, I2⟩ := LI_two I hT (okC_bidder (N := N) (a1 := (xs (6 * i + 1))) (a2 := (((Int32.toInt64 (xs (6 * i + 2))) <<< (Int32.toInt64 32 &&& 63)) ||| ((Int32.toInt64 (xs (6 * i + 3))) &&& 4294967295))) hT hN)
    have e1' : fn_X7_bidder N (some M1) (xs (6 * i + 1)) (((Int32.toInt64 (xs (6 * i + 2))) <<< (Int32.toInt64 32 &&& 63)) ||| ((Int32.toInt64 (xs (6 * i + 3))) &&& 4294967295)) h = some (r, h1) := e1
    have e2' : fn_X8_bidder N (some M2) (xs (6 * i + 1)) (((Int32.toInt64 (xs (6 * i + 2))) <<< (Int32.toInt64 32 &&& 63)) ||| ((Int32.toInt64 (xs (6 * i + 3))) &&& 4294967295)) h1 = some (r, h2) := e2
    refine ⟨h2, ?_, I2⟩
    obtain ⟨k1, k2, k3, _, _⟩ := sc_5 e4 hi hL
    rw [l1, Option.bind_some, l2, Option.bind_some, l3, Option.bind_some, ob, Option.bind_some, e1', Option.bind_some]
    dsimp only
    rw [k1, Option.bind_some, k2, Option.bind_some, k3, Option.bind_some, e3, Option.bind_some, e2', Option.bind_some]
    dsimp only
    rw [if_pos rfl]
    rfl
  rw [if_neg c0]
  by_cases c1 : v = 1
  · rw [if_pos c1]
    obtain ⟨r, h1, h2, e1, e2, ⟨fs2, e3⟩, e4, I2⟩ := LI_two I hT (okC_lot (N := N) (a1 := (xs (6 * i + 1))) (a2 := (((Int32.toInt64 (xs (6 * i + 2))) <<< (Int32.toInt64 32 &&& 63)) ||| ((Int32.toInt64 (xs (6 * i + 3))) &&& 4294967295))) (a4 := (((Int32.toInt64 (xs (6 * i + 4))) <<< (Int32.toInt64 32 &&& 63)) ||| ((Int32.toInt64 (xs (6 * i + 5))) &&& 4294967295))) hT hN)
    have e1' : fn_X7_lot N (some M1) (xs (6 * i + 1)) (((Int32.toInt64 (xs (6 * i + 2))) <<< (Int32.toInt64 32 &&& 63)) ||| ((Int32.toInt64 (xs (6 * i + 3))) &&& 4294967295)) (((Int32.toInt64 (xs (6 * i + 4))) <<< (Int32.toInt64 32 &&& 63)) ||| ((Int32.toInt64 (xs (6 * i + 5))) &&& 4294967295)) h = some (r, h1) := e1
    have e2' : fn_X8_lot N (some M2) (xs (6 * i + 1)) (((Int32.toInt64 (xs (6 * i + 2))) <<< (Int32.toInt64 32 &&& 63)) ||| ((Int32.toInt64 (xs (6 * i + 3))) &&& 4294967295)) (((Int32.toInt64 (xs (6 * i + 4))) <<< (Int32.toInt64 32 &&& 63)) ||| ((Int32.toInt64 (xs (6 * i + 5))) &&& 4294967295)) h1 = some (r, h2) := e2
    refine ⟨h2, ?_, I2⟩
    obtain ⟨k1, k2, k3, k4, k5⟩ := sc_5 e4 hi hL
    rw [l1, Option.bind_some, l2, Option.bind_some, l3, Option.bind_some, l4, Option.bind_some, l5, Option.bind_some, ob, Option.bind_some, e1', Option.bind_some]
    dsimp only
    rw [k1, Option.bind_some, k2, Option.bind_some, k3, Option.bind_some, k4, Option.bind_some, k5, Option.bind_some, e3, Option.bind_some, e2', Option.bind_some]
    dsimp only
    rw [if_pos rfl]
    rfl
  rw [if_neg c1]
  by_cases c2 : v = 2
  · rw [if_pos c2]
    obtain ⟨r, h1, h2, e1, e2, ⟨fs2, e3⟩, e4, I2⟩ := LI_two I hT (okC_seller (N := N) (a1 := (xs (6 * i + 1))) (a2 := (xs (6 * i + 2))) hT hN)
    have e1' : fn_X7_seller N (some M1) (xs (6 * i + 1)) (xs (6 * i + 2)) h = some (r, h1) := e1
    have e2' : fn_X8_seller N (some M2) (xs (6 * i + 1)) (xs (6 * i + 2)) h1 = some (r, h2) := e2
    refine ⟨h2, ?_, I2⟩
    obtain ⟨k1, k2, _, _, _⟩ := sc_5 e4 hi hL
    rw [l1, Option.bind_some, l2, Option.bind_some, ob, Option.bind_some, e1', Option.bind_some]
    dsimp only
    rw [k1, Option.bind_some, k2, Option.bind_some, e3, Option.bind_some, e2', Option.bind_some]
    dsimp only
    rw [if_pos rfl]
    rfl
  rw [if_neg c2]
  by_cases c3 : v = 3
  · rw [if_pos c3]
    obtain ⟨r, h1, h2, e1, e2, ⟨fs2, e3⟩, e4, I2⟩ := LI_two I hT (okC_cut (N := N) (a1 := (xs (6 * i + 1))) (a2 := (xs (6 * i + 2))) hT hN)
    have e1' : fn_X7_cut N (some M1) (xs (6 * i + 1)) (xs (6 * i + 2)) h = some (r, h1) := e1
    have e2' : fn_X8_cut N (some M2) (xs (6 * i + 1)) (xs (6 * i + 2)) h1 = some (r, h2) := e2
    refine ⟨h2, ?_, I2⟩
    obtain ⟨k1, k2, _, _, _⟩ := sc_5 e4 hi hL
    rw [l1, Option.bind_some, l2, Option.bind_some, ob, Option.bind_some, e1', Option.bind_some]
    dsimp only
    rw [k1, Option.bind_some, k2, Option.bind_some, e3, Option.bind_some, e2', Option.bind_some]
    dsimp only
    rw [if_pos rfl]
    rfl
  rw [if_neg c3]
  by_cases c4 : v = 4
  · rw [if_pos c4]
    obtain ⟨r, h1, h2, e1, e2, ⟨fs2, e3⟩, e4, I2⟩ := LI_two I hT (okC_step (N := N) (a1 := (((Int32.toInt64 (xs (6 * i + 1))) <<< (Int32.toInt64 32 &&& 63)) ||| ((Int32.toInt64 (xs (6 * i + 2))) &&& 4294967295))) (a3 := (((Int32.toInt64 (xs (6 * i + 3))) <<< (Int32.toInt64 32 &&& 63)) ||| ((Int32.toInt64 (xs (6 * i + 4))) &&& 4294967295))) hT hN)
    have e1' : fn_X7_step N (some M1) (((Int32.toInt64 (xs (6 * i + 1))) <<< (Int32.toInt64 32 &&& 63)) ||| ((Int32.toInt64 (xs (6 * i + 2))) &&& 4294967295)) (((Int32.toInt64 (xs (6 * i + 3))) <<< (Int32.toInt64 32 &&& 63)) ||| ((Int32.toInt64 (xs (6 * i + 4))) &&& 4294967295)) h = some (r, h1) := e1
    have e2' : fn_X8_step N (some M2) (((Int32.toInt64 (xs (6 * i + 1))) <<< (Int32.toInt64 32 &&& 63)) ||| ((Int32.toInt64 (xs (6 * i + 2))) &&& 4294967295)) (((Int32.toInt64 (xs (6 * i + 3))) <<< (Int32.toInt64 32 &&& 63)) ||| ((Int32.toInt64 (xs (6 * i + 4))) &&& 4294967295)) h1 = some (r, h2) := e2
    refine ⟨h2, ?_, I2⟩
    obtain ⟨k1, k2, k3, k4, _⟩ := sc_5 e4 hi hL
    rw [l1, Option.bind_some, l2, Option.bind_some, l3, Option.bind_some, l4, Option.bind_some, ob, Option.bind_some, e1', Option.bind_some]
    dsimp only
    rw [k1, Option.bind_some, k2, Option.bind_some, k3, Option.bind_some, k4, Option.bind_some, e3, Option.bind_some, e2', Option.bind_some]
    dsimp only
    rw [if_pos rfl]
    rfl
  rw [if_neg c4]
  by_cases c5 : v = 5
  · rw [if_pos c5]
    obtain ⟨r, h1, h2, e1, e2, ⟨fs2, e3⟩, e4, I2⟩ := LI_two I hT (okC_premium (N := N) (a1 := (((Int32.toInt64 (xs (6 * i + 1))) <<< (Int32.toInt64 32 &&& 63)) ||| ((Int32.toInt64 (xs (6 * i + 2))) &&& 4294967295))) (a3 := (xs (6 * i + 3))) hT hN)
    have e1' : fn_X7_premium N (some M1) (((Int32.toInt64 (xs (6 * i + 1))) <<< (Int32.toInt64 32 &&& 63)) ||| ((Int32.toInt64 (xs (6 * i + 2))) &&& 4294967295)) (xs (6 * i + 3)) h = some (r, h1) := e1
    have e2' : fn_X8_premium N (some M2) (((Int32.toInt64 (xs (6 * i + 1))) <<< (Int32.toInt64 32 &&& 63)) ||| ((Int32.toInt64 (xs (6 * i + 2))) &&& 4294967295)) (xs (6 * i + 3)) h1 = some (r, h2) := e2
    refine ⟨h2, ?_, I2⟩
    obtain ⟨k1, k2, k3, _, _⟩ := sc_5 e4 hi hL
    rw [l1, Option.bind_some, l2, Option.bind_some, l3, Option.bind_some, ob, Option.bind_some, e1', Option.bind_some]
    dsimp only
    rw [k1, Option.bind_some, k2, Option.bind_some, k3, Option.bind_some, e3, Option.bind_some, e2', Option.bind_some]
    dsimp only
    rw [if_pos rfl]
    rfl
  rw [if_neg c5]
  by_cases c6 : v = 6
  · rw [if_pos c6]
    obtain ⟨r, h1, h2, e1, e2, ⟨fs2, e3⟩, e4, I2⟩ := LI_two I hT (okC_tax (N := N) (a1 := (xs (6 * i + 1))) (a2 := (xs (6 * i + 2))) hT hN)
    have e1' : fn_X7_tax N (some M1) (xs (6 * i + 1)) (xs (6 * i + 2)) h = some (r, h1) := e1
    have e2' : fn_X8_tax N (some M2) (xs (6 * i + 1)) (xs (6 * i + 2)) h1 = some (r, h2) := e2
    refine ⟨h2, ?_, I2⟩
    obtain ⟨k1, k2, _, _, _⟩ := sc_5 e4 hi hL
    rw [l1, Option.bind_some, l2, Option.bind_some, ob, Option.bind_some, e1', Option.bind_some]
    dsimp only
    rw [k1, Option.bind_some, k2, Option.bind_some, e3, Option.bind_some, e2', Option.bind_some]
    dsimp only
    rw [if_pos rfl]
    rfl
  rw [if_neg c6]
  by_cases c7 : v = 7
  · rw [if_pos c7]
    obtain ⟨r, h1, h2, e1, e2, ⟨fs2, e3⟩, e4, I2⟩ := LI_two I hT (okC_call (N := N) (a1 := (xs (6 * i + 1))) hT hN)
    have e1' : fn_X7_call N (some M1) (xs (6 * i + 1)) h = some (r, h1) := e1
    have e2' : fn_X8_call N (some M2) (xs (6 * i + 1)) h1 = some (r, h2) := e2
    refine ⟨h2, ?_, I2⟩
    obtain ⟨k1, _, _, _, _⟩ := sc_5 e4 hi hL
    rw [l1, Option.bind_some, ob, Option.bind_some, e1', Option.bind_some]
    dsimp only
    rw [k1, Option.bind_some, e3, Option.bind_some, e2', Option.bind_some]
    dsimp only
    rw [if_pos rfl]
    rfl
  rw [if_neg c7]
  by_cases c8 : v = 8
  · rw [if_pos c8]
    obtain ⟨r, h1, h2, e1, e2, ⟨fs2, e3⟩, e4, I2⟩ := LI_two I hT (okC_bid (N := N) (a1 := (xs (6 * i + 1))) (a2 := (xs (6 * i + 2))) (a3 := (((Int32.toInt64 (xs (6 * i + 3))) <<< (Int32.toInt64 32 &&& 63)) ||| ((Int32.toInt64 (xs (6 * i + 4))) &&& 4294967295))) hT hN)
    have e1' : fn_X7_bid N (some M1) (xs (6 * i + 1)) (xs (6 * i + 2)) (((Int32.toInt64 (xs (6 * i + 3))) <<< (Int32.toInt64 32 &&& 63)) ||| ((Int32.toInt64 (xs (6 * i + 4))) &&& 4294967295)) h = some (r, h1) := e1
    have e2' : fn_X8_bid N (some M2) (xs (6 * i + 1)) (xs (6 * i + 2)) (((Int32.toInt64 (xs (6 * i + 3))) <<< (Int32.toInt64 32 &&& 63)) ||| ((Int32.toInt64 (xs (6 * i + 4))) &&& 4294967295)) h1 = some (r, h2) := e2
    refine ⟨h2, ?_, I2⟩
    obtain ⟨k1, k2, k3, k4, _⟩ := sc_5 e4 hi hL
    rw [l1, Option.bind_some, l2, Option.bind_some, l3, Option.bind_some, l4, Option.bind_some, ob, Option.bind_some, e1', Option.bind_some]
    dsimp only
    rw [k1, Option.bind_some, k2, Option.bind_some, k3, Option.bind_some, k4, Option.bind_some, e3, Option.bind_some, e2', Option.bind_some]
    dsimp only
    rw [if_pos rfl]
    rfl
  rw [if_neg c8]
  by_cases c9 : v = 9
  · rw [if_pos c9]
    obtain ⟨r, h1, h2, e1, e2, ⟨fs2, e3⟩, e4, I2⟩ := LI_two I hT (okC_limit (N := N) (a1 := (xs (6 * i + 1))) (a2 := (xs (6 * i + 2))) (a3 := (((Int32.toInt64 (xs (6 * i + 3))) <<< (Int32.toInt64 32 &&& 63)) ||| ((Int32.toInt64 (xs (6 * i + 4))) &&& 4294967295))) hT hN)
    have e1' : fn_X7_limit N (some M1) (xs (6 * i + 1)) (xs (6 * i + 2)) (((Int32.toInt64 (xs (6 * i + 3))) <<< (Int32.toInt64 32 &&& 63)) ||| ((Int32.toInt64 (xs (6 * i + 4))) &&& 4294967295)) h = some (r, h1) := e1
    have e2' : fn_X8_limit N (some M2) (xs (6 * i + 1)) (xs (6 * i + 2)) (((Int32.toInt64 (xs (6 * i + 3))) <<< (Int32.toInt64 32 &&& 63)) ||| ((Int32.toInt64 (xs (6 * i + 4))) &&& 4294967295)) h1 = some (r, h2) := e2
    refine ⟨h2, ?_, I2⟩
    obtain ⟨k1, k2, k3, k4, _⟩ := sc_5 e4 hi hL
    rw [l1, Option.bind_some, l2, Option.bind_some, l3, Option.bind_some, l4, Option.bind_some, ob, Option.bind_some, e1', Option.bind_some]
    dsimp only
    rw [k1, Option.bind_some, k2, Option.bind_some, k3, Option.bind_some, k4, Option.bind_some, e3, Option.bind_some, e2', Option.bind_some]
    dsimp only
    rw [if_pos rfl]
    rfl
  rw [if_neg c9]
  by_cases c10 : v = 10
  · rw [if_pos c10]
    obtain ⟨r, h1, h2, e1, e2, ⟨fs2, e3⟩, e4, I2⟩ := LI_two I hT (okC_ask (N := N) (a1 := (xs (6 * i + 1))) hT hN)
    have e1' : fn_X7_ask N (some M1) (xs (6 * i + 1)) h = some (r, h1) := e1
    have e2' : fn_X8_ask N (some M2) (xs (6 * i + 1)) h1 = some (r, h2) := e2
    refine ⟨h2, ?_, I2⟩
    obtain ⟨k1, _, _, _, _⟩ := sc_5 e4 hi hL
    rw [l1, Option.bind_some, ob, Option.bind_some, e1', Option.bind_some]
    dsimp only
    rw [k1, Option.bind_some, e3, Option.bind_some, e2', Option.bind_some]
    dsimp only
    rw [if_pos rfl]
    rfl
  rw [if_neg c10]
  by_cases c11 : v = 11
  · rw [if_pos c11]
    obtain ⟨r, h1, h2, e1, e2, ⟨fs2, e3⟩, e4, I2⟩ := LI_two I hT (okC_open (N := N) (a1 := (xs (6 * i + 1))) hT hN)
    have e1' : fn_X7_open N (some M1) (xs (6 * i + 1)) h = some (r, h1) := e1
    have e2' : fn_X8_open N (some M2) (xs (6 * i + 1)) h1 = some (r, h2) := e2
    refine ⟨h2, ?_, I2⟩
    obtain ⟨k1, _, _, _, _⟩ := sc_5 e4 hi hL
    rw [l1, Option.bind_some, ob, Option.bind_some, e1', Option.bind_some]
    dsimp only
    rw [k1, Option.bind_some, e3, Option.bind_some, e2', Option.bind_some]
    dsimp only
    rw [if_pos rfl]
    rfl
  rw [if_neg c11]
  by_cases c12 : v = 12
  · rw [if_pos c12]
    obtain ⟨r, h1, h2, e1, e2, ⟨fs2, e3⟩, e4, I2⟩ := LI_two I hT (okC_tick (N := N) (a1 := (xs (6 * i + 1))) (a2 := (((Int32.toInt64 (xs (6 * i + 2))) <<< (Int32.toInt64 32 &&& 63)) ||| ((Int32.toInt64 (xs (6 * i + 3))) &&& 4294967295))) hT hN)
    have e1' : fn_X7_tick N (some M1) (xs (6 * i + 1)) (((Int32.toInt64 (xs (6 * i + 2))) <<< (Int32.toInt64 32 &&& 63)) ||| ((Int32.toInt64 (xs (6 * i + 3))) &&& 4294967295)) h = some (r, h1) := e1
    have e2' : fn_X8_tick N (some M2) (xs (6 * i + 1)) (((Int32.toInt64 (xs (6 * i + 2))) <<< (Int32.toInt64 32 &&& 63)) ||| ((Int32.toInt64 (xs (6 * i + 3))) &&& 4294967295)) h1 = some (r, h2) := e2
    refine ⟨h2, ?_, I2⟩
    obtain ⟨k1, k2, k3, _, _⟩ := sc_5 e4 hi hL
    rw [l1, Option.bind_some, l2, Option.bind_some, l3, Option.bind_some, ob, Option.bind_some, e1', Option.bind_some]
    dsimp only
    rw [k1, Option.bind_some, k2, Option.bind_some, k3, Option.bind_some, e3, Option.bind_some, e2', Option.bind_some]
    dsimp only
    rw [if_pos rfl]
    rfl
  rw [if_neg c12]
  by_cases c13 : v = 13
  · rw [if_pos c13]
    obtain ⟨r, h1, h2, e1, e2, ⟨fs2, e3⟩, e4, I2⟩ := LI_two I hT (okC_take (N := N) (a1 := (xs (6 * i + 1))) (a2 := (xs (6 * i + 2))) hT hN)
    have e1' : fn_X7_take N (some M1) (xs (6 * i + 1)) (xs (6 * i + 2)) h = some (r, h1) := e1
    have e2' : fn_X8_take N (some M2) (xs (6 * i + 1)) (xs (6 * i + 2)) h1 = some (r, h2) := e2
    refine ⟨h2, ?_, I2⟩
    obtain ⟨k1, k2, _, _, _⟩ := sc_5 e4 hi hL
    rw [l1, Option.bind_some, l2, Option.bind_some, ob, Option.bind_some, e1', Option.bind_some]
    dsimp only
    rw [k1, Option.bind_some, k2, Option.bind_some, e3, Option.bind_some, e2', Option.bind_some]
    dsimp only
    rw [if_pos rfl]
    rfl
  rw [if_neg c13]
  by_cases c14 : v = 14
  · rw [if_pos c14]
    obtain ⟨r, h1, h2, e1, e2, ⟨fs2, e3⟩, e4, I2⟩ := LI_two I hT (okC_bidderAt (N := N) (a1 := (xs (6 * i + 1))) (a2 := (xs (6 * i + 2))) hT hN)
    have e1' : fn_X7_bidderAt N (some M1) (xs (6 * i + 1)) (xs (6 * i + 2)) h = some (r, h1) := e1
    have e2' : fn_X8_bidderAt N (some M2) (xs (6 * i + 1)) (xs (6 * i + 2)) h1 = some (r, h2) := e2
    refine ⟨h2, ?_, I2⟩
    obtain ⟨k1, k2, _, _, _⟩ := sc_5 e4 hi hL
    rw [l1, Option.bind_some, l2, Option.bind_some, ob, Option.bind_some, e1', Option.bind_some]
    dsimp only
    rw [k1, Option.bind_some, k2, Option.bind_some, e3, Option.bind_some, e2', Option.bind_some]
    dsimp only
    rw [if_pos rfl]
    rfl
  rw [if_neg c14]
  by_cases c15 : v = 15
  · rw [if_pos c15]
    obtain ⟨r, h1, h2, e1, e2, ⟨fs2, e3⟩, e4, I2⟩ := LI_two I hT (okC_sumAt (N := N) (a1 := (xs (6 * i + 1))) (a2 := (xs (6 * i + 2))) hT hN)
    have e1' : fn_X7_sumAt N (some M1) (xs (6 * i + 1)) (xs (6 * i + 2)) h = some (r, h1) := e1
    have e2' : fn_X8_sumAt N (some M2) (xs (6 * i + 1)) (xs (6 * i + 2)) h1 = some (r, h2) := e2
    refine ⟨h2, ?_, I2⟩
    obtain ⟨k1, k2, _, _, _⟩ := sc_5 e4 hi hL
    rw [l1, Option.bind_some, l2, Option.bind_some, ob, Option.bind_some, e1', Option.bind_some]
    dsimp only
    rw [k1, Option.bind_some, k2, Option.bind_some, e3, Option.bind_some, e2', Option.bind_some]
    dsimp only
    rw [if_pos rfl]
    rfl
  rw [if_neg c15]
  by_cases c16 : v = 16
  · rw [if_pos c16]
    obtain ⟨r, h1, h2, e1, e2, ⟨fs2, e3⟩, e4, I2⟩ := LI_two I hT (okC_hammer (N := N) (a1 := (xs (6 * i + 1))) hT hN)
    have e1' : fn_X7_hammer N (some M1) (xs (6 * i + 1)) h = some (r, h1) := e1
    have e2' : fn_X8_hammer N (some M2) (xs (6 * i + 1)) h1 = some (r, h2) := e2
    refine ⟨h2, ?_, I2⟩
    obtain ⟨k1, _, _, _, _⟩ := sc_5 e4 hi hL
    rw [l1, Option.bind_some, ob, Option.bind_some, e1', Option.bind_some]
    dsimp only
    rw [k1, Option.bind_some, e3, Option.bind_some, e2', Option.bind_some]
    dsimp only
    rw [if_pos rfl]
    rfl
  rw [if_neg c16]
  by_cases c17 : v = 17
  · rw [if_pos c17]
    obtain ⟨r, h1, h2, e1, e2, ⟨fs2, e3⟩, e4, I2⟩ := LI_two I hT (okC_join (N := N) (a1 := (xs (6 * i + 1))) (a2 := (xs (6 * i + 2))) (a3 := (xs (6 * i + 3))) hT hN)
    have e1' : fn_X7_join N (some M1) (xs (6 * i + 1)) (xs (6 * i + 2)) (xs (6 * i + 3)) h = some (r, h1) := e1
    have e2' : fn_X8_join N (some M2) (xs (6 * i + 1)) (xs (6 * i + 2)) (xs (6 * i + 3)) h1 = some (r, h2) := e2
    refine ⟨h2, ?_, I2⟩
    obtain ⟨k1, k2, k3, _, _⟩ := sc_5 e4 hi hL
    rw [l1, Option.bind_some, l2, Option.bind_some, l3, Option.bind_some, ob, Option.bind_some, e1', Option.bind_some]
    dsimp only
    rw [k1, Option.bind_some, k2, Option.bind_some, k3, Option.bind_some, e3, Option.bind_some, e2', Option.bind_some]
    dsimp only
    rw [if_pos rfl]
    rfl
  rw [if_neg c17]
  by_cases c18 : v = 18
  · rw [if_pos c18]
    obtain ⟨r, h1, h2, e1, e2, ⟨fs2, e3⟩, e4, I2⟩ := LI_two I hT (okC_settle (N := N) (a1 := (xs (6 * i + 1))) hT hN)
    have e1' : fn_X7_settle N (some M1) (xs (6 * i + 1)) h = some (r, h1) := e1
    have e2' : fn_X8_settle N (some M2) (xs (6 * i + 1)) h1 = some (r, h2) := e2
    refine ⟨h2, ?_, I2⟩
    obtain ⟨k1, _, _, _, _⟩ := sc_5 e4 hi hL
    rw [l1, Option.bind_some, ob, Option.bind_some, e1', Option.bind_some]
    dsimp only
    rw [k1, Option.bind_some, e3, Option.bind_some, e2', Option.bind_some]
    dsimp only
    rw [if_pos rfl]
    rfl
  rw [if_neg c18]
  by_cases c19 : v = 19
  · rw [if_pos c19]
    obtain ⟨r, h1, h2, e1, e2, ⟨fs2, e3⟩, e4, I2⟩ := LI_two I hT (okC_reoffer (N := N) (a1 := (xs (6 * i + 1))) (a2 := (((Int32.toInt64 (xs (6 * i + 2))) <<< (Int32.toInt64 32 &&& 63)) ||| ((Int32.toInt64 (xs (6 * i + 3))) &&& 4294967295))) hT hN)
    have e1' : fn_X7_reoffer N (some M1) (xs (6 * i + 1)) (((Int32.toInt64 (xs (6 * i + 2))) <<< (Int32.toInt64 32 &&& 63)) ||| ((Int32.toInt64 (xs (6 * i + 3))) &&& 4294967295)) h = some (r, h1) := e1
    have e2' : fn_X8_reoffer N (some M2) (xs (6 * i + 1)) (((Int32.toInt64 (xs (6 * i + 2))) <<< (Int32.toInt64 32 &&& 63)) ||| ((Int32.toInt64 (xs (6 * i + 3))) &&& 4294967295)) h1 = some (r, h2) := e2
    refine ⟨h2, ?_, I2⟩
    obtain ⟨k1, k2, k3, _, _⟩ := sc_5 e4 hi hL
    rw [l1, Option.bind_some, l2, Option.bind_some, l3, Option.bind_some, ob, Option.bind_some, e1', Option.bind_some]
    dsimp only
    rw [k1, Option.bind_some, k2, Option.bind_some, k3, Option.bind_some, e3, Option.bind_some, e2', Option.bind_some]
    dsimp only
    rw [if_pos rfl]
    rfl
  rw [if_neg c19]
  by_cases c20 : v = 20
  · rw [if_pos c20]
    obtain ⟨r, h1, h2, e1, e2, ⟨fs2, e3⟩, e4, I2⟩ := LI_two I hT (okC_pay (N := N) (a1 := (xs (6 * i + 1))) (a2 := (((Int32.toInt64 (xs (6 * i + 2))) <<< (Int32.toInt64 32 &&& 63)) ||| ((Int32.toInt64 (xs (6 * i + 3))) &&& 4294967295))) hT hN)
    have e1' : fn_X7_pay N (some M1) (xs (6 * i + 1)) (((Int32.toInt64 (xs (6 * i + 2))) <<< (Int32.toInt64 32 &&& 63)) ||| ((Int32.toInt64 (xs (6 * i + 3))) &&& 4294967295)) h = some (r, h1) := e1
    have e2' : fn_X8_pay N (some M2) (xs (6 * i + 1)) (((Int32.toInt64 (xs (6 * i + 2))) <<< (Int32.toInt64 32 &&& 63)) ||| ((Int32.toInt64 (xs (6 * i + 3))) &&& 4294967295)) h1 = some (r, h2) := e2
    refine ⟨h2, ?_, I2⟩
    obtain ⟨k1, k2, k3, _, _⟩ := sc_5 e4 hi hL
    rw [l1, Option.bind_some, l2, Option.bind_some, l3, Option.bind_some, ob, Option.bind_some, e1', Option.bind_some]
    dsimp only
    rw [k1, Option.bind_some, k2, Option.bind_some, k3, Option.bind_some, e3, Option.bind_some, e2', Option.bind_some]
    dsimp only
    rw [if_pos rfl]
    rfl
  rw [if_neg c20]
  by_cases c21 : v = 21
  · rw [if_pos c21]
    obtain ⟨r, h1, h2, e1, e2, ⟨fs2, e3⟩, e4, I2⟩ := LI_two I hT (okC_payOut (N := N) (a1 := (xs (6 * i + 1))) (a2 := (((Int32.toInt64 (xs (6 * i + 2))) <<< (Int32.toInt64 32 &&& 63)) ||| ((Int32.toInt64 (xs (6 * i + 3))) &&& 4294967295))) hT hN)
    have e1' : fn_X7_payOut N (some M1) (xs (6 * i + 1)) (((Int32.toInt64 (xs (6 * i + 2))) <<< (Int32.toInt64 32 &&& 63)) ||| ((Int32.toInt64 (xs (6 * i + 3))) &&& 4294967295)) h = some (r, h1) := e1
    have e2' : fn_X8_payOut N (some M2) (xs (6 * i + 1)) (((Int32.toInt64 (xs (6 * i + 2))) <<< (Int32.toInt64 32 &&& 63)) ||| ((Int32.toInt64 (xs (6 * i + 3))) &&& 4294967295)) h1 = some (r, h2) := e2
    refine ⟨h2, ?_, I2⟩
    obtain ⟨k1, k2, k3, _, _⟩ := sc_5 e4 hi hL
    rw [l1, Option.bind_some, l2, Option.bind_some, l3, Option.bind_some, ob, Option.bind_some, e1', Option.bind_some]
    dsimp only
    rw [k1, Option.bind_some, k2, Option.bind_some, k3, Option.bind_some, e3, Option.bind_some, e2', Option.bind_some]
    dsimp only
    rw [if_pos rfl]
    rfl
  rw [if_neg c21]
  by_cases c22 : v = 22
  · rw [if_pos c22]
    obtain ⟨r, h1, h2, e1, e2, ⟨fs2, e3⟩, e4, I2⟩ := LI_two I hT (okC_batch (N := N) hT hN)
    have e1' : fn_X7_batch N (some M1) h = some (r, h1) := e1
    have e2' : fn_X8_batch N (some M2) h1 = some (r, h2) := e2
    refine ⟨h2, ?_, I2⟩
    rw [ob, Option.bind_some, e1', Option.bind_some]
    dsimp only
    rw [e3, Option.bind_some, e2', Option.bind_some]
    dsimp only
    rw [if_pos rfl]
    rfl
  rw [if_neg c22]
  by_cases c23 : v = 23
  · rw [if_pos c23]
    obtain ⟨r, h1, h2, e1, e2, ⟨fs2, e3⟩, e4, I2⟩ := LI_two I hT (okC_end (N := N) hT hN)
    have e1' : fn_X7_end N (some M1) h = some (r, h1) := e1
    have e2' : fn_X8_end N (some M2) h1 = some (r, h2) := e2
    refine ⟨h2, ?_, I2⟩
    rw [ob, Option.bind_some, e1', Option.bind_some]
    dsimp only
    rw [e3, Option.bind_some, e2', Option.bind_some]
    dsimp only
    rw [if_pos rfl]
    rfl
  rw [if_neg c23]
  by_cases c24 : v = 24
  · rw [if_pos c24]
    obtain ⟨r, h1, h2, e1, e2, ⟨fs2, e3⟩, e4, I2⟩ := LI_two I hT (okC_undo (N := N) hT hN)
    have e1' : fn_X7_undo N (some M1) h = some (r, h1) := e1
    have e2' : fn_X8_undo N (some M2) h1 = some (r, h2) := e2
    refine ⟨h2, ?_, I2⟩
    rw [ob, Option.bind_some, e1', Option.bind_some]
    dsimp only
    rw [e3, Option.bind_some, e2', Option.bind_some]
    dsimp only
    rw [if_pos rfl]
    rfl
  rw [if_neg c24]
  by_cases c25 : v = 25
  · rw [if_pos c25]
    obtain ⟨r, h1, h2, e1, e2, ⟨fs2, e3⟩, e4, I2⟩ := LI_two I hT (okC_kindOf (N := N) (a1 := (xs (6 * i + 1))) hT hN)
    have e1' : fn_X7_kindOf N (some M1) (xs (6 * i + 1)) h = some (r, h1) := e1
    have e2' : fn_X8_kindOf N (some M2) (xs (6 * i + 1)) h1 = some (r, h2) := e2
    refine ⟨h2, ?_, I2⟩
    obtain ⟨k1, _, _, _, _⟩ := sc_5 e4 hi hL
    rw [l1, Option.bind_some, ob, Option.bind_some, e1', Option.bind_some]
    dsimp only
    rw [k1, Option.bind_some, e3, Option.bind_some, e2', Option.bind_some]
    dsimp only
    rw [if_pos rfl]
    rfl
  rw [if_neg c25]
  by_cases c26 : v = 26
  · rw [if_pos c26]
    obtain ⟨r, h1, h2, e1, e2, ⟨fs2, e3⟩, e4, I2⟩ := LI_two I hT (okC_bidderKind (N := N) (a1 := (xs (6 * i + 1))) hT hN)
    have e1' : fn_X7_bidderKind N (some M1) (xs (6 * i + 1)) h = some (r, h1) := e1
    have e2' : fn_X8_bidderKind N (some M2) (xs (6 * i + 1)) h1 = some (r, h2) := e2
    refine ⟨h2, ?_, I2⟩
    obtain ⟨k1, _, _, _, _⟩ := sc_5 e4 hi hL
    rw [l1, Option.bind_some, ob, Option.bind_some, e1', Option.bind_some]
    dsimp only
    rw [k1, Option.bind_some, e3, Option.bind_some, e2', Option.bind_some]
    dsimp only
    rw [if_pos rfl]
    rfl
  rw [if_neg c26]
  by_cases c27 : v = 27
  · rw [if_pos c27]
    obtain ⟨r, h1, h2, e1, e2, ⟨fs2, e3⟩, e4, I2⟩ := LI_two I hT (okC_state (N := N) (a1 := (xs (6 * i + 1))) hT hN)
    have e1' : fn_X7_state N (some M1) (xs (6 * i + 1)) h = some (r, h1) := e1
    have e2' : fn_X8_state N (some M2) (xs (6 * i + 1)) h1 = some (r, h2) := e2
    refine ⟨h2, ?_, I2⟩
    obtain ⟨k1, _, _, _, _⟩ := sc_5 e4 hi hL
    rw [l1, Option.bind_some, ob, Option.bind_some, e1', Option.bind_some]
    dsimp only
    rw [k1, Option.bind_some, e3, Option.bind_some, e2', Option.bind_some]
    dsimp only
    rw [if_pos rfl]
    rfl
  rw [if_neg c27]
  by_cases c28 : v = 28
  · rw [if_pos c28]
    obtain ⟨r, h1, h2, e1, e2, ⟨fs2, e3⟩, e4, I2⟩ := LI_two I hT (okC_stands (N := N) (a1 := (xs (6 * i + 1))) hT hN)
    have e1' : fn_X7_stands N (some M1) (xs (6 * i + 1)) h = some (r, h1) := e1
    have e2' : fn_X8_stands N (some M2) (xs (6 * i + 1)) h1 = some (r, h2) := e2
    refine ⟨h2, ?_, I2⟩
    obtain ⟨k1, _, _, _, _⟩ := sc_5 e4 hi hL
    rw [l1, Option.bind_some, ob, Option.bind_some, e1', Option.bind_some]
    dsimp only
    rw [k1, Option.bind_some, e3, Option.bind_some, e2', Option.bind_some]
    dsimp only
    rw [if_pos rfl]
    rfl
  rw [if_neg c28]
  by_cases c29 : v = 29
  · rw [if_pos c29]
    obtain ⟨r, h1, h2, e1, e2, ⟨fs2, e3⟩, e4, I2⟩ := LI_two I hT (okC_sum (N := N) (a1 := (xs (6 * i + 1))) hT hN)
    have e1' : fn_X7_sum N (some M1) (xs (6 * i + 1)) h = some (r, h1) := e1
    have e2' : fn_X8_sum N (some M2) (xs (6 * i + 1)) h1 = some (r, h2) := e2
    refine ⟨h2, ?_, I2⟩
    obtain ⟨k1, _, _, _, _⟩ := sc_5 e4 hi hL
    rw [l1, Option.bind_some, ob, Option.bind_some, e1', Option.bind_some]
    dsimp only
    rw [k1, Option.bind_some, e3, Option.bind_some, e2', Option.bind_some]
    dsimp only
    rw [if_pos rfl]
    rfl
  rw [if_neg c29]
  by_cases c30 : v = 30
  · rw [if_pos c30]
    obtain ⟨r, h1, h2, e1, e2, ⟨fs2, e3⟩, e4, I2⟩ := LI_two I hT (okC_entries (N := N) (a1 := (xs (6 * i + 1))) hT hN)
    have e1' : fn_X7_entries N (some M1) (xs (6 * i + 1)) h = some (r, h1) := e1
    have e2' : fn_X8_entries N (some M2) (xs (6 * i + 1)) h1 = some (r, h2) := e2
    refine ⟨h2, ?_, I2⟩
    obtain ⟨k1, _, _, _, _⟩ := sc_5 e4 hi hL
    rw [l1, Option.bind_some, ob, Option.bind_some, e1', Option.bind_some]
    dsimp only
    rw [k1, Option.bind_some, e3, Option.bind_some, e2', Option.bind_some]
    dsimp only
    rw [if_pos rfl]
    rfl
  rw [if_neg c30]
  by_cases c31 : v = 31
  · rw [if_pos c31]
    obtain ⟨r, h1, h2, e1, e2, ⟨fs2, e3⟩, e4, I2⟩ := LI_two I hT (okC_cause (N := N) (a1 := (xs (6 * i + 1))) (a2 := (xs (6 * i + 2))) hT hN)
    have e1' : fn_X7_cause N (some M1) (xs (6 * i + 1)) (xs (6 * i + 2)) h = some (r, h1) := e1
    have e2' : fn_X8_cause N (some M2) (xs (6 * i + 1)) (xs (6 * i + 2)) h1 = some (r, h2) := e2
    refine ⟨h2, ?_, I2⟩
    obtain ⟨k1, k2, _, _, _⟩ := sc_5 e4 hi hL
    rw [l1, Option.bind_some, l2, Option.bind_some, ob, Option.bind_some, e1', Option.bind_some]
    dsimp only
    rw [k1, Option.bind_some, k2, Option.bind_some, e3, Option.bind_some, e2', Option.bind_some]
    dsimp only
    rw [if_pos rfl]
    rfl
  rw [if_neg c31]
  by_cases c32 : v = 32
  · rw [if_pos c32]
    obtain ⟨r, h1, h2, e1, e2, ⟨fs2, e3⟩, e4, I2⟩ := LI_two I hT (okC_balance (N := N) (a1 := (xs (6 * i + 1))) hT hN)
    have e1' : fn_X7_balance N (some M1) (xs (6 * i + 1)) h = some (r, h1) := e1
    have e2' : fn_X8_balance N (some M2) (xs (6 * i + 1)) h1 = some (r, h2) := e2
    refine ⟨h2, ?_, I2⟩
    obtain ⟨k1, _, _, _, _⟩ := sc_5 e4 hi hL
    rw [l1, Option.bind_some, ob, Option.bind_some, e1', Option.bind_some]
    dsimp only
    rw [k1, Option.bind_some, e3, Option.bind_some, e2', Option.bind_some]
    dsimp only
    rw [if_pos rfl]
    rfl
  rw [if_neg c32]
  by_cases c33 : v = 33
  · rw [if_pos c33]
    obtain ⟨r, h1, h2, e1, e2, ⟨fs2, e3⟩, e4, I2⟩ := LI_two I hT (okC_account (N := N) (a1 := (xs (6 * i + 1))) hT hN)
    have e1' : fn_X7_account N (some M1) (xs (6 * i + 1)) h = some (r, h1) := e1
    have e2' : fn_X8_account N (some M2) (xs (6 * i + 1)) h1 = some (r, h2) := e2
    refine ⟨h2, ?_, I2⟩
    obtain ⟨k1, _, _, _, _⟩ := sc_5 e4 hi hL
    rw [l1, Option.bind_some, ob, Option.bind_some, e1', Option.bind_some]
    dsimp only
    rw [k1, Option.bind_some, e3, Option.bind_some, e2', Option.bind_some]
    dsimp only
    rw [if_pos rfl]
    rfl
  rw [if_neg c33]
  by_cases c34 : v = 34
  · rw [if_pos c34]
    obtain ⟨r, h1, h2, e1, e2, ⟨fs2, e3⟩, e4, I2⟩ := LI_two I hT (okC_total (N := N) hT hN)
    have e1' : fn_X7_total N (some M1) h = some (r, h1) := e1
    have e2' : fn_X8_total N (some M2) h1 = some (r, h2) := e2
    refine ⟨h2, ?_, I2⟩
    rw [ob, Option.bind_some, e1', Option.bind_some]
    dsimp only
    rw [e3, Option.bind_some, e2', Option.bind_some]
    dsimp only
    rw [if_pos rfl]
    rfl
  rw [if_neg c34]
  by_cases c35 : v = 35
  · rw [if_pos c35]
    obtain ⟨r, h1, h2, e1, e2, ⟨fs2, e3⟩, e4, I2⟩ := LI_two I hT (okC_numbers (N := N) (a1 := (xs (6 * i + 1))) hT hN)
    have e1' : fn_X7_numbers N (some M1) (xs (6 * i + 1)) h = some (r, h1) := e1
    have e2' : fn_X8_numbers N (some M2) (xs (6 * i + 1)) h1 = some (r, h2) := e2
    refine ⟨h2, ?_, I2⟩
    obtain ⟨k1, _, _, _, _⟩ := sc_5 e4 hi hL
    rw [l1, Option.bind_some, ob, Option.bind_some, e1', Option.bind_some]
    dsimp only
    rw [k1, Option.bind_some, e3, Option.bind_some, e2', Option.bind_some]
    dsimp only
    rw [if_pos rfl]
    rfl
  rw [if_neg c35]
  by_cases c36 : v = 36
  · rw [if_pos c36]
    obtain ⟨r, h1, h2, e1, e2, ⟨fs2, e3⟩, e4, I2⟩ := LI_two I hT (okC_tries (N := N) hT hN)
    have e1' : fn_X7_tries N (some M1) h = some (r, h1) := e1
    have e2' : fn_X8_tries N (some M2) h1 = some (r, h2) := e2
    refine ⟨h2, ?_, I2⟩
    rw [ob, Option.bind_some, e1', Option.bind_some]
    dsimp only
    rw [e3, Option.bind_some, e2', Option.bind_some]
    dsimp only
    rw [if_pos rfl]
    rfl
  rw [if_neg c36]
  by_cases c37 : v = 37
  · rw [if_pos c37]
    obtain ⟨r, h1, h2, e1, e2, ⟨fs2, e3⟩, e4, I2⟩ := LI_two I hT (okC_why (N := N) hT hN)
    have e1' : fn_X7_why N (some M1) h = some (r, h1) := e1
    have e2' : fn_X8_why N (some M2) h1 = some (r, h2) := e2
    refine ⟨h2, ?_, I2⟩
    rw [ob, Option.bind_some, e1', Option.bind_some]
    dsimp only
    rw [e3, Option.bind_some, e2', Option.bind_some]
    dsimp only
    rw [if_pos rfl]
    rfl
  rw [if_neg c37]
  by_cases c38 : v = 38
  · rw [if_pos c38]
    obtain ⟨r, h1, h2, e1, e2, ⟨fs2, e3⟩, e4, I2⟩ := LI_two I hT (okC_trace (N := N) (a1 := (xs (6 * i + 1))) hT hN)
    have e1' : fn_X7_trace N (some M1) (xs (6 * i + 1)) h = some (r, h1) := e1
    have e2' : fn_X8_trace N (some M2) (xs (6 * i + 1)) h1 = some (r, h2) := e2
    refine ⟨h2, ?_, I2⟩
    obtain ⟨k1, _, _, _, _⟩ := sc_5 e4 hi hL
    rw [l1, Option.bind_some, ob, Option.bind_some, e1', Option.bind_some]
    dsimp only
    rw [k1, Option.bind_some, e3, Option.bind_some, e2', Option.bind_some]
    dsimp only
    rw [if_pos rfl]
    rfl
  rw [if_neg c38]
  by_cases c39 : v = 39
  · rw [if_pos c39]
    obtain ⟨r, h1, h2, e1, e2, ⟨fs2, e3⟩, e4, I2⟩ := LI_two I hT (okC_batches (N := N) hT hN)
    have e1' : fn_X7_batches N (some M1) h = some (r, h1) := e1
    have e2' : fn_X8_batches N (some M2) h1 = some (r, h2) := e2
    refine ⟨h2, ?_, I2⟩
    rw [ob, Option.bind_some, e1', Option.bind_some]
    dsimp only
    rw [e3, Option.bind_some, e2', Option.bind_some]
    dsimp only
    rw [if_pos rfl]
    rfl
  rw [if_neg c39]
  by_cases c40 : v = 40
  · rw [if_pos c40]
    obtain ⟨r, h1, h2, e1, e2, ⟨fs2, e3⟩, e4, I2⟩ := LI_two I hT (okC_digest (N := N) hT hN)
    have e1' : fn_X7_digest N (some M1) h = some (r, h1) := e1
    have e2' : fn_X8_digest N (some M2) h1 = some (r, h2) := e2
    refine ⟨h2, ?_, I2⟩
    rw [ob, Option.bind_some, e1', Option.bind_some]
    dsimp only
    rw [e3, Option.bind_some, e2', Option.bind_some]
    dsimp only
    rw [if_pos rfl]
    rfl
  rw [if_neg c40]
  exact ⟨h, rfl, LI_up I⟩
theorem LI_loop (hL : L ≤ 3072) (hN : 40000 ≤ N) : ∀ (d i f : Nat) (h : ym_H), i + d = L / 6 → d < f → LI b L xs M1 M2 B0 S0 h i → ∃ h', lp_L_law_18 N f (some b) (some M1) (some M2) (nI (6 * i)) h = some (.inl (), h') ∧ LI b L xs M1 M2 B0 S0 h' (L / 6) := by
  intro d
  induction d with
  | zero =>
    intro i f h hd hf I
    obtain ⟨f, rfl⟩ : ∃ m, f = m + 1 := ⟨f - 1, by omega⟩
    have S := LI_scr I
    refine ⟨h, ?_, by rw [← hd]; exact I⟩
    show lb_L_law_18 (lp_L_law_18 N f) N (some b) (some M1) (some M2) (nI (6 * i)) h = _
    unfold lb_L_law_18
    rw [sc_len S, Option.bind_some, if_pos]
    by_cases c : 6 ≤ L
    · rw [show nI L - 6 = nI (L - 6) from cz_sub (b := 6) c (by omega), cz_lt (by omega) (by omega)]
      omega
    · have hi : i = 0 := by omega
      rw [hi]
      obtain rfl | rfl | rfl | rfl | rfl | rfl : L = 0 ∨ L = 1 ∨ L = 2 ∨ L = 3 ∨ L = 4 ∨ L = 5 := by omega
      all_goals decide
  | succ d ih =>
    intro i f h hd hf I
    obtain ⟨f, rfl⟩ : ∃ m, f = m + 1 := ⟨f - 1, by omega⟩
    obtain ⟨h1, e1, I1⟩ := LI_step (N := N) (i := i) (K := lp_L_law_18 N f) I (by omega) (by omega) hL hN
    obtain ⟨h2, e2, I2⟩ := ih (i + 1) f h1 (by omega) (by omega) I1
    refine ⟨h2, ?_, I2⟩
    show lb_L_law_18 (lp_L_law_18 N f) N (some b) (some M1) (some M2) (nI (6 * i)) h = _
    rw [e1, show nI (6 * i) + 6 = nI (6 * (i + 1)) from cz_add (6 * i) 6]
    exact e2
end LP
