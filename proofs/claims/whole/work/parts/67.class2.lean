def gk_X5_addRow (N : Nat) (a0 : Nat) (s : mt_S) : Option (Int32 × mt_S) :=
  Option.bind (gk_she s a0) fun _ =>
  Option.bind (gk_X5_rows N a0 s) fun q1 =>
  Option.bind (gk_she q1.2 a0) fun _ =>
  Option.bind (gk_cel q1.2 a0) fun _ =>
  Option.bind (gk_X2_put N a0 0 (Int32.toInt64 (q1.1 + 1)) q1.2) fun q14 =>
  some (q1.1, q14.2)
set_option maxRecDepth 20000 in
set_option maxHeartbeats 4000000 in
theorem mk_X5_addRow {X : Nat → Prop} {ad0 ad : Nat → Nat} {w : Nat → Value} {h : ym_H} {s : mt_S} {N : Nat} {a0 : Nat} (hB : kt_B X ad0 ad w h s h s) : kt_ok X ad0 h s (fn_X5_addRow N (some (ad0 (7000 + a0))) h) (gk_X5_addRow N a0 s) := by
  unfold fn_X5_addRow gk_X5_addRow
  refine kt_sheO hB (fun _ _ => ?_)
  refine kt_call hB (mk_X5_rows (a0 := a0) hB.start) (fun r1 ad w H1 S1 hB => ?_)
  dsimp only
  refine kt_she0 hB (fun hc6 => ?_)
  refine kt_celO hB (fun _ _ => ?_)
  refine kt_call hB (mk_X2_put (a0 := a0) hB.start) (fun r14 ad w H14 S14 hB => ?_)
  dsimp only
  exact kt_ret hB
def gk_X5_put (N : Nat) (a0 : Nat) (a1 : Int32) (a2 : Int32) (a3 : Int64) (s : mt_S) : Option (Unit × mt_S) :=
  Option.bind (gk_she s a0) fun _ =>
  Option.bind (gk_she s a0) fun _ =>
  Option.bind (gk_cel s a0) fun _ =>
  Option.bind (gk_X2_put N a0 ((1 + (a1 * (kt_w a0))) + a2) a3 s) fun q15 =>
  some ((), q15.2)
set_option maxRecDepth 20000 in
set_option maxHeartbeats 4000000 in
theorem mk_X5_put {X : Nat → Prop} {ad0 ad : Nat → Nat} {w : Nat → Value} {h : ym_H} {s : mt_S} {N : Nat} {a0 : Nat} {a1 : Int32} {a2 : Int32} {a3 : Int64} (hB : kt_B X ad0 ad w h s h s) : kt_ok X ad0 h s (fn_X5_put N (some (ad0 (7000 + a0))) a1 a2 a3 h) (gk_X5_put N a0 a1 a2 a3 s) := by
  unfold fn_X5_put gk_X5_put
  refine kt_she0 hB (fun hc1 => ?_)
  refine kt_she1 hB (fun hc7 => ?_)
  refine kt_celO hB (fun _ _ => ?_)
  refine kt_call hB (mk_X2_put (a0 := a0) hB.start) (fun r15 ad w H15 S15 hB => ?_)
  dsimp only
  exact kt_ret hB
def gk_X4_enter (N : Nat) (a0 : Nat) (a1 : Int32) (a2 : Int64) (s : mt_S) : Option (Unit × mt_S) :=
  Option.bind (gk_lot s a0) fun _ =>
  Option.bind (gk_she s (204 + 4 * a0)) fun _ =>
  Option.bind (gk_X5_addRow N (204 + 4 * a0) s) fun q4 =>
  Option.bind (gk_lot q4.2 a0) fun _ =>
  Option.bind (gk_she q4.2 (204 + 4 * a0)) fun _ =>
  Option.bind (gk_X5_put N (204 + 4 * a0) q4.1 0 (Int32.toInt64 a1) q4.2) fun q18 =>
  Option.bind (gk_lot q18.2 a0) fun _ =>
  Option.bind (gk_she q18.2 (204 + 4 * a0)) fun _ =>
  Option.bind (gk_X5_put N (204 + 4 * a0) q4.1 1 a2 q18.2) fun q29 =>
  some ((), q29.2)
set_option maxRecDepth 20000 in
set_option maxHeartbeats 4000000 in
theorem mk_X4_enter {X : Nat → Prop} {ad0 ad : Nat → Nat} {w : Nat → Value} {h : ym_H} {s : mt_S} {N : Nat} {a0 : Nat} {a1 : Int32} {a2 : Int64} (hB : kt_B X ad0 ad w h s h s) : kt_ok X ad0 h s (fn_X4_enter N (some (ad0 (10000 + a0))) a1 a2 h) (gk_X4_enter N a0 a1 a2 s) := by
  unfold fn_X4_enter gk_X4_enter
  refine kt_lot3 hB (fun hc1 => ?_)
  refine kt_sheO hB (fun _ _ => ?_)
  refine kt_call hB (mk_X5_addRow (a0 := (204 + 4 * a0)) hB.start) (fun r4 ad w H4 S4 hB => ?_)
  dsimp only
  refine kt_lot3 hB (fun hc10 => ?_)
  refine kt_sheO hB (fun _ _ => ?_)
  refine kt_call hB (mk_X5_put (a0 := (204 + 4 * a0)) hB.start) (fun r18 ad w H18 S18 hB => ?_)
  dsimp only
  refine kt_lot3 hB (fun hc22 => ?_)
  refine kt_sheO hB (fun _ _ => ?_)
  refine kt_call hB (mk_X5_put (a0 := (204 + 4 * a0)) hB.start) (fun r29 ad w H29 S29 hB => ?_)
  dsimp only
  exact kt_ret hB
def gk_X4_enterBid (N : Nat) (a0 : Nat) (a1 : Int32) (a2 : Int64) (a4 : Int32) (s : mt_S) : Option (Unit × mt_S) :=
  Option.bind (gk_lot s a0) fun _ =>
  Option.bind (gk_X4_enter N a0 a1 a2 s) fun q3 =>
  Option.bind (gk_lot q3.2 a0) fun _ =>
  Option.bind (gk_cel q3.2 (203 + 4 * a0)) fun _ =>
  Option.bind (gk_X2_put N (203 + 4 * a0) 7 a2 q3.2) fun q13 =>
  Option.bind (gk_lot q13.2 a0) fun _ =>
  Option.bind (gk_cel q13.2 (203 + 4 * a0)) fun _ =>
  Option.bind (gk_X2_put N (203 + 4 * a0) 8 (Int32.toInt64 a4) q13.2) fun q25 =>
  some ((), q25.2)
set_option maxRecDepth 20000 in
set_option maxHeartbeats 4000000 in
theorem mk_X4_enterBid {X : Nat → Prop} {ad0 ad : Nat → Nat} {w : Nat → Value} {h : ym_H} {s : mt_S} {N : Nat} {a0 : Nat} {a1 : Int32} {a2 : Int64} {a4 : Int32} (hB : kt_B X ad0 ad w h s h s) : kt_ok X ad0 h s (fn_X4_enterBid N (some (ad0 (10000 + a0))) a1 a2 a4 h) (gk_X4_enterBid N a0 a1 a2 a4 s) := by
  unfold fn_X4_enterBid gk_X4_enterBid
  refine kt_lotO hB (fun _ _ => ?_)
  refine kt_call hB (mk_X4_enter (a0 := a0) hB.start) (fun r3 ad w H3 S3 hB => ?_)
  dsimp only
  refine kt_lot2 hB (fun hc7 => ?_)
  refine kt_celO hB (fun _ _ => ?_)
  refine kt_call hB (mk_X2_put (a0 := (203 + 4 * a0)) hB.start) (fun r13 ad w H13 S13 hB => ?_)
  dsimp only
  refine kt_lot2 hB (fun hc17 => ?_)
  refine kt_celO hB (fun _ _ => ?_)
  refine kt_call hB (mk_X2_put (a0 := (203 + 4 * a0)) hB.start) (fun r25 ad w H25 S25 hB => ?_)
  dsimp only
  exact kt_ret hB
def gk_X4_isLimit (N : Nat) (a0 : Nat) (a1 : Int32) (s : mt_S) : Option (Int32 × mt_S) :=
  Option.bind (gk_lot s a0) fun _ =>
  Option.bind (gk_she s (205 + 4 * a0)) fun _ =>
  Option.bind (gk_X5_rows N (205 + 4 * a0) s) fun q5 =>
  if q5.1 ≤ a1 then
    some (0, q5.2)
  else
    some (1, q5.2)
set_option maxRecDepth 20000 in
set_option maxHeartbeats 4000000 in
theorem mk_X4_isLimit {X : Nat → Prop} {ad0 ad : Nat → Nat} {w : Nat → Value} {h : ym_H} {s : mt_S} {N : Nat} {a0 : Nat} {a1 : Int32} (hB : kt_B X ad0 ad w h s h s) : kt_ok X ad0 h s (fn_X4_isLimit N (some (ad0 (10000 + a0))) a1 h) (gk_X4_isLimit N a0 a1 s) := by
  unfold fn_X4_isLimit gk_X4_isLimit
  refine kt_lot4 hB (fun hc2 => ?_)
  refine kt_sheO hB (fun _ _ => ?_)
  refine kt_call hB (mk_X5_rows (a0 := (205 + 4 * a0)) hB.start) (fun r5 ad w H5 S5 hB => ?_)
  dsimp only
  refine kt_if (fun _ => ?_) (fun _ => ?_)
  · exact kt_ret hB
  · exact kt_ret hB
def gk_X4_rivalSum (N : Nat) (a0 : Nat) (a1 : Int32) (s : mt_S) : Option (Int64 × mt_S) :=
  Option.bind (gk_lot s a0) fun _ =>
  Option.bind (gk_X4_isLimit N a0 a1 s) fun q2 =>
  if q2.1 = 0 then
    Option.bind (gk_lot q2.2 a0) fun _ =>
    Option.bind (gk_cel q2.2 (203 + 4 * a0)) fun _ =>
    Option.bind (gk_X2_get N (203 + 4 * a0) 7 q2.2) fun q26 =>
    some (q26.1, q26.2)
  else
    Option.bind (gk_lot q2.2 a0) fun _ =>
    Option.bind (gk_she q2.2 (205 + 4 * a0)) fun _ =>
    Option.bind (gk_X5_at N (205 + 4 * a0) a1 1 q2.2) fun q14 =>
    some (q14.1, q14.2)
set_option maxRecDepth 20000 in
set_option maxHeartbeats 4000000 in
theorem mk_X4_rivalSum {X : Nat → Prop} {ad0 ad : Nat → Nat} {w : Nat → Value} {h : ym_H} {s : mt_S} {N : Nat} {a0 : Nat} {a1 : Int32} (hB : kt_B X ad0 ad w h s h s) : kt_ok X ad0 h s (fn_X4_rivalSum N (some (ad0 (10000 + a0))) a1 h) (gk_X4_rivalSum N a0 a1 s) := by
  unfold fn_X4_rivalSum gk_X4_rivalSum
  refine kt_lotO hB (fun _ _ => ?_)
  refine kt_call hB (mk_X4_isLimit (a0 := a0) hB.start) (fun r2 ad w H2 S2 hB => ?_)
  dsimp only
  refine kt_if (fun _ => ?_) (fun _ => ?_)
  · refine kt_lot2 hB (fun hc21 => ?_)
    refine kt_celO hB (fun _ _ => ?_)
    refine kt_call hB (mk_X2_get (a0 := (203 + 4 * a0)) hB.start) (fun r26 ad w H26 S26 hB => ?_)
    dsimp only
    exact kt_ret hB
  · refine kt_lot4 hB (fun hc9 => ?_)
    refine kt_sheO hB (fun _ _ => ?_)
    refine kt_call hB (mk_X5_at (a0 := (205 + 4 * a0)) hB.start) (fun r14 ad w H14 S14 hB => ?_)
    dsimp only
    exact kt_ret hB
def gk_X4_rivalNumber (N : Nat) (a0 : Nat) (a1 : Int32) (s : mt_S) : Option (Int64 × mt_S) :=
  if a1 = (-1) then
    some (0, s)
  else
    Option.bind (gk_lot s a0) fun _ =>
    Option.bind (gk_X4_isLimit N a0 a1 s) fun q9 =>
    if q9.1 = 0 then
      Option.bind (gk_lot q9.2 a0) fun _ =>
      Option.bind (gk_cel q9.2 (203 + 4 * a0)) fun _ =>
      Option.bind (gk_X2_get N (203 + 4 * a0) 8 q9.2) fun q33 =>
      some (q33.1, q33.2)
    else
      Option.bind (gk_lot q9.2 a0) fun _ =>
      Option.bind (gk_she q9.2 (205 + 4 * a0)) fun _ =>
      Option.bind (gk_X5_at N (205 + 4 * a0) a1 2 q9.2) fun q21 =>
      some (q21.1, q21.2)
set_option maxRecDepth 20000 in
set_option maxHeartbeats 4000000 in
theorem mk_X4_rivalNumber {X : Nat → Prop} {ad0 ad : Nat → Nat} {w : Nat → Value} {h : ym_H} {s : mt_S} {N : Nat} {a0 : Nat} {a1 : Int32} (hB : kt_B X ad0 ad w h s h s) : kt_ok X ad0 h s (fn_X4_rivalNumber N (some (ad0 (10000 + a0))) a1 h) (gk_X4_rivalNumber N a0 a1 s) := by
  unfold fn_X4_rivalNumber gk_X4_rivalNumber
  refine kt_if (fun _ => ?_) (fun _ => ?_)
  · exact kt_ret hB
  · refine kt_lotO hB (fun _ _ => ?_)
    refine kt_call hB (mk_X4_isLimit (a0 := a0) hB.start) (fun r9 ad w H9 S9 hB => ?_)
    dsimp only
    refine kt_if (fun _ => ?_) (fun _ => ?_)
    · refine kt_lot2 hB (fun hc28 => ?_)
      refine kt_celO hB (fun _ _ => ?_)
      refine kt_call hB (mk_X2_get (a0 := (203 + 4 * a0)) hB.start) (fun r33 ad w H33 S33 hB => ?_)
      dsimp only
      exact kt_ret hB
    · refine kt_lot4 hB (fun hc16 => ?_)
      refine kt_sheO hB (fun _ _ => ?_)
      refine kt_call hB (mk_X5_at (a0 := (205 + 4 * a0)) hB.start) (fun r21 ad w H21 S21 hB => ?_)
      dsimp only
      exact kt_ret hB
def gk_X4_goesAhead (N : Nat) (a0 : Nat) (a1 : Int32) (a2 : Int32) (s : mt_S) : Option (Int32 × mt_S) :=
  Option.bind (gk_lot s a0) fun _ =>
  Option.bind (gk_X4_rivalSum N a0 a1 s) fun q2 =>
  Option.bind (gk_lot q2.2 a0) fun _ =>
  Option.bind (gk_X4_rivalSum N a0 a2 q2.2) fun q7 =>
  if q2.1 = q7.1 then
    Option.bind (gk_lot q7.2 a0) fun _ =>
    Option.bind (gk_X4_rivalNumber N a0 a1 q7.2) fun q36 =>
    Option.bind (gk_lot q36.2 a0) fun _ =>
    Option.bind (gk_X4_rivalNumber N a0 a2 q36.2) fun q41 =>
    if q41.1 ≤ q36.1 then
      some (0, q41.2)
    else
      some (1, q41.2)
  else
    Option.bind (gk_lot q7.2 a0) fun _ =>
    Option.bind (gk_X4_rivalSum N a0 a1 q7.2) fun q16 =>
    Option.bind (gk_lot q16.2 a0) fun _ =>
    Option.bind (gk_X4_rivalSum N a0 a2 q16.2) fun q21 =>
    if q16.1 ≤ q21.1 then
      some (0, q21.2)
    else
      some (1, q21.2)
set_option maxRecDepth 20000 in
set_option maxHeartbeats 4000000 in
theorem mk_X4_goesAhead {X : Nat → Prop} {ad0 ad : Nat → Nat} {w : Nat → Value} {h : ym_H} {s : mt_S} {N : Nat} {a0 : Nat} {a1 : Int32} {a2 : Int32} (hB : kt_B X ad0 ad w h s h s) : kt_ok X ad0 h s (fn_X4_goesAhead N (some (ad0 (10000 + a0))) a1 a2 h) (gk_X4_goesAhead N a0 a1 a2 s) := by
  unfold fn_X4_goesAhead gk_X4_goesAhead
  refine kt_lotO hB (fun _ _ => ?_)
  refine kt_call hB (mk_X4_rivalSum (a0 := a0) hB.start) (fun r2 ad w H2 S2 hB => ?_)
  dsimp only
  refine kt_lotO hB (fun _ _ => ?_)
  refine kt_call hB (mk_X4_rivalSum (a0 := a0) hB.start) (fun r7 ad w H7 S7 hB => ?_)
  dsimp only
  refine kt_if (fun _ => ?_) (fun _ => ?_)
  · refine kt_lotO hB (fun _ _ => ?_)
    refine kt_call hB (mk_X4_rivalNumber (a0 := a0) hB.start) (fun r36 ad w H36 S36 hB => ?_)
    dsimp only
    refine kt_lotO hB (fun _ _ => ?_)
    refine kt_call hB (mk_X4_rivalNumber (a0 := a0) hB.start) (fun r41 ad w H41 S41 hB => ?_)
    dsimp only
    refine kt_if (fun _ => ?_) (fun _ => ?_)
    · exact kt_ret hB
    · exact kt_ret hB
  · refine kt_lotO hB (fun _ _ => ?_)
    refine kt_call hB (mk_X4_rivalSum (a0 := a0) hB.start) (fun r16 ad w H16 S16 hB => ?_)
    dsimp only
    refine kt_lotO hB (fun _ _ => ?_)
    refine kt_call hB (mk_X4_rivalSum (a0 := a0) hB.start) (fun r21 ad w H21 S21 hB => ?_)
    dsimp only
    refine kt_if (fun _ => ?_) (fun _ => ?_)
    · exact kt_ret hB
    · exact kt_ret hB
def gk_X4_isRival (N : Nat) (a0 : Nat) (a1 : Int32) (s : mt_S) : Option (Int32 × mt_S) :=
  Option.bind (gk_lot s a0) fun _ =>
  Option.bind (gk_X4_isLimit N a0 a1 s) fun q2 =>
  if q2.1 = 0 then
    Option.bind (gk_lot q2.2 a0) fun _ =>
    Option.bind (gk_cel q2.2 (203 + 4 * a0)) fun _ =>
    Option.bind (gk_X2_get N (203 + 4 * a0) 8 q2.2) fun q39 =>
    if q39.1 = 0 then
      some (0, q39.2)
    else
      some (1, q39.2)
  else
    Option.bind (gk_lot q2.2 a0) fun _ =>
    Option.bind (gk_she q2.2 (205 + 4 * a0)) fun _ =>
    Option.bind (gk_X5_at N (205 + 4 * a0) a1 1 q2.2) fun q14 =>
    Option.bind (gk_lot q14.2 a0) fun _ =>
    Option.bind (gk_X4_startNow N a0 q14.2) fun q18 =>
    if q14.1 < q18.1 then
      some (0, q18.2)
    else
      some (1, q18.2)
set_option maxRecDepth 20000 in
set_option maxHeartbeats 4000000 in
theorem mk_X4_isRival {X : Nat → Prop} {ad0 ad : Nat → Nat} {w : Nat → Value} {h : ym_H} {s : mt_S} {N : Nat} {a0 : Nat} {a1 : Int32} (hB : kt_B X ad0 ad w h s h s) : kt_ok X ad0 h s (fn_X4_isRival N (some (ad0 (10000 + a0))) a1 h) (gk_X4_isRival N a0 a1 s) := by
  unfold fn_X4_isRival gk_X4_isRival
  refine kt_lotO hB (fun _ _ => ?_)
  refine kt_call hB (mk_X4_isLimit (a0 := a0) hB.start) (fun r2 ad w H2 S2 hB => ?_)
  dsimp only
  refine kt_if (fun _ => ?_) (fun _ => ?_)
  · refine kt_lot2 hB (fun hc34 => ?_)
    refine kt_celO hB (fun _ _ => ?_)
    refine kt_call hB (mk_X2_get (a0 := (203 + 4 * a0)) hB.start) (fun r39 ad w H39 S39 hB => ?_)
    dsimp only
    refine kt_if (fun _ => ?_) (fun _ => ?_)
    · exact kt_ret hB
    · exact kt_ret hB
  · refine kt_lot4 hB (fun hc9 => ?_)
    refine kt_sheO hB (fun _ _ => ?_)
    refine kt_call hB (mk_X5_at (a0 := (205 + 4 * a0)) hB.start) (fun r14 ad w H14 S14 hB => ?_)
    dsimp only
    refine kt_lotO hB (fun _ _ => ?_)
    refine kt_call hB (mk_X4_startNow (a0 := a0) hB.start) (fun r18 ad w H18 S18 hB => ?_)
    dsimp only
    refine kt_if (fun _ => ?_) (fun _ => ?_)
    · exact kt_ret hB
    · exact kt_ret hB
def gkb_X4_greatestRival_55_13 (Kl : Nat → Int32 → Int32 → Int32 → Int32 → mt_S → Option ((Int32) × mt_S)) (N : Nat) (w0 : Nat) (w1 : Int32) (w2 : Int32) (w3 : Int32) (w4 : Int32) (s : mt_S) : Option ((Int32) × mt_S) :=
  Kl w0 w1 w2 w3 (w4 + 1) s
set_option maxRecDepth 20000 in
set_option maxHeartbeats 4000000 in
theorem mk_bl_X4_greatestRival_55_13 {X : Nat → Prop} {ad0 ad : Nat → Nat} {w : Nat → Value} {H0 h : ym_H} {S0 s : mt_S} {K : Option Nat → Int32 → Int32 → Int32 → Int32 → ym_H → Option ((Int32) × ym_H)} {Kl : Nat → Int32 → Int32 → Int32 → Int32 → mt_S → Option ((Int32) × mt_S)} (hKl : ∀ (w0 : Nat) (w1 : Int32) (w2 : Int32) (w3 : Int32) (w4 : Int32) (ad : Nat → Nat) (w : Nat → Value) (h : ym_H) (s : mt_S), kt_B X ad0 ad w H0 S0 h s → kt_ok X ad0 H0 S0 (K (some (ad0 (10000 + w0))) w1 w2 w3 w4 h) (Kl w0 w1 w2 w3 w4 s)) {N : Nat} {w0 : Nat} {w1 : Int32} {w2 : Int32} {w3 : Int32} {w4 : Int32} (hB : kt_B X ad0 ad w H0 S0 h s) : kt_ok X ad0 H0 S0 (bl_X4_greatestRival_55_13 K N (some (ad0 (10000 + w0))) w1 w2 w3 w4 h) (gkb_X4_greatestRival_55_13 Kl N w0 w1 w2 w3 w4 s) := by
  unfold bl_X4_greatestRival_55_13 gkb_X4_greatestRival_55_13
  exact hKl w0 _ _ _ _ _ _ _ _ hB
def gkb_X4_greatestRival_52_13 (Kl : Nat → Int32 → Int32 → Int32 → Int32 → mt_S → Option ((Int32) × mt_S)) (N : Nat) (w0 : Nat) (w1 : Int32) (w3 : Int32) (w4 : Int32) (s : mt_S) : Option ((Int32) × mt_S) :=
  gkb_X4_greatestRival_55_13 Kl N w0 w1 w4 w3 w4 s
set_option maxRecDepth 20000 in
set_option maxHeartbeats 4000000 in
theorem mk_bl_X4_greatestRival_52_13 {X : Nat → Prop} {ad0 ad : Nat → Nat} {w : Nat → Value} {H0 h : ym_H} {S0 s : mt_S} {K : Option Nat → Int32 → Int32 → Int32 → Int32 → ym_H → Option ((Int32) × ym_H)} {Kl : Nat → Int32 → Int32 → Int32 → Int32 → mt_S → Option ((Int32) × mt_S)} (hKl : ∀ (w0 : Nat) (w1 : Int32) (w2 : Int32) (w3 : Int32) (w4 : Int32) (ad : Nat → Nat) (w : Nat → Value) (h : ym_H) (s : mt_S), kt_B X ad0 ad w H0 S0 h s → kt_ok X ad0 H0 S0 (K (some (ad0 (10000 + w0))) w1 w2 w3 w4 h) (Kl w0 w1 w2 w3 w4 s)) {N : Nat} {w0 : Nat} {w1 : Int32} {w3 : Int32} {w4 : Int32} (hB : kt_B X ad0 ad w H0 S0 h s) : kt_ok X ad0 H0 S0 (bl_X4_greatestRival_52_13 K N (some (ad0 (10000 + w0))) w1 w3 w4 h) (gkb_X4_greatestRival_52_13 Kl N w0 w1 w3 w4 s) := by
  unfold bl_X4_greatestRival_52_13 gkb_X4_greatestRival_52_13
  exact mk_bl_X4_greatestRival_55_13 (w0 := w0) hKl hB
def gkl_X4_greatestRival_13 (Kl : Nat → Int32 → Int32 → Int32 → Int32 → mt_S → Option ((Int32) × mt_S)) (N : Nat) (w0 : Nat) (w1 : Int32) (w2 : Int32) (w3 : Int32) (w4 : Int32) (s : mt_S) : Option ((Int32) × mt_S) :=
  if w3 < w4 then
    some (w2, s)
  else
    if w4 = w1 then
      gkb_X4_greatestRival_55_13 Kl N w0 w1 w2 w3 w4 s
    else
      Option.bind (gk_lot s w0) fun _ =>
      Option.bind (gk_X4_isRival N w0 w4 s) fun q28 =>
      if q28.1 = 0 then
        gkb_X4_greatestRival_55_13 Kl N w0 w1 w2 w3 w4 q28.2
      else
        if w2 = (-1) then
          gkb_X4_greatestRival_52_13 Kl N w0 w1 w3 w4 q28.2
        else
          Option.bind (gk_lot q28.2 w0) fun _ =>
          Option.bind (gk_X4_goesAhead N w0 w4 w2 q28.2) fun q46 =>
          if q46.1 = 0 then
            gkb_X4_greatestRival_55_13 Kl N w0 w1 w2 w3 w4 q46.2
          else
            gkb_X4_greatestRival_52_13 Kl N w0 w1 w3 w4 q46.2
set_option maxRecDepth 20000 in
set_option maxHeartbeats 4000000 in
theorem mk_lb_X4_greatestRival_13 {X : Nat → Prop} {ad0 ad : Nat → Nat} {w : Nat → Value} {H0 h : ym_H} {S0 s : mt_S} {K : Option Nat → Int32 → Int32 → Int32 → Int32 → ym_H → Option ((Int32) × ym_H)} {Kl : Nat → Int32 → Int32 → Int32 → Int32 → mt_S → Option ((Int32) × mt_S)} (hKl : ∀ (w0 : Nat) (w1 : Int32) (w2 : Int32) (w3 : Int32) (w4 : Int32) (ad : Nat → Nat) (w : Nat → Value) (h : ym_H) (s : mt_S), kt_B X ad0 ad w H0 S0 h s → kt_ok X ad0 H0 S0 (K (some (ad0 (10000 + w0))) w1 w2 w3 w4 h) (Kl w0 w1 w2 w3 w4 s)) {N : Nat} {w0 : Nat} {w1 : Int32} {w2 : Int32} {w3 : Int32} {w4 : Int32} (hB : kt_B X ad0 ad w H0 S0 h s) : kt_ok X ad0 H0 S0 (lb_X4_greatestRival_13 K N (some (ad0 (10000 + w0))) w1 w2 w3 w4 h) (gkl_X4_greatestRival_13 Kl N w0 w1 w2 w3 w4 s) := by
  unfold lb_X4_greatestRival_13 gkl_X4_greatestRival_13
  refine kt_if (fun _ => ?_) (fun _ => ?_)
  · exact kt_ret hB
  · refine kt_if (fun _ => ?_) (fun _ => ?_)
    · exact mk_bl_X4_greatestRival_55_13 (w0 := w0) hKl hB
    · refine kt_lotO hB (fun _ _ => ?_)
      refine kt_call hB (mk_X4_isRival (a0 := w0) hB.start) (fun r28 ad w H28 S28 hB => ?_)
      dsimp only
      refine kt_if (fun _ => ?_) (fun _ => ?_)
      · exact mk_bl_X4_greatestRival_55_13 (w0 := w0) hKl hB
      · refine kt_if (fun _ => ?_) (fun _ => ?_)
        · exact mk_bl_X4_greatestRival_52_13 (w0 := w0) hKl hB
        · refine kt_lotO hB (fun _ _ => ?_)
          refine kt_call hB (mk_X4_goesAhead (a0 := w0) hB.start) (fun r46 ad w H46 S46 hB => ?_)
          dsimp only
          refine kt_if (fun _ => ?_) (fun _ => ?_)
          · exact mk_bl_X4_greatestRival_55_13 (w0 := w0) hKl hB
          · exact mk_bl_X4_greatestRival_52_13 (w0 := w0) hKl hB
def gkp_X4_greatestRival_13 (N : Nat) : Nat → Nat → Int32 → Int32 → Int32 → Int32 → mt_S → Option ((Int32) × mt_S)
  | 0, _, _, _, _, _, _ => none
  | n + 1, w0, w1, w2, w3, w4, s => gkl_X4_greatestRival_13 (gkp_X4_greatestRival_13 N n) N w0 w1 w2 w3 w4 s
theorem mk_lp_X4_greatestRival_13 {X : Nat → Prop} {ad0 : Nat → Nat} {H0 : ym_H} {S0 : mt_S} {N : Nat} : ∀ (n : Nat) (ad : Nat → Nat) (w : Nat → Value) (h : ym_H) (s : mt_S) (w0 : Nat) (w1 : Int32) (w2 : Int32) (w3 : Int32) (w4 : Int32), kt_B X ad0 ad w H0 S0 h s → kt_ok X ad0 H0 S0 (lp_X4_greatestRival_13 N n (some (ad0 (10000 + w0))) w1 w2 w3 w4 h) (gkp_X4_greatestRival_13 N n w0 w1 w2 w3 w4 s) := by
  intro n
  induction n with
  | zero => intro ad w h s w0 w1 w2 w3 w4 hB; exact kt_no
  | succ n ih =>
    intro ad w h s w0 w1 w2 w3 w4 hB
    exact mk_lb_X4_greatestRival_13 (fun w0 w1 w2 w3 w4 ad w h s hB => ih ad w h s w0 w1 w2 w3 w4 hB) hB
def gk_X4_greatestRival (N : Nat) (a0 : Nat) (a1 : Int32) (s : mt_S) : Option (Int32 × mt_S) :=
  Option.bind (gk_lot s a0) fun _ =>
  Option.bind (gk_she s (205 + 4 * a0)) fun _ =>
  Option.bind (gk_X5_rows N (205 + 4 * a0) s) fun q6 =>
  Option.bind (gkp_X4_greatestRival_13 N N a0 a1 (-1) q6.1 0 q6.2) fun q13 =>
  some (q13.1, q13.2)
set_option maxRecDepth 20000 in
set_option maxHeartbeats 4000000 in
theorem mk_X4_greatestRival {X : Nat → Prop} {ad0 ad : Nat → Nat} {w : Nat → Value} {h : ym_H} {s : mt_S} {N : Nat} {a0 : Nat} {a1 : Int32} (hB : kt_B X ad0 ad w h s h s) : kt_ok X ad0 h s (fn_X4_greatestRival N (some (ad0 (10000 + a0))) a1 h) (gk_X4_greatestRival N a0 a1 s) := by
  unfold fn_X4_greatestRival gk_X4_greatestRival
  refine kt_lot4 hB (fun hc3 => ?_)
  refine kt_sheO hB (fun _ _ => ?_)
  refine kt_call hB (mk_X5_rows (a0 := (205 + 4 * a0)) hB.start) (fun r6 ad w H6 S6 hB => ?_)
  dsimp only
  refine kt_call hB (mk_lp_X4_greatestRival_13 N _ _ _ _ a0 _ _ _ _ hB.start) (fun r13 ad w H13 S13 hB => ?_)
  dsimp only
  exact kt_ret hB
def gk_X4_hasBidderAlready (N : Nat) (a0 : Nat) (a1 : Int32) (s : mt_S) : Option (Int32 × mt_S) :=
  Option.bind (gk_lot s a0) fun _ =>
  if (s.1 8 a0) = 4 then
    Option.bind (gk_lot s a0) fun _ =>
    Option.bind (gk_she s (204 + 4 * a0)) fun _ =>
    Option.bind (gk_X5_rowOf N (204 + 4 * a0) a1 s) fun q13 =>
    if q13.1 = (-1) then
      some (0, q13.2)
    else
      some (1, q13.2)
  else
    Option.bind (gk_lot s a0) fun _ =>
    Option.bind (gk_X4_standingBidder N a0 s) fun q29 =>
    if q29.1 = a1 then
      some (1, q29.2)
    else
      some (0, q29.2)
set_option maxRecDepth 20000 in
set_option maxHeartbeats 4000000 in
theorem mk_X4_hasBidderAlready {X : Nat → Prop} {ad0 ad : Nat → Nat} {w : Nat → Value} {h : ym_H} {s : mt_S} {N : Nat} {a0 : Nat} {a1 : Int32} (hB : kt_B X ad0 ad w h s h s) : kt_ok X ad0 h s (fn_X4_hasBidderAlready N (some (ad0 (10000 + a0))) a1 h) (gk_X4_hasBidderAlready N a0 a1 s) := by
  unfold fn_X4_hasBidderAlready gk_X4_hasBidderAlready
  refine kt_lot0 hB (fun hc1 => ?_)
  refine kt_if (fun _ => ?_) (fun _ => ?_)
  · refine kt_lot3 hB (fun hc9 => ?_)
    refine kt_sheO hB (fun _ _ => ?_)
    refine kt_call hB (mk_X5_rowOf (a0 := (204 + 4 * a0)) hB.start) (fun r13 ad w H13 S13 hB => ?_)
    dsimp only
    refine kt_if (fun _ => ?_) (fun _ => ?_)
    · exact kt_ret hB
    · exact kt_ret hB
  · refine kt_lotO hB (fun _ _ => ?_)
    refine kt_call hB (mk_X4_standingBidder (a0 := a0) hB.start) (fun r29 ad w H29 S29 hB => ?_)
    dsimp only
    refine kt_if (fun _ => ?_) (fun _ => ?_)
    · exact kt_ret hB
    · exact kt_ret hB
def gk_X4_hasBook (N : Nat) (a0 : Nat) (s : mt_S) : Option (Int32 × mt_S) :=
  Option.bind (gk_lot s a0) fun _ =>
  Option.bind (gk_X4_stateNow N a0 s) fun q1 =>
  if q1.1 = 0 then
    some (0, q1.2)
  else
    some (1, q1.2)
set_option maxRecDepth 20000 in
set_option maxHeartbeats 4000000 in
theorem mk_X4_hasBook {X : Nat → Prop} {ad0 ad : Nat → Nat} {w : Nat → Value} {h : ym_H} {s : mt_S} {N : Nat} {a0 : Nat} (hB : kt_B X ad0 ad w h s h s) : kt_ok X ad0 h s (fn_X4_hasBook N (some (ad0 (10000 + a0))) h) (gk_X4_hasBook N a0 s) := by
  unfold fn_X4_hasBook gk_X4_hasBook
  refine kt_lotO hB (fun _ _ => ?_)
  refine kt_call hB (mk_X4_stateNow (a0 := a0) hB.start) (fun r1 ad w H1 S1 hB => ?_)
  dsimp only
  refine kt_if (fun _ => ?_) (fun _ => ?_)
  · exact kt_ret hB
  · exact kt_ret hB
def gk_X4_isJoined (N : Nat) (a0 : Nat) (s : mt_S) : Option (Int32 × mt_S) :=
  Option.bind (gk_lot s a0) fun _ =>
  Option.bind (gk_cel s (203 + 4 * a0)) fun _ =>
  Option.bind (gk_X2_get N (203 + 4 * a0) 11 s) fun q6 =>
  if q6.1 = (-1) then
    some (0, q6.2)
  else
    some (1, q6.2)
set_option maxRecDepth 20000 in
set_option maxHeartbeats 4000000 in
theorem mk_X4_isJoined {X : Nat → Prop} {ad0 ad : Nat → Nat} {w : Nat → Value} {h : ym_H} {s : mt_S} {N : Nat} {a0 : Nat} (hB : kt_B X ad0 ad w h s h s) : kt_ok X ad0 h s (fn_X4_isJoined N (some (ad0 (10000 + a0))) h) (gk_X4_isJoined N a0 s) := by
  unfold fn_X4_isJoined gk_X4_isJoined
  refine kt_lot2 hB (fun hc1 => ?_)
  refine kt_celO hB (fun _ _ => ?_)
  refine kt_call hB (mk_X2_get (a0 := (203 + 4 * a0)) hB.start) (fun r6 ad w H6 S6 hB => ?_)
  dsimp only
  refine kt_if (fun _ => ?_) (fun _ => ?_)
  · exact kt_ret hB
  · exact kt_ret hB
def gk_X4_isOpen (N : Nat) (a0 : Nat) (s : mt_S) : Option (Int32 × mt_S) :=
  Option.bind (gk_lot s a0) fun _ =>
  Option.bind (gk_X4_stateNow N a0 s) fun q1 =>
  if q1.1 = 1 then
    some (1, q1.2)
  else
    some (0, q1.2)
set_option maxRecDepth 20000 in
set_option maxHeartbeats 4000000 in
theorem mk_X4_isOpen {X : Nat → Prop} {ad0 ad : Nat → Nat} {w : Nat → Value} {h : ym_H} {s : mt_S} {N : Nat} {a0 : Nat} (hB : kt_B X ad0 ad w h s h s) : kt_ok X ad0 h s (fn_X4_isOpen N (some (ad0 (10000 + a0))) h) (gk_X4_isOpen N a0 s) := by
  unfold fn_X4_isOpen gk_X4_isOpen
  refine kt_lotO hB (fun _ _ => ?_)
  refine kt_call hB (mk_X4_stateNow (a0 := a0) hB.start) (fun r1 ad w H1 S1 hB => ?_)
  dsimp only
  refine kt_if (fun _ => ?_) (fun _ => ?_)
  · exact kt_ret hB
  · exact kt_ret hB
def gk_X4_isRaised (N : Nat) (a0 : Nat) (s : mt_S) : Option (Int32 × mt_S) :=
  Option.bind (gk_lot s a0) fun _ =>
  if (s.1 8 a0) = 4 then
    some (0, s)
  else
    Option.bind (gk_lot s a0) fun _ =>
    if (s.1 8 a0) = 5 then
      some (0, s)
    else
      some (1, s)
set_option maxRecDepth 20000 in
set_option maxHeartbeats 4000000 in
theorem mk_X4_isRaised {X : Nat → Prop} {ad0 ad : Nat → Nat} {w : Nat → Value} {h : ym_H} {s : mt_S} {N : Nat} {a0 : Nat} (hB : kt_B X ad0 ad w h s h s) : kt_ok X ad0 h s (fn_X4_isRaised N (some (ad0 (10000 + a0))) h) (gk_X4_isRaised N a0 s) := by
  unfold fn_X4_isRaised gk_X4_isRaised
  refine kt_lot0 hB (fun hc1 => ?_)
  refine kt_if (fun _ => ?_) (fun _ => ?_)
  · exact kt_ret hB
  · refine kt_lot0 hB (fun hc9 => ?_)
    refine kt_if (fun _ => ?_) (fun _ => ?_)
    · exact kt_ret hB
    · exact kt_ret hB
def gk_X4_partNumber (N : Nat) (a0 : Nat) (a1 : Int32) (a2 : Int32) (s : mt_S) : Option (Int32 × mt_S) :=
  Option.bind (gk_lot s a0) fun _ =>
  Option.bind (gk_cel s (203 + 4 * a0)) fun _ =>
  Option.bind (gk_X2_get N (203 + 4 * a0) 11 s) fun q6 =>
  if q6.1 = (Int32.toInt64 a2) then
    Option.bind (gk_lot q6.2 a0) fun _ =>
    Option.bind (gk_cel q6.2 (203 + 4 * a0)) fun _ =>
    Option.bind (gk_X2_get N (203 + 4 * a0) a1 q6.2) fun q20 =>
    some ((Int64.toInt32 q20.1), q20.2)
  else
    some ((-1), q6.2)
set_option maxRecDepth 20000 in
set_option maxHeartbeats 4000000 in
theorem mk_X4_partNumber {X : Nat → Prop} {ad0 ad : Nat → Nat} {w : Nat → Value} {h : ym_H} {s : mt_S} {N : Nat} {a0 : Nat} {a1 : Int32} {a2 : Int32} (hB : kt_B X ad0 ad w h s h s) : kt_ok X ad0 h s (fn_X4_partNumber N (some (ad0 (10000 + a0))) a1 a2 h) (gk_X4_partNumber N a0 a1 a2 s) := by
  unfold fn_X4_partNumber gk_X4_partNumber
  refine kt_lot2 hB (fun hc1 => ?_)
  refine kt_celO hB (fun _ _ => ?_)
  refine kt_call hB (mk_X2_get (a0 := (203 + 4 * a0)) hB.start) (fun r6 ad w H6 S6 hB => ?_)
  dsimp only
  refine kt_if (fun _ => ?_) (fun _ => ?_)
  · refine kt_lot2 hB (fun hc16 => ?_)
    refine kt_celO hB (fun _ _ => ?_)
    refine kt_call hB (mk_X2_get (a0 := (203 + 4 * a0)) hB.start) (fun r20 ad w H20 S20 hB => ?_)
    dsimp only
    exact kt_ret hB
  · exact kt_ret hB
def gk_X5_clear (N : Nat) (a0 : Nat) (s : mt_S) : Option (Unit × mt_S) :=
  Option.bind (gk_she s a0) fun _ =>
  Option.bind (gk_cel s a0) fun _ =>
  Option.bind (gk_X2_put N a0 0 0 s) fun q6 =>
  some ((), q6.2)
set_option maxRecDepth 20000 in
set_option maxHeartbeats 4000000 in
theorem mk_X5_clear {X : Nat → Prop} {ad0 ad : Nat → Nat} {w : Nat → Value} {h : ym_H} {s : mt_S} {N : Nat} {a0 : Nat} (hB : kt_B X ad0 ad w h s h s) : kt_ok X ad0 h s (fn_X5_clear N (some (ad0 (7000 + a0))) h) (gk_X5_clear N a0 s) := by
  unfold fn_X5_clear gk_X5_clear
  refine kt_she0 hB (fun hc1 => ?_)
  refine kt_celO hB (fun _ _ => ?_)
  refine kt_call hB (mk_X2_put (a0 := a0) hB.start) (fun r6 ad w H6 S6 hB => ?_)
  dsimp only
  exact kt_ret hB
def gkl_X4_renew_11 (Kl : Nat → Int32 → mt_S → Option ((Unit) × mt_S)) (N : Nat) (w0 : Nat) (w3 : Int32) (s : mt_S) : Option ((Unit) × mt_S) :=
  if 10 < w3 then
    some ((), s)
  else
    Option.bind (gk_lot s w0) fun _ =>
    Option.bind (gk_cel s (203 + 4 * w0)) fun _ =>
    Option.bind (gk_X2_put N (203 + 4 * w0) w3 0 s) fun q23 =>
    Kl w0 (w3 + 1) q23.2
set_option maxRecDepth 20000 in
set_option maxHeartbeats 4000000 in
theorem mk_lb_X4_renew_11 {X : Nat → Prop} {ad0 ad : Nat → Nat} {w : Nat → Value} {H0 h : ym_H} {S0 s : mt_S} {K : Option Nat → Int32 → ym_H → Option ((Unit) × ym_H)} {Kl : Nat → Int32 → mt_S → Option ((Unit) × mt_S)} (hKl : ∀ (w0 : Nat) (w3 : Int32) (ad : Nat → Nat) (w : Nat → Value) (h : ym_H) (s : mt_S), kt_B X ad0 ad w H0 S0 h s → kt_ok X ad0 H0 S0 (K (some (ad0 (10000 + w0))) w3 h) (Kl w0 w3 s)) {N : Nat} {w0 : Nat} {w3 : Int32} (hB : kt_B X ad0 ad w H0 S0 h s) : kt_ok X ad0 H0 S0 (lb_X4_renew_11 K N (some (ad0 (10000 + w0))) w3 h) (gkl_X4_renew_11 Kl N w0 w3 s) := by
  unfold lb_X4_renew_11 gkl_X4_renew_11
  refine kt_if (fun _ => ?_) (fun _ => ?_)
  · exact kt_ret hB
  · refine kt_lot2 hB (fun hc18 => ?_)
    refine kt_celO hB (fun _ _ => ?_)
    refine kt_call hB (mk_X2_put (a0 := (203 + 4 * w0)) hB.start) (fun r23 ad w H23 S23 hB => ?_)
    dsimp only
    exact hKl w0 _ _ _ _ _ hB
def gkp_X4_renew_11 (N : Nat) : Nat → Nat → Int32 → mt_S → Option ((Unit) × mt_S)
  | 0, _, _, _ => none
  | n + 1, w0, w3, s => gkl_X4_renew_11 (gkp_X4_renew_11 N n) N w0 w3 s
theorem mk_lp_X4_renew_11 {X : Nat → Prop} {ad0 : Nat → Nat} {H0 : ym_H} {S0 : mt_S} {N : Nat} : ∀ (n : Nat) (ad : Nat → Nat) (w : Nat → Value) (h : ym_H) (s : mt_S) (w0 : Nat) (w3 : Int32), kt_B X ad0 ad w H0 S0 h s → kt_ok X ad0 H0 S0 (lp_X4_renew_11 N n (some (ad0 (10000 + w0))) w3 h) (gkp_X4_renew_11 N n w0 w3 s) := by
  intro n
  induction n with
  | zero => intro ad w h s w0 w3 hB; exact kt_no
  | succ n ih =>
    intro ad w h s w0 w3 hB
    exact mk_lb_X4_renew_11 (fun w0 w3 ad w h s hB => ih ad w h s w0 w3 hB) hB
def gk_X4_renew (N : Nat) (a0 : Nat) (a1 : Int64) (s : mt_S) : Option (Unit × mt_S) :=
  Option.bind (gk_lot s a0) fun _ =>
  Option.bind (gk_cel s (203 + 4 * a0)) fun _ =>
  Option.bind (gk_X2_put N (203 + 4 * a0) 0 a1 s) fun q6 =>
  Option.bind (gkp_X4_renew_11 N N a0 2 q6.2) fun q11 =>
  Option.bind (gk_lot q11.2 a0) fun _ =>
  Option.bind (gk_she q11.2 (204 + 4 * a0)) fun _ =>
  Option.bind (gk_X5_clear N (204 + 4 * a0) q11.2) fun q36 =>
  Option.bind (gk_lot q36.2 a0) fun _ =>
  Option.bind (gk_she q36.2 (205 + 4 * a0)) fun _ =>
  Option.bind (gk_X5_clear N (205 + 4 * a0) q36.2) fun q43 =>
  some ((), q43.2)
set_option maxRecDepth 20000 in
set_option maxHeartbeats 4000000 in
theorem mk_X4_renew {X : Nat → Prop} {ad0 ad : Nat → Nat} {w : Nat → Value} {h : ym_H} {s : mt_S} {N : Nat} {a0 : Nat} {a1 : Int64} (hB : kt_B X ad0 ad w h s h s) : kt_ok X ad0 h s (fn_X4_renew N (some (ad0 (10000 + a0))) a1 h) (gk_X4_renew N a0 a1 s) := by
  unfold fn_X4_renew gk_X4_renew
  refine kt_lot2 hB (fun hc1 => ?_)
  refine kt_celO hB (fun _ _ => ?_)
  refine kt_call hB (mk_X2_put (a0 := (203 + 4 * a0)) hB.start) (fun r6 ad w H6 S6 hB => ?_)
  dsimp only
  refine kt_call hB (mk_lp_X4_renew_11 N _ _ _ _ a0 _ hB.start) (fun r11 ad w H11 S11 hB => ?_)
  dsimp only
  refine kt_lot3 hB (fun hc33 => ?_)
  refine kt_sheO hB (fun _ _ => ?_)
  refine kt_call hB (mk_X5_clear (a0 := (204 + 4 * a0)) hB.start) (fun r36 ad w H36 S36 hB => ?_)
  dsimp only
  refine kt_lot4 hB (fun hc40 => ?_)
  refine kt_sheO hB (fun _ _ => ?_)
  refine kt_call hB (mk_X5_clear (a0 := (205 + 4 * a0)) hB.start) (fun r43 ad w H43 S43 hB => ?_)
  dsimp only
  exact kt_ret hB
def gkb_X4_tellWinner_64_16 (Kl : Nat → Int32 → Int64 → Int32 → Int32 → mt_S → Option ((Int32 × Int64) × mt_S)) (N : Nat) (w0 : Nat) (w1 : Int32) (w2 : Int64) (w4 : Int32) (w5 : Int32) (w6 : Int64) (s : mt_S) : Option ((Int32 × Int64) × mt_S) :=
  Kl w0 w1 (if w6 < w2 then w2 else w6) w4 (w5 + 1) s
set_option maxRecDepth 20000 in
set_option maxHeartbeats 4000000 in
theorem mk_bl_X4_tellWinner_64_16 {X : Nat → Prop} {ad0 ad : Nat → Nat} {w : Nat → Value} {H0 h : ym_H} {S0 s : mt_S} {K : Option Nat → Int32 → Int64 → Int32 → Int32 → ym_H → Option ((Int32 × Int64) × ym_H)} {Kl : Nat → Int32 → Int64 → Int32 → Int32 → mt_S → Option ((Int32 × Int64) × mt_S)} (hKl : ∀ (w0 : Nat) (w1 : Int32) (w2 : Int64) (w4 : Int32) (w5 : Int32) (ad : Nat → Nat) (w : Nat → Value) (h : ym_H) (s : mt_S), kt_B X ad0 ad w H0 S0 h s → kt_ok X ad0 H0 S0 (K (some (ad0 (10000 + w0))) w1 w2 w4 w5 h) (Kl w0 w1 w2 w4 w5 s)) {N : Nat} {w0 : Nat} {w1 : Int32} {w2 : Int64} {w4 : Int32} {w5 : Int32} {w6 : Int64} (hB : kt_B X ad0 ad w H0 S0 h s) : kt_ok X ad0 H0 S0 (bl_X4_tellWinner_64_16 K N (some (ad0 (10000 + w0))) w1 w2 w4 w5 w6 h) (gkb_X4_tellWinner_64_16 Kl N w0 w1 w2 w4 w5 w6 s) := by
  unfold bl_X4_tellWinner_64_16 gkb_X4_tellWinner_64_16
  exact hKl w0 _ _ _ _ _ _ _ _ hB
def gkl_X4_tellWinner_16 (Kl : Nat → Int32 → Int64 → Int32 → Int32 → mt_S → Option ((Int32 × Int64) × mt_S)) (N : Nat) (w0 : Nat) (w1 : Int32) (w2 : Int64) (w4 : Int32) (w5 : Int32) (s : mt_S) : Option ((Int32 × Int64) × mt_S) :=
  if w4 ≤ w5 then
    some ((w1, w2), s)
  else
    Option.bind (gk_lot s w0) fun _ =>
    Option.bind (gk_she s (204 + 4 * w0)) fun _ =>
    Option.bind (gk_X5_at N (204 + 4 * w0) w5 1 s) fun q30 =>
    Option.bind (gk_lot q30.2 w0) fun _ =>
    Option.bind (gk_she q30.2 (204 + 4 * w0)) fun _ =>
    Option.bind (gk_X5_at N (204 + 4 * w0) w1 1 q30.2) fun q43 =>
    if q30.1 ≤ q43.1 then
      gkb_X4_tellWinner_64_16 Kl N w0 w1 w2 w4 w5 q30.1 q43.2
    else
      Option.bind (gk_lot q43.2 w0) fun _ =>
      Option.bind (gk_she q43.2 (204 + 4 * w0)) fun _ =>
      Option.bind (gk_X5_at N (204 + 4 * w0) w1 1 q43.2) fun q56 =>
      gkb_X4_tellWinner_64_16 Kl N w0 w5 w2 w4 w5 q56.1 q56.2
set_option maxRecDepth 20000 in
set_option maxHeartbeats 4000000 in
theorem mk_lb_X4_tellWinner_16 {X : Nat → Prop} {ad0 ad : Nat → Nat} {w : Nat → Value} {H0 h : ym_H} {S0 s : mt_S} {K : Option Nat → Int32 → Int64 → Int32 → Int32 → ym_H → Option ((Int32 × Int64) × ym_H)} {Kl : Nat → Int32 → Int64 → Int32 → Int32 → mt_S → Option ((Int32 × Int64) × mt_S)} (hKl : ∀ (w0 : Nat) (w1 : Int32) (w2 : Int64) (w4 : Int32) (w5 : Int32) (ad : Nat → Nat) (w : Nat → Value) (h : ym_H) (s : mt_S), kt_B X ad0 ad w H0 S0 h s → kt_ok X ad0 H0 S0 (K (some (ad0 (10000 + w0))) w1 w2 w4 w5 h) (Kl w0 w1 w2 w4 w5 s)) {N : Nat} {w0 : Nat} {w1 : Int32} {w2 : Int64} {w4 : Int32} {w5 : Int32} (hB : kt_B X ad0 ad w H0 S0 h s) : kt_ok X ad0 H0 S0 (lb_X4_tellWinner_16 K N (some (ad0 (10000 + w0))) w1 w2 w4 w5 h) (gkl_X4_tellWinner_16 Kl N w0 w1 w2 w4 w5 s) := by
  unfold lb_X4_tellWinner_16 gkl_X4_tellWinner_16
  refine kt_if (fun _ => ?_) (fun _ => ?_)
  · exact kt_ret hB
  · refine kt_lot3 hB (fun hc24 => ?_)
    refine kt_sheO hB (fun _ _ => ?_)
    refine kt_call hB (mk_X5_at (a0 := (204 + 4 * w0)) hB.start) (fun r30 ad w H30 S30 hB => ?_)
    dsimp only
    refine kt_lot3 hB (fun hc38 => ?_)
    refine kt_sheO hB (fun _ _ => ?_)
    refine kt_call hB (mk_X5_at (a0 := (204 + 4 * w0)) hB.start) (fun r43 ad w H43 S43 hB => ?_)
    dsimp only
    refine kt_if (fun _ => ?_) (fun _ => ?_)
    · exact mk_bl_X4_tellWinner_64_16 (w0 := w0) hKl hB
    · refine kt_lot3 hB (fun hc51 => ?_)
      refine kt_sheO hB (fun _ _ => ?_)
      refine kt_call hB (mk_X5_at (a0 := (204 + 4 * w0)) hB.start) (fun r56 ad w H56 S56 hB => ?_)
      dsimp only
      exact mk_bl_X4_tellWinner_64_16 (w0 := w0) hKl hB
def gkp_X4_tellWinner_16 (N : Nat) : Nat → Nat → Int32 → Int64 → Int32 → Int32 → mt_S → Option ((Int32 × Int64) × mt_S)
  | 0, _, _, _, _, _, _ => none
  | n + 1, w0, w1, w2, w4, w5, s => gkl_X4_tellWinner_16 (gkp_X4_tellWinner_16 N n) N w0 w1 w2 w4 w5 s
theorem mk_lp_X4_tellWinner_16 {X : Nat → Prop} {ad0 : Nat → Nat} {H0 : ym_H} {S0 : mt_S} {N : Nat} : ∀ (n : Nat) (ad : Nat → Nat) (w : Nat → Value) (h : ym_H) (s : mt_S) (w0 : Nat) (w1 : Int32) (w2 : Int64) (w4 : Int32) (w5 : Int32), kt_B X ad0 ad w H0 S0 h s → kt_ok X ad0 H0 S0 (lp_X4_tellWinner_16 N n (some (ad0 (10000 + w0))) w1 w2 w4 w5 h) (gkp_X4_tellWinner_16 N n w0 w1 w2 w4 w5 s) := by
  intro n
  induction n with
  | zero => intro ad w h s w0 w1 w2 w4 w5 hB; exact kt_no
  | succ n ih =>
    intro ad w h s w0 w1 w2 w4 w5 hB
    exact mk_lb_X4_tellWinner_16 (fun w0 w1 w2 w4 w5 ad w h s hB => ih ad w h s w0 w1 w2 w4 w5 hB) hB
def gkb_X4_tellWinner_168 (N : Nat) (s0 : Int64) (s1 : Int32) (s2 : Nat) (s : mt_S) : Option (Unit × mt_S) :=
  Option.bind (gk_cel s s2) fun _ =>
  Option.bind (gk_X2_put N s2 s1 s0 s) fun q168 =>
  some ((), q168.2)
set_option maxRecDepth 20000 in
set_option maxHeartbeats 4000000 in
theorem mk_bl_X4_tellWinner_168 {X : Nat → Prop} {ad0 ad : Nat → Nat} {w : Nat → Value} {H0 h : ym_H} {S0 s : mt_S} {N : Nat} {s0 : Int64} {s1 : Int32} {s2 : Nat} (hB : kt_B X ad0 ad w H0 S0 h s) : kt_ok X ad0 H0 S0 (bl_X4_tellWinner_168 N s0 s1 (some (ad0 (1000 + s2))) h) (gkb_X4_tellWinner_168 N s0 s1 s2 s) := by
  unfold bl_X4_tellWinner_168 gkb_X4_tellWinner_168
  refine kt_celO hB (fun _ _ => ?_)
  refine kt_call hB (mk_X2_put (a0 := s2) hB.start) (fun r168 ad w H168 S168 hB => ?_)
  dsimp only
  exact kt_ret hB
def gkb_X4_tellWinner_135 (N : Nat) (w0 : Nat) (w2 : Int64) (w5 : Int32) (s0 : Int64) (s1 : Int32) (s2 : Nat) (s : mt_S) : Option (Unit × mt_S) :=
  Option.bind (gk_cel s s2) fun _ =>
  Option.bind (gk_X2_put N s2 s1 s0 s) fun q135 =>
  Option.bind (gk_lot q135.2 w0) fun _ =>
  if w5 = 0 then
    gkb_X4_tellWinner_168 N 0 6 (203 + 4 * w0) q135.2
  else
    Option.bind (gk_lot q135.2 w0) fun _ =>
    Option.bind (gk_lot q135.2 w0) fun _ =>
    Option.bind (gk_X4_startNow N w0 q135.2) fun q155 =>
    gkb_X4_tellWinner_168 N (if (if q155.1 < (q135.2.2.1 20 w0) then (q135.2.2.1 20 w0) else q155.1) < w2 then w2 else (if q155.1 < (q135.2.2.1 20 w0) then (q135.2.2.1 20 w0) else q155.1)) 6 (203 + 4 * w0) q155.2
set_option maxRecDepth 20000 in
set_option maxHeartbeats 4000000 in
theorem mk_bl_X4_tellWinner_135 {X : Nat → Prop} {ad0 ad : Nat → Nat} {w : Nat → Value} {H0 h : ym_H} {S0 s : mt_S} {N : Nat} {w0 : Nat} {w2 : Int64} {w5 : Int32} {s0 : Int64} {s1 : Int32} {s2 : Nat} (hB : kt_B X ad0 ad w H0 S0 h s) : kt_ok X ad0 H0 S0 (bl_X4_tellWinner_135 N (some (ad0 (10000 + w0))) w2 w5 s0 s1 (some (ad0 (1000 + s2))) h) (gkb_X4_tellWinner_135 N w0 w2 w5 s0 s1 s2 s) := by
  unfold bl_X4_tellWinner_135 gkb_X4_tellWinner_135
  refine kt_celO hB (fun _ _ => ?_)
  refine kt_call hB (mk_X2_put (a0 := s2) hB.start) (fun r135 ad w H135 S135 hB => ?_)
  dsimp only
  refine kt_lot2 hB (fun hc139 => ?_)
  refine kt_if (fun _ => ?_) (fun _ => ?_)
  · exact mk_bl_X4_tellWinner_168 (s2 := (203 + 4 * w0)) hB
  · refine kt_lot1 hB (fun hc151 => ?_)
    refine kt_lotO hB (fun _ _ => ?_)
    refine kt_call hB (mk_X4_startNow (a0 := w0) hB.start) (fun r155 ad w H155 S155 hB => ?_)
    dsimp only
    exact mk_bl_X4_tellWinner_168 (s2 := (203 + 4 * w0)) hB
def gkb_X4_tellWinner_99 (N : Nat) (w0 : Nat) (w1 : Int32) (w2 : Int64) (s0 : Int32) (s : mt_S) : Option (Unit × mt_S) :=
  Option.bind (gk_lot s w0) fun _ =>
  Option.bind (gk_cel s (203 + 4 * w0)) fun _ =>
  Option.bind (gk_X2_put N (203 + 4 * w0) 4 1 s) fun q107 =>
  Option.bind (gk_lot q107.2 w0) fun _ =>
  if s0 = 0 then
    gkb_X4_tellWinner_135 N w0 w2 s0 (-1) 5 (203 + 4 * w0) q107.2
  else
    Option.bind (gk_lot q107.2 w0) fun _ =>
    Option.bind (gk_she q107.2 (204 + 4 * w0)) fun _ =>
    Option.bind (gk_X5_at N (204 + 4 * w0) w1 0 q107.2) fun q126 =>
    gkb_X4_tellWinner_135 N w0 w2 s0 q126.1 5 (203 + 4 * w0) q126.2
set_option maxRecDepth 20000 in
set_option maxHeartbeats 4000000 in
theorem mk_bl_X4_tellWinner_99 {X : Nat → Prop} {ad0 ad : Nat → Nat} {w : Nat → Value} {H0 h : ym_H} {S0 s : mt_S} {N : Nat} {w0 : Nat} {w1 : Int32} {w2 : Int64} {s0 : Int32} (hB : kt_B X ad0 ad w H0 S0 h s) : kt_ok X ad0 H0 S0 (bl_X4_tellWinner_99 N (some (ad0 (10000 + w0))) w1 w2 s0 h) (gkb_X4_tellWinner_99 N w0 w1 w2 s0 s) := by
  unfold bl_X4_tellWinner_99 gkb_X4_tellWinner_99
  refine kt_lot2 hB (fun hc102 => ?_)
  refine kt_celO hB (fun _ _ => ?_)
  refine kt_call hB (mk_X2_put (a0 := (203 + 4 * w0)) hB.start) (fun r107 ad w H107 S107 hB => ?_)
  dsimp only
  refine kt_lot2 hB (fun hc111 => ?_)
  refine kt_if (fun _ => ?_) (fun _ => ?_)
  · exact mk_bl_X4_tellWinner_135 (w0 := w0) (s2 := (203 + 4 * w0)) hB
  · refine kt_lot3 hB (fun hc121 => ?_)
    refine kt_sheO hB (fun _ _ => ?_)
    refine kt_call hB (mk_X5_at (a0 := (204 + 4 * w0)) hB.start) (fun r126 ad w H126 S126 hB => ?_)
    dsimp only
    exact mk_bl_X4_tellWinner_135 (w0 := w0) (s2 := (203 + 4 * w0)) hB
def gk_X4_tellWinner (N : Nat) (a0 : Nat) (s : mt_S) : Option (Unit × mt_S) :=
  Option.bind (gk_lot s a0) fun _ =>
  Option.bind (gk_she s (204 + 4 * a0)) fun _ =>
  Option.bind (gk_X5_rows N (204 + 4 * a0) s) fun q8 =>
  Option.bind (gkp_X4_tellWinner_16 N N a0 0 0 q8.1 1 q8.2) fun q16 =>
  Option.bind (gk_lot q16.2 a0) fun _ =>
  Option.bind (gk_she q16.2 (204 + 4 * a0)) fun _ =>
  Option.bind (gk_X5_at N (204 + 4 * a0) q16.1.1 1 q16.2) fun q83 =>
  Option.bind (gk_lot q83.2 a0) fun _ =>
  if q83.1 < (q83.2.2.1 20 a0) then
    gkb_X4_tellWinner_99 N a0 q16.1.1 q16.1.2 0 q83.2
  else
    gkb_X4_tellWinner_99 N a0 q16.1.1 q16.1.2 1 q83.2
set_option maxRecDepth 20000 in
set_option maxHeartbeats 4000000 in
theorem mk_X4_tellWinner {X : Nat → Prop} {ad0 ad : Nat → Nat} {w : Nat → Value} {h : ym_H} {s : mt_S} {N : Nat} {a0 : Nat} (hB : kt_B X ad0 ad w h s h s) : kt_ok X ad0 h s (fn_X4_tellWinner N (some (ad0 (10000 + a0))) h) (gk_X4_tellWinner N a0 s) := by
  unfold fn_X4_tellWinner gk_X4_tellWinner
  refine kt_lot3 hB (fun hc5 => ?_)
  refine kt_sheO hB (fun _ _ => ?_)
  refine kt_call hB (mk_X5_rows (a0 := (204 + 4 * a0)) hB.start) (fun r8 ad w H8 S8 hB => ?_)
  dsimp only
  refine kt_call hB (mk_lp_X4_tellWinner_16 N _ _ _ _ a0 _ _ _ _ hB.start) (fun r16 ad w H16 S16 hB => ?_)
  dsimp only
  refine kt_lot3 hB (fun hc78 => ?_)
  refine kt_sheO hB (fun _ _ => ?_)
  refine kt_call hB (mk_X5_at (a0 := (204 + 4 * a0)) hB.start) (fun r83 ad w H83 S83 hB => ?_)
  dsimp only
  refine kt_lot1 hB (fun hc87 => ?_)
  refine kt_if (fun _ => ?_) (fun _ => ?_)
  · exact mk_bl_X4_tellWinner_99 (w0 := a0) hB
  · exact mk_bl_X4_tellWinner_99 (w0 := a0) hB
def gk_X4_whyNotOpen (N : Nat) (a0 : Nat) (s : mt_S) : Option (Int32 × mt_S) :=
  Option.bind (gk_lot s a0) fun _ =>
  Option.bind (gk_X4_hasBook N a0 s) fun q1 =>
  if q1.1 = 0 then
    some (6, q1.2)
  else
    some (9, q1.2)
set_option maxRecDepth 20000 in
set_option maxHeartbeats 4000000 in
theorem mk_X4_whyNotOpen {X : Nat → Prop} {ad0 ad : Nat → Nat} {w : Nat → Value} {h : ym_H} {s : mt_S} {N : Nat} {a0 : Nat} (hB : kt_B X ad0 ad w h s h s) : kt_ok X ad0 h s (fn_X4_whyNotOpen N (some (ad0 (10000 + a0))) h) (gk_X4_whyNotOpen N a0 s) := by
  unfold fn_X4_whyNotOpen gk_X4_whyNotOpen
  refine kt_lotO hB (fun _ _ => ?_)
  refine kt_call hB (mk_X4_hasBook (a0 := a0) hB.start) (fun r1 ad w H1 S1 hB => ?_)
  dsimp only
  refine kt_if (fun _ => ?_) (fun _ => ?_)
  · exact kt_ret hB
  · exact kt_ret hB
def gk_X4_writeLimit (N : Nat) (a0 : Nat) (a1 : Int32) (a2 : Int64) (a4 : Int32) (s : mt_S) : Option (Unit × mt_S) :=
  Option.bind (gk_lot s a0) fun _ =>
  Option.bind (gk_she s (205 + 4 * a0)) fun _ =>
  Option.bind (gk_X5_addRow N (205 + 4 * a0) s) fun q4 =>
  Option.bind (gk_lot q4.2 a0) fun _ =>
  Option.bind (gk_she q4.2 (205 + 4 * a0)) fun _ =>
  Option.bind (gk_X5_put N (205 + 4 * a0) q4.1 0 (Int32.toInt64 a1) q4.2) fun q18 =>
  Option.bind (gk_lot q18.2 a0) fun _ =>
  Option.bind (gk_she q18.2 (205 + 4 * a0)) fun _ =>
  Option.bind (gk_X5_put N (205 + 4 * a0) q4.1 1 a2 q18.2) fun q29 =>
  Option.bind (gk_lot q29.2 a0) fun _ =>
  Option.bind (gk_she q29.2 (205 + 4 * a0)) fun _ =>
  Option.bind (gk_X5_put N (205 + 4 * a0) q4.1 2 (Int32.toInt64 a4) q29.2) fun q42 =>
  some ((), q42.2)
set_option maxRecDepth 20000 in
set_option maxHeartbeats 4000000 in
theorem mk_X4_writeLimit {X : Nat → Prop} {ad0 ad : Nat → Nat} {w : Nat → Value} {h : ym_H} {s : mt_S} {N : Nat} {a0 : Nat} {a1 : Int32} {a2 : Int64} {a4 : Int32} (hB : kt_B X ad0 ad w h s h s) : kt_ok X ad0 h s (fn_X4_writeLimit N (some (ad0 (10000 + a0))) a1 a2 a4 h) (gk_X4_writeLimit N a0 a1 a2 a4 s) := by
  unfold fn_X4_writeLimit gk_X4_writeLimit
  refine kt_lot4 hB (fun hc1 => ?_)
  refine kt_sheO hB (fun _ _ => ?_)
  refine kt_call hB (mk_X5_addRow (a0 := (205 + 4 * a0)) hB.start) (fun r4 ad w H4 S4 hB => ?_)
  dsimp only
  refine kt_lot4 hB (fun hc10 => ?_)
  refine kt_sheO hB (fun _ _ => ?_)
  refine kt_call hB (mk_X5_put (a0 := (205 + 4 * a0)) hB.start) (fun r18 ad w H18 S18 hB => ?_)
  dsimp only
  refine kt_lot4 hB (fun hc22 => ?_)
  refine kt_sheO hB (fun _ _ => ?_)
  refine kt_call hB (mk_X5_put (a0 := (205 + 4 * a0)) hB.start) (fun r29 ad w H29 S29 hB => ?_)
  dsimp only
  refine kt_lot4 hB (fun hc33 => ?_)
  refine kt_sheO hB (fun _ _ => ?_)
  refine kt_call hB (mk_X5_put (a0 := (205 + 4 * a0)) hB.start) (fun r42 ad w H42 S42 hB => ?_)
  dsimp only
  exact kt_ret hB
def gk_X6_add (N : Nat) (a0 : Nat) (a1 : Int64) (a3 : Int64) (s : mt_S) : Option (Unit × mt_S) :=
  Option.bind (gk_tab s a0) fun _ =>
  Option.bind (gk_she s a0) fun _ =>
  Option.bind (gk_X5_addRow N a0 s) fun q4 =>
  Option.bind (gk_tab q4.2 a0) fun _ =>
  Option.bind (gk_she q4.2 a0) fun _ =>
  Option.bind (gk_X5_put N a0 q4.1 0 a1 q4.2) fun q17 =>
  Option.bind (gk_tab q17.2 a0) fun _ =>
  Option.bind (gk_she q17.2 a0) fun _ =>
  Option.bind (gk_X5_put N a0 q4.1 1 a3 q17.2) fun q28 =>
  some ((), q28.2)
set_option maxRecDepth 20000 in
set_option maxHeartbeats 4000000 in
theorem mk_X6_add {X : Nat → Prop} {ad0 ad : Nat → Nat} {w : Nat → Value} {h : ym_H} {s : mt_S} {N : Nat} {a0 : Nat} {a1 : Int64} {a3 : Int64} (hB : kt_B X ad0 ad w h s h s) : kt_ok X ad0 h s (fn_X6_add N (some (ad0 (2 + a0))) a1 a3 h) (gk_X6_add N a0 a1 a3 s) := by
  unfold fn_X6_add gk_X6_add
  refine kt_tab0 hB (fun hc1 => ?_)
  refine kt_sheO hB (fun _ _ => ?_)
  refine kt_call hB (mk_X5_addRow (a0 := a0) hB.start) (fun r4 ad w H4 S4 hB => ?_)
  dsimp only
  refine kt_tab0 hB (fun hc10 => ?_)
  refine kt_sheO hB (fun _ _ => ?_)
  refine kt_call hB (mk_X5_put (a0 := a0) hB.start) (fun r17 ad w H17 S17 hB => ?_)
  dsimp only
  refine kt_tab0 hB (fun hc21 => ?_)
  refine kt_sheO hB (fun _ _ => ?_)
  refine kt_call hB (mk_X5_put (a0 := a0) hB.start) (fun r28 ad w H28 S28 hB => ?_)
  dsimp only
  exact kt_ret hB
def gk_X6_lastFrom (N : Nat) (a0 : Nat) (s : mt_S) : Option (Int64 × mt_S) :=
  Option.bind (gk_tab s a0) fun _ =>
  Option.bind (gk_tab s a0) fun _ =>
  Option.bind (gk_she s a0) fun _ =>
  Option.bind (gk_X5_rows N a0 s) fun q8 =>
  Option.bind (gk_she q8.2 a0) fun _ =>
  Option.bind (gk_X5_at N a0 (q8.1 - 1) 0 q8.2) fun q14 =>
  some (q14.1, q14.2)
set_option maxRecDepth 20000 in
set_option maxHeartbeats 4000000 in
theorem mk_X6_lastFrom {X : Nat → Prop} {ad0 ad : Nat → Nat} {w : Nat → Value} {h : ym_H} {s : mt_S} {N : Nat} {a0 : Nat} (hB : kt_B X ad0 ad w h s h s) : kt_ok X ad0 h s (fn_X6_lastFrom N (some (ad0 (2 + a0))) h) (gk_X6_lastFrom N a0 s) := by
  unfold fn_X6_lastFrom gk_X6_lastFrom
  refine kt_tab0 hB (fun hc1 => ?_)
  refine kt_tab0 hB (fun hc5 => ?_)
  refine kt_sheO hB (fun _ _ => ?_)
  refine kt_call hB (mk_X5_rows (a0 := a0) hB.start) (fun r8 ad w H8 S8 hB => ?_)
  dsimp only
  refine kt_sheO hB (fun _ _ => ?_)
  refine kt_call hB (mk_X5_at (a0 := a0) hB.start) (fun r14 ad w H14 S14 hB => ?_)
  dsimp only
  exact kt_ret hB
def gkb_X6_premiumTimesRate_65_14 (Kl : Nat → Int64 → Int64 → Int32 → Int32 → mt_S → Option ((Int64) × mt_S)) (N : Nat) (w0 : Nat) (w1 : Int64) (w3 : Int64) (w5 : Int32) (w6 : Int32) (s0 : Int64) (s : mt_S) : Option ((Int64) × mt_S) :=
  Option.bind (gk_tab s w0) fun _ =>
  Option.bind (gk_she s w0) fun _ =>
  Option.bind (gk_X5_at N w0 w6 0 s) fun q77 =>
  Option.bind (gk_tab q77.2 w0) fun _ =>
  Option.bind (gk_she q77.2 w0) fun _ =>
  Option.bind (gk_X5_at N w0 w6 1 q77.2) fun q88 =>
  Kl w0 w1 (w3 + ((s0 - q77.1) * q88.1)) w5 (w6 + 1) q88.2
set_option maxRecDepth 20000 in
set_option maxHeartbeats 4000000 in
theorem mk_bl_X6_premiumTimesRate_65_14 {X : Nat → Prop} {ad0 ad : Nat → Nat} {w : Nat → Value} {H0 h : ym_H} {S0 s : mt_S} {K : Option Nat → Int64 → Int64 → Int32 → Int32 → ym_H → Option ((Int64) × ym_H)} {Kl : Nat → Int64 → Int64 → Int32 → Int32 → mt_S → Option ((Int64) × mt_S)} (hKl : ∀ (w0 : Nat) (w1 : Int64) (w3 : Int64) (w5 : Int32) (w6 : Int32) (ad : Nat → Nat) (w : Nat → Value) (h : ym_H) (s : mt_S), kt_B X ad0 ad w H0 S0 h s → kt_ok X ad0 H0 S0 (K (some (ad0 (2 + w0))) w1 w3 w5 w6 h) (Kl w0 w1 w3 w5 w6 s)) {N : Nat} {w0 : Nat} {w1 : Int64} {w3 : Int64} {w5 : Int32} {w6 : Int32} {s0 : Int64} (hB : kt_B X ad0 ad w H0 S0 h s) : kt_ok X ad0 H0 S0 (bl_X6_premiumTimesRate_65_14 K N (some (ad0 (2 + w0))) w1 w3 w5 w6 s0 h) (gkb_X6_premiumTimesRate_65_14 Kl N w0 w1 w3 w5 w6 s0 s) := by
  unfold bl_X6_premiumTimesRate_65_14 gkb_X6_premiumTimesRate_65_14
  refine kt_tab0 hB (fun hc71 => ?_)
  refine kt_sheO hB (fun _ _ => ?_)
  refine kt_call hB (mk_X5_at (a0 := w0) hB.start) (fun r77 ad w H77 S77 hB => ?_)
  dsimp only
  refine kt_tab0 hB (fun hc82 => ?_)
  refine kt_sheO hB (fun _ _ => ?_)
  refine kt_call hB (mk_X5_at (a0 := w0) hB.start) (fun r88 ad w H88 S88 hB => ?_)
  dsimp only
  exact hKl w0 _ _ _ _ _ _ _ _ hB
def gkl_X6_premiumTimesRate_14 (Kl : Nat → Int64 → Int64 → Int32 → Int32 → mt_S → Option ((Int64) × mt_S)) (N : Nat) (w0 : Nat) (w1 : Int64) (w3 : Int64) (w5 : Int32) (w6 : Int32) (s : mt_S) : Option ((Int64) × mt_S) :=
  if w5 ≤ w6 then
    some (w3, s)
  else
    Option.bind (gk_tab s w0) fun _ =>
    Option.bind (gk_she s w0) fun _ =>
    Option.bind (gk_X5_at N w0 w6 0 s) fun q28 =>
    if w1 ≤ q28.1 then
      some (w3, q28.2)
    else
      if w5 ≤ (w6 + 1) then
        gkb_X6_premiumTimesRate_65_14 Kl N w0 w1 w3 w5 w6 w1 q28.2
      else
        Option.bind (gk_tab q28.2 w0) fun _ =>
        Option.bind (gk_she q28.2 w0) fun _ =>
        Option.bind (gk_X5_at N w0 (w6 + 1) 0 q28.2) fun q55 =>
        gkb_X6_premiumTimesRate_65_14 Kl N w0 w1 w3 w5 w6 (if q55.1 < w1 then q55.1 else w1) q55.2
set_option maxRecDepth 20000 in
set_option maxHeartbeats 4000000 in
theorem mk_lb_X6_premiumTimesRate_14 {X : Nat → Prop} {ad0 ad : Nat → Nat} {w : Nat → Value} {H0 h : ym_H} {S0 s : mt_S} {K : Option Nat → Int64 → Int64 → Int32 → Int32 → ym_H → Option ((Int64) × ym_H)} {Kl : Nat → Int64 → Int64 → Int32 → Int32 → mt_S → Option ((Int64) × mt_S)} (hKl : ∀ (w0 : Nat) (w1 : Int64) (w3 : Int64) (w5 : Int32) (w6 : Int32) (ad : Nat → Nat) (w : Nat → Value) (h : ym_H) (s : mt_S), kt_B X ad0 ad w H0 S0 h s → kt_ok X ad0 H0 S0 (K (some (ad0 (2 + w0))) w1 w3 w5 w6 h) (Kl w0 w1 w3 w5 w6 s)) {N : Nat} {w0 : Nat} {w1 : Int64} {w3 : Int64} {w5 : Int32} {w6 : Int32} (hB : kt_B X ad0 ad w H0 S0 h s) : kt_ok X ad0 H0 S0 (lb_X6_premiumTimesRate_14 K N (some (ad0 (2 + w0))) w1 w3 w5 w6 h) (gkl_X6_premiumTimesRate_14 Kl N w0 w1 w3 w5 w6 s) := by
  unfold lb_X6_premiumTimesRate_14 gkl_X6_premiumTimesRate_14
  refine kt_if (fun _ => ?_) (fun _ => ?_)
  · exact kt_ret hB
  · refine kt_tab0 hB (fun hc22 => ?_)
    refine kt_sheO hB (fun _ _ => ?_)
    refine kt_call hB (mk_X5_at (a0 := w0) hB.start) (fun r28 ad w H28 S28 hB => ?_)
    dsimp only
    refine kt_if (fun _ => ?_) (fun _ => ?_)
    · exact kt_ret hB
    · refine kt_if (fun _ => ?_) (fun _ => ?_)
      · exact mk_bl_X6_premiumTimesRate_65_14 (w0 := w0) hKl hB
      · refine kt_tab0 hB (fun hc47 => ?_)
        refine kt_sheO hB (fun _ _ => ?_)
        refine kt_call hB (mk_X5_at (a0 := w0) hB.start) (fun r55 ad w H55 S55 hB => ?_)
        dsimp only
        exact mk_bl_X6_premiumTimesRate_65_14 (w0 := w0) hKl hB
def gkp_X6_premiumTimesRate_14 (N : Nat) : Nat → Nat → Int64 → Int64 → Int32 → Int32 → mt_S → Option ((Int64) × mt_S)
  | 0, _, _, _, _, _, _ => none
  | n + 1, w0, w1, w3, w5, w6, s => gkl_X6_premiumTimesRate_14 (gkp_X6_premiumTimesRate_14 N n) N w0 w1 w3 w5 w6 s
theorem mk_lp_X6_premiumTimesRate_14 {X : Nat → Prop} {ad0 : Nat → Nat} {H0 : ym_H} {S0 : mt_S} {N : Nat} : ∀ (n : Nat) (ad : Nat → Nat) (w : Nat → Value) (h : ym_H) (s : mt_S) (w0 : Nat) (w1 : Int64) (w3 : Int64) (w5 : Int32) (w6 : Int32), kt_B X ad0 ad w H0 S0 h s → kt_ok X ad0 H0 S0 (lp_X6_premiumTimesRate_14 N n (some (ad0 (2 + w0))) w1 w3 w5 w6 h) (gkp_X6_premiumTimesRate_14 N n w0 w1 w3 w5 w6 s) := by
  intro n
  induction n with
  | zero => intro ad w h s w0 w1 w3 w5 w6 hB; exact kt_no
  | succ n ih =>
    intro ad w h s w0 w1 w3 w5 w6 hB
    exact mk_lb_X6_premiumTimesRate_14 (fun w0 w1 w3 w5 w6 ad w h s hB => ih ad w h s w0 w1 w3 w5 w6 hB) hB
def gk_X6_premiumTimesRate (N : Nat) (a0 : Nat) (a1 : Int64) (s : mt_S) : Option (Int64 × mt_S) :=
  Option.bind (gk_tab s a0) fun _ =>
  Option.bind (gk_she s a0) fun _ =>
  Option.bind (gk_X5_rows N a0 s) fun q6 =>
  Option.bind (gkp_X6_premiumTimesRate_14 N N a0 a1 0 q6.1 0 q6.2) fun q14 =>
  some (q14.1, q14.2)
set_option maxRecDepth 20000 in
set_option maxHeartbeats 4000000 in
theorem mk_X6_premiumTimesRate {X : Nat → Prop} {ad0 ad : Nat → Nat} {w : Nat → Value} {h : ym_H} {s : mt_S} {N : Nat} {a0 : Nat} {a1 : Int64} (hB : kt_B X ad0 ad w h s h s) : kt_ok X ad0 h s (fn_X6_premiumTimesRate N (some (ad0 (2 + a0))) a1 h) (gk_X6_premiumTimesRate N a0 a1 s) := by
  unfold fn_X6_premiumTimesRate gk_X6_premiumTimesRate
  refine kt_tab0 hB (fun hc3 => ?_)
  refine kt_sheO hB (fun _ _ => ?_)
  refine kt_call hB (mk_X5_rows (a0 := a0) hB.start) (fun r6 ad w H6 S6 hB => ?_)
  dsimp only
  refine kt_call hB (mk_lp_X6_premiumTimesRate_14 N _ _ _ _ a0 _ _ _ _ hB.start) (fun r14 ad w H14 S14 hB => ?_)
  dsimp only
  exact kt_ret hB
def gk_X6_rows (N : Nat) (a0 : Nat) (s : mt_S) : Option (Int32 × mt_S) :=
  Option.bind (gk_tab s a0) fun _ =>
  Option.bind (gk_she s a0) fun _ =>
  Option.bind (gk_X5_rows N a0 s) fun q4 =>
  some (q4.1, q4.2)
set_option maxRecDepth 20000 in
set_option maxHeartbeats 4000000 in
theorem mk_X6_rows {X : Nat → Prop} {ad0 ad : Nat → Nat} {w : Nat → Value} {h : ym_H} {s : mt_S} {N : Nat} {a0 : Nat} (hB : kt_B X ad0 ad w h s h s) : kt_ok X ad0 h s (fn_X6_rows N (some (ad0 (2 + a0))) h) (gk_X6_rows N a0 s) := by
  unfold fn_X6_rows gk_X6_rows
  refine kt_tab0 hB (fun hc1 => ?_)
  refine kt_sheO hB (fun _ _ => ?_)
  refine kt_call hB (mk_X5_rows (a0 := a0) hB.start) (fun r4 ad w H4 S4 hB => ?_)
  dsimp only
  exact kt_ret hB
def gk_X7_account (N : Nat) (a1 : Int32) (s : mt_S) : Option (Int64 × mt_S) :=
  if a1 < 0 then
    some (0, s)
  else
    if a1 ≤ 2 then
      Option.bind (gk_cel s 0) fun _ =>
      Option.bind (gk_X2_get N 0 (2 + a1) s) fun q20 =>
      some (q20.1, q20.2)
    else
      some (0, s)
set_option maxRecDepth 20000 in
set_option maxHeartbeats 4000000 in
theorem mk_X7_account {X : Nat → Prop} {ad0 ad : Nat → Nat} {w : Nat → Value} {h : ym_H} {s : mt_S} {N : Nat} {a1 : Int32} (hB : kt_B X ad0 ad w h s h s) : kt_ok X ad0 h s (fn_X7_account N (some (ad0 0)) a1 h) (gk_X7_account N a1 s) := by
  unfold fn_X7_account gk_X7_account
  refine kt_if (fun _ => ?_) (fun _ => ?_)
  · exact kt_ret hB
  · refine kt_if (fun _ => ?_) (fun _ => ?_)
    · refine kt_room1 hB ?_
      refine kt_celO hB (fun _ _ => ?_)
      refine kt_call hB (mk_X2_get (a0 := 0) hB.start) (fun r20 ad w H20 S20 hB => ?_)
      dsimp only
      exact kt_ret hB
    · exact kt_ret hB
def gk_X7_refuse (N : Nat) (a1 : Int32) (s : mt_S) : Option (Int64 × mt_S) :=
  Option.bind (gm_pI s 2 a1) fun t2 =>
  Option.bind (gk_X3_takeBackAll N  t2) fun q9 =>
  some ((Int32.toInt64 (-a1)), q9.2)
set_option maxRecDepth 20000 in
set_option maxHeartbeats 4000000 in
theorem mk_X7_refuse {X : Nat → Prop} {ad0 ad : Nat → Nat} {w : Nat → Value} {h : ym_H} {s : mt_S} {N : Nat} {a1 : Int32} (hB : kt_B X ad0 ad w h s h s) : kt_ok X ad0 h s (fn_X7_refuse N (some (ad0 0)) a1 h) (gk_X7_refuse N a1 s) := by
  unfold fn_X7_refuse gk_X7_refuse
  refine kt_room9W hB (fun h2 t2 hB => ?_)
  refine kt_room0 hB ?_
  refine kt_jourO hB (fun _ => ?_)
  refine kt_call hB (mk_X3_takeBackAll hB.start) (fun r9 ad w H9 S9 hB => ?_)
  dsimp only
  exact kt_ret hB
def gkb_X7_addTableRow_39 (N : Nat) (w1 : Nat) (w2 : Int64) (w4 : Int64) (s : mt_S) : Option (Int64 × mt_S) :=
  Option.bind (gk_tab s w1) fun _ =>
  Option.bind (gk_X6_add N w1 w2 w4 s) fun q43 =>
  Option.bind (gk_tab q43.2 w1) fun _ =>
  Option.bind (gk_X6_rows N w1 q43.2) fun q47 =>
  some ((Int32.toInt64 q47.1), q47.2)
set_option maxRecDepth 20000 in
set_option maxHeartbeats 4000000 in
theorem mk_bl_X7_addTableRow_39 {X : Nat → Prop} {ad0 ad : Nat → Nat} {w : Nat → Value} {H0 h : ym_H} {S0 s : mt_S} {N : Nat} {w1 : Nat} {w2 : Int64} {w4 : Int64} (hB : kt_B X ad0 ad w H0 S0 h s) : kt_ok X ad0 H0 S0 (bl_X7_addTableRow_39 N (some (ad0 (2 + w1))) w2 w4 h) (gkb_X7_addTableRow_39 N w1 w2 w4 s) := by
  unfold bl_X7_addTableRow_39 gkb_X7_addTableRow_39
  refine kt_tabO hB (fun _ _ => ?_)
  refine kt_call hB (mk_X6_add (a0 := w1) hB.start) (fun r43 ad w H43 S43 hB => ?_)
  dsimp only
  refine kt_tabO hB (fun _ _ => ?_)
  refine kt_call hB (mk_X6_rows (a0 := w1) hB.start) (fun r47 ad w H47 S47 hB => ?_)
  dsimp only
  exact kt_ret hB
def gk_X7_addTableRow (N : Nat) (a1 : Nat) (a2 : Int64) (a4 : Int64) (s : mt_S) : Option (Int64 × mt_S) :=
  Option.bind (gk_tab s a1) fun _ =>
  Option.bind (gk_X6_rows N a1 s) fun q1 =>
  if q1.1 < 20 then
    Option.bind (gk_tab q1.2 a1) fun _ =>
    Option.bind (gk_X6_rows N a1 q1.2) fun q17 =>
    if q17.1 ≤ 0 then
      gkb_X7_addTableRow_39 N a1 a2 a4 q17.2
    else
      Option.bind (gk_tab q17.2 a1) fun _ =>
      Option.bind (gk_X6_lastFrom N a1 q17.2) fun q25 =>
      if q25.1 < a2 then
        gkb_X7_addTableRow_39 N a1 a2 a4 q25.2
      else
        Option.bind (gk_X7_refuse N 10 q25.2) fun q35 =>
        some (q35.1, q35.2)
  else
    Option.bind (gk_X7_refuse N 12 q1.2) fun q12 =>
    some (q12.1, q12.2)
set_option maxRecDepth 20000 in
set_option maxHeartbeats 4000000 in
theorem mk_X7_addTableRow {X : Nat → Prop} {ad0 ad : Nat → Nat} {w : Nat → Value} {h : ym_H} {s : mt_S} {N : Nat} {a1 : Nat} {a2 : Int64} {a4 : Int64} (hB : kt_B X ad0 ad w h s h s) : kt_ok X ad0 h s (fn_X7_addTableRow N (some (ad0 0)) (some (ad0 (2 + a1))) a2 a4 h) (gk_X7_addTableRow N a1 a2 a4 s) := by
  unfold fn_X7_addTableRow gk_X7_addTableRow
  refine kt_tabO hB (fun _ _ => ?_)
  refine kt_call hB (mk_X6_rows (a0 := a1) hB.start) (fun r1 ad w H1 S1 hB => ?_)
  dsimp only
  refine kt_if (fun _ => ?_) (fun _ => ?_)
  · refine kt_tabO hB (fun _ _ => ?_)
    refine kt_call hB (mk_X6_rows (a0 := a1) hB.start) (fun r17 ad w H17 S17 hB => ?_)
    dsimp only
    refine kt_if (fun _ => ?_) (fun _ => ?_)
    · exact mk_bl_X7_addTableRow_39 (w1 := a1) hB
    · refine kt_tabO hB (fun _ _ => ?_)
      refine kt_call hB (mk_X6_lastFrom (a0 := a1) hB.start) (fun r25 ad w H25 S25 hB => ?_)
      dsimp only
      refine kt_if (fun _ => ?_) (fun _ => ?_)
      · exact mk_bl_X7_addTableRow_39 (w1 := a1) hB
      · refine kt_roomO hB (fun _ => ?_)
        refine kt_call hB (mk_X7_refuse hB.start) (fun r35 ad w H35 S35 hB => ?_)
        dsimp only
        exact kt_ret hB
  · refine kt_roomO hB (fun _ => ?_)
    refine kt_call hB (mk_X7_refuse hB.start) (fun r12 ad w H12 S12 hB => ?_)
    dsimp only
    exact kt_ret hB
def gk_X7_startAct (N : Nat)  (s : mt_S) : Option (Unit × mt_S) :=
  Option.bind (gm_pI s 1 ((s.1 1 0) + 1)) fun t7 =>
  Option.bind (gm_pI t7 2 0) fun t12 =>
  Option.bind (gk_X1_forgetTrace N  t12) fun q19 =>
  some ((), q19.2)
set_option maxRecDepth 20000 in
set_option maxHeartbeats 4000000 in
theorem mk_X7_startAct {X : Nat → Prop} {ad0 ad : Nat → Nat} {w : Nat → Value} {h : ym_H} {s : mt_S} {N : Nat}  (hB : kt_B X ad0 ad w h s h s) : kt_ok X ad0 h s (fn_X7_startAct N (some (ad0 0)) h) (gk_X7_startAct N  s) := by
  unfold fn_X7_startAct gk_X7_startAct
  refine kt_room8 hB ?_
  refine kt_room8W hB (fun h7 t7 hB => ?_)
  refine kt_room9W hB (fun h12 t12 hB => ?_)
  refine kt_room4 hB ?_
  refine kt_bodO hB (fun _ => ?_)
  refine kt_call hB (mk_X1_forgetTrace hB.start) (fun r19 ad w H19 S19 hB => ?_)
  dsimp only
  exact kt_ret hB
