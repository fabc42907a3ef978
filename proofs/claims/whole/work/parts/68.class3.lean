def gk_X7_whyNoLot (N : Nat) (a0 : Int32) (s : mt_S) : Option (Int32 × mt_S) :=
  if a0 < 0 then
    some (3, s)
  else
    if a0 < 400 then
      some (2, s)
    else
      some (3, s)
set_option maxRecDepth 20000 in
set_option maxHeartbeats 4000000 in
theorem mk_X7_whyNoLot {X : Nat → Prop} {ad0 ad : Nat → Nat} {w : Nat → Value} {h : ym_H} {s : mt_S} {N : Nat} {a0 : Int32} (hB : kt_B X ad0 ad w h s h s) : kt_ok X ad0 h s (fn_X7_whyNoLot N a0 h) (gk_X7_whyNoLot N a0 s) := by
  unfold fn_X7_whyNoLot gk_X7_whyNoLot
  refine kt_if (fun _ => ?_) (fun _ => ?_)
  · exact kt_ret hB
  · refine kt_if (fun _ => ?_) (fun _ => ?_)
    · exact kt_ret hB
    · exact kt_ret hB
def gk_X7_ask (N : Nat) (a1 : Int32) (s : mt_S) : Option (Int64 × mt_S) :=
  Option.bind (gk_X7_startAct N  s) fun q1 =>
  Option.bind (gk_X7_lotAt N a1 q1.2) fun q6 =>
  match q6.1 with
  | none =>
    Option.bind (gk_X7_whyNoLot N a1 q6.2) fun q16 =>
    Option.bind (gk_X7_refuse N q16.1 q16.2) fun q19 =>
    some (q19.1, q19.2)
  | some l_q6_1 =>
    Option.bind (gk_lot q6.2 l_q6_1) fun _ =>
    Option.bind (gk_X4_isOpen N l_q6_1 q6.2) fun q24 =>
    if q24.1 = 0 then
      Option.bind (gk_lot q24.2 l_q6_1) fun _ =>
      Option.bind (gk_X4_whyNotOpen N l_q6_1 q24.2) fun q32 =>
      Option.bind (gk_X7_refuse N q32.1 q32.2) fun q35 =>
      some (q35.1, q35.2)
    else
      Option.bind (gk_X1_askFor N l_q6_1 q24.2) fun q44 =>
      some (q44.1, q44.2)
set_option maxRecDepth 20000 in
set_option maxHeartbeats 4000000 in
theorem mk_X7_ask {X : Nat → Prop} {ad0 ad : Nat → Nat} {w : Nat → Value} {h : ym_H} {s : mt_S} {N : Nat} {a1 : Int32} (hB : kt_B X ad0 ad w h s h s) : kt_ok X ad0 h s (fn_X7_ask N (some (ad0 0)) a1 h) (gk_X7_ask N a1 s) := by
  unfold fn_X7_ask gk_X7_ask
  refine kt_roomO hB (fun _ => ?_)
  refine kt_call hB (mk_X7_startAct hB.start) (fun r1 ad w H1 S1 hB => ?_)
  dsimp only
  refine kt_roomO hB (fun _ => ?_)
  refine kt_callm hB (mk_X7_lotAt hB.start) (fun r6 ad w H6 S6 hB => ?_)
  dsimp only
  cases r6 with
  | none =>
    refine kt_ifT rfl ?_
    try dsimp only [Option.map_some, Option.map_none]
    refine kt_call hB (mk_X7_whyNoLot hB.start) (fun r16 ad w H16 S16 hB => ?_)
    dsimp only
    refine kt_roomO hB (fun _ => ?_)
    refine kt_call hB (mk_X7_refuse hB.start) (fun r19 ad w H19 S19 hB => ?_)
    dsimp only
    exact kt_ret hB
  | some l_q6_1 =>
    refine kt_ifF (Option.some_ne_none _) ?_
    try dsimp only [Option.map_some, Option.map_none]
    refine kt_lotO hB (fun _ _ => ?_)
    refine kt_call hB (mk_X4_isOpen (a0 := l_q6_1) hB.start) (fun r24 ad w H24 S24 hB => ?_)
    dsimp only
    refine kt_if (fun _ => ?_) (fun _ => ?_)
    · refine kt_lotO hB (fun _ _ => ?_)
      refine kt_call hB (mk_X4_whyNotOpen (a0 := l_q6_1) hB.start) (fun r32 ad w H32 S32 hB => ?_)
      dsimp only
      refine kt_roomO hB (fun _ => ?_)
      refine kt_call hB (mk_X7_refuse hB.start) (fun r35 ad w H35 S35 hB => ?_)
      dsimp only
      exact kt_ret hB
    · refine kt_room4 hB ?_
      refine kt_bodO hB (fun _ => ?_)
      refine kt_call hB (mk_X1_askFor (a1 := l_q6_1) hB.start) (fun r44 ad w H44 S44 hB => ?_)
      dsimp only
      exact kt_ret hB
def gkb_X7_askPapers_147 (N : Nat) (w1 : Nat) (w6 : Int64) (w8 : Int32) (s : mt_S) : Option (Unit × mt_S) :=
  Option.bind (gk_lot s w1) fun _ =>
  Option.bind (gk_X4_enter N w1 w8 w6 s) fun q152 =>
  some ((), q152.2)
set_option maxRecDepth 20000 in
set_option maxHeartbeats 4000000 in
theorem mk_bl_X7_askPapers_147 {X : Nat → Prop} {ad0 ad : Nat → Nat} {w : Nat → Value} {H0 h : ym_H} {S0 s : mt_S} {N : Nat} {w1 : Nat} {w6 : Int64} {w8 : Int32} (hB : kt_B X ad0 ad w H0 S0 h s) : kt_ok X ad0 H0 S0 (bl_X7_askPapers_147 N (some (ad0 (10000 + w1))) w6 w8 h) (gkb_X7_askPapers_147 N w1 w6 w8 s) := by
  unfold bl_X7_askPapers_147 gkb_X7_askPapers_147
  refine kt_lotO hB (fun _ _ => ?_)
  refine kt_call hB (mk_X4_enter (a0 := w1) hB.start) (fun r152 ad w H152 S152 hB => ?_)
  dsimp only
  exact kt_ret hB
def gkb_X7_askPapers_95 (N : Nat) (w1 : Nat) (w2 : Int32) (s0 : Int64) (s : mt_S) : Option (Unit × mt_S) :=
  Option.bind (gk_lot s w1) fun _ =>
  Option.bind (gk_X4_rivalSum N w1 w2 s) fun q99 =>
  Option.bind (gk_lot q99.2 w1) fun _ =>
  Option.bind (gk_lot q99.2 w1) fun _ =>
  Option.bind (gk_she q99.2 (205 + 4 * w1)) fun _ =>
  Option.bind (gk_X5_at N (205 + 4 * w1) w2 0 q99.2) fun q122 =>
  Option.bind (gk_lot q122.2 w1) fun _ =>
  Option.bind (gk_X4_standingBidder N w1 q122.2) fun q129 =>
  if q129.1 = (Int64.toInt32 q122.1) then
    Option.bind (gk_lot q129.2 w1) fun _ =>
    Option.bind (gk_X4_standingSum N w1 q129.2) fun q138 =>
    if (if (if s0 < (q99.2.2.1 20 w1) then (q99.2.2.1 20 w1) else s0) < q99.1 then (if s0 < (q99.2.2.1 20 w1) then (q99.2.2.1 20 w1) else s0) else q99.1) ≤ q138.1 then
      some ((), q138.2)
    else
      gkb_X7_askPapers_147 N w1 (if (if s0 < (q99.2.2.1 20 w1) then (q99.2.2.1 20 w1) else s0) < q99.1 then (if s0 < (q99.2.2.1 20 w1) then (q99.2.2.1 20 w1) else s0) else q99.1) (Int64.toInt32 q122.1) q138.2
  else
    gkb_X7_askPapers_147 N w1 (if (if s0 < (q99.2.2.1 20 w1) then (q99.2.2.1 20 w1) else s0) < q99.1 then (if s0 < (q99.2.2.1 20 w1) then (q99.2.2.1 20 w1) else s0) else q99.1) (Int64.toInt32 q122.1) q129.2
set_option maxRecDepth 20000 in
set_option maxHeartbeats 4000000 in
theorem mk_bl_X7_askPapers_95 {X : Nat → Prop} {ad0 ad : Nat → Nat} {w : Nat → Value} {H0 h : ym_H} {S0 s : mt_S} {N : Nat} {w1 : Nat} {w2 : Int32} {s0 : Int64} (hB : kt_B X ad0 ad w H0 S0 h s) : kt_ok X ad0 H0 S0 (bl_X7_askPapers_95 N (some (ad0 (10000 + w1))) w2 s0 h) (gkb_X7_askPapers_95 N w1 w2 s0 s) := by
  unfold bl_X7_askPapers_95 gkb_X7_askPapers_95
  refine kt_lotO hB (fun _ _ => ?_)
  refine kt_call hB (mk_X4_rivalSum (a0 := w1) hB.start) (fun r99 ad w H99 S99 hB => ?_)
  dsimp only
  refine kt_lot1 hB (fun hc103 => ?_)
  refine kt_lot4 hB (fun hc117 => ?_)
  refine kt_sheO hB (fun _ _ => ?_)
  refine kt_call hB (mk_X5_at (a0 := (205 + 4 * w1)) hB.start) (fun r122 ad w H122 S122 hB => ?_)
  dsimp only
  refine kt_lotO hB (fun _ _ => ?_)
  refine kt_call hB (mk_X4_standingBidder (a0 := w1) hB.start) (fun r129 ad w H129 S129 hB => ?_)
  dsimp only
  refine kt_if (fun _ => ?_) (fun _ => ?_)
  · refine kt_lotO hB (fun _ _ => ?_)
    refine kt_call hB (mk_X4_standingSum (a0 := w1) hB.start) (fun r138 ad w H138 S138 hB => ?_)
    dsimp only
    refine kt_if (fun _ => ?_) (fun _ => ?_)
    · exact kt_ret hB
    · exact mk_bl_X7_askPapers_147 (w1 := w1) hB
  · exact mk_bl_X7_askPapers_147 (w1 := w1) hB
def gkb_X7_askPapers_28 (N : Nat) (w1 : Nat) (w2 : Int32) (s0 : Int32) (s : mt_S) : Option (Unit × mt_S) :=
  Option.bind (gk_lot s w1) fun _ =>
  Option.bind (gk_lot s w1) fun _ =>
  Option.bind (gk_X4_rivalNumber N w1 w2 s) fun q37 =>
  Option.bind (gk_cel q37.2 (203 + 4 * w1)) fun _ =>
  Option.bind (gk_X2_put N (203 + 4 * w1) 9 q37.1 q37.2) fun q40 =>
  Option.bind (gk_lot q40.2 w1) fun _ =>
  Option.bind (gk_lot q40.2 w1) fun _ =>
  Option.bind (gk_X4_rivalNumber N w1 s0 q40.2) fun q51 =>
  Option.bind (gk_cel q51.2 (203 + 4 * w1)) fun _ =>
  Option.bind (gk_X2_put N (203 + 4 * w1) 10 q51.1 q51.2) fun q54 =>
  if w2 = (-1) then
    some ((), q54.2)
  else
    Option.bind (gk_lot q54.2 w1) fun _ =>
    Option.bind (gk_X4_isLimit N w1 w2 q54.2) fun q64 =>
    if q64.1 = 0 then
      some ((), q64.2)
    else
      if s0 = (-1) then
        Option.bind (gk_lot q64.2 w1) fun _ =>
        Option.bind (gk_X4_startNow N w1 q64.2) fun q77 =>
        gkb_X7_askPapers_95 N w1 w2 q77.1 q77.2
      else
        Option.bind (gk_lot q64.2 w1) fun _ =>
        Option.bind (gk_X4_rivalSum N w1 s0 q64.2) fun q89 =>
        Option.bind (gk_tab q89.2 1) fun _ =>
        Option.bind (gk_X6_after N 1 q89.1 q89.2) fun q92 =>
        gkb_X7_askPapers_95 N w1 w2 q92.1 q92.2
set_option maxRecDepth 20000 in
set_option maxHeartbeats 4000000 in
theorem mk_bl_X7_askPapers_28 {X : Nat → Prop} {ad0 ad : Nat → Nat} {w : Nat → Value} {H0 h : ym_H} {S0 s : mt_S} {N : Nat} {w1 : Nat} {w2 : Int32} {s0 : Int32} (hB : kt_B X ad0 ad w H0 S0 h s) : kt_ok X ad0 H0 S0 (bl_X7_askPapers_28 N (some (ad0 0)) (some (ad0 (10000 + w1))) w2 s0 h) (gkb_X7_askPapers_28 N w1 w2 s0 s) := by
  unfold bl_X7_askPapers_28 gkb_X7_askPapers_28
  refine kt_lot2 hB (fun hc30 => ?_)
  refine kt_lotO hB (fun _ _ => ?_)
  refine kt_call hB (mk_X4_rivalNumber (a0 := w1) hB.start) (fun r37 ad w H37 S37 hB => ?_)
  dsimp only
  refine kt_celO hB (fun _ _ => ?_)
  refine kt_call hB (mk_X2_put (a0 := (203 + 4 * w1)) hB.start) (fun r40 ad w H40 S40 hB => ?_)
  dsimp only
  refine kt_lot2 hB (fun hc44 => ?_)
  refine kt_lotO hB (fun _ _ => ?_)
  refine kt_call hB (mk_X4_rivalNumber (a0 := w1) hB.start) (fun r51 ad w H51 S51 hB => ?_)
  dsimp only
  refine kt_celO hB (fun _ _ => ?_)
  refine kt_call hB (mk_X2_put (a0 := (203 + 4 * w1)) hB.start) (fun r54 ad w H54 S54 hB => ?_)
  dsimp only
  refine kt_if (fun _ => ?_) (fun _ => ?_)
  · exact kt_ret hB
  · refine kt_lotO hB (fun _ _ => ?_)
    refine kt_call hB (mk_X4_isLimit (a0 := w1) hB.start) (fun r64 ad w H64 S64 hB => ?_)
    dsimp only
    refine kt_if (fun _ => ?_) (fun _ => ?_)
    · exact kt_ret hB
    · refine kt_if (fun _ => ?_) (fun _ => ?_)
      · refine kt_lotO hB (fun _ _ => ?_)
        refine kt_call hB (mk_X4_startNow (a0 := w1) hB.start) (fun r77 ad w H77 S77 hB => ?_)
        dsimp only
        exact mk_bl_X7_askPapers_95 (w1 := w1) hB
      · refine kt_room2 hB ?_
        refine kt_lotO hB (fun _ _ => ?_)
        refine kt_call hB (mk_X4_rivalSum (a0 := w1) hB.start) (fun r89 ad w H89 S89 hB => ?_)
        dsimp only
        refine kt_tabO hB (fun _ _ => ?_)
        refine kt_call hB (mk_X6_after (a0 := 1) hB.start) (fun r92 ad w H92 S92 hB => ?_)
        dsimp only
        exact mk_bl_X7_askPapers_95 (w1 := w1) hB
def gk_X7_askPapers (N : Nat) (a1 : Nat) (s : mt_S) : Option (Unit × mt_S) :=
  Option.bind (gk_lot s a1) fun _ =>
  Option.bind (gk_X4_isRaised N a1 s) fun q1 =>
  if q1.1 = 0 then
    some ((), q1.2)
  else
    Option.bind (gk_lot q1.2 a1) fun _ =>
    Option.bind (gk_X4_greatestRival N a1 (-1) q1.2) fun q10 =>
    if q10.1 = (-1) then
      gkb_X7_askPapers_28 N a1 q10.1 (-1) q10.2
    else
      Option.bind (gk_lot q10.2 a1) fun _ =>
      Option.bind (gk_X4_greatestRival N a1 q10.1 q10.2) fun q25 =>
      gkb_X7_askPapers_28 N a1 q10.1 q25.1 q25.2
set_option maxRecDepth 20000 in
set_option maxHeartbeats 4000000 in
theorem mk_X7_askPapers {X : Nat → Prop} {ad0 ad : Nat → Nat} {w : Nat → Value} {h : ym_H} {s : mt_S} {N : Nat} {a1 : Nat} (hB : kt_B X ad0 ad w h s h s) : kt_ok X ad0 h s (fn_X7_askPapers N (some (ad0 0)) (some (ad0 (10000 + a1))) h) (gk_X7_askPapers N a1 s) := by
  unfold fn_X7_askPapers gk_X7_askPapers
  refine kt_lotO hB (fun _ _ => ?_)
  refine kt_call hB (mk_X4_isRaised (a0 := a1) hB.start) (fun r1 ad w H1 S1 hB => ?_)
  dsimp only
  refine kt_if (fun _ => ?_) (fun _ => ?_)
  · exact kt_ret hB
  · refine kt_lotO hB (fun _ _ => ?_)
    refine kt_call hB (mk_X4_greatestRival (a0 := a1) hB.start) (fun r10 ad w H10 S10 hB => ?_)
    dsimp only
    refine kt_if (fun _ => ?_) (fun _ => ?_)
    · exact mk_bl_X7_askPapers_28 (w1 := a1) hB
    · refine kt_lotO hB (fun _ _ => ?_)
      refine kt_call hB (mk_X4_greatestRival (a0 := a1) hB.start) (fun r25 ad w H25 S25 hB => ?_)
      dsimp only
      exact mk_bl_X7_askPapers_28 (w1 := a1) hB
def gk_X7_balance (N : Nat) (a1 : Int32) (s : mt_S) : Option (Int64 × mt_S) :=
  Option.bind (gk_X7_bidderWith N a1 s) fun q2 =>
  match q2.1 with
  | none =>
    some (0, q2.2)
  | some l_q2_1 =>
    Option.bind (gk_bid q2.2 l_q2_1) fun _ =>
    Option.bind (gk_X0_balanceNow N l_q2_1 q2.2) fun q15 =>
    some (q15.1, q15.2)
set_option maxRecDepth 20000 in
set_option maxHeartbeats 4000000 in
theorem mk_X7_balance {X : Nat → Prop} {ad0 ad : Nat → Nat} {w : Nat → Value} {h : ym_H} {s : mt_S} {N : Nat} {a1 : Int32} (hB : kt_B X ad0 ad w h s h s) : kt_ok X ad0 h s (fn_X7_balance N (some (ad0 0)) a1 h) (gk_X7_balance N a1 s) := by
  unfold fn_X7_balance gk_X7_balance
  refine kt_roomO hB (fun _ => ?_)
  refine kt_callm hB (mk_X7_bidderWith hB.start) (fun r2 ad w H2 S2 hB => ?_)
  dsimp only
  cases r2 with
  | none =>
    refine kt_ifT rfl ?_
    try dsimp only [Option.map_some, Option.map_none]
    exact kt_ret hB
  | some l_q2_1 =>
    refine kt_ifF (Option.some_ne_none _) ?_
    try dsimp only [Option.map_some, Option.map_none]
    refine kt_bidO hB (fun _ _ => ?_)
    refine kt_call hB (mk_X0_balanceNow (a0 := l_q2_1) hB.start) (fun r15 ad w H15 S15 hB => ?_)
    dsimp only
    exact kt_ret hB
def gk_X7_batch (N : Nat)  (s : mt_S) : Option (Int64 × mt_S) :=
  Option.bind (gk_X7_startAct N  s) fun q1 =>
  Option.bind (gk_X3_depth N  q1.2) fun q8 =>
  if q8.1 < 8 then
    Option.bind (gk_X3_openBatch N  q8.2) fun q27 =>
    Option.bind (gk_X3_depth N  q27.2) fun q34 =>
    some ((Int32.toInt64 q34.1), q34.2)
  else
    Option.bind (gk_X7_refuse N 12 q8.2) fun q19 =>
    some (q19.1, q19.2)
set_option maxRecDepth 20000 in
set_option maxHeartbeats 4000000 in
theorem mk_X7_batch {X : Nat → Prop} {ad0 ad : Nat → Nat} {w : Nat → Value} {h : ym_H} {s : mt_S} {N : Nat}  (hB : kt_B X ad0 ad w h s h s) : kt_ok X ad0 h s (fn_X7_batch N (some (ad0 0)) h) (gk_X7_batch N  s) := by
  unfold fn_X7_batch gk_X7_batch
  refine kt_roomO hB (fun _ => ?_)
  refine kt_call hB (mk_X7_startAct hB.start) (fun r1 ad w H1 S1 hB => ?_)
  dsimp only
  refine kt_room0 hB ?_
  refine kt_jourO hB (fun _ => ?_)
  refine kt_call hB (mk_X3_depth hB.start) (fun r8 ad w H8 S8 hB => ?_)
  dsimp only
  refine kt_if (fun _ => ?_) (fun _ => ?_)
  · refine kt_room0 hB ?_
    refine kt_jourO hB (fun _ => ?_)
    refine kt_call hB (mk_X3_openBatch hB.start) (fun r27 ad w H27 S27 hB => ?_)
    dsimp only
    refine kt_room0 hB ?_
    refine kt_jourO hB (fun _ => ?_)
    refine kt_call hB (mk_X3_depth hB.start) (fun r34 ad w H34 S34 hB => ?_)
    dsimp only
    exact kt_ret hB
  · refine kt_roomO hB (fun _ => ?_)
    refine kt_call hB (mk_X7_refuse hB.start) (fun r19 ad w H19 S19 hB => ?_)
    dsimp only
    exact kt_ret hB
def gk_X7_batches (N : Nat)  (s : mt_S) : Option (Int32 × mt_S) :=
  Option.bind (gk_X3_depth N  s) fun q4 =>
  some (q4.1, q4.2)
set_option maxRecDepth 20000 in
set_option maxHeartbeats 4000000 in
theorem mk_X7_batches {X : Nat → Prop} {ad0 ad : Nat → Nat} {w : Nat → Value} {h : ym_H} {s : mt_S} {N : Nat}  (hB : kt_B X ad0 ad w h s h s) : kt_ok X ad0 h s (fn_X7_batches N (some (ad0 0)) h) (gk_X7_batches N  s) := by
  unfold fn_X7_batches gk_X7_batches
  refine kt_room0 hB ?_
  refine kt_jourO hB (fun _ => ?_)
  refine kt_call hB (mk_X3_depth hB.start) (fun r4 ad w H4 S4 hB => ?_)
  dsimp only
  exact kt_ret hB
def gk_X7_isSum (N : Nat) (a0 : Int64) (s : mt_S) : Option (Int32 × mt_S) :=
  if a0 < 1 then
    some (0, s)
  else
    if 1000000000000 < a0 then
      some (0, s)
    else
      some (1, s)
set_option maxRecDepth 20000 in
set_option maxHeartbeats 4000000 in
theorem mk_X7_isSum {X : Nat → Prop} {ad0 ad : Nat → Nat} {w : Nat → Value} {h : ym_H} {s : mt_S} {N : Nat} {a0 : Int64} (hB : kt_B X ad0 ad w h s h s) : kt_ok X ad0 h s (fn_X7_isSum N a0 h) (gk_X7_isSum N a0 s) := by
  unfold fn_X7_isSum gk_X7_isSum
  refine kt_if (fun _ => ?_) (fun _ => ?_)
  · exact kt_ret hB
  · refine kt_if (fun _ => ?_) (fun _ => ?_)
    · exact kt_ret hB
    · exact kt_ret hB
def gk_X7_whyNoBidder (N : Nat) (a0 : Int32) (s : mt_S) : Option (Int32 × mt_S) :=
  if a0 < 0 then
    some (3, s)
  else
    if a0 < 200 then
      some (2, s)
    else
      some (3, s)
set_option maxRecDepth 20000 in
set_option maxHeartbeats 4000000 in
theorem mk_X7_whyNoBidder {X : Nat → Prop} {ad0 ad : Nat → Nat} {w : Nat → Value} {h : ym_H} {s : mt_S} {N : Nat} {a0 : Int32} (hB : kt_B X ad0 ad w h s h s) : kt_ok X ad0 h s (fn_X7_whyNoBidder N a0 h) (gk_X7_whyNoBidder N a0 s) := by
  unfold fn_X7_whyNoBidder gk_X7_whyNoBidder
  refine kt_if (fun _ => ?_) (fun _ => ?_)
  · exact kt_ret hB
  · refine kt_if (fun _ => ?_) (fun _ => ?_)
    · exact kt_ret hB
    · exact kt_ret hB
def gk_X7_bid (N : Nat) (a1 : Int32) (a2 : Int32) (a3 : Int64) (s : mt_S) : Option (Int64 × mt_S) :=
  Option.bind (gk_X7_startAct N  s) fun q1 =>
  Option.bind (gk_X7_isSum N a3 q1.2) fun q5 =>
  if q5.1 = 0 then
    Option.bind (gk_X7_refuse N 1 q5.2) fun q13 =>
    some (q13.1, q13.2)
  else
    Option.bind (gk_X7_lotAt N a1 q5.2) fun q19 =>
    match q19.1 with
    | none =>
      Option.bind (gk_X7_whyNoLot N a1 q19.2) fun q31 =>
      Option.bind (gk_X7_refuse N q31.1 q31.2) fun q34 =>
      some (q34.1, q34.2)
    | some l_q19_1 =>
      Option.bind (gk_lot q19.2 l_q19_1) fun _ =>
      if (q19.2.1 8 l_q19_1) = 5 then
        Option.bind (gk_X7_refuse N 4 q19.2) fun q49 =>
        some (q49.1, q49.2)
      else
        Option.bind (gk_X7_bidderWith N a2 q19.2) fun q55 =>
        match q55.1 with
        | none =>
          Option.bind (gk_X7_whyNoBidder N a2 q55.2) fun q67 =>
          Option.bind (gk_X7_refuse N q67.1 q67.2) fun q70 =>
          some (q70.1, q70.2)
        | some l_q55_1 =>
          Option.bind (gk_bid q55.2 l_q55_1) fun _ =>
          Option.bind (gk_X0_isPaper N l_q55_1 q55.2) fun q76 =>
          if q76.1 = 0 then
            Option.bind (gk_lot q76.2 l_q19_1) fun _ =>
            Option.bind (gk_X4_isOpen N l_q19_1 q76.2) fun q90 =>
            if q90.1 = 0 then
              Option.bind (gk_lot q90.2 l_q19_1) fun _ =>
              Option.bind (gk_X4_whyNotOpen N l_q19_1 q90.2) fun q99 =>
              Option.bind (gk_X7_refuse N q99.1 q99.2) fun q102 =>
              some (q102.1, q102.2)
            else
              Option.bind (gk_lot q90.2 l_q19_1) fun _ =>
              Option.bind (gk_X4_wasOpened N l_q19_1 q90.2) fun q108 =>
              if q108.1 = 0 then
                Option.bind (gk_lot q108.2 l_q19_1) fun _ =>
                Option.bind (gk_X4_hasBidderAlready N l_q19_1 a2 q108.2) fun q124 =>
                if q124.1 = 0 then
                  Option.bind (gk_X1_askFor N l_q19_1 q124.2) fun q144 =>
                  if q144.1 ≤ a3 then
                    Option.bind (gk_X7_lotsMade N  q144.2) fun q172 =>
                    Option.bind (gk_X1_mayBid N l_q55_1 l_q19_1 a3 q172.1 q172.2) fun q175 =>
                    if q175.1 = 0 then
                      Option.bind (gk_X7_refuse N 11 q175.2) fun q184 =>
                      some (q184.1, q184.2)
                    else
                      Option.bind (gk_lot q175.2 l_q19_1) fun _ =>
                      Option.bind (gk_she q175.2 (204 + 4 * l_q19_1)) fun _ =>
                      Option.bind (gk_X5_rows N (204 + 4 * l_q19_1) q175.2) fun q193 =>
                      if q193.1 < 299 then
                        Option.bind (gm_pI q193.2 0 ((q193.2.1 0 0) + 1)) fun t216 =>
                        Option.bind (gk_lot t216 l_q19_1) fun _ =>
                        Option.bind (gk_X4_enterBid N l_q19_1 a2 a3 (t216.1 0 0) t216) fun q227 =>
                        Option.bind (gk_X7_askPapers N l_q19_1 q227.2) fun q233 =>
                        some ((Int32.toInt64 (q233.2.1 0 0)), q233.2)
                      else
                        Option.bind (gk_X7_refuse N 12 q193.2) fun q205 =>
                        some (q205.1, q205.2)
                  else
                    Option.bind (gk_X7_refuse N 10 q144.2) fun q154 =>
                    some (q154.1, q154.2)
                else
                  Option.bind (gk_X7_refuse N 13 q124.2) fun q133 =>
                  some (q133.1, q133.2)
              else
                Option.bind (gk_X7_refuse N 8 q108.2) fun q117 =>
                some (q117.1, q117.2)
          else
            Option.bind (gk_X7_refuse N 4 q76.2) fun q84 =>
            some (q84.1, q84.2)
set_option maxRecDepth 20000 in
set_option maxHeartbeats 4000000 in
theorem mk_X7_bid {X : Nat → Prop} {ad0 ad : Nat → Nat} {w : Nat → Value} {h : ym_H} {s : mt_S} {N : Nat} {a1 : Int32} {a2 : Int32} {a3 : Int64} (hB : kt_B X ad0 ad w h s h s) : kt_ok X ad0 h s (fn_X7_bid N (some (ad0 0)) a1 a2 a3 h) (gk_X7_bid N a1 a2 a3 s) := by
  unfold fn_X7_bid gk_X7_bid
  refine kt_roomO hB (fun _ => ?_)
  refine kt_call hB (mk_X7_startAct hB.start) (fun r1 ad w H1 S1 hB => ?_)
  dsimp only
  refine kt_call hB (mk_X7_isSum hB.start) (fun r5 ad w H5 S5 hB => ?_)
  dsimp only
  refine kt_if (fun _ => ?_) (fun _ => ?_)
  · refine kt_roomO hB (fun _ => ?_)
    refine kt_call hB (mk_X7_refuse hB.start) (fun r13 ad w H13 S13 hB => ?_)
    dsimp only
    exact kt_ret hB
  · refine kt_roomO hB (fun _ => ?_)
    refine kt_callm hB (mk_X7_lotAt hB.start) (fun r19 ad w H19 S19 hB => ?_)
    dsimp only
    cases r19 with
    | none =>
      refine kt_ifT rfl ?_
      try dsimp only [Option.map_some, Option.map_none]
      refine kt_call hB (mk_X7_whyNoLot hB.start) (fun r31 ad w H31 S31 hB => ?_)
      dsimp only
      refine kt_roomO hB (fun _ => ?_)
      refine kt_call hB (mk_X7_refuse hB.start) (fun r34 ad w H34 S34 hB => ?_)
      dsimp only
      exact kt_ret hB
    | some l_q19_1 =>
      refine kt_ifF (Option.some_ne_none _) ?_
      try dsimp only [Option.map_some, Option.map_none]
      refine kt_lot0 hB (fun hc40 => ?_)
      refine kt_if (fun _ => ?_) (fun _ => ?_)
      · refine kt_roomO hB (fun _ => ?_)
        refine kt_call hB (mk_X7_refuse hB.start) (fun r49 ad w H49 S49 hB => ?_)
        dsimp only
        exact kt_ret hB
      · refine kt_roomO hB (fun _ => ?_)
        refine kt_callm hB (mk_X7_bidderWith hB.start) (fun r55 ad w H55 S55 hB => ?_)
        dsimp only
        cases r55 with
        | none =>
          refine kt_ifT rfl ?_
          try dsimp only [Option.map_some, Option.map_none]
          refine kt_call hB (mk_X7_whyNoBidder hB.start) (fun r67 ad w H67 S67 hB => ?_)
          dsimp only
          refine kt_roomO hB (fun _ => ?_)
          refine kt_call hB (mk_X7_refuse hB.start) (fun r70 ad w H70 S70 hB => ?_)
          dsimp only
          exact kt_ret hB
        | some l_q55_1 =>
          refine kt_ifF (Option.some_ne_none _) ?_
          try dsimp only [Option.map_some, Option.map_none]
          refine kt_bidO hB (fun _ _ => ?_)
          refine kt_call hB (mk_X0_isPaper (a0 := l_q55_1) hB.start) (fun r76 ad w H76 S76 hB => ?_)
          dsimp only
          refine kt_if (fun _ => ?_) (fun _ => ?_)
          · refine kt_lotO hB (fun _ _ => ?_)
            refine kt_call hB (mk_X4_isOpen (a0 := l_q19_1) hB.start) (fun r90 ad w H90 S90 hB => ?_)
            dsimp only
            refine kt_if (fun _ => ?_) (fun _ => ?_)
            · refine kt_lotO hB (fun _ _ => ?_)
              refine kt_call hB (mk_X4_whyNotOpen (a0 := l_q19_1) hB.start) (fun r99 ad w H99 S99 hB => ?_)
              dsimp only
              refine kt_roomO hB (fun _ => ?_)
              refine kt_call hB (mk_X7_refuse hB.start) (fun r102 ad w H102 S102 hB => ?_)
              dsimp only
              exact kt_ret hB
            · refine kt_lotO hB (fun _ _ => ?_)
              refine kt_call hB (mk_X4_wasOpened (a0 := l_q19_1) hB.start) (fun r108 ad w H108 S108 hB => ?_)
              dsimp only
              refine kt_if (fun _ => ?_) (fun _ => ?_)
              · refine kt_lotO hB (fun _ _ => ?_)
                refine kt_call hB (mk_X4_hasBidderAlready (a0 := l_q19_1) hB.start) (fun r124 ad w H124 S124 hB => ?_)
                dsimp only
                refine kt_if (fun _ => ?_) (fun _ => ?_)
                · refine kt_room4 hB ?_
                  refine kt_bodO hB (fun _ => ?_)
                  refine kt_call hB (mk_X1_askFor (a1 := l_q19_1) hB.start) (fun r144 ad w H144 S144 hB => ?_)
                  dsimp only
                  refine kt_if (fun _ => ?_) (fun _ => ?_)
                  · refine kt_room4 hB ?_
                    refine kt_room6 hB ?_
                    refine kt_roomO hB (fun _ => ?_)
                    refine kt_call hB (mk_X7_lotsMade hB.start) (fun r172 ad w H172 S172 hB => ?_)
                    dsimp only
                    refine kt_bodO hB (fun _ => ?_)
                    refine kt_call hB (mk_X1_mayBid (a1 := l_q55_1) (a2 := l_q19_1) hB.start) (fun r175 ad w H175 S175 hB => ?_)
                    dsimp only
                    refine kt_if (fun _ => ?_) (fun _ => ?_)
                    · refine kt_roomO hB (fun _ => ?_)
                      refine kt_call hB (mk_X7_refuse hB.start) (fun r184 ad w H184 S184 hB => ?_)
                      dsimp only
                      exact kt_ret hB
                    · refine kt_lot3 hB (fun hc190 => ?_)
                      refine kt_sheO hB (fun _ _ => ?_)
                      refine kt_call hB (mk_X5_rows (a0 := (204 + 4 * l_q19_1)) hB.start) (fun r193 ad w H193 S193 hB => ?_)
                      dsimp only
                      refine kt_if (fun _ => ?_) (fun _ => ?_)
                      · refine kt_room7 hB ?_
                        refine kt_room7W hB (fun h216 t216 hB => ?_)
                        refine kt_room7 hB ?_
                        refine kt_lotO hB (fun _ _ => ?_)
                        refine kt_call hB (mk_X4_enterBid (a0 := l_q19_1) hB.start) (fun r227 ad w H227 S227 hB => ?_)
                        dsimp only
                        refine kt_roomO hB (fun _ => ?_)
                        refine kt_call hB (mk_X7_askPapers (a1 := l_q19_1) hB.start) (fun r233 ad w H233 S233 hB => ?_)
                        dsimp only
                        refine kt_room7 hB ?_
                        exact kt_ret hB
                      · refine kt_roomO hB (fun _ => ?_)
                        refine kt_call hB (mk_X7_refuse hB.start) (fun r205 ad w H205 S205 hB => ?_)
                        dsimp only
                        exact kt_ret hB
                  · refine kt_roomO hB (fun _ => ?_)
                    refine kt_call hB (mk_X7_refuse hB.start) (fun r154 ad w H154 S154 hB => ?_)
                    dsimp only
                    exact kt_ret hB
                · refine kt_roomO hB (fun _ => ?_)
                  refine kt_call hB (mk_X7_refuse hB.start) (fun r133 ad w H133 S133 hB => ?_)
                  dsimp only
                  exact kt_ret hB
              · refine kt_roomO hB (fun _ => ?_)
                refine kt_call hB (mk_X7_refuse hB.start) (fun r117 ad w H117 S117 hB => ?_)
                dsimp only
                exact kt_ret hB
          · refine kt_roomO hB (fun _ => ?_)
            refine kt_call hB (mk_X7_refuse hB.start) (fun r84 ad w H84 S84 hB => ?_)
            dsimp only
            exact kt_ret hB
def gk_X7_isMoney (N : Nat) (a0 : Int64) (s : mt_S) : Option (Int32 × mt_S) :=
  if a0 < 0 then
    some (0, s)
  else
    if 1000000000000 < a0 then
      some (0, s)
    else
      some (1, s)
set_option maxRecDepth 20000 in
set_option maxHeartbeats 4000000 in
theorem mk_X7_isMoney {X : Nat → Prop} {ad0 ad : Nat → Nat} {w : Nat → Value} {h : ym_H} {s : mt_S} {N : Nat} {a0 : Int64} (hB : kt_B X ad0 ad w h s h s) : kt_ok X ad0 h s (fn_X7_isMoney N a0 h) (gk_X7_isMoney N a0 s) := by
  unfold fn_X7_isMoney gk_X7_isMoney
  refine kt_if (fun _ => ?_) (fun _ => ?_)
  · exact kt_ret hB
  · refine kt_if (fun _ => ?_) (fun _ => ?_)
    · exact kt_ret hB
    · exact kt_ret hB
def gkb_X7_readEntry_88 (N : Nat)  (s : mt_S) : Option (Int64 × mt_S) :=
  Option.bind (gk_X7_refuse N 3 s) fun q90 =>
  some (q90.1, q90.2)
set_option maxRecDepth 20000 in
set_option maxHeartbeats 4000000 in
theorem mk_bl_X7_readEntry_88 {X : Nat → Prop} {ad0 ad : Nat → Nat} {w : Nat → Value} {H0 h : ym_H} {S0 s : mt_S} {N : Nat}  (hB : kt_B X ad0 ad w H0 S0 h s) : kt_ok X ad0 H0 S0 (bl_X7_readEntry_88 N (some (ad0 0)) h) (gkb_X7_readEntry_88 N  s) := by
  unfold bl_X7_readEntry_88 gkb_X7_readEntry_88
  refine kt_roomO hB (fun _ => ?_)
  refine kt_call hB (mk_X7_refuse hB.start) (fun r90 ad w H90 S90 hB => ?_)
  dsimp only
  exact kt_ret hB
def gkb_X7_readEntry_72 (N : Nat) (w2 : Int32) (w3 : Int32) (w4 : Nat) (s : mt_S) : Option (Int64 × mt_S) :=
  if w2 < 0 then
    gkb_X7_readEntry_88 N  s
  else
    Option.bind (gk_lot s w4) fun _ =>
    Option.bind (gk_she s (204 + 4 * w4)) fun _ =>
    Option.bind (gk_X5_rows N (204 + 4 * w4) s) fun q82 =>
    if w2 < q82.1 then
      Option.bind (gk_lot q82.2 w4) fun _ =>
      Option.bind (gk_she q82.2 (204 + 4 * w4)) fun _ =>
      Option.bind (gk_X5_at N (204 + 4 * w4) w2 w3 q82.2) fun q101 =>
      some (q101.1, q101.2)
    else
      gkb_X7_readEntry_88 N  q82.2
set_option maxRecDepth 20000 in
set_option maxHeartbeats 4000000 in
theorem mk_bl_X7_readEntry_72 {X : Nat → Prop} {ad0 ad : Nat → Nat} {w : Nat → Value} {H0 h : ym_H} {S0 s : mt_S} {N : Nat} {w2 : Int32} {w3 : Int32} {w4 : Nat} (hB : kt_B X ad0 ad w H0 S0 h s) : kt_ok X ad0 H0 S0 (bl_X7_readEntry_72 N (some (ad0 0)) w2 w3 (some (ad0 (10000 + w4))) h) (gkb_X7_readEntry_72 N w2 w3 w4 s) := by
  unfold bl_X7_readEntry_72 gkb_X7_readEntry_72
  refine kt_if (fun _ => ?_) (fun _ => ?_)
  · exact mk_bl_X7_readEntry_88 hB
  · refine kt_lot3 hB (fun hc79 => ?_)
    refine kt_sheO hB (fun _ _ => ?_)
    refine kt_call hB (mk_X5_rows (a0 := (204 + 4 * w4)) hB.start) (fun r82 ad w H82 S82 hB => ?_)
    dsimp only
    refine kt_if (fun _ => ?_) (fun _ => ?_)
    · refine kt_lot3 hB (fun hc96 => ?_)
      refine kt_sheO hB (fun _ _ => ?_)
      refine kt_call hB (mk_X5_at (a0 := (204 + 4 * w4)) hB.start) (fun r101 ad w H101 S101 hB => ?_)
      dsimp only
      exact kt_ret hB
    · exact mk_bl_X7_readEntry_88 hB
def gk_X7_readEntry (N : Nat) (a1 : Int32) (a2 : Int32) (a3 : Int32) (s : mt_S) : Option (Int64 × mt_S) :=
  Option.bind (gk_X7_startAct N  s) fun q1 =>
  Option.bind (gk_X7_lotAt N a1 q1.2) fun q6 =>
  match q6.1 with
  | none =>
    Option.bind (gk_X7_whyNoLot N a1 q6.2) fun q18 =>
    Option.bind (gk_X7_refuse N q18.1 q18.2) fun q21 =>
    some (q21.1, q21.2)
  | some l_q6_1 =>
    Option.bind (gk_lot q6.2 l_q6_1) fun _ =>
    Option.bind (gk_X4_hasBook N l_q6_1 q6.2) fun q27 =>
    if q27.1 = 0 then
      Option.bind (gk_X7_refuse N 6 q27.2) fun q36 =>
      some (q36.1, q36.2)
    else
      Option.bind (gk_lot q27.2 l_q6_1) fun _ =>
      if (q27.2.1 8 l_q6_1) = 4 then
        Option.bind (gk_lot q27.2 l_q6_1) fun _ =>
        Option.bind (gk_X4_isOpen N l_q6_1 q27.2) fun q51 =>
        if q51.1 = 0 then
          gkb_X7_readEntry_72 N a2 a3 l_q6_1 q51.2
        else
          Option.bind (gk_lot q51.2 l_q6_1) fun _ =>
          Option.bind (gk_X4_wasOpened N l_q6_1 q51.2) fun q59 =>
          if q59.1 = 0 then
            Option.bind (gk_X7_refuse N 7 q59.2) fun q68 =>
            some (q68.1, q68.2)
          else
            gkb_X7_readEntry_72 N a2 a3 l_q6_1 q59.2
      else
        gkb_X7_readEntry_72 N a2 a3 l_q6_1 q27.2
set_option maxRecDepth 20000 in
set_option maxHeartbeats 4000000 in
theorem mk_X7_readEntry {X : Nat → Prop} {ad0 ad : Nat → Nat} {w : Nat → Value} {h : ym_H} {s : mt_S} {N : Nat} {a1 : Int32} {a2 : Int32} {a3 : Int32} (hB : kt_B X ad0 ad w h s h s) : kt_ok X ad0 h s (fn_X7_readEntry N (some (ad0 0)) a1 a2 a3 h) (gk_X7_readEntry N a1 a2 a3 s) := by
  unfold fn_X7_readEntry gk_X7_readEntry
  refine kt_roomO hB (fun _ => ?_)
  refine kt_call hB (mk_X7_startAct hB.start) (fun r1 ad w H1 S1 hB => ?_)
  dsimp only
  refine kt_roomO hB (fun _ => ?_)
  refine kt_callm hB (mk_X7_lotAt hB.start) (fun r6 ad w H6 S6 hB => ?_)
  dsimp only
  cases r6 with
  | none =>
    refine kt_ifT rfl ?_
    try dsimp only [Option.map_some, Option.map_none]
    refine kt_call hB (mk_X7_whyNoLot hB.start) (fun r18 ad w H18 S18 hB => ?_)
    dsimp only
    refine kt_roomO hB (fun _ => ?_)
    refine kt_call hB (mk_X7_refuse hB.start) (fun r21 ad w H21 S21 hB => ?_)
    dsimp only
    exact kt_ret hB
  | some l_q6_1 =>
    refine kt_ifF (Option.some_ne_none _) ?_
    try dsimp only [Option.map_some, Option.map_none]
    refine kt_lotO hB (fun _ _ => ?_)
    refine kt_call hB (mk_X4_hasBook (a0 := l_q6_1) hB.start) (fun r27 ad w H27 S27 hB => ?_)
    dsimp only
    refine kt_if (fun _ => ?_) (fun _ => ?_)
    · refine kt_roomO hB (fun _ => ?_)
      refine kt_call hB (mk_X7_refuse hB.start) (fun r36 ad w H36 S36 hB => ?_)
      dsimp only
      exact kt_ret hB
    · refine kt_lot0 hB (fun hc42 => ?_)
      refine kt_if (fun _ => ?_) (fun _ => ?_)
      · refine kt_lotO hB (fun _ _ => ?_)
        refine kt_call hB (mk_X4_isOpen (a0 := l_q6_1) hB.start) (fun r51 ad w H51 S51 hB => ?_)
        dsimp only
        refine kt_if (fun _ => ?_) (fun _ => ?_)
        · exact mk_bl_X7_readEntry_72 (w4 := l_q6_1) hB
        · refine kt_lotO hB (fun _ _ => ?_)
          refine kt_call hB (mk_X4_wasOpened (a0 := l_q6_1) hB.start) (fun r59 ad w H59 S59 hB => ?_)
          dsimp only
          refine kt_if (fun _ => ?_) (fun _ => ?_)
          · refine kt_roomO hB (fun _ => ?_)
            refine kt_call hB (mk_X7_refuse hB.start) (fun r68 ad w H68 S68 hB => ?_)
            dsimp only
            exact kt_ret hB
          · exact mk_bl_X7_readEntry_72 (w4 := l_q6_1) hB
      · exact mk_bl_X7_readEntry_72 (w4 := l_q6_1) hB
def gk_X7_bidderAt (N : Nat) (a1 : Int32) (a2 : Int32) (s : mt_S) : Option (Int64 × mt_S) :=
  Option.bind (gk_X7_readEntry N a1 a2 0 s) fun q4 =>
  some (q4.1, q4.2)
set_option maxRecDepth 20000 in
set_option maxHeartbeats 4000000 in
theorem mk_X7_bidderAt {X : Nat → Prop} {ad0 ad : Nat → Nat} {w : Nat → Value} {h : ym_H} {s : mt_S} {N : Nat} {a1 : Int32} {a2 : Int32} (hB : kt_B X ad0 ad w h s h s) : kt_ok X ad0 h s (fn_X7_bidderAt N (some (ad0 0)) a1 a2 h) (gk_X7_bidderAt N a1 a2 s) := by
  unfold fn_X7_bidderAt gk_X7_bidderAt
  refine kt_roomO hB (fun _ => ?_)
  refine kt_call hB (mk_X7_readEntry hB.start) (fun r4 ad w H4 S4 hB => ?_)
  dsimp only
  exact kt_ret hB
def gk_X7_bidderKind (N : Nat) (a1 : Int32) (s : mt_S) : Option (Int32 × mt_S) :=
  Option.bind (gk_X7_bidderWith N a1 s) fun q2 =>
  match q2.1 with
  | none =>
    some (0, q2.2)
  | some l_q2_1 =>
    Option.bind (gk_bid q2.2 l_q2_1) fun _ =>
    some ((q2.2.1 9 l_q2_1), q2.2)
set_option maxRecDepth 20000 in
set_option maxHeartbeats 4000000 in
theorem mk_X7_bidderKind {X : Nat → Prop} {ad0 ad : Nat → Nat} {w : Nat → Value} {h : ym_H} {s : mt_S} {N : Nat} {a1 : Int32} (hB : kt_B X ad0 ad w h s h s) : kt_ok X ad0 h s (fn_X7_bidderKind N (some (ad0 0)) a1 h) (gk_X7_bidderKind N a1 s) := by
  unfold fn_X7_bidderKind gk_X7_bidderKind
  refine kt_roomO hB (fun _ => ?_)
  refine kt_callm hB (mk_X7_bidderWith hB.start) (fun r2 ad w H2 S2 hB => ?_)
  dsimp only
  cases r2 with
  | none =>
    refine kt_ifT rfl ?_
    try dsimp only [Option.map_some, Option.map_none]
    exact kt_ret hB
  | some l_q2_1 =>
    refine kt_ifF (Option.some_ne_none _) ?_
    try dsimp only [Option.map_some, Option.map_none]
    refine kt_bid0 hB (fun hc15 => ?_)
    exact kt_ret hB
def gk_X7_bookTo (N : Nat) (a1 : Int32) (a2 : Int64) (s : mt_S) : Option (Unit × mt_S) :=
  Option.bind (gk_cel s 0) fun _ =>
  Option.bind (gk_X2_get N 0 a1 s) fun q10 =>
  Option.bind (gk_cel q10.2 0) fun _ =>
  Option.bind (gk_X2_put N 0 a1 (q10.1 + a2) q10.2) fun q15 =>
  some ((), q15.2)
set_option maxRecDepth 20000 in
set_option maxHeartbeats 4000000 in
theorem mk_X7_bookTo {X : Nat → Prop} {ad0 ad : Nat → Nat} {w : Nat → Value} {h : ym_H} {s : mt_S} {N : Nat} {a1 : Int32} {a2 : Int64} (hB : kt_B X ad0 ad w h s h s) : kt_ok X ad0 h s (fn_X7_bookTo N (some (ad0 0)) a1 a2 h) (gk_X7_bookTo N a1 a2 s) := by
  unfold fn_X7_bookTo gk_X7_bookTo
  refine kt_room1 hB ?_
  refine kt_room1 hB ?_
  refine kt_celO hB (fun _ _ => ?_)
  refine kt_call hB (mk_X2_get (a0 := 0) hB.start) (fun r10 ad w H10 S10 hB => ?_)
  dsimp only
  refine kt_celO hB (fun _ _ => ?_)
  refine kt_call hB (mk_X2_put (a0 := 0) hB.start) (fun r15 ad w H15 S15 hB => ?_)
  dsimp only
  exact kt_ret hB
def gk_X7_bookToBidder (N : Nat) (a1 : Int32) (a2 : Int64) (s : mt_S) : Option (Unit × mt_S) :=
  Option.bind (gk_X7_bidderWith N a1 s) fun q2 =>
  match q2.1 with
  | none =>
    some ((), q2.2)
  | some l_q2_1 =>
    Option.bind (gk_bid q2.2 l_q2_1) fun _ =>
    Option.bind (gk_X0_add N l_q2_1 a2 q2.2) fun q15 =>
    some ((), q15.2)
set_option maxRecDepth 20000 in
set_option maxHeartbeats 4000000 in
theorem mk_X7_bookToBidder {X : Nat → Prop} {ad0 ad : Nat → Nat} {w : Nat → Value} {h : ym_H} {s : mt_S} {N : Nat} {a1 : Int32} {a2 : Int64} (hB : kt_B X ad0 ad w h s h s) : kt_ok X ad0 h s (fn_X7_bookToBidder N (some (ad0 0)) a1 a2 h) (gk_X7_bookToBidder N a1 a2 s) := by
  unfold fn_X7_bookToBidder gk_X7_bookToBidder
  refine kt_roomO hB (fun _ => ?_)
  refine kt_callm hB (mk_X7_bidderWith hB.start) (fun r2 ad w H2 S2 hB => ?_)
  dsimp only
  cases r2 with
  | none =>
    refine kt_ifT rfl ?_
    try dsimp only [Option.map_some, Option.map_none]
    exact kt_ret hB
  | some l_q2_1 =>
    refine kt_ifF (Option.some_ne_none _) ?_
    try dsimp only [Option.map_some, Option.map_none]
    refine kt_bidO hB (fun _ _ => ?_)
    refine kt_call hB (mk_X0_add (a0 := l_q2_1) hB.start) (fun r15 ad w H15 S15 hB => ?_)
    dsimp only
    exact kt_ret hB
def gkb_X7_call_66 (N : Nat) (w2 : Nat) (s : mt_S) : Option (Int64 × mt_S) :=
  Option.bind (gk_X7_askPapers N w2 s) fun q68 =>
  Option.bind (gk_lot q68.2 w2) fun _ =>
  Option.bind (gk_she q68.2 (204 + 4 * w2)) fun _ =>
  Option.bind (gk_X5_rows N (204 + 4 * w2) q68.2) fun q75 =>
  some ((Int32.toInt64 q75.1), q75.2)
set_option maxRecDepth 20000 in
set_option maxHeartbeats 4000000 in
theorem mk_bl_X7_call_66 {X : Nat → Prop} {ad0 ad : Nat → Nat} {w : Nat → Value} {H0 h : ym_H} {S0 s : mt_S} {N : Nat} {w2 : Nat} (hB : kt_B X ad0 ad w H0 S0 h s) : kt_ok X ad0 H0 S0 (bl_X7_call_66 N (some (ad0 0)) (some (ad0 (10000 + w2))) h) (gkb_X7_call_66 N w2 s) := by
  unfold bl_X7_call_66 gkb_X7_call_66
  refine kt_roomO hB (fun _ => ?_)
  refine kt_call hB (mk_X7_askPapers (a1 := w2) hB.start) (fun r68 ad w H68 S68 hB => ?_)
  dsimp only
  refine kt_lot3 hB (fun hc72 => ?_)
  refine kt_sheO hB (fun _ _ => ?_)
  refine kt_call hB (mk_X5_rows (a0 := (204 + 4 * w2)) hB.start) (fun r75 ad w H75 S75 hB => ?_)
  dsimp only
  exact kt_ret hB
def gk_X7_call (N : Nat) (a1 : Int32) (s : mt_S) : Option (Int64 × mt_S) :=
  Option.bind (gk_X7_startAct N  s) fun q1 =>
  Option.bind (gk_X7_lotAt N a1 q1.2) fun q6 =>
  match q6.1 with
  | none =>
    Option.bind (gk_X7_whyNoLot N a1 q6.2) fun q16 =>
    Option.bind (gk_X7_refuse N q16.1 q16.2) fun q19 =>
    some (q19.1, q19.2)
  | some l_q6_1 =>
    Option.bind (gk_lot q6.2 l_q6_1) fun _ =>
    Option.bind (gk_X4_stateNow N l_q6_1 q6.2) fun q24 =>
    if q24.1 = 0 then
      Option.bind (gk_lot q24.2 l_q6_1) fun _ =>
      Option.bind (gk_cel q24.2 (203 + 4 * l_q6_1)) fun _ =>
      Option.bind (gk_X2_put N (203 + 4 * l_q6_1) 2 1 q24.2) fun q43 =>
      Option.bind (gk_lot q43.2 l_q6_1) fun _ =>
      if (q43.2.1 8 l_q6_1) = 5 then
        Option.bind (gk_lot q43.2 l_q6_1) fun _ =>
        Option.bind (gk_lot q43.2 l_q6_1) fun _ =>
        Option.bind (gk_X4_startNow N l_q6_1 q43.2) fun q60 =>
        Option.bind (gk_cel q60.2 (203 + 4 * l_q6_1)) fun _ =>
        Option.bind (gk_X2_put N (203 + 4 * l_q6_1) 3 q60.1 q60.2) fun q63 =>
        gkb_X7_call_66 N l_q6_1 q63.2
      else
        gkb_X7_call_66 N l_q6_1 q43.2
    else
      Option.bind (gk_X7_refuse N 9 q24.2) fun q33 =>
      some (q33.1, q33.2)
set_option maxRecDepth 20000 in
set_option maxHeartbeats 4000000 in
theorem mk_X7_call {X : Nat → Prop} {ad0 ad : Nat → Nat} {w : Nat → Value} {h : ym_H} {s : mt_S} {N : Nat} {a1 : Int32} (hB : kt_B X ad0 ad w h s h s) : kt_ok X ad0 h s (fn_X7_call N (some (ad0 0)) a1 h) (gk_X7_call N a1 s) := by
  unfold fn_X7_call gk_X7_call
  refine kt_roomO hB (fun _ => ?_)
  refine kt_call hB (mk_X7_startAct hB.start) (fun r1 ad w H1 S1 hB => ?_)
  dsimp only
  refine kt_roomO hB (fun _ => ?_)
  refine kt_callm hB (mk_X7_lotAt hB.start) (fun r6 ad w H6 S6 hB => ?_)
  dsimp only
  cases r6 with
  | none =>
    refine kt_ifT rfl ?_
    try dsimp only [Option.map_some, Option.map_none]
    refine kt_call hB (mk_X7_whyNoLot hB.start) (fun r16 ad w H16 S16 hB => ?_)
    dsimp only
    refine kt_roomO hB (fun _ => ?_)
    refine kt_call hB (mk_X7_refuse hB.start) (fun r19 ad w H19 S19 hB => ?_)
    dsimp only
    exact kt_ret hB
  | some l_q6_1 =>
    refine kt_ifF (Option.some_ne_none _) ?_
    try dsimp only [Option.map_some, Option.map_none]
    refine kt_lotO hB (fun _ _ => ?_)
    refine kt_call hB (mk_X4_stateNow (a0 := l_q6_1) hB.start) (fun r24 ad w H24 S24 hB => ?_)
    dsimp only
    refine kt_if (fun _ => ?_) (fun _ => ?_)
    · refine kt_lot2 hB (fun hc38 => ?_)
      refine kt_celO hB (fun _ _ => ?_)
      refine kt_call hB (mk_X2_put (a0 := (203 + 4 * l_q6_1)) hB.start) (fun r43 ad w H43 S43 hB => ?_)
      dsimp only
      refine kt_lot0 hB (fun hc47 => ?_)
      refine kt_if (fun _ => ?_) (fun _ => ?_)
      · refine kt_lot2 hB (fun hc55 => ?_)
        refine kt_lotO hB (fun _ _ => ?_)
        refine kt_call hB (mk_X4_startNow (a0 := l_q6_1) hB.start) (fun r60 ad w H60 S60 hB => ?_)
        dsimp only
        refine kt_celO hB (fun _ _ => ?_)
        refine kt_call hB (mk_X2_put (a0 := (203 + 4 * l_q6_1)) hB.start) (fun r63 ad w H63 S63 hB => ?_)
        dsimp only
        exact mk_bl_X7_call_66 (w2 := l_q6_1) hB
      · exact mk_bl_X7_call_66 (w2 := l_q6_1) hB
    · refine kt_roomO hB (fun _ => ?_)
      refine kt_call hB (mk_X7_refuse hB.start) (fun r33 ad w H33 S33 hB => ?_)
      dsimp only
      exact kt_ret hB
def gk_X7_cause (N : Nat) (a1 : Int32) (a2 : Int32) (s : mt_S) : Option (Int32 × mt_S) :=
  Option.bind (gk_X7_lotAt N a1 s) fun q2 =>
  match q2.1 with
  | none =>
    some (0, q2.2)
  | some l_q2_1 =>
    if a2 = 0 then
      Option.bind (gk_lot q2.2 l_q2_1) fun _ =>
      Option.bind (gk_cel q2.2 (203 + 4 * l_q2_1)) fun _ =>
      Option.bind (gk_X2_get N (203 + 4 * l_q2_1) 9 q2.2) fun q22 =>
      some ((Int64.toInt32 q22.1), q22.2)
    else
      if a2 = 1 then
        Option.bind (gk_lot q2.2 l_q2_1) fun _ =>
        Option.bind (gk_cel q2.2 (203 + 4 * l_q2_1)) fun _ =>
        Option.bind (gk_X2_get N (203 + 4 * l_q2_1) 10 q2.2) fun q38 =>
        some ((Int64.toInt32 q38.1), q38.2)
      else
        some (0, q2.2)
set_option maxRecDepth 20000 in
set_option maxHeartbeats 4000000 in
theorem mk_X7_cause {X : Nat → Prop} {ad0 ad : Nat → Nat} {w : Nat → Value} {h : ym_H} {s : mt_S} {N : Nat} {a1 : Int32} {a2 : Int32} (hB : kt_B X ad0 ad w h s h s) : kt_ok X ad0 h s (fn_X7_cause N (some (ad0 0)) a1 a2 h) (gk_X7_cause N a1 a2 s) := by
  unfold fn_X7_cause gk_X7_cause
  refine kt_roomO hB (fun _ => ?_)
  refine kt_callm hB (mk_X7_lotAt hB.start) (fun r2 ad w H2 S2 hB => ?_)
  dsimp only
  cases r2 with
  | none =>
    refine kt_ifT rfl ?_
    try dsimp only [Option.map_some, Option.map_none]
    exact kt_ret hB
  | some l_q2_1 =>
    refine kt_ifF (Option.some_ne_none _) ?_
    try dsimp only [Option.map_some, Option.map_none]
    refine kt_if (fun _ => ?_) (fun _ => ?_)
    · refine kt_lot2 hB (fun hc17 => ?_)
      refine kt_celO hB (fun _ _ => ?_)
      refine kt_call hB (mk_X2_get (a0 := (203 + 4 * l_q2_1)) hB.start) (fun r22 ad w H22 S22 hB => ?_)
      dsimp only
      exact kt_ret hB
    · refine kt_if (fun _ => ?_) (fun _ => ?_)
      · refine kt_lot2 hB (fun hc33 => ?_)
        refine kt_celO hB (fun _ _ => ?_)
        refine kt_call hB (mk_X2_get (a0 := (203 + 4 * l_q2_1)) hB.start) (fun r38 ad w H38 S38 hB => ?_)
        dsimp only
        exact kt_ret hB
      · exact kt_ret hB
def gk_X7_isRate (N : Nat) (a0 : Int32) (s : mt_S) : Option (Int32 × mt_S) :=
  if a0 < 0 then
    some (0, s)
  else
    if 10000 < a0 then
      some (0, s)
    else
      some (1, s)
set_option maxRecDepth 20000 in
set_option maxHeartbeats 4000000 in
theorem mk_X7_isRate {X : Nat → Prop} {ad0 ad : Nat → Nat} {w : Nat → Value} {h : ym_H} {s : mt_S} {N : Nat} {a0 : Int32} (hB : kt_B X ad0 ad w h s h s) : kt_ok X ad0 h s (fn_X7_isRate N a0 h) (gk_X7_isRate N a0 s) := by
  unfold fn_X7_isRate gk_X7_isRate
  refine kt_if (fun _ => ?_) (fun _ => ?_)
  · exact kt_ret hB
  · refine kt_if (fun _ => ?_) (fun _ => ?_)
    · exact kt_ret hB
    · exact kt_ret hB
def gk_X7_cut (N : Nat) (a1 : Int32) (a2 : Int32) (s : mt_S) : Option (Int64 × mt_S) :=
  Option.bind (gk_X7_startAct N  s) fun q1 =>
  Option.bind (gk_X7_isRate N a2 q1.2) fun q5 =>
  if q5.1 = 0 then
    Option.bind (gk_X7_refuse N 1 q5.2) fun q13 =>
    some (q13.1, q13.2)
  else
    Option.bind (gk_X7_lotAt N a1 q5.2) fun q19 =>
    match q19.1 with
    | none =>
      Option.bind (gk_X7_whyNoLot N a1 q19.2) fun q29 =>
      Option.bind (gk_X7_refuse N q29.1 q29.2) fun q32 =>
      some (q32.1, q32.2)
    | some l_q19_1 =>
      Option.bind (gk_lot q19.2 l_q19_1) fun _ =>
      Option.bind (gk_X4_stateNow N l_q19_1 q19.2) fun q37 =>
      if q37.1 = 0 then
        Option.bind (gk_lot q37.2 l_q19_1) fun _ =>
        Option.bind (gk_cel q37.2 (203 + 4 * l_q19_1)) fun _ =>
        Option.bind (gk_X2_get N (203 + 4 * l_q19_1) 1 q37.2) fun q55 =>
        Option.bind (gk_lot q55.2 l_q19_1) fun _ =>
        Option.bind (gk_cel q55.2 (203 + 4 * l_q19_1)) fun _ =>
        Option.bind (gk_X2_put N (203 + 4 * l_q19_1) 1 (Int32.toInt64 a2) q55.2) fun q67 =>
        some (q55.1, q67.2)
      else
        Option.bind (gk_X7_refuse N 9 q37.2) fun q46 =>
        some (q46.1, q46.2)
set_option maxRecDepth 20000 in
set_option maxHeartbeats 4000000 in
theorem mk_X7_cut {X : Nat → Prop} {ad0 ad : Nat → Nat} {w : Nat → Value} {h : ym_H} {s : mt_S} {N : Nat} {a1 : Int32} {a2 : Int32} (hB : kt_B X ad0 ad w h s h s) : kt_ok X ad0 h s (fn_X7_cut N (some (ad0 0)) a1 a2 h) (gk_X7_cut N a1 a2 s) := by
  unfold fn_X7_cut gk_X7_cut
  refine kt_roomO hB (fun _ => ?_)
  refine kt_call hB (mk_X7_startAct hB.start) (fun r1 ad w H1 S1 hB => ?_)
  dsimp only
  refine kt_call hB (mk_X7_isRate hB.start) (fun r5 ad w H5 S5 hB => ?_)
  dsimp only
  refine kt_if (fun _ => ?_) (fun _ => ?_)
  · refine kt_roomO hB (fun _ => ?_)
    refine kt_call hB (mk_X7_refuse hB.start) (fun r13 ad w H13 S13 hB => ?_)
    dsimp only
    exact kt_ret hB
  · refine kt_roomO hB (fun _ => ?_)
    refine kt_callm hB (mk_X7_lotAt hB.start) (fun r19 ad w H19 S19 hB => ?_)
    dsimp only
    cases r19 with
    | none =>
      refine kt_ifT rfl ?_
      try dsimp only [Option.map_some, Option.map_none]
      refine kt_call hB (mk_X7_whyNoLot hB.start) (fun r29 ad w H29 S29 hB => ?_)
      dsimp only
      refine kt_roomO hB (fun _ => ?_)
      refine kt_call hB (mk_X7_refuse hB.start) (fun r32 ad w H32 S32 hB => ?_)
      dsimp only
      exact kt_ret hB
    | some l_q19_1 =>
      refine kt_ifF (Option.some_ne_none _) ?_
      try dsimp only [Option.map_some, Option.map_none]
      refine kt_lotO hB (fun _ _ => ?_)
      refine kt_call hB (mk_X4_stateNow (a0 := l_q19_1) hB.start) (fun r37 ad w H37 S37 hB => ?_)
      dsimp only
      refine kt_if (fun _ => ?_) (fun _ => ?_)
      · refine kt_lot2 hB (fun hc51 => ?_)
        refine kt_celO hB (fun _ _ => ?_)
        refine kt_call hB (mk_X2_get (a0 := (203 + 4 * l_q19_1)) hB.start) (fun r55 ad w H55 S55 hB => ?_)
        dsimp only
        refine kt_lot2 hB (fun hc61 => ?_)
        refine kt_celO hB (fun _ _ => ?_)
        refine kt_call hB (mk_X2_put (a0 := (203 + 4 * l_q19_1)) hB.start) (fun r67 ad w H67 S67 hB => ?_)
        dsimp only
        exact kt_ret hB
      · refine kt_roomO hB (fun _ => ?_)
        refine kt_call hB (mk_X7_refuse hB.start) (fun r46 ad w H46 S46 hB => ?_)
        dsimp only
        exact kt_ret hB
def gk_X7_entries (N : Nat) (a1 : Int32) (s : mt_S) : Option (Int32 × mt_S) :=
  Option.bind (gk_X7_lotAt N a1 s) fun q2 =>
  match q2.1 with
  | none =>
    some ((-1), q2.2)
  | some l_q2_1 =>
    Option.bind (gk_lot q2.2 l_q2_1) fun _ =>
    Option.bind (gk_X4_hasBook N l_q2_1 q2.2) fun q11 =>
    if q11.1 = 0 then
      some ((-1), q11.2)
    else
      Option.bind (gk_lot q11.2 l_q2_1) fun _ =>
      Option.bind (gk_she q11.2 (204 + 4 * l_q2_1)) fun _ =>
      Option.bind (gk_X5_rows N (204 + 4 * l_q2_1) q11.2) fun q25 =>
      some (q25.1, q25.2)
set_option maxRecDepth 20000 in
set_option maxHeartbeats 4000000 in
theorem mk_X7_entries {X : Nat → Prop} {ad0 ad : Nat → Nat} {w : Nat → Value} {h : ym_H} {s : mt_S} {N : Nat} {a1 : Int32} (hB : kt_B X ad0 ad w h s h s) : kt_ok X ad0 h s (fn_X7_entries N (some (ad0 0)) a1 h) (gk_X7_entries N a1 s) := by
  unfold fn_X7_entries gk_X7_entries
  refine kt_roomO hB (fun _ => ?_)
  refine kt_callm hB (mk_X7_lotAt hB.start) (fun r2 ad w H2 S2 hB => ?_)
  dsimp only
  cases r2 with
  | none =>
    refine kt_ifT rfl ?_
    try dsimp only [Option.map_some, Option.map_none]
    exact kt_ret hB
  | some l_q2_1 =>
    refine kt_ifF (Option.some_ne_none _) ?_
    try dsimp only [Option.map_some, Option.map_none]
    refine kt_lotO hB (fun _ _ => ?_)
    refine kt_call hB (mk_X4_hasBook (a0 := l_q2_1) hB.start) (fun r11 ad w H11 S11 hB => ?_)
    dsimp only
    refine kt_if (fun _ => ?_) (fun _ => ?_)
    · exact kt_ret hB
    · refine kt_lot3 hB (fun hc22 => ?_)
      refine kt_sheO hB (fun _ _ => ?_)
      refine kt_call hB (mk_X5_rows (a0 := (204 + 4 * l_q2_1)) hB.start) (fun r25 ad w H25 S25 hB => ?_)
      dsimp only
      exact kt_ret hB
def gk_X7_digestLot (N : Nat) (a1 : Int64) (a3 : Int32) (s : mt_S) : Option (Int64 × mt_S) :=
  Option.bind (gk_X7_lotAt N a3 s) fun q2 =>
  match q2.1 with
  | none =>
    some (a1, q2.2)
  | some l_q2_1 =>
    Option.bind (gk_lot q2.2 l_q2_1) fun _ =>
    Option.bind (gk_lot q2.2 l_q2_1) fun _ =>
    Option.bind (gk_X4_stateNow N l_q2_1 q2.2) fun q36 =>
    Option.bind (gk_lot q36.2 l_q2_1) fun _ =>
    Option.bind (gk_X4_standingBidder N l_q2_1 q36.2) fun q51 =>
    Option.bind (gk_lot q51.2 l_q2_1) fun _ =>
    Option.bind (gk_X4_standingSum N l_q2_1 q51.2) fun q66 =>
    Option.bind (gk_X7_entries N a3 q66.2) fun q80 =>
    Option.bind (gk_lot q80.2 l_q2_1) fun _ =>
    Option.bind (gk_she q80.2 (206 + 4 * l_q2_1)) fun _ =>
    Option.bind (gk_X5_rows N (206 + 4 * l_q2_1) q80.2) fun q98 =>
    Option.bind (gk_lot q98.2 l_q2_1) fun _ =>
    Option.bind (gk_she q98.2 (205 + 4 * l_q2_1)) fun _ =>
    Option.bind (gk_X5_rows N (205 + 4 * l_q2_1) q98.2) fun q116 =>
    some (((((((((((((((a1 * 31) + (Int32.toInt64 (q2.2.1 8 l_q2_1))) * 31) + (Int32.toInt64 q36.1)) * 31) + (Int32.toInt64 q51.1)) * 31) + q66.1) * 31) + (Int32.toInt64 q80.1)) * 31) + (Int32.toInt64 q98.1)) * 31) + (Int32.toInt64 q116.1)), q116.2)
set_option maxRecDepth 20000 in
set_option maxHeartbeats 4000000 in
theorem mk_X7_digestLot {X : Nat → Prop} {ad0 ad : Nat → Nat} {w : Nat → Value} {h : ym_H} {s : mt_S} {N : Nat} {a1 : Int64} {a3 : Int32} (hB : kt_B X ad0 ad w h s h s) : kt_ok X ad0 h s (fn_X7_digestLot N (some (ad0 0)) a1 a3 h) (gk_X7_digestLot N a1 a3 s) := by
  unfold fn_X7_digestLot gk_X7_digestLot
  refine kt_roomO hB (fun _ => ?_)
  refine kt_callm hB (mk_X7_lotAt hB.start) (fun r2 ad w H2 S2 hB => ?_)
  dsimp only
  cases r2 with
  | none =>
    refine kt_ifT rfl ?_
    try dsimp only [Option.map_some, Option.map_none]
    exact kt_ret hB
  | some l_q2_1 =>
    refine kt_ifF (Option.some_ne_none _) ?_
    try dsimp only [Option.map_some, Option.map_none]
    refine kt_lot0 hB (fun hc21 => ?_)
    refine kt_lotO hB (fun _ _ => ?_)
    refine kt_call hB (mk_X4_stateNow (a0 := l_q2_1) hB.start) (fun r36 ad w H36 S36 hB => ?_)
    dsimp only
    refine kt_lotO hB (fun _ _ => ?_)
    refine kt_call hB (mk_X4_standingBidder (a0 := l_q2_1) hB.start) (fun r51 ad w H51 S51 hB => ?_)
    dsimp only
    refine kt_lotO hB (fun _ _ => ?_)
    refine kt_call hB (mk_X4_standingSum (a0 := l_q2_1) hB.start) (fun r66 ad w H66 S66 hB => ?_)
    dsimp only
    refine kt_roomO hB (fun _ => ?_)
    refine kt_call hB (mk_X7_entries hB.start) (fun r80 ad w H80 S80 hB => ?_)
    dsimp only
    refine kt_lot5 hB (fun hc95 => ?_)
    refine kt_sheO hB (fun _ _ => ?_)
    refine kt_call hB (mk_X5_rows (a0 := (206 + 4 * l_q2_1)) hB.start) (fun r98 ad w H98 S98 hB => ?_)
    dsimp only
    refine kt_lot4 hB (fun hc113 => ?_)
    refine kt_sheO hB (fun _ _ => ?_)
    refine kt_call hB (mk_X5_rows (a0 := (205 + 4 * l_q2_1)) hB.start) (fun r116 ad w H116 S116 hB => ?_)
    dsimp only
    exact kt_ret hB
def gkl_X7_digest_21 (Kl : Int64 → Int32 → Int32 → mt_S → Option ((Int64) × mt_S)) (N : Nat) (w1 : Int64) (w3 : Int32) (w4 : Int32) (s : mt_S) : Option ((Int64) × mt_S) :=
  if w3 ≤ w4 then
    some (w1, s)
  else
    Option.bind (gk_X7_bidderKind N w4 s) fun q35 =>
    Option.bind (gk_X7_balance N w4 q35.2) fun q49 =>
    Kl ((((w1 * 31) + (Int32.toInt64 q35.1)) * 31) + q49.1) w3 (w4 + 1) q49.2
set_option maxRecDepth 20000 in
set_option maxHeartbeats 4000000 in
theorem mk_lb_X7_digest_21 {X : Nat → Prop} {ad0 ad : Nat → Nat} {w : Nat → Value} {H0 h : ym_H} {S0 s : mt_S} {K : Option Nat → Int64 → Int32 → Int32 → ym_H → Option ((Int64) × ym_H)} {Kl : Int64 → Int32 → Int32 → mt_S → Option ((Int64) × mt_S)} (hKl : ∀ (w1 : Int64) (w3 : Int32) (w4 : Int32) (ad : Nat → Nat) (w : Nat → Value) (h : ym_H) (s : mt_S), kt_B X ad0 ad w H0 S0 h s → kt_ok X ad0 H0 S0 (K (some (ad0 0)) w1 w3 w4 h) (Kl w1 w3 w4 s)) {N : Nat} {w1 : Int64} {w3 : Int32} {w4 : Int32} (hB : kt_B X ad0 ad w H0 S0 h s) : kt_ok X ad0 H0 S0 (lb_X7_digest_21 K N (some (ad0 0)) w1 w3 w4 h) (gkl_X7_digest_21 Kl N w1 w3 w4 s) := by
  unfold lb_X7_digest_21 gkl_X7_digest_21
  refine kt_if (fun _ => ?_) (fun _ => ?_)
  · exact kt_ret hB
  · refine kt_roomO hB (fun _ => ?_)
    refine kt_call hB (mk_X7_bidderKind hB.start) (fun r35 ad w H35 S35 hB => ?_)
    dsimp only
    refine kt_roomO hB (fun _ => ?_)
    refine kt_call hB (mk_X7_balance hB.start) (fun r49 ad w H49 S49 hB => ?_)
    dsimp only
    exact hKl _ _ _ _ _ _ _ hB
def gkp_X7_digest_21 (N : Nat) : Nat → Int64 → Int32 → Int32 → mt_S → Option ((Int64) × mt_S)
  | 0, _, _, _, _ => none
  | n + 1, w1, w3, w4, s => gkl_X7_digest_21 (gkp_X7_digest_21 N n) N w1 w3 w4 s
theorem mk_lp_X7_digest_21 {X : Nat → Prop} {ad0 : Nat → Nat} {H0 : ym_H} {S0 : mt_S} {N : Nat} : ∀ (n : Nat) (ad : Nat → Nat) (w : Nat → Value) (h : ym_H) (s : mt_S) (w1 : Int64) (w3 : Int32) (w4 : Int32), kt_B X ad0 ad w H0 S0 h s → kt_ok X ad0 H0 S0 (lp_X7_digest_21 N n (some (ad0 0)) w1 w3 w4 h) (gkp_X7_digest_21 N n w1 w3 w4 s) := by
  intro n
  induction n with
  | zero => intro ad w h s w1 w3 w4 hB; exact kt_no
  | succ n ih =>
    intro ad w h s w1 w3 w4 hB
    exact mk_lb_X7_digest_21 (fun w1 w3 w4 ad w h s hB => ih ad w h s w1 w3 w4 hB) hB
def gkl_X7_digest_77 (Kl : Int64 → Int32 → Int32 → mt_S → Option ((Int64) × mt_S)) (N : Nat) (w1 : Int64) (w3 : Int32) (w4 : Int32) (s : mt_S) : Option ((Int64) × mt_S) :=
  if w3 ≤ w4 then
    some (w1, s)
  else
    Option.bind (gk_X7_digestLot N w1 w4 s) fun q87 =>
    Kl q87.1 w3 (w4 + 1) q87.2
set_option maxRecDepth 20000 in
set_option maxHeartbeats 4000000 in
theorem mk_lb_X7_digest_77 {X : Nat → Prop} {ad0 ad : Nat → Nat} {w : Nat → Value} {H0 h : ym_H} {S0 s : mt_S} {K : Option Nat → Int64 → Int32 → Int32 → ym_H → Option ((Int64) × ym_H)} {Kl : Int64 → Int32 → Int32 → mt_S → Option ((Int64) × mt_S)} (hKl : ∀ (w1 : Int64) (w3 : Int32) (w4 : Int32) (ad : Nat → Nat) (w : Nat → Value) (h : ym_H) (s : mt_S), kt_B X ad0 ad w H0 S0 h s → kt_ok X ad0 H0 S0 (K (some (ad0 0)) w1 w3 w4 h) (Kl w1 w3 w4 s)) {N : Nat} {w1 : Int64} {w3 : Int32} {w4 : Int32} (hB : kt_B X ad0 ad w H0 S0 h s) : kt_ok X ad0 H0 S0 (lb_X7_digest_77 K N (some (ad0 0)) w1 w3 w4 h) (gkl_X7_digest_77 Kl N w1 w3 w4 s) := by
  unfold lb_X7_digest_77 gkl_X7_digest_77
  refine kt_if (fun _ => ?_) (fun _ => ?_)
  · exact kt_ret hB
  · refine kt_roomO hB (fun _ => ?_)
    refine kt_call hB (mk_X7_digestLot hB.start) (fun r87 ad w H87 S87 hB => ?_)
    dsimp only
    exact hKl _ _ _ _ _ _ _ hB
def gkp_X7_digest_77 (N : Nat) : Nat → Int64 → Int32 → Int32 → mt_S → Option ((Int64) × mt_S)
  | 0, _, _, _, _ => none
  | n + 1, w1, w3, w4, s => gkl_X7_digest_77 (gkp_X7_digest_77 N n) N w1 w3 w4 s
theorem mk_lp_X7_digest_77 {X : Nat → Prop} {ad0 : Nat → Nat} {H0 : ym_H} {S0 : mt_S} {N : Nat} : ∀ (n : Nat) (ad : Nat → Nat) (w : Nat → Value) (h : ym_H) (s : mt_S) (w1 : Int64) (w3 : Int32) (w4 : Int32), kt_B X ad0 ad w H0 S0 h s → kt_ok X ad0 H0 S0 (lp_X7_digest_77 N n (some (ad0 0)) w1 w3 w4 h) (gkp_X7_digest_77 N n w1 w3 w4 s) := by
  intro n
  induction n with
  | zero => intro ad w h s w1 w3 w4 hB; exact kt_no
  | succ n ih =>
    intro ad w h s w1 w3 w4 hB
    exact mk_lb_X7_digest_77 (fun w1 w3 w4 ad w h s hB => ih ad w h s w1 w3 w4 hB) hB
def gk_X7_digest (N : Nat)  (s : mt_S) : Option (Int64 × mt_S) :=
  Option.bind (gk_X7_biddersMade N  s) fun q5 =>
  Option.bind (gkp_X7_digest_21 N N ((7 * 31) + (Int32.toInt64 q5.1)) q5.1 0 q5.2) fun q21 =>
  Option.bind (gk_X7_lotsMade N  q21.2) fun q61 =>
  Option.bind (gkp_X7_digest_77 N N ((q21.1 * 31) + (Int32.toInt64 q61.1)) q61.1 0 q61.2) fun q77 =>
  Option.bind (gk_X7_account N 0 q77.2) fun q104 =>
  Option.bind (gk_X7_account N 1 q104.2) fun q116 =>
  Option.bind (gk_X7_account N 2 q116.2) fun q128 =>
  Option.bind (gk_tab q128.2 1) fun _ =>
  Option.bind (gk_X6_rows N 1 q128.2) fun q142 =>
  Option.bind (gk_tab q142.2 2) fun _ =>
  Option.bind (gk_X6_rows N 2 q142.2) fun q157 =>
  some (((((((((((q77.1 * 31) + q104.1) * 31) + q116.1) * 31) + q128.1) * 31) + (Int32.toInt64 q142.1)) * 31) + (Int32.toInt64 q157.1)), q157.2)
set_option maxRecDepth 20000 in
set_option maxHeartbeats 4000000 in
theorem mk_X7_digest {X : Nat → Prop} {ad0 ad : Nat → Nat} {w : Nat → Value} {h : ym_H} {s : mt_S} {N : Nat}  (hB : kt_B X ad0 ad w h s h s) : kt_ok X ad0 h s (fn_X7_digest N (some (ad0 0)) h) (gk_X7_digest N  s) := by
  unfold fn_X7_digest gk_X7_digest
  refine kt_roomO hB (fun _ => ?_)
  refine kt_call hB (mk_X7_biddersMade hB.start) (fun r5 ad w H5 S5 hB => ?_)
  dsimp only
  refine kt_call hB (mk_lp_X7_digest_21 N _ _ _ _ _ _ _ hB.start) (fun r21 ad w H21 S21 hB => ?_)
  dsimp only
  refine kt_roomO hB (fun _ => ?_)
  refine kt_call hB (mk_X7_lotsMade hB.start) (fun r61 ad w H61 S61 hB => ?_)
  dsimp only
  refine kt_call hB (mk_lp_X7_digest_77 N _ _ _ _ _ _ _ hB.start) (fun r77 ad w H77 S77 hB => ?_)
  dsimp only
  refine kt_roomO hB (fun _ => ?_)
  refine kt_call hB (mk_X7_account hB.start) (fun r104 ad w H104 S104 hB => ?_)
  dsimp only
  refine kt_roomO hB (fun _ => ?_)
  refine kt_call hB (mk_X7_account hB.start) (fun r116 ad w H116 S116 hB => ?_)
  dsimp only
  refine kt_roomO hB (fun _ => ?_)
  refine kt_call hB (mk_X7_account hB.start) (fun r128 ad w H128 S128 hB => ?_)
  dsimp only
  refine kt_room2 hB ?_
  refine kt_tabO hB (fun _ _ => ?_)
  refine kt_call hB (mk_X6_rows (a0 := 1) hB.start) (fun r142 ad w H142 S142 hB => ?_)
  dsimp only
  refine kt_room3 hB ?_
  refine kt_tabO hB (fun _ _ => ?_)
  refine kt_call hB (mk_X6_rows (a0 := 2) hB.start) (fun r157 ad w H157 S157 hB => ?_)
  dsimp only
  exact kt_ret hB
