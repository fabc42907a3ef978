def gk_X7_payOut (N : Nat) (a1 : Int32) (a2 : Int64) (s : mt_S) : Option (Int64 × mt_S) :=
  Option.bind (gk_X7_startAct N  s) fun q1 =>
  Option.bind (gk_X7_isSum N a2 q1.2) fun q5 =>
  if q5.1 = 0 then
    Option.bind (gk_X7_refuse N 1 q5.2) fun q13 =>
    some (q13.1, q13.2)
  else
    Option.bind (gk_X7_bidderWith N a1 q5.2) fun q19 =>
    match q19.1 with
    | none =>
      Option.bind (gk_X7_whyNoBidder N a1 q19.2) fun q31 =>
      Option.bind (gk_X7_refuse N q31.1 q31.2) fun q34 =>
      some (q34.1, q34.2)
    | some l_q19_1 =>
      Option.bind (gk_bid q19.2 l_q19_1) fun _ =>
      Option.bind (gk_X0_balanceNow N l_q19_1 q19.2) fun q40 =>
      if a2 ≤ q40.1 then
        Option.bind (gk_bid q40.2 l_q19_1) fun _ =>
        Option.bind (gk_X0_add N l_q19_1 (-a2) q40.2) fun q59 =>
        Option.bind (gk_X7_bookTo N 4 a2 q59.2) fun q65 =>
        some (a2, q65.2)
      else
        Option.bind (gk_X7_refuse N 10 q40.2) fun q51 =>
        some (q51.1, q51.2)
set_option maxRecDepth 20000 in
set_option maxHeartbeats 4000000 in
theorem mk_X7_payOut {X : Nat → Prop} {ad0 ad : Nat → Nat} {w : Nat → Value} {h : ym_H} {s : mt_S} {N : Nat} {a1 : Int32} {a2 : Int64} (hB : kt_B X ad0 ad w h s h s) : kt_ok X ad0 h s (fn_X7_payOut N (some (ad0 0)) a1 a2 h) (gk_X7_payOut N a1 a2 s) := by
  unfold fn_X7_payOut gk_X7_payOut
  refine kt_roomO hB (fun _ => ?_)
  refine kt_call hB (mk_X7_startAct hB.start) (fun r1 ad w H1 S1 hB => ?_)
  dsimp only
  refine kt_call hB (mk_X7_isSum hB.start) (fun r5 ad w H5 S5 hB => ?_)
  dsimp only
  refine kt_if (fun _ => ?_) (fun _ => ?_)
  · refine kt_roomO hB (fun _ => ?_)
    refine kt_call hB (mk_X7_refuse hB.start) (fun r13 ad w H13 S13 hB => ?_)
    dsimp only
    exact kt_ret hB
  · refine kt_roomO hB (fun _ => ?_)
    refine kt_callm hB (mk_X7_bidderWith hB.start) (fun r19 ad w H19 S19 hB => ?_)
    dsimp only
    cases r19 with
    | none =>
      refine kt_ifT rfl ?_
      try dsimp only [Option.map_some, Option.map_none]
      refine kt_call hB (mk_X7_whyNoBidder hB.start) (fun r31 ad w H31 S31 hB => ?_)
      dsimp only
      refine kt_roomO hB (fun _ => ?_)
      refine kt_call hB (mk_X7_refuse hB.start) (fun r34 ad w H34 S34 hB => ?_)
      dsimp only
      exact kt_ret hB
    | some l_q19_1 =>
      refine kt_ifF (Option.some_ne_none _) ?_
      try dsimp only [Option.map_some, Option.map_none]
      refine kt_bidO hB (fun _ _ => ?_)
      refine kt_call hB (mk_X0_balanceNow (a0 := l_q19_1) hB.start) (fun r40 ad w H40 S40 hB => ?_)
      dsimp only
      refine kt_if (fun _ => ?_) (fun _ => ?_)
      · refine kt_bidO hB (fun _ _ => ?_)
        refine kt_call hB (mk_X0_add (a0 := l_q19_1) hB.start) (fun r59 ad w H59 S59 hB => ?_)
        dsimp only
        refine kt_roomO hB (fun _ => ?_)
        refine kt_call hB (mk_X7_bookTo hB.start) (fun r65 ad w H65 S65 hB => ?_)
        dsimp only
        exact kt_ret hB
      · refine kt_roomO hB (fun _ => ?_)
        refine kt_call hB (mk_X7_refuse hB.start) (fun r51 ad w H51 S51 hB => ?_)
        dsimp only
        exact kt_ret hB
def gkb_X7_premium_18 (N : Nat)  (s : mt_S) : Option (Int64 × mt_S) :=
  Option.bind (gk_X7_refuse N 1 s) fun q20 =>
  some (q20.1, q20.2)
set_option maxRecDepth 20000 in
set_option maxHeartbeats 4000000 in
theorem mk_bl_X7_premium_18 {X : Nat → Prop} {ad0 ad : Nat → Nat} {w : Nat → Value} {H0 h : ym_H} {S0 s : mt_S} {N : Nat}  (hB : kt_B X ad0 ad w H0 S0 h s) : kt_ok X ad0 H0 S0 (bl_X7_premium_18 N (some (ad0 0)) h) (gkb_X7_premium_18 N  s) := by
  unfold bl_X7_premium_18 gkb_X7_premium_18
  refine kt_roomO hB (fun _ => ?_)
  refine kt_call hB (mk_X7_refuse hB.start) (fun r20 ad w H20 S20 hB => ?_)
  dsimp only
  exact kt_ret hB
def gk_X7_premium (N : Nat) (a1 : Int64) (a3 : Int32) (s : mt_S) : Option (Int64 × mt_S) :=
  Option.bind (gk_X7_startAct N  s) fun q1 =>
  Option.bind (gk_X7_isMoney N a1 q1.2) fun q5 =>
  if q5.1 = 0 then
    gkb_X7_premium_18 N  q5.2
  else
    Option.bind (gk_X7_isRate N a3 q5.2) fun q12 =>
    if q12.1 = 0 then
      gkb_X7_premium_18 N  q12.2
    else
      Option.bind (gk_X7_addTableRow N 2 a1 (Int32.toInt64 a3) q12.2) fun q32 =>
      some (q32.1, q32.2)
set_option maxRecDepth 20000 in
set_option maxHeartbeats 4000000 in
theorem mk_X7_premium {X : Nat → Prop} {ad0 ad : Nat → Nat} {w : Nat → Value} {h : ym_H} {s : mt_S} {N : Nat} {a1 : Int64} {a3 : Int32} (hB : kt_B X ad0 ad w h s h s) : kt_ok X ad0 h s (fn_X7_premium N (some (ad0 0)) a1 a3 h) (gk_X7_premium N a1 a3 s) := by
  unfold fn_X7_premium gk_X7_premium
  refine kt_roomO hB (fun _ => ?_)
  refine kt_call hB (mk_X7_startAct hB.start) (fun r1 ad w H1 S1 hB => ?_)
  dsimp only
  refine kt_call hB (mk_X7_isMoney hB.start) (fun r5 ad w H5 S5 hB => ?_)
  dsimp only
  refine kt_if (fun _ => ?_) (fun _ => ?_)
  · exact mk_bl_X7_premium_18 hB
  · refine kt_call hB (mk_X7_isRate hB.start) (fun r12 ad w H12 S12 hB => ?_)
    dsimp only
    refine kt_if (fun _ => ?_) (fun _ => ?_)
    · exact mk_bl_X7_premium_18 hB
    · refine kt_room3 hB ?_
      refine kt_roomO hB (fun _ => ?_)
      refine kt_call hB (mk_X7_addTableRow (a1 := 2) hB.start) (fun r32 ad w H32 S32 hB => ?_)
      dsimp only
      exact kt_ret hB
def gkb_X7_reoffer_80 (N : Nat) (w2 : Int64) (w4 : Nat) (s : mt_S) : Option (Int64 × mt_S) :=
  Option.bind (gk_lot s w4) fun _ =>
  Option.bind (gk_cel s (203 + 4 * w4)) fun _ =>
  Option.bind (gk_X2_get N (203 + 4 * w4) 11 s) fun q89 =>
  Option.bind (gk_X7_lotAt N (Int64.toInt32 q89.1) q89.2) fun q93 =>
  Option.bind (gk_X7_part N q93.1 q93.2) fun q96 =>
  Option.bind (gk_lot q96.2 w4) fun _ =>
  Option.bind (gk_X4_renew N w4 w2 q96.2) fun q102 =>
  some (1, q102.2)
set_option maxRecDepth 20000 in
set_option maxHeartbeats 4000000 in
theorem mk_bl_X7_reoffer_80 {X : Nat → Prop} {ad0 ad : Nat → Nat} {w : Nat → Value} {H0 h : ym_H} {S0 s : mt_S} {N : Nat} {w2 : Int64} {w4 : Nat} (hB : kt_B X ad0 ad w H0 S0 h s) : kt_ok X ad0 H0 S0 (bl_X7_reoffer_80 N (some (ad0 0)) w2 (some (ad0 (10000 + w4))) h) (gkb_X7_reoffer_80 N w2 w4 s) := by
  unfold bl_X7_reoffer_80 gkb_X7_reoffer_80
  refine kt_lot2 hB (fun hc84 => ?_)
  refine kt_celO hB (fun _ _ => ?_)
  refine kt_call hB (mk_X2_get (a0 := (203 + 4 * w4)) hB.start) (fun r89 ad w H89 S89 hB => ?_)
  dsimp only
  refine kt_roomO hB (fun _ => ?_)
  refine kt_callm hB (mk_X7_lotAt hB.start) (fun r93 ad w H93 S93 hB => ?_)
  dsimp only
  refine kt_roomO hB (fun _ => ?_)
  refine kt_call hB (mk_X7_part (a1 := r93) hB.start) (fun r96 ad w H96 S96 hB => ?_)
  dsimp only
  refine kt_lotO hB (fun _ _ => ?_)
  refine kt_call hB (mk_X4_renew (a0 := w4) hB.start) (fun r102 ad w H102 S102 hB => ?_)
  dsimp only
  exact kt_ret hB
def gk_X7_reoffer (N : Nat) (a1 : Int32) (a2 : Int64) (s : mt_S) : Option (Int64 × mt_S) :=
  Option.bind (gk_X7_startAct N  s) fun q1 =>
  Option.bind (gk_X7_isSum N a2 q1.2) fun q5 =>
  if q5.1 = 0 then
    Option.bind (gk_X7_refuse N 1 q5.2) fun q13 =>
    some (q13.1, q13.2)
  else
    Option.bind (gk_X7_lotAt N a1 q5.2) fun q19 =>
    match q19.1 with
    | none =>
      Option.bind (gk_X7_whyNoLot N a1 q19.2) fun q31 =>
      Option.bind (gk_X7_refuse N q31.1 q31.2) fun q34 =>
      some (q34.1, q34.2)
    | some l_q19_1 =>
      Option.bind (gk_lot q19.2 l_q19_1) fun _ =>
      Option.bind (gk_X4_stateNow N l_q19_1 q19.2) fun q40 =>
      if q40.1 = 3 then
        Option.bind (gk_lot q40.2 l_q19_1) fun _ =>
        if (q40.2.1 8 l_q19_1) = 5 then
          Option.bind (gk_lot q40.2 l_q19_1) fun _ =>
          if (q40.2.2.1 20 l_q19_1) ≤ a2 then
            gkb_X7_reoffer_80 N a2 l_q19_1 q40.2
          else
            Option.bind (gk_X7_refuse N 10 q40.2) fun q76 =>
            some (q76.1, q76.2)
        else
          gkb_X7_reoffer_80 N a2 l_q19_1 q40.2
      else
        Option.bind (gk_X7_refuse N 9 q40.2) fun q50 =>
        some (q50.1, q50.2)
set_option maxRecDepth 20000 in
set_option maxHeartbeats 4000000 in
theorem mk_X7_reoffer {X : Nat → Prop} {ad0 ad : Nat → Nat} {w : Nat → Value} {h : ym_H} {s : mt_S} {N : Nat} {a1 : Int32} {a2 : Int64} (hB : kt_B X ad0 ad w h s h s) : kt_ok X ad0 h s (fn_X7_reoffer N (some (ad0 0)) a1 a2 h) (gk_X7_reoffer N a1 a2 s) := by
  unfold fn_X7_reoffer gk_X7_reoffer
  refine kt_roomO hB (fun _ => ?_)
  refine kt_call hB (mk_X7_startAct hB.start) (fun r1 ad w H1 S1 hB => ?_)
  dsimp only
  refine kt_call hB (mk_X7_isSum hB.start) (fun r5 ad w H5 S5 hB => ?_)
  dsimp only
  refine kt_if (fun _ => ?_) (fun _ => ?_)
  · refine kt_roomO hB (fun _ => ?_)
    refine kt_call hB (mk_X7_refuse hB.start) (fun r13 ad w H13 S13 hB => ?_)
    dsimp only
    exact kt_ret hB
  · refine kt_roomO hB (fun _ => ?_)
    refine kt_callm hB (mk_X7_lotAt hB.start) (fun r19 ad w H19 S19 hB => ?_)
    dsimp only
    cases r19 with
    | none =>
      refine kt_ifT rfl ?_
      try dsimp only [Option.map_some, Option.map_none]
      refine kt_call hB (mk_X7_whyNoLot hB.start) (fun r31 ad w H31 S31 hB => ?_)
      dsimp only
      refine kt_roomO hB (fun _ => ?_)
      refine kt_call hB (mk_X7_refuse hB.start) (fun r34 ad w H34 S34 hB => ?_)
      dsimp only
      exact kt_ret hB
    | some l_q19_1 =>
      refine kt_ifF (Option.some_ne_none _) ?_
      try dsimp only [Option.map_some, Option.map_none]
      refine kt_lotO hB (fun _ _ => ?_)
      refine kt_call hB (mk_X4_stateNow (a0 := l_q19_1) hB.start) (fun r40 ad w H40 S40 hB => ?_)
      dsimp only
      refine kt_if (fun _ => ?_) (fun _ => ?_)
      · refine kt_lot0 hB (fun hc56 => ?_)
        refine kt_if (fun _ => ?_) (fun _ => ?_)
        · refine kt_lot1 hB (fun hc66 => ?_)
          refine kt_if (fun _ => ?_) (fun _ => ?_)
          · exact mk_bl_X7_reoffer_80 (w4 := l_q19_1) hB
          · refine kt_roomO hB (fun _ => ?_)
            refine kt_call hB (mk_X7_refuse hB.start) (fun r76 ad w H76 S76 hB => ?_)
            dsimp only
            exact kt_ret hB
        · exact mk_bl_X7_reoffer_80 (w4 := l_q19_1) hB
      · refine kt_roomO hB (fun _ => ?_)
        refine kt_call hB (mk_X7_refuse hB.start) (fun r50 ad w H50 S50 hB => ?_)
        dsimp only
        exact kt_ret hB
def gk_X7_seller (N : Nat) (a1 : Int32) (a2 : Int32) (s : mt_S) : Option (Int64 × mt_S) :=
  Option.bind (gk_X7_startAct N  s) fun q1 =>
  Option.bind (gk_X7_lotAt N a1 q1.2) fun q6 =>
  match q6.1 with
  | none =>
    Option.bind (gk_X7_whyNoLot N a1 q6.2) fun q16 =>
    Option.bind (gk_X7_refuse N q16.1 q16.2) fun q19 =>
    some (q19.1, q19.2)
  | some l_q6_1 =>
    Option.bind (gk_X7_bidderWith N a2 q6.2) fun q25 =>
    match q25.1 with
    | none =>
      Option.bind (gk_X7_whyNoBidder N a2 q25.2) fun q33 =>
      Option.bind (gk_X7_refuse N q33.1 q33.2) fun q36 =>
      some (q36.1, q36.2)
    | some l_q25_1 =>
      Option.bind (gk_lot q25.2 l_q6_1) fun _ =>
      Option.bind (gk_X4_stateNow N l_q6_1 q25.2) fun q41 =>
      if q41.1 = 0 then
        Option.bind (gk_lot q41.2 l_q6_1) fun _ =>
        Option.bind (gk_she q41.2 (206 + 4 * l_q6_1)) fun _ =>
        Option.bind (gk_X5_rowOf N (206 + 4 * l_q6_1) a2 q41.2) fun q59 =>
        if q59.1 = (-1) then
          Option.bind (gk_lot q59.2 l_q6_1) fun _ =>
          Option.bind (gk_she q59.2 (206 + 4 * l_q6_1)) fun _ =>
          Option.bind (gk_X5_rows N (206 + 4 * l_q6_1) q59.2) fun q77 =>
          if q77.1 < 4 then
            Option.bind (gk_lot q77.2 l_q6_1) fun _ =>
            Option.bind (gk_lot q77.2 l_q6_1) fun _ =>
            Option.bind (gk_she q77.2 (206 + 4 * l_q6_1)) fun _ =>
            Option.bind (gk_X5_addRow N (206 + 4 * l_q6_1) q77.2) fun q99 =>
            Option.bind (gk_she q99.2 (206 + 4 * l_q6_1)) fun _ =>
            Option.bind (gk_X5_put N (206 + 4 * l_q6_1) q99.1 0 (Int32.toInt64 a2) q99.2) fun q105 =>
            Option.bind (gk_lot q105.2 l_q6_1) fun _ =>
            Option.bind (gk_she q105.2 (206 + 4 * l_q6_1)) fun _ =>
            Option.bind (gk_X5_rows N (206 + 4 * l_q6_1) q105.2) fun q112 =>
            some ((Int32.toInt64 q112.1), q112.2)
          else
            Option.bind (gk_X7_refuse N 12 q77.2) fun q87 =>
            some (q87.1, q87.2)
        else
          Option.bind (gk_X7_refuse N 8 q59.2) fun q69 =>
          some (q69.1, q69.2)
      else
        Option.bind (gk_X7_refuse N 9 q41.2) fun q50 =>
        some (q50.1, q50.2)
set_option maxRecDepth 20000 in
set_option maxHeartbeats 4000000 in
theorem mk_X7_seller {X : Nat → Prop} {ad0 ad : Nat → Nat} {w : Nat → Value} {h : ym_H} {s : mt_S} {N : Nat} {a1 : Int32} {a2 : Int32} (hB : kt_B X ad0 ad w h s h s) : kt_ok X ad0 h s (fn_X7_seller N (some (ad0 0)) a1 a2 h) (gk_X7_seller N a1 a2 s) := by
  unfold fn_X7_seller gk_X7_seller
  refine kt_roomO hB (fun _ => ?_)
  refine kt_call hB (mk_X7_startAct hB.start) (fun r1 ad w H1 S1 hB => ?_)
  dsimp only
  refine kt_roomO hB (fun _ => ?_)
  refine kt_callm hB (mk_X7_lotAt hB.start) (fun r6 ad w H6 S6 hB => ?_)
  dsimp only
  cases r6 with
  | none =>
    refine kt_ifT rfl ?_
    try dsimp only [Option.map_some, Option.map_none]
    refine kt_call hB (mk_X7_whyNoLot hB.start) (fun r16 ad w H16 S16 hB => ?_)
    dsimp only
    refine kt_roomO hB (fun _ => ?_)
    refine kt_call hB (mk_X7_refuse hB.start) (fun r19 ad w H19 S19 hB => ?_)
    dsimp only
    exact kt_ret hB
  | some l_q6_1 =>
    refine kt_ifF (Option.some_ne_none _) ?_
    try dsimp only [Option.map_some, Option.map_none]
    refine kt_roomO hB (fun _ => ?_)
    refine kt_callm hB (mk_X7_bidderWith hB.start) (fun r25 ad w H25 S25 hB => ?_)
    dsimp only
    cases r25 with
    | none =>
      refine kt_ifT rfl ?_
      try dsimp only [Option.map_some, Option.map_none]
      refine kt_call hB (mk_X7_whyNoBidder hB.start) (fun r33 ad w H33 S33 hB => ?_)
      dsimp only
      refine kt_roomO hB (fun _ => ?_)
      refine kt_call hB (mk_X7_refuse hB.start) (fun r36 ad w H36 S36 hB => ?_)
      dsimp only
      exact kt_ret hB
    | some l_q25_1 =>
      refine kt_ifF (Option.some_ne_none _) ?_
      try dsimp only [Option.map_some, Option.map_none]
      refine kt_lotO hB (fun _ _ => ?_)
      refine kt_call hB (mk_X4_stateNow (a0 := l_q6_1) hB.start) (fun r41 ad w H41 S41 hB => ?_)
      dsimp only
      refine kt_if (fun _ => ?_) (fun _ => ?_)
      · refine kt_lot5 hB (fun hc55 => ?_)
        refine kt_sheO hB (fun _ _ => ?_)
        refine kt_call hB (mk_X5_rowOf (a0 := (206 + 4 * l_q6_1)) hB.start) (fun r59 ad w H59 S59 hB => ?_)
        dsimp only
        refine kt_if (fun _ => ?_) (fun _ => ?_)
        · refine kt_lot5 hB (fun hc74 => ?_)
          refine kt_sheO hB (fun _ _ => ?_)
          refine kt_call hB (mk_X5_rows (a0 := (206 + 4 * l_q6_1)) hB.start) (fun r77 ad w H77 S77 hB => ?_)
          dsimp only
          refine kt_if (fun _ => ?_) (fun _ => ?_)
          · refine kt_lot5 hB (fun hc92 => ?_)
            refine kt_lot5 hB (fun hc96 => ?_)
            refine kt_sheO hB (fun _ _ => ?_)
            refine kt_call hB (mk_X5_addRow (a0 := (206 + 4 * l_q6_1)) hB.start) (fun r99 ad w H99 S99 hB => ?_)
            dsimp only
            refine kt_sheO hB (fun _ _ => ?_)
            refine kt_call hB (mk_X5_put (a0 := (206 + 4 * l_q6_1)) hB.start) (fun r105 ad w H105 S105 hB => ?_)
            dsimp only
            refine kt_lot5 hB (fun hc109 => ?_)
            refine kt_sheO hB (fun _ _ => ?_)
            refine kt_call hB (mk_X5_rows (a0 := (206 + 4 * l_q6_1)) hB.start) (fun r112 ad w H112 S112 hB => ?_)
            dsimp only
            exact kt_ret hB
          · refine kt_roomO hB (fun _ => ?_)
            refine kt_call hB (mk_X7_refuse hB.start) (fun r87 ad w H87 S87 hB => ?_)
            dsimp only
            exact kt_ret hB
        · refine kt_roomO hB (fun _ => ?_)
          refine kt_call hB (mk_X7_refuse hB.start) (fun r69 ad w H69 S69 hB => ?_)
          dsimp only
          exact kt_ret hB
      · refine kt_roomO hB (fun _ => ?_)
        refine kt_call hB (mk_X7_refuse hB.start) (fun r50 ad w H50 S50 hB => ?_)
        dsimp only
        exact kt_ret hB
def gkb_X7_settle_57 (N : Nat)  (s : mt_S) : Option (Int64 × mt_S) :=
  Option.bind (gk_X7_refuse N 14 s) fun q60 =>
  some (q60.1, q60.2)
set_option maxRecDepth 20000 in
set_option maxHeartbeats 4000000 in
theorem mk_bl_X7_settle_57 {X : Nat → Prop} {ad0 ad : Nat → Nat} {w : Nat → Value} {H0 h : ym_H} {S0 s : mt_S} {N : Nat}  (hB : kt_B X ad0 ad w H0 S0 h s) : kt_ok X ad0 H0 S0 (bl_X7_settle_57 N (some (ad0 0)) h) (gkb_X7_settle_57 N  s) := by
  unfold bl_X7_settle_57 gkb_X7_settle_57
  refine kt_roomO hB (fun _ => ?_)
  refine kt_call hB (mk_X7_refuse hB.start) (fun r60 ad w H60 S60 hB => ?_)
  dsimp only
  exact kt_ret hB
def gkb_X7_settle_199 (N : Nat)  (s : mt_S) : Option (Int64 × mt_S) :=
  Option.bind (gk_X7_refuse N 5 s) fun q201 =>
  some (q201.1, q201.2)
set_option maxRecDepth 20000 in
set_option maxHeartbeats 4000000 in
theorem mk_bl_X7_settle_199 {X : Nat → Prop} {ad0 ad : Nat → Nat} {w : Nat → Value} {H0 h : ym_H} {S0 s : mt_S} {N : Nat}  (hB : kt_B X ad0 ad w H0 S0 h s) : kt_ok X ad0 H0 S0 (bl_X7_settle_199 N (some (ad0 0)) h) (gkb_X7_settle_199 N  s) := by
  unfold bl_X7_settle_199 gkb_X7_settle_199
  refine kt_roomO hB (fun _ => ?_)
  refine kt_call hB (mk_X7_refuse hB.start) (fun r201 ad w H201 S201 hB => ?_)
  dsimp only
  exact kt_ret hB
def gkb_X7_settle_168 (N : Nat) (w2 : Nat) (w3 : Nat) (w4 : Nat) (w5 : Int64) (w7 : Int64) (w9 : Int64) (s : mt_S) : Option (Int64 × mt_S) :=
  Option.bind (gk_X7_lacksSeller N w2 w5 s) fun q172 =>
  if q172.1 = 0 then
    Option.bind (gk_X7_lacksSeller N w3 w7 q172.2) fun q182 =>
    if q182.1 = 0 then
      Option.bind (gk_X7_lacksSeller N w4 w9 q182.2) fun q193 =>
      if q193.1 = 0 then
        Option.bind (gk_X7_finish N w2 w5 q193.2) fun q209 =>
        Option.bind (gk_X7_finish N w3 w7 q209.2) fun q216 =>
        Option.bind (gk_X7_finish N w4 w9 q216.2) fun q224 =>
        some (((w5 + w7) + w9), q224.2)
      else
        gkb_X7_settle_199 N  q193.2
    else
      gkb_X7_settle_199 N  q182.2
  else
    gkb_X7_settle_199 N  q172.2
set_option maxRecDepth 20000 in
set_option maxHeartbeats 4000000 in
theorem mk_bl_X7_settle_168 {X : Nat → Prop} {ad0 ad : Nat → Nat} {w : Nat → Value} {H0 h : ym_H} {S0 s : mt_S} {N : Nat} {w2 : Nat} {w3 : Nat} {w4 : Nat} {w5 : Int64} {w7 : Int64} {w9 : Int64} (hB : kt_B X ad0 ad w H0 S0 h s) : kt_ok X ad0 H0 S0 (bl_X7_settle_168 N (some (ad0 0)) (some (ad0 (10000 + w2))) (some (ad0 (10000 + w3))) (some (ad0 (10000 + w4))) w5 w7 w9 h) (gkb_X7_settle_168 N w2 w3 w4 w5 w7 w9 s) := by
  unfold bl_X7_settle_168 gkb_X7_settle_168
  refine kt_roomO hB (fun _ => ?_)
  refine kt_call hB (mk_X7_lacksSeller (a1 := w2) hB.start) (fun r172 ad w H172 S172 hB => ?_)
  dsimp only
  refine kt_if (fun _ => ?_) (fun _ => ?_)
  · refine kt_roomO hB (fun _ => ?_)
    refine kt_call hB (mk_X7_lacksSeller (a1 := w3) hB.start) (fun r182 ad w H182 S182 hB => ?_)
    dsimp only
    refine kt_if (fun _ => ?_) (fun _ => ?_)
    · refine kt_roomO hB (fun _ => ?_)
      refine kt_call hB (mk_X7_lacksSeller (a1 := w4) hB.start) (fun r193 ad w H193 S193 hB => ?_)
      dsimp only
      refine kt_if (fun _ => ?_) (fun _ => ?_)
      · refine kt_roomO hB (fun _ => ?_)
        refine kt_call hB (mk_X7_finish (a1 := w2) hB.start) (fun r209 ad w H209 S209 hB => ?_)
        dsimp only
        refine kt_roomO hB (fun _ => ?_)
        refine kt_call hB (mk_X7_finish (a1 := w3) hB.start) (fun r216 ad w H216 S216 hB => ?_)
        dsimp only
        refine kt_roomO hB (fun _ => ?_)
        refine kt_call hB (mk_X7_finish (a1 := w4) hB.start) (fun r224 ad w H224 S224 hB => ?_)
        dsimp only
        exact kt_ret hB
      · exact mk_bl_X7_settle_199 hB
    · exact mk_bl_X7_settle_199 hB
  · exact mk_bl_X7_settle_199 hB
def gk_X7_settle (N : Nat) (a1 : Int32) (s : mt_S) : Option (Int64 × mt_S) :=
  Option.bind (gk_X7_startAct N  s) fun q1 =>
  Option.bind (gk_X7_lotAt N a1 q1.2) fun q6 =>
  match q6.1 with
  | none =>
    Option.bind (gk_X7_whyNoLot N a1 q6.2) fun q16 =>
    Option.bind (gk_X7_refuse N q16.1 q16.2) fun q19 =>
    some (q19.1, q19.2)
  | some l_q6_1 =>
    Option.bind (gk_lot q6.2 l_q6_1) fun _ =>
    Option.bind (gk_X4_partNumber N l_q6_1 12 a1 q6.2) fun q28 =>
    Option.bind (gk_X7_lotAt N q28.1 q28.2) fun q31 =>
    Option.bind (gk_lot q31.2 l_q6_1) fun _ =>
    Option.bind (gk_X4_partNumber N l_q6_1 13 a1 q31.2) fun q40 =>
    Option.bind (gk_X7_lotAt N q40.1 q40.2) fun q43 =>
    match q31.1 with
    | none =>
      gkb_X7_settle_57 N  q43.2
    | some l_q31_1 =>
      match q43.1 with
      | none =>
        gkb_X7_settle_57 N  q43.2
      | some l_q43_1 =>
        Option.bind (gk_lot q43.2 l_q6_1) fun _ =>
        Option.bind (gk_X4_isOpen N l_q6_1 q43.2) fun q65 =>
        if q65.1 = 0 then
          Option.bind (gk_lot q65.2 l_q6_1) fun _ =>
          Option.bind (gk_X4_whyNotOpen N l_q6_1 q65.2) fun q73 =>
          Option.bind (gk_X7_refuse N q73.1 q73.2) fun q76 =>
          some (q76.1, q76.2)
        else
          Option.bind (gk_lot q65.2 l_q31_1) fun _ =>
          Option.bind (gk_X4_isOpen N l_q31_1 q65.2) fun q81 =>
          if q81.1 = 0 then
            Option.bind (gk_lot q81.2 l_q31_1) fun _ =>
            Option.bind (gk_X4_whyNotOpen N l_q31_1 q81.2) fun q89 =>
            Option.bind (gk_X7_refuse N q89.1 q89.2) fun q92 =>
            some (q92.1, q92.2)
          else
            Option.bind (gk_lot q81.2 l_q43_1) fun _ =>
            Option.bind (gk_X4_isOpen N l_q43_1 q81.2) fun q98 =>
            if q98.1 = 0 then
              Option.bind (gk_lot q98.2 l_q43_1) fun _ =>
              Option.bind (gk_X4_whyNotOpen N l_q43_1 q98.2) fun q107 =>
              Option.bind (gk_X7_refuse N q107.1 q107.2) fun q110 =>
              some (q110.1, q110.2)
            else
              Option.bind (gk_X1_bringsIfSold N l_q6_1 q98.2) fun q119 =>
              Option.bind (gk_X1_bringsIfSold N l_q31_1 q119.2) fun q129 =>
              Option.bind (gk_X1_bringsIfSold N l_q43_1 q129.2) fun q140 =>
              if q119.1 ≤ (q129.1 + q140.1) then
                gkb_X7_settle_168 N l_q6_1 l_q31_1 l_q43_1 0 q129.1 q140.1 q140.2
              else
                gkb_X7_settle_168 N l_q6_1 l_q31_1 l_q43_1 q119.1 0 0 q140.2
set_option maxRecDepth 20000 in
set_option maxHeartbeats 4000000 in
theorem mk_X7_settle {X : Nat → Prop} {ad0 ad : Nat → Nat} {w : Nat → Value} {h : ym_H} {s : mt_S} {N : Nat} {a1 : Int32} (hB : kt_B X ad0 ad w h s h s) : kt_ok X ad0 h s (fn_X7_settle N (some (ad0 0)) a1 h) (gk_X7_settle N a1 s) := by
  unfold fn_X7_settle gk_X7_settle
  refine kt_roomO hB (fun _ => ?_)
  refine kt_call hB (mk_X7_startAct hB.start) (fun r1 ad w H1 S1 hB => ?_)
  dsimp only
  refine kt_roomO hB (fun _ => ?_)
  refine kt_callm hB (mk_X7_lotAt hB.start) (fun r6 ad w H6 S6 hB => ?_)
  dsimp only
  cases r6 with
  | none =>
    refine kt_ifT rfl ?_
    try dsimp only [Option.map_some, Option.map_none]
    refine kt_call hB (mk_X7_whyNoLot hB.start) (fun r16 ad w H16 S16 hB => ?_)
    dsimp only
    refine kt_roomO hB (fun _ => ?_)
    refine kt_call hB (mk_X7_refuse hB.start) (fun r19 ad w H19 S19 hB => ?_)
    dsimp only
    exact kt_ret hB
  | some l_q6_1 =>
    refine kt_ifF (Option.some_ne_none _) ?_
    try dsimp only [Option.map_some, Option.map_none]
    refine kt_lotO hB (fun _ _ => ?_)
    refine kt_call hB (mk_X4_partNumber (a0 := l_q6_1) hB.start) (fun r28 ad w H28 S28 hB => ?_)
    dsimp only
    refine kt_roomO hB (fun _ => ?_)
    refine kt_callm hB (mk_X7_lotAt hB.start) (fun r31 ad w H31 S31 hB => ?_)
    dsimp only
    refine kt_lotO hB (fun _ _ => ?_)
    refine kt_call hB (mk_X4_partNumber (a0 := l_q6_1) hB.start) (fun r40 ad w H40 S40 hB => ?_)
    dsimp only
    refine kt_roomO hB (fun _ => ?_)
    refine kt_callm hB (mk_X7_lotAt hB.start) (fun r43 ad w H43 S43 hB => ?_)
    dsimp only
    cases r31 with
    | none =>
      refine kt_ifT rfl ?_
      try dsimp only [Option.map_some, Option.map_none]
      exact mk_bl_X7_settle_57 hB
    | some l_q31_1 =>
      refine kt_ifF (Option.some_ne_none _) ?_
      try dsimp only [Option.map_some, Option.map_none]
      cases r43 with
      | none =>
        refine kt_ifT rfl ?_
        try dsimp only [Option.map_some, Option.map_none]
        exact mk_bl_X7_settle_57 hB
      | some l_q43_1 =>
        refine kt_ifF (Option.some_ne_none _) ?_
        try dsimp only [Option.map_some, Option.map_none]
        refine kt_lotO hB (fun _ _ => ?_)
        refine kt_call hB (mk_X4_isOpen (a0 := l_q6_1) hB.start) (fun r65 ad w H65 S65 hB => ?_)
        dsimp only
        refine kt_if (fun _ => ?_) (fun _ => ?_)
        · refine kt_lotO hB (fun _ _ => ?_)
          refine kt_call hB (mk_X4_whyNotOpen (a0 := l_q6_1) hB.start) (fun r73 ad w H73 S73 hB => ?_)
          dsimp only
          refine kt_roomO hB (fun _ => ?_)
          refine kt_call hB (mk_X7_refuse hB.start) (fun r76 ad w H76 S76 hB => ?_)
          dsimp only
          exact kt_ret hB
        · refine kt_lotO hB (fun _ _ => ?_)
          refine kt_call hB (mk_X4_isOpen (a0 := l_q31_1) hB.start) (fun r81 ad w H81 S81 hB => ?_)
          dsimp only
          refine kt_if (fun _ => ?_) (fun _ => ?_)
          · refine kt_lotO hB (fun _ _ => ?_)
            refine kt_call hB (mk_X4_whyNotOpen (a0 := l_q31_1) hB.start) (fun r89 ad w H89 S89 hB => ?_)
            dsimp only
            refine kt_roomO hB (fun _ => ?_)
            refine kt_call hB (mk_X7_refuse hB.start) (fun r92 ad w H92 S92 hB => ?_)
            dsimp only
            exact kt_ret hB
          · refine kt_lotO hB (fun _ _ => ?_)
            refine kt_call hB (mk_X4_isOpen (a0 := l_q43_1) hB.start) (fun r98 ad w H98 S98 hB => ?_)
            dsimp only
            refine kt_if (fun _ => ?_) (fun _ => ?_)
            · refine kt_lotO hB (fun _ _ => ?_)
              refine kt_call hB (mk_X4_whyNotOpen (a0 := l_q43_1) hB.start) (fun r107 ad w H107 S107 hB => ?_)
              dsimp only
              refine kt_roomO hB (fun _ => ?_)
              refine kt_call hB (mk_X7_refuse hB.start) (fun r110 ad w H110 S110 hB => ?_)
              dsimp only
              exact kt_ret hB
            · refine kt_room4 hB ?_
              refine kt_bodO hB (fun _ => ?_)
              refine kt_call hB (mk_X1_bringsIfSold (a1 := l_q6_1) hB.start) (fun r119 ad w H119 S119 hB => ?_)
              dsimp only
              refine kt_room4 hB ?_
              refine kt_bodO hB (fun _ => ?_)
              refine kt_call hB (mk_X1_bringsIfSold (a1 := l_q31_1) hB.start) (fun r129 ad w H129 S129 hB => ?_)
              dsimp only
              refine kt_room4 hB ?_
              refine kt_bodO hB (fun _ => ?_)
              refine kt_call hB (mk_X1_bringsIfSold (a1 := l_q43_1) hB.start) (fun r140 ad w H140 S140 hB => ?_)
              dsimp only
              refine kt_if (fun _ => ?_) (fun _ => ?_)
              · exact mk_bl_X7_settle_168 (w2 := l_q6_1) (w3 := l_q31_1) (w4 := l_q43_1) hB
              · exact mk_bl_X7_settle_168 (w2 := l_q6_1) (w3 := l_q31_1) (w4 := l_q43_1) hB
def gk_X7_stands (N : Nat) (a1 : Int32) (s : mt_S) : Option (Int32 × mt_S) :=
  Option.bind (gk_X7_lotAt N a1 s) fun q2 =>
  match q2.1 with
  | none =>
    some ((-1), q2.2)
  | some l_q2_1 =>
    Option.bind (gk_lot q2.2 l_q2_1) fun _ =>
    Option.bind (gk_X4_standingBidder N l_q2_1 q2.2) fun q15 =>
    some (q15.1, q15.2)
set_option maxRecDepth 20000 in
set_option maxHeartbeats 4000000 in
theorem mk_X7_stands {X : Nat → Prop} {ad0 ad : Nat → Nat} {w : Nat → Value} {h : ym_H} {s : mt_S} {N : Nat} {a1 : Int32} (hB : kt_B X ad0 ad w h s h s) : kt_ok X ad0 h s (fn_X7_stands N (some (ad0 0)) a1 h) (gk_X7_stands N a1 s) := by
  unfold fn_X7_stands gk_X7_stands
  refine kt_roomO hB (fun _ => ?_)
  refine kt_callm hB (mk_X7_lotAt hB.start) (fun r2 ad w H2 S2 hB => ?_)
  dsimp only
  cases r2 with
  | none =>
    refine kt_ifT rfl ?_
    try dsimp only [Option.map_some, Option.map_none]
    exact kt_ret hB
  | some l_q2_1 =>
    refine kt_ifF (Option.some_ne_none _) ?_
    try dsimp only [Option.map_some, Option.map_none]
    refine kt_lotO hB (fun _ _ => ?_)
    refine kt_call hB (mk_X4_standingBidder (a0 := l_q2_1) hB.start) (fun r15 ad w H15 S15 hB => ?_)
    dsimp only
    exact kt_ret hB
def gk_X7_state (N : Nat) (a1 : Int32) (s : mt_S) : Option (Int32 × mt_S) :=
  Option.bind (gk_X7_lotAt N a1 s) fun q2 =>
  match q2.1 with
  | none =>
    some ((-1), q2.2)
  | some l_q2_1 =>
    Option.bind (gk_lot q2.2 l_q2_1) fun _ =>
    Option.bind (gk_X4_stateNow N l_q2_1 q2.2) fun q15 =>
    some (q15.1, q15.2)
set_option maxRecDepth 20000 in
set_option maxHeartbeats 4000000 in
theorem mk_X7_state {X : Nat → Prop} {ad0 ad : Nat → Nat} {w : Nat → Value} {h : ym_H} {s : mt_S} {N : Nat} {a1 : Int32} (hB : kt_B X ad0 ad w h s h s) : kt_ok X ad0 h s (fn_X7_state N (some (ad0 0)) a1 h) (gk_X7_state N a1 s) := by
  unfold fn_X7_state gk_X7_state
  refine kt_roomO hB (fun _ => ?_)
  refine kt_callm hB (mk_X7_lotAt hB.start) (fun r2 ad w H2 S2 hB => ?_)
  dsimp only
  cases r2 with
  | none =>
    refine kt_ifT rfl ?_
    try dsimp only [Option.map_some, Option.map_none]
    exact kt_ret hB
  | some l_q2_1 =>
    refine kt_ifF (Option.some_ne_none _) ?_
    try dsimp only [Option.map_some, Option.map_none]
    refine kt_lotO hB (fun _ _ => ?_)
    refine kt_call hB (mk_X4_stateNow (a0 := l_q2_1) hB.start) (fun r15 ad w H15 S15 hB => ?_)
    dsimp only
    exact kt_ret hB
def gkb_X7_step_18 (N : Nat)  (s : mt_S) : Option (Int64 × mt_S) :=
  Option.bind (gk_X7_refuse N 1 s) fun q20 =>
  some (q20.1, q20.2)
set_option maxRecDepth 20000 in
set_option maxHeartbeats 4000000 in
theorem mk_bl_X7_step_18 {X : Nat → Prop} {ad0 ad : Nat → Nat} {w : Nat → Value} {H0 h : ym_H} {S0 s : mt_S} {N : Nat}  (hB : kt_B X ad0 ad w H0 S0 h s) : kt_ok X ad0 H0 S0 (bl_X7_step_18 N (some (ad0 0)) h) (gkb_X7_step_18 N  s) := by
  unfold bl_X7_step_18 gkb_X7_step_18
  refine kt_roomO hB (fun _ => ?_)
  refine kt_call hB (mk_X7_refuse hB.start) (fun r20 ad w H20 S20 hB => ?_)
  dsimp only
  exact kt_ret hB
def gk_X7_step (N : Nat) (a1 : Int64) (a3 : Int64) (s : mt_S) : Option (Int64 × mt_S) :=
  Option.bind (gk_X7_startAct N  s) fun q1 =>
  Option.bind (gk_X7_isMoney N a1 q1.2) fun q5 =>
  if q5.1 = 0 then
    gkb_X7_step_18 N  q5.2
  else
    Option.bind (gk_X7_isSum N a3 q5.2) fun q12 =>
    if q12.1 = 0 then
      gkb_X7_step_18 N  q12.2
    else
      Option.bind (gk_X7_addTableRow N 1 a1 a3 q12.2) fun q31 =>
      some (q31.1, q31.2)
set_option maxRecDepth 20000 in
set_option maxHeartbeats 4000000 in
theorem mk_X7_step {X : Nat → Prop} {ad0 ad : Nat → Nat} {w : Nat → Value} {h : ym_H} {s : mt_S} {N : Nat} {a1 : Int64} {a3 : Int64} (hB : kt_B X ad0 ad w h s h s) : kt_ok X ad0 h s (fn_X7_step N (some (ad0 0)) a1 a3 h) (gk_X7_step N a1 a3 s) := by
  unfold fn_X7_step gk_X7_step
  refine kt_roomO hB (fun _ => ?_)
  refine kt_call hB (mk_X7_startAct hB.start) (fun r1 ad w H1 S1 hB => ?_)
  dsimp only
  refine kt_call hB (mk_X7_isMoney hB.start) (fun r5 ad w H5 S5 hB => ?_)
  dsimp only
  refine kt_if (fun _ => ?_) (fun _ => ?_)
  · exact mk_bl_X7_step_18 hB
  · refine kt_call hB (mk_X7_isSum hB.start) (fun r12 ad w H12 S12 hB => ?_)
    dsimp only
    refine kt_if (fun _ => ?_) (fun _ => ?_)
    · exact mk_bl_X7_step_18 hB
    · refine kt_room2 hB ?_
      refine kt_roomO hB (fun _ => ?_)
      refine kt_call hB (mk_X7_addTableRow (a1 := 1) hB.start) (fun r31 ad w H31 S31 hB => ?_)
      dsimp only
      exact kt_ret hB
def gk_X7_sum (N : Nat) (a1 : Int32) (s : mt_S) : Option (Int64 × mt_S) :=
  Option.bind (gk_X7_lotAt N a1 s) fun q2 =>
  match q2.1 with
  | none =>
    some (0, q2.2)
  | some l_q2_1 =>
    Option.bind (gk_lot q2.2 l_q2_1) fun _ =>
    Option.bind (gk_X4_standingSum N l_q2_1 q2.2) fun q15 =>
    some (q15.1, q15.2)
set_option maxRecDepth 20000 in
set_option maxHeartbeats 4000000 in
theorem mk_X7_sum {X : Nat → Prop} {ad0 ad : Nat → Nat} {w : Nat → Value} {h : ym_H} {s : mt_S} {N : Nat} {a1 : Int32} (hB : kt_B X ad0 ad w h s h s) : kt_ok X ad0 h s (fn_X7_sum N (some (ad0 0)) a1 h) (gk_X7_sum N a1 s) := by
  unfold fn_X7_sum gk_X7_sum
  refine kt_roomO hB (fun _ => ?_)
  refine kt_callm hB (mk_X7_lotAt hB.start) (fun r2 ad w H2 S2 hB => ?_)
  dsimp only
  cases r2 with
  | none =>
    refine kt_ifT rfl ?_
    try dsimp only [Option.map_some, Option.map_none]
    exact kt_ret hB
  | some l_q2_1 =>
    refine kt_ifF (Option.some_ne_none _) ?_
    try dsimp only [Option.map_some, Option.map_none]
    refine kt_lotO hB (fun _ _ => ?_)
    refine kt_call hB (mk_X4_standingSum (a0 := l_q2_1) hB.start) (fun r15 ad w H15 S15 hB => ?_)
    dsimp only
    exact kt_ret hB
def gk_X7_sumAt (N : Nat) (a1 : Int32) (a2 : Int32) (s : mt_S) : Option (Int64 × mt_S) :=
  Option.bind (gk_X7_readEntry N a1 a2 1 s) fun q4 =>
  some (q4.1, q4.2)
set_option maxRecDepth 20000 in
set_option maxHeartbeats 4000000 in
theorem mk_X7_sumAt {X : Nat → Prop} {ad0 ad : Nat → Nat} {w : Nat → Value} {h : ym_H} {s : mt_S} {N : Nat} {a1 : Int32} {a2 : Int32} (hB : kt_B X ad0 ad w h s h s) : kt_ok X ad0 h s (fn_X7_sumAt N (some (ad0 0)) a1 a2 h) (gk_X7_sumAt N a1 a2 s) := by
  unfold fn_X7_sumAt gk_X7_sumAt
  refine kt_roomO hB (fun _ => ?_)
  refine kt_call hB (mk_X7_readEntry hB.start) (fun r4 ad w H4 S4 hB => ?_)
  dsimp only
  exact kt_ret hB
def gk_X7_take (N : Nat) (a1 : Int32) (a2 : Int32) (s : mt_S) : Option (Int64 × mt_S) :=
  Option.bind (gk_X7_startAct N  s) fun q1 =>
  Option.bind (gk_X7_lotAt N a1 q1.2) fun q6 =>
  match q6.1 with
  | none =>
    Option.bind (gk_X7_whyNoLot N a1 q6.2) fun q16 =>
    Option.bind (gk_X7_refuse N q16.1 q16.2) fun q19 =>
    some (q19.1, q19.2)
  | some l_q6_1 =>
    Option.bind (gk_lot q6.2 l_q6_1) fun _ =>
    if (q6.2.1 8 l_q6_1) = 5 then
      Option.bind (gk_X7_bidderWith N a2 q6.2) fun q39 =>
      match q39.1 with
      | none =>
        Option.bind (gk_X7_whyNoBidder N a2 q39.2) fun q51 =>
        Option.bind (gk_X7_refuse N q51.1 q51.2) fun q54 =>
        some (q54.1, q54.2)
      | some l_q39_1 =>
        Option.bind (gk_bid q39.2 l_q39_1) fun _ =>
        if (q39.2.1 9 l_q39_1) = 1 then
          Option.bind (gk_lot q39.2 l_q6_1) fun _ =>
          Option.bind (gk_X4_isOpen N l_q6_1 q39.2) fun q74 =>
          if q74.1 = 0 then
            Option.bind (gk_lot q74.2 l_q6_1) fun _ =>
            Option.bind (gk_X4_whyNotOpen N l_q6_1 q74.2) fun q82 =>
            Option.bind (gk_X7_refuse N q82.1 q82.2) fun q85 =>
            some (q85.1, q85.2)
          else
            Option.bind (gk_lot q74.2 l_q6_1) fun _ =>
            Option.bind (gk_X4_standingBidder N l_q6_1 q74.2) fun q90 =>
            if q90.1 = (-1) then
              Option.bind (gk_lot q90.2 l_q6_1) fun _ =>
              Option.bind (gk_cel q90.2 (203 + 4 * l_q6_1)) fun _ =>
              Option.bind (gk_X2_get N (203 + 4 * l_q6_1) 3 q90.2) fun q111 =>
              Option.bind (gk_lot q111.2 l_q6_1) fun _ =>
              Option.bind (gk_X4_enter N l_q6_1 a2 q111.1 q111.2) fun q114 =>
              Option.bind (gk_lot q114.2 l_q6_1) fun _ =>
              Option.bind (gk_cel q114.2 (203 + 4 * l_q6_1)) fun _ =>
              Option.bind (gk_X2_get N (203 + 4 * l_q6_1) 3 q114.2) fun q122 =>
              some (q122.1, q122.2)
            else
              Option.bind (gk_X7_refuse N 8 q90.2) fun q100 =>
              some (q100.1, q100.2)
        else
          Option.bind (gk_X7_refuse N 4 q39.2) fun q69 =>
          some (q69.1, q69.2)
    else
      Option.bind (gk_X7_refuse N 4 q6.2) fun q33 =>
      some (q33.1, q33.2)
set_option maxRecDepth 20000 in
set_option maxHeartbeats 4000000 in
theorem mk_X7_take {X : Nat → Prop} {ad0 ad : Nat → Nat} {w : Nat → Value} {h : ym_H} {s : mt_S} {N : Nat} {a1 : Int32} {a2 : Int32} (hB : kt_B X ad0 ad w h s h s) : kt_ok X ad0 h s (fn_X7_take N (some (ad0 0)) a1 a2 h) (gk_X7_take N a1 a2 s) := by
  unfold fn_X7_take gk_X7_take
  refine kt_roomO hB (fun _ => ?_)
  refine kt_call hB (mk_X7_startAct hB.start) (fun r1 ad w H1 S1 hB => ?_)
  dsimp only
  refine kt_roomO hB (fun _ => ?_)
  refine kt_callm hB (mk_X7_lotAt hB.start) (fun r6 ad w H6 S6 hB => ?_)
  dsimp only
  cases r6 with
  | none =>
    refine kt_ifT rfl ?_
    try dsimp only [Option.map_some, Option.map_none]
    refine kt_call hB (mk_X7_whyNoLot hB.start) (fun r16 ad w H16 S16 hB => ?_)
    dsimp only
    refine kt_roomO hB (fun _ => ?_)
    refine kt_call hB (mk_X7_refuse hB.start) (fun r19 ad w H19 S19 hB => ?_)
    dsimp only
    exact kt_ret hB
  | some l_q6_1 =>
    refine kt_ifF (Option.some_ne_none _) ?_
    try dsimp only [Option.map_some, Option.map_none]
    refine kt_lot0 hB (fun hc24 => ?_)
    refine kt_if (fun _ => ?_) (fun _ => ?_)
    · refine kt_roomO hB (fun _ => ?_)
      refine kt_callm hB (mk_X7_bidderWith hB.start) (fun r39 ad w H39 S39 hB => ?_)
      dsimp only
      cases r39 with
      | none =>
        refine kt_ifT rfl ?_
        try dsimp only [Option.map_some, Option.map_none]
        refine kt_call hB (mk_X7_whyNoBidder hB.start) (fun r51 ad w H51 S51 hB => ?_)
        dsimp only
        refine kt_roomO hB (fun _ => ?_)
        refine kt_call hB (mk_X7_refuse hB.start) (fun r54 ad w H54 S54 hB => ?_)
        dsimp only
        exact kt_ret hB
      | some l_q39_1 =>
        refine kt_ifF (Option.some_ne_none _) ?_
        try dsimp only [Option.map_some, Option.map_none]
        refine kt_bid0 hB (fun hc60 => ?_)
        refine kt_if (fun _ => ?_) (fun _ => ?_)
        · refine kt_lotO hB (fun _ _ => ?_)
          refine kt_call hB (mk_X4_isOpen (a0 := l_q6_1) hB.start) (fun r74 ad w H74 S74 hB => ?_)
          dsimp only
          refine kt_if (fun _ => ?_) (fun _ => ?_)
          · refine kt_lotO hB (fun _ _ => ?_)
            refine kt_call hB (mk_X4_whyNotOpen (a0 := l_q6_1) hB.start) (fun r82 ad w H82 S82 hB => ?_)
            dsimp only
            refine kt_roomO hB (fun _ => ?_)
            refine kt_call hB (mk_X7_refuse hB.start) (fun r85 ad w H85 S85 hB => ?_)
            dsimp only
            exact kt_ret hB
          · refine kt_lotO hB (fun _ _ => ?_)
            refine kt_call hB (mk_X4_standingBidder (a0 := l_q6_1) hB.start) (fun r90 ad w H90 S90 hB => ?_)
            dsimp only
            refine kt_if (fun _ => ?_) (fun _ => ?_)
            · refine kt_lot2 hB (fun hc107 => ?_)
              refine kt_celO hB (fun _ _ => ?_)
              refine kt_call hB (mk_X2_get (a0 := (203 + 4 * l_q6_1)) hB.start) (fun r111 ad w H111 S111 hB => ?_)
              dsimp only
              refine kt_lotO hB (fun _ _ => ?_)
              refine kt_call hB (mk_X4_enter (a0 := l_q6_1) hB.start) (fun r114 ad w H114 S114 hB => ?_)
              dsimp only
              refine kt_lot2 hB (fun hc118 => ?_)
              refine kt_celO hB (fun _ _ => ?_)
              refine kt_call hB (mk_X2_get (a0 := (203 + 4 * l_q6_1)) hB.start) (fun r122 ad w H122 S122 hB => ?_)
              dsimp only
              exact kt_ret hB
            · refine kt_roomO hB (fun _ => ?_)
              refine kt_call hB (mk_X7_refuse hB.start) (fun r100 ad w H100 S100 hB => ?_)
              dsimp only
              exact kt_ret hB
        · refine kt_roomO hB (fun _ => ?_)
          refine kt_call hB (mk_X7_refuse hB.start) (fun r69 ad w H69 S69 hB => ?_)
          dsimp only
          exact kt_ret hB
    · refine kt_roomO hB (fun _ => ?_)
      refine kt_call hB (mk_X7_refuse hB.start) (fun r33 ad w H33 S33 hB => ?_)
      dsimp only
      exact kt_ret hB
def gkb_X7_tax_21 (N : Nat)  (s : mt_S) : Option (Int64 × mt_S) :=
  Option.bind (gk_X7_refuse N 1 s) fun q23 =>
  some (q23.1, q23.2)
set_option maxRecDepth 20000 in
set_option maxHeartbeats 4000000 in
theorem mk_bl_X7_tax_21 {X : Nat → Prop} {ad0 ad : Nat → Nat} {w : Nat → Value} {H0 h : ym_H} {S0 s : mt_S} {N : Nat}  (hB : kt_B X ad0 ad w H0 S0 h s) : kt_ok X ad0 H0 S0 (bl_X7_tax_21 N (some (ad0 0)) h) (gkb_X7_tax_21 N  s) := by
  unfold bl_X7_tax_21 gkb_X7_tax_21
  refine kt_roomO hB (fun _ => ?_)
  refine kt_call hB (mk_X7_refuse hB.start) (fun r23 ad w H23 S23 hB => ?_)
  dsimp only
  exact kt_ret hB
def gk_X7_tax (N : Nat) (a1 : Int32) (a2 : Int32) (s : mt_S) : Option (Int64 × mt_S) :=
  Option.bind (gk_X7_startAct N  s) fun q1 =>
  if a1 < 1 then
    gkb_X7_tax_21 N  q1.2
  else
    if 5 < a1 then
      gkb_X7_tax_21 N  q1.2
    else
      Option.bind (gk_X7_isRate N a2 q1.2) fun q15 =>
      if q15.1 = 0 then
        gkb_X7_tax_21 N  q15.2
      else
        Option.bind (gk_cel q15.2 0) fun _ =>
        Option.bind (gk_X2_get N 0 (5 + a1) q15.2) fun q34 =>
        Option.bind (gk_cel q34.2 0) fun _ =>
        Option.bind (gk_X2_put N 0 (5 + a1) (Int32.toInt64 a2) q34.2) fun q47 =>
        some (q34.1, q47.2)
set_option maxRecDepth 20000 in
set_option maxHeartbeats 4000000 in
theorem mk_X7_tax {X : Nat → Prop} {ad0 ad : Nat → Nat} {w : Nat → Value} {h : ym_H} {s : mt_S} {N : Nat} {a1 : Int32} {a2 : Int32} (hB : kt_B X ad0 ad w h s h s) : kt_ok X ad0 h s (fn_X7_tax N (some (ad0 0)) a1 a2 h) (gk_X7_tax N a1 a2 s) := by
  unfold fn_X7_tax gk_X7_tax
  refine kt_roomO hB (fun _ => ?_)
  refine kt_call hB (mk_X7_startAct hB.start) (fun r1 ad w H1 S1 hB => ?_)
  dsimp only
  refine kt_if (fun _ => ?_) (fun _ => ?_)
  · exact mk_bl_X7_tax_21 hB
  · refine kt_if (fun _ => ?_) (fun _ => ?_)
    · exact mk_bl_X7_tax_21 hB
    · refine kt_call hB (mk_X7_isRate hB.start) (fun r15 ad w H15 S15 hB => ?_)
      dsimp only
      refine kt_if (fun _ => ?_) (fun _ => ?_)
      · exact mk_bl_X7_tax_21 hB
      · refine kt_room1 hB ?_
        refine kt_celO hB (fun _ _ => ?_)
        refine kt_call hB (mk_X2_get (a0 := 0) hB.start) (fun r34 ad w H34 S34 hB => ?_)
        dsimp only
        refine kt_room1 hB ?_
        refine kt_celO hB (fun _ _ => ?_)
        refine kt_call hB (mk_X2_put (a0 := 0) hB.start) (fun r47 ad w H47 S47 hB => ?_)
        dsimp only
        exact kt_ret hB
def gk_X7_tick (N : Nat) (a1 : Int32) (a2 : Int64) (s : mt_S) : Option (Int64 × mt_S) :=
  Option.bind (gk_X7_startAct N  s) fun q1 =>
  Option.bind (gk_X7_isSum N a2 q1.2) fun q5 =>
  if q5.1 = 0 then
    Option.bind (gk_X7_refuse N 1 q5.2) fun q13 =>
    some (q13.1, q13.2)
  else
    Option.bind (gk_X7_lotAt N a1 q5.2) fun q19 =>
    match q19.1 with
    | none =>
      Option.bind (gk_X7_whyNoLot N a1 q19.2) fun q31 =>
      Option.bind (gk_X7_refuse N q31.1 q31.2) fun q34 =>
      some (q34.1, q34.2)
    | some l_q19_1 =>
      Option.bind (gk_lot q19.2 l_q19_1) fun _ =>
      if (q19.2.1 8 l_q19_1) = 5 then
        Option.bind (gk_lot q19.2 l_q19_1) fun _ =>
        Option.bind (gk_X4_isOpen N l_q19_1 q19.2) fun q55 =>
        if q55.1 = 0 then
          Option.bind (gk_lot q55.2 l_q19_1) fun _ =>
          Option.bind (gk_X4_whyNotOpen N l_q19_1 q55.2) fun q64 =>
          Option.bind (gk_X7_refuse N q64.1 q64.2) fun q67 =>
          some (q67.1, q67.2)
        else
          Option.bind (gk_lot q55.2 l_q19_1) fun _ =>
          Option.bind (gk_X4_standingBidder N l_q19_1 q55.2) fun q73 =>
          if q73.1 = (-1) then
            Option.bind (gk_lot q73.2 l_q19_1) fun _ =>
            Option.bind (gk_lot q73.2 l_q19_1) fun _ =>
            Option.bind (gk_cel q73.2 (203 + 4 * l_q19_1)) fun _ =>
            Option.bind (gk_X2_get N (203 + 4 * l_q19_1) 3 q73.2) fun q104 =>
            if (if 1 < (q73.2.2.1 20 l_q19_1) then (q73.2.2.1 20 l_q19_1) else 1) < q104.1 then
              Option.bind (gk_lot q104.2 l_q19_1) fun _ =>
              Option.bind (gk_cel q104.2 (203 + 4 * l_q19_1)) fun _ =>
              Option.bind (gk_X2_put N (203 + 4 * l_q19_1) 3 (if (if 1 < (q73.2.2.1 20 l_q19_1) then (q73.2.2.1 20 l_q19_1) else 1) < (q104.1 - a2) then (q104.1 - a2) else (if 1 < (q73.2.2.1 20 l_q19_1) then (q73.2.2.1 20 l_q19_1) else 1)) q104.2) fun q139 =>
              Option.bind (gk_lot q139.2 l_q19_1) fun _ =>
              Option.bind (gk_cel q139.2 (203 + 4 * l_q19_1)) fun _ =>
              Option.bind (gk_X2_get N (203 + 4 * l_q19_1) 3 q139.2) fun q148 =>
              some (q148.1, q148.2)
            else
              Option.bind (gk_X7_refuse N 10 q104.2) fun q120 =>
              some (q120.1, q120.2)
          else
            Option.bind (gk_X7_refuse N 8 q73.2) fun q83 =>
            some (q83.1, q83.2)
      else
        Option.bind (gk_X7_refuse N 4 q19.2) fun q49 =>
        some (q49.1, q49.2)
set_option maxRecDepth 20000 in
set_option maxHeartbeats 4000000 in
theorem mk_X7_tick {X : Nat → Prop} {ad0 ad : Nat → Nat} {w : Nat → Value} {h : ym_H} {s : mt_S} {N : Nat} {a1 : Int32} {a2 : Int64} (hB : kt_B X ad0 ad w h s h s) : kt_ok X ad0 h s (fn_X7_tick N (some (ad0 0)) a1 a2 h) (gk_X7_tick N a1 a2 s) := by
  unfold fn_X7_tick gk_X7_tick
  refine kt_roomO hB (fun _ => ?_)
  refine kt_call hB (mk_X7_startAct hB.start) (fun r1 ad w H1 S1 hB => ?_)
  dsimp only
  refine kt_call hB (mk_X7_isSum hB.start) (fun r5 ad w H5 S5 hB => ?_)
  dsimp only
  refine kt_if (fun _ => ?_) (fun _ => ?_)
  · refine kt_roomO hB (fun _ => ?_)
    refine kt_call hB (mk_X7_refuse hB.start) (fun r13 ad w H13 S13 hB => ?_)
    dsimp only
    exact kt_ret hB
  · refine kt_roomO hB (fun _ => ?_)
    refine kt_callm hB (mk_X7_lotAt hB.start) (fun r19 ad w H19 S19 hB => ?_)
    dsimp only
    cases r19 with
    | none =>
      refine kt_ifT rfl ?_
      try dsimp only [Option.map_some, Option.map_none]
      refine kt_call hB (mk_X7_whyNoLot hB.start) (fun r31 ad w H31 S31 hB => ?_)
      dsimp only
      refine kt_roomO hB (fun _ => ?_)
      refine kt_call hB (mk_X7_refuse hB.start) (fun r34 ad w H34 S34 hB => ?_)
      dsimp only
      exact kt_ret hB
    | some l_q19_1 =>
      refine kt_ifF (Option.some_ne_none _) ?_
      try dsimp only [Option.map_some, Option.map_none]
      refine kt_lot0 hB (fun hc40 => ?_)
      refine kt_if (fun _ => ?_) (fun _ => ?_)
      · refine kt_lotO hB (fun _ _ => ?_)
        refine kt_call hB (mk_X4_isOpen (a0 := l_q19_1) hB.start) (fun r55 ad w H55 S55 hB => ?_)
        dsimp only
        refine kt_if (fun _ => ?_) (fun _ => ?_)
        · refine kt_lotO hB (fun _ _ => ?_)
          refine kt_call hB (mk_X4_whyNotOpen (a0 := l_q19_1) hB.start) (fun r64 ad w H64 S64 hB => ?_)
          dsimp only
          refine kt_roomO hB (fun _ => ?_)
          refine kt_call hB (mk_X7_refuse hB.start) (fun r67 ad w H67 S67 hB => ?_)
          dsimp only
          exact kt_ret hB
        · refine kt_lotO hB (fun _ _ => ?_)
          refine kt_call hB (mk_X4_standingBidder (a0 := l_q19_1) hB.start) (fun r73 ad w H73 S73 hB => ?_)
          dsimp only
          refine kt_if (fun _ => ?_) (fun _ => ?_)
          · refine kt_lot1 hB (fun hc89 => ?_)
            refine kt_lot2 hB (fun hc100 => ?_)
            refine kt_celO hB (fun _ _ => ?_)
            refine kt_call hB (mk_X2_get (a0 := (203 + 4 * l_q19_1)) hB.start) (fun r104 ad w H104 S104 hB => ?_)
            dsimp only
            refine kt_if (fun _ => ?_) (fun _ => ?_)
            · refine kt_lot2 hB (fun hc126 => ?_)
              refine kt_celO hB (fun _ _ => ?_)
              refine kt_call hB (mk_X2_put (a0 := (203 + 4 * l_q19_1)) hB.start) (fun r139 ad w H139 S139 hB => ?_)
              dsimp only
              refine kt_lot2 hB (fun hc144 => ?_)
              refine kt_celO hB (fun _ _ => ?_)
              refine kt_call hB (mk_X2_get (a0 := (203 + 4 * l_q19_1)) hB.start) (fun r148 ad w H148 S148 hB => ?_)
              dsimp only
              exact kt_ret hB
            · refine kt_roomO hB (fun _ => ?_)
              refine kt_call hB (mk_X7_refuse hB.start) (fun r120 ad w H120 S120 hB => ?_)
              dsimp only
              exact kt_ret hB
          · refine kt_roomO hB (fun _ => ?_)
            refine kt_call hB (mk_X7_refuse hB.start) (fun r83 ad w H83 S83 hB => ?_)
            dsimp only
            exact kt_ret hB
      · refine kt_roomO hB (fun _ => ?_)
        refine kt_call hB (mk_X7_refuse hB.start) (fun r49 ad w H49 S49 hB => ?_)
        dsimp only
        exact kt_ret hB
def gkl_X7_total_35 (Kl : Int64 → Int32 → Int32 → mt_S → Option ((Int64) × mt_S)) (N : Nat) (w1 : Int64) (w3 : Int32) (w4 : Int32) (s : mt_S) : Option ((Int64) × mt_S) :=
  if w3 ≤ w4 then
    some (w1, s)
  else
    Option.bind (gk_X7_balance N w4 s) fun q45 =>
    Kl (w1 + q45.1) w3 (w4 + 1) q45.2
set_option maxRecDepth 20000 in
set_option maxHeartbeats 4000000 in
theorem mk_lb_X7_total_35 {X : Nat → Prop} {ad0 ad : Nat → Nat} {w : Nat → Value} {H0 h : ym_H} {S0 s : mt_S} {K : Option Nat → Int64 → Int32 → Int32 → ym_H → Option ((Int64) × ym_H)} {Kl : Int64 → Int32 → Int32 → mt_S → Option ((Int64) × mt_S)} (hKl : ∀ (w1 : Int64) (w3 : Int32) (w4 : Int32) (ad : Nat → Nat) (w : Nat → Value) (h : ym_H) (s : mt_S), kt_B X ad0 ad w H0 S0 h s → kt_ok X ad0 H0 S0 (K (some (ad0 0)) w1 w3 w4 h) (Kl w1 w3 w4 s)) {N : Nat} {w1 : Int64} {w3 : Int32} {w4 : Int32} (hB : kt_B X ad0 ad w H0 S0 h s) : kt_ok X ad0 H0 S0 (lb_X7_total_35 K N (some (ad0 0)) w1 w3 w4 h) (gkl_X7_total_35 Kl N w1 w3 w4 s) := by
  unfold lb_X7_total_35 gkl_X7_total_35
  refine kt_if (fun _ => ?_) (fun _ => ?_)
  · exact kt_ret hB
  · refine kt_roomO hB (fun _ => ?_)
    refine kt_call hB (mk_X7_balance hB.start) (fun r45 ad w H45 S45 hB => ?_)
    dsimp only
    exact hKl _ _ _ _ _ _ _ hB
def gkp_X7_total_35 (N : Nat) : Nat → Int64 → Int32 → Int32 → mt_S → Option ((Int64) × mt_S)
  | 0, _, _, _, _ => none
  | n + 1, w1, w3, w4, s => gkl_X7_total_35 (gkp_X7_total_35 N n) N w1 w3 w4 s
theorem mk_lp_X7_total_35 {X : Nat → Prop} {ad0 : Nat → Nat} {H0 : ym_H} {S0 : mt_S} {N : Nat} : ∀ (n : Nat) (ad : Nat → Nat) (w : Nat → Value) (h : ym_H) (s : mt_S) (w1 : Int64) (w3 : Int32) (w4 : Int32), kt_B X ad0 ad w H0 S0 h s → kt_ok X ad0 H0 S0 (lp_X7_total_35 N n (some (ad0 0)) w1 w3 w4 h) (gkp_X7_total_35 N n w1 w3 w4 s) := by
  intro n
  induction n with
  | zero => intro ad w h s w1 w3 w4 hB; exact kt_no
  | succ n ih =>
    intro ad w h s w1 w3 w4 hB
    exact mk_lb_X7_total_35 (fun w1 w3 w4 ad w h s hB => ih ad w h s w1 w3 w4 hB) hB
def gk_X7_total (N : Nat)  (s : mt_S) : Option (Int64 × mt_S) :=
  Option.bind (gk_cel s 0) fun _ =>
  Option.bind (gk_X2_get N 0 2 s) fun q5 =>
  Option.bind (gk_cel q5.2 0) fun _ =>
  Option.bind (gk_X2_get N 0 3 q5.2) fun q13 =>
  Option.bind (gk_cel q13.2 0) fun _ =>
  Option.bind (gk_X2_get N 0 4 q13.2) fun q22 =>
  Option.bind (gk_X7_biddersMade N  q22.2) fun q28 =>
  Option.bind (gkp_X7_total_35 N N ((q5.1 + q13.1) + q22.1) q28.1 0 q28.2) fun q35 =>
  some (q35.1, q35.2)
set_option maxRecDepth 20000 in
set_option maxHeartbeats 4000000 in
theorem mk_X7_total {X : Nat → Prop} {ad0 ad : Nat → Nat} {w : Nat → Value} {h : ym_H} {s : mt_S} {N : Nat}  (hB : kt_B X ad0 ad w h s h s) : kt_ok X ad0 h s (fn_X7_total N (some (ad0 0)) h) (gk_X7_total N  s) := by
  unfold fn_X7_total gk_X7_total
  refine kt_room1 hB ?_
  refine kt_celO hB (fun _ _ => ?_)
  refine kt_call hB (mk_X2_get (a0 := 0) hB.start) (fun r5 ad w H5 S5 hB => ?_)
  dsimp only
  refine kt_room1 hB ?_
  refine kt_celO hB (fun _ _ => ?_)
  refine kt_call hB (mk_X2_get (a0 := 0) hB.start) (fun r13 ad w H13 S13 hB => ?_)
  dsimp only
  refine kt_room1 hB ?_
  refine kt_celO hB (fun _ _ => ?_)
  refine kt_call hB (mk_X2_get (a0 := 0) hB.start) (fun r22 ad w H22 S22 hB => ?_)
  dsimp only
  refine kt_roomO hB (fun _ => ?_)
  refine kt_call hB (mk_X7_biddersMade hB.start) (fun r28 ad w H28 S28 hB => ?_)
  dsimp only
  refine kt_call hB (mk_lp_X7_total_35 N _ _ _ _ _ _ _ hB.start) (fun r35 ad w H35 S35 hB => ?_)
  dsimp only
  exact kt_ret hB
def gk_X7_trace (N : Nat) (a1 : Int32) (s : mt_S) : Option (Int32 × mt_S) :=
  Option.bind (gk_X1_ranAt N a1 s) fun q5 =>
  some (q5.1, q5.2)
set_option maxRecDepth 20000 in
set_option maxHeartbeats 4000000 in
theorem mk_X7_trace {X : Nat → Prop} {ad0 ad : Nat → Nat} {w : Nat → Value} {h : ym_H} {s : mt_S} {N : Nat} {a1 : Int32} (hB : kt_B X ad0 ad w h s h s) : kt_ok X ad0 h s (fn_X7_trace N (some (ad0 0)) a1 h) (gk_X7_trace N a1 s) := by
  unfold fn_X7_trace gk_X7_trace
  refine kt_room4 hB ?_
  refine kt_bodO hB (fun _ => ?_)
  refine kt_call hB (mk_X1_ranAt hB.start) (fun r5 ad w H5 S5 hB => ?_)
  dsimp only
  exact kt_ret hB
def gk_X7_tries (N : Nat)  (s : mt_S) : Option (Int32 × mt_S) :=
  some ((s.1 1 0), s)
set_option maxRecDepth 20000 in
set_option maxHeartbeats 4000000 in
theorem mk_X7_tries {X : Nat → Prop} {ad0 ad : Nat → Nat} {w : Nat → Value} {h : ym_H} {s : mt_S} {N : Nat}  (hB : kt_B X ad0 ad w h s h s) : kt_ok X ad0 h s (fn_X7_tries N (some (ad0 0)) h) (gk_X7_tries N  s) := by
  unfold fn_X7_tries gk_X7_tries
  refine kt_room8 hB ?_
  exact kt_ret hB
def gk_X7_undo (N : Nat)  (s : mt_S) : Option (Int64 × mt_S) :=
  Option.bind (gk_X7_startAct N  s) fun q1 =>
  Option.bind (gk_X3_depth N  q1.2) fun q8 =>
  if q8.1 = 0 then
    Option.bind (gk_X7_refuse N 14 q8.2) fun q17 =>
    some (q17.1, q17.2)
  else
    Option.bind (gk_X3_takeBackBatch N  q8.2) fun q25 =>
    Option.bind (gk_X3_depth N  q25.2) fun q32 =>
    some ((Int32.toInt64 q32.1), q32.2)
set_option maxRecDepth 20000 in
set_option maxHeartbeats 4000000 in
theorem mk_X7_undo {X : Nat → Prop} {ad0 ad : Nat → Nat} {w : Nat → Value} {h : ym_H} {s : mt_S} {N : Nat}  (hB : kt_B X ad0 ad w h s h s) : kt_ok X ad0 h s (fn_X7_undo N (some (ad0 0)) h) (gk_X7_undo N  s) := by
  unfold fn_X7_undo gk_X7_undo
  refine kt_roomO hB (fun _ => ?_)
  refine kt_call hB (mk_X7_startAct hB.start) (fun r1 ad w H1 S1 hB => ?_)
  dsimp only
  refine kt_room0 hB ?_
  refine kt_jourO hB (fun _ => ?_)
  refine kt_call hB (mk_X3_depth hB.start) (fun r8 ad w H8 S8 hB => ?_)
  dsimp only
  refine kt_if (fun _ => ?_) (fun _ => ?_)
  · refine kt_roomO hB (fun _ => ?_)
    refine kt_call hB (mk_X7_refuse hB.start) (fun r17 ad w H17 S17 hB => ?_)
    dsimp only
    exact kt_ret hB
  · refine kt_room0 hB ?_
    refine kt_jourO hB (fun _ => ?_)
    refine kt_call hB (mk_X3_takeBackBatch hB.start) (fun r25 ad w H25 S25 hB => ?_)
    dsimp only
    refine kt_room0 hB ?_
    refine kt_jourO hB (fun _ => ?_)
    refine kt_call hB (mk_X3_depth hB.start) (fun r32 ad w H32 S32 hB => ?_)
    dsimp only
    exact kt_ret hB
def gk_X7_why (N : Nat)  (s : mt_S) : Option (Int32 × mt_S) :=
  some ((s.1 2 0), s)
set_option maxRecDepth 20000 in
set_option maxHeartbeats 4000000 in
theorem mk_X7_why {X : Nat → Prop} {ad0 ad : Nat → Nat} {w : Nat → Value} {h : ym_H} {s : mt_S} {N : Nat}  (hB : kt_B X ad0 ad w h s h s) : kt_ok X ad0 h s (fn_X7_why N (some (ad0 0)) h) (gk_X7_why N  s) := by
  unfold fn_X7_why gk_X7_why
  refine kt_room9 hB ?_
  exact kt_ret hB
