def gk_X7_end (N : Nat)  (s : mt_S) : Option (Int64 × mt_S) :=
  Option.bind (gk_X7_startAct N  s) fun q1 =>
  Option.bind (gk_X3_depth N  q1.2) fun q8 =>
  if q8.1 = 0 then
    Option.bind (gk_X7_refuse N 14 q8.2) fun q17 =>
    some (q17.1, q17.2)
  else
    Option.bind (gk_X3_keepBatch N  q8.2) fun q25 =>
    Option.bind (gk_X3_depth N  q25.2) fun q32 =>
    some ((Int32.toInt64 q32.1), q32.2)
set_option maxRecDepth 20000 in
set_option maxHeartbeats 4000000 in
theorem mk_X7_end {X : Nat → Prop} {ad0 ad : Nat → Nat} {w : Nat → Value} {h : ym_H} {s : mt_S} {N : Nat}  (hB : kt_B X ad0 ad w h s h s) : kt_ok X ad0 h s (fn_X7_end N (some (ad0 0)) h) (gk_X7_end N  s) := by
  unfold fn_X7_end gk_X7_end
  refine kt_roomO hB (fun _ => ?_)
  refine kt_call hB (mk_X7_startAct hB.start) (fun r1 ad w H1 S1 hB => ?_)
  dsimp only
  refine kt_room0 hB ?_
  refine kt_jourO hB (fun _ => ?_)
  refine kt_call hB (mk_X3_depth hB.start) (fun r8 ad w H8 S8 hB => ?_)
  dsimp only
  refine kt_if (fun _ => ?_) (fun _ => ?_)
  · refine kt_roomO hB (fun _ => ?_)
    refine kt_call hB (mk_X7_refuse hB.start) (fun r17 ad w H17 S17 hB => ?_)
    dsimp only
    exact kt_ret hB
  · refine kt_room0 hB ?_
    refine kt_jourO hB (fun _ => ?_)
    refine kt_call hB (mk_X3_keepBatch hB.start) (fun r25 ad w H25 S25 hB => ?_)
    dsimp only
    refine kt_room0 hB ?_
    refine kt_jourO hB (fun _ => ?_)
    refine kt_call hB (mk_X3_depth hB.start) (fun r32 ad w H32 S32 hB => ?_)
    dsimp only
    exact kt_ret hB
def gkb_X7_evenCents_54 (N : Nat) (w2 : Int64) (s0 : Int32) (s : mt_S) : Option (Int64 × mt_S) :=
  if s0 = 0 then
    some (w2, s)
  else
    some ((w2 + 1), s)
set_option maxRecDepth 20000 in
set_option maxHeartbeats 4000000 in
theorem mk_bl_X7_evenCents_54 {X : Nat → Prop} {ad0 ad : Nat → Nat} {w : Nat → Value} {H0 h : ym_H} {S0 s : mt_S} {N : Nat} {w2 : Int64} {s0 : Int32} (hB : kt_B X ad0 ad w H0 S0 h s) : kt_ok X ad0 H0 S0 (bl_X7_evenCents_54 N w2 s0 h) (gkb_X7_evenCents_54 N w2 s0 s) := by
  unfold bl_X7_evenCents_54 gkb_X7_evenCents_54
  refine kt_if (fun _ => ?_) (fun _ => ?_)
  · exact kt_ret hB
  · exact kt_ret hB
def gkb_X7_evenCents_49 (N : Nat) (w2 : Int64) (s : mt_S) : Option (Int64 × mt_S) :=
  gkb_X7_evenCents_54 N w2 1 s
set_option maxRecDepth 20000 in
set_option maxHeartbeats 4000000 in
theorem mk_bl_X7_evenCents_49 {X : Nat → Prop} {ad0 ad : Nat → Nat} {w : Nat → Value} {H0 h : ym_H} {S0 s : mt_S} {N : Nat} {w2 : Int64} (hB : kt_B X ad0 ad w H0 S0 h s) : kt_ok X ad0 H0 S0 (bl_X7_evenCents_49 N w2 h) (gkb_X7_evenCents_49 N w2 s) := by
  unfold bl_X7_evenCents_49 gkb_X7_evenCents_49
  exact mk_bl_X7_evenCents_54 hB
def gkb_X7_evenCents_53 (N : Nat) (w2 : Int64) (s : mt_S) : Option (Int64 × mt_S) :=
  gkb_X7_evenCents_54 N w2 0 s
set_option maxRecDepth 20000 in
set_option maxHeartbeats 4000000 in
theorem mk_bl_X7_evenCents_53 {X : Nat → Prop} {ad0 ad : Nat → Nat} {w : Nat → Value} {H0 h : ym_H} {S0 s : mt_S} {N : Nat} {w2 : Int64} (hB : kt_B X ad0 ad w H0 S0 h s) : kt_ok X ad0 H0 S0 (bl_X7_evenCents_53 N w2 h) (gkb_X7_evenCents_53 N w2 s) := by
  unfold bl_X7_evenCents_53 gkb_X7_evenCents_53
  exact mk_bl_X7_evenCents_54 hB
def gk_X7_evenCents (N : Nat) (a0 : Int64) (s : mt_S) : Option (Int64 × mt_S) :=
  if 10000 < (2 * (a0 - a0 / 10000 * 10000)) then
    gkb_X7_evenCents_49 N (a0 / 10000) s
  else
    if (2 * (a0 - a0 / 10000 * 10000)) = 10000 then
      if ((a0 / 10000) - (a0 / 10000) / 2 * 2) = 0 then
        gkb_X7_evenCents_53 N (a0 / 10000) s
      else
        gkb_X7_evenCents_49 N (a0 / 10000) s
    else
      gkb_X7_evenCents_53 N (a0 / 10000) s
set_option maxRecDepth 20000 in
set_option maxHeartbeats 4000000 in
theorem mk_X7_evenCents {X : Nat → Prop} {ad0 ad : Nat → Nat} {w : Nat → Value} {h : ym_H} {s : mt_S} {N : Nat} {a0 : Int64} (hB : kt_B X ad0 ad w h s h s) : kt_ok X ad0 h s (fn_X7_evenCents N a0 h) (gk_X7_evenCents N a0 s) := by
  unfold fn_X7_evenCents gk_X7_evenCents
  refine kt_if (fun _ => ?_) (fun _ => ?_)
  · exact mk_bl_X7_evenCents_49 hB
  · refine kt_if (fun _ => ?_) (fun _ => ?_)
    · refine kt_if (fun _ => ?_) (fun _ => ?_)
      · exact mk_bl_X7_evenCents_53 hB
      · exact mk_bl_X7_evenCents_49 hB
    · exact mk_bl_X7_evenCents_53 hB
def gkb_X7_shareOut_63_29 (Kl : Nat → Int32 → Int64 → Int64 → Int32 → mt_S → Option ((Unit) × mt_S)) (N : Nat) (w1 : Nat) (w4 : Int32) (w5 : Int64) (w7 : Int64) (w9 : Int32) (s0 : Int64) (s1 : Int32) (s : mt_S) : Option ((Unit) × mt_S) :=
  Option.bind (gk_X7_bookToBidder N s1 s0 s) fun q63 =>
  Kl w1 w4 w5 w7 (w9 + 1) q63.2
set_option maxRecDepth 20000 in
set_option maxHeartbeats 4000000 in
theorem mk_bl_X7_shareOut_63_29 {X : Nat → Prop} {ad0 ad : Nat → Nat} {w : Nat → Value} {H0 h : ym_H} {S0 s : mt_S} {K : Option Nat → Option Nat → Int32 → Int64 → Int64 → Int32 → ym_H → Option ((Unit) × ym_H)} {Kl : Nat → Int32 → Int64 → Int64 → Int32 → mt_S → Option ((Unit) × mt_S)} (hKl : ∀ (w1 : Nat) (w4 : Int32) (w5 : Int64) (w7 : Int64) (w9 : Int32) (ad : Nat → Nat) (w : Nat → Value) (h : ym_H) (s : mt_S), kt_B X ad0 ad w H0 S0 h s → kt_ok X ad0 H0 S0 (K (some (ad0 0)) (some (ad0 (7000 + w1))) w4 w5 w7 w9 h) (Kl w1 w4 w5 w7 w9 s)) {N : Nat} {w1 : Nat} {w4 : Int32} {w5 : Int64} {w7 : Int64} {w9 : Int32} {s0 : Int64} {s1 : Int32} (hB : kt_B X ad0 ad w H0 S0 h s) : kt_ok X ad0 H0 S0 (bl_X7_shareOut_63_29 K N (some (ad0 0)) (some (ad0 (7000 + w1))) w4 w5 w7 w9 s0 s1 (some (ad0 0)) h) (gkb_X7_shareOut_63_29 Kl N w1 w4 w5 w7 w9 s0 s1 s) := by
  unfold bl_X7_shareOut_63_29 gkb_X7_shareOut_63_29
  refine kt_roomO hB (fun _ => ?_)
  refine kt_call hB (mk_X7_bookToBidder hB.start) (fun r63 ad w H63 S63 hB => ?_)
  dsimp only
  exact hKl w1 _ _ _ _ _ _ _ _ hB
def gkl_X7_shareOut_29 (Kl : Nat → Int32 → Int64 → Int64 → Int32 → mt_S → Option ((Unit) × mt_S)) (N : Nat) (w1 : Nat) (w4 : Int32) (w5 : Int64) (w7 : Int64) (w9 : Int32) (s : mt_S) : Option ((Unit) × mt_S) :=
  if w4 ≤ w9 then
    some ((), s)
  else
    Option.bind (gk_she s w1) fun _ =>
    Option.bind (gk_X5_at N w1 w9 0 s) fun q41 =>
    if w7 ≤ (Int32.toInt64 w9) then
      gkb_X7_shareOut_63_29 Kl N w1 w4 w5 w7 w9 w5 (Int64.toInt32 q41.1) q41.2
    else
      gkb_X7_shareOut_63_29 Kl N w1 w4 w5 w7 w9 (w5 + 1) (Int64.toInt32 q41.1) q41.2
set_option maxRecDepth 20000 in
set_option maxHeartbeats 4000000 in
theorem mk_lb_X7_shareOut_29 {X : Nat → Prop} {ad0 ad : Nat → Nat} {w : Nat → Value} {H0 h : ym_H} {S0 s : mt_S} {K : Option Nat → Option Nat → Int32 → Int64 → Int64 → Int32 → ym_H → Option ((Unit) × ym_H)} {Kl : Nat → Int32 → Int64 → Int64 → Int32 → mt_S → Option ((Unit) × mt_S)} (hKl : ∀ (w1 : Nat) (w4 : Int32) (w5 : Int64) (w7 : Int64) (w9 : Int32) (ad : Nat → Nat) (w : Nat → Value) (h : ym_H) (s : mt_S), kt_B X ad0 ad w H0 S0 h s → kt_ok X ad0 H0 S0 (K (some (ad0 0)) (some (ad0 (7000 + w1))) w4 w5 w7 w9 h) (Kl w1 w4 w5 w7 w9 s)) {N : Nat} {w1 : Nat} {w4 : Int32} {w5 : Int64} {w7 : Int64} {w9 : Int32} (hB : kt_B X ad0 ad w H0 S0 h s) : kt_ok X ad0 H0 S0 (lb_X7_shareOut_29 K N (some (ad0 0)) (some (ad0 (7000 + w1))) w4 w5 w7 w9 h) (gkl_X7_shareOut_29 Kl N w1 w4 w5 w7 w9 s) := by
  unfold lb_X7_shareOut_29 gkl_X7_shareOut_29
  refine kt_if (fun _ => ?_) (fun _ => ?_)
  · exact kt_ret hB
  · refine kt_sheO hB (fun _ _ => ?_)
    refine kt_call hB (mk_X5_at (a0 := w1) hB.start) (fun r41 ad w H41 S41 hB => ?_)
    dsimp only
    refine kt_if (fun _ => ?_) (fun _ => ?_)
    · exact mk_bl_X7_shareOut_63_29 (w1 := w1) hKl hB
    · exact mk_bl_X7_shareOut_63_29 (w1 := w1) hKl hB
def gkp_X7_shareOut_29 (N : Nat) : Nat → Nat → Int32 → Int64 → Int64 → Int32 → mt_S → Option ((Unit) × mt_S)
  | 0, _, _, _, _, _, _ => none
  | n + 1, w1, w4, w5, w7, w9, s => gkl_X7_shareOut_29 (gkp_X7_shareOut_29 N n) N w1 w4 w5 w7 w9 s
theorem mk_lp_X7_shareOut_29 {X : Nat → Prop} {ad0 : Nat → Nat} {H0 : ym_H} {S0 : mt_S} {N : Nat} : ∀ (n : Nat) (ad : Nat → Nat) (w : Nat → Value) (h : ym_H) (s : mt_S) (w1 : Nat) (w4 : Int32) (w5 : Int64) (w7 : Int64) (w9 : Int32), kt_B X ad0 ad w H0 S0 h s → kt_ok X ad0 H0 S0 (lp_X7_shareOut_29 N n (some (ad0 0)) (some (ad0 (7000 + w1))) w4 w5 w7 w9 h) (gkp_X7_shareOut_29 N n w1 w4 w5 w7 w9 s) := by
  intro n
  induction n with
  | zero => intro ad w h s w1 w4 w5 w7 w9 hB; exact kt_no
  | succ n ih =>
    intro ad w h s w1 w4 w5 w7 w9 hB
    exact mk_lb_X7_shareOut_29 (fun w1 w4 w5 w7 w9 ad w h s hB => ih ad w h s w1 w4 w5 w7 w9 hB) hB
def gk_X7_shareOut (N : Nat) (a1 : Nat) (a2 : Int64) (s : mt_S) : Option (Unit × mt_S) :=
  Option.bind (gk_she s a1) fun _ =>
  Option.bind (gk_X5_rows N a1 s) fun q1 =>
  if 0 < q1.1 then
    if (Int32.toInt64 q1.1) = 0 then none else
    if (Int32.toInt64 q1.1) = 0 then none else
    Option.bind (gkp_X7_shareOut_29 N N a1 q1.1 (a2 / (Int32.toInt64 q1.1)) (a2 - a2 / (Int32.toInt64 q1.1) * (Int32.toInt64 q1.1)) 0 q1.2) fun q29 =>
    some ((), q29.2)
  else
    some ((), q1.2)
set_option maxRecDepth 20000 in
set_option maxHeartbeats 4000000 in
theorem mk_X7_shareOut {X : Nat → Prop} {ad0 ad : Nat → Nat} {w : Nat → Value} {h : ym_H} {s : mt_S} {N : Nat} {a1 : Nat} {a2 : Int64} (hB : kt_B X ad0 ad w h s h s) : kt_ok X ad0 h s (fn_X7_shareOut N (some (ad0 0)) (some (ad0 (7000 + a1))) a2 h) (gk_X7_shareOut N a1 a2 s) := by
  unfold fn_X7_shareOut gk_X7_shareOut
  refine kt_sheO hB (fun _ _ => ?_)
  refine kt_call hB (mk_X5_rows (a0 := a1) hB.start) (fun r1 ad w H1 S1 hB => ?_)
  dsimp only
  refine kt_if (fun _ => ?_) (fun _ => ?_)
  · refine kt_if (fun _ => kt_no) (fun _ => ?_)
    refine kt_if (fun _ => kt_no) (fun _ => ?_)
    refine kt_call hB (mk_lp_X7_shareOut_29 N _ _ _ _ a1 _ _ _ _ hB.start) (fun r29 ad w H29 S29 hB => ?_)
    dsimp only
    exact kt_ret hB
  · exact kt_ret hB
def gkb_X7_finish_20 (N : Nat) (w1 : Nat) (w2 : Int64) (s0 : Int64) (s1 : Int32) (s2 : Nat) (s : mt_S) : Option (Unit × mt_S) :=
  Option.bind (gk_cel s s2) fun _ =>
  Option.bind (gk_X2_put N s2 s1 s0 s) fun q20 =>
  if 0 < w2 then
    Option.bind (gk_tab q20.2 2) fun _ =>
    Option.bind (gk_X6_premiumTimesRate N 2 w2 q20.2) fun q35 =>
    Option.bind (gk_X7_evenCents N q35.1 q35.2) fun q38 =>
    Option.bind (gk_lot q38.2 w1) fun _ =>
    Option.bind (gk_cel q38.2 0) fun _ =>
    Option.bind (gk_X2_get N 0 (5 + (q38.2.1 8 w1)) q38.2) fun q57 =>
    Option.bind (gk_X7_evenCents N ((w2 + q38.1) * q57.1) q57.2) fun q61 =>
    Option.bind (gk_lot q61.2 w1) fun _ =>
    Option.bind (gk_cel q61.2 (203 + 4 * w1)) fun _ =>
    Option.bind (gk_X2_get N (203 + 4 * w1) 1 q61.2) fun q72 =>
    Option.bind (gk_X7_evenCents N (w2 * q72.1) q72.2) fun q76 =>
    Option.bind (gk_lot q76.2 w1) fun _ =>
    Option.bind (gk_X4_standingBidder N w1 q76.2) fun q83 =>
    Option.bind (gk_X7_bookToBidder N q83.1 (-((w2 + q38.1) + q61.1)) q83.2) fun q94 =>
    Option.bind (gk_X7_bookTo N 2 (q38.1 + q76.1) q94.2) fun q104 =>
    Option.bind (gk_X7_bookTo N 3 q61.1 q104.2) fun q111 =>
    Option.bind (gk_lot q111.2 w1) fun _ =>
    Option.bind (gk_X7_shareOut N (206 + 4 * w1) (w2 - q76.1) q111.2) fun q123 =>
    some ((), q123.2)
  else
    some ((), q20.2)
set_option maxRecDepth 20000 in
set_option maxHeartbeats 4000000 in
theorem mk_bl_X7_finish_20 {X : Nat → Prop} {ad0 ad : Nat → Nat} {w : Nat → Value} {H0 h : ym_H} {S0 s : mt_S} {N : Nat} {w1 : Nat} {w2 : Int64} {s0 : Int64} {s1 : Int32} {s2 : Nat} (hB : kt_B X ad0 ad w H0 S0 h s) : kt_ok X ad0 H0 S0 (bl_X7_finish_20 N (some (ad0 0)) (some (ad0 (10000 + w1))) w2 s0 s1 (some (ad0 (1000 + s2))) h) (gkb_X7_finish_20 N w1 w2 s0 s1 s2 s) := by
  unfold bl_X7_finish_20 gkb_X7_finish_20
  refine kt_celO hB (fun _ _ => ?_)
  refine kt_call hB (mk_X2_put (a0 := s2) hB.start) (fun r20 ad w H20 S20 hB => ?_)
  dsimp only
  refine kt_if (fun _ => ?_) (fun _ => ?_)
  · refine kt_room3 hB ?_
    refine kt_tabO hB (fun _ _ => ?_)
    refine kt_call hB (mk_X6_premiumTimesRate (a0 := 2) hB.start) (fun r35 ad w H35 S35 hB => ?_)
    dsimp only
    refine kt_call hB (mk_X7_evenCents hB.start) (fun r38 ad w H38 S38 hB => ?_)
    dsimp only
    refine kt_room1 hB ?_
    refine kt_lot0 hB (fun hc53 => ?_)
    refine kt_celO hB (fun _ _ => ?_)
    refine kt_call hB (mk_X2_get (a0 := 0) hB.start) (fun r57 ad w H57 S57 hB => ?_)
    dsimp only
    refine kt_call hB (mk_X7_evenCents hB.start) (fun r61 ad w H61 S61 hB => ?_)
    dsimp only
    refine kt_lot2 hB (fun hc68 => ?_)
    refine kt_celO hB (fun _ _ => ?_)
    refine kt_call hB (mk_X2_get (a0 := (203 + 4 * w1)) hB.start) (fun r72 ad w H72 S72 hB => ?_)
    dsimp only
    refine kt_call hB (mk_X7_evenCents hB.start) (fun r76 ad w H76 S76 hB => ?_)
    dsimp only
    refine kt_lotO hB (fun _ _ => ?_)
    refine kt_call hB (mk_X4_standingBidder (a0 := w1) hB.start) (fun r83 ad w H83 S83 hB => ?_)
    dsimp only
    refine kt_roomO hB (fun _ => ?_)
    refine kt_call hB (mk_X7_bookToBidder hB.start) (fun r94 ad w H94 S94 hB => ?_)
    dsimp only
    refine kt_roomO hB (fun _ => ?_)
    refine kt_call hB (mk_X7_bookTo hB.start) (fun r104 ad w H104 S104 hB => ?_)
    dsimp only
    refine kt_roomO hB (fun _ => ?_)
    refine kt_call hB (mk_X7_bookTo hB.start) (fun r111 ad w H111 S111 hB => ?_)
    dsimp only
    refine kt_lot5 hB (fun hc116 => ?_)
    refine kt_roomO hB (fun _ => ?_)
    refine kt_call hB (mk_X7_shareOut (a1 := (206 + 4 * w1)) hB.start) (fun r123 ad w H123 S123 hB => ?_)
    dsimp only
    exact kt_ret hB
  · exact kt_ret hB
def gk_X7_finish (N : Nat) (a1 : Nat) (a2 : Int64) (s : mt_S) : Option (Unit × mt_S) :=
  Option.bind (gk_lot s a1) fun _ =>
  if a2 ≤ 0 then
    gkb_X7_finish_20 N a1 a2 3 2 (203 + 4 * a1) s
  else
    gkb_X7_finish_20 N a1 a2 2 2 (203 + 4 * a1) s
set_option maxRecDepth 20000 in
set_option maxHeartbeats 4000000 in
theorem mk_X7_finish {X : Nat → Prop} {ad0 ad : Nat → Nat} {w : Nat → Value} {h : ym_H} {s : mt_S} {N : Nat} {a1 : Nat} {a2 : Int64} (hB : kt_B X ad0 ad w h s h s) : kt_ok X ad0 h s (fn_X7_finish N (some (ad0 0)) (some (ad0 (10000 + a1))) a2 h) (gk_X7_finish N a1 a2 s) := by
  unfold fn_X7_finish gk_X7_finish
  refine kt_lot2 hB (fun hc1 => ?_)
  refine kt_if (fun _ => ?_) (fun _ => ?_)
  · exact mk_bl_X7_finish_20 (w1 := a1) (s2 := (203 + 4 * a1)) hB
  · exact mk_bl_X7_finish_20 (w1 := a1) (s2 := (203 + 4 * a1)) hB
def gkb_X7_hammer_84 (N : Nat) (w2 : Nat) (w3 : Int64) (s : mt_S) : Option (Int64 × mt_S) :=
  Option.bind (gk_X7_finish N w2 w3 s) fun q87 =>
  some (w3, q87.2)
set_option maxRecDepth 20000 in
set_option maxHeartbeats 4000000 in
theorem mk_bl_X7_hammer_84 {X : Nat → Prop} {ad0 ad : Nat → Nat} {w : Nat → Value} {H0 h : ym_H} {S0 s : mt_S} {N : Nat} {w2 : Nat} {w3 : Int64} (hB : kt_B X ad0 ad w H0 S0 h s) : kt_ok X ad0 H0 S0 (bl_X7_hammer_84 N (some (ad0 0)) (some (ad0 (10000 + w2))) w3 h) (gkb_X7_hammer_84 N w2 w3 s) := by
  unfold bl_X7_hammer_84 gkb_X7_hammer_84
  refine kt_roomO hB (fun _ => ?_)
  refine kt_call hB (mk_X7_finish (a1 := w2) hB.start) (fun r87 ad w H87 S87 hB => ?_)
  dsimp only
  exact kt_ret hB
def gk_X7_hammer (N : Nat) (a1 : Int32) (s : mt_S) : Option (Int64 × mt_S) :=
  Option.bind (gk_X7_startAct N  s) fun q1 =>
  Option.bind (gk_X7_lotAt N a1 q1.2) fun q6 =>
  match q6.1 with
  | none =>
    Option.bind (gk_X7_whyNoLot N a1 q6.2) fun q16 =>
    Option.bind (gk_X7_refuse N q16.1 q16.2) fun q19 =>
    some (q19.1, q19.2)
  | some l_q6_1 =>
    Option.bind (gk_lot q6.2 l_q6_1) fun _ =>
    Option.bind (gk_X4_isOpen N l_q6_1 q6.2) fun q24 =>
    if q24.1 = 0 then
      Option.bind (gk_lot q24.2 l_q6_1) fun _ =>
      Option.bind (gk_X4_whyNotOpen N l_q6_1 q24.2) fun q32 =>
      Option.bind (gk_X7_refuse N q32.1 q32.2) fun q35 =>
      some (q35.1, q35.2)
    else
      Option.bind (gk_lot q24.2 l_q6_1) fun _ =>
      Option.bind (gk_X4_isJoined N l_q6_1 q24.2) fun q40 =>
      if q40.1 = 0 then
        Option.bind (gk_X1_bringsIfSold N l_q6_1 q40.2) fun q58 =>
        if q58.1 ≤ 0 then
          gkb_X7_hammer_84 N l_q6_1 q58.1 q58.2
        else
          Option.bind (gk_lot q58.2 l_q6_1) fun _ =>
          Option.bind (gk_she q58.2 (206 + 4 * l_q6_1)) fun _ =>
          Option.bind (gk_X5_rows N (206 + 4 * l_q6_1) q58.2) fun q72 =>
          if q72.1 = 0 then
            Option.bind (gk_X7_refuse N 5 q72.2) fun q80 =>
            some (q80.1, q80.2)
          else
            gkb_X7_hammer_84 N l_q6_1 q58.1 q72.2
      else
        Option.bind (gk_X7_refuse N 8 q40.2) fun q49 =>
        some (q49.1, q49.2)
set_option maxRecDepth 20000 in
set_option maxHeartbeats 4000000 in
theorem mk_X7_hammer {X : Nat → Prop} {ad0 ad : Nat → Nat} {w : Nat → Value} {h : ym_H} {s : mt_S} {N : Nat} {a1 : Int32} (hB : kt_B X ad0 ad w h s h s) : kt_ok X ad0 h s (fn_X7_hammer N (some (ad0 0)) a1 h) (gk_X7_hammer N a1 s) := by
  unfold fn_X7_hammer gk_X7_hammer
  refine kt_roomO hB (fun _ => ?_)
  refine kt_call hB (mk_X7_startAct hB.start) (fun r1 ad w H1 S1 hB => ?_)
  dsimp only
  refine kt_roomO hB (fun _ => ?_)
  refine kt_callm hB (mk_X7_lotAt hB.start) (fun r6 ad w H6 S6 hB => ?_)
  dsimp only
  cases r6 with
  | none =>
    refine kt_ifT rfl ?_
    try dsimp only [Option.map_some, Option.map_none]
    refine kt_call hB (mk_X7_whyNoLot hB.start) (fun r16 ad w H16 S16 hB => ?_)
    dsimp only
    refine kt_roomO hB (fun _ => ?_)
    refine kt_call hB (mk_X7_refuse hB.start) (fun r19 ad w H19 S19 hB => ?_)
    dsimp only
    exact kt_ret hB
  | some l_q6_1 =>
    refine kt_ifF (Option.some_ne_none _) ?_
    try dsimp only [Option.map_some, Option.map_none]
    refine kt_lotO hB (fun _ _ => ?_)
    refine kt_call hB (mk_X4_isOpen (a0 := l_q6_1) hB.start) (fun r24 ad w H24 S24 hB => ?_)
    dsimp only
    refine kt_if (fun _ => ?_) (fun _ => ?_)
    · refine kt_lotO hB (fun _ _ => ?_)
      refine kt_call hB (mk_X4_whyNotOpen (a0 := l_q6_1) hB.start) (fun r32 ad w H32 S32 hB => ?_)
      dsimp only
      refine kt_roomO hB (fun _ => ?_)
      refine kt_call hB (mk_X7_refuse hB.start) (fun r35 ad w H35 S35 hB => ?_)
      dsimp only
      exact kt_ret hB
    · refine kt_lotO hB (fun _ _ => ?_)
      refine kt_call hB (mk_X4_isJoined (a0 := l_q6_1) hB.start) (fun r40 ad w H40 S40 hB => ?_)
      dsimp only
      refine kt_if (fun _ => ?_) (fun _ => ?_)
      · refine kt_room4 hB ?_
        refine kt_bodO hB (fun _ => ?_)
        refine kt_call hB (mk_X1_bringsIfSold (a1 := l_q6_1) hB.start) (fun r58 ad w H58 S58 hB => ?_)
        dsimp only
        refine kt_if (fun _ => ?_) (fun _ => ?_)
        · exact mk_bl_X7_hammer_84 (w2 := l_q6_1) hB
        · refine kt_lot5 hB (fun hc69 => ?_)
          refine kt_sheO hB (fun _ _ => ?_)
          refine kt_call hB (mk_X5_rows (a0 := (206 + 4 * l_q6_1)) hB.start) (fun r72 ad w H72 S72 hB => ?_)
          dsimp only
          refine kt_if (fun _ => ?_) (fun _ => ?_)
          · refine kt_roomO hB (fun _ => ?_)
            refine kt_call hB (mk_X7_refuse hB.start) (fun r80 ad w H80 S80 hB => ?_)
            dsimp only
            exact kt_ret hB
          · exact mk_bl_X7_hammer_84 (w2 := l_q6_1) hB
      · refine kt_roomO hB (fun _ => ?_)
        refine kt_call hB (mk_X7_refuse hB.start) (fun r49 ad w H49 S49 hB => ?_)
        dsimp only
        exact kt_ret hB
def gkb_X7_join_82 (N : Nat)  (s : mt_S) : Option (Int64 × mt_S) :=
  Option.bind (gk_X7_refuse N 13 s) fun q85 =>
  some (q85.1, q85.2)
set_option maxRecDepth 20000 in
set_option maxHeartbeats 4000000 in
theorem mk_bl_X7_join_82 {X : Nat → Prop} {ad0 ad : Nat → Nat} {w : Nat → Value} {H0 h : ym_H} {S0 s : mt_S} {N : Nat}  (hB : kt_B X ad0 ad w H0 S0 h s) : kt_ok X ad0 H0 S0 (bl_X7_join_82 N (some (ad0 0)) h) (gkb_X7_join_82 N  s) := by
  unfold bl_X7_join_82 gkb_X7_join_82
  refine kt_roomO hB (fun _ => ?_)
  refine kt_call hB (mk_X7_refuse hB.start) (fun r85 ad w H85 S85 hB => ?_)
  dsimp only
  exact kt_ret hB
def gkb_X7_join_113 (N : Nat)  (s : mt_S) : Option (Int64 × mt_S) :=
  Option.bind (gk_X7_refuse N 4 s) fun q115 =>
  some (q115.1, q115.2)
set_option maxRecDepth 20000 in
set_option maxHeartbeats 4000000 in
theorem mk_bl_X7_join_113 {X : Nat → Prop} {ad0 ad : Nat → Nat} {w : Nat → Value} {H0 h : ym_H} {S0 s : mt_S} {N : Nat}  (hB : kt_B X ad0 ad w H0 S0 h s) : kt_ok X ad0 H0 S0 (bl_X7_join_113 N (some (ad0 0)) h) (gkb_X7_join_113 N  s) := by
  unfold bl_X7_join_113 gkb_X7_join_113
  refine kt_roomO hB (fun _ => ?_)
  refine kt_call hB (mk_X7_refuse hB.start) (fun r115 ad w H115 S115 hB => ?_)
  dsimp only
  exact kt_ret hB
def gkb_X7_join_174 (N : Nat)  (s : mt_S) : Option (Int64 × mt_S) :=
  Option.bind (gk_X7_refuse N 8 s) fun q177 =>
  some (q177.1, q177.2)
set_option maxRecDepth 20000 in
set_option maxHeartbeats 4000000 in
theorem mk_bl_X7_join_174 {X : Nat → Prop} {ad0 ad : Nat → Nat} {w : Nat → Value} {H0 h : ym_H} {S0 s : mt_S} {N : Nat}  (hB : kt_B X ad0 ad w H0 S0 h s) : kt_ok X ad0 H0 S0 (bl_X7_join_174 N (some (ad0 0)) h) (gkb_X7_join_174 N  s) := by
  unfold bl_X7_join_174 gkb_X7_join_174
  refine kt_roomO hB (fun _ => ?_)
  refine kt_call hB (mk_X7_refuse hB.start) (fun r177 ad w H177 S177 hB => ?_)
  dsimp only
  exact kt_ret hB
def gkb_X7_join_143 (N : Nat)  (s : mt_S) : Option (Int64 × mt_S) :=
  Option.bind (gk_X7_refuse N 9 s) fun q146 =>
  some (q146.1, q146.2)
set_option maxRecDepth 20000 in
set_option maxHeartbeats 4000000 in
theorem mk_bl_X7_join_143 {X : Nat → Prop} {ad0 ad : Nat → Nat} {w : Nat → Value} {H0 h : ym_H} {S0 s : mt_S} {N : Nat}  (hB : kt_B X ad0 ad w H0 S0 h s) : kt_ok X ad0 H0 S0 (bl_X7_join_143 N (some (ad0 0)) h) (gkb_X7_join_143 N  s) := by
  unfold bl_X7_join_143 gkb_X7_join_143
  refine kt_roomO hB (fun _ => ?_)
  refine kt_call hB (mk_X7_refuse hB.start) (fun r146 ad w H146 S146 hB => ?_)
  dsimp only
  exact kt_ret hB
def gk_X7_join (N : Nat) (a1 : Int32) (a2 : Int32) (a3 : Int32) (s : mt_S) : Option (Int64 × mt_S) :=
  Option.bind (gk_X7_startAct N  s) fun q1 =>
  Option.bind (gk_X7_lotAt N a1 q1.2) fun q6 =>
  match q6.1 with
  | none =>
    Option.bind (gk_X7_whyNoLot N a1 q6.2) fun q18 =>
    Option.bind (gk_X7_refuse N q18.1 q18.2) fun q21 =>
    some (q21.1, q21.2)
  | some l_q6_1 =>
    Option.bind (gk_X7_lotAt N a2 q6.2) fun q27 =>
    match q27.1 with
    | none =>
      Option.bind (gk_X7_whyNoLot N a2 q27.2) fun q39 =>
      Option.bind (gk_X7_refuse N q39.1 q39.2) fun q42 =>
      some (q42.1, q42.2)
    | some l_q27_1 =>
      Option.bind (gk_X7_lotAt N a3 q27.2) fun q48 =>
      match q48.1 with
      | none =>
        Option.bind (gk_X7_whyNoLot N a3 q48.2) fun q60 =>
        Option.bind (gk_X7_refuse N q60.1 q60.2) fun q63 =>
        some (q63.1, q63.2)
      | some l_q48_1 =>
        if a1 = a2 then
          gkb_X7_join_82 N  q48.2
        else
          if a1 = a3 then
            gkb_X7_join_82 N  q48.2
          else
            if a2 = a3 then
              gkb_X7_join_82 N  q48.2
            else
              Option.bind (gk_lot q48.2 l_q6_1) fun _ =>
              Option.bind (gk_X4_isRaised N l_q6_1 q48.2) fun q91 =>
              if q91.1 = 0 then
                gkb_X7_join_113 N  q91.2
              else
                Option.bind (gk_lot q91.2 l_q27_1) fun _ =>
                Option.bind (gk_X4_isRaised N l_q27_1 q91.2) fun q99 =>
                if q99.1 = 0 then
                  gkb_X7_join_113 N  q99.2
                else
                  Option.bind (gk_lot q99.2 l_q48_1) fun _ =>
                  Option.bind (gk_X4_isRaised N l_q48_1 q99.2) fun q107 =>
                  if q107.1 = 0 then
                    gkb_X7_join_113 N  q107.2
                  else
                    Option.bind (gk_lot q107.2 l_q6_1) fun _ =>
                    Option.bind (gk_X4_stateNow N l_q6_1 q107.2) fun q121 =>
                    if q121.1 = 0 then
                      Option.bind (gk_lot q121.2 l_q27_1) fun _ =>
                      Option.bind (gk_X4_stateNow N l_q27_1 q121.2) fun q129 =>
                      if q129.1 = 0 then
                        Option.bind (gk_lot q129.2 l_q48_1) fun _ =>
                        Option.bind (gk_X4_stateNow N l_q48_1 q129.2) fun q137 =>
                        if q137.1 = 0 then
                          Option.bind (gk_lot q137.2 l_q6_1) fun _ =>
                          Option.bind (gk_X4_isJoined N l_q6_1 q137.2) fun q152 =>
                          if q152.1 = 0 then
                            Option.bind (gk_lot q152.2 l_q27_1) fun _ =>
                            Option.bind (gk_X4_isJoined N l_q27_1 q152.2) fun q160 =>
                            if q160.1 = 0 then
                              Option.bind (gk_lot q160.2 l_q48_1) fun _ =>
                              Option.bind (gk_X4_isJoined N l_q48_1 q160.2) fun q168 =>
                              if q168.1 = 0 then
                                Option.bind (gk_lot q168.2 l_q6_1) fun _ =>
                                Option.bind (gk_cel q168.2 (203 + 4 * l_q6_1)) fun _ =>
                                Option.bind (gk_X2_put N (203 + 4 * l_q6_1) 11 (Int32.toInt64 a1) q168.2) fun q190 =>
                                Option.bind (gk_lot q190.2 l_q6_1) fun _ =>
                                Option.bind (gk_cel q190.2 (203 + 4 * l_q6_1)) fun _ =>
                                Option.bind (gk_X2_put N (203 + 4 * l_q6_1) 12 (Int32.toInt64 a2) q190.2) fun q202 =>
                                Option.bind (gk_lot q202.2 l_q6_1) fun _ =>
                                Option.bind (gk_cel q202.2 (203 + 4 * l_q6_1)) fun _ =>
                                Option.bind (gk_X2_put N (203 + 4 * l_q6_1) 13 (Int32.toInt64 a3) q202.2) fun q214 =>
                                Option.bind (gk_lot q214.2 l_q27_1) fun _ =>
                                Option.bind (gk_cel q214.2 (203 + 4 * l_q27_1)) fun _ =>
                                Option.bind (gk_X2_put N (203 + 4 * l_q27_1) 11 (Int32.toInt64 a1) q214.2) fun q226 =>
                                Option.bind (gk_lot q226.2 l_q48_1) fun _ =>
                                Option.bind (gk_cel q226.2 (203 + 4 * l_q48_1)) fun _ =>
                                Option.bind (gk_X2_put N (203 + 4 * l_q48_1) 11 (Int32.toInt64 a1) q226.2) fun q238 =>
                                some (1, q238.2)
                              else
                                gkb_X7_join_174 N  q168.2
                            else
                              gkb_X7_join_174 N  q160.2
                          else
                            gkb_X7_join_174 N  q152.2
                        else
                          gkb_X7_join_143 N  q137.2
                      else
                        gkb_X7_join_143 N  q129.2
                    else
                      gkb_X7_join_143 N  q121.2
set_option maxRecDepth 20000 in
set_option maxHeartbeats 4000000 in
theorem mk_X7_join {X : Nat → Prop} {ad0 ad : Nat → Nat} {w : Nat → Value} {h : ym_H} {s : mt_S} {N : Nat} {a1 : Int32} {a2 : Int32} {a3 : Int32} (hB : kt_B X ad0 ad w h s h s) : kt_ok X ad0 h s (fn_X7_join N (some (ad0 0)) a1 a2 a3 h) (gk_X7_join N a1 a2 a3 s) := by
  unfold fn_X7_join gk_X7_join
  refine kt_roomO hB (fun _ => ?_)
  refine kt_call hB (mk_X7_startAct hB.start) (fun r1 ad w H1 S1 hB => ?_)
  dsimp only
  refine kt_roomO hB (fun _ => ?_)
  refine kt_callm hB (mk_X7_lotAt hB.start) (fun r6 ad w H6 S6 hB => ?_)
  dsimp only
  cases r6 with
  | none =>
    refine kt_ifT rfl ?_
    try dsimp only [Option.map_some, Option.map_none]
    refine kt_call hB (mk_X7_whyNoLot hB.start) (fun r18 ad w H18 S18 hB => ?_)
    dsimp only
    refine kt_roomO hB (fun _ => ?_)
    refine kt_call hB (mk_X7_refuse hB.start) (fun r21 ad w H21 S21 hB => ?_)
    dsimp only
    exact kt_ret hB
  | some l_q6_1 =>
    refine kt_ifF (Option.some_ne_none _) ?_
    try dsimp only [Option.map_some, Option.map_none]
    refine kt_roomO hB (fun _ => ?_)
    refine kt_callm hB (mk_X7_lotAt hB.start) (fun r27 ad w H27 S27 hB => ?_)
    dsimp only
    cases r27 with
    | none =>
      refine kt_ifT rfl ?_
      try dsimp only [Option.map_some, Option.map_none]
      refine kt_call hB (mk_X7_whyNoLot hB.start) (fun r39 ad w H39 S39 hB => ?_)
      dsimp only
      refine kt_roomO hB (fun _ => ?_)
      refine kt_call hB (mk_X7_refuse hB.start) (fun r42 ad w H42 S42 hB => ?_)
      dsimp only
      exact kt_ret hB
    | some l_q27_1 =>
      refine kt_ifF (Option.some_ne_none _) ?_
      try dsimp only [Option.map_some, Option.map_none]
      refine kt_roomO hB (fun _ => ?_)
      refine kt_callm hB (mk_X7_lotAt hB.start) (fun r48 ad w H48 S48 hB => ?_)
      dsimp only
      cases r48 with
      | none =>
        refine kt_ifT rfl ?_
        try dsimp only [Option.map_some, Option.map_none]
        refine kt_call hB (mk_X7_whyNoLot hB.start) (fun r60 ad w H60 S60 hB => ?_)
        dsimp only
        refine kt_roomO hB (fun _ => ?_)
        refine kt_call hB (mk_X7_refuse hB.start) (fun r63 ad w H63 S63 hB => ?_)
        dsimp only
        exact kt_ret hB
      | some l_q48_1 =>
        refine kt_ifF (Option.some_ne_none _) ?_
        try dsimp only [Option.map_some, Option.map_none]
        refine kt_if (fun _ => ?_) (fun _ => ?_)
        · exact mk_bl_X7_join_82 hB
        · refine kt_if (fun _ => ?_) (fun _ => ?_)
          · exact mk_bl_X7_join_82 hB
          · refine kt_if (fun _ => ?_) (fun _ => ?_)
            · exact mk_bl_X7_join_82 hB
            · refine kt_lotO hB (fun _ _ => ?_)
              refine kt_call hB (mk_X4_isRaised (a0 := l_q6_1) hB.start) (fun r91 ad w H91 S91 hB => ?_)
              dsimp only
              refine kt_if (fun _ => ?_) (fun _ => ?_)
              · exact mk_bl_X7_join_113 hB
              · refine kt_lotO hB (fun _ _ => ?_)
                refine kt_call hB (mk_X4_isRaised (a0 := l_q27_1) hB.start) (fun r99 ad w H99 S99 hB => ?_)
                dsimp only
                refine kt_if (fun _ => ?_) (fun _ => ?_)
                · exact mk_bl_X7_join_113 hB
                · refine kt_lotO hB (fun _ _ => ?_)
                  refine kt_call hB (mk_X4_isRaised (a0 := l_q48_1) hB.start) (fun r107 ad w H107 S107 hB => ?_)
                  dsimp only
                  refine kt_if (fun _ => ?_) (fun _ => ?_)
                  · exact mk_bl_X7_join_113 hB
                  · refine kt_lotO hB (fun _ _ => ?_)
                    refine kt_call hB (mk_X4_stateNow (a0 := l_q6_1) hB.start) (fun r121 ad w H121 S121 hB => ?_)
                    dsimp only
                    refine kt_if (fun _ => ?_) (fun _ => ?_)
                    · refine kt_lotO hB (fun _ _ => ?_)
                      refine kt_call hB (mk_X4_stateNow (a0 := l_q27_1) hB.start) (fun r129 ad w H129 S129 hB => ?_)
                      dsimp only
                      refine kt_if (fun _ => ?_) (fun _ => ?_)
                      · refine kt_lotO hB (fun _ _ => ?_)
                        refine kt_call hB (mk_X4_stateNow (a0 := l_q48_1) hB.start) (fun r137 ad w H137 S137 hB => ?_)
                        dsimp only
                        refine kt_if (fun _ => ?_) (fun _ => ?_)
                        · refine kt_lotO hB (fun _ _ => ?_)
                          refine kt_call hB (mk_X4_isJoined (a0 := l_q6_1) hB.start) (fun r152 ad w H152 S152 hB => ?_)
                          dsimp only
                          refine kt_if (fun _ => ?_) (fun _ => ?_)
                          · refine kt_lotO hB (fun _ _ => ?_)
                            refine kt_call hB (mk_X4_isJoined (a0 := l_q27_1) hB.start) (fun r160 ad w H160 S160 hB => ?_)
                            dsimp only
                            refine kt_if (fun _ => ?_) (fun _ => ?_)
                            · refine kt_lotO hB (fun _ _ => ?_)
                              refine kt_call hB (mk_X4_isJoined (a0 := l_q48_1) hB.start) (fun r168 ad w H168 S168 hB => ?_)
                              dsimp only
                              refine kt_if (fun _ => ?_) (fun _ => ?_)
                              · refine kt_lot2 hB (fun hc183 => ?_)
                                refine kt_celO hB (fun _ _ => ?_)
                                refine kt_call hB (mk_X2_put (a0 := (203 + 4 * l_q6_1)) hB.start) (fun r190 ad w H190 S190 hB => ?_)
                                dsimp only
                                refine kt_lot2 hB (fun hc195 => ?_)
                                refine kt_celO hB (fun _ _ => ?_)
                                refine kt_call hB (mk_X2_put (a0 := (203 + 4 * l_q6_1)) hB.start) (fun r202 ad w H202 S202 hB => ?_)
                                dsimp only
                                refine kt_lot2 hB (fun hc207 => ?_)
                                refine kt_celO hB (fun _ _ => ?_)
                                refine kt_call hB (mk_X2_put (a0 := (203 + 4 * l_q6_1)) hB.start) (fun r214 ad w H214 S214 hB => ?_)
                                dsimp only
                                refine kt_lot2 hB (fun hc219 => ?_)
                                refine kt_celO hB (fun _ _ => ?_)
                                refine kt_call hB (mk_X2_put (a0 := (203 + 4 * l_q27_1)) hB.start) (fun r226 ad w H226 S226 hB => ?_)
                                dsimp only
                                refine kt_lot2 hB (fun hc231 => ?_)
                                refine kt_celO hB (fun _ _ => ?_)
                                refine kt_call hB (mk_X2_put (a0 := (203 + 4 * l_q48_1)) hB.start) (fun r238 ad w H238 S238 hB => ?_)
                                dsimp only
                                exact kt_ret hB
                              · exact mk_bl_X7_join_174 hB
                            · exact mk_bl_X7_join_174 hB
                          · exact mk_bl_X7_join_174 hB
                        · exact mk_bl_X7_join_143 hB
                      · exact mk_bl_X7_join_143 hB
                    · exact mk_bl_X7_join_143 hB
def gk_X7_kindOf (N : Nat) (a1 : Int32) (s : mt_S) : Option (Int32 × mt_S) :=
  Option.bind (gk_X7_lotAt N a1 s) fun q2 =>
  match q2.1 with
  | none =>
    some (0, q2.2)
  | some l_q2_1 =>
    Option.bind (gk_lot q2.2 l_q2_1) fun _ =>
    some ((q2.2.1 8 l_q2_1), q2.2)
set_option maxRecDepth 20000 in
set_option maxHeartbeats 4000000 in
theorem mk_X7_kindOf {X : Nat → Prop} {ad0 ad : Nat → Nat} {w : Nat → Value} {h : ym_H} {s : mt_S} {N : Nat} {a1 : Int32} (hB : kt_B X ad0 ad w h s h s) : kt_ok X ad0 h s (fn_X7_kindOf N (some (ad0 0)) a1 h) (gk_X7_kindOf N a1 s) := by
  unfold fn_X7_kindOf gk_X7_kindOf
  refine kt_roomO hB (fun _ => ?_)
  refine kt_callm hB (mk_X7_lotAt hB.start) (fun r2 ad w H2 S2 hB => ?_)
  dsimp only
  cases r2 with
  | none =>
    refine kt_ifT rfl ?_
    try dsimp only [Option.map_some, Option.map_none]
    exact kt_ret hB
  | some l_q2_1 =>
    refine kt_ifF (Option.some_ne_none _) ?_
    try dsimp only [Option.map_some, Option.map_none]
    refine kt_lot0 hB (fun hc15 => ?_)
    exact kt_ret hB
def gk_X7_lacksSeller (N : Nat) (a1 : Nat) (a2 : Int64) (s : mt_S) : Option (Int32 × mt_S) :=
  if a2 = 0 then
    some (0, s)
  else
    Option.bind (gk_X1_piecesOf N a1 s) fun q13 =>
    Option.bind (gk_lot q13.2 a1) fun _ =>
    Option.bind (gk_she q13.2 (206 + 4 * a1)) fun _ =>
    Option.bind (gk_X5_rows N (206 + 4 * a1) q13.2) fun q21 =>
    if q21.1 = 0 then
      some (1, q21.2)
    else
      some (0, q21.2)
set_option maxRecDepth 20000 in
set_option maxHeartbeats 4000000 in
theorem mk_X7_lacksSeller {X : Nat → Prop} {ad0 ad : Nat → Nat} {w : Nat → Value} {h : ym_H} {s : mt_S} {N : Nat} {a1 : Nat} {a2 : Int64} (hB : kt_B X ad0 ad w h s h s) : kt_ok X ad0 h s (fn_X7_lacksSeller N (some (ad0 0)) (some (ad0 (10000 + a1))) a2 h) (gk_X7_lacksSeller N a1 a2 s) := by
  unfold fn_X7_lacksSeller gk_X7_lacksSeller
  refine kt_if (fun _ => ?_) (fun _ => ?_)
  · exact kt_ret hB
  · refine kt_room4 hB ?_
    refine kt_bodO hB (fun _ => ?_)
    refine kt_call hB (mk_X1_piecesOf (a1 := a1) hB.start) (fun r13 ad w H13 S13 hB => ?_)
    dsimp only
    refine kt_lot5 hB (fun hc18 => ?_)
    refine kt_sheO hB (fun _ _ => ?_)
    refine kt_call hB (mk_X5_rows (a0 := (206 + 4 * a1)) hB.start) (fun r21 ad w H21 S21 hB => ?_)
    dsimp only
    refine kt_if (fun _ => ?_) (fun _ => ?_)
    · exact kt_ret hB
    · exact kt_ret hB
def gkb_X7_limit_179 (N : Nat)  (s : mt_S) : Option (Int64 × mt_S) :=
  Option.bind (gk_X7_refuse N 12 s) fun q182 =>
  some (q182.1, q182.2)
set_option maxRecDepth 20000 in
set_option maxHeartbeats 4000000 in
theorem mk_bl_X7_limit_179 {X : Nat → Prop} {ad0 ad : Nat → Nat} {w : Nat → Value} {H0 h : ym_H} {S0 s : mt_S} {N : Nat}  (hB : kt_B X ad0 ad w H0 S0 h s) : kt_ok X ad0 H0 S0 (bl_X7_limit_179 N (some (ad0 0)) h) (gkb_X7_limit_179 N  s) := by
  unfold bl_X7_limit_179 gkb_X7_limit_179
  refine kt_roomO hB (fun _ => ?_)
  refine kt_call hB (mk_X7_refuse hB.start) (fun r182 ad w H182 S182 hB => ?_)
  dsimp only
  exact kt_ret hB
def gk_X7_limit (N : Nat) (a1 : Int32) (a2 : Int32) (a3 : Int64) (s : mt_S) : Option (Int64 × mt_S) :=
  Option.bind (gk_X7_startAct N  s) fun q1 =>
  Option.bind (gk_X7_isSum N a3 q1.2) fun q5 =>
  if q5.1 = 0 then
    Option.bind (gk_X7_refuse N 1 q5.2) fun q13 =>
    some (q13.1, q13.2)
  else
    Option.bind (gk_X7_lotAt N a1 q5.2) fun q19 =>
    match q19.1 with
    | none =>
      Option.bind (gk_X7_whyNoLot N a1 q19.2) fun q31 =>
      Option.bind (gk_X7_refuse N q31.1 q31.2) fun q34 =>
      some (q34.1, q34.2)
    | some l_q19_1 =>
      Option.bind (gk_lot q19.2 l_q19_1) fun _ =>
      Option.bind (gk_X4_isRaised N l_q19_1 q19.2) fun q40 =>
      if q40.1 = 0 then
        Option.bind (gk_X7_refuse N 4 q40.2) fun q48 =>
        some (q48.1, q48.2)
      else
        Option.bind (gk_X7_bidderWith N a2 q40.2) fun q54 =>
        match q54.1 with
        | none =>
          Option.bind (gk_X7_whyNoBidder N a2 q54.2) fun q66 =>
          Option.bind (gk_X7_refuse N q66.1 q66.2) fun q69 =>
          some (q69.1, q69.2)
        | some l_q54_1 =>
          Option.bind (gk_bid q54.2 l_q54_1) fun _ =>
          Option.bind (gk_X0_isPaper N l_q54_1 q54.2) fun q75 =>
          if q75.1 = 0 then
            Option.bind (gk_X7_refuse N 4 q75.2) fun q83 =>
            some (q83.1, q83.2)
          else
            Option.bind (gk_lot q75.2 l_q19_1) fun _ =>
            Option.bind (gk_X4_isNewOrCalled N l_q19_1 q75.2) fun q89 =>
            if q89.1 = 0 then
              Option.bind (gk_X7_refuse N 9 q89.2) fun q98 =>
              some (q98.1, q98.2)
            else
              Option.bind (gk_lot q89.2 l_q19_1) fun _ =>
              Option.bind (gk_she q89.2 (205 + 4 * l_q19_1)) fun _ =>
              Option.bind (gk_X5_rowOf N (205 + 4 * l_q19_1) a2 q89.2) fun q108 =>
              if q108.1 = (-1) then
                Option.bind (gk_X7_lotsMade N  q108.2) fun q136 =>
                Option.bind (gk_X1_mayBid N l_q54_1 l_q19_1 a3 q136.1 q136.2) fun q139 =>
                if q139.1 = 0 then
                  Option.bind (gk_X7_refuse N 11 q139.2) fun q148 =>
                  some (q148.1, q148.2)
                else
                  Option.bind (gk_lot q139.2 l_q19_1) fun _ =>
                  Option.bind (gk_she q139.2 (205 + 4 * l_q19_1)) fun _ =>
                  Option.bind (gk_X5_rows N (205 + 4 * l_q19_1) q139.2) fun q157 =>
                  if 40 ≤ q157.1 then
                    gkb_X7_limit_179 N  q157.2
                  else
                    Option.bind (gk_lot q157.2 l_q19_1) fun _ =>
                    Option.bind (gk_she q157.2 (204 + 4 * l_q19_1)) fun _ =>
                    Option.bind (gk_X5_rows N (204 + 4 * l_q19_1) q157.2) fun q170 =>
                    if q170.1 < 300 then
                      Option.bind (gm_pI q170.2 0 ((q170.2.1 0 0) + 1)) fun t193 =>
                      Option.bind (gk_lot t193 l_q19_1) fun _ =>
                      Option.bind (gk_X4_writeLimit N l_q19_1 a2 a3 (t193.1 0 0) t193) fun q204 =>
                      Option.bind (gk_lot q204.2 l_q19_1) fun _ =>
                      Option.bind (gk_X4_stateNow N l_q19_1 q204.2) fun q209 =>
                      if q209.1 = 1 then
                        Option.bind (gk_X7_askPapers N l_q19_1 q209.2) fun q219 =>
                        some ((Int32.toInt64 (q219.2.1 0 0)), q219.2)
                      else
                        some ((Int32.toInt64 (q209.2.1 0 0)), q209.2)
                    else
                      gkb_X7_limit_179 N  q170.2
              else
                Option.bind (gk_X7_refuse N 13 q108.2) fun q118 =>
                some (q118.1, q118.2)
set_option maxRecDepth 20000 in
set_option maxHeartbeats 4000000 in
theorem mk_X7_limit {X : Nat → Prop} {ad0 ad : Nat → Nat} {w : Nat → Value} {h : ym_H} {s : mt_S} {N : Nat} {a1 : Int32} {a2 : Int32} {a3 : Int64} (hB : kt_B X ad0 ad w h s h s) : kt_ok X ad0 h s (fn_X7_limit N (some (ad0 0)) a1 a2 a3 h) (gk_X7_limit N a1 a2 a3 s) := by
  unfold fn_X7_limit gk_X7_limit
  refine kt_roomO hB (fun _ => ?_)
  refine kt_call hB (mk_X7_startAct hB.start) (fun r1 ad w H1 S1 hB => ?_)
  dsimp only
  refine kt_call hB (mk_X7_isSum hB.start) (fun r5 ad w H5 S5 hB => ?_)
  dsimp only
  refine kt_if (fun _ => ?_) (fun _ => ?_)
  · refine kt_roomO hB (fun _ => ?_)
    refine kt_call hB (mk_X7_refuse hB.start) (fun r13 ad w H13 S13 hB => ?_)
    dsimp only
    exact kt_ret hB
  · refine kt_roomO hB (fun _ => ?_)
    refine kt_callm hB (mk_X7_lotAt hB.start) (fun r19 ad w H19 S19 hB => ?_)
    dsimp only
    cases r19 with
    | none =>
      refine kt_ifT rfl ?_
      try dsimp only [Option.map_some, Option.map_none]
      refine kt_call hB (mk_X7_whyNoLot hB.start) (fun r31 ad w H31 S31 hB => ?_)
      dsimp only
      refine kt_roomO hB (fun _ => ?_)
      refine kt_call hB (mk_X7_refuse hB.start) (fun r34 ad w H34 S34 hB => ?_)
      dsimp only
      exact kt_ret hB
    | some l_q19_1 =>
      refine kt_ifF (Option.some_ne_none _) ?_
      try dsimp only [Option.map_some, Option.map_none]
      refine kt_lotO hB (fun _ _ => ?_)
      refine kt_call hB (mk_X4_isRaised (a0 := l_q19_1) hB.start) (fun r40 ad w H40 S40 hB => ?_)
      dsimp only
      refine kt_if (fun _ => ?_) (fun _ => ?_)
      · refine kt_roomO hB (fun _ => ?_)
        refine kt_call hB (mk_X7_refuse hB.start) (fun r48 ad w H48 S48 hB => ?_)
        dsimp only
        exact kt_ret hB
      · refine kt_roomO hB (fun _ => ?_)
        refine kt_callm hB (mk_X7_bidderWith hB.start) (fun r54 ad w H54 S54 hB => ?_)
        dsimp only
        cases r54 with
        | none =>
          refine kt_ifT rfl ?_
          try dsimp only [Option.map_some, Option.map_none]
          refine kt_call hB (mk_X7_whyNoBidder hB.start) (fun r66 ad w H66 S66 hB => ?_)
          dsimp only
          refine kt_roomO hB (fun _ => ?_)
          refine kt_call hB (mk_X7_refuse hB.start) (fun r69 ad w H69 S69 hB => ?_)
          dsimp only
          exact kt_ret hB
        | some l_q54_1 =>
          refine kt_ifF (Option.some_ne_none _) ?_
          try dsimp only [Option.map_some, Option.map_none]
          refine kt_bidO hB (fun _ _ => ?_)
          refine kt_call hB (mk_X0_isPaper (a0 := l_q54_1) hB.start) (fun r75 ad w H75 S75 hB => ?_)
          dsimp only
          refine kt_if (fun _ => ?_) (fun _ => ?_)
          · refine kt_roomO hB (fun _ => ?_)
            refine kt_call hB (mk_X7_refuse hB.start) (fun r83 ad w H83 S83 hB => ?_)
            dsimp only
            exact kt_ret hB
          · refine kt_lotO hB (fun _ _ => ?_)
            refine kt_call hB (mk_X4_isNewOrCalled (a0 := l_q19_1) hB.start) (fun r89 ad w H89 S89 hB => ?_)
            dsimp only
            refine kt_if (fun _ => ?_) (fun _ => ?_)
            · refine kt_roomO hB (fun _ => ?_)
              refine kt_call hB (mk_X7_refuse hB.start) (fun r98 ad w H98 S98 hB => ?_)
              dsimp only
              exact kt_ret hB
            · refine kt_lot4 hB (fun hc104 => ?_)
              refine kt_sheO hB (fun _ _ => ?_)
              refine kt_call hB (mk_X5_rowOf (a0 := (205 + 4 * l_q19_1)) hB.start) (fun r108 ad w H108 S108 hB => ?_)
              dsimp only
              refine kt_if (fun _ => ?_) (fun _ => ?_)
              · refine kt_room4 hB ?_
                refine kt_room6 hB ?_
                refine kt_roomO hB (fun _ => ?_)
                refine kt_call hB (mk_X7_lotsMade hB.start) (fun r136 ad w H136 S136 hB => ?_)
                dsimp only
                refine kt_bodO hB (fun _ => ?_)
                refine kt_call hB (mk_X1_mayBid (a1 := l_q54_1) (a2 := l_q19_1) hB.start) (fun r139 ad w H139 S139 hB => ?_)
                dsimp only
                refine kt_if (fun _ => ?_) (fun _ => ?_)
                · refine kt_roomO hB (fun _ => ?_)
                  refine kt_call hB (mk_X7_refuse hB.start) (fun r148 ad w H148 S148 hB => ?_)
                  dsimp only
                  exact kt_ret hB
                · refine kt_lot4 hB (fun hc154 => ?_)
                  refine kt_sheO hB (fun _ _ => ?_)
                  refine kt_call hB (mk_X5_rows (a0 := (205 + 4 * l_q19_1)) hB.start) (fun r157 ad w H157 S157 hB => ?_)
                  dsimp only
                  refine kt_if (fun _ => ?_) (fun _ => ?_)
                  · exact mk_bl_X7_limit_179 hB
                  · refine kt_lot3 hB (fun hc167 => ?_)
                    refine kt_sheO hB (fun _ _ => ?_)
                    refine kt_call hB (mk_X5_rows (a0 := (204 + 4 * l_q19_1)) hB.start) (fun r170 ad w H170 S170 hB => ?_)
                    dsimp only
                    refine kt_if (fun _ => ?_) (fun _ => ?_)
                    · refine kt_room7 hB ?_
                      refine kt_room7W hB (fun h193 t193 hB => ?_)
                      refine kt_room7 hB ?_
                      refine kt_lotO hB (fun _ _ => ?_)
                      refine kt_call hB (mk_X4_writeLimit (a0 := l_q19_1) hB.start) (fun r204 ad w H204 S204 hB => ?_)
                      dsimp only
                      refine kt_lotO hB (fun _ _ => ?_)
                      refine kt_call hB (mk_X4_stateNow (a0 := l_q19_1) hB.start) (fun r209 ad w H209 S209 hB => ?_)
                      dsimp only
                      refine kt_if (fun _ => ?_) (fun _ => ?_)
                      · refine kt_roomO hB (fun _ => ?_)
                        refine kt_call hB (mk_X7_askPapers (a1 := l_q19_1) hB.start) (fun r219 ad w H219 S219 hB => ?_)
                        dsimp only
                        refine kt_room7 hB ?_
                        exact kt_ret hB
                      · refine kt_room7 hB ?_
                        exact kt_ret hB
                    · exact mk_bl_X7_limit_179 hB
              · refine kt_roomO hB (fun _ => ?_)
                refine kt_call hB (mk_X7_refuse hB.start) (fun r118 ad w H118 S118 hB => ?_)
                dsimp only
                exact kt_ret hB
def gk_X7_numbers (N : Nat) (a1 : Int32) (s : mt_S) : Option (Int32 × mt_S) :=
  if a1 = 0 then
    some ((s.1 0 0), s)
  else
    if a1 = 1 then
      some ((s.1 0 0), s)
    else
      some (0, s)
set_option maxRecDepth 20000 in
set_option maxHeartbeats 4000000 in
theorem mk_X7_numbers {X : Nat → Prop} {ad0 ad : Nat → Nat} {w : Nat → Value} {h : ym_H} {s : mt_S} {N : Nat} {a1 : Int32} (hB : kt_B X ad0 ad w h s h s) : kt_ok X ad0 h s (fn_X7_numbers N (some (ad0 0)) a1 h) (gk_X7_numbers N a1 s) := by
  unfold fn_X7_numbers gk_X7_numbers
  refine kt_if (fun _ => ?_) (fun _ => ?_)
  · refine kt_room7 hB ?_
    exact kt_ret hB
  · refine kt_if (fun _ => ?_) (fun _ => ?_)
    · refine kt_room7 hB ?_
      exact kt_ret hB
    · exact kt_ret hB
def gk_X7_open (N : Nat) (a1 : Int32) (s : mt_S) : Option (Int64 × mt_S) :=
  Option.bind (gk_X7_startAct N  s) fun q1 =>
  Option.bind (gk_X7_lotAt N a1 q1.2) fun q6 =>
  match q6.1 with
  | none =>
    Option.bind (gk_X7_whyNoLot N a1 q6.2) fun q16 =>
    Option.bind (gk_X7_refuse N q16.1 q16.2) fun q19 =>
    some (q19.1, q19.2)
  | some l_q6_1 =>
    Option.bind (gk_lot q6.2 l_q6_1) fun _ =>
    if (q6.2.1 8 l_q6_1) = 4 then
      Option.bind (gk_lot q6.2 l_q6_1) fun _ =>
      Option.bind (gk_X4_isOpen N l_q6_1 q6.2) fun q38 =>
      if q38.1 = 0 then
        Option.bind (gk_lot q38.2 l_q6_1) fun _ =>
        Option.bind (gk_X4_whyNotOpen N l_q6_1 q38.2) fun q46 =>
        Option.bind (gk_X7_refuse N q46.1 q46.2) fun q49 =>
        some (q49.1, q49.2)
      else
        Option.bind (gk_lot q38.2 l_q6_1) fun _ =>
        Option.bind (gk_X4_wasOpened N l_q6_1 q38.2) fun q54 =>
        if q54.1 = 0 then
          Option.bind (gk_lot q54.2 l_q6_1) fun _ =>
          Option.bind (gk_she q54.2 (204 + 4 * l_q6_1)) fun _ =>
          Option.bind (gk_X5_rows N (204 + 4 * l_q6_1) q54.2) fun q71 =>
          if q71.1 = 0 then
            Option.bind (gk_X7_refuse N 14 q71.2) fun q80 =>
            some (q80.1, q80.2)
          else
            Option.bind (gk_lot q71.2 l_q6_1) fun _ =>
            Option.bind (gk_X4_tellWinner N l_q6_1 q71.2) fun q85 =>
            Option.bind (gk_lot q85.2 l_q6_1) fun _ =>
            Option.bind (gk_X4_standingSum N l_q6_1 q85.2) fun q89 =>
            some (q89.1, q89.2)
        else
          Option.bind (gk_X7_refuse N 8 q54.2) fun q63 =>
          some (q63.1, q63.2)
    else
      Option.bind (gk_X7_refuse N 4 q6.2) fun q33 =>
      some (q33.1, q33.2)
set_option maxRecDepth 20000 in
set_option maxHeartbeats 4000000 in
theorem mk_X7_open {X : Nat → Prop} {ad0 ad : Nat → Nat} {w : Nat → Value} {h : ym_H} {s : mt_S} {N : Nat} {a1 : Int32} (hB : kt_B X ad0 ad w h s h s) : kt_ok X ad0 h s (fn_X7_open N (some (ad0 0)) a1 h) (gk_X7_open N a1 s) := by
  unfold fn_X7_open gk_X7_open
  refine kt_roomO hB (fun _ => ?_)
  refine kt_call hB (mk_X7_startAct hB.start) (fun r1 ad w H1 S1 hB => ?_)
  dsimp only
  refine kt_roomO hB (fun _ => ?_)
  refine kt_callm hB (mk_X7_lotAt hB.start) (fun r6 ad w H6 S6 hB => ?_)
  dsimp only
  cases r6 with
  | none =>
    refine kt_ifT rfl ?_
    try dsimp only [Option.map_some, Option.map_none]
    refine kt_call hB (mk_X7_whyNoLot hB.start) (fun r16 ad w H16 S16 hB => ?_)
    dsimp only
    refine kt_roomO hB (fun _ => ?_)
    refine kt_call hB (mk_X7_refuse hB.start) (fun r19 ad w H19 S19 hB => ?_)
    dsimp only
    exact kt_ret hB
  | some l_q6_1 =>
    refine kt_ifF (Option.some_ne_none _) ?_
    try dsimp only [Option.map_some, Option.map_none]
    refine kt_lot0 hB (fun hc24 => ?_)
    refine kt_if (fun _ => ?_) (fun _ => ?_)
    · refine kt_lotO hB (fun _ _ => ?_)
      refine kt_call hB (mk_X4_isOpen (a0 := l_q6_1) hB.start) (fun r38 ad w H38 S38 hB => ?_)
      dsimp only
      refine kt_if (fun _ => ?_) (fun _ => ?_)
      · refine kt_lotO hB (fun _ _ => ?_)
        refine kt_call hB (mk_X4_whyNotOpen (a0 := l_q6_1) hB.start) (fun r46 ad w H46 S46 hB => ?_)
        dsimp only
        refine kt_roomO hB (fun _ => ?_)
        refine kt_call hB (mk_X7_refuse hB.start) (fun r49 ad w H49 S49 hB => ?_)
        dsimp only
        exact kt_ret hB
      · refine kt_lotO hB (fun _ _ => ?_)
        refine kt_call hB (mk_X4_wasOpened (a0 := l_q6_1) hB.start) (fun r54 ad w H54 S54 hB => ?_)
        dsimp only
        refine kt_if (fun _ => ?_) (fun _ => ?_)
        · refine kt_lot3 hB (fun hc68 => ?_)
          refine kt_sheO hB (fun _ _ => ?_)
          refine kt_call hB (mk_X5_rows (a0 := (204 + 4 * l_q6_1)) hB.start) (fun r71 ad w H71 S71 hB => ?_)
          dsimp only
          refine kt_if (fun _ => ?_) (fun _ => ?_)
          · refine kt_roomO hB (fun _ => ?_)
            refine kt_call hB (mk_X7_refuse hB.start) (fun r80 ad w H80 S80 hB => ?_)
            dsimp only
            exact kt_ret hB
          · refine kt_lotO hB (fun _ _ => ?_)
            refine kt_call hB (mk_X4_tellWinner (a0 := l_q6_1) hB.start) (fun r85 ad w H85 S85 hB => ?_)
            dsimp only
            refine kt_lotO hB (fun _ _ => ?_)
            refine kt_call hB (mk_X4_standingSum (a0 := l_q6_1) hB.start) (fun r89 ad w H89 S89 hB => ?_)
            dsimp only
            exact kt_ret hB
        · refine kt_roomO hB (fun _ => ?_)
          refine kt_call hB (mk_X7_refuse hB.start) (fun r63 ad w H63 S63 hB => ?_)
          dsimp only
          exact kt_ret hB
    · refine kt_roomO hB (fun _ => ?_)
      refine kt_call hB (mk_X7_refuse hB.start) (fun r33 ad w H33 S33 hB => ?_)
      dsimp only
      exact kt_ret hB
def gkb_X7_part_63 (N : Nat) (w3 : Option Nat) (s : mt_S) : Option (Unit × mt_S) :=
  match w3 with
  | none =>
    some ((), s)
  | some l_w3 =>
    Option.bind (gk_lot s l_w3) fun _ =>
    Option.bind (gk_cel s (203 + 4 * l_w3)) fun _ =>
    Option.bind (gk_X2_put N (203 + 4 * l_w3) 11 (-1) s) fun q76 =>
    some ((), q76.2)
set_option maxRecDepth 20000 in
set_option maxHeartbeats 4000000 in
theorem mk_bl_X7_part_63 {X : Nat → Prop} {ad0 ad : Nat → Nat} {w : Nat → Value} {H0 h : ym_H} {S0 s : mt_S} {N : Nat} {w3 : Option Nat} (hB : kt_B X ad0 ad w H0 S0 h s) : kt_ok X ad0 H0 S0 (bl_X7_part_63 N (Option.map (fun l => ad0 (10000 + l)) w3) h) (gkb_X7_part_63 N w3 s) := by
  unfold bl_X7_part_63 gkb_X7_part_63
  cases w3 with
  | none =>
    refine kt_ifT rfl ?_
    try dsimp only [Option.map_some, Option.map_none]
    exact kt_ret hB
  | some l_w3 =>
    refine kt_ifF (Option.some_ne_none _) ?_
    try dsimp only [Option.map_some, Option.map_none]
    refine kt_lot2 hB (fun hc68 => ?_)
    refine kt_celO hB (fun _ _ => ?_)
    refine kt_call hB (mk_X2_put (a0 := (203 + 4 * l_w3)) hB.start) (fun r76 ad w H76 S76 hB => ?_)
    dsimp only
    exact kt_ret hB
def gk_X7_part (N : Nat) (a1 : Option Nat) (s : mt_S) : Option (Unit × mt_S) :=
  match a1 with
  | none =>
    some ((), s)
  | some l_a1 =>
    Option.bind (gk_lot s l_a1) fun _ =>
    Option.bind (gk_cel s (203 + 4 * l_a1)) fun _ =>
    Option.bind (gk_X2_get N (203 + 4 * l_a1) 12 s) fun q12 =>
    Option.bind (gk_X7_lotAt N (Int64.toInt32 q12.1) q12.2) fun q16 =>
    Option.bind (gk_lot q16.2 l_a1) fun _ =>
    Option.bind (gk_cel q16.2 (203 + 4 * l_a1)) fun _ =>
    Option.bind (gk_X2_get N (203 + 4 * l_a1) 13 q16.2) fun q27 =>
    Option.bind (gk_X7_lotAt N (Int64.toInt32 q27.1) q27.2) fun q31 =>
    Option.bind (gk_lot q31.2 l_a1) fun _ =>
    Option.bind (gk_cel q31.2 (203 + 4 * l_a1)) fun _ =>
    Option.bind (gk_X2_put N (203 + 4 * l_a1) 11 (-1) q31.2) fun q44 =>
    match q16.1 with
    | none =>
      gkb_X7_part_63 N q31.1 q44.2
    | some l_q16_1 =>
      Option.bind (gk_lot q44.2 l_q16_1) fun _ =>
      Option.bind (gk_cel q44.2 (203 + 4 * l_q16_1)) fun _ =>
      Option.bind (gk_X2_put N (203 + 4 * l_q16_1) 11 (-1) q44.2) fun q60 =>
      gkb_X7_part_63 N q31.1 q60.2
set_option maxRecDepth 20000 in
set_option maxHeartbeats 4000000 in
theorem mk_X7_part {X : Nat → Prop} {ad0 ad : Nat → Nat} {w : Nat → Value} {h : ym_H} {s : mt_S} {N : Nat} {a1 : Option Nat} (hB : kt_B X ad0 ad w h s h s) : kt_ok X ad0 h s (fn_X7_part N (some (ad0 0)) (Option.map (fun l => ad0 (10000 + l)) a1) h) (gk_X7_part N a1 s) := by
  unfold fn_X7_part gk_X7_part
  cases a1 with
  | none =>
    refine kt_ifT rfl ?_
    try dsimp only [Option.map_some, Option.map_none]
    exact kt_ret hB
  | some l_a1 =>
    refine kt_ifF (Option.some_ne_none _) ?_
    try dsimp only [Option.map_some, Option.map_none]
    refine kt_lot2 hB (fun hc7 => ?_)
    refine kt_celO hB (fun _ _ => ?_)
    refine kt_call hB (mk_X2_get (a0 := (203 + 4 * l_a1)) hB.start) (fun r12 ad w H12 S12 hB => ?_)
    dsimp only
    refine kt_roomO hB (fun _ => ?_)
    refine kt_callm hB (mk_X7_lotAt hB.start) (fun r16 ad w H16 S16 hB => ?_)
    dsimp only
    refine kt_lot2 hB (fun hc22 => ?_)
    refine kt_celO hB (fun _ _ => ?_)
    refine kt_call hB (mk_X2_get (a0 := (203 + 4 * l_a1)) hB.start) (fun r27 ad w H27 S27 hB => ?_)
    dsimp only
    refine kt_roomO hB (fun _ => ?_)
    refine kt_callm hB (mk_X7_lotAt hB.start) (fun r31 ad w H31 S31 hB => ?_)
    dsimp only
    refine kt_lot2 hB (fun hc36 => ?_)
    refine kt_celO hB (fun _ _ => ?_)
    refine kt_call hB (mk_X2_put (a0 := (203 + 4 * l_a1)) hB.start) (fun r44 ad w H44 S44 hB => ?_)
    dsimp only
    cases r16 with
    | none =>
      refine kt_ifT rfl ?_
      try dsimp only [Option.map_some, Option.map_none]
      exact mk_bl_X7_part_63 (w3 := r31) hB
    | some l_q16_1 =>
      refine kt_ifF (Option.some_ne_none _) ?_
      try dsimp only [Option.map_some, Option.map_none]
      refine kt_lot2 hB (fun hc52 => ?_)
      refine kt_celO hB (fun _ _ => ?_)
      refine kt_call hB (mk_X2_put (a0 := (203 + 4 * l_q16_1)) hB.start) (fun r60 ad w H60 S60 hB => ?_)
      dsimp only
      exact mk_bl_X7_part_63 (w3 := r31) hB
def gk_X7_pay (N : Nat) (a1 : Int32) (a2 : Int64) (s : mt_S) : Option (Int64 × mt_S) :=
  Option.bind (gk_X7_startAct N  s) fun q1 =>
  Option.bind (gk_X7_isSum N a2 q1.2) fun q5 =>
  if q5.1 = 0 then
    Option.bind (gk_X7_refuse N 1 q5.2) fun q13 =>
    some (q13.1, q13.2)
  else
    Option.bind (gk_X7_bidderWith N a1 q5.2) fun q19 =>
    match q19.1 with
    | none =>
      Option.bind (gk_X7_whyNoBidder N a1 q19.2) fun q31 =>
      Option.bind (gk_X7_refuse N q31.1 q31.2) fun q34 =>
      some (q34.1, q34.2)
    | some l_q19_1 =>
      Option.bind (gk_bid q19.2 l_q19_1) fun _ =>
      Option.bind (gk_X0_balanceNow N l_q19_1 q19.2) fun q40 =>
      if (q40.1 + a2) ≤ 1000000000000000 then
        Option.bind (gk_bid q40.2 l_q19_1) fun _ =>
        Option.bind (gk_X0_add N l_q19_1 a2 q40.2) fun q62 =>
        Option.bind (gk_X7_bookTo N 4 (-a2) q62.2) fun q69 =>
        some (a2, q69.2)
      else
        Option.bind (gk_X7_refuse N 11 q40.2) fun q55 =>
        some (q55.1, q55.2)
set_option maxRecDepth 20000 in
set_option maxHeartbeats 4000000 in
theorem mk_X7_pay {X : Nat → Prop} {ad0 ad : Nat → Nat} {w : Nat → Value} {h : ym_H} {s : mt_S} {N : Nat} {a1 : Int32} {a2 : Int64} (hB : kt_B X ad0 ad w h s h s) : kt_ok X ad0 h s (fn_X7_pay N (some (ad0 0)) a1 a2 h) (gk_X7_pay N a1 a2 s) := by
  unfold fn_X7_pay gk_X7_pay
  refine kt_roomO hB (fun _ => ?_)
  refine kt_call hB (mk_X7_startAct hB.start) (fun r1 ad w H1 S1 hB => ?_)
  dsimp only
  refine kt_call hB (mk_X7_isSum hB.start) (fun r5 ad w H5 S5 hB => ?_)
  dsimp only
  refine kt_if (fun _ => ?_) (fun _ => ?_)
  · refine kt_roomO hB (fun _ => ?_)
    refine kt_call hB (mk_X7_refuse hB.start) (fun r13 ad w H13 S13 hB => ?_)
    dsimp only
    exact kt_ret hB
  · refine kt_roomO hB (fun _ => ?_)
    refine kt_callm hB (mk_X7_bidderWith hB.start) (fun r19 ad w H19 S19 hB => ?_)
    dsimp only
    cases r19 with
    | none =>
      refine kt_ifT rfl ?_
      try dsimp only [Option.map_some, Option.map_none]
      refine kt_call hB (mk_X7_whyNoBidder hB.start) (fun r31 ad w H31 S31 hB => ?_)
      dsimp only
      refine kt_roomO hB (fun _ => ?_)
      refine kt_call hB (mk_X7_refuse hB.start) (fun r34 ad w H34 S34 hB => ?_)
      dsimp only
      exact kt_ret hB
    | some l_q19_1 =>
      refine kt_ifF (Option.some_ne_none _) ?_
      try dsimp only [Option.map_some, Option.map_none]
      refine kt_bidO hB (fun _ _ => ?_)
      refine kt_call hB (mk_X0_balanceNow (a0 := l_q19_1) hB.start) (fun r40 ad w H40 S40 hB => ?_)
      dsimp only
      refine kt_if (fun _ => ?_) (fun _ => ?_)
      · refine kt_bidO hB (fun _ _ => ?_)
        refine kt_call hB (mk_X0_add (a0 := l_q19_1) hB.start) (fun r62 ad w H62 S62 hB => ?_)
        dsimp only
        refine kt_roomO hB (fun _ => ?_)
        refine kt_call hB (mk_X7_bookTo hB.start) (fun r69 ad w H69 S69 hB => ?_)
        dsimp only
        exact kt_ret hB
      · refine kt_roomO hB (fun _ => ?_)
        refine kt_call hB (mk_X7_refuse hB.start) (fun r55 ad w H55 S55 hB => ?_)
        dsimp only
        exact kt_ret hB
