def gkb_X3_note_95 (N : Nat) (w1 : Nat) (w2 : Int32) (w3 : Int64) (s : mt_S) : Option (Unit × mt_S) :=
  Option.bind (gk_cel s w1) fun _ =>
  Option.bind (gk_whoW s (s.1 4 0) w1) fun t104 =>
  Option.bind (gk_stI t104 10 (t104.2.2 6) (t104.1 4 0) w2) fun t114 =>
  Option.bind (gk_stL t114 22 (t114.2.2 7) (t114.1 4 0) w3) fun t124 =>
  Option.bind (gm_pI t124 4 ((t124.1 4 0) + 1)) fun t132 =>
  some ((), t132)
set_option maxRecDepth 20000 in
set_option maxHeartbeats 4000000 in
theorem mk_bl_X3_note_95 {X : Nat → Prop} {ad0 ad : Nat → Nat} {w : Nat → Value} {H0 h : ym_H} {S0 s : mt_S} {N : Nat} {w1 : Nat} {w2 : Int32} {w3 : Int64} (hB : kt_B X ad0 ad w H0 S0 h s) : kt_ok X ad0 H0 S0 (bl_X3_note_95 N (some (ad0 1)) (some (ad0 (1000 + w1))) w2 w3 h) (gkb_X3_note_95 N w1 w2 w3 s) := by
  unfold bl_X3_note_95 gkb_X3_note_95
  refine kt_jour0 hB ?_
  refine kt_jour3 hB ?_
  refine kt_celO hB (fun _ _ => ?_)
  refine kt_whoW hB (fun w h104 t104 hB => ?_)
  refine kt_jour1 hB ?_
  refine kt_jour3 hB ?_
  refine kt_whereW hB (fun h114 t114 hB => ?_)
  refine kt_jour2 hB ?_
  refine kt_jour3 hB ?_
  refine kt_beforeW hB (fun h124 t124 hB => ?_)
  refine kt_jour3 hB ?_
  refine kt_jour3W hB (fun h132 t132 hB => ?_)
  exact kt_ret hB
def gk_X3_note (N : Nat) (a1 : Nat) (a2 : Int32) (a3 : Int64) (s : mt_S) : Option (Unit × mt_S) :=
  if (s.1 5 0) = 0 then
    some ((), s)
  else
    if (s.1 4 0) < 65536 then
      if (s.1 4 0) < (Int32.ofNat (s.2.2 0)) then
        gkb_X3_note_95 N a1 a2 a3 s
      else
        Option.bind (gk_growH s) fun t58 =>
        Option.bind (gk_growW t58 (2 * (t58.1 4 0))) fun t75 =>
        Option.bind (gk_growB t75 (2 * (t75.1 4 0))) fun t92 =>
        gkb_X3_note_95 N a1 a2 a3 t92
    else
      some ((), s)
set_option maxRecDepth 20000 in
set_option maxHeartbeats 4000000 in
theorem mk_X3_note {X : Nat → Prop} {ad0 ad : Nat → Nat} {w : Nat → Value} {h : ym_H} {s : mt_S} {N : Nat} {a1 : Nat} {a2 : Int32} {a3 : Int64} (hB : kt_B X ad0 ad w h s h s) : kt_ok X ad0 h s (fn_X3_note N (some (ad0 1)) (some (ad0 (1000 + a1))) a2 a3 h) (gk_X3_note N a1 a2 a3 s) := by
  unfold fn_X3_note gk_X3_note
  refine kt_jour5 hB ?_
  refine kt_if (fun _ => ?_) (fun _ => ?_)
  · exact kt_ret hB
  · refine kt_jour3 hB ?_
    refine kt_if (fun _ => ?_) (fun _ => ?_)
    · refine kt_jour3 hB ?_
      refine kt_jour0 hB ?_
      refine kt_wlen hB ?_
      refine kt_if (fun _ => ?_) (fun _ => ?_)
      · exact mk_bl_X3_note_95 (w1 := a1) hB
      · refine kt_jour3 hB ?_
        refine kt_growH hB (fun ad w h58 t58 hB => ?_)
        refine kt_jour1 hB ?_
        refine kt_jour3 hB ?_
        refine kt_growW hB (fun ad h75 t75 hB => ?_)
        refine kt_jour2 hB ?_
        refine kt_jour3 hB ?_
        refine kt_growB hB (fun ad h92 t92 hB => ?_)
        exact mk_bl_X3_note_95 (w1 := a1) hB
    · exact kt_ret hB
def gkb_X2_put_45 (N : Nat) (w0 : Nat) (w1 : Int32) (w2 : Int64) (s : mt_S) : Option (Unit × mt_S) :=
  Option.bind (gk_cel s w0) fun _ =>
  Option.bind (gk_cel s w0) fun _ =>
  Option.bind (gk_ldL s (100 + w0) (s.2.2 (100 + w0)) w1) fun v56 =>
  Option.bind (gk_X3_note N w0 w1 v56 s) fun q57 =>
  Option.bind (gk_cel q57.2 w0) fun _ =>
  Option.bind (gk_stL q57.2 (100 + w0) (q57.2.2.2 (100 + w0)) w1 w2) fun t66 =>
  some ((), t66)
set_option maxRecDepth 20000 in
set_option maxHeartbeats 4000000 in
theorem mk_bl_X2_put_45 {X : Nat → Prop} {ad0 ad : Nat → Nat} {w : Nat → Value} {H0 h : ym_H} {S0 s : mt_S} {N : Nat} {w0 : Nat} {w1 : Int32} {w2 : Int64} (hB : kt_B X ad0 ad w H0 S0 h s) : kt_ok X ad0 H0 S0 (bl_X2_put_45 N (some (ad0 (1000 + w0))) w1 w2 h) (gkb_X2_put_45 N w0 w1 w2 s) := by
  unfold bl_X2_put_45 gkb_X2_put_45
  refine kt_cel0 hB (fun hc46 => ?_)
  refine kt_cel1 hB (fun hc52 => ?_)
  refine kt_val hB hc52 (fun v56 => ?_)
  refine kt_jourO hB (fun _ => ?_)
  refine kt_call hB (mk_X3_note (a1 := w0) hB.start) (fun r57 ad w H57 S57 hB => ?_)
  dsimp only
  refine kt_cel1 hB (fun hc61 => ?_)
  refine kt_valW hB hc61 (fun h66 t66 hB => ?_)
  exact kt_ret hB
def gk_X2_put (N : Nat) (a0 : Nat) (a1 : Int32) (a2 : Int64) (s : mt_S) : Option (Unit × mt_S) :=
  if a1 < 0 then
    some ((), s)
  else
    if a1 < 4096 then
      Option.bind (gk_cel s a0) fun _ =>
      if a1 < (Int32.ofNat (s.2.2 (100 + a0))) then
        gkb_X2_put_45 N a0 a1 a2 s
      else
        Option.bind (gk_cel s a0) fun _ =>
        Option.bind (gk_cel s a0) fun _ =>
        Option.bind (gk_growV s a0 (if (a1 + 1) < (2 * (Int32.ofNat (s.2.2 (100 + a0)))) then (2 * (Int32.ofNat (s.2.2 (100 + a0)))) else (a1 + 1))) fun t42 =>
        gkb_X2_put_45 N a0 a1 a2 t42
    else
      some ((), s)
set_option maxRecDepth 20000 in
set_option maxHeartbeats 4000000 in
theorem mk_X2_put {X : Nat → Prop} {ad0 ad : Nat → Nat} {w : Nat → Value} {h : ym_H} {s : mt_S} {N : Nat} {a0 : Nat} {a1 : Int32} {a2 : Int64} (hB : kt_B X ad0 ad w h s h s) : kt_ok X ad0 h s (fn_X2_put N (some (ad0 (1000 + a0))) a1 a2 h) (gk_X2_put N a0 a1 a2 s) := by
  unfold fn_X2_put gk_X2_put
  refine kt_if (fun _ => ?_) (fun _ => ?_)
  · exact kt_ret hB
  · refine kt_if (fun _ => ?_) (fun _ => ?_)
    · refine kt_cel1 hB (fun hc14 => ?_)
      refine kt_vlen hB hc14 ?_
      refine kt_if (fun _ => ?_) (fun _ => ?_)
      · exact mk_bl_X2_put_45 (w0 := a0) hB
      · refine kt_cel1 hB (fun hc23 => ?_)
        refine kt_cel1 hB (fun hc31 => ?_)
        refine kt_vlen hB hc31 ?_
        refine kt_growV hB (fun ad h42 t42 hB => ?_)
        exact mk_bl_X2_put_45 (w0 := a0) hB
    · exact kt_ret hB
def gk_X0_add (N : Nat) (a0 : Nat) (a1 : Int64) (s : mt_S) : Option (Unit × mt_S) :=
  Option.bind (gk_bid s a0) fun _ =>
  Option.bind (gk_bid s a0) fun _ =>
  Option.bind (gk_cel s (3 + a0)) fun _ =>
  Option.bind (gk_X2_get N (3 + a0) 0 s) fun q10 =>
  Option.bind (gk_cel q10.2 (3 + a0)) fun _ =>
  Option.bind (gk_X2_put N (3 + a0) 0 (q10.1 + a1) q10.2) fun q15 =>
  some ((), q15.2)
set_option maxRecDepth 20000 in
set_option maxHeartbeats 4000000 in
theorem mk_X0_add {X : Nat → Prop} {ad0 ad : Nat → Nat} {w : Nat → Value} {h : ym_H} {s : mt_S} {N : Nat} {a0 : Nat} {a1 : Int64} (hB : kt_B X ad0 ad w h s h s) : kt_ok X ad0 h s (fn_X0_add N (some (ad0 (11000 + a0))) a1 h) (gk_X0_add N a0 a1 s) := by
  unfold fn_X0_add gk_X0_add
  refine kt_bid3 hB (fun hc1 => ?_)
  refine kt_bid3 hB (fun hc6 => ?_)
  refine kt_celO hB (fun _ _ => ?_)
  refine kt_call hB (mk_X2_get (a0 := (3 + a0)) hB.start) (fun r10 ad w H10 S10 hB => ?_)
  dsimp only
  refine kt_celO hB (fun _ _ => ?_)
  refine kt_call hB (mk_X2_put (a0 := (3 + a0)) hB.start) (fun r15 ad w H15 S15 hB => ?_)
  dsimp only
  exact kt_ret hB
def gk_X0_balanceNow (N : Nat) (a0 : Nat) (s : mt_S) : Option (Int64 × mt_S) :=
  Option.bind (gk_bid s a0) fun _ =>
  Option.bind (gk_cel s (3 + a0)) fun _ =>
  Option.bind (gk_X2_get N (3 + a0) 0 s) fun q5 =>
  some (q5.1, q5.2)
set_option maxRecDepth 20000 in
set_option maxHeartbeats 4000000 in
theorem mk_X0_balanceNow {X : Nat → Prop} {ad0 ad : Nat → Nat} {w : Nat → Value} {h : ym_H} {s : mt_S} {N : Nat} {a0 : Nat} (hB : kt_B X ad0 ad w h s h s) : kt_ok X ad0 h s (fn_X0_balanceNow N (some (ad0 (11000 + a0))) h) (gk_X0_balanceNow N a0 s) := by
  unfold fn_X0_balanceNow gk_X0_balanceNow
  refine kt_bid3 hB (fun hc1 => ?_)
  refine kt_celO hB (fun _ _ => ?_)
  refine kt_call hB (mk_X2_get (a0 := (3 + a0)) hB.start) (fun r5 ad w H5 S5 hB => ?_)
  dsimp only
  exact kt_ret hB
def gk_X0_isPaper (N : Nat) (a0 : Nat) (s : mt_S) : Option (Int32 × mt_S) :=
  Option.bind (gk_bid s a0) fun _ =>
  if (s.1 9 a0) = 2 then
    some (1, s)
  else
    Option.bind (gk_bid s a0) fun _ =>
    if (s.1 9 a0) = 3 then
      some (1, s)
    else
      some (0, s)
set_option maxRecDepth 20000 in
set_option maxHeartbeats 4000000 in
theorem mk_X0_isPaper {X : Nat → Prop} {ad0 ad : Nat → Nat} {w : Nat → Value} {h : ym_H} {s : mt_S} {N : Nat} {a0 : Nat} (hB : kt_B X ad0 ad w h s h s) : kt_ok X ad0 h s (fn_X0_isPaper N (some (ad0 (11000 + a0))) h) (gk_X0_isPaper N a0 s) := by
  unfold fn_X0_isPaper gk_X0_isPaper
  refine kt_bid0 hB (fun hc1 => ?_)
  refine kt_if (fun _ => ?_) (fun _ => ?_)
  · exact kt_ret hB
  · refine kt_bid0 hB (fun hc9 => ?_)
    refine kt_if (fun _ => ?_) (fun _ => ?_)
    · exact kt_ret hB
    · exact kt_ret hB
def gk_X1_run (N : Nat) (a1 : Int32) (s : mt_S) : Option (Unit × mt_S) :=
  if (s.1 3 0) < 0 then
    some ((), s)
  else
    if (s.1 3 0) < (Int32.ofNat 200) then
      Option.bind (gk_stI s 6 200 (s.1 3 0) a1) fun t29 =>
      Option.bind (gm_pI t29 3 ((t29.1 3 0) + 1)) fun t37 =>
      some ((), t37)
    else
      some ((), s)
set_option maxRecDepth 20000 in
set_option maxHeartbeats 4000000 in
theorem mk_X1_run {X : Nat → Prop} {ad0 ad : Nat → Nat} {w : Nat → Value} {h : ym_H} {s : mt_S} {N : Nat} {a1 : Int32} (hB : kt_B X ad0 ad w h s h s) : kt_ok X ad0 h s (fn_X1_run N (some (ad0 2)) a1 h) (gk_X1_run N a1 s) := by
  unfold fn_X1_run gk_X1_run
  refine kt_bod2 hB ?_
  refine kt_if (fun _ => ?_) (fun _ => ?_)
  · exact kt_ret hB
  · refine kt_bod2 hB ?_
    refine kt_bod1 hB ?_
    refine kt_slen hB (key := 7) (n := 200) (Or.inr (Or.inr (Or.inl ⟨rfl, rfl⟩))) ?_
    refine kt_if (fun _ => ?_) (fun _ => ?_)
    · refine kt_bod1 hB ?_
      refine kt_bod2 hB ?_
      refine kt_ranW hB (fun h29 t29 hB => ?_)
      refine kt_bod2 hB ?_
      refine kt_bod2W hB (fun h37 t37 hB => ?_)
      exact kt_ret hB
    · exact kt_ret hB
def gk_X4_wasOpened (N : Nat) (a0 : Nat) (s : mt_S) : Option (Int32 × mt_S) :=
  Option.bind (gk_lot s a0) fun _ =>
  Option.bind (gk_cel s (203 + 4 * a0)) fun _ =>
  Option.bind (gk_X2_get N (203 + 4 * a0) 4 s) fun q5 =>
  if q5.1 = 0 then
    some (0, q5.2)
  else
    some (1, q5.2)
set_option maxRecDepth 20000 in
set_option maxHeartbeats 4000000 in
theorem mk_X4_wasOpened {X : Nat → Prop} {ad0 ad : Nat → Nat} {w : Nat → Value} {h : ym_H} {s : mt_S} {N : Nat} {a0 : Nat} (hB : kt_B X ad0 ad w h s h s) : kt_ok X ad0 h s (fn_X4_wasOpened N (some (ad0 (10000 + a0))) h) (gk_X4_wasOpened N a0 s) := by
  unfold fn_X4_wasOpened gk_X4_wasOpened
  refine kt_lot2 hB (fun hc1 => ?_)
  refine kt_celO hB (fun _ _ => ?_)
  refine kt_call hB (mk_X2_get (a0 := (203 + 4 * a0)) hB.start) (fun r5 ad w H5 S5 hB => ?_)
  dsimp only
  refine kt_if (fun _ => ?_) (fun _ => ?_)
  · exact kt_ret hB
  · exact kt_ret hB
def gk_X5_rows (N : Nat) (a0 : Nat) (s : mt_S) : Option (Int32 × mt_S) :=
  Option.bind (gk_she s a0) fun _ =>
  Option.bind (gk_cel s a0) fun _ =>
  Option.bind (gk_X2_get N a0 0 s) fun q5 =>
  some ((Int64.toInt32 q5.1), q5.2)
set_option maxRecDepth 20000 in
set_option maxHeartbeats 4000000 in
theorem mk_X5_rows {X : Nat → Prop} {ad0 ad : Nat → Nat} {w : Nat → Value} {h : ym_H} {s : mt_S} {N : Nat} {a0 : Nat} (hB : kt_B X ad0 ad w h s h s) : kt_ok X ad0 h s (fn_X5_rows N (some (ad0 (7000 + a0))) h) (gk_X5_rows N a0 s) := by
  unfold fn_X5_rows gk_X5_rows
  refine kt_she0 hB (fun hc1 => ?_)
  refine kt_celO hB (fun _ _ => ?_)
  refine kt_call hB (mk_X2_get (a0 := a0) hB.start) (fun r5 ad w H5 S5 hB => ?_)
  dsimp only
  exact kt_ret hB
def gk_X5_at (N : Nat) (a0 : Nat) (a1 : Int32) (a2 : Int32) (s : mt_S) : Option (Int64 × mt_S) :=
  Option.bind (gk_she s a0) fun _ =>
  Option.bind (gk_she s a0) fun _ =>
  Option.bind (gk_cel s a0) fun _ =>
  Option.bind (gk_X2_get N a0 ((1 + (a1 * (kt_w a0))) + a2) s) fun q14 =>
  some (q14.1, q14.2)
set_option maxRecDepth 20000 in
set_option maxHeartbeats 4000000 in
theorem mk_X5_at {X : Nat → Prop} {ad0 ad : Nat → Nat} {w : Nat → Value} {h : ym_H} {s : mt_S} {N : Nat} {a0 : Nat} {a1 : Int32} {a2 : Int32} (hB : kt_B X ad0 ad w h s h s) : kt_ok X ad0 h s (fn_X5_at N (some (ad0 (7000 + a0))) a1 a2 h) (gk_X5_at N a0 a1 a2 s) := by
  unfold fn_X5_at gk_X5_at
  refine kt_she0 hB (fun hc1 => ?_)
  refine kt_she1 hB (fun hc7 => ?_)
  refine kt_celO hB (fun _ _ => ?_)
  refine kt_call hB (mk_X2_get (a0 := a0) hB.start) (fun r14 ad w H14 S14 hB => ?_)
  dsimp only
  exact kt_ret hB
def gk_X4_standingBidder (N : Nat) (a0 : Nat) (s : mt_S) : Option (Int32 × mt_S) :=
  Option.bind (gk_lot s a0) fun _ =>
  if (s.1 8 a0) = 4 then
    Option.bind (gk_lot s a0) fun _ =>
    Option.bind (gk_X4_wasOpened N a0 s) fun q9 =>
    if q9.1 = 0 then
      some ((-1), q9.2)
    else
      Option.bind (gk_lot q9.2 a0) fun _ =>
      Option.bind (gk_cel q9.2 (203 + 4 * a0)) fun _ =>
      Option.bind (gk_X2_get N (203 + 4 * a0) 5 q9.2) fun q20 =>
      some ((Int64.toInt32 q20.1), q20.2)
  else
    Option.bind (gk_lot s a0) fun _ =>
    Option.bind (gk_she s (204 + 4 * a0)) fun _ =>
    Option.bind (gk_X5_rows N (204 + 4 * a0) s) fun q33 =>
    if q33.1 = 0 then
      some ((-1), q33.2)
    else
      Option.bind (gk_lot q33.2 a0) fun _ =>
      Option.bind (gk_lot q33.2 a0) fun _ =>
      Option.bind (gk_she q33.2 (204 + 4 * a0)) fun _ =>
      Option.bind (gk_X5_rows N (204 + 4 * a0) q33.2) fun q51 =>
      Option.bind (gk_she q51.2 (204 + 4 * a0)) fun _ =>
      Option.bind (gk_X5_at N (204 + 4 * a0) (q51.1 - 1) 0 q51.2) fun q57 =>
      some ((Int64.toInt32 q57.1), q57.2)
set_option maxRecDepth 20000 in
set_option maxHeartbeats 4000000 in
theorem mk_X4_standingBidder {X : Nat → Prop} {ad0 ad : Nat → Nat} {w : Nat → Value} {h : ym_H} {s : mt_S} {N : Nat} {a0 : Nat} (hB : kt_B X ad0 ad w h s h s) : kt_ok X ad0 h s (fn_X4_standingBidder N (some (ad0 (10000 + a0))) h) (gk_X4_standingBidder N a0 s) := by
  unfold fn_X4_standingBidder gk_X4_standingBidder
  refine kt_lot0 hB (fun hc1 => ?_)
  refine kt_if (fun _ => ?_) (fun _ => ?_)
  · refine kt_lotO hB (fun _ _ => ?_)
    refine kt_call hB (mk_X4_wasOpened (a0 := a0) hB.start) (fun r9 ad w H9 S9 hB => ?_)
    dsimp only
    refine kt_if (fun _ => ?_) (fun _ => ?_)
    · exact kt_ret hB
    · refine kt_lot2 hB (fun hc16 => ?_)
      refine kt_celO hB (fun _ _ => ?_)
      refine kt_call hB (mk_X2_get (a0 := (203 + 4 * a0)) hB.start) (fun r20 ad w H20 S20 hB => ?_)
      dsimp only
      exact kt_ret hB
  · refine kt_lot3 hB (fun hc30 => ?_)
    refine kt_sheO hB (fun _ _ => ?_)
    refine kt_call hB (mk_X5_rows (a0 := (204 + 4 * a0)) hB.start) (fun r33 ad w H33 S33 hB => ?_)
    dsimp only
    refine kt_if (fun _ => ?_) (fun _ => ?_)
    · exact kt_ret hB
    · refine kt_lot3 hB (fun hc44 => ?_)
      refine kt_lot3 hB (fun hc48 => ?_)
      refine kt_sheO hB (fun _ _ => ?_)
      refine kt_call hB (mk_X5_rows (a0 := (204 + 4 * a0)) hB.start) (fun r51 ad w H51 S51 hB => ?_)
      dsimp only
      refine kt_sheO hB (fun _ _ => ?_)
      refine kt_call hB (mk_X5_at (a0 := (204 + 4 * a0)) hB.start) (fun r57 ad w H57 S57 hB => ?_)
      dsimp only
      exact kt_ret hB
def gk_X4_startNow (N : Nat) (a0 : Nat) (s : mt_S) : Option (Int64 × mt_S) :=
  Option.bind (gk_lot s a0) fun _ =>
  Option.bind (gk_cel s (203 + 4 * a0)) fun _ =>
  Option.bind (gk_X2_get N (203 + 4 * a0) 0 s) fun q5 =>
  some (q5.1, q5.2)
set_option maxRecDepth 20000 in
set_option maxHeartbeats 4000000 in
theorem mk_X4_startNow {X : Nat → Prop} {ad0 ad : Nat → Nat} {w : Nat → Value} {h : ym_H} {s : mt_S} {N : Nat} {a0 : Nat} (hB : kt_B X ad0 ad w h s h s) : kt_ok X ad0 h s (fn_X4_startNow N (some (ad0 (10000 + a0))) h) (gk_X4_startNow N a0 s) := by
  unfold fn_X4_startNow gk_X4_startNow
  refine kt_lot2 hB (fun hc1 => ?_)
  refine kt_celO hB (fun _ _ => ?_)
  refine kt_call hB (mk_X2_get (a0 := (203 + 4 * a0)) hB.start) (fun r5 ad w H5 S5 hB => ?_)
  dsimp only
  exact kt_ret hB
def gk_X4_standingSum (N : Nat) (a0 : Nat) (s : mt_S) : Option (Int64 × mt_S) :=
  Option.bind (gk_lot s a0) fun _ =>
  if (s.1 8 a0) = 4 then
    Option.bind (gk_lot s a0) fun _ =>
    Option.bind (gk_X4_wasOpened N a0 s) fun q9 =>
    if q9.1 = 0 then
      some (0, q9.2)
    else
      Option.bind (gk_lot q9.2 a0) fun _ =>
      Option.bind (gk_cel q9.2 (203 + 4 * a0)) fun _ =>
      Option.bind (gk_X2_get N (203 + 4 * a0) 6 q9.2) fun q21 =>
      some (q21.1, q21.2)
  else
    Option.bind (gk_lot s a0) fun _ =>
    Option.bind (gk_she s (204 + 4 * a0)) fun _ =>
    Option.bind (gk_X5_rows N (204 + 4 * a0) s) fun q33 =>
    if q33.1 = 0 then
      some (0, q33.2)
    else
      Option.bind (gk_lot q33.2 a0) fun _ =>
      Option.bind (gk_lot q33.2 a0) fun _ =>
      Option.bind (gk_she q33.2 (204 + 4 * a0)) fun _ =>
      Option.bind (gk_X5_rows N (204 + 4 * a0) q33.2) fun q51 =>
      Option.bind (gk_she q51.2 (204 + 4 * a0)) fun _ =>
      Option.bind (gk_X5_at N (204 + 4 * a0) (q51.1 - 1) 1 q51.2) fun q57 =>
      some (q57.1, q57.2)
set_option maxRecDepth 20000 in
set_option maxHeartbeats 4000000 in
theorem mk_X4_standingSum {X : Nat → Prop} {ad0 ad : Nat → Nat} {w : Nat → Value} {h : ym_H} {s : mt_S} {N : Nat} {a0 : Nat} (hB : kt_B X ad0 ad w h s h s) : kt_ok X ad0 h s (fn_X4_standingSum N (some (ad0 (10000 + a0))) h) (gk_X4_standingSum N a0 s) := by
  unfold fn_X4_standingSum gk_X4_standingSum
  refine kt_lot0 hB (fun hc1 => ?_)
  refine kt_if (fun _ => ?_) (fun _ => ?_)
  · refine kt_lotO hB (fun _ _ => ?_)
    refine kt_call hB (mk_X4_wasOpened (a0 := a0) hB.start) (fun r9 ad w H9 S9 hB => ?_)
    dsimp only
    refine kt_if (fun _ => ?_) (fun _ => ?_)
    · exact kt_ret hB
    · refine kt_lot2 hB (fun hc16 => ?_)
      refine kt_celO hB (fun _ _ => ?_)
      refine kt_call hB (mk_X2_get (a0 := (203 + 4 * a0)) hB.start) (fun r21 ad w H21 S21 hB => ?_)
      dsimp only
      exact kt_ret hB
  · refine kt_lot3 hB (fun hc30 => ?_)
    refine kt_sheO hB (fun _ _ => ?_)
    refine kt_call hB (mk_X5_rows (a0 := (204 + 4 * a0)) hB.start) (fun r33 ad w H33 S33 hB => ?_)
    dsimp only
    refine kt_if (fun _ => ?_) (fun _ => ?_)
    · exact kt_ret hB
    · refine kt_lot3 hB (fun hc44 => ?_)
      refine kt_lot3 hB (fun hc48 => ?_)
      refine kt_sheO hB (fun _ _ => ?_)
      refine kt_call hB (mk_X5_rows (a0 := (204 + 4 * a0)) hB.start) (fun r51 ad w H51 S51 hB => ?_)
      dsimp only
      refine kt_sheO hB (fun _ _ => ?_)
      refine kt_call hB (mk_X5_at (a0 := (204 + 4 * a0)) hB.start) (fun r57 ad w H57 S57 hB => ?_)
      dsimp only
      exact kt_ret hB
def gkl_X6_after_14 (Kl : Nat → Int64 → Int64 → Int32 → Int32 → mt_S → Option ((Int64) × mt_S)) (N : Nat) (w0 : Nat) (w1 : Int64) (w3 : Int64) (w5 : Int32) (w6 : Int32) (s : mt_S) : Option ((Int64) × mt_S) :=
  if w5 ≤ w6 then
    some (w3, s)
  else
    Option.bind (gk_tab s w0) fun _ =>
    Option.bind (gk_she s w0) fun _ =>
    Option.bind (gk_X5_at N w0 w6 0 s) fun q28 =>
    if w1 < q28.1 then
      some (w3, q28.2)
    else
      Option.bind (gk_tab q28.2 w0) fun _ =>
      Option.bind (gk_she q28.2 w0) fun _ =>
      Option.bind (gk_X5_at N w0 w6 1 q28.2) fun q43 =>
      Kl w0 w1 q43.1 w5 (w6 + 1) q43.2
set_option maxRecDepth 20000 in
set_option maxHeartbeats 4000000 in
theorem mk_lb_X6_after_14 {X : Nat → Prop} {ad0 ad : Nat → Nat} {w : Nat → Value} {H0 h : ym_H} {S0 s : mt_S} {K : Option Nat → Int64 → Int64 → Int32 → Int32 → ym_H → Option ((Int64) × ym_H)} {Kl : Nat → Int64 → Int64 → Int32 → Int32 → mt_S → Option ((Int64) × mt_S)} (hKl : ∀ (w0 : Nat) (w1 : Int64) (w3 : Int64) (w5 : Int32) (w6 : Int32) (ad : Nat → Nat) (w : Nat → Value) (h : ym_H) (s : mt_S), kt_B X ad0 ad w H0 S0 h s → kt_ok X ad0 H0 S0 (K (some (ad0 (2 + w0))) w1 w3 w5 w6 h) (Kl w0 w1 w3 w5 w6 s)) {N : Nat} {w0 : Nat} {w1 : Int64} {w3 : Int64} {w5 : Int32} {w6 : Int32} (hB : kt_B X ad0 ad w H0 S0 h s) : kt_ok X ad0 H0 S0 (lb_X6_after_14 K N (some (ad0 (2 + w0))) w1 w3 w5 w6 h) (gkl_X6_after_14 Kl N w0 w1 w3 w5 w6 s) := by
  unfold lb_X6_after_14 gkl_X6_after_14
  refine kt_if (fun _ => ?_) (fun _ => ?_)
  · exact kt_ret hB
  · refine kt_tab0 hB (fun hc22 => ?_)
    refine kt_sheO hB (fun _ _ => ?_)
    refine kt_call hB (mk_X5_at (a0 := w0) hB.start) (fun r28 ad w H28 S28 hB => ?_)
    dsimp only
    refine kt_if (fun _ => ?_) (fun _ => ?_)
    · exact kt_ret hB
    · refine kt_tab0 hB (fun hc37 => ?_)
      refine kt_sheO hB (fun _ _ => ?_)
      refine kt_call hB (mk_X5_at (a0 := w0) hB.start) (fun r43 ad w H43 S43 hB => ?_)
      dsimp only
      exact hKl w0 _ _ _ _ _ _ _ _ hB
def gkp_X6_after_14 (N : Nat) : Nat → Nat → Int64 → Int64 → Int32 → Int32 → mt_S → Option ((Int64) × mt_S)
  | 0, _, _, _, _, _, _ => none
  | n + 1, w0, w1, w3, w5, w6, s => gkl_X6_after_14 (gkp_X6_after_14 N n) N w0 w1 w3 w5 w6 s
theorem mk_lp_X6_after_14 {X : Nat → Prop} {ad0 : Nat → Nat} {H0 : ym_H} {S0 : mt_S} {N : Nat} : ∀ (n : Nat) (ad : Nat → Nat) (w : Nat → Value) (h : ym_H) (s : mt_S) (w0 : Nat) (w1 : Int64) (w3 : Int64) (w5 : Int32) (w6 : Int32), kt_B X ad0 ad w H0 S0 h s → kt_ok X ad0 H0 S0 (lp_X6_after_14 N n (some (ad0 (2 + w0))) w1 w3 w5 w6 h) (gkp_X6_after_14 N n w0 w1 w3 w5 w6 s) := by
  intro n
  induction n with
  | zero => intro ad w h s w0 w1 w3 w5 w6 hB; exact kt_no
  | succ n ih =>
    intro ad w h s w0 w1 w3 w5 w6 hB
    exact mk_lb_X6_after_14 (fun w0 w1 w3 w5 w6 ad w h s hB => ih ad w h s w0 w1 w3 w5 w6 hB) hB
def gk_X6_after (N : Nat) (a0 : Nat) (a1 : Int64) (s : mt_S) : Option (Int64 × mt_S) :=
  Option.bind (gk_tab s a0) fun _ =>
  Option.bind (gk_she s a0) fun _ =>
  Option.bind (gk_X5_rows N a0 s) fun q6 =>
  Option.bind (gkp_X6_after_14 N N a0 a1 1 q6.1 0 q6.2) fun q14 =>
  some ((a1 + q14.1), q14.2)
set_option maxRecDepth 20000 in
set_option maxHeartbeats 4000000 in
theorem mk_X6_after {X : Nat → Prop} {ad0 ad : Nat → Nat} {w : Nat → Value} {h : ym_H} {s : mt_S} {N : Nat} {a0 : Nat} {a1 : Int64} (hB : kt_B X ad0 ad w h s h s) : kt_ok X ad0 h s (fn_X6_after N (some (ad0 (2 + a0))) a1 h) (gk_X6_after N a0 a1 s) := by
  unfold fn_X6_after gk_X6_after
  refine kt_tab0 hB (fun hc3 => ?_)
  refine kt_sheO hB (fun _ _ => ?_)
  refine kt_call hB (mk_X5_rows (a0 := a0) hB.start) (fun r6 ad w H6 S6 hB => ?_)
  dsimp only
  refine kt_call hB (mk_lp_X6_after_14 N _ _ _ _ a0 _ _ _ _ hB.start) (fun r14 ad w H14 S14 hB => ?_)
  dsimp only
  exact kt_ret hB
def gkb_X1_askFor_61 (N : Nat) (w1 : Nat) (s0 : Int32) (s : mt_S) : Option (Int64 × mt_S) :=
  if s0 = 0 then
    Option.bind (gk_lot s w1) fun _ =>
    Option.bind (gk_X4_standingSum N w1 s) fun q78 =>
    Option.bind (gk_tab q78.2 1) fun _ =>
    Option.bind (gk_X6_after N 1 q78.1 q78.2) fun q81 =>
    some (q81.1, q81.2)
  else
    Option.bind (gk_lot s w1) fun _ =>
    Option.bind (gk_X4_startNow N w1 s) fun q67 =>
    some (q67.1, q67.2)
set_option maxRecDepth 20000 in
set_option maxHeartbeats 4000000 in
theorem mk_bl_X1_askFor_61 {X : Nat → Prop} {ad0 ad : Nat → Nat} {w : Nat → Value} {H0 h : ym_H} {S0 s : mt_S} {N : Nat} {w1 : Nat} {s0 : Int32} (hB : kt_B X ad0 ad w H0 S0 h s) : kt_ok X ad0 H0 S0 (bl_X1_askFor_61 N (some (ad0 2)) (some (ad0 (10000 + w1))) s0 h) (gkb_X1_askFor_61 N w1 s0 s) := by
  unfold bl_X1_askFor_61 gkb_X1_askFor_61
  refine kt_if (fun _ => ?_) (fun _ => ?_)
  · refine kt_bod0 hB ?_
    refine kt_lotO hB (fun _ _ => ?_)
    refine kt_call hB (mk_X4_standingSum (a0 := w1) hB.start) (fun r78 ad w H78 S78 hB => ?_)
    dsimp only
    refine kt_tabO hB (fun _ _ => ?_)
    refine kt_call hB (mk_X6_after (a0 := 1) hB.start) (fun r81 ad w H81 S81 hB => ?_)
    dsimp only
    exact kt_ret hB
  · refine kt_lotO hB (fun _ _ => ?_)
    refine kt_call hB (mk_X4_startNow (a0 := w1) hB.start) (fun r67 ad w H67 S67 hB => ?_)
    dsimp only
    exact kt_ret hB
def gkb_X1_askFor_56 (N : Nat) (w1 : Nat) (s : mt_S) : Option (Int64 × mt_S) :=
  gkb_X1_askFor_61 N w1 1 s
set_option maxRecDepth 20000 in
set_option maxHeartbeats 4000000 in
theorem mk_bl_X1_askFor_56 {X : Nat → Prop} {ad0 ad : Nat → Nat} {w : Nat → Value} {H0 h : ym_H} {S0 s : mt_S} {N : Nat} {w1 : Nat} (hB : kt_B X ad0 ad w H0 S0 h s) : kt_ok X ad0 H0 S0 (bl_X1_askFor_56 N (some (ad0 2)) (some (ad0 (10000 + w1))) h) (gkb_X1_askFor_56 N w1 s) := by
  unfold bl_X1_askFor_56 gkb_X1_askFor_56
  exact mk_bl_X1_askFor_61 (w1 := w1) hB
def gkb_X1_askFor_35 (N : Nat) (w1 : Nat) (s : mt_S) : Option (Int64 × mt_S) :=
  Option.bind (gk_X1_run N 1 s) fun q37 =>
  Option.bind (gk_lot q37.2 w1) fun _ =>
  if (q37.2.1 8 w1) = 4 then
    gkb_X1_askFor_56 N w1 q37.2
  else
    Option.bind (gk_lot q37.2 w1) fun _ =>
    Option.bind (gk_X4_standingBidder N w1 q37.2) fun q49 =>
    if q49.1 = (-1) then
      gkb_X1_askFor_56 N w1 q49.2
    else
      gkb_X1_askFor_61 N w1 0 q49.2
set_option maxRecDepth 20000 in
set_option maxHeartbeats 4000000 in
theorem mk_bl_X1_askFor_35 {X : Nat → Prop} {ad0 ad : Nat → Nat} {w : Nat → Value} {H0 h : ym_H} {S0 s : mt_S} {N : Nat} {w1 : Nat} (hB : kt_B X ad0 ad w H0 S0 h s) : kt_ok X ad0 H0 S0 (bl_X1_askFor_35 N (some (ad0 2)) (some (ad0 (10000 + w1))) h) (gkb_X1_askFor_35 N w1 s) := by
  unfold bl_X1_askFor_35 gkb_X1_askFor_35
  refine kt_bodO hB (fun _ => ?_)
  refine kt_call hB (mk_X1_run hB.start) (fun r37 ad w H37 S37 hB => ?_)
  dsimp only
  refine kt_lot0 hB (fun hc41 => ?_)
  refine kt_if (fun _ => ?_) (fun _ => ?_)
  · exact mk_bl_X1_askFor_56 (w1 := w1) hB
  · refine kt_lotO hB (fun _ _ => ?_)
    refine kt_call hB (mk_X4_standingBidder (a0 := w1) hB.start) (fun r49 ad w H49 S49 hB => ?_)
    dsimp only
    refine kt_if (fun _ => ?_) (fun _ => ?_)
    · exact mk_bl_X1_askFor_56 (w1 := w1) hB
    · exact mk_bl_X1_askFor_61 (w1 := w1) hB
def gk_X1_askFor (N : Nat) (a1 : Nat) (s : mt_S) : Option (Int64 × mt_S) :=
  Option.bind (gk_lot s a1) fun _ =>
  if (s.1 8 a1) = 5 then
    Option.bind (gk_X1_run N 3 s) fun q10 =>
    Option.bind (gk_lot q10.2 a1) fun _ =>
    Option.bind (gk_cel q10.2 (203 + 4 * a1)) fun _ =>
    Option.bind (gk_X2_get N (203 + 4 * a1) 3 q10.2) fun q18 =>
    some (q18.1, q18.2)
  else
    Option.bind (gk_lot s a1) fun _ =>
    if (s.1 8 a1) = 4 then
      Option.bind (gk_X1_run N 2 s) fun q32 =>
      gkb_X1_askFor_35 N a1 q32.2
    else
      gkb_X1_askFor_35 N a1 s
set_option maxRecDepth 20000 in
set_option maxHeartbeats 4000000 in
theorem mk_X1_askFor {X : Nat → Prop} {ad0 ad : Nat → Nat} {w : Nat → Value} {h : ym_H} {s : mt_S} {N : Nat} {a1 : Nat} (hB : kt_B X ad0 ad w h s h s) : kt_ok X ad0 h s (fn_X1_askFor N (some (ad0 2)) (some (ad0 (10000 + a1))) h) (gk_X1_askFor N a1 s) := by
  unfold fn_X1_askFor gk_X1_askFor
  refine kt_lot0 hB (fun hc1 => ?_)
  refine kt_if (fun _ => ?_) (fun _ => ?_)
  · refine kt_bodO hB (fun _ => ?_)
    refine kt_call hB (mk_X1_run hB.start) (fun r10 ad w H10 S10 hB => ?_)
    dsimp only
    refine kt_lot2 hB (fun hc14 => ?_)
    refine kt_celO hB (fun _ _ => ?_)
    refine kt_call hB (mk_X2_get (a0 := (203 + 4 * a1)) hB.start) (fun r18 ad w H18 S18 hB => ?_)
    dsimp only
    exact kt_ret hB
  · refine kt_lot0 hB (fun hc23 => ?_)
    refine kt_if (fun _ => ?_) (fun _ => ?_)
    · refine kt_bodO hB (fun _ => ?_)
      refine kt_call hB (mk_X1_run hB.start) (fun r32 ad w H32 S32 hB => ?_)
      dsimp only
      exact mk_bl_X1_askFor_35 (w1 := a1) hB
    · exact mk_bl_X1_askFor_35 (w1 := a1) hB
def gkb_X1_isSold_44 (N : Nat) (w1 : Nat) (w2 : Int32) (s : mt_S) : Option (Int32 × mt_S) :=
  Option.bind (gk_X1_run N 11 s) fun q47 =>
  if w2 = 0 then
    some (0, q47.2)
  else
    Option.bind (gk_lot q47.2 w1) fun _ =>
    Option.bind (gk_X4_standingSum N w1 q47.2) fun q55 =>
    Option.bind (gk_lot q55.2 w1) fun _ =>
    if q55.1 < (q55.2.2.1 20 w1) then
      some (0, q55.2)
    else
      some (1, q55.2)
set_option maxRecDepth 20000 in
set_option maxHeartbeats 4000000 in
theorem mk_bl_X1_isSold_44 {X : Nat → Prop} {ad0 ad : Nat → Nat} {w : Nat → Value} {H0 h : ym_H} {S0 s : mt_S} {N : Nat} {w1 : Nat} {w2 : Int32} (hB : kt_B X ad0 ad w H0 S0 h s) : kt_ok X ad0 H0 S0 (bl_X1_isSold_44 N (some (ad0 2)) (some (ad0 (10000 + w1))) w2 h) (gkb_X1_isSold_44 N w1 w2 s) := by
  unfold bl_X1_isSold_44 gkb_X1_isSold_44
  refine kt_bodO hB (fun _ => ?_)
  refine kt_call hB (mk_X1_run hB.start) (fun r47 ad w H47 S47 hB => ?_)
  dsimp only
  refine kt_if (fun _ => ?_) (fun _ => ?_)
  · exact kt_ret hB
  · refine kt_lotO hB (fun _ _ => ?_)
    refine kt_call hB (mk_X4_standingSum (a0 := w1) hB.start) (fun r55 ad w H55 S55 hB => ?_)
    dsimp only
    refine kt_lot1 hB (fun hc59 => ?_)
    refine kt_if (fun _ => ?_) (fun _ => ?_)
    · exact kt_ret hB
    · exact kt_ret hB
def gkb_X1_isSold_13 (N : Nat) (w1 : Nat) (s0 : Int32) (s : mt_S) : Option (Int32 × mt_S) :=
  Option.bind (gk_lot s w1) fun _ =>
  if (s.1 8 w1) = 5 then
    Option.bind (gk_X1_run N 13 s) fun q25 =>
    if s0 = 0 ∨ s0 = 1 then some (s0, q25.2) else none
  else
    Option.bind (gk_lot s w1) fun _ =>
    if (s.1 8 w1) = 4 then
      Option.bind (gk_X1_run N 12 s) fun q41 =>
      gkb_X1_isSold_44 N w1 s0 q41.2
    else
      gkb_X1_isSold_44 N w1 s0 s
set_option maxRecDepth 20000 in
set_option maxHeartbeats 4000000 in
theorem mk_bl_X1_isSold_13 {X : Nat → Prop} {ad0 ad : Nat → Nat} {w : Nat → Value} {H0 h : ym_H} {S0 s : mt_S} {N : Nat} {w1 : Nat} {s0 : Int32} (hB : kt_B X ad0 ad w H0 S0 h s) : kt_ok X ad0 H0 S0 (bl_X1_isSold_13 N (some (ad0 2)) (some (ad0 (10000 + w1))) s0 h) (gkb_X1_isSold_13 N w1 s0 s) := by
  unfold bl_X1_isSold_13 gkb_X1_isSold_13
  refine kt_lot0 hB (fun hc15 => ?_)
  refine kt_if (fun _ => ?_) (fun _ => ?_)
  · refine kt_bodO hB (fun _ => ?_)
    refine kt_call hB (mk_X1_run hB.start) (fun r25 ad w H25 S25 hB => ?_)
    dsimp only
    exact kt_if (fun _ => kt_ret hB) (fun _ => kt_no)
  · refine kt_lot0 hB (fun hc31 => ?_)
    refine kt_if (fun _ => ?_) (fun _ => ?_)
    · refine kt_bodO hB (fun _ => ?_)
      refine kt_call hB (mk_X1_run hB.start) (fun r41 ad w H41 S41 hB => ?_)
      dsimp only
      exact mk_bl_X1_isSold_44 (w1 := w1) hB
    · exact mk_bl_X1_isSold_44 (w1 := w1) hB
def gk_X1_isSold (N : Nat) (a1 : Nat) (s : mt_S) : Option (Int32 × mt_S) :=
  Option.bind (gk_lot s a1) fun _ =>
  Option.bind (gk_X4_standingBidder N a1 s) fun q1 =>
  if q1.1 = (-1) then
    gkb_X1_isSold_13 N a1 0 q1.2
  else
    gkb_X1_isSold_13 N a1 1 q1.2
set_option maxRecDepth 20000 in
set_option maxHeartbeats 4000000 in
theorem mk_X1_isSold {X : Nat → Prop} {ad0 ad : Nat → Nat} {w : Nat → Value} {h : ym_H} {s : mt_S} {N : Nat} {a1 : Nat} (hB : kt_B X ad0 ad w h s h s) : kt_ok X ad0 h s (fn_X1_isSold N (some (ad0 2)) (some (ad0 (10000 + a1))) h) (gk_X1_isSold N a1 s) := by
  unfold fn_X1_isSold gk_X1_isSold
  refine kt_lotO hB (fun _ _ => ?_)
  refine kt_call hB (mk_X4_standingBidder (a0 := a1) hB.start) (fun r1 ad w H1 S1 hB => ?_)
  dsimp only
  refine kt_if (fun _ => ?_) (fun _ => ?_)
  · exact mk_bl_X1_isSold_13 (w1 := a1) hB
  · exact mk_bl_X1_isSold_13 (w1 := a1) hB
def gk_X1_piecesOf (N : Nat) (a1 : Nat) (s : mt_S) : Option (Int64 × mt_S) :=
  Option.bind (gk_lot s a1) fun _ =>
  if (s.1 8 a1) = 3 then
    Option.bind (gk_X1_run N 6 s) fun q11 =>
    Option.bind (gk_X1_run N 5 q11.2) fun q16 =>
    some (12, q16.2)
  else
    Option.bind (gk_lot s a1) fun _ =>
    if (s.1 8 a1) = 2 then
      Option.bind (gk_X1_run N 5 s) fun q33 =>
      some (2, q33.2)
    else
      Option.bind (gk_X1_run N 4 s) fun q42 =>
      some (1, q42.2)
set_option maxRecDepth 20000 in
set_option maxHeartbeats 4000000 in
theorem mk_X1_piecesOf {X : Nat → Prop} {ad0 ad : Nat → Nat} {w : Nat → Value} {h : ym_H} {s : mt_S} {N : Nat} {a1 : Nat} (hB : kt_B X ad0 ad w h s h s) : kt_ok X ad0 h s (fn_X1_piecesOf N (some (ad0 2)) (some (ad0 (10000 + a1))) h) (gk_X1_piecesOf N a1 s) := by
  unfold fn_X1_piecesOf gk_X1_piecesOf
  refine kt_lot0 hB (fun hc1 => ?_)
  refine kt_if (fun _ => ?_) (fun _ => ?_)
  · refine kt_bodO hB (fun _ => ?_)
    refine kt_call hB (mk_X1_run hB.start) (fun r11 ad w H11 S11 hB => ?_)
    dsimp only
    refine kt_bodO hB (fun _ => ?_)
    refine kt_call hB (mk_X1_run hB.start) (fun r16 ad w H16 S16 hB => ?_)
    dsimp only
    exact kt_ret hB
  · refine kt_lot0 hB (fun hc24 => ?_)
    refine kt_if (fun _ => ?_) (fun _ => ?_)
    · refine kt_bodO hB (fun _ => ?_)
      refine kt_call hB (mk_X1_run hB.start) (fun r33 ad w H33 S33 hB => ?_)
      dsimp only
      exact kt_ret hB
    · refine kt_bodO hB (fun _ => ?_)
      refine kt_call hB (mk_X1_run hB.start) (fun r42 ad w H42 S42 hB => ?_)
      dsimp only
      exact kt_ret hB
def gk_X1_bringsIfSold (N : Nat) (a1 : Nat) (s : mt_S) : Option (Int64 × mt_S) :=
  Option.bind (gk_X1_isSold N a1 s) fun q2 =>
  if q2.1 = 0 then
    some (0, q2.2)
  else
    Option.bind (gk_lot q2.2 a1) fun _ =>
    Option.bind (gk_X4_standingSum N a1 q2.2) fun q9 =>
    Option.bind (gk_X1_piecesOf N a1 q9.2) fun q14 =>
    some ((q9.1 * q14.1), q14.2)
set_option maxRecDepth 20000 in
set_option maxHeartbeats 4000000 in
theorem mk_X1_bringsIfSold {X : Nat → Prop} {ad0 ad : Nat → Nat} {w : Nat → Value} {h : ym_H} {s : mt_S} {N : Nat} {a1 : Nat} (hB : kt_B X ad0 ad w h s h s) : kt_ok X ad0 h s (fn_X1_bringsIfSold N (some (ad0 2)) (some (ad0 (10000 + a1))) h) (gk_X1_bringsIfSold N a1 s) := by
  unfold fn_X1_bringsIfSold gk_X1_bringsIfSold
  refine kt_bodO hB (fun _ => ?_)
  refine kt_call hB (mk_X1_isSold (a1 := a1) hB.start) (fun r2 ad w H2 S2 hB => ?_)
  dsimp only
  refine kt_if (fun _ => ?_) (fun _ => ?_)
  · exact kt_ret hB
  · refine kt_lotO hB (fun _ _ => ?_)
    refine kt_call hB (mk_X4_standingSum (a0 := a1) hB.start) (fun r9 ad w H9 S9 hB => ?_)
    dsimp only
    refine kt_bodO hB (fun _ => ?_)
    refine kt_call hB (mk_X1_piecesOf (a1 := a1) hB.start) (fun r14 ad w H14 S14 hB => ?_)
    dsimp only
    exact kt_ret hB
def gk_X1_forgetTrace (N : Nat)  (s : mt_S) : Option (Unit × mt_S) :=
  Option.bind (gm_pI s 3 0) fun t2 =>
  some ((), t2)
set_option maxRecDepth 20000 in
set_option maxHeartbeats 4000000 in
theorem mk_X1_forgetTrace {X : Nat → Prop} {ad0 ad : Nat → Nat} {w : Nat → Value} {h : ym_H} {s : mt_S} {N : Nat}  (hB : kt_B X ad0 ad w h s h s) : kt_ok X ad0 h s (fn_X1_forgetTrace N (some (ad0 2)) h) (gk_X1_forgetTrace N  s) := by
  unfold fn_X1_forgetTrace gk_X1_forgetTrace
  refine kt_bod2W hB (fun h2 t2 hB => ?_)
  exact kt_ret hB
def gk_X4_stateNow (N : Nat) (a0 : Nat) (s : mt_S) : Option (Int32 × mt_S) :=
  Option.bind (gk_lot s a0) fun _ =>
  Option.bind (gk_cel s (203 + 4 * a0)) fun _ =>
  Option.bind (gk_X2_get N (203 + 4 * a0) 2 s) fun q5 =>
  some ((Int64.toInt32 q5.1), q5.2)
set_option maxRecDepth 20000 in
set_option maxHeartbeats 4000000 in
theorem mk_X4_stateNow {X : Nat → Prop} {ad0 ad : Nat → Nat} {w : Nat → Value} {h : ym_H} {s : mt_S} {N : Nat} {a0 : Nat} (hB : kt_B X ad0 ad w h s h s) : kt_ok X ad0 h s (fn_X4_stateNow N (some (ad0 (10000 + a0))) h) (gk_X4_stateNow N a0 s) := by
  unfold fn_X4_stateNow gk_X4_stateNow
  refine kt_lot2 hB (fun hc1 => ?_)
  refine kt_celO hB (fun _ _ => ?_)
  refine kt_call hB (mk_X2_get (a0 := (203 + 4 * a0)) hB.start) (fun r5 ad w H5 S5 hB => ?_)
  dsimp only
  exact kt_ret hB
def gk_X4_isNewOrCalled (N : Nat) (a0 : Nat) (s : mt_S) : Option (Int32 × mt_S) :=
  Option.bind (gk_lot s a0) fun _ =>
  Option.bind (gk_X4_stateNow N a0 s) fun q1 =>
  if q1.1 = 0 then
    some (1, q1.2)
  else
    Option.bind (gk_lot q1.2 a0) fun _ =>
    Option.bind (gk_X4_stateNow N a0 q1.2) fun q8 =>
    if q8.1 = 1 then
      some (1, q8.2)
    else
      some (0, q8.2)
set_option maxRecDepth 20000 in
set_option maxHeartbeats 4000000 in
theorem mk_X4_isNewOrCalled {X : Nat → Prop} {ad0 ad : Nat → Nat} {w : Nat → Value} {h : ym_H} {s : mt_S} {N : Nat} {a0 : Nat} (hB : kt_B X ad0 ad w h s h s) : kt_ok X ad0 h s (fn_X4_isNewOrCalled N (some (ad0 (10000 + a0))) h) (gk_X4_isNewOrCalled N a0 s) := by
  unfold fn_X4_isNewOrCalled gk_X4_isNewOrCalled
  refine kt_lotO hB (fun _ _ => ?_)
  refine kt_call hB (mk_X4_stateNow (a0 := a0) hB.start) (fun r1 ad w H1 S1 hB => ?_)
  dsimp only
  refine kt_if (fun _ => ?_) (fun _ => ?_)
  · exact kt_ret hB
  · refine kt_lotO hB (fun _ _ => ?_)
    refine kt_call hB (mk_X4_stateNow (a0 := a0) hB.start) (fun r8 ad w H8 S8 hB => ?_)
    dsimp only
    refine kt_if (fun _ => ?_) (fun _ => ?_)
    · exact kt_ret hB
    · exact kt_ret hB
def gkl_X5_rowOf_7 (Kl : Nat → Int32 → Int32 → Int32 → mt_S → Option (((Unit) ⊕ Int32) × mt_S)) (N : Nat) (w0 : Nat) (w1 : Int32) (w2 : Int32) (w3 : Int32) (s : mt_S) : Option (((Unit) ⊕ Int32) × mt_S) :=
  if w2 ≤ w3 then
    some ((.inl ()), s)
  else
    Option.bind (gk_she s w0) fun _ =>
    Option.bind (gk_X5_at N w0 w3 0 s) fun q15 =>
    if q15.1 = (Int32.toInt64 w1) then
      some ((.inr w3), q15.2)
    else
      Kl w0 w1 w2 (w3 + 1) q15.2
set_option maxRecDepth 20000 in
set_option maxHeartbeats 4000000 in
theorem mk_lb_X5_rowOf_7 {X : Nat → Prop} {ad0 ad : Nat → Nat} {w : Nat → Value} {H0 h : ym_H} {S0 s : mt_S} {K : Option Nat → Int32 → Int32 → Int32 → ym_H → Option (((Unit) ⊕ Int32) × ym_H)} {Kl : Nat → Int32 → Int32 → Int32 → mt_S → Option (((Unit) ⊕ Int32) × mt_S)} (hKl : ∀ (w0 : Nat) (w1 : Int32) (w2 : Int32) (w3 : Int32) (ad : Nat → Nat) (w : Nat → Value) (h : ym_H) (s : mt_S), kt_B X ad0 ad w H0 S0 h s → kt_ok X ad0 H0 S0 (K (some (ad0 (7000 + w0))) w1 w2 w3 h) (Kl w0 w1 w2 w3 s)) {N : Nat} {w0 : Nat} {w1 : Int32} {w2 : Int32} {w3 : Int32} (hB : kt_B X ad0 ad w H0 S0 h s) : kt_ok X ad0 H0 S0 (lb_X5_rowOf_7 K N (some (ad0 (7000 + w0))) w1 w2 w3 h) (gkl_X5_rowOf_7 Kl N w0 w1 w2 w3 s) := by
  unfold lb_X5_rowOf_7 gkl_X5_rowOf_7
  refine kt_if (fun _ => ?_) (fun _ => ?_)
  · exact kt_ret hB
  · refine kt_sheO hB (fun _ _ => ?_)
    refine kt_call hB (mk_X5_at (a0 := w0) hB.start) (fun r15 ad w H15 S15 hB => ?_)
    dsimp only
    refine kt_if (fun _ => ?_) (fun _ => ?_)
    · exact kt_ret hB
    · exact hKl w0 _ _ _ _ _ _ _ hB
def gkp_X5_rowOf_7 (N : Nat) : Nat → Nat → Int32 → Int32 → Int32 → mt_S → Option (((Unit) ⊕ Int32) × mt_S)
  | 0, _, _, _, _, _ => none
  | n + 1, w0, w1, w2, w3, s => gkl_X5_rowOf_7 (gkp_X5_rowOf_7 N n) N w0 w1 w2 w3 s
theorem mk_lp_X5_rowOf_7 {X : Nat → Prop} {ad0 : Nat → Nat} {H0 : ym_H} {S0 : mt_S} {N : Nat} : ∀ (n : Nat) (ad : Nat → Nat) (w : Nat → Value) (h : ym_H) (s : mt_S) (w0 : Nat) (w1 : Int32) (w2 : Int32) (w3 : Int32), kt_B X ad0 ad w H0 S0 h s → kt_ok X ad0 H0 S0 (lp_X5_rowOf_7 N n (some (ad0 (7000 + w0))) w1 w2 w3 h) (gkp_X5_rowOf_7 N n w0 w1 w2 w3 s) := by
  intro n
  induction n with
  | zero => intro ad w h s w0 w1 w2 w3 hB; exact kt_no
  | succ n ih =>
    intro ad w h s w0 w1 w2 w3 hB
    exact mk_lb_X5_rowOf_7 (fun w0 w1 w2 w3 ad w h s hB => ih ad w h s w0 w1 w2 w3 hB) hB
def gk_X5_rowOf (N : Nat) (a0 : Nat) (a1 : Int32) (s : mt_S) : Option (Int32 × mt_S) :=
  Option.bind (gk_she s a0) fun _ =>
  Option.bind (gk_X5_rows N a0 s) fun q1 =>
  Option.bind (gkp_X5_rowOf_7 N N a0 a1 q1.1 0 q1.2) fun q7 =>
  match q7.1 with
  | .inr y7 => some (y7, q7.2)
  | .inl z7 =>
    some ((-1), q7.2)
set_option maxRecDepth 20000 in
set_option maxHeartbeats 4000000 in
theorem mk_X5_rowOf {X : Nat → Prop} {ad0 ad : Nat → Nat} {w : Nat → Value} {h : ym_H} {s : mt_S} {N : Nat} {a0 : Nat} {a1 : Int32} (hB : kt_B X ad0 ad w h s h s) : kt_ok X ad0 h s (fn_X5_rowOf N (some (ad0 (7000 + a0))) a1 h) (gk_X5_rowOf N a0 a1 s) := by
  unfold fn_X5_rowOf gk_X5_rowOf
  refine kt_sheO hB (fun _ _ => ?_)
  refine kt_call hB (mk_X5_rows (a0 := a0) hB.start) (fun r1 ad w H1 S1 hB => ?_)
  dsimp only
  refine kt_call hB (mk_lp_X5_rowOf_7 N _ _ _ _ a0 _ _ _ hB.start) (fun r7 ad w H7 S7 hB => ?_)
  dsimp only
  cases r7 with
  | inr y7 => exact kt_ret hB
  | inl z7 =>
    dsimp only
    exact kt_ret hB
def gkb_X1_written_81_6 (Kl : Int32 → Int32 → Int64 → Int32 → mt_S → Option ((Int64) × mt_S)) (N : Nat) (w1 : Int32) (w3 : Int32) (w4 : Int64) (w6 : Int32) (s : mt_S) : Option ((Int64) × mt_S) :=
  Kl w1 w3 w4 (w6 + 1) s
set_option maxRecDepth 20000 in
set_option maxHeartbeats 4000000 in
theorem mk_bl_X1_written_81_6 {X : Nat → Prop} {ad0 ad : Nat → Nat} {w : Nat → Value} {H0 h : ym_H} {S0 s : mt_S} {K : Option Nat → Int32 → Option Nat → Int32 → Int64 → Int32 → ym_H → Option ((Int64) × ym_H)} {Kl : Int32 → Int32 → Int64 → Int32 → mt_S → Option ((Int64) × mt_S)} (hKl : ∀ (w1 : Int32) (w3 : Int32) (w4 : Int64) (w6 : Int32) (ad : Nat → Nat) (w : Nat → Value) (h : ym_H) (s : mt_S), kt_B X ad0 ad w H0 S0 h s → kt_ok X ad0 H0 S0 (K (some (ad0 2)) w1 (some (ad0 6)) w3 w4 w6 h) (Kl w1 w3 w4 w6 s)) {N : Nat} {w1 : Int32} {w3 : Int32} {w4 : Int64} {w6 : Int32} (hB : kt_B X ad0 ad w H0 S0 h s) : kt_ok X ad0 H0 S0 (bl_X1_written_81_6 K N (some (ad0 2)) w1 (some (ad0 6)) w3 w4 w6 h) (gkb_X1_written_81_6 Kl N w1 w3 w4 w6 s) := by
  unfold bl_X1_written_81_6 gkb_X1_written_81_6
  exact hKl _ _ _ _ _ _ _ _ hB
def gkl_X1_written_6 (Kl : Int32 → Int32 → Int64 → Int32 → mt_S → Option ((Int64) × mt_S)) (N : Nat) (w1 : Int32) (w3 : Int32) (w4 : Int64) (w6 : Int32) (s : mt_S) : Option ((Int64) × mt_S) :=
  if w3 ≤ w6 then
    some (w4, s)
  else
    if (Int32.ofNat 400) ≤ w6 then
      some (w4, s)
    else
      Option.bind (gk_lots s w6) fun v22 =>
      match v22 with
      | none =>
        gkb_X1_written_81_6 Kl N w1 w3 w4 w6 s
      | some l_v22 =>
        Option.bind (gk_lot s l_v22) fun _ =>
        Option.bind (gk_X4_isNewOrCalled N l_v22 s) fun q32 =>
        if q32.1 = 0 then
          gkb_X1_written_81_6 Kl N w1 w3 w4 w6 q32.2
        else
          Option.bind (gk_lot q32.2 l_v22) fun _ =>
          Option.bind (gk_she q32.2 (205 + 4 * l_v22)) fun _ =>
          Option.bind (gk_X5_rowOf N (205 + 4 * l_v22) w1 q32.2) fun q47 =>
          if q47.1 = (-1) then
            gkb_X1_written_81_6 Kl N w1 w3 w4 w6 q47.2
          else
            Option.bind (gk_lot q47.2 l_v22) fun _ =>
            Option.bind (gk_she q47.2 (205 + 4 * l_v22)) fun _ =>
            Option.bind (gk_X5_at N (205 + 4 * l_v22) q47.1 1 q47.2) fun q68 =>
            Option.bind (gk_X1_piecesOf N l_v22 q68.2) fun q74 =>
            gkb_X1_written_81_6 Kl N w1 w3 (w4 + (q68.1 * q74.1)) w6 q74.2
set_option maxRecDepth 20000 in
set_option maxHeartbeats 4000000 in
theorem mk_lb_X1_written_6 {X : Nat → Prop} {ad0 ad : Nat → Nat} {w : Nat → Value} {H0 h : ym_H} {S0 s : mt_S} {K : Option Nat → Int32 → Option Nat → Int32 → Int64 → Int32 → ym_H → Option ((Int64) × ym_H)} {Kl : Int32 → Int32 → Int64 → Int32 → mt_S → Option ((Int64) × mt_S)} (hKl : ∀ (w1 : Int32) (w3 : Int32) (w4 : Int64) (w6 : Int32) (ad : Nat → Nat) (w : Nat → Value) (h : ym_H) (s : mt_S), kt_B X ad0 ad w H0 S0 h s → kt_ok X ad0 H0 S0 (K (some (ad0 2)) w1 (some (ad0 6)) w3 w4 w6 h) (Kl w1 w3 w4 w6 s)) {N : Nat} {w1 : Int32} {w3 : Int32} {w4 : Int64} {w6 : Int32} (hB : kt_B X ad0 ad w H0 S0 h s) : kt_ok X ad0 H0 S0 (lb_X1_written_6 K N (some (ad0 2)) w1 (some (ad0 6)) w3 w4 w6 h) (gkl_X1_written_6 Kl N w1 w3 w4 w6 s) := by
  unfold lb_X1_written_6 gkl_X1_written_6
  refine kt_if (fun _ => ?_) (fun _ => ?_)
  · exact kt_ret hB
  · refine kt_slen hB (key := 6) (n := 400) (Or.inr (Or.inl ⟨rfl, rfl⟩)) ?_
    refine kt_if (fun _ => ?_) (fun _ => ?_)
    · exact kt_ret hB
    · refine kt_lots hB (fun v22 => ?_)
      cases v22 with
      | none =>
        refine kt_ifT rfl ?_
        try dsimp only [Option.map_some, Option.map_none]
        exact mk_bl_X1_written_81_6 hKl hB
      | some l_v22 =>
        refine kt_ifF (Option.some_ne_none _) ?_
        try dsimp only [Option.map_some, Option.map_none]
        refine kt_lotO hB (fun _ _ => ?_)
        refine kt_call hB (mk_X4_isNewOrCalled (a0 := l_v22) hB.start) (fun r32 ad w H32 S32 hB => ?_)
        dsimp only
        refine kt_if (fun _ => ?_) (fun _ => ?_)
        · exact mk_bl_X1_written_81_6 hKl hB
        · refine kt_lot4 hB (fun hc43 => ?_)
          refine kt_sheO hB (fun _ _ => ?_)
          refine kt_call hB (mk_X5_rowOf (a0 := (205 + 4 * l_v22)) hB.start) (fun r47 ad w H47 S47 hB => ?_)
          dsimp only
          refine kt_if (fun _ => ?_) (fun _ => ?_)
          · exact mk_bl_X1_written_81_6 hKl hB
          · refine kt_lot4 hB (fun hc62 => ?_)
            refine kt_sheO hB (fun _ _ => ?_)
            refine kt_call hB (mk_X5_at (a0 := (205 + 4 * l_v22)) hB.start) (fun r68 ad w H68 S68 hB => ?_)
            dsimp only
            refine kt_bodO hB (fun _ => ?_)
            refine kt_call hB (mk_X1_piecesOf (a1 := l_v22) hB.start) (fun r74 ad w H74 S74 hB => ?_)
            dsimp only
            exact mk_bl_X1_written_81_6 hKl hB
def gkp_X1_written_6 (N : Nat) : Nat → Int32 → Int32 → Int64 → Int32 → mt_S → Option ((Int64) × mt_S)
  | 0, _, _, _, _, _ => none
  | n + 1, w1, w3, w4, w6, s => gkl_X1_written_6 (gkp_X1_written_6 N n) N w1 w3 w4 w6 s
theorem mk_lp_X1_written_6 {X : Nat → Prop} {ad0 : Nat → Nat} {H0 : ym_H} {S0 : mt_S} {N : Nat} : ∀ (n : Nat) (ad : Nat → Nat) (w : Nat → Value) (h : ym_H) (s : mt_S) (w1 : Int32) (w3 : Int32) (w4 : Int64) (w6 : Int32), kt_B X ad0 ad w H0 S0 h s → kt_ok X ad0 H0 S0 (lp_X1_written_6 N n (some (ad0 2)) w1 (some (ad0 6)) w3 w4 w6 h) (gkp_X1_written_6 N n w1 w3 w4 w6 s) := by
  intro n
  induction n with
  | zero => intro ad w h s w1 w3 w4 w6 hB; exact kt_no
  | succ n ih =>
    intro ad w h s w1 w3 w4 w6 hB
    exact mk_lb_X1_written_6 (fun w1 w3 w4 w6 ad w h s hB => ih ad w h s w1 w3 w4 w6 hB) hB
def gk_X1_written (N : Nat) (a1 : Int32) (a3 : Int32) (s : mt_S) : Option (Int64 × mt_S) :=
  Option.bind (gkp_X1_written_6 N N a1 a3 0 0 s) fun q6 =>
  some (q6.1, q6.2)
set_option maxRecDepth 20000 in
set_option maxHeartbeats 4000000 in
theorem mk_X1_written {X : Nat → Prop} {ad0 ad : Nat → Nat} {w : Nat → Value} {h : ym_H} {s : mt_S} {N : Nat} {a1 : Int32} {a3 : Int32} (hB : kt_B X ad0 ad w h s h s) : kt_ok X ad0 h s (fn_X1_written N (some (ad0 2)) a1 (some (ad0 6)) a3 h) (gk_X1_written N a1 a3 s) := by
  unfold fn_X1_written gk_X1_written
  refine kt_call hB (mk_lp_X1_written_6 N _ _ _ _ _ _ _ _ hB.start) (fun r6 ad w H6 S6 hB => ?_)
  dsimp only
  exact kt_ret hB
def gkb_X1_mayBid_103 (N : Nat) (s0 : Int32) (s : mt_S) : Option (Int32 × mt_S) :=
  Option.bind (gk_X1_run N s0 s) fun q103 =>
  some (1, q103.2)
set_option maxRecDepth 20000 in
set_option maxHeartbeats 4000000 in
theorem mk_bl_X1_mayBid_103 {X : Nat → Prop} {ad0 ad : Nat → Nat} {w : Nat → Value} {H0 h : ym_H} {S0 s : mt_S} {N : Nat} {s0 : Int32} (hB : kt_B X ad0 ad w H0 S0 h s) : kt_ok X ad0 H0 S0 (bl_X1_mayBid_103 N s0 (some (ad0 2)) h) (gkb_X1_mayBid_103 N s0 s) := by
  unfold bl_X1_mayBid_103 gkb_X1_mayBid_103
  refine kt_bodO hB (fun _ => ?_)
  refine kt_call hB (mk_X1_run hB.start) (fun r103 ad w H103 S103 hB => ?_)
  dsimp only
  exact kt_ret hB
def gk_X1_mayBid (N : Nat) (a1 : Nat) (a2 : Nat) (a3 : Int64) (a6 : Int32) (s : mt_S) : Option (Int32 × mt_S) :=
  Option.bind (gk_bid s a1) fun _ =>
  if (s.1 9 a1) = 4 then
    Option.bind (gk_X1_run N 8 s) fun q11 =>
    Option.bind (gk_lot q11.2 a2) fun _ =>
    if (q11.2.2.1 20 a2) ≤ a3 then
      some (0, q11.2)
    else
      some (1, q11.2)
  else
    Option.bind (gk_bid s a1) fun _ =>
    if (s.1 9 a1) = 3 then
      Option.bind (gk_X1_run N 10 s) fun q40 =>
      Option.bind (gk_X1_run N 9 q40.2) fun q46 =>
      Option.bind (gk_X1_piecesOf N a2 q46.2) fun q52 =>
      Option.bind (gk_bid q52.2 a1) fun _ =>
      Option.bind (gk_X1_written N (nI a1) a6 q52.2) fun q69 =>
      Option.bind (gk_bid q69.2 a1) fun _ =>
      if (q69.2.2.1 21 a1) < ((a3 * q52.1) + q69.1) then
        some (0, q69.2)
      else
        some (1, q69.2)
    else
      Option.bind (gk_bid s a1) fun _ =>
      if (s.1 9 a1) = 2 then
        gkb_X1_mayBid_103 N 9 s
      else
        gkb_X1_mayBid_103 N 7 s
set_option maxRecDepth 20000 in
set_option maxHeartbeats 4000000 in
theorem mk_X1_mayBid {X : Nat → Prop} {ad0 ad : Nat → Nat} {w : Nat → Value} {h : ym_H} {s : mt_S} {N : Nat} {a1 : Nat} {a2 : Nat} {a3 : Int64} {a6 : Int32} (hB : kt_B X ad0 ad w h s h s) : kt_ok X ad0 h s (fn_X1_mayBid N (some (ad0 2)) (some (ad0 (11000 + a1))) (some (ad0 (10000 + a2))) a3 (some (ad0 6)) a6 h) (gk_X1_mayBid N a1 a2 a3 a6 s) := by
  unfold fn_X1_mayBid gk_X1_mayBid
  refine kt_bid0 hB (fun hc1 => ?_)
  refine kt_if (fun _ => ?_) (fun _ => ?_)
  · refine kt_bodO hB (fun _ => ?_)
    refine kt_call hB (mk_X1_run hB.start) (fun r11 ad w H11 S11 hB => ?_)
    dsimp only
    refine kt_lot1 hB (fun hc16 => ?_)
    refine kt_if (fun _ => ?_) (fun _ => ?_)
    · exact kt_ret hB
    · exact kt_ret hB
  · refine kt_bid0 hB (fun hc30 => ?_)
    refine kt_if (fun _ => ?_) (fun _ => ?_)
    · refine kt_bodO hB (fun _ => ?_)
      refine kt_call hB (mk_X1_run hB.start) (fun r40 ad w H40 S40 hB => ?_)
      dsimp only
      refine kt_bodO hB (fun _ => ?_)
      refine kt_call hB (mk_X1_run hB.start) (fun r46 ad w H46 S46 hB => ?_)
      dsimp only
      refine kt_bodO hB (fun _ => ?_)
      refine kt_call hB (mk_X1_piecesOf (a1 := a2) hB.start) (fun r52 ad w H52 S52 hB => ?_)
      dsimp only
      refine kt_bid1 hB (fun hc62 => ?_)
      refine kt_bodO hB (fun _ => ?_)
      refine kt_call hB (mk_X1_written hB.start) (fun r69 ad w H69 S69 hB => ?_)
      dsimp only
      refine kt_bid2 hB (fun hc74 => ?_)
      refine kt_if (fun _ => ?_) (fun _ => ?_)
      · exact kt_ret hB
      · exact kt_ret hB
    · refine kt_bid0 hB (fun hc89 => ?_)
      refine kt_if (fun _ => ?_) (fun _ => ?_)
      · exact mk_bl_X1_mayBid_103 hB
      · exact mk_bl_X1_mayBid_103 hB
def gk_X1_ranAt (N : Nat) (a1 : Int32) (s : mt_S) : Option (Int32 × mt_S) :=
  if a1 < 0 then
    some (0, s)
  else
    if (s.1 3 0) ≤ a1 then
      some (0, s)
    else
      if a1 < (Int32.ofNat 200) then
        Option.bind (gk_ldI s 6 200 a1) fun v30 =>
        some (v30, s)
      else
        some (0, s)
set_option maxRecDepth 20000 in
set_option maxHeartbeats 4000000 in
theorem mk_X1_ranAt {X : Nat → Prop} {ad0 ad : Nat → Nat} {w : Nat → Value} {h : ym_H} {s : mt_S} {N : Nat} {a1 : Int32} (hB : kt_B X ad0 ad w h s h s) : kt_ok X ad0 h s (fn_X1_ranAt N (some (ad0 2)) a1 h) (gk_X1_ranAt N a1 s) := by
  unfold fn_X1_ranAt gk_X1_ranAt
  refine kt_if (fun _ => ?_) (fun _ => ?_)
  · exact kt_ret hB
  · refine kt_bod2 hB ?_
    refine kt_if (fun _ => ?_) (fun _ => ?_)
    · exact kt_ret hB
    · refine kt_bod1 hB ?_
      refine kt_slen hB (key := 7) (n := 200) (Or.inr (Or.inr (Or.inl ⟨rfl, rfl⟩))) ?_
      refine kt_if (fun _ => ?_) (fun _ => ?_)
      · refine kt_bod1 hB ?_
        refine kt_ran hB (fun v30 => ?_)
        exact kt_ret hB
      · exact kt_ret hB
def gk_X2_set (N : Nat) (a0 : Nat) (a1 : Int32) (a2 : Int64) (s : mt_S) : Option (Unit × mt_S) :=
  if a1 < 0 then
    some ((), s)
  else
    Option.bind (gk_cel s a0) fun _ =>
    if (Int32.ofNat (s.2.2 (100 + a0))) ≤ a1 then
      some ((), s)
    else
      Option.bind (gk_cel s a0) fun _ =>
      Option.bind (gk_stL s (100 + a0) (s.2.2 (100 + a0)) a1 a2) fun t19 =>
      some ((), t19)
set_option maxRecDepth 20000 in
set_option maxHeartbeats 4000000 in
theorem mk_X2_set {X : Nat → Prop} {ad0 ad : Nat → Nat} {w : Nat → Value} {h : ym_H} {s : mt_S} {N : Nat} {a0 : Nat} {a1 : Int32} {a2 : Int64} (hB : kt_B X ad0 ad w h s h s) : kt_ok X ad0 h s (fn_X2_set N (some (ad0 (1000 + a0))) a1 a2 h) (gk_X2_set N a0 a1 a2 s) := by
  unfold fn_X2_set gk_X2_set
  refine kt_if (fun _ => ?_) (fun _ => ?_)
  · exact kt_ret hB
  · refine kt_cel1 hB (fun hc6 => ?_)
    refine kt_vlen hB hc6 ?_
    refine kt_if (fun _ => ?_) (fun _ => ?_)
    · exact kt_ret hB
    · refine kt_cel1 hB (fun hc14 => ?_)
      refine kt_valW hB hc14 (fun h19 t19 hB => ?_)
      exact kt_ret hB
def gk_X3_depth (N : Nat)  (s : mt_S) : Option (Int32 × mt_S) :=
  some ((s.1 5 0), s)
set_option maxRecDepth 20000 in
set_option maxHeartbeats 4000000 in
theorem mk_X3_depth {X : Nat → Prop} {ad0 ad : Nat → Nat} {w : Nat → Value} {h : ym_H} {s : mt_S} {N : Nat}  (hB : kt_B X ad0 ad w h s h s) : kt_ok X ad0 h s (fn_X3_depth N (some (ad0 1)) h) (gk_X3_depth N  s) := by
  unfold fn_X3_depth gk_X3_depth
  refine kt_jour5 hB ?_
  exact kt_ret hB
def gkb_X3_keepBatch_17 (N : Nat)  (s : mt_S) : Option (Unit × mt_S) :=
  if (s.1 5 0) = 0 then
    Option.bind (gm_pI s 4 0) fun t26 =>
    some ((), t26)
  else
    some ((), s)
set_option maxRecDepth 20000 in
set_option maxHeartbeats 4000000 in
theorem mk_bl_X3_keepBatch_17 {X : Nat → Prop} {ad0 ad : Nat → Nat} {w : Nat → Value} {H0 h : ym_H} {S0 s : mt_S} {N : Nat}  (hB : kt_B X ad0 ad w H0 S0 h s) : kt_ok X ad0 H0 S0 (bl_X3_keepBatch_17 N (some (ad0 1)) h) (gkb_X3_keepBatch_17 N  s) := by
  unfold bl_X3_keepBatch_17 gkb_X3_keepBatch_17
  refine kt_jour5 hB ?_
  refine kt_if (fun _ => ?_) (fun _ => ?_)
  · refine kt_jour3W hB (fun h26 t26 hB => ?_)
    exact kt_ret hB
  · exact kt_ret hB
def gk_X3_keepBatch (N : Nat)  (s : mt_S) : Option (Unit × mt_S) :=
  if (s.1 5 0) ≤ 0 then
    gkb_X3_keepBatch_17 N  s
  else
    Option.bind (gm_pI s 5 ((s.1 5 0) - 1)) fun t14 =>
    gkb_X3_keepBatch_17 N  t14
set_option maxRecDepth 20000 in
set_option maxHeartbeats 4000000 in
theorem mk_X3_keepBatch {X : Nat → Prop} {ad0 ad : Nat → Nat} {w : Nat → Value} {h : ym_H} {s : mt_S} {N : Nat}  (hB : kt_B X ad0 ad w h s h s) : kt_ok X ad0 h s (fn_X3_keepBatch N (some (ad0 1)) h) (gk_X3_keepBatch N  s) := by
  unfold fn_X3_keepBatch gk_X3_keepBatch
  refine kt_jour5 hB ?_
  refine kt_if (fun _ => ?_) (fun _ => ?_)
  · exact mk_bl_X3_keepBatch_17 hB
  · refine kt_jour5 hB ?_
    refine kt_jour5W hB (fun h14 t14 hB => ?_)
    exact mk_bl_X3_keepBatch_17 hB
def gk_X3_openBatch (N : Nat)  (s : mt_S) : Option (Unit × mt_S) :=
  if (s.1 5 0) < (Int32.ofNat 8) then
    Option.bind (gk_stI s 7 8 (s.1 5 0) (s.1 4 0)) fun t25 =>
    Option.bind (gm_pI t25 5 ((t25.1 5 0) + 1)) fun t33 =>
    some ((), t33)
  else
    some ((), s)
set_option maxRecDepth 20000 in
set_option maxHeartbeats 4000000 in
theorem mk_X3_openBatch {X : Nat → Prop} {ad0 ad : Nat → Nat} {w : Nat → Value} {h : ym_H} {s : mt_S} {N : Nat}  (hB : kt_B X ad0 ad w h s h s) : kt_ok X ad0 h s (fn_X3_openBatch N (some (ad0 1)) h) (gk_X3_openBatch N  s) := by
  unfold fn_X3_openBatch gk_X3_openBatch
  refine kt_jour5 hB ?_
  refine kt_jour4 hB ?_
  refine kt_slen hB (key := 11) (n := 8) (Or.inr (Or.inr (Or.inr ⟨rfl, rfl⟩))) ?_
  refine kt_if (fun _ => ?_) (fun _ => ?_)
  · refine kt_jour4 hB ?_
    refine kt_jour5 hB ?_
    refine kt_jour3 hB ?_
    refine kt_markW hB (fun h25 t25 hB => ?_)
    refine kt_jour5 hB ?_
    refine kt_jour5W hB (fun h33 t33 hB => ?_)
    exact kt_ret hB
  · exact kt_ret hB
def gkb_X3_takeBackTo_62_27 (Kl : Int32 → Int32 → Int32 → mt_S → Option ((Unit) × mt_S)) (N : Nat) (w1 : Int32) (w2 : Int32) (w3 : Int32) (s : mt_S) : Option ((Unit) × mt_S) :=
  Kl w1 w2 (w3 + (-1)) s
set_option maxRecDepth 20000 in
set_option maxHeartbeats 4000000 in
theorem mk_bl_X3_takeBackTo_62_27 {X : Nat → Prop} {ad0 ad : Nat → Nat} {w : Nat → Value} {H0 h : ym_H} {S0 s : mt_S} {K : Option Nat → Int32 → Int32 → Int32 → ym_H → Option ((Unit) × ym_H)} {Kl : Int32 → Int32 → Int32 → mt_S → Option ((Unit) × mt_S)} (hKl : ∀ (w1 : Int32) (w2 : Int32) (w3 : Int32) (ad : Nat → Nat) (w : Nat → Value) (h : ym_H) (s : mt_S), kt_B X ad0 ad w H0 S0 h s → kt_ok X ad0 H0 S0 (K (some (ad0 1)) w1 w2 w3 h) (Kl w1 w2 w3 s)) {N : Nat} {w1 : Int32} {w2 : Int32} {w3 : Int32} (hB : kt_B X ad0 ad w H0 S0 h s) : kt_ok X ad0 H0 S0 (bl_X3_takeBackTo_62_27 K N (some (ad0 1)) w1 w2 w3 h) (gkb_X3_takeBackTo_62_27 Kl N w1 w2 w3 s) := by
  unfold bl_X3_takeBackTo_62_27 gkb_X3_takeBackTo_62_27
  exact hKl _ _ _ _ _ _ _ hB
def gkl_X3_takeBackTo_27 (Kl : Int32 → Int32 → Int32 → mt_S → Option ((Unit) × mt_S)) (N : Nat) (w1 : Int32) (w2 : Int32) (w3 : Int32) (s : mt_S) : Option ((Unit) × mt_S) :=
  if w3 < w2 then
    some ((), s)
  else
    Option.bind (gk_who s w3) fun v37 =>
    Option.bind (gk_ldI s 10 (s.2.2 6) w3) fun v52 =>
    Option.bind (gk_ldL s 22 (s.2.2 7) w3) fun v58 =>
    Option.bind (gk_cel s v37) fun _ =>
    Option.bind (gk_X2_set N v37 v52 v58 s) fun q59 =>
    gkb_X3_takeBackTo_62_27 Kl N w1 w2 w3 q59.2
set_option maxRecDepth 20000 in
set_option maxHeartbeats 4000000 in
theorem mk_lb_X3_takeBackTo_27 {X : Nat → Prop} {ad0 ad : Nat → Nat} {w : Nat → Value} {H0 h : ym_H} {S0 s : mt_S} {K : Option Nat → Int32 → Int32 → Int32 → ym_H → Option ((Unit) × ym_H)} {Kl : Int32 → Int32 → Int32 → mt_S → Option ((Unit) × mt_S)} (hKl : ∀ (w1 : Int32) (w2 : Int32) (w3 : Int32) (ad : Nat → Nat) (w : Nat → Value) (h : ym_H) (s : mt_S), kt_B X ad0 ad w H0 S0 h s → kt_ok X ad0 H0 S0 (K (some (ad0 1)) w1 w2 w3 h) (Kl w1 w2 w3 s)) {N : Nat} {w1 : Int32} {w2 : Int32} {w3 : Int32} (hB : kt_B X ad0 ad w H0 S0 h s) : kt_ok X ad0 H0 S0 (lb_X3_takeBackTo_27 K N (some (ad0 1)) w1 w2 w3 h) (gkl_X3_takeBackTo_27 Kl N w1 w2 w3 s) := by
  unfold lb_X3_takeBackTo_27 gkl_X3_takeBackTo_27
  refine kt_if (fun _ => ?_) (fun _ => ?_)
  · exact kt_ret hB
  · refine kt_jour0 hB ?_
    refine kt_who hB (fun v37 => ?_)
    refine kt_ifF (Option.some_ne_none _) ?_
    refine kt_jour1 hB ?_
    refine kt_where hB (fun v52 => ?_)
    refine kt_jour2 hB ?_
    refine kt_before hB (fun v58 => ?_)
    refine kt_celO hB (fun _ _ => ?_)
    refine kt_call hB (mk_X2_set (a0 := v37) hB.start) (fun r59 ad w H59 S59 hB => ?_)
    dsimp only
    exact mk_bl_X3_takeBackTo_62_27 hKl hB
def gkp_X3_takeBackTo_27 (N : Nat) : Nat → Int32 → Int32 → Int32 → mt_S → Option ((Unit) × mt_S)
  | 0, _, _, _, _ => none
  | n + 1, w1, w2, w3, s => gkl_X3_takeBackTo_27 (gkp_X3_takeBackTo_27 N n) N w1 w2 w3 s
theorem mk_lp_X3_takeBackTo_27 {X : Nat → Prop} {ad0 : Nat → Nat} {H0 : ym_H} {S0 : mt_S} {N : Nat} : ∀ (n : Nat) (ad : Nat → Nat) (w : Nat → Value) (h : ym_H) (s : mt_S) (w1 : Int32) (w2 : Int32) (w3 : Int32), kt_B X ad0 ad w H0 S0 h s → kt_ok X ad0 H0 S0 (lp_X3_takeBackTo_27 N n (some (ad0 1)) w1 w2 w3 h) (gkp_X3_takeBackTo_27 N n w1 w2 w3 s) := by
  intro n
  induction n with
  | zero => intro ad w h s w1 w2 w3 hB; exact kt_no
  | succ n ih =>
    intro ad w h s w1 w2 w3 hB
    exact mk_lb_X3_takeBackTo_27 (fun w1 w2 w3 ad w h s hB => ih ad w h s w1 w2 w3 hB) hB
def gk_X3_takeBackTo (N : Nat) (a1 : Int32) (s : mt_S) : Option (Unit × mt_S) :=
  if a1 < 0 then
    some ((), s)
  else
    if a1 < (s.1 5 0) then
      Option.bind (gk_ldI s 7 8 a1) fun v18 =>
      Option.bind (gkp_X3_takeBackTo_27 N N a1 v18 ((s.1 4 0) - 1) s) fun q27 =>
      Option.bind (gm_pI q27.2 4 v18) fun t70 =>
      Option.bind (gm_pI t70 5 a1) fun t75 =>
      some ((), t75)
    else
      some ((), s)
set_option maxRecDepth 20000 in
set_option maxHeartbeats 4000000 in
theorem mk_X3_takeBackTo {X : Nat → Prop} {ad0 ad : Nat → Nat} {w : Nat → Value} {h : ym_H} {s : mt_S} {N : Nat} {a1 : Int32} (hB : kt_B X ad0 ad w h s h s) : kt_ok X ad0 h s (fn_X3_takeBackTo N (some (ad0 1)) a1 h) (gk_X3_takeBackTo N a1 s) := by
  unfold fn_X3_takeBackTo gk_X3_takeBackTo
  refine kt_if (fun _ => ?_) (fun _ => ?_)
  · exact kt_ret hB
  · refine kt_jour5 hB ?_
    refine kt_if (fun _ => ?_) (fun _ => ?_)
    · refine kt_jour4 hB ?_
      refine kt_mark hB (fun v18 => ?_)
      refine kt_jour3 hB ?_
      refine kt_call hB (mk_lp_X3_takeBackTo_27 N _ _ _ _ _ _ _ hB.start) (fun r27 ad w H27 S27 hB => ?_)
      dsimp only
      refine kt_jour3W hB (fun h70 t70 hB => ?_)
      refine kt_jour5W hB (fun h75 t75 hB => ?_)
      exact kt_ret hB
    · exact kt_ret hB
def gk_X3_takeBackAll (N : Nat)  (s : mt_S) : Option (Unit × mt_S) :=
  Option.bind (gk_X3_takeBackTo N 0 s) fun q2 =>
  some ((), q2.2)
set_option maxRecDepth 20000 in
set_option maxHeartbeats 4000000 in
theorem mk_X3_takeBackAll {X : Nat → Prop} {ad0 ad : Nat → Nat} {w : Nat → Value} {h : ym_H} {s : mt_S} {N : Nat}  (hB : kt_B X ad0 ad w h s h s) : kt_ok X ad0 h s (fn_X3_takeBackAll N (some (ad0 1)) h) (gk_X3_takeBackAll N  s) := by
  unfold fn_X3_takeBackAll gk_X3_takeBackAll
  refine kt_jourO hB (fun _ => ?_)
  refine kt_call hB (mk_X3_takeBackTo hB.start) (fun r2 ad w H2 S2 hB => ?_)
  dsimp only
  exact kt_ret hB
def gk_X3_takeBackBatch (N : Nat)  (s : mt_S) : Option (Unit × mt_S) :=
  Option.bind (gk_X3_takeBackTo N ((s.1 5 0) - 1) s) fun q7 =>
  some ((), q7.2)
set_option maxRecDepth 20000 in
set_option maxHeartbeats 4000000 in
theorem mk_X3_takeBackBatch {X : Nat → Prop} {ad0 ad : Nat → Nat} {w : Nat → Value} {h : ym_H} {s : mt_S} {N : Nat}  (hB : kt_B X ad0 ad w h s h s) : kt_ok X ad0 h s (fn_X3_takeBackBatch N (some (ad0 1)) h) (gk_X3_takeBackBatch N  s) := by
  unfold fn_X3_takeBackBatch gk_X3_takeBackBatch
  refine kt_jour5 hB ?_
  refine kt_jourO hB (fun _ => ?_)
  refine kt_call hB (mk_X3_takeBackTo hB.start) (fun r7 ad w H7 S7 hB => ?_)
  dsimp only
  exact kt_ret hB
