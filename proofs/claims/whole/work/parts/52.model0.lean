def gm_X8_account (N : Nat) (a1 : Int32) (s : mt_S) : Option (Int64 × mt_S) :=
  if a1 < 0 then
    some (0, s)
  else
    if a1 ≤ 2 then
      Option.bind (gm_ldL s 40 a1) fun v18 =>
      some (v18, s)
    else
      some (0, s)
set_option maxRecDepth 20000 in
set_option maxHeartbeats 4000000 in
theorem mm_X8_account {M : Nat} {X : Nat → Prop} {ad : Nat → Nat} {h : ym_H} {s : mt_S} {N : Nat} {a1 : Int32} (hB : mt_B M X ad h s h s) : mt_ok M X h s (fn_X8_account N (some M) a1 h) (gm_X8_account N a1 s) := by
  unfold fn_X8_account gm_X8_account
  refine mt_if (fun _ => ?_) (fun _ => ?_)
  · exact mt_ret hB
  · refine mt_if (fun _ => ?_) (fun _ => ?_)
    · refine mt_gR hB 40 (by decide) (by decide) ?_
      refine mt_ldL hB 40 (by decide) rfl (fun v18 => ?_)
      exact mt_ret hB
    · exact mt_ret hB
def gb_X8_newBidder_33 (N : Nat) (w1 : Int32) (w2 : Int64) (s : mt_S) : Option (Int64 × mt_S) :=
  if (s.1 0 0) = 200 then
    some ((-12), s)
  else
    Option.bind (gm_stI s 1 (s.1 0 0) w1) fun t56 =>
    Option.bind (gm_stL t56 2 (t56.1 0 0) w2) fun t66 =>
    Option.bind (gm_stL t66 3 (t66.1 0 0) 0) fun t76 =>
    Option.bind (gm_pI t76 0 ((t76.1 0 0) + 1)) fun t84 =>
    some (((Int32.toInt64 (t84.1 0 0)) - 1), t84)
set_option maxRecDepth 20000 in
set_option maxHeartbeats 4000000 in
theorem mm_bl_X8_newBidder_33 {M : Nat} {X : Nat → Prop} {ad : Nat → Nat} {H0 h : ym_H} {S0 s : mt_S} {N : Nat} {w1 : Int32} {w2 : Int64} (hB : mt_B M X ad H0 S0 h s) : mt_ok M X H0 S0 (bl_X8_newBidder_33 N (some M) w1 w2 h) (gb_X8_newBidder_33 N w1 w2 s) := by
  unfold bl_X8_newBidder_33 gb_X8_newBidder_33
  refine mt_gI hB 0 (by decide) rfl ?_
  refine mt_if (fun _ => ?_) (fun _ => ?_)
  · exact mt_ret hB
  · refine mt_gR hB 1 (by decide) (by decide) ?_
    refine mt_gI hB 0 (by decide) rfl ?_
    refine mt_aI hB 1 (by decide) rfl (fun h56 t56 hB => ?_)
    refine mt_gR hB 2 (by decide) (by decide) ?_
    refine mt_gI hB 0 (by decide) rfl ?_
    refine mt_aL hB 2 (by decide) rfl (fun h66 t66 hB => ?_)
    refine mt_gR hB 3 (by decide) (by decide) ?_
    refine mt_gI hB 0 (by decide) rfl ?_
    refine mt_aL hB 3 (by decide) rfl (fun h76 t76 hB => ?_)
    refine mt_gI hB 0 (by decide) rfl ?_
    refine mt_pI hB 0 (by decide) rfl (fun h84 t84 hB => ?_)
    refine mt_gI hB 0 (by decide) rfl ?_
    exact mt_ret hB
def gm_X8_newBidder (N : Nat) (a1 : Int32) (a2 : Int64) (s : mt_S) : Option (Int64 × mt_S) :=
  if a1 < 1 then
    some ((-1), s)
  else
    if 4 < a1 then
      some ((-1), s)
    else
      if a1 = 3 then
        if a2 < 0 then
          some ((-1), s)
        else
          if a2 ≤ 1000000000000 then
            gb_X8_newBidder_33 N a1 a2 s
          else
            some ((-1), s)
      else
        gb_X8_newBidder_33 N a1 a2 s
set_option maxRecDepth 20000 in
set_option maxHeartbeats 4000000 in
theorem mm_X8_newBidder {M : Nat} {X : Nat → Prop} {ad : Nat → Nat} {h : ym_H} {s : mt_S} {N : Nat} {a1 : Int32} {a2 : Int64} (hB : mt_B M X ad h s h s) : mt_ok M X h s (fn_X8_newBidder N (some M) a1 a2 h) (gm_X8_newBidder N a1 a2 s) := by
  unfold fn_X8_newBidder gm_X8_newBidder
  refine mt_if (fun _ => ?_) (fun _ => ?_)
  · exact mt_ret hB
  · refine mt_if (fun _ => ?_) (fun _ => ?_)
    · exact mt_ret hB
    · refine mt_if (fun _ => ?_) (fun _ => ?_)
      · refine mt_if (fun _ => ?_) (fun _ => ?_)
        · exact mt_ret hB
        · refine mt_if (fun _ => ?_) (fun _ => ?_)
          · exact mm_bl_X8_newBidder_33 hB
          · exact mt_ret hB
      · exact mm_bl_X8_newBidder_33 hB
def gm_X8_isSum (N : Nat) (a0 : Int64) (s : mt_S) : Option (Int32 × mt_S) :=
  if a0 < 1 then
    some (0, s)
  else
    if 1000000000000 < a0 then
      some (0, s)
    else
      some (1, s)
set_option maxRecDepth 20000 in
set_option maxHeartbeats 4000000 in
theorem mm_X8_isSum {M : Nat} {X : Nat → Prop} {ad : Nat → Nat} {h : ym_H} {s : mt_S} {N : Nat} {a0 : Int64} (hB : mt_B M X ad h s h s) : mt_ok M X h s (fn_X8_isSum N a0 h) (gm_X8_isSum N a0 s) := by
  unfold fn_X8_isSum gm_X8_isSum
  refine mt_if (fun _ => ?_) (fun _ => ?_)
  · exact mt_ret hB
  · refine mt_if (fun _ => ?_) (fun _ => ?_)
    · exact mt_ret hB
    · exact mt_ret hB
def gm_X8_renew (N : Nat) (a1 : Int32) (a2 : Int64) (s : mt_S) : Option (Unit × mt_S) :=
  Option.bind (gm_stL s 6 a1 a2) fun t6 =>
  Option.bind (gm_stI t6 9 a1 0) fun t13 =>
  Option.bind (gm_stL t13 10 a1 0) fun t20 =>
  Option.bind (gm_stI t20 13 a1 (-1)) fun t27 =>
  Option.bind (gm_stI t27 14 a1 (-1)) fun t34 =>
  Option.bind (gm_stI t34 19 a1 0) fun t41 =>
  Option.bind (gm_stI t41 23 a1 0) fun t48 =>
  Option.bind (gm_stI t48 25 a1 0) fun t55 =>
  Option.bind (gm_stI t55 28 a1 0) fun t62 =>
  Option.bind (gm_stI t62 29 a1 0) fun t69 =>
  some ((), t69)
set_option maxRecDepth 20000 in
set_option maxHeartbeats 4000000 in
theorem mm_X8_renew {M : Nat} {X : Nat → Prop} {ad : Nat → Nat} {h : ym_H} {s : mt_S} {N : Nat} {a1 : Int32} {a2 : Int64} (hB : mt_B M X ad h s h s) : mt_ok M X h s (fn_X8_renew N (some M) a1 a2 h) (gm_X8_renew N a1 a2 s) := by
  unfold fn_X8_renew gm_X8_renew
  refine mt_gR hB 6 (by decide) (by decide) ?_
  refine mt_aL hB 6 (by decide) rfl (fun h6 t6 hB => ?_)
  refine mt_gR hB 9 (by decide) (by decide) ?_
  refine mt_aI hB 9 (by decide) rfl (fun h13 t13 hB => ?_)
  refine mt_gR hB 10 (by decide) (by decide) ?_
  refine mt_aL hB 10 (by decide) rfl (fun h20 t20 hB => ?_)
  refine mt_gR hB 13 (by decide) (by decide) ?_
  refine mt_aI hB 13 (by decide) rfl (fun h27 t27 hB => ?_)
  refine mt_gR hB 14 (by decide) (by decide) ?_
  refine mt_aI hB 14 (by decide) rfl (fun h34 t34 hB => ?_)
  refine mt_gR hB 19 (by decide) (by decide) ?_
  refine mt_aI hB 19 (by decide) rfl (fun h41 t41 hB => ?_)
  refine mt_gR hB 23 (by decide) (by decide) ?_
  refine mt_aI hB 23 (by decide) rfl (fun h48 t48 hB => ?_)
  refine mt_gR hB 25 (by decide) (by decide) ?_
  refine mt_aZ hB 25 (by decide) rfl (fun h55 t55 hB => ?_)
  refine mt_gR hB 28 (by decide) (by decide) ?_
  refine mt_aI hB 28 (by decide) rfl (fun h62 t62 hB => ?_)
  refine mt_gR hB 29 (by decide) (by decide) ?_
  refine mt_aI hB 29 (by decide) rfl (fun h69 t69 hB => ?_)
  exact mt_ret hB
def gb_X8_newLot_48 (N : Nat) (w1 : Int32) (w2 : Int64) (w4 : Int64) (s : mt_S) : Option (Int64 × mt_S) :=
  if (s.1 4 0) = 400 then
    some ((-12), s)
  else
    Option.bind (gm_stI s 5 (s.1 4 0) w1) fun t75 =>
    Option.bind (gm_stL t75 7 (s.1 4 0) w4) fun t84 =>
    Option.bind (gm_stI t84 8 (s.1 4 0) 0) fun t92 =>
    Option.bind (gm_stI t92 12 (s.1 4 0) 0) fun t100 =>
    Option.bind (gm_stI t100 30 (s.1 4 0) (-1)) fun t108 =>
    Option.bind (gm_pI t108 4 ((t108.1 4 0) + 1)) fun t116 =>
    Option.bind (gm_X8_renew N (s.1 4 0) w2 t116) fun q123 =>
    some ((Int32.toInt64 (s.1 4 0)), q123.2)
set_option maxRecDepth 20000 in
set_option maxHeartbeats 4000000 in
theorem mm_bl_X8_newLot_48 {M : Nat} {X : Nat → Prop} {ad : Nat → Nat} {H0 h : ym_H} {S0 s : mt_S} {N : Nat} {w1 : Int32} {w2 : Int64} {w4 : Int64} (hB : mt_B M X ad H0 S0 h s) : mt_ok M X H0 S0 (bl_X8_newLot_48 N (some M) w1 w2 w4 h) (gb_X8_newLot_48 N w1 w2 w4 s) := by
  unfold bl_X8_newLot_48 gb_X8_newLot_48
  refine mt_gI hB 4 (by decide) rfl ?_
  refine mt_if (fun _ => ?_) (fun _ => ?_)
  · exact mt_ret hB
  · refine mt_gI hB 4 (by decide) rfl ?_
    refine mt_gR hB 5 (by decide) (by decide) ?_
    refine mt_aI hB 5 (by decide) rfl (fun h75 t75 hB => ?_)
    refine mt_gR hB 7 (by decide) (by decide) ?_
    refine mt_aL hB 7 (by decide) rfl (fun h84 t84 hB => ?_)
    refine mt_gR hB 8 (by decide) (by decide) ?_
    refine mt_aI hB 8 (by decide) rfl (fun h92 t92 hB => ?_)
    refine mt_gR hB 12 (by decide) (by decide) ?_
    refine mt_aI hB 12 (by decide) rfl (fun h100 t100 hB => ?_)
    refine mt_gR hB 30 (by decide) (by decide) ?_
    refine mt_aI hB 30 (by decide) rfl (fun h108 t108 hB => ?_)
    refine mt_gI hB 4 (by decide) rfl ?_
    refine mt_pI hB 4 (by decide) rfl (fun h116 t116 hB => ?_)
    refine mt_ob hB (fun _ => ?_)
    refine mt_call hB (mm_X8_renew hB.start) (fun r123 ad H123 S123 hB => ?_)
    dsimp only
    exact mt_ret hB
def gb_X8_newLot_32 (N : Nat) (w1 : Int32) (w2 : Int64) (w4 : Int64) (s : mt_S) : Option (Int64 × mt_S) :=
  if w1 = 5 then
    if w4 ≤ w2 then
      gb_X8_newLot_48 N w1 w2 w4 s
    else
      some ((-1), s)
  else
    gb_X8_newLot_48 N w1 w2 w4 s
set_option maxRecDepth 20000 in
set_option maxHeartbeats 4000000 in
theorem mm_bl_X8_newLot_32 {M : Nat} {X : Nat → Prop} {ad : Nat → Nat} {H0 h : ym_H} {S0 s : mt_S} {N : Nat} {w1 : Int32} {w2 : Int64} {w4 : Int64} (hB : mt_B M X ad H0 S0 h s) : mt_ok M X H0 S0 (bl_X8_newLot_32 N (some M) w1 w2 w4 h) (gb_X8_newLot_32 N w1 w2 w4 s) := by
  unfold bl_X8_newLot_32 gb_X8_newLot_32
  refine mt_if (fun _ => ?_) (fun _ => ?_)
  · refine mt_if (fun _ => ?_) (fun _ => ?_)
    · exact mm_bl_X8_newLot_48 hB
    · exact mt_ret hB
  · exact mm_bl_X8_newLot_48 hB
def gm_X8_newLot (N : Nat) (a1 : Int32) (a2 : Int64) (a4 : Int64) (s : mt_S) : Option (Int64 × mt_S) :=
  if a1 < 1 then
    some ((-1), s)
  else
    if 5 < a1 then
      some ((-1), s)
    else
      Option.bind (gm_X8_isSum N a2 s) fun q11 =>
      if q11.1 = 0 then
        some ((-1), q11.2)
      else
        if a4 = 0 then
          gb_X8_newLot_32 N a1 a2 a4 q11.2
        else
          Option.bind (gm_X8_isSum N a4 q11.2) fun q26 =>
          if q26.1 = 0 then
            some ((-1), q26.2)
          else
            gb_X8_newLot_32 N a1 a2 a4 q26.2
set_option maxRecDepth 20000 in
set_option maxHeartbeats 4000000 in
theorem mm_X8_newLot {M : Nat} {X : Nat → Prop} {ad : Nat → Nat} {h : ym_H} {s : mt_S} {N : Nat} {a1 : Int32} {a2 : Int64} {a4 : Int64} (hB : mt_B M X ad h s h s) : mt_ok M X h s (fn_X8_newLot N (some M) a1 a2 a4 h) (gm_X8_newLot N a1 a2 a4 s) := by
  unfold fn_X8_newLot gm_X8_newLot
  refine mt_if (fun _ => ?_) (fun _ => ?_)
  · exact mt_ret hB
  · refine mt_if (fun _ => ?_) (fun _ => ?_)
    · exact mt_ret hB
    · refine mt_call hB (mm_X8_isSum hB.start) (fun r11 ad H11 S11 hB => ?_)
      dsimp only
      refine mt_if (fun _ => ?_) (fun _ => ?_)
      · exact mt_ret hB
      · refine mt_if (fun _ => ?_) (fun _ => ?_)
        · exact mm_bl_X8_newLot_32 hB
        · refine mt_call hB (mm_X8_isSum hB.start) (fun r26 ad H26 S26 hB => ?_)
          dsimp only
          refine mt_if (fun _ => ?_) (fun _ => ?_)
          · exact mt_ret hB
          · exact mm_bl_X8_newLot_32 hB
def gm_X8_noLot (N : Nat) (a1 : Int32) (s : mt_S) : Option (Int32 × mt_S) :=
  if a1 < 0 then
    some (3, s)
  else
    if a1 < 400 then
      if a1 < (s.1 4 0) then
        some (0, s)
      else
        some (2, s)
    else
      some (3, s)
set_option maxRecDepth 20000 in
set_option maxHeartbeats 4000000 in
theorem mm_X8_noLot {M : Nat} {X : Nat → Prop} {ad : Nat → Nat} {h : ym_H} {s : mt_S} {N : Nat} {a1 : Int32} (hB : mt_B M X ad h s h s) : mt_ok M X h s (fn_X8_noLot N (some M) a1 h) (gm_X8_noLot N a1 s) := by
  unfold fn_X8_noLot gm_X8_noLot
  refine mt_if (fun _ => ?_) (fun _ => ?_)
  · exact mt_ret hB
  · refine mt_if (fun _ => ?_) (fun _ => ?_)
    · refine mt_gI hB 4 (by decide) rfl ?_
      refine mt_if (fun _ => ?_) (fun _ => ?_)
      · exact mt_ret hB
      · exact mt_ret hB
    · exact mt_ret hB
def gm_X8_noBidder (N : Nat) (a1 : Int32) (s : mt_S) : Option (Int32 × mt_S) :=
  if a1 < 0 then
    some (3, s)
  else
    if a1 < 200 then
      if a1 < (s.1 0 0) then
        some (0, s)
      else
        some (2, s)
    else
      some (3, s)
set_option maxRecDepth 20000 in
set_option maxHeartbeats 4000000 in
theorem mm_X8_noBidder {M : Nat} {X : Nat → Prop} {ad : Nat → Nat} {h : ym_H} {s : mt_S} {N : Nat} {a1 : Int32} (hB : mt_B M X ad h s h s) : mt_ok M X h s (fn_X8_noBidder N (some M) a1 h) (gm_X8_noBidder N a1 s) := by
  unfold fn_X8_noBidder gm_X8_noBidder
  refine mt_if (fun _ => ?_) (fun _ => ?_)
  · exact mt_ret hB
  · refine mt_if (fun _ => ?_) (fun _ => ?_)
    · refine mt_gI hB 0 (by decide) rfl ?_
      refine mt_if (fun _ => ?_) (fun _ => ?_)
      · exact mt_ret hB
      · exact mt_ret hB
    · exact mt_ret hB
def gl_X8_newSeller_47 (Kl : Int32 → Int32 → Int32 → mt_S → Option (((Unit) ⊕ Int64) × mt_S)) (N : Nat) (w1 : Int32) (w2 : Int32) (w3 : Int32) (s : mt_S) : Option (((Unit) ⊕ Int64) × mt_S) :=
  Option.bind (gm_ldI s 12 w1) fun v53 =>
  if v53 ≤ w3 then
    some ((.inl ()), s)
  else
    Option.bind (gm_ldI s 11 ((4 * w1) + w3)) fun v66 =>
    if v66 = w2 then
      some ((.inr (-8)), s)
    else
      Kl w1 w2 (w3 + 1) s
set_option maxRecDepth 20000 in
set_option maxHeartbeats 4000000 in
theorem mm_lb_X8_newSeller_47 {M : Nat} {X : Nat → Prop} {ad : Nat → Nat} {H0 h : ym_H} {S0 s : mt_S} {K : Option Nat → Int32 → Int32 → Int32 → ym_H → Option (((Unit) ⊕ Int64) × ym_H)} {Kl : Int32 → Int32 → Int32 → mt_S → Option (((Unit) ⊕ Int64) × mt_S)} (hKl : ∀ (w1 : Int32) (w2 : Int32) (w3 : Int32) (ad : Nat → Nat) (h : ym_H) (s : mt_S), mt_B M X ad H0 S0 h s → mt_ok M X H0 S0 (K (some M) w1 w2 w3 h) (Kl w1 w2 w3 s)) {N : Nat} {w1 : Int32} {w2 : Int32} {w3 : Int32} (hB : mt_B M X ad H0 S0 h s) : mt_ok M X H0 S0 (lb_X8_newSeller_47 K N (some M) w1 w2 w3 h) (gl_X8_newSeller_47 Kl N w1 w2 w3 s) := by
  unfold lb_X8_newSeller_47 gl_X8_newSeller_47
  refine mt_gR hB 12 (by decide) (by decide) ?_
  refine mt_ldI hB 12 (by decide) rfl (fun v53 => ?_)
  refine mt_if (fun _ => ?_) (fun _ => ?_)
  · exact mt_ret hB
  · refine mt_gR hB 11 (by decide) (by decide) ?_
    refine mt_ldI hB 11 (by decide) rfl (fun v66 => ?_)
    refine mt_if (fun _ => ?_) (fun _ => ?_)
    · exact mt_ret hB
    · exact hKl _ _ _ _ _ _ hB
def gp_X8_newSeller_47 (N : Nat) : Nat → Int32 → Int32 → Int32 → mt_S → Option (((Unit) ⊕ Int64) × mt_S)
  | 0, _, _, _, _ => none
  | n + 1, w1, w2, w3, s => gl_X8_newSeller_47 (gp_X8_newSeller_47 N n) N w1 w2 w3 s
theorem mm_lp_X8_newSeller_47 {M : Nat} {X : Nat → Prop} {H0 : ym_H} {S0 : mt_S} {N : Nat} : ∀ (n : Nat) (ad : Nat → Nat) (h : ym_H) (s : mt_S) (w1 : Int32) (w2 : Int32) (w3 : Int32), mt_B M X ad H0 S0 h s → mt_ok M X H0 S0 (lp_X8_newSeller_47 N n (some M) w1 w2 w3 h) (gp_X8_newSeller_47 N n w1 w2 w3 s) := by
  intro n
  induction n with
  | zero => intro ad h s w1 w2 w3 hB; exact mt_no
  | succ n ih =>
    intro ad h s w1 w2 w3 hB
    exact mm_lb_X8_newSeller_47 (fun w1 w2 w3 ad h s hB => ih ad h s w1 w2 w3 hB) hB
def gm_X8_newSeller (N : Nat) (a1 : Int32) (a2 : Int32) (s : mt_S) : Option (Int64 × mt_S) :=
  Option.bind (gm_X8_noLot N a1 s) fun q2 =>
  if q2.1 ≤ 0 then
    Option.bind (gm_X8_noBidder N a2 q2.2) fun q18 =>
    if q18.1 ≤ 0 then
      Option.bind (gm_ldI q18.2 9 a1) fun v37 =>
      if v37 = 0 then
        Option.bind (gp_X8_newSeller_47 N N a1 a2 0 q18.2) fun q47 =>
        match q47.1 with
        | .inr y47 => some (y47, q47.2)
        | .inl z47 =>
          Option.bind (gm_ldI q47.2 12 a1) fun v86 =>
          if v86 = 4 then
            some ((-12), q47.2)
          else
            Option.bind (gm_ldI q47.2 12 a1) fun v107 =>
            Option.bind (gm_stI q47.2 11 ((4 * a1) + v107) a2) fun t110 =>
            Option.bind (gm_ldI t110 12 a1) fun v117 =>
            Option.bind (gm_stI t110 12 a1 (v117 + 1)) fun t120 =>
            Option.bind (gm_ldI t120 12 a1) fun v126 =>
            some ((Int32.toInt64 v126), t120)
      else
        some ((-9), q18.2)
    else
      Option.bind (gm_X8_noBidder N a2 q18.2) fun q26 =>
      some ((Int32.toInt64 (-q26.1)), q26.2)
  else
    Option.bind (gm_X8_noLot N a1 q2.2) fun q10 =>
    some ((Int32.toInt64 (-q10.1)), q10.2)
set_option maxRecDepth 20000 in
set_option maxHeartbeats 4000000 in
theorem mm_X8_newSeller {M : Nat} {X : Nat → Prop} {ad : Nat → Nat} {h : ym_H} {s : mt_S} {N : Nat} {a1 : Int32} {a2 : Int32} (hB : mt_B M X ad h s h s) : mt_ok M X h s (fn_X8_newSeller N (some M) a1 a2 h) (gm_X8_newSeller N a1 a2 s) := by
  unfold fn_X8_newSeller gm_X8_newSeller
  refine mt_ob hB (fun _ => ?_)
  refine mt_call hB (mm_X8_noLot hB.start) (fun r2 ad H2 S2 hB => ?_)
  dsimp only
  refine mt_if (fun _ => ?_) (fun _ => ?_)
  · refine mt_ob hB (fun _ => ?_)
    refine mt_call hB (mm_X8_noBidder hB.start) (fun r18 ad H18 S18 hB => ?_)
    dsimp only
    refine mt_if (fun _ => ?_) (fun _ => ?_)
    · refine mt_gR hB 9 (by decide) (by decide) ?_
      refine mt_ldI hB 9 (by decide) rfl (fun v37 => ?_)
      refine mt_if (fun _ => ?_) (fun _ => ?_)
      · refine mt_call hB (mm_lp_X8_newSeller_47 N _ _ _ _ _ _ hB.start) (fun r47 ad H47 S47 hB => ?_)
        dsimp only
        cases r47 with
        | inr y47 => exact mt_ret hB
        | inl z47 =>
          dsimp only
          refine mt_gR hB 12 (by decide) (by decide) ?_
          refine mt_ldI hB 12 (by decide) rfl (fun v86 => ?_)
          refine mt_if (fun _ => ?_) (fun _ => ?_)
          · exact mt_ret hB
          · refine mt_gR hB 11 (by decide) (by decide) ?_
            refine mt_gR hB 12 (by decide) (by decide) ?_
            refine mt_ldI hB 12 (by decide) rfl (fun v107 => ?_)
            refine mt_aI hB 11 (by decide) rfl (fun h110 t110 hB => ?_)
            refine mt_gR hB 12 (by decide) (by decide) ?_
            refine mt_ldI hB 12 (by decide) rfl (fun v117 => ?_)
            refine mt_aI hB 12 (by decide) rfl (fun h120 t120 hB => ?_)
            refine mt_gR hB 12 (by decide) (by decide) ?_
            refine mt_ldI hB 12 (by decide) rfl (fun v126 => ?_)
            exact mt_ret hB
      · exact mt_ret hB
    · refine mt_ob hB (fun _ => ?_)
      refine mt_call hB (mm_X8_noBidder hB.start) (fun r26 ad H26 S26 hB => ?_)
      dsimp only
      exact mt_ret hB
  · refine mt_ob hB (fun _ => ?_)
    refine mt_call hB (mm_X8_noLot hB.start) (fun r10 ad H10 S10 hB => ?_)
    dsimp only
    exact mt_ret hB
def gm_X8_isRate (N : Nat) (a0 : Int32) (s : mt_S) : Option (Int32 × mt_S) :=
  if a0 < 0 then
    some (0, s)
  else
    if 10000 < a0 then
      some (0, s)
    else
      some (1, s)
set_option maxRecDepth 20000 in
set_option maxHeartbeats 4000000 in
theorem mm_X8_isRate {M : Nat} {X : Nat → Prop} {ad : Nat → Nat} {h : ym_H} {s : mt_S} {N : Nat} {a0 : Int32} (hB : mt_B M X ad h s h s) : mt_ok M X h s (fn_X8_isRate N a0 h) (gm_X8_isRate N a0 s) := by
  unfold fn_X8_isRate gm_X8_isRate
  refine mt_if (fun _ => ?_) (fun _ => ?_)
  · exact mt_ret hB
  · refine mt_if (fun _ => ?_) (fun _ => ?_)
    · exact mt_ret hB
    · exact mt_ret hB
def gm_X8_newCut (N : Nat) (a1 : Int32) (a2 : Int32) (s : mt_S) : Option (Int64 × mt_S) :=
  Option.bind (gm_X8_isRate N a2 s) fun q1 =>
  if q1.1 = 0 then
    some ((-1), q1.2)
  else
    Option.bind (gm_X8_noLot N a1 q1.2) fun q13 =>
    if q13.1 ≤ 0 then
      Option.bind (gm_ldI q13.2 9 a1) fun v32 =>
      if v32 = 0 then
        Option.bind (gm_ldI q13.2 8 a1) fun v45 =>
        Option.bind (gm_stI q13.2 8 a1 a2) fun t53 =>
        some ((Int32.toInt64 v45), t53)
      else
        some ((-9), q13.2)
    else
      Option.bind (gm_X8_noLot N a1 q13.2) fun q21 =>
      some ((Int32.toInt64 (-q21.1)), q21.2)
set_option maxRecDepth 20000 in
set_option maxHeartbeats 4000000 in
theorem mm_X8_newCut {M : Nat} {X : Nat → Prop} {ad : Nat → Nat} {h : ym_H} {s : mt_S} {N : Nat} {a1 : Int32} {a2 : Int32} (hB : mt_B M X ad h s h s) : mt_ok M X h s (fn_X8_newCut N (some M) a1 a2 h) (gm_X8_newCut N a1 a2 s) := by
  unfold fn_X8_newCut gm_X8_newCut
  refine mt_call hB (mm_X8_isRate hB.start) (fun r1 ad H1 S1 hB => ?_)
  dsimp only
  refine mt_if (fun _ => ?_) (fun _ => ?_)
  · exact mt_ret hB
  · refine mt_ob hB (fun _ => ?_)
    refine mt_call hB (mm_X8_noLot hB.start) (fun r13 ad H13 S13 hB => ?_)
    dsimp only
    refine mt_if (fun _ => ?_) (fun _ => ?_)
    · refine mt_gR hB 9 (by decide) (by decide) ?_
      refine mt_ldI hB 9 (by decide) rfl (fun v32 => ?_)
      refine mt_if (fun _ => ?_) (fun _ => ?_)
      · refine mt_gR hB 8 (by decide) (by decide) ?_
        refine mt_ldI hB 8 (by decide) rfl (fun v45 => ?_)
        refine mt_gR hB 8 (by decide) (by decide) ?_
        refine mt_aI hB 8 (by decide) rfl (fun h53 t53 hB => ?_)
        exact mt_ret hB
      · exact mt_ret hB
    · refine mt_ob hB (fun _ => ?_)
      refine mt_call hB (mm_X8_noLot hB.start) (fun r21 ad H21 S21 hB => ?_)
      dsimp only
      exact mt_ret hB
def gb_X8_newStep_65 (N : Nat) (w1 : Int64) (w3 : Int64) (s : mt_S) : Option (Int64 × mt_S) :=
  Option.bind (gm_stL s 34 (s.1 33 0) w1) fun t74 =>
  Option.bind (gm_stL t74 35 (t74.1 33 0) w3) fun t84 =>
  Option.bind (gm_pI t84 33 ((t84.1 33 0) + 1)) fun t92 =>
  some ((Int32.toInt64 (t92.1 33 0)), t92)
set_option maxRecDepth 20000 in
set_option maxHeartbeats 4000000 in
theorem mm_bl_X8_newStep_65 {M : Nat} {X : Nat → Prop} {ad : Nat → Nat} {H0 h : ym_H} {S0 s : mt_S} {N : Nat} {w1 : Int64} {w3 : Int64} (hB : mt_B M X ad H0 S0 h s) : mt_ok M X H0 S0 (bl_X8_newStep_65 N (some M) w1 w3 h) (gb_X8_newStep_65 N w1 w3 s) := by
  unfold bl_X8_newStep_65 gb_X8_newStep_65
  refine mt_gR hB 34 (by decide) (by decide) ?_
  refine mt_gI hB 33 (by decide) rfl ?_
  refine mt_aL hB 34 (by decide) rfl (fun h74 t74 hB => ?_)
  refine mt_gR hB 35 (by decide) (by decide) ?_
  refine mt_gI hB 33 (by decide) rfl ?_
  refine mt_aL hB 35 (by decide) rfl (fun h84 t84 hB => ?_)
  refine mt_gI hB 33 (by decide) rfl ?_
  refine mt_pI hB 33 (by decide) rfl (fun h92 t92 hB => ?_)
  refine mt_gI hB 33 (by decide) rfl ?_
  exact mt_ret hB
def gm_X8_newStep (N : Nat) (a1 : Int64) (a3 : Int64) (s : mt_S) : Option (Int64 × mt_S) :=
  if a1 < 0 then
    some ((-1), s)
  else
    if 1000000000000 < a1 then
      some ((-1), s)
    else
      Option.bind (gm_X8_isSum N a3 s) fun q15 =>
      if q15.1 = 0 then
        some ((-1), q15.2)
      else
        if (q15.2.1 33 0) = 20 then
          some ((-12), q15.2)
        else
          if (q15.2.1 33 0) ≤ 0 then
            gb_X8_newStep_65 N a1 a3 q15.2
          else
            Option.bind (gm_ldL q15.2 34 ((q15.2.1 33 0) - 1)) fun v56 =>
            if v56 < a1 then
              gb_X8_newStep_65 N a1 a3 q15.2
            else
              some ((-10), q15.2)
set_option maxRecDepth 20000 in
set_option maxHeartbeats 4000000 in
theorem mm_X8_newStep {M : Nat} {X : Nat → Prop} {ad : Nat → Nat} {h : ym_H} {s : mt_S} {N : Nat} {a1 : Int64} {a3 : Int64} (hB : mt_B M X ad h s h s) : mt_ok M X h s (fn_X8_newStep N (some M) a1 a3 h) (gm_X8_newStep N a1 a3 s) := by
  unfold fn_X8_newStep gm_X8_newStep
  refine mt_if (fun _ => ?_) (fun _ => ?_)
  · exact mt_ret hB
  · refine mt_if (fun _ => ?_) (fun _ => ?_)
    · exact mt_ret hB
    · refine mt_call hB (mm_X8_isSum hB.start) (fun r15 ad H15 S15 hB => ?_)
      dsimp only
      refine mt_if (fun _ => ?_) (fun _ => ?_)
      · exact mt_ret hB
      · refine mt_gI hB 33 (by decide) rfl ?_
        refine mt_if (fun _ => ?_) (fun _ => ?_)
        · exact mt_ret hB
        · refine mt_gI hB 33 (by decide) rfl ?_
          refine mt_if (fun _ => ?_) (fun _ => ?_)
          · exact mm_bl_X8_newStep_65 hB
          · refine mt_gR hB 34 (by decide) (by decide) ?_
            refine mt_gI hB 33 (by decide) rfl ?_
            refine mt_ldL hB 34 (by decide) rfl (fun v56 => ?_)
            refine mt_if (fun _ => ?_) (fun _ => ?_)
            · exact mm_bl_X8_newStep_65 hB
            · exact mt_ret hB
def gb_X8_newBracket_65 (N : Nat) (w1 : Int64) (w3 : Int32) (s : mt_S) : Option (Int64 × mt_S) :=
  Option.bind (gm_stL s 37 (s.1 36 0) w1) fun t74 =>
  Option.bind (gm_stI t74 38 (t74.1 36 0) w3) fun t84 =>
  Option.bind (gm_pI t84 36 ((t84.1 36 0) + 1)) fun t92 =>
  some ((Int32.toInt64 (t92.1 36 0)), t92)
set_option maxRecDepth 20000 in
set_option maxHeartbeats 4000000 in
theorem mm_bl_X8_newBracket_65 {M : Nat} {X : Nat → Prop} {ad : Nat → Nat} {H0 h : ym_H} {S0 s : mt_S} {N : Nat} {w1 : Int64} {w3 : Int32} (hB : mt_B M X ad H0 S0 h s) : mt_ok M X H0 S0 (bl_X8_newBracket_65 N (some M) w1 w3 h) (gb_X8_newBracket_65 N w1 w3 s) := by
  unfold bl_X8_newBracket_65 gb_X8_newBracket_65
  refine mt_gR hB 37 (by decide) (by decide) ?_
  refine mt_gI hB 36 (by decide) rfl ?_
  refine mt_aL hB 37 (by decide) rfl (fun h74 t74 hB => ?_)
  refine mt_gR hB 38 (by decide) (by decide) ?_
  refine mt_gI hB 36 (by decide) rfl ?_
  refine mt_aI hB 38 (by decide) rfl (fun h84 t84 hB => ?_)
  refine mt_gI hB 36 (by decide) rfl ?_
  refine mt_pI hB 36 (by decide) rfl (fun h92 t92 hB => ?_)
  refine mt_gI hB 36 (by decide) rfl ?_
  exact mt_ret hB
def gm_X8_newBracket (N : Nat) (a1 : Int64) (a3 : Int32) (s : mt_S) : Option (Int64 × mt_S) :=
  if a1 < 0 then
    some ((-1), s)
  else
    if 1000000000000 < a1 then
      some ((-1), s)
    else
      Option.bind (gm_X8_isRate N a3 s) fun q15 =>
      if q15.1 = 0 then
        some ((-1), q15.2)
      else
        if (q15.2.1 36 0) = 20 then
          some ((-12), q15.2)
        else
          if (q15.2.1 36 0) ≤ 0 then
            gb_X8_newBracket_65 N a1 a3 q15.2
          else
            Option.bind (gm_ldL q15.2 37 ((q15.2.1 36 0) - 1)) fun v56 =>
            if v56 < a1 then
              gb_X8_newBracket_65 N a1 a3 q15.2
            else
              some ((-10), q15.2)
set_option maxRecDepth 20000 in
set_option maxHeartbeats 4000000 in
theorem mm_X8_newBracket {M : Nat} {X : Nat → Prop} {ad : Nat → Nat} {h : ym_H} {s : mt_S} {N : Nat} {a1 : Int64} {a3 : Int32} (hB : mt_B M X ad h s h s) : mt_ok M X h s (fn_X8_newBracket N (some M) a1 a3 h) (gm_X8_newBracket N a1 a3 s) := by
  unfold fn_X8_newBracket gm_X8_newBracket
  refine mt_if (fun _ => ?_) (fun _ => ?_)
  · exact mt_ret hB
  · refine mt_if (fun _ => ?_) (fun _ => ?_)
    · exact mt_ret hB
    · refine mt_call hB (mm_X8_isRate hB.start) (fun r15 ad H15 S15 hB => ?_)
      dsimp only
      refine mt_if (fun _ => ?_) (fun _ => ?_)
      · exact mt_ret hB
      · refine mt_gI hB 36 (by decide) rfl ?_
        refine mt_if (fun _ => ?_) (fun _ => ?_)
        · exact mt_ret hB
        · refine mt_gI hB 36 (by decide) rfl ?_
          refine mt_if (fun _ => ?_) (fun _ => ?_)
          · exact mm_bl_X8_newBracket_65 hB
          · refine mt_gR hB 37 (by decide) (by decide) ?_
            refine mt_gI hB 36 (by decide) rfl ?_
            refine mt_ldL hB 37 (by decide) rfl (fun v56 => ?_)
            refine mt_if (fun _ => ?_) (fun _ => ?_)
            · exact mm_bl_X8_newBracket_65 hB
            · exact mt_ret hB
def gm_X8_newTax (N : Nat) (a1 : Int32) (a2 : Int32) (s : mt_S) : Option (Int64 × mt_S) :=
  if a1 < 1 then
    some ((-1), s)
  else
    if 5 < a1 then
      some ((-1), s)
    else
      Option.bind (gm_X8_isRate N a2 s) fun q11 =>
      if q11.1 = 0 then
        some ((-1), q11.2)
      else
        Option.bind (gm_ldI q11.2 39 a1) fun v26 =>
        Option.bind (gm_stI q11.2 39 a1 a2) fun t34 =>
        some ((Int32.toInt64 v26), t34)
set_option maxRecDepth 20000 in
set_option maxHeartbeats 4000000 in
theorem mm_X8_newTax {M : Nat} {X : Nat → Prop} {ad : Nat → Nat} {h : ym_H} {s : mt_S} {N : Nat} {a1 : Int32} {a2 : Int32} (hB : mt_B M X ad h s h s) : mt_ok M X h s (fn_X8_newTax N (some M) a1 a2 h) (gm_X8_newTax N a1 a2 s) := by
  unfold fn_X8_newTax gm_X8_newTax
  refine mt_if (fun _ => ?_) (fun _ => ?_)
  · exact mt_ret hB
  · refine mt_if (fun _ => ?_) (fun _ => ?_)
    · exact mt_ret hB
    · refine mt_call hB (mm_X8_isRate hB.start) (fun r11 ad H11 S11 hB => ?_)
      dsimp only
      refine mt_if (fun _ => ?_) (fun _ => ?_)
      · exact mt_ret hB
      · refine mt_gR hB 39 (by decide) (by decide) ?_
        refine mt_ldI hB 39 (by decide) rfl (fun v26 => ?_)
        refine mt_gR hB 39 (by decide) (by decide) ?_
        refine mt_aI hB 39 (by decide) rfl (fun h34 t34 hB => ?_)
        exact mt_ret hB
def gm_X8_isPlain (N : Nat) (a1 : Int32) (s : mt_S) : Option (Int32 × mt_S) :=
  Option.bind (gm_ldI s 5 a1) fun v5 =>
  if 3 < v5 then
    some (0, s)
  else
    some (1, s)
set_option maxRecDepth 20000 in
set_option maxHeartbeats 4000000 in
theorem mm_X8_isPlain {M : Nat} {X : Nat → Prop} {ad : Nat → Nat} {h : ym_H} {s : mt_S} {N : Nat} {a1 : Int32} (hB : mt_B M X ad h s h s) : mt_ok M X h s (fn_X8_isPlain N (some M) a1 h) (gm_X8_isPlain N a1 s) := by
  unfold fn_X8_isPlain gm_X8_isPlain
  refine mt_gR hB 5 (by decide) (by decide) ?_
  refine mt_ldI hB 5 (by decide) rfl (fun v5 => ?_)
  refine mt_if (fun _ => ?_) (fun _ => ?_)
  · exact mt_ret hB
  · exact mt_ret hB
def gm_X8_isAhead (N : Nat) (a0 : Int64) (a2 : Int32) (a3 : Int64) (a5 : Int32) (s : mt_S) : Option (Int32 × mt_S) :=
  if a3 < a0 then
    some (1, s)
  else
    if a0 = a3 then
      if a5 ≤ a2 then
        some (0, s)
      else
        some (1, s)
    else
      some (0, s)
set_option maxRecDepth 20000 in
set_option maxHeartbeats 4000000 in
theorem mm_X8_isAhead {M : Nat} {X : Nat → Prop} {ad : Nat → Nat} {h : ym_H} {s : mt_S} {N : Nat} {a0 : Int64} {a2 : Int32} {a3 : Int64} {a5 : Int32} (hB : mt_B M X ad h s h s) : mt_ok M X h s (fn_X8_isAhead N a0 a2 a3 a5 h) (gm_X8_isAhead N a0 a2 a3 a5 s) := by
  unfold fn_X8_isAhead gm_X8_isAhead
  refine mt_if (fun _ => ?_) (fun _ => ?_)
  · exact mt_ret hB
  · refine mt_if (fun _ => ?_) (fun _ => ?_)
    · refine mt_if (fun _ => ?_) (fun _ => ?_)
      · exact mt_ret hB
      · exact mt_ret hB
    · exact mt_ret hB
def gb_X8_after_34_5 (Kl : Int64 → Int64 → Int32 → mt_S → Option ((Int64) × mt_S)) (N : Nat) (w1 : Int64) (w3 : Int64) (w5 : Int32) (s : mt_S) : Option ((Int64) × mt_S) :=
  Kl w1 w3 (w5 + 1) s
set_option maxRecDepth 20000 in
set_option maxHeartbeats 4000000 in
theorem mm_bl_X8_after_34_5 {M : Nat} {X : Nat → Prop} {ad : Nat → Nat} {H0 h : ym_H} {S0 s : mt_S} {K : Option Nat → Int64 → Int64 → Int32 → ym_H → Option ((Int64) × ym_H)} {Kl : Int64 → Int64 → Int32 → mt_S → Option ((Int64) × mt_S)} (hKl : ∀ (w1 : Int64) (w3 : Int64) (w5 : Int32) (ad : Nat → Nat) (h : ym_H) (s : mt_S), mt_B M X ad H0 S0 h s → mt_ok M X H0 S0 (K (some M) w1 w3 w5 h) (Kl w1 w3 w5 s)) {N : Nat} {w1 : Int64} {w3 : Int64} {w5 : Int32} (hB : mt_B M X ad H0 S0 h s) : mt_ok M X H0 S0 (bl_X8_after_34_5 K N (some M) w1 w3 w5 h) (gb_X8_after_34_5 Kl N w1 w3 w5 s) := by
  unfold bl_X8_after_34_5 gb_X8_after_34_5
  exact hKl _ _ _ _ _ _ hB
def gl_X8_after_5 (Kl : Int64 → Int64 → Int32 → mt_S → Option ((Int64) × mt_S)) (N : Nat) (w1 : Int64) (w3 : Int64) (w5 : Int32) (s : mt_S) : Option ((Int64) × mt_S) :=
  if (s.1 33 0) ≤ w5 then
    some (w3, s)
  else
    Option.bind (gm_ldL s 34 w5) fun v20 =>
    if w1 < v20 then
      gb_X8_after_34_5 Kl N w1 w3 w5 s
    else
      Option.bind (gm_ldL s 35 w5) fun v32 =>
      gb_X8_after_34_5 Kl N w1 v32 w5 s
set_option maxRecDepth 20000 in
set_option maxHeartbeats 4000000 in
theorem mm_lb_X8_after_5 {M : Nat} {X : Nat → Prop} {ad : Nat → Nat} {H0 h : ym_H} {S0 s : mt_S} {K : Option Nat → Int64 → Int64 → Int32 → ym_H → Option ((Int64) × ym_H)} {Kl : Int64 → Int64 → Int32 → mt_S → Option ((Int64) × mt_S)} (hKl : ∀ (w1 : Int64) (w3 : Int64) (w5 : Int32) (ad : Nat → Nat) (h : ym_H) (s : mt_S), mt_B M X ad H0 S0 h s → mt_ok M X H0 S0 (K (some M) w1 w3 w5 h) (Kl w1 w3 w5 s)) {N : Nat} {w1 : Int64} {w3 : Int64} {w5 : Int32} (hB : mt_B M X ad H0 S0 h s) : mt_ok M X H0 S0 (lb_X8_after_5 K N (some M) w1 w3 w5 h) (gl_X8_after_5 Kl N w1 w3 w5 s) := by
  unfold lb_X8_after_5 gl_X8_after_5
  refine mt_gI hB 33 (by decide) rfl ?_
  refine mt_if (fun _ => ?_) (fun _ => ?_)
  · exact mt_ret hB
  · refine mt_gR hB 34 (by decide) (by decide) ?_
    refine mt_ldL hB 34 (by decide) rfl (fun v20 => ?_)
    refine mt_if (fun _ => ?_) (fun _ => ?_)
    · exact mm_bl_X8_after_34_5 hKl hB
    · refine mt_gR hB 35 (by decide) (by decide) ?_
      refine mt_ldL hB 35 (by decide) rfl (fun v32 => ?_)
      exact mm_bl_X8_after_34_5 hKl hB
def gp_X8_after_5 (N : Nat) : Nat → Int64 → Int64 → Int32 → mt_S → Option ((Int64) × mt_S)
  | 0, _, _, _, _ => none
  | n + 1, w1, w3, w5, s => gl_X8_after_5 (gp_X8_after_5 N n) N w1 w3 w5 s
theorem mm_lp_X8_after_5 {M : Nat} {X : Nat → Prop} {H0 : ym_H} {S0 : mt_S} {N : Nat} : ∀ (n : Nat) (ad : Nat → Nat) (h : ym_H) (s : mt_S) (w1 : Int64) (w3 : Int64) (w5 : Int32), mt_B M X ad H0 S0 h s → mt_ok M X H0 S0 (lp_X8_after_5 N n (some M) w1 w3 w5 h) (gp_X8_after_5 N n w1 w3 w5 s) := by
  intro n
  induction n with
  | zero => intro ad h s w1 w3 w5 hB; exact mt_no
  | succ n ih =>
    intro ad h s w1 w3 w5 hB
    exact mm_lb_X8_after_5 (fun w1 w3 w5 ad h s hB => ih ad h s w1 w3 w5 hB) hB
def gm_X8_after (N : Nat) (a1 : Int64) (s : mt_S) : Option (Int64 × mt_S) :=
  Option.bind (gp_X8_after_5 N N a1 1 0 s) fun q5 =>
  some ((a1 + q5.1), q5.2)
set_option maxRecDepth 20000 in
set_option maxHeartbeats 4000000 in
theorem mm_X8_after {M : Nat} {X : Nat → Prop} {ad : Nat → Nat} {h : ym_H} {s : mt_S} {N : Nat} {a1 : Int64} (hB : mt_B M X ad h s h s) : mt_ok M X h s (fn_X8_after N (some M) a1 h) (gm_X8_after N a1 s) := by
  unfold fn_X8_after gm_X8_after
  refine mt_call hB (mm_lp_X8_after_5 N _ _ _ _ _ _ hB.start) (fun r5 ad H5 S5 hB => ?_)
  dsimp only
  exact mt_ret hB
def gm_X8_standing (N : Nat) (a1 : Int32) (s : mt_S) : Option (Int32 × mt_S) :=
  Option.bind (gm_ldI s 5 a1) fun v5 =>
  if v5 = 4 then
    Option.bind (gm_ldI s 25 a1) fun v15 =>
    if v15 = 0 then
      some ((-1), s)
    else
      Option.bind (gm_ldI s 26 a1) fun v24 =>
      some (v24, s)
  else
    Option.bind (gm_ldI s 13 a1) fun v35 =>
    if 0 < v35 then
      Option.bind (gm_ldI s 14 a1) fun v52 =>
      Option.bind (gm_ldI s 16 v52) fun v53 =>
      some (v53, s)
    else
      some ((-1), s)
set_option maxRecDepth 20000 in
set_option maxHeartbeats 4000000 in
theorem mm_X8_standing {M : Nat} {X : Nat → Prop} {ad : Nat → Nat} {h : ym_H} {s : mt_S} {N : Nat} {a1 : Int32} (hB : mt_B M X ad h s h s) : mt_ok M X h s (fn_X8_standing N (some M) a1 h) (gm_X8_standing N a1 s) := by
  unfold fn_X8_standing gm_X8_standing
  refine mt_gR hB 5 (by decide) (by decide) ?_
  refine mt_ldI hB 5 (by decide) rfl (fun v5 => ?_)
  refine mt_if (fun _ => ?_) (fun _ => ?_)
  · refine mt_gR hB 25 (by decide) (by decide) ?_
    refine mt_ldZ hB 25 (by decide) rfl (fun v15 => ?_)
    refine mt_if (fun _ => ?_) (fun _ => ?_)
    · exact mt_ret hB
    · refine mt_gR hB 26 (by decide) (by decide) ?_
      refine mt_ldI hB 26 (by decide) rfl (fun v24 => ?_)
      exact mt_ret hB
  · refine mt_gR hB 13 (by decide) (by decide) ?_
    refine mt_ldI hB 13 (by decide) rfl (fun v35 => ?_)
    refine mt_if (fun _ => ?_) (fun _ => ?_)
    · refine mt_gR hB 16 (by decide) (by decide) ?_
      refine mt_gR hB 14 (by decide) (by decide) ?_
      refine mt_ldI hB 14 (by decide) rfl (fun v52 => ?_)
      refine mt_ldI hB 16 (by decide) rfl (fun v53 => ?_)
      exact mt_ret hB
    · exact mt_ret hB
def gm_X8_standingSum (N : Nat) (a1 : Int32) (s : mt_S) : Option (Int64 × mt_S) :=
  Option.bind (gm_X8_standing N a1 s) fun q2 =>
  if 0 ≤ q2.1 then
    Option.bind (gm_ldI q2.2 5 a1) fun v15 =>
    if v15 = 4 then
      Option.bind (gm_ldL q2.2 27 a1) fun v25 =>
      some (v25, q2.2)
    else
      Option.bind (gm_ldI q2.2 14 a1) fun v38 =>
      Option.bind (gm_ldL q2.2 17 v38) fun v39 =>
      some (v39, q2.2)
  else
    some (0, q2.2)
set_option maxRecDepth 20000 in
set_option maxHeartbeats 4000000 in
theorem mm_X8_standingSum {M : Nat} {X : Nat → Prop} {ad : Nat → Nat} {h : ym_H} {s : mt_S} {N : Nat} {a1 : Int32} (hB : mt_B M X ad h s h s) : mt_ok M X h s (fn_X8_standingSum N (some M) a1 h) (gm_X8_standingSum N a1 s) := by
  unfold fn_X8_standingSum gm_X8_standingSum
  refine mt_ob hB (fun _ => ?_)
  refine mt_call hB (mm_X8_standing hB.start) (fun r2 ad H2 S2 hB => ?_)
  dsimp only
  refine mt_if (fun _ => ?_) (fun _ => ?_)
  · refine mt_gR hB 5 (by decide) (by decide) ?_
    refine mt_ldI hB 5 (by decide) rfl (fun v15 => ?_)
    refine mt_if (fun _ => ?_) (fun _ => ?_)
    · refine mt_gR hB 27 (by decide) (by decide) ?_
      refine mt_ldL hB 27 (by decide) rfl (fun v25 => ?_)
      exact mt_ret hB
    · refine mt_gR hB 17 (by decide) (by decide) ?_
      refine mt_gR hB 14 (by decide) (by decide) ?_
      refine mt_ldI hB 14 (by decide) rfl (fun v38 => ?_)
      refine mt_ldL hB 17 (by decide) rfl (fun v39 => ?_)
      exact mt_ret hB
  · exact mt_ret hB
def gb_X8_enter_45 (N : Nat) (w1 : Int32) (w2 : Int32) (w3 : Int64) (s : mt_S) : Option (Unit × mt_S) :=
  Option.bind (gm_stI s 16 (s.1 15 0) w2) fun t54 =>
  Option.bind (gm_stL t54 17 (t54.1 15 0) w3) fun t64 =>
  Option.bind (gm_ldI t64 14 w1) fun v78 =>
  Option.bind (gm_stI t64 18 (t64.1 15 0) v78) fun t79 =>
  Option.bind (gm_stI t79 14 w1 (t79.1 15 0)) fun t89 =>
  Option.bind (gm_pI t89 15 ((t89.1 15 0) + 1)) fun t97 =>
  Option.bind (gm_ldI t97 13 w1) fun v106 =>
  Option.bind (gm_stI t97 13 w1 (v106 + 1)) fun t109 =>
  some ((), t109)
set_option maxRecDepth 20000 in
set_option maxHeartbeats 4000000 in
theorem mm_bl_X8_enter_45 {M : Nat} {X : Nat → Prop} {ad : Nat → Nat} {H0 h : ym_H} {S0 s : mt_S} {N : Nat} {w1 : Int32} {w2 : Int32} {w3 : Int64} (hB : mt_B M X ad H0 S0 h s) : mt_ok M X H0 S0 (bl_X8_enter_45 N (some M) w1 w2 w3 h) (gb_X8_enter_45 N w1 w2 w3 s) := by
  unfold bl_X8_enter_45 gb_X8_enter_45
  refine mt_gR hB 16 (by decide) (by decide) ?_
  refine mt_gI hB 15 (by decide) rfl ?_
  refine mt_aI hB 16 (by decide) rfl (fun h54 t54 hB => ?_)
  refine mt_gR hB 17 (by decide) (by decide) ?_
  refine mt_gI hB 15 (by decide) rfl ?_
  refine mt_aL hB 17 (by decide) rfl (fun h64 t64 hB => ?_)
  refine mt_gR hB 18 (by decide) (by decide) ?_
  refine mt_gI hB 15 (by decide) rfl ?_
  refine mt_gR hB 14 (by decide) (by decide) ?_
  refine mt_ldI hB 14 (by decide) rfl (fun v78 => ?_)
  refine mt_aI hB 18 (by decide) rfl (fun h79 t79 hB => ?_)
  refine mt_gR hB 14 (by decide) (by decide) ?_
  refine mt_gI hB 15 (by decide) rfl ?_
  refine mt_aI hB 14 (by decide) rfl (fun h89 t89 hB => ?_)
  refine mt_gI hB 15 (by decide) rfl ?_
  refine mt_pI hB 15 (by decide) rfl (fun h97 t97 hB => ?_)
  refine mt_gR hB 13 (by decide) (by decide) ?_
  refine mt_ldI hB 13 (by decide) rfl (fun v106 => ?_)
  refine mt_aI hB 13 (by decide) rfl (fun h109 t109 hB => ?_)
  exact mt_ret hB
def gm_X8_enter (N : Nat) (a1 : Int32) (a2 : Int32) (a3 : Int64) (s : mt_S) : Option (Unit × mt_S) :=
  if (s.1 15 0) = (Int32.ofNat (s.2.2 16)) then
    Option.bind (gm_gr N s 16) fun t20 =>
    Option.bind (gm_gr N t20 17) fun t31 =>
    Option.bind (gm_gr N t31 18) fun t42 =>
    gb_X8_enter_45 N a1 a2 a3 t42
  else
    gb_X8_enter_45 N a1 a2 a3 s
set_option maxRecDepth 20000 in
set_option maxHeartbeats 4000000 in
theorem mm_X8_enter {M : Nat} {X : Nat → Prop} {ad : Nat → Nat} {h : ym_H} {s : mt_S} {N : Nat} {a1 : Int32} {a2 : Int32} {a3 : Int64} (hB : mt_B M X ad h s h s) : mt_ok M X h s (fn_X8_enter N (some M) a1 a2 a3 h) (gm_X8_enter N a1 a2 a3 s) := by
  unfold fn_X8_enter gm_X8_enter
  refine mt_gI hB 15 (by decide) rfl ?_
  refine mt_gR hB 16 (by decide) (by decide) ?_
  refine mt_len hB 16 (by decide) (by decide) ?_
  refine mt_if (fun _ => ?_) (fun _ => ?_)
  · refine mt_grI hB 16 (by decide) rfl (by unfold mt_gk; decide) (fun ad h20 t20 hB => ?_)
    refine mt_grL hB 17 (by decide) rfl (by unfold mt_gk; decide) (fun ad h31 t31 hB => ?_)
    refine mt_grI hB 18 (by decide) rfl (by unfold mt_gk; decide) (fun ad h42 t42 hB => ?_)
    exact mm_bl_X8_enter_45 hB
  · exact mm_bl_X8_enter_45 hB
def gb_X8_askPapers_186_46 (Kl : Int32 → Int32 → Int32 → Int64 → Int32 → Int64 → Int32 → mt_S → Option ((Int32 × Int32 × Int64 × Int32 × Int64) × mt_S)) (N : Nat) (w1 : Int32) (w2 : Int32) (w3 : Int32) (w4 : Int64) (w6 : Int32) (w7 : Int64) (w9 : Int32) (s : mt_S) : Option ((Int32 × Int32 × Int64 × Int32 × Int64) × mt_S) :=
  Kl w1 w2 w3 w4 w6 w7 (w9 + 1) s
set_option maxRecDepth 20000 in
set_option maxHeartbeats 4000000 in
theorem mm_bl_X8_askPapers_186_46 {M : Nat} {X : Nat → Prop} {ad : Nat → Nat} {H0 h : ym_H} {S0 s : mt_S} {K : Option Nat → Int32 → Int32 → Int32 → Int64 → Int32 → Int64 → Int32 → ym_H → Option ((Int32 × Int32 × Int64 × Int32 × Int64) × ym_H)} {Kl : Int32 → Int32 → Int32 → Int64 → Int32 → Int64 → Int32 → mt_S → Option ((Int32 × Int32 × Int64 × Int32 × Int64) × mt_S)} (hKl : ∀ (w1 : Int32) (w2 : Int32) (w3 : Int32) (w4 : Int64) (w6 : Int32) (w7 : Int64) (w9 : Int32) (ad : Nat → Nat) (h : ym_H) (s : mt_S), mt_B M X ad H0 S0 h s → mt_ok M X H0 S0 (K (some M) w1 w2 w3 w4 w6 w7 w9 h) (Kl w1 w2 w3 w4 w6 w7 w9 s)) {N : Nat} {w1 : Int32} {w2 : Int32} {w3 : Int32} {w4 : Int64} {w6 : Int32} {w7 : Int64} {w9 : Int32} (hB : mt_B M X ad H0 S0 h s) : mt_ok M X H0 S0 (bl_X8_askPapers_186_46 K N (some M) w1 w2 w3 w4 w6 w7 w9 h) (gb_X8_askPapers_186_46 Kl N w1 w2 w3 w4 w6 w7 w9 s) := by
  unfold bl_X8_askPapers_186_46 gb_X8_askPapers_186_46
  exact hKl _ _ _ _ _ _ _ _ _ _ hB
def gb_X8_askPapers_109_46 (Kl : Int32 → Int32 → Int32 → Int64 → Int32 → Int64 → Int32 → mt_S → Option ((Int32 × Int32 × Int64 × Int32 × Int64) × mt_S)) (N : Nat) (w1 : Int32) (w3 : Int32) (w4 : Int64) (w9 : Int32) (s : mt_S) : Option ((Int32 × Int32 × Int64 × Int32 × Int64) × mt_S) :=
  Option.bind (gm_ldI s 22 w9) fun v125 =>
  Option.bind (gm_ldL s 21 w9) fun v133 =>
  gb_X8_askPapers_186_46 Kl N w1 w9 v125 v133 w3 w4 w9 s
set_option maxRecDepth 20000 in
set_option maxHeartbeats 4000000 in
theorem mm_bl_X8_askPapers_109_46 {M : Nat} {X : Nat → Prop} {ad : Nat → Nat} {H0 h : ym_H} {S0 s : mt_S} {K : Option Nat → Int32 → Int32 → Int32 → Int64 → Int32 → Int64 → Int32 → ym_H → Option ((Int32 × Int32 × Int64 × Int32 × Int64) × ym_H)} {Kl : Int32 → Int32 → Int32 → Int64 → Int32 → Int64 → Int32 → mt_S → Option ((Int32 × Int32 × Int64 × Int32 × Int64) × mt_S)} (hKl : ∀ (w1 : Int32) (w2 : Int32) (w3 : Int32) (w4 : Int64) (w6 : Int32) (w7 : Int64) (w9 : Int32) (ad : Nat → Nat) (h : ym_H) (s : mt_S), mt_B M X ad H0 S0 h s → mt_ok M X H0 S0 (K (some M) w1 w2 w3 w4 w6 w7 w9 h) (Kl w1 w2 w3 w4 w6 w7 w9 s)) {N : Nat} {w1 : Int32} {w3 : Int32} {w4 : Int64} {w9 : Int32} (hB : mt_B M X ad H0 S0 h s) : mt_ok M X H0 S0 (bl_X8_askPapers_109_46 K N (some M) w1 w3 w4 w9 h) (gb_X8_askPapers_109_46 Kl N w1 w3 w4 w9 s) := by
  unfold bl_X8_askPapers_109_46 gb_X8_askPapers_109_46
  refine mt_gR hB 22 (by decide) (by decide) ?_
  refine mt_ldI hB 22 (by decide) rfl (fun v125 => ?_)
  refine mt_gR hB 21 (by decide) (by decide) ?_
  refine mt_ldL hB 21 (by decide) rfl (fun v133 => ?_)
  exact mm_bl_X8_askPapers_186_46 hKl hB
def gb_X8_askPapers_168_46 (Kl : Int32 → Int32 → Int32 → Int64 → Int32 → Int64 → Int32 → mt_S → Option ((Int32 × Int32 × Int64 × Int32 × Int64) × mt_S)) (N : Nat) (w1 : Int32) (w2 : Int32) (w3 : Int32) (w4 : Int64) (w9 : Int32) (s : mt_S) : Option ((Int32 × Int32 × Int64 × Int32 × Int64) × mt_S) :=
  Option.bind (gm_ldI s 22 w9) fun v174 =>
  Option.bind (gm_ldL s 21 w9) fun v183 =>
  gb_X8_askPapers_186_46 Kl N w1 w2 w3 w4 v174 v183 w9 s
set_option maxRecDepth 20000 in
set_option maxHeartbeats 4000000 in
theorem mm_bl_X8_askPapers_168_46 {M : Nat} {X : Nat → Prop} {ad : Nat → Nat} {H0 h : ym_H} {S0 s : mt_S} {K : Option Nat → Int32 → Int32 → Int32 → Int64 → Int32 → Int64 → Int32 → ym_H → Option ((Int32 × Int32 × Int64 × Int32 × Int64) × ym_H)} {Kl : Int32 → Int32 → Int32 → Int64 → Int32 → Int64 → Int32 → mt_S → Option ((Int32 × Int32 × Int64 × Int32 × Int64) × mt_S)} (hKl : ∀ (w1 : Int32) (w2 : Int32) (w3 : Int32) (w4 : Int64) (w6 : Int32) (w7 : Int64) (w9 : Int32) (ad : Nat → Nat) (h : ym_H) (s : mt_S), mt_B M X ad H0 S0 h s → mt_ok M X H0 S0 (K (some M) w1 w2 w3 w4 w6 w7 w9 h) (Kl w1 w2 w3 w4 w6 w7 w9 s)) {N : Nat} {w1 : Int32} {w2 : Int32} {w3 : Int32} {w4 : Int64} {w9 : Int32} (hB : mt_B M X ad H0 S0 h s) : mt_ok M X H0 S0 (bl_X8_askPapers_168_46 K N (some M) w1 w2 w3 w4 w9 h) (gb_X8_askPapers_168_46 Kl N w1 w2 w3 w4 w9 s) := by
  unfold bl_X8_askPapers_168_46 gb_X8_askPapers_168_46
  refine mt_gR hB 22 (by decide) (by decide) ?_
  refine mt_ldI hB 22 (by decide) rfl (fun v174 => ?_)
  refine mt_gR hB 21 (by decide) (by decide) ?_
  refine mt_ldL hB 21 (by decide) rfl (fun v183 => ?_)
  exact mm_bl_X8_askPapers_186_46 hKl hB
def gl_X8_askPapers_46 (Kl : Int32 → Int32 → Int32 → Int64 → Int32 → Int64 → Int32 → mt_S → Option ((Int32 × Int32 × Int64 × Int32 × Int64) × mt_S)) (N : Nat) (w1 : Int32) (w2 : Int32) (w3 : Int32) (w4 : Int64) (w6 : Int32) (w7 : Int64) (w9 : Int32) (s : mt_S) : Option ((Int32 × Int32 × Int64 × Int32 × Int64) × mt_S) :=
  Option.bind (gm_ldI s 19 w1) fun v57 =>
  if ((40 * w1) + v57) ≤ w9 then
    some ((w2, w3, w4, w6, w7), s)
  else
    Option.bind (gm_ldL s 21 w9) fun v68 =>
    Option.bind (gm_ldL s 6 w1) fun v74 =>
    if v74 ≤ v68 then
      if w3 = 0 then
        gb_X8_askPapers_109_46 Kl N w1 w3 w4 w9 s
      else
        Option.bind (gm_ldL s 21 w9) fun v92 =>
        Option.bind (gm_ldI s 22 w9) fun v99 =>
        Option.bind (gm_X8_isAhead N v92 v99 w4 w3 s) fun q103 =>
        if q103.1 = 0 then
          if w6 = 0 then
            gb_X8_askPapers_168_46 Kl N w1 w2 w3 w4 w9 q103.2
          else
            Option.bind (gm_ldL q103.2 21 w9) fun v150 =>
            Option.bind (gm_ldI q103.2 22 w9) fun v157 =>
            Option.bind (gm_X8_isAhead N v150 v157 w7 w6 q103.2) fun q162 =>
            if q162.1 = 0 then
              gb_X8_askPapers_186_46 Kl N w1 w2 w3 w4 w6 w7 w9 q162.2
            else
              gb_X8_askPapers_168_46 Kl N w1 w2 w3 w4 w9 q162.2
        else
          gb_X8_askPapers_109_46 Kl N w1 w3 w4 w9 q103.2
    else
      gb_X8_askPapers_186_46 Kl N w1 w2 w3 w4 w6 w7 w9 s
set_option maxRecDepth 20000 in
set_option maxHeartbeats 4000000 in
theorem mm_lb_X8_askPapers_46 {M : Nat} {X : Nat → Prop} {ad : Nat → Nat} {H0 h : ym_H} {S0 s : mt_S} {K : Option Nat → Int32 → Int32 → Int32 → Int64 → Int32 → Int64 → Int32 → ym_H → Option ((Int32 × Int32 × Int64 × Int32 × Int64) × ym_H)} {Kl : Int32 → Int32 → Int32 → Int64 → Int32 → Int64 → Int32 → mt_S → Option ((Int32 × Int32 × Int64 × Int32 × Int64) × mt_S)} (hKl : ∀ (w1 : Int32) (w2 : Int32) (w3 : Int32) (w4 : Int64) (w6 : Int32) (w7 : Int64) (w9 : Int32) (ad : Nat → Nat) (h : ym_H) (s : mt_S), mt_B M X ad H0 S0 h s → mt_ok M X H0 S0 (K (some M) w1 w2 w3 w4 w6 w7 w9 h) (Kl w1 w2 w3 w4 w6 w7 w9 s)) {N : Nat} {w1 : Int32} {w2 : Int32} {w3 : Int32} {w4 : Int64} {w6 : Int32} {w7 : Int64} {w9 : Int32} (hB : mt_B M X ad H0 S0 h s) : mt_ok M X H0 S0 (lb_X8_askPapers_46 K N (some M) w1 w2 w3 w4 w6 w7 w9 h) (gl_X8_askPapers_46 Kl N w1 w2 w3 w4 w6 w7 w9 s) := by
  unfold lb_X8_askPapers_46 gl_X8_askPapers_46
  refine mt_gR hB 19 (by decide) (by decide) ?_
  refine mt_ldI hB 19 (by decide) rfl (fun v57 => ?_)
  refine mt_if (fun _ => ?_) (fun _ => ?_)
  · exact mt_ret hB
  · refine mt_gR hB 21 (by decide) (by decide) ?_
    refine mt_ldL hB 21 (by decide) rfl (fun v68 => ?_)
    refine mt_gR hB 6 (by decide) (by decide) ?_
    refine mt_ldL hB 6 (by decide) rfl (fun v74 => ?_)
    refine mt_if (fun _ => ?_) (fun _ => ?_)
    · refine mt_if (fun _ => ?_) (fun _ => ?_)
      · exact mm_bl_X8_askPapers_109_46 hKl hB
      · refine mt_gR hB 21 (by decide) (by decide) ?_
        refine mt_ldL hB 21 (by decide) rfl (fun v92 => ?_)
        refine mt_gR hB 22 (by decide) (by decide) ?_
        refine mt_ldI hB 22 (by decide) rfl (fun v99 => ?_)
        refine mt_call hB (mm_X8_isAhead hB.start) (fun r103 ad H103 S103 hB => ?_)
        dsimp only
        refine mt_if (fun _ => ?_) (fun _ => ?_)
        · refine mt_if (fun _ => ?_) (fun _ => ?_)
          · exact mm_bl_X8_askPapers_168_46 hKl hB
          · refine mt_gR hB 21 (by decide) (by decide) ?_
            refine mt_ldL hB 21 (by decide) rfl (fun v150 => ?_)
            refine mt_gR hB 22 (by decide) (by decide) ?_
            refine mt_ldI hB 22 (by decide) rfl (fun v157 => ?_)
            refine mt_call hB (mm_X8_isAhead hB.start) (fun r162 ad H162 S162 hB => ?_)
            dsimp only
            refine mt_if (fun _ => ?_) (fun _ => ?_)
            · exact mm_bl_X8_askPapers_186_46 hKl hB
            · exact mm_bl_X8_askPapers_168_46 hKl hB
        · exact mm_bl_X8_askPapers_109_46 hKl hB
    · exact mm_bl_X8_askPapers_186_46 hKl hB
def gp_X8_askPapers_46 (N : Nat) : Nat → Int32 → Int32 → Int32 → Int64 → Int32 → Int64 → Int32 → mt_S → Option ((Int32 × Int32 × Int64 × Int32 × Int64) × mt_S)
  | 0, _, _, _, _, _, _, _, _ => none
  | n + 1, w1, w2, w3, w4, w6, w7, w9, s => gl_X8_askPapers_46 (gp_X8_askPapers_46 N n) N w1 w2 w3 w4 w6 w7 w9 s
theorem mm_lp_X8_askPapers_46 {M : Nat} {X : Nat → Prop} {H0 : ym_H} {S0 : mt_S} {N : Nat} : ∀ (n : Nat) (ad : Nat → Nat) (h : ym_H) (s : mt_S) (w1 : Int32) (w2 : Int32) (w3 : Int32) (w4 : Int64) (w6 : Int32) (w7 : Int64) (w9 : Int32), mt_B M X ad H0 S0 h s → mt_ok M X H0 S0 (lp_X8_askPapers_46 N n (some M) w1 w2 w3 w4 w6 w7 w9 h) (gp_X8_askPapers_46 N n w1 w2 w3 w4 w6 w7 w9 s) := by
  intro n
  induction n with
  | zero => intro ad h s w1 w2 w3 w4 w6 w7 w9 hB; exact mt_no
  | succ n ih =>
    intro ad h s w1 w2 w3 w4 w6 w7 w9 hB
    exact mm_lb_X8_askPapers_46 (fun w1 w2 w3 w4 w6 w7 w9 ad h s hB => ih ad h s w1 w2 w3 w4 w6 w7 w9 hB) hB
def gb_X8_askPapers_295 (N : Nat) (w1 : Int32) (w9 : Int64) (w11 : Int32) (s : mt_S) : Option (Unit × mt_S) :=
  Option.bind (gm_X8_enter N w1 w11 w9 s) fun q301 =>
  some ((), q301.2)
set_option maxRecDepth 20000 in
set_option maxHeartbeats 4000000 in
theorem mm_bl_X8_askPapers_295 {M : Nat} {X : Nat → Prop} {ad : Nat → Nat} {H0 h : ym_H} {S0 s : mt_S} {N : Nat} {w1 : Int32} {w9 : Int64} {w11 : Int32} (hB : mt_B M X ad H0 S0 h s) : mt_ok M X H0 S0 (bl_X8_askPapers_295 N (some M) w1 w9 w11 h) (gb_X8_askPapers_295 N w1 w9 w11 s) := by
  unfold bl_X8_askPapers_295 gb_X8_askPapers_295
  refine mt_ob hB (fun _ => ?_)
  refine mt_call hB (mm_X8_enter hB.start) (fun r301 ad H301 S301 hB => ?_)
  dsimp only
  exact mt_ret hB
def gb_X8_askPapers_266 (N : Nat) (w1 : Int32) (w2 : Int32) (w9 : Int64) (s : mt_S) : Option (Unit × mt_S) :=
  Option.bind (gm_ldI s 20 w2) fun v271 =>
  Option.bind (gm_X8_standing N w1 s) fun q276 =>
  if q276.1 = v271 then
    Option.bind (gm_X8_standingSum N w1 q276.2) fun q286 =>
    if w9 ≤ q286.1 then
      some ((), q286.2)
    else
      gb_X8_askPapers_295 N w1 w9 v271 q286.2
  else
    gb_X8_askPapers_295 N w1 w9 v271 q276.2
set_option maxRecDepth 20000 in
set_option maxHeartbeats 4000000 in
theorem mm_bl_X8_askPapers_266 {M : Nat} {X : Nat → Prop} {ad : Nat → Nat} {H0 h : ym_H} {S0 s : mt_S} {N : Nat} {w1 : Int32} {w2 : Int32} {w9 : Int64} (hB : mt_B M X ad H0 S0 h s) : mt_ok M X H0 S0 (bl_X8_askPapers_266 N (some M) w1 w2 w9 h) (gb_X8_askPapers_266 N w1 w2 w9 s) := by
  unfold bl_X8_askPapers_266 gb_X8_askPapers_266
  refine mt_gR hB 20 (by decide) (by decide) ?_
  refine mt_ldI hB 20 (by decide) rfl (fun v271 => ?_)
  refine mt_ob hB (fun _ => ?_)
  refine mt_call hB (mm_X8_standing hB.start) (fun r276 ad H276 S276 hB => ?_)
  dsimp only
  refine mt_if (fun _ => ?_) (fun _ => ?_)
  · refine mt_ob hB (fun _ => ?_)
    refine mt_call hB (mm_X8_standingSum hB.start) (fun r286 ad H286 S286 hB => ?_)
    dsimp only
    refine mt_if (fun _ => ?_) (fun _ => ?_)
    · exact mt_ret hB
    · exact mm_bl_X8_askPapers_295 hB
  · exact mm_bl_X8_askPapers_295 hB
def gb_X8_askPapers_254 (N : Nat) (w1 : Int32) (w2 : Int32) (w4 : Int64) (w9 : Int64) (s : mt_S) : Option (Unit × mt_S) :=
  if w9 ≤ w4 then
    gb_X8_askPapers_266 N w1 w2 w9 s
  else
    gb_X8_askPapers_266 N w1 w2 w4 s
set_option maxRecDepth 20000 in
set_option maxHeartbeats 4000000 in
theorem mm_bl_X8_askPapers_254 {M : Nat} {X : Nat → Prop} {ad : Nat → Nat} {H0 h : ym_H} {S0 s : mt_S} {N : Nat} {w1 : Int32} {w2 : Int32} {w4 : Int64} {w9 : Int64} (hB : mt_B M X ad H0 S0 h s) : mt_ok M X H0 S0 (bl_X8_askPapers_254 N (some M) w1 w2 w4 w9 h) (gb_X8_askPapers_254 N w1 w2 w4 w9 s) := by
  unfold bl_X8_askPapers_254 gb_X8_askPapers_254
  refine mt_if (fun _ => ?_) (fun _ => ?_)
  · exact mm_bl_X8_askPapers_266 hB
  · exact mm_bl_X8_askPapers_266 hB
def gb_X8_askPapers_232 (N : Nat) (w1 : Int32) (w2 : Int32) (w4 : Int64) (s0 : Int64) (s : mt_S) : Option (Unit × mt_S) :=
  Option.bind (gm_ldL s 7 w1) fun v241 =>
  if v241 ≤ s0 then
    gb_X8_askPapers_254 N w1 w2 w4 s0 s
  else
    Option.bind (gm_ldL s 7 w1) fun v251 =>
    gb_X8_askPapers_254 N w1 w2 w4 v251 s
set_option maxRecDepth 20000 in
set_option maxHeartbeats 4000000 in
theorem mm_bl_X8_askPapers_232 {M : Nat} {X : Nat → Prop} {ad : Nat → Nat} {H0 h : ym_H} {S0 s : mt_S} {N : Nat} {w1 : Int32} {w2 : Int32} {w4 : Int64} {s0 : Int64} (hB : mt_B M X ad H0 S0 h s) : mt_ok M X H0 S0 (bl_X8_askPapers_232 N (some M) w1 w2 w4 s0 h) (gb_X8_askPapers_232 N w1 w2 w4 s0 s) := by
  unfold bl_X8_askPapers_232 gb_X8_askPapers_232
  refine mt_gR hB 7 (by decide) (by decide) ?_
  refine mt_ldL hB 7 (by decide) rfl (fun v241 => ?_)
  refine mt_if (fun _ => ?_) (fun _ => ?_)
  · exact mm_bl_X8_askPapers_254 hB
  · refine mt_gR hB 7 (by decide) (by decide) ?_
    refine mt_ldL hB 7 (by decide) rfl (fun v251 => ?_)
    exact mm_bl_X8_askPapers_254 hB
def gb_X8_askPapers_32 (N : Nat) (w1 : Int32) (w2 : Int32) (w3 : Int32) (s0 : Int64) (s : mt_S) : Option (Unit × mt_S) :=
  Option.bind (gp_X8_askPapers_46 N N w1 w2 w3 s0 0 0 (40 * w1) s) fun q46 =>
  Option.bind (gm_stI q46.2 28 w1 q46.1.2.1) fun t198 =>
  Option.bind (gm_stI t198 29 w1 q46.1.2.2.2.1) fun t206 =>
  if 0 ≤ q46.1.1 then
    if q46.1.2.2.2.1 ≤ 0 then
      Option.bind (gm_ldL t206 6 w1) fun v231 =>
      gb_X8_askPapers_232 N w1 q46.1.1 q46.1.2.2.1 v231 t206
    else
      Option.bind (gm_X8_after N q46.1.2.2.2.2 t206) fun q220 =>
      gb_X8_askPapers_232 N w1 q46.1.1 q46.1.2.2.1 q220.1 q220.2
  else
    some ((), t206)
set_option maxRecDepth 20000 in
set_option maxHeartbeats 4000000 in
theorem mm_bl_X8_askPapers_32 {M : Nat} {X : Nat → Prop} {ad : Nat → Nat} {H0 h : ym_H} {S0 s : mt_S} {N : Nat} {w1 : Int32} {w2 : Int32} {w3 : Int32} {s0 : Int64} (hB : mt_B M X ad H0 S0 h s) : mt_ok M X H0 S0 (bl_X8_askPapers_32 N (some M) w1 w2 w3 s0 h) (gb_X8_askPapers_32 N w1 w2 w3 s0 s) := by
  unfold bl_X8_askPapers_32 gb_X8_askPapers_32
  refine mt_call hB (mm_lp_X8_askPapers_46 N _ _ _ _ _ _ _ _ _ _ hB.start) (fun r46 ad H46 S46 hB => ?_)
  dsimp only
  refine mt_gR hB 28 (by decide) (by decide) ?_
  refine mt_aI hB 28 (by decide) rfl (fun h198 t198 hB => ?_)
  refine mt_gR hB 29 (by decide) (by decide) ?_
  refine mt_aI hB 29 (by decide) rfl (fun h206 t206 hB => ?_)
  refine mt_if (fun _ => ?_) (fun _ => ?_)
  · refine mt_if (fun _ => ?_) (fun _ => ?_)
    · refine mt_gR hB 6 (by decide) (by decide) ?_
      refine mt_ldL hB 6 (by decide) rfl (fun v231 => ?_)
      exact mm_bl_X8_askPapers_232 hB
    · refine mt_ob hB (fun _ => ?_)
      refine mt_call hB (mm_X8_after hB.start) (fun r220 ad H220 S220 hB => ?_)
      dsimp only
      exact mm_bl_X8_askPapers_232 hB
  · exact mt_ret hB
def gm_X8_askPapers (N : Nat) (a1 : Int32) (s : mt_S) : Option (Unit × mt_S) :=
  Option.bind (gm_X8_isPlain N a1 s) fun q2 =>
  if q2.1 = 0 then
    some ((), q2.2)
  else
    Option.bind (gm_ldI q2.2 23 a1) fun v16 =>
    if v16 ≤ 0 then
      gb_X8_askPapers_32 N a1 (-1) v16 0 q2.2
    else
      Option.bind (gm_ldL q2.2 24 a1) fun v27 =>
      gb_X8_askPapers_32 N a1 (-1) v16 v27 q2.2
set_option maxRecDepth 20000 in
set_option maxHeartbeats 4000000 in
theorem mm_X8_askPapers {M : Nat} {X : Nat → Prop} {ad : Nat → Nat} {h : ym_H} {s : mt_S} {N : Nat} {a1 : Int32} (hB : mt_B M X ad h s h s) : mt_ok M X h s (fn_X8_askPapers N (some M) a1 h) (gm_X8_askPapers N a1 s) := by
  unfold fn_X8_askPapers gm_X8_askPapers
  refine mt_ob hB (fun _ => ?_)
  refine mt_call hB (mm_X8_isPlain hB.start) (fun r2 ad H2 S2 hB => ?_)
  dsimp only
  refine mt_if (fun _ => ?_) (fun _ => ?_)
  · exact mt_ret hB
  · refine mt_gR hB 23 (by decide) (by decide) ?_
    refine mt_ldI hB 23 (by decide) rfl (fun v16 => ?_)
    refine mt_if (fun _ => ?_) (fun _ => ?_)
    · exact mm_bl_X8_askPapers_32 hB
    · refine mt_gR hB 24 (by decide) (by decide) ?_
      refine mt_ldL hB 24 (by decide) rfl (fun v27 => ?_)
      exact mm_bl_X8_askPapers_32 hB
def gb_X8_called_65 (N : Nat) (w1 : Int32) (s : mt_S) : Option (Int64 × mt_S) :=
  Option.bind (gm_X8_askPapers N w1 s) fun q67 =>
  Option.bind (gm_ldI q67.2 13 w1) fun v75 =>
  some ((Int32.toInt64 v75), q67.2)
set_option maxRecDepth 20000 in
set_option maxHeartbeats 4000000 in
theorem mm_bl_X8_called_65 {M : Nat} {X : Nat → Prop} {ad : Nat → Nat} {H0 h : ym_H} {S0 s : mt_S} {N : Nat} {w1 : Int32} (hB : mt_B M X ad H0 S0 h s) : mt_ok M X H0 S0 (bl_X8_called_65 N (some M) w1 h) (gb_X8_called_65 N w1 s) := by
  unfold bl_X8_called_65 gb_X8_called_65
  refine mt_ob hB (fun _ => ?_)
  refine mt_call hB (mm_X8_askPapers hB.start) (fun r67 ad H67 S67 hB => ?_)
  dsimp only
  refine mt_gR hB 13 (by decide) (by decide) ?_
  refine mt_ldI hB 13 (by decide) rfl (fun v75 => ?_)
  exact mt_ret hB
def gm_X8_called (N : Nat) (a1 : Int32) (s : mt_S) : Option (Int64 × mt_S) :=
  Option.bind (gm_X8_noLot N a1 s) fun q2 =>
  if q2.1 ≤ 0 then
    Option.bind (gm_ldI q2.2 9 a1) fun v21 =>
    if v21 = 0 then
      Option.bind (gm_stI q2.2 9 a1 1) fun t35 =>
      Option.bind (gm_stI t35 13 a1 0) fun t42 =>
      Option.bind (gm_ldI t42 5 a1) fun v48 =>
      if v48 = 5 then
        Option.bind (gm_ldL t42 6 a1) fun v63 =>
        Option.bind (gm_stL t42 10 a1 v63) fun t64 =>
        gb_X8_called_65 N a1 t64
      else
        gb_X8_called_65 N a1 t42
    else
      some ((-9), q2.2)
  else
    Option.bind (gm_X8_noLot N a1 q2.2) fun q10 =>
    some ((Int32.toInt64 (-q10.1)), q10.2)
set_option maxRecDepth 20000 in
set_option maxHeartbeats 4000000 in
theorem mm_X8_called {M : Nat} {X : Nat → Prop} {ad : Nat → Nat} {h : ym_H} {s : mt_S} {N : Nat} {a1 : Int32} (hB : mt_B M X ad h s h s) : mt_ok M X h s (fn_X8_called N (some M) a1 h) (gm_X8_called N a1 s) := by
  unfold fn_X8_called gm_X8_called
  refine mt_ob hB (fun _ => ?_)
  refine mt_call hB (mm_X8_noLot hB.start) (fun r2 ad H2 S2 hB => ?_)
  dsimp only
  refine mt_if (fun _ => ?_) (fun _ => ?_)
  · refine mt_gR hB 9 (by decide) (by decide) ?_
    refine mt_ldI hB 9 (by decide) rfl (fun v21 => ?_)
    refine mt_if (fun _ => ?_) (fun _ => ?_)
    · refine mt_gR hB 9 (by decide) (by decide) ?_
      refine mt_aI hB 9 (by decide) rfl (fun h35 t35 hB => ?_)
      refine mt_gR hB 13 (by decide) (by decide) ?_
      refine mt_aI hB 13 (by decide) rfl (fun h42 t42 hB => ?_)
      refine mt_gR hB 5 (by decide) (by decide) ?_
      refine mt_ldI hB 5 (by decide) rfl (fun v48 => ?_)
      refine mt_if (fun _ => ?_) (fun _ => ?_)
      · refine mt_gR hB 10 (by decide) (by decide) ?_
        refine mt_gR hB 6 (by decide) (by decide) ?_
        refine mt_ldL hB 6 (by decide) rfl (fun v63 => ?_)
        refine mt_aL hB 10 (by decide) rfl (fun h64 t64 hB => ?_)
        exact mm_bl_X8_called_65 hB
      · exact mm_bl_X8_called_65 hB
    · exact mt_ret hB
  · refine mt_ob hB (fun _ => ?_)
    refine mt_call hB (mm_X8_noLot hB.start) (fun r10 ad H10 S10 hB => ?_)
    dsimp only
    exact mt_ret hB
def gm_X8_notOpen (N : Nat) (a1 : Int32) (s : mt_S) : Option (Int32 × mt_S) :=
  Option.bind (gm_ldI s 13 a1) fun v5 =>
  if 0 ≤ v5 then
    Option.bind (gm_ldI s 9 a1) fun v19 =>
    if v19 = 1 then
      some (0, s)
    else
      some (9, s)
  else
    some (6, s)
set_option maxRecDepth 20000 in
set_option maxHeartbeats 4000000 in
theorem mm_X8_notOpen {M : Nat} {X : Nat → Prop} {ad : Nat → Nat} {h : ym_H} {s : mt_S} {N : Nat} {a1 : Int32} (hB : mt_B M X ad h s h s) : mt_ok M X h s (fn_X8_notOpen N (some M) a1 h) (gm_X8_notOpen N a1 s) := by
  unfold fn_X8_notOpen gm_X8_notOpen
  refine mt_gR hB 13 (by decide) (by decide) ?_
  refine mt_ldI hB 13 (by decide) rfl (fun v5 => ?_)
  refine mt_if (fun _ => ?_) (fun _ => ?_)
  · refine mt_gR hB 9 (by decide) (by decide) ?_
    refine mt_ldI hB 9 (by decide) rfl (fun v19 => ?_)
    refine mt_if (fun _ => ?_) (fun _ => ?_)
    · exact mt_ret hB
    · exact mt_ret hB
  · exact mt_ret hB
