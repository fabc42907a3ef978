def gb_X8_offered_113 (N : Nat) (w1 : Int32) (w2 : Int64) (s : mt_S) : Option (Int64 × mt_S) :=
  Option.bind (gm_X8_renew N w1 w2 s) fun q116 =>
  some (1, q116.2)
set_option maxRecDepth 20000 in
set_option maxHeartbeats 4000000 in
theorem mm_bl_X8_offered_113 {M : Nat} {X : Nat → Prop} {ad : Nat → Nat} {H0 h : ym_H} {S0 s : mt_S} {N : Nat} {w1 : Int32} {w2 : Int64} (hB : mt_B M X ad H0 S0 h s) : mt_ok M X H0 S0 (bl_X8_offered_113 N (some M) w1 w2 h) (gb_X8_offered_113 N w1 w2 s) := by
  unfold bl_X8_offered_113 gb_X8_offered_113
  refine mt_ob hB (fun _ => ?_)
  refine mt_call hB (mm_X8_renew hB.start) (fun r116 ad H116 S116 hB => ?_)
  dsimp only
  exact mt_ret hB
def gb_X8_offered_66 (N : Nat) (w1 : Int32) (w2 : Int64) (s : mt_S) : Option (Int64 × mt_S) :=
  Option.bind (gm_ldI s 30 w1) fun v71 =>
  if v71 < 0 then
    gb_X8_offered_113 N w1 w2 s
  else
    Option.bind (gm_ldI s 31 v71) fun v89 =>
    Option.bind (gm_stI s 30 v89 (-1)) fun t91 =>
    Option.bind (gm_ldI t91 32 v71) fun v102 =>
    Option.bind (gm_stI t91 30 v102 (-1)) fun t104 =>
    Option.bind (gm_stI t104 30 v71 (-1)) fun t112 =>
    gb_X8_offered_113 N w1 w2 t112
set_option maxRecDepth 20000 in
set_option maxHeartbeats 4000000 in
theorem mm_bl_X8_offered_66 {M : Nat} {X : Nat → Prop} {ad : Nat → Nat} {H0 h : ym_H} {S0 s : mt_S} {N : Nat} {w1 : Int32} {w2 : Int64} (hB : mt_B M X ad H0 S0 h s) : mt_ok M X H0 S0 (bl_X8_offered_66 N (some M) w1 w2 h) (gb_X8_offered_66 N w1 w2 s) := by
  unfold bl_X8_offered_66 gb_X8_offered_66
  refine mt_gR hB 30 (by decide) (by decide) ?_
  refine mt_ldI hB 30 (by decide) rfl (fun v71 => ?_)
  refine mt_if (fun _ => ?_) (fun _ => ?_)
  · exact mm_bl_X8_offered_113 hB
  · refine mt_gR hB 30 (by decide) (by decide) ?_
    refine mt_gR hB 31 (by decide) (by decide) ?_
    refine mt_ldI hB 31 (by decide) rfl (fun v89 => ?_)
    refine mt_aI hB 30 (by decide) rfl (fun h91 t91 hB => ?_)
    refine mt_gR hB 30 (by decide) (by decide) ?_
    refine mt_gR hB 32 (by decide) (by decide) ?_
    refine mt_ldI hB 32 (by decide) rfl (fun v102 => ?_)
    refine mt_aI hB 30 (by decide) rfl (fun h104 t104 hB => ?_)
    refine mt_gR hB 30 (by decide) (by decide) ?_
    refine mt_aI hB 30 (by decide) rfl (fun h112 t112 hB => ?_)
    exact mm_bl_X8_offered_113 hB
def gm_X8_offered (N : Nat) (a1 : Int32) (a2 : Int64) (s : mt_S) : Option (Int64 × mt_S) :=
  Option.bind (gm_X8_isSum N a2 s) fun q1 =>
  if q1.1 = 0 then
    some ((-1), q1.2)
  else
    Option.bind (gm_X8_noLot N a1 q1.2) fun q13 =>
    if q13.1 ≤ 0 then
      Option.bind (gm_ldI q13.2 9 a1) fun v32 =>
      if v32 = 3 then
        Option.bind (gm_ldI q13.2 5 a1) fun v46 =>
        if v46 = 5 then
          Option.bind (gm_ldL q13.2 7 a1) fun v57 =>
          if v57 ≤ a2 then
            gb_X8_offered_66 N a1 a2 q13.2
          else
            some ((-10), q13.2)
        else
          gb_X8_offered_66 N a1 a2 q13.2
      else
        some ((-9), q13.2)
    else
      Option.bind (gm_X8_noLot N a1 q13.2) fun q21 =>
      some ((Int32.toInt64 (-q21.1)), q21.2)
set_option maxRecDepth 20000 in
set_option maxHeartbeats 4000000 in
theorem mm_X8_offered {M : Nat} {X : Nat → Prop} {ad : Nat → Nat} {h : ym_H} {s : mt_S} {N : Nat} {a1 : Int32} {a2 : Int64} (hB : mt_B M X ad h s h s) : mt_ok M X h s (fn_X8_offered N (some M) a1 a2 h) (gm_X8_offered N a1 a2 s) := by
  unfold fn_X8_offered gm_X8_offered
  refine mt_call hB (mm_X8_isSum hB.start) (fun r1 ad H1 S1 hB => ?_)
  dsimp only
  refine mt_if (fun _ => ?_) (fun _ => ?_)
  · exact mt_ret hB
  · refine mt_ob hB (fun _ => ?_)
    refine mt_call hB (mm_X8_noLot hB.start) (fun r13 ad H13 S13 hB => ?_)
    dsimp only
    refine mt_if (fun _ => ?_) (fun _ => ?_)
    · refine mt_gR hB 9 (by decide) (by decide) ?_
      refine mt_ldI hB 9 (by decide) rfl (fun v32 => ?_)
      refine mt_if (fun _ => ?_) (fun _ => ?_)
      · refine mt_gR hB 5 (by decide) (by decide) ?_
        refine mt_ldI hB 5 (by decide) rfl (fun v46 => ?_)
        refine mt_if (fun _ => ?_) (fun _ => ?_)
        · refine mt_gR hB 7 (by decide) (by decide) ?_
          refine mt_ldL hB 7 (by decide) rfl (fun v57 => ?_)
          refine mt_if (fun _ => ?_) (fun _ => ?_)
          · exact mm_bl_X8_offered_66 hB
          · exact mt_ret hB
        · exact mm_bl_X8_offered_66 hB
      · exact mt_ret hB
    · refine mt_ob hB (fun _ => ?_)
      refine mt_call hB (mm_X8_noLot hB.start) (fun r21 ad H21 S21 hB => ?_)
      dsimp only
      exact mt_ret hB
def gm_X8_paid (N : Nat) (a1 : Int32) (a2 : Int64) (s : mt_S) : Option (Int64 × mt_S) :=
  Option.bind (gm_X8_isSum N a2 s) fun q1 =>
  if q1.1 = 0 then
    some ((-1), q1.2)
  else
    Option.bind (gm_X8_noBidder N a1 q1.2) fun q13 =>
    if q13.1 ≤ 0 then
      Option.bind (gm_ldL q13.2 3 a1) fun v32 =>
      if (v32 + a2) ≤ 1000000000000000 then
        Option.bind (gm_ldL q13.2 3 a1) fun v52 =>
        Option.bind (gm_stL q13.2 3 a1 (v52 + a2)) fun t55 =>
        Option.bind (gm_ldL t55 40 2) fun v62 =>
        Option.bind (gm_stL t55 40 2 (v62 - a2)) fun t65 =>
        some (a2, t65)
      else
        some ((-11), q13.2)
    else
      Option.bind (gm_X8_noBidder N a1 q13.2) fun q21 =>
      some ((Int32.toInt64 (-q21.1)), q21.2)
set_option maxRecDepth 20000 in
set_option maxHeartbeats 4000000 in
theorem mm_X8_paid {M : Nat} {X : Nat → Prop} {ad : Nat → Nat} {h : ym_H} {s : mt_S} {N : Nat} {a1 : Int32} {a2 : Int64} (hB : mt_B M X ad h s h s) : mt_ok M X h s (fn_X8_paid N (some M) a1 a2 h) (gm_X8_paid N a1 a2 s) := by
  unfold fn_X8_paid gm_X8_paid
  refine mt_call hB (mm_X8_isSum hB.start) (fun r1 ad H1 S1 hB => ?_)
  dsimp only
  refine mt_if (fun _ => ?_) (fun _ => ?_)
  · exact mt_ret hB
  · refine mt_ob hB (fun _ => ?_)
    refine mt_call hB (mm_X8_noBidder hB.start) (fun r13 ad H13 S13 hB => ?_)
    dsimp only
    refine mt_if (fun _ => ?_) (fun _ => ?_)
    · refine mt_gR hB 3 (by decide) (by decide) ?_
      refine mt_ldL hB 3 (by decide) rfl (fun v32 => ?_)
      refine mt_if (fun _ => ?_) (fun _ => ?_)
      · refine mt_gR hB 3 (by decide) (by decide) ?_
        refine mt_ldL hB 3 (by decide) rfl (fun v52 => ?_)
        refine mt_aL hB 3 (by decide) rfl (fun h55 t55 hB => ?_)
        refine mt_gR hB 40 (by decide) (by decide) ?_
        refine mt_ldL hB 40 (by decide) rfl (fun v62 => ?_)
        refine mt_aL hB 40 (by decide) rfl (fun h65 t65 hB => ?_)
        exact mt_ret hB
      · exact mt_ret hB
    · refine mt_ob hB (fun _ => ?_)
      refine mt_call hB (mm_X8_noBidder hB.start) (fun r21 ad H21 S21 hB => ?_)
      dsimp only
      exact mt_ret hB
def gm_X8_paidOut (N : Nat) (a1 : Int32) (a2 : Int64) (s : mt_S) : Option (Int64 × mt_S) :=
  Option.bind (gm_X8_isSum N a2 s) fun q1 =>
  if q1.1 = 0 then
    some ((-1), q1.2)
  else
    Option.bind (gm_X8_noBidder N a1 q1.2) fun q13 =>
    if q13.1 ≤ 0 then
      Option.bind (gm_ldL q13.2 3 a1) fun v32 =>
      if a2 ≤ v32 then
        Option.bind (gm_ldL q13.2 3 a1) fun v48 =>
        Option.bind (gm_stL q13.2 3 a1 (v48 - a2)) fun t51 =>
        Option.bind (gm_ldL t51 40 2) fun v58 =>
        Option.bind (gm_stL t51 40 2 (v58 + a2)) fun t61 =>
        some (a2, t61)
      else
        some ((-10), q13.2)
    else
      Option.bind (gm_X8_noBidder N a1 q13.2) fun q21 =>
      some ((Int32.toInt64 (-q21.1)), q21.2)
set_option maxRecDepth 20000 in
set_option maxHeartbeats 4000000 in
theorem mm_X8_paidOut {M : Nat} {X : Nat → Prop} {ad : Nat → Nat} {h : ym_H} {s : mt_S} {N : Nat} {a1 : Int32} {a2 : Int64} (hB : mt_B M X ad h s h s) : mt_ok M X h s (fn_X8_paidOut N (some M) a1 a2 h) (gm_X8_paidOut N a1 a2 s) := by
  unfold fn_X8_paidOut gm_X8_paidOut
  refine mt_call hB (mm_X8_isSum hB.start) (fun r1 ad H1 S1 hB => ?_)
  dsimp only
  refine mt_if (fun _ => ?_) (fun _ => ?_)
  · exact mt_ret hB
  · refine mt_ob hB (fun _ => ?_)
    refine mt_call hB (mm_X8_noBidder hB.start) (fun r13 ad H13 S13 hB => ?_)
    dsimp only
    refine mt_if (fun _ => ?_) (fun _ => ?_)
    · refine mt_gR hB 3 (by decide) (by decide) ?_
      refine mt_ldL hB 3 (by decide) rfl (fun v32 => ?_)
      refine mt_if (fun _ => ?_) (fun _ => ?_)
      · refine mt_gR hB 3 (by decide) (by decide) ?_
        refine mt_ldL hB 3 (by decide) rfl (fun v48 => ?_)
        refine mt_aL hB 3 (by decide) rfl (fun h51 t51 hB => ?_)
        refine mt_gR hB 40 (by decide) (by decide) ?_
        refine mt_ldL hB 40 (by decide) rfl (fun v58 => ?_)
        refine mt_aL hB 40 (by decide) rfl (fun h61 t61 hB => ?_)
        exact mt_ret hB
      · exact mt_ret hB
    · refine mt_ob hB (fun _ => ?_)
      refine mt_call hB (mm_X8_noBidder hB.start) (fun r21 ad H21 S21 hB => ?_)
      dsimp only
      exact mt_ret hB
def gm_X8_asked (N : Nat) (a1 : Int32) (s : mt_S) : Option (Int64 × mt_S) :=
  Option.bind (gm_X8_noLot N a1 s) fun q2 =>
  if q2.1 ≤ 0 then
    Option.bind (gm_X8_notOpen N a1 q2.2) fun q18 =>
    if q18.1 ≤ 0 then
      Option.bind (gm_X8_askOf N a1 q18.2) fun q34 =>
      some (q34.1, q34.2)
    else
      Option.bind (gm_X8_notOpen N a1 q18.2) fun q26 =>
      some ((Int32.toInt64 (-q26.1)), q26.2)
  else
    Option.bind (gm_X8_noLot N a1 q2.2) fun q10 =>
    some ((Int32.toInt64 (-q10.1)), q10.2)
set_option maxRecDepth 20000 in
set_option maxHeartbeats 4000000 in
theorem mm_X8_asked {M : Nat} {X : Nat → Prop} {ad : Nat → Nat} {h : ym_H} {s : mt_S} {N : Nat} {a1 : Int32} (hB : mt_B M X ad h s h s) : mt_ok M X h s (fn_X8_asked N (some M) a1 h) (gm_X8_asked N a1 s) := by
  unfold fn_X8_asked gm_X8_asked
  refine mt_ob hB (fun _ => ?_)
  refine mt_call hB (mm_X8_noLot hB.start) (fun r2 ad H2 S2 hB => ?_)
  dsimp only
  refine mt_if (fun _ => ?_) (fun _ => ?_)
  · refine mt_ob hB (fun _ => ?_)
    refine mt_call hB (mm_X8_notOpen hB.start) (fun r18 ad H18 S18 hB => ?_)
    dsimp only
    refine mt_if (fun _ => ?_) (fun _ => ?_)
    · refine mt_ob hB (fun _ => ?_)
      refine mt_call hB (mm_X8_askOf hB.start) (fun r34 ad H34 S34 hB => ?_)
      dsimp only
      exact mt_ret hB
    · refine mt_ob hB (fun _ => ?_)
      refine mt_call hB (mm_X8_notOpen hB.start) (fun r26 ad H26 S26 hB => ?_)
      dsimp only
      exact mt_ret hB
  · refine mt_ob hB (fun _ => ?_)
    refine mt_call hB (mm_X8_noLot hB.start) (fun r10 ad H10 S10 hB => ?_)
    dsimp only
    exact mt_ret hB
def gl_X8_entryAt_98 (Kl : Int32 → Int32 → Int32 → Int32 → mt_S → Option ((Int32) × mt_S)) (N : Nat) (w1 : Int32) (w3 : Int32) (w4 : Int32) (w5 : Int32) (s : mt_S) : Option ((Int32) × mt_S) :=
  if w5 ≤ w3 then
    some (w4, s)
  else
    Option.bind (gm_ldI s 18 w4) fun v110 =>
    Kl w1 w3 v110 (w5 + (-1)) s
set_option maxRecDepth 20000 in
set_option maxHeartbeats 4000000 in
theorem mm_lb_X8_entryAt_98 {M : Nat} {X : Nat → Prop} {ad : Nat → Nat} {H0 h : ym_H} {S0 s : mt_S} {K : Option Nat → Int32 → Int32 → Int32 → Int32 → ym_H → Option ((Int32) × ym_H)} {Kl : Int32 → Int32 → Int32 → Int32 → mt_S → Option ((Int32) × mt_S)} (hKl : ∀ (w1 : Int32) (w3 : Int32) (w4 : Int32) (w5 : Int32) (ad : Nat → Nat) (h : ym_H) (s : mt_S), mt_B M X ad H0 S0 h s → mt_ok M X H0 S0 (K (some M) w1 w3 w4 w5 h) (Kl w1 w3 w4 w5 s)) {N : Nat} {w1 : Int32} {w3 : Int32} {w4 : Int32} {w5 : Int32} (hB : mt_B M X ad H0 S0 h s) : mt_ok M X H0 S0 (lb_X8_entryAt_98 K N (some M) w1 w3 w4 w5 h) (gl_X8_entryAt_98 Kl N w1 w3 w4 w5 s) := by
  unfold lb_X8_entryAt_98 gl_X8_entryAt_98
  refine mt_if (fun _ => ?_) (fun _ => ?_)
  · exact mt_ret hB
  · refine mt_gR hB 18 (by decide) (by decide) ?_
    refine mt_ldI hB 18 (by decide) rfl (fun v110 => ?_)
    exact hKl _ _ _ _ _ _ _ hB
def gp_X8_entryAt_98 (N : Nat) : Nat → Int32 → Int32 → Int32 → Int32 → mt_S → Option ((Int32) × mt_S)
  | 0, _, _, _, _, _ => none
  | n + 1, w1, w3, w4, w5, s => gl_X8_entryAt_98 (gp_X8_entryAt_98 N n) N w1 w3 w4 w5 s
theorem mm_lp_X8_entryAt_98 {M : Nat} {X : Nat → Prop} {H0 : ym_H} {S0 : mt_S} {N : Nat} : ∀ (n : Nat) (ad : Nat → Nat) (h : ym_H) (s : mt_S) (w1 : Int32) (w3 : Int32) (w4 : Int32) (w5 : Int32), mt_B M X ad H0 S0 h s → mt_ok M X H0 S0 (lp_X8_entryAt_98 N n (some M) w1 w3 w4 w5 h) (gp_X8_entryAt_98 N n w1 w3 w4 w5 s) := by
  intro n
  induction n with
  | zero => intro ad h s w1 w3 w4 w5 hB; exact mt_no
  | succ n ih =>
    intro ad h s w1 w3 w4 w5 hB
    exact mm_lb_X8_entryAt_98 (fun w1 w3 w4 w5 ad h s hB => ih ad h s w1 w3 w4 w5 hB) hB
def gb_X8_entryAt_62 (N : Nat) (w1 : Int32) (w2 : Int32) (w3 : Int32) (s : mt_S) : Option (Int64 × mt_S) :=
  if w3 < 0 then
    some ((-3), s)
  else
    Option.bind (gm_ldI s 13 w2) fun v72 =>
    if w3 < v72 then
      Option.bind (gm_ldI s 14 w2) fun v85 =>
      Option.bind (gm_ldI s 13 w2) fun v93 =>
      Option.bind (gp_X8_entryAt_98 N N w1 w3 v85 (v93 - 1) s) fun q98 =>
      if w1 = 21 then
        Option.bind (gm_ldI q98.2 16 q98.1) fun v131 =>
        some ((Int32.toInt64 v131), q98.2)
      else
        Option.bind (gm_ldL q98.2 17 q98.1) fun v142 =>
        some (v142, q98.2)
    else
      some ((-3), s)
set_option maxRecDepth 20000 in
set_option maxHeartbeats 4000000 in
theorem mm_bl_X8_entryAt_62 {M : Nat} {X : Nat → Prop} {ad : Nat → Nat} {H0 h : ym_H} {S0 s : mt_S} {N : Nat} {w1 : Int32} {w2 : Int32} {w3 : Int32} (hB : mt_B M X ad H0 S0 h s) : mt_ok M X H0 S0 (bl_X8_entryAt_62 N (some M) w1 w2 w3 h) (gb_X8_entryAt_62 N w1 w2 w3 s) := by
  unfold bl_X8_entryAt_62 gb_X8_entryAt_62
  refine mt_if (fun _ => ?_) (fun _ => ?_)
  · exact mt_ret hB
  · refine mt_gR hB 13 (by decide) (by decide) ?_
    refine mt_ldI hB 13 (by decide) rfl (fun v72 => ?_)
    refine mt_if (fun _ => ?_) (fun _ => ?_)
    · refine mt_gR hB 14 (by decide) (by decide) ?_
      refine mt_ldI hB 14 (by decide) rfl (fun v85 => ?_)
      refine mt_gR hB 13 (by decide) (by decide) ?_
      refine mt_ldI hB 13 (by decide) rfl (fun v93 => ?_)
      refine mt_call hB (mm_lp_X8_entryAt_98 N _ _ _ _ _ _ _ hB.start) (fun r98 ad H98 S98 hB => ?_)
      dsimp only
      refine mt_if (fun _ => ?_) (fun _ => ?_)
      · refine mt_gR hB 16 (by decide) (by decide) ?_
        refine mt_ldI hB 16 (by decide) rfl (fun v131 => ?_)
        exact mt_ret hB
      · refine mt_gR hB 17 (by decide) (by decide) ?_
        refine mt_ldL hB 17 (by decide) rfl (fun v142 => ?_)
        exact mt_ret hB
    · exact mt_ret hB
def gm_X8_entryAt (N : Nat) (a1 : Int32) (a2 : Int32) (a3 : Int32) (s : mt_S) : Option (Int64 × mt_S) :=
  Option.bind (gm_X8_noLot N a2 s) fun q2 =>
  if q2.1 ≤ 0 then
    Option.bind (gm_ldI q2.2 13 a2) fun v21 =>
    if 0 ≤ v21 then
      Option.bind (gm_ldI q2.2 5 a2) fun v34 =>
      if v34 = 4 then
        Option.bind (gm_ldI q2.2 9 a2) fun v44 =>
        if v44 = 1 then
          Option.bind (gm_ldI q2.2 25 a2) fun v54 =>
          if v54 = 0 then
            some ((-7), q2.2)
          else
            gb_X8_entryAt_62 N a1 a2 a3 q2.2
        else
          gb_X8_entryAt_62 N a1 a2 a3 q2.2
      else
        gb_X8_entryAt_62 N a1 a2 a3 q2.2
    else
      some ((-6), q2.2)
  else
    Option.bind (gm_X8_noLot N a2 q2.2) fun q10 =>
    some ((Int32.toInt64 (-q10.1)), q10.2)
set_option maxRecDepth 20000 in
set_option maxHeartbeats 4000000 in
theorem mm_X8_entryAt {M : Nat} {X : Nat → Prop} {ad : Nat → Nat} {h : ym_H} {s : mt_S} {N : Nat} {a1 : Int32} {a2 : Int32} {a3 : Int32} (hB : mt_B M X ad h s h s) : mt_ok M X h s (fn_X8_entryAt N (some M) a1 a2 a3 h) (gm_X8_entryAt N a1 a2 a3 s) := by
  unfold fn_X8_entryAt gm_X8_entryAt
  refine mt_ob hB (fun _ => ?_)
  refine mt_call hB (mm_X8_noLot hB.start) (fun r2 ad H2 S2 hB => ?_)
  dsimp only
  refine mt_if (fun _ => ?_) (fun _ => ?_)
  · refine mt_gR hB 13 (by decide) (by decide) ?_
    refine mt_ldI hB 13 (by decide) rfl (fun v21 => ?_)
    refine mt_if (fun _ => ?_) (fun _ => ?_)
    · refine mt_gR hB 5 (by decide) (by decide) ?_
      refine mt_ldI hB 5 (by decide) rfl (fun v34 => ?_)
      refine mt_if (fun _ => ?_) (fun _ => ?_)
      · refine mt_gR hB 9 (by decide) (by decide) ?_
        refine mt_ldI hB 9 (by decide) rfl (fun v44 => ?_)
        refine mt_if (fun _ => ?_) (fun _ => ?_)
        · refine mt_gR hB 25 (by decide) (by decide) ?_
          refine mt_ldZ hB 25 (by decide) rfl (fun v54 => ?_)
          refine mt_if (fun _ => ?_) (fun _ => ?_)
          · exact mt_ret hB
          · exact mm_bl_X8_entryAt_62 hB
        · exact mm_bl_X8_entryAt_62 hB
      · exact mm_bl_X8_entryAt_62 hB
    · exact mt_ret hB
  · refine mt_ob hB (fun _ => ?_)
    refine mt_call hB (mm_X8_noLot hB.start) (fun r10 ad H10 S10 hB => ?_)
    dsimp only
    exact mt_ret hB
def gm_X8_opensBatch (N : Nat)  (s : mt_S) : Option (Int64 × mt_S) :=
  if (s.1 49 0) = 8 then
    some ((-12), s)
  else
    Option.bind (gm_stI s 50 (s.1 49 0) (s.1 41 0)) fun t25 =>
    Option.bind (gm_pI t25 49 ((t25.1 49 0) + 1)) fun t33 =>
    some ((Int32.toInt64 (t33.1 49 0)), t33)
set_option maxRecDepth 20000 in
set_option maxHeartbeats 4000000 in
theorem mm_X8_opensBatch {M : Nat} {X : Nat → Prop} {ad : Nat → Nat} {h : ym_H} {s : mt_S} {N : Nat}  (hB : mt_B M X ad h s h s) : mt_ok M X h s (fn_X8_opensBatch N (some M) h) (gm_X8_opensBatch N  s) := by
  unfold fn_X8_opensBatch gm_X8_opensBatch
  refine mt_gI hB 49 (by decide) rfl ?_
  refine mt_if (fun _ => ?_) (fun _ => ?_)
  · exact mt_ret hB
  · refine mt_gR hB 50 (by decide) (by decide) ?_
    refine mt_gI hB 49 (by decide) rfl ?_
    refine mt_gI hB 41 (by decide) rfl ?_
    refine mt_aI hB 50 (by decide) rfl (fun h25 t25 hB => ?_)
    refine mt_gI hB 49 (by decide) rfl ?_
    refine mt_pI hB 49 (by decide) rfl (fun h33 t33 hB => ?_)
    refine mt_gI hB 49 (by decide) rfl ?_
    exact mt_ret hB
def gm_X8_endsBatch (N : Nat)  (s : mt_S) : Option (Int64 × mt_S) :=
  if (s.1 49 0) = 0 then
    some ((-14), s)
  else
    Option.bind (gm_pI s 49 ((s.1 49 0) - 1)) fun t18 =>
    some ((Int32.toInt64 (t18.1 49 0)), t18)
set_option maxRecDepth 20000 in
set_option maxHeartbeats 4000000 in
theorem mm_X8_endsBatch {M : Nat} {X : Nat → Prop} {ad : Nat → Nat} {h : ym_H} {s : mt_S} {N : Nat}  (hB : mt_B M X ad h s h s) : mt_ok M X h s (fn_X8_endsBatch N (some M) h) (gm_X8_endsBatch N  s) := by
  unfold fn_X8_endsBatch gm_X8_endsBatch
  refine mt_gI hB 49 (by decide) rfl ?_
  refine mt_if (fun _ => ?_) (fun _ => ?_)
  · exact mt_ret hB
  · refine mt_gI hB 49 (by decide) rfl ?_
    refine mt_pI hB 49 (by decide) rfl (fun h18 t18 hB => ?_)
    refine mt_gI hB 49 (by decide) rfl ?_
    exact mt_ret hB
def gm_X8_undoes (Kg : Int32 → mt_S → Option (Unit × mt_S)) (N : Nat)  (s : mt_S) : Option (Int64 × mt_S) :=
  if (s.1 49 0) = 0 then
    some ((-14), s)
  else
    Option.bind (gm_pI s 49 ((s.1 49 0) - 1)) fun t18 =>
    Option.bind (gm_ldI t18 50 (t18.1 49 0)) fun v30 =>
    Option.bind (Kg v30 t18) fun q31 =>
    some ((Int32.toInt64 (q31.2.1 49 0)), q31.2)
set_option maxRecDepth 20000 in
set_option maxHeartbeats 4000000 in
theorem mm_X8_undoes {M : Nat} {X : Nat → Prop} {ad : Nat → Nat} {h : ym_H} {s : mt_S} {Kb : Option Nat → Int32 → ym_H → Option (Unit × ym_H)} {Kg : Int32 → mt_S → Option (Unit × mt_S)} (hKb : ∀ (ad : Nat → Nat) (h : ym_H) (s : mt_S) (a1 : Int32), mt_B M X ad h s h s → mt_ok M X h s (Kb (some M) a1 h) (Kg a1 s)) {N : Nat}  (hB : mt_B M X ad h s h s) : mt_ok M X h s (fn_X8_undoes Kb N (some M) h) (gm_X8_undoes Kg N  s) := by
  unfold fn_X8_undoes gm_X8_undoes
  refine mt_gI hB 49 (by decide) rfl ?_
  refine mt_if (fun _ => ?_) (fun _ => ?_)
  · exact mt_ret hB
  · refine mt_gI hB 49 (by decide) rfl ?_
    refine mt_pI hB 49 (by decide) rfl (fun h18 t18 hB => ?_)
    refine mt_gR hB 50 (by decide) (by decide) ?_
    refine mt_gI hB 49 (by decide) rfl ?_
    refine mt_ldI hB 50 (by decide) rfl (fun v30 => ?_)
    refine mt_ob hB (fun _ => ?_)
    refine mt_call hB (hKb _ _ _ _ hB.start) (fun r31 ad H31 S31 hB => ?_)
    dsimp only
    refine mt_gI hB 49 (by decide) rfl ?_
    exact mt_ret hB
def gm_X8_doneElse (Kg : Int32 → mt_S → Option (Unit × mt_S)) (N : Nat) (a1 : Int32) (a2 : Int32) (a3 : Int32) (a4 : Int32) (a5 : Int64) (s : mt_S) : Option (Int64 × mt_S) :=
  if a1 = 14 then
    Option.bind (gm_X8_hammered N a2 s) fun q62 =>
    some (q62.1, q62.2)
  else
    if a1 = 15 then
      Option.bind (gm_X8_joined N a2 a3 a4 s) fun q71 =>
      some (q71.1, q71.2)
    else
      if a1 = 16 then
        Option.bind (gm_X8_settled N a2 s) fun q77 =>
        some (q77.1, q77.2)
      else
        if a1 = 17 then
          Option.bind (gm_X8_offered N a2 a5 s) fun q85 =>
          some (q85.1, q85.2)
        else
          if a1 = 18 then
            Option.bind (gm_X8_paid N a2 a5 s) fun q93 =>
            some (q93.1, q93.2)
          else
            if a1 = 19 then
              Option.bind (gm_X8_paidOut N a2 a5 s) fun q101 =>
              some (q101.1, q101.2)
            else
              if a1 = 20 then
                Option.bind (gm_X8_asked N a2 s) fun q107 =>
                some (q107.1, q107.2)
              else
                if a1 = 21 then
                  Option.bind (gm_X8_entryAt N a1 a2 a3 s) fun q115 =>
                  some (q115.1, q115.2)
                else
                  if a1 = 22 then
                    Option.bind (gm_X8_entryAt N a1 a2 a3 s) fun q115 =>
                    some (q115.1, q115.2)
                  else
                    if a1 = 23 then
                      Option.bind (gm_X8_opensBatch N  s) fun q120 =>
                      some (q120.1, q120.2)
                    else
                      if a1 = 24 then
                        Option.bind (gm_X8_endsBatch N  s) fun q125 =>
                        some (q125.1, q125.2)
                      else
                        Option.bind (gm_X8_undoes Kg N  s) fun q130 =>
                        some (q130.1, q130.2)
set_option maxRecDepth 20000 in
set_option maxHeartbeats 4000000 in
theorem mm_X8_doneElse {M : Nat} {X : Nat → Prop} {ad : Nat → Nat} {h : ym_H} {s : mt_S} {Kb : Option Nat → Int32 → ym_H → Option (Unit × ym_H)} {Kg : Int32 → mt_S → Option (Unit × mt_S)} (hKb : ∀ (ad : Nat → Nat) (h : ym_H) (s : mt_S) (a1 : Int32), mt_B M X ad h s h s → mt_ok M X h s (Kb (some M) a1 h) (Kg a1 s)) {N : Nat} {a1 : Int32} {a2 : Int32} {a3 : Int32} {a4 : Int32} {a5 : Int64} (hB : mt_B M X ad h s h s) : mt_ok M X h s (fn_X8_doneElse Kb N (some M) a1 a2 a3 a4 a5 h) (gm_X8_doneElse Kg N a1 a2 a3 a4 a5 s) := by
  unfold fn_X8_doneElse gm_X8_doneElse
  refine mt_if (fun _ => ?_) (fun _ => ?_)
  · refine mt_ob hB (fun _ => ?_)
    refine mt_call hB (mm_X8_hammered hB.start) (fun r62 ad H62 S62 hB => ?_)
    dsimp only
    exact mt_ret hB
  · refine mt_if (fun _ => ?_) (fun _ => ?_)
    · refine mt_ob hB (fun _ => ?_)
      refine mt_call hB (mm_X8_joined hB.start) (fun r71 ad H71 S71 hB => ?_)
      dsimp only
      exact mt_ret hB
    · refine mt_if (fun _ => ?_) (fun _ => ?_)
      · refine mt_ob hB (fun _ => ?_)
        refine mt_call hB (mm_X8_settled hB.start) (fun r77 ad H77 S77 hB => ?_)
        dsimp only
        exact mt_ret hB
      · refine mt_if (fun _ => ?_) (fun _ => ?_)
        · refine mt_ob hB (fun _ => ?_)
          refine mt_call hB (mm_X8_offered hB.start) (fun r85 ad H85 S85 hB => ?_)
          dsimp only
          exact mt_ret hB
        · refine mt_if (fun _ => ?_) (fun _ => ?_)
          · refine mt_ob hB (fun _ => ?_)
            refine mt_call hB (mm_X8_paid hB.start) (fun r93 ad H93 S93 hB => ?_)
            dsimp only
            exact mt_ret hB
          · refine mt_if (fun _ => ?_) (fun _ => ?_)
            · refine mt_ob hB (fun _ => ?_)
              refine mt_call hB (mm_X8_paidOut hB.start) (fun r101 ad H101 S101 hB => ?_)
              dsimp only
              exact mt_ret hB
            · refine mt_if (fun _ => ?_) (fun _ => ?_)
              · refine mt_ob hB (fun _ => ?_)
                refine mt_call hB (mm_X8_asked hB.start) (fun r107 ad H107 S107 hB => ?_)
                dsimp only
                exact mt_ret hB
              · refine mt_if (fun _ => ?_) (fun _ => ?_)
                · refine mt_ob hB (fun _ => ?_)
                  refine mt_call hB (mm_X8_entryAt hB.start) (fun r115 ad H115 S115 hB => ?_)
                  dsimp only
                  exact mt_ret hB
                · refine mt_if (fun _ => ?_) (fun _ => ?_)
                  · refine mt_ob hB (fun _ => ?_)
                    refine mt_call hB (mm_X8_entryAt hB.start) (fun r115 ad H115 S115 hB => ?_)
                    dsimp only
                    exact mt_ret hB
                  · refine mt_if (fun _ => ?_) (fun _ => ?_)
                    · refine mt_ob hB (fun _ => ?_)
                      refine mt_call hB (mm_X8_opensBatch hB.start) (fun r120 ad H120 S120 hB => ?_)
                      dsimp only
                      exact mt_ret hB
                    · refine mt_if (fun _ => ?_) (fun _ => ?_)
                      · refine mt_ob hB (fun _ => ?_)
                        refine mt_call hB (mm_X8_endsBatch hB.start) (fun r125 ad H125 S125 hB => ?_)
                        dsimp only
                        exact mt_ret hB
                      · refine mt_ob hB (fun _ => ?_)
                        refine mt_call hB (mm_X8_undoes hKb hB.start) (fun r130 ad H130 S130 hB => ?_)
                        dsimp only
                        exact mt_ret hB
def gm_X8_done (Kg : Int32 → mt_S → Option (Unit × mt_S)) (N : Nat) (a1 : Int32) (a2 : Int32) (a3 : Int32) (a4 : Int32) (a5 : Int64) (a7 : Int64) (s : mt_S) : Option (Int64 × mt_S) :=
  if a1 = 1 then
    Option.bind (gm_X8_newBidder N a2 a5 s) fun q72 =>
    some (q72.1, q72.2)
  else
    if a1 = 2 then
      Option.bind (gm_X8_newLot N a2 a5 a7 s) fun q82 =>
      some (q82.1, q82.2)
    else
      if a1 = 3 then
        Option.bind (gm_X8_newSeller N a2 a3 s) fun q89 =>
        some (q89.1, q89.2)
      else
        if a1 = 4 then
          Option.bind (gm_X8_newCut N a2 a3 s) fun q96 =>
          some (q96.1, q96.2)
        else
          if a1 = 5 then
            Option.bind (gm_X8_newStep N a5 a7 s) fun q105 =>
            some (q105.1, q105.2)
          else
            if a1 = 6 then
              Option.bind (gm_X8_newBracket N a5 a2 s) fun q113 =>
              some (q113.1, q113.2)
            else
              if a1 = 7 then
                Option.bind (gm_X8_newTax N a2 a3 s) fun q120 =>
                some (q120.1, q120.2)
              else
                if a1 = 8 then
                  Option.bind (gm_X8_called N a2 s) fun q126 =>
                  some (q126.1, q126.2)
                else
                  if a1 = 9 then
                    Option.bind (gm_X8_bidden N a2 a3 a5 s) fun q135 =>
                    some (q135.1, q135.2)
                  else
                    if a1 = 10 then
                      Option.bind (gm_X8_written N a2 a3 a5 s) fun q144 =>
                      some (q144.1, q144.2)
                    else
                      if a1 = 11 then
                        Option.bind (gm_X8_opened N a2 s) fun q150 =>
                        some (q150.1, q150.2)
                      else
                        if a1 = 12 then
                          Option.bind (gm_X8_ticked N a2 a5 s) fun q158 =>
                          some (q158.1, q158.2)
                        else
                          if a1 = 13 then
                            Option.bind (gm_X8_took N a2 a3 s) fun q165 =>
                            some (q165.1, q165.2)
                          else
                            Option.bind (gm_X8_doneElse Kg N a1 a2 a3 a4 a5 s) fun q177 =>
                            some (q177.1, q177.2)
set_option maxRecDepth 20000 in
set_option maxHeartbeats 4000000 in
theorem mm_X8_done {M : Nat} {X : Nat → Prop} {ad : Nat → Nat} {h : ym_H} {s : mt_S} {Kb : Option Nat → Int32 → ym_H → Option (Unit × ym_H)} {Kg : Int32 → mt_S → Option (Unit × mt_S)} (hKb : ∀ (ad : Nat → Nat) (h : ym_H) (s : mt_S) (a1 : Int32), mt_B M X ad h s h s → mt_ok M X h s (Kb (some M) a1 h) (Kg a1 s)) {N : Nat} {a1 : Int32} {a2 : Int32} {a3 : Int32} {a4 : Int32} {a5 : Int64} {a7 : Int64} (hB : mt_B M X ad h s h s) : mt_ok M X h s (fn_X8_done Kb N (some M) a1 a2 a3 a4 a5 a7 h) (gm_X8_done Kg N a1 a2 a3 a4 a5 a7 s) := by
  unfold fn_X8_done gm_X8_done
  refine mt_if (fun _ => ?_) (fun _ => ?_)
  · refine mt_ob hB (fun _ => ?_)
    refine mt_call hB (mm_X8_newBidder hB.start) (fun r72 ad H72 S72 hB => ?_)
    dsimp only
    exact mt_ret hB
  · refine mt_if (fun _ => ?_) (fun _ => ?_)
    · refine mt_ob hB (fun _ => ?_)
      refine mt_call hB (mm_X8_newLot hB.start) (fun r82 ad H82 S82 hB => ?_)
      dsimp only
      exact mt_ret hB
    · refine mt_if (fun _ => ?_) (fun _ => ?_)
      · refine mt_ob hB (fun _ => ?_)
        refine mt_call hB (mm_X8_newSeller hB.start) (fun r89 ad H89 S89 hB => ?_)
        dsimp only
        exact mt_ret hB
      · refine mt_if (fun _ => ?_) (fun _ => ?_)
        · refine mt_ob hB (fun _ => ?_)
          refine mt_call hB (mm_X8_newCut hB.start) (fun r96 ad H96 S96 hB => ?_)
          dsimp only
          exact mt_ret hB
        · refine mt_if (fun _ => ?_) (fun _ => ?_)
          · refine mt_ob hB (fun _ => ?_)
            refine mt_call hB (mm_X8_newStep hB.start) (fun r105 ad H105 S105 hB => ?_)
            dsimp only
            exact mt_ret hB
          · refine mt_if (fun _ => ?_) (fun _ => ?_)
            · refine mt_ob hB (fun _ => ?_)
              refine mt_call hB (mm_X8_newBracket hB.start) (fun r113 ad H113 S113 hB => ?_)
              dsimp only
              exact mt_ret hB
            · refine mt_if (fun _ => ?_) (fun _ => ?_)
              · refine mt_ob hB (fun _ => ?_)
                refine mt_call hB (mm_X8_newTax hB.start) (fun r120 ad H120 S120 hB => ?_)
                dsimp only
                exact mt_ret hB
              · refine mt_if (fun _ => ?_) (fun _ => ?_)
                · refine mt_ob hB (fun _ => ?_)
                  refine mt_call hB (mm_X8_called hB.start) (fun r126 ad H126 S126 hB => ?_)
                  dsimp only
                  exact mt_ret hB
                · refine mt_if (fun _ => ?_) (fun _ => ?_)
                  · refine mt_ob hB (fun _ => ?_)
                    refine mt_call hB (mm_X8_bidden hB.start) (fun r135 ad H135 S135 hB => ?_)
                    dsimp only
                    exact mt_ret hB
                  · refine mt_if (fun _ => ?_) (fun _ => ?_)
                    · refine mt_ob hB (fun _ => ?_)
                      refine mt_call hB (mm_X8_written hB.start) (fun r144 ad H144 S144 hB => ?_)
                      dsimp only
                      exact mt_ret hB
                    · refine mt_if (fun _ => ?_) (fun _ => ?_)
                      · refine mt_ob hB (fun _ => ?_)
                        refine mt_call hB (mm_X8_opened hB.start) (fun r150 ad H150 S150 hB => ?_)
                        dsimp only
                        exact mt_ret hB
                      · refine mt_if (fun _ => ?_) (fun _ => ?_)
                        · refine mt_ob hB (fun _ => ?_)
                          refine mt_call hB (mm_X8_ticked hB.start) (fun r158 ad H158 S158 hB => ?_)
                          dsimp only
                          exact mt_ret hB
                        · refine mt_if (fun _ => ?_) (fun _ => ?_)
                          · refine mt_ob hB (fun _ => ?_)
                            refine mt_call hB (mm_X8_took hB.start) (fun r165 ad H165 S165 hB => ?_)
                            dsimp only
                            exact mt_ret hB
                          · refine mt_ob hB (fun _ => ?_)
                            refine mt_call hB (mm_X8_doneElse hKb hB.start) (fun r177 ad H177 S177 hB => ?_)
                            dsimp only
                            exact mt_ret hB
def gl_X8_back_27 (Kl : Int32 → Int32 → mt_S → Option ((Unit) × mt_S)) (N : Nat) (w1 : Int32) (w2 : Int32) (s : mt_S) : Option ((Unit) × mt_S) :=
  if 6 ≤ w2 then
    some ((), s)
  else
    Option.bind (gm_stI s 39 w2 0) fun t39 =>
    Kl w1 (w2 + 1) t39
set_option maxRecDepth 20000 in
set_option maxHeartbeats 4000000 in
theorem mm_lb_X8_back_27 {M : Nat} {X : Nat → Prop} {ad : Nat → Nat} {H0 h : ym_H} {S0 s : mt_S} {K : Option Nat → Int32 → Int32 → ym_H → Option ((Unit) × ym_H)} {Kl : Int32 → Int32 → mt_S → Option ((Unit) × mt_S)} (hKl : ∀ (w1 : Int32) (w2 : Int32) (ad : Nat → Nat) (h : ym_H) (s : mt_S), mt_B M X ad H0 S0 h s → mt_ok M X H0 S0 (K (some M) w1 w2 h) (Kl w1 w2 s)) {N : Nat} {w1 : Int32} {w2 : Int32} (hB : mt_B M X ad H0 S0 h s) : mt_ok M X H0 S0 (lb_X8_back_27 K N (some M) w1 w2 h) (gl_X8_back_27 Kl N w1 w2 s) := by
  unfold lb_X8_back_27 gl_X8_back_27
  refine mt_if (fun _ => ?_) (fun _ => ?_)
  · exact mt_ret hB
  · refine mt_gR hB 39 (by decide) (by decide) ?_
    refine mt_aI hB 39 (by decide) rfl (fun h39 t39 hB => ?_)
    exact hKl _ _ _ _ _ hB
def gp_X8_back_27 (N : Nat) : Nat → Int32 → Int32 → mt_S → Option ((Unit) × mt_S)
  | 0, _, _, _ => none
  | n + 1, w1, w2, s => gl_X8_back_27 (gp_X8_back_27 N n) N w1 w2 s
theorem mm_lp_X8_back_27 {M : Nat} {X : Nat → Prop} {H0 : ym_H} {S0 : mt_S} {N : Nat} : ∀ (n : Nat) (ad : Nat → Nat) (h : ym_H) (s : mt_S) (w1 : Int32) (w2 : Int32), mt_B M X ad H0 S0 h s → mt_ok M X H0 S0 (lp_X8_back_27 N n (some M) w1 w2 h) (gp_X8_back_27 N n w1 w2 s) := by
  intro n
  induction n with
  | zero => intro ad h s w1 w2 hB; exact mt_no
  | succ n ih =>
    intro ad h s w1 w2 hB
    exact mm_lb_X8_back_27 (fun w1 w2 ad h s hB => ih ad h s w1 w2 hB) hB
def gl_X8_back_48 (Kl : Int32 → Int32 → mt_S → Option ((Unit) × mt_S)) (N : Nat) (w1 : Int32) (w2 : Int32) (s : mt_S) : Option ((Unit) × mt_S) :=
  if 3 ≤ w2 then
    some ((), s)
  else
    Option.bind (gm_stL s 40 w2 0) fun t59 =>
    Kl w1 (w2 + 1) t59
set_option maxRecDepth 20000 in
set_option maxHeartbeats 4000000 in
theorem mm_lb_X8_back_48 {M : Nat} {X : Nat → Prop} {ad : Nat → Nat} {H0 h : ym_H} {S0 s : mt_S} {K : Option Nat → Int32 → Int32 → ym_H → Option ((Unit) × ym_H)} {Kl : Int32 → Int32 → mt_S → Option ((Unit) × mt_S)} (hKl : ∀ (w1 : Int32) (w2 : Int32) (ad : Nat → Nat) (h : ym_H) (s : mt_S), mt_B M X ad H0 S0 h s → mt_ok M X H0 S0 (K (some M) w1 w2 h) (Kl w1 w2 s)) {N : Nat} {w1 : Int32} {w2 : Int32} (hB : mt_B M X ad H0 S0 h s) : mt_ok M X H0 S0 (lb_X8_back_48 K N (some M) w1 w2 h) (gl_X8_back_48 Kl N w1 w2 s) := by
  unfold lb_X8_back_48 gl_X8_back_48
  refine mt_if (fun _ => ?_) (fun _ => ?_)
  · exact mt_ret hB
  · refine mt_gR hB 40 (by decide) (by decide) ?_
    refine mt_aL hB 40 (by decide) rfl (fun h59 t59 hB => ?_)
    exact hKl _ _ _ _ _ hB
def gp_X8_back_48 (N : Nat) : Nat → Int32 → Int32 → mt_S → Option ((Unit) × mt_S)
  | 0, _, _, _ => none
  | n + 1, w1, w2, s => gl_X8_back_48 (gp_X8_back_48 N n) N w1 w2 s
theorem mm_lp_X8_back_48 {M : Nat} {X : Nat → Prop} {H0 : ym_H} {S0 : mt_S} {N : Nat} : ∀ (n : Nat) (ad : Nat → Nat) (h : ym_H) (s : mt_S) (w1 : Int32) (w2 : Int32), mt_B M X ad H0 S0 h s → mt_ok M X H0 S0 (lp_X8_back_48 N n (some M) w1 w2 h) (gp_X8_back_48 N n w1 w2 s) := by
  intro n
  induction n with
  | zero => intro ad h s w1 w2 hB; exact mt_no
  | succ n ih =>
    intro ad h s w1 w2 hB
    exact mm_lb_X8_back_48 (fun w1 w2 ad h s hB => ih ad h s w1 w2 hB) hB
def gl_X8_back_78 (Kl : Int32 → Int32 → mt_S → Option ((Unit) × mt_S)) (N : Nat) (w1 : Int32) (w2 : Int32) (s : mt_S) : Option ((Unit) × mt_S) :=
  if w1 ≤ w2 then
    some ((), s)
  else
    Option.bind (gm_ldI s 48 w2) fun v89 =>
    Option.bind (gm_pI s 57 v89) fun t90 =>
    Option.bind (gm_ldI t90 42 w2) fun v99 =>
    Option.bind (gm_ldI t90 43 w2) fun v105 =>
    Option.bind (gm_ldI t90 44 w2) fun v111 =>
    Option.bind (gm_ldI t90 45 w2) fun v117 =>
    Option.bind (gm_ldL t90 46 w2) fun v123 =>
    Option.bind (gm_ldL t90 47 w2) fun v129 =>
    Option.bind (gm_X8_done (fun _ _ => none) N v99 v105 v111 v117 v123 v129 t90) fun q130 =>
    Kl w1 (w2 + 1) q130.2
set_option maxRecDepth 20000 in
set_option maxHeartbeats 4000000 in
theorem mm_lb_X8_back_78 {M : Nat} {X : Nat → Prop} {ad : Nat → Nat} {H0 h : ym_H} {S0 s : mt_S} {K : Option Nat → Int32 → Int32 → ym_H → Option ((Unit) × ym_H)} {Kl : Int32 → Int32 → mt_S → Option ((Unit) × mt_S)} (hKl : ∀ (w1 : Int32) (w2 : Int32) (ad : Nat → Nat) (h : ym_H) (s : mt_S), mt_B M X ad H0 S0 h s → mt_ok M X H0 S0 (K (some M) w1 w2 h) (Kl w1 w2 s)) {N : Nat} {w1 : Int32} {w2 : Int32} (hB : mt_B M X ad H0 S0 h s) : mt_ok M X H0 S0 (lb_X8_back_78 K N (some M) w1 w2 h) (gl_X8_back_78 Kl N w1 w2 s) := by
  unfold lb_X8_back_78 gl_X8_back_78
  refine mt_if (fun _ => ?_) (fun _ => ?_)
  · exact mt_ret hB
  · refine mt_gR hB 48 (by decide) (by decide) ?_
    refine mt_ldI hB 48 (by decide) rfl (fun v89 => ?_)
    refine mt_pI hB 57 (by decide) rfl (fun h90 t90 hB => ?_)
    refine mt_gR hB 42 (by decide) (by decide) ?_
    refine mt_ldI hB 42 (by decide) rfl (fun v99 => ?_)
    refine mt_gR hB 43 (by decide) (by decide) ?_
    refine mt_ldI hB 43 (by decide) rfl (fun v105 => ?_)
    refine mt_gR hB 44 (by decide) (by decide) ?_
    refine mt_ldI hB 44 (by decide) rfl (fun v111 => ?_)
    refine mt_gR hB 45 (by decide) (by decide) ?_
    refine mt_ldI hB 45 (by decide) rfl (fun v117 => ?_)
    refine mt_gR hB 46 (by decide) (by decide) ?_
    refine mt_ldL hB 46 (by decide) rfl (fun v123 => ?_)
    refine mt_gR hB 47 (by decide) (by decide) ?_
    refine mt_ldL hB 47 (by decide) rfl (fun v129 => ?_)
    refine mt_ob hB (fun _ => ?_)
    refine mt_call hB (mm_X8_done (fun _ _ _ _ _ => mt_no) hB.start) (fun r130 ad H130 S130 hB => ?_)
    dsimp only
    exact hKl _ _ _ _ _ hB
def gp_X8_back_78 (N : Nat) : Nat → Int32 → Int32 → mt_S → Option ((Unit) × mt_S)
  | 0, _, _, _ => none
  | n + 1, w1, w2, s => gl_X8_back_78 (gp_X8_back_78 N n) N w1 w2 s
theorem mm_lp_X8_back_78 {M : Nat} {X : Nat → Prop} {H0 : ym_H} {S0 : mt_S} {N : Nat} : ∀ (n : Nat) (ad : Nat → Nat) (h : ym_H) (s : mt_S) (w1 : Int32) (w2 : Int32), mt_B M X ad H0 S0 h s → mt_ok M X H0 S0 (lp_X8_back_78 N n (some M) w1 w2 h) (gp_X8_back_78 N n w1 w2 s) := by
  intro n
  induction n with
  | zero => intro ad h s w1 w2 hB; exact mt_no
  | succ n ih =>
    intro ad h s w1 w2 hB
    exact mm_lb_X8_back_78 (fun w1 w2 ad h s hB => ih ad h s w1 w2 hB) hB
def gm_X8_back (N : Nat) (a1 : Int32) (s : mt_S) : Option (Unit × mt_S) :=
  Option.bind (gm_pI s 0 0) fun t2 =>
  Option.bind (gm_pI t2 4 0) fun t7 =>
  Option.bind (gm_pI t7 15 0) fun t12 =>
  Option.bind (gm_pI t12 33 0) fun t17 =>
  Option.bind (gm_pI t17 36 0) fun t22 =>
  Option.bind (gp_X8_back_27 N N a1 0 t22) fun q27 =>
  Option.bind (gp_X8_back_48 N N a1 0 q27.2) fun q48 =>
  Option.bind (gm_pI q48.2 41 a1) fun t68 =>
  Option.bind (gm_pI t68 56 1) fun t73 =>
  Option.bind (gp_X8_back_78 N N a1 0 t73) fun q78 =>
  Option.bind (gm_pI q78.2 56 0) fun t142 =>
  some ((), t142)
set_option maxRecDepth 20000 in
set_option maxHeartbeats 4000000 in
theorem mm_X8_back {M : Nat} {X : Nat → Prop} {ad : Nat → Nat} {h : ym_H} {s : mt_S} {N : Nat} {a1 : Int32} (hB : mt_B M X ad h s h s) : mt_ok M X h s (fn_X8_back N (some M) a1 h) (gm_X8_back N a1 s) := by
  unfold fn_X8_back gm_X8_back
  refine mt_pI hB 0 (by decide) rfl (fun h2 t2 hB => ?_)
  refine mt_pI hB 4 (by decide) rfl (fun h7 t7 hB => ?_)
  refine mt_pI hB 15 (by decide) rfl (fun h12 t12 hB => ?_)
  refine mt_pI hB 33 (by decide) rfl (fun h17 t17 hB => ?_)
  refine mt_pI hB 36 (by decide) rfl (fun h22 t22 hB => ?_)
  refine mt_call hB (mm_lp_X8_back_27 N _ _ _ _ _ hB.start) (fun r27 ad H27 S27 hB => ?_)
  dsimp only
  refine mt_call hB (mm_lp_X8_back_48 N _ _ _ _ _ hB.start) (fun r48 ad H48 S48 hB => ?_)
  dsimp only
  refine mt_pI hB 41 (by decide) rfl (fun h68 t68 hB => ?_)
  refine mt_pI hB 56 (by decide) rfl (fun h73 t73 hB => ?_)
  refine mt_call hB (mm_lp_X8_back_78 N _ _ _ _ _ hB.start) (fun r78 ad H78 S78 hB => ?_)
  dsimp only
  refine mt_pI hB 56 (by decide) rfl (fun h142 t142 hB => ?_)
  exact mt_ret hB
def gb_X8_note_89 (N : Nat) (w1 : Int32) (w2 : Int32) (w3 : Int32) (w4 : Int32) (w5 : Int64) (w7 : Int64) (s : mt_S) : Option (Unit × mt_S) :=
  Option.bind (gm_stI s 42 (s.1 41 0) w1) fun t98 =>
  Option.bind (gm_stI t98 43 (t98.1 41 0) w2) fun t108 =>
  Option.bind (gm_stI t108 44 (t108.1 41 0) w3) fun t118 =>
  Option.bind (gm_stI t118 45 (t118.1 41 0) w4) fun t129 =>
  Option.bind (gm_stL t129 46 (t129.1 41 0) w5) fun t140 =>
  Option.bind (gm_stL t140 47 (t140.1 41 0) w7) fun t151 =>
  Option.bind (gm_stI t151 48 (t151.1 41 0) (t151.1 57 0)) fun t164 =>
  Option.bind (gm_pI t164 41 ((t164.1 41 0) + 1)) fun t172 =>
  some ((), t172)
set_option maxRecDepth 20000 in
set_option maxHeartbeats 4000000 in
theorem mm_bl_X8_note_89 {M : Nat} {X : Nat → Prop} {ad : Nat → Nat} {H0 h : ym_H} {S0 s : mt_S} {N : Nat} {w1 : Int32} {w2 : Int32} {w3 : Int32} {w4 : Int32} {w5 : Int64} {w7 : Int64} (hB : mt_B M X ad H0 S0 h s) : mt_ok M X H0 S0 (bl_X8_note_89 N (some M) w1 w2 w3 w4 w5 w7 h) (gb_X8_note_89 N w1 w2 w3 w4 w5 w7 s) := by
  unfold bl_X8_note_89 gb_X8_note_89
  refine mt_gR hB 42 (by decide) (by decide) ?_
  refine mt_gI hB 41 (by decide) rfl ?_
  refine mt_aI hB 42 (by decide) rfl (fun h98 t98 hB => ?_)
  refine mt_gR hB 43 (by decide) (by decide) ?_
  refine mt_gI hB 41 (by decide) rfl ?_
  refine mt_aI hB 43 (by decide) rfl (fun h108 t108 hB => ?_)
  refine mt_gR hB 44 (by decide) (by decide) ?_
  refine mt_gI hB 41 (by decide) rfl ?_
  refine mt_aI hB 44 (by decide) rfl (fun h118 t118 hB => ?_)
  refine mt_gR hB 45 (by decide) (by decide) ?_
  refine mt_gI hB 41 (by decide) rfl ?_
  refine mt_aI hB 45 (by decide) rfl (fun h129 t129 hB => ?_)
  refine mt_gR hB 46 (by decide) (by decide) ?_
  refine mt_gI hB 41 (by decide) rfl ?_
  refine mt_aL hB 46 (by decide) rfl (fun h140 t140 hB => ?_)
  refine mt_gR hB 47 (by decide) (by decide) ?_
  refine mt_gI hB 41 (by decide) rfl ?_
  refine mt_aL hB 47 (by decide) rfl (fun h151 t151 hB => ?_)
  refine mt_gR hB 48 (by decide) (by decide) ?_
  refine mt_gI hB 41 (by decide) rfl ?_
  refine mt_gI hB 57 (by decide) rfl ?_
  refine mt_aI hB 48 (by decide) rfl (fun h164 t164 hB => ?_)
  refine mt_gI hB 41 (by decide) rfl ?_
  refine mt_pI hB 41 (by decide) rfl (fun h172 t172 hB => ?_)
  exact mt_ret hB
def gm_X8_note (N : Nat) (a1 : Int32) (a2 : Int32) (a3 : Int32) (a4 : Int32) (a5 : Int64) (a7 : Int64) (s : mt_S) : Option (Unit × mt_S) :=
  if (s.1 41 0) = (Int32.ofNat (s.2.2 42)) then
    Option.bind (gm_gr N s 42) fun t20 =>
    Option.bind (gm_gr N t20 43) fun t31 =>
    Option.bind (gm_gr N t31 44) fun t42 =>
    Option.bind (gm_gr N t42 45) fun t53 =>
    Option.bind (gm_gr N t53 46) fun t64 =>
    Option.bind (gm_gr N t64 47) fun t75 =>
    Option.bind (gm_gr N t75 48) fun t86 =>
    gb_X8_note_89 N a1 a2 a3 a4 a5 a7 t86
  else
    gb_X8_note_89 N a1 a2 a3 a4 a5 a7 s
set_option maxRecDepth 20000 in
set_option maxHeartbeats 4000000 in
theorem mm_X8_note {M : Nat} {X : Nat → Prop} {ad : Nat → Nat} {h : ym_H} {s : mt_S} {N : Nat} {a1 : Int32} {a2 : Int32} {a3 : Int32} {a4 : Int32} {a5 : Int64} {a7 : Int64} (hB : mt_B M X ad h s h s) : mt_ok M X h s (fn_X8_note N (some M) a1 a2 a3 a4 a5 a7 h) (gm_X8_note N a1 a2 a3 a4 a5 a7 s) := by
  unfold fn_X8_note gm_X8_note
  refine mt_gI hB 41 (by decide) rfl ?_
  refine mt_gR hB 42 (by decide) (by decide) ?_
  refine mt_len hB 42 (by decide) (by decide) ?_
  refine mt_if (fun _ => ?_) (fun _ => ?_)
  · refine mt_grI hB 42 (by decide) rfl (by unfold mt_gk; decide) (fun ad h20 t20 hB => ?_)
    refine mt_grI hB 43 (by decide) rfl (by unfold mt_gk; decide) (fun ad h31 t31 hB => ?_)
    refine mt_grI hB 44 (by decide) rfl (by unfold mt_gk; decide) (fun ad h42 t42 hB => ?_)
    refine mt_grI hB 45 (by decide) rfl (by unfold mt_gk; decide) (fun ad h53 t53 hB => ?_)
    refine mt_grL hB 46 (by decide) rfl (by unfold mt_gk; decide) (fun ad h64 t64 hB => ?_)
    refine mt_grL hB 47 (by decide) rfl (by unfold mt_gk; decide) (fun ad h75 t75 hB => ?_)
    refine mt_grI hB 48 (by decide) rfl (by unfold mt_gk; decide) (fun ad h86 t86 hB => ?_)
    exact mm_bl_X8_note_89 hB
  · exact mm_bl_X8_note_89 hB
def gb_X8_act_67 (N : Nat) (w9 : Int64) (s : mt_S) : Option (Int64 × mt_S) :=
  Option.bind (gm_pI s 49 0) fun t69 =>
  some (w9, t69)
set_option maxRecDepth 20000 in
set_option maxHeartbeats 4000000 in
theorem mm_bl_X8_act_67 {M : Nat} {X : Nat → Prop} {ad : Nat → Nat} {H0 h : ym_H} {S0 s : mt_S} {N : Nat} {w9 : Int64} (hB : mt_B M X ad H0 S0 h s) : mt_ok M X H0 S0 (bl_X8_act_67 N (some M) w9 h) (gb_X8_act_67 N w9 s) := by
  unfold bl_X8_act_67 gb_X8_act_67
  refine mt_pI hB 49 (by decide) rfl (fun h69 t69 hB => ?_)
  exact mt_ret hB
def gm_X8_act (N : Nat) (a1 : Int32) (a2 : Int32) (a3 : Int32) (a4 : Int32) (a5 : Int64) (a7 : Int64) (s : mt_S) : Option (Int64 × mt_S) :=
  Option.bind (gm_pI s 52 ((s.1 52 0) + 1)) fun t7 =>
  Option.bind (gm_pI t7 55 0) fun t12 =>
  Option.bind (gm_pI t12 57 0) fun t17 =>
  Option.bind (gm_X8_done (gm_X8_back N) N a1 a2 a3 a4 a5 a7 t17) fun q30 =>
  if 0 ≤ q30.1 then
    Option.bind (gm_pI q30.2 53 0) fun t77 =>
    if 19 < a1 then
      some (q30.1, t77)
    else
      Option.bind (gm_X8_note N a1 a2 a3 a4 a5 a7 t77) fun q96 =>
      some (q30.1, q96.2)
  else
    Option.bind (gm_pI q30.2 53 (Int64.toInt32 (-q30.1))) fun t47 =>
    if (t47.1 49 0) ≤ 0 then
      gb_X8_act_67 N q30.1 t47
    else
      Option.bind (gm_ldI t47 50 0) fun v63 =>
      Option.bind (gm_X8_back N v63 t47) fun q64 =>
      gb_X8_act_67 N q30.1 q64.2
set_option maxRecDepth 20000 in
set_option maxHeartbeats 4000000 in
theorem mm_X8_act {M : Nat} {X : Nat → Prop} {ad : Nat → Nat} {h : ym_H} {s : mt_S} {N : Nat} {a1 : Int32} {a2 : Int32} {a3 : Int32} {a4 : Int32} {a5 : Int64} {a7 : Int64} (hB : mt_B M X ad h s h s) : mt_ok M X h s (fn_X8_act N (some M) a1 a2 a3 a4 a5 a7 h) (gm_X8_act N a1 a2 a3 a4 a5 a7 s) := by
  unfold fn_X8_act gm_X8_act
  refine mt_gI hB 52 (by decide) rfl ?_
  refine mt_pI hB 52 (by decide) rfl (fun h7 t7 hB => ?_)
  refine mt_pI hB 55 (by decide) rfl (fun h12 t12 hB => ?_)
  refine mt_pI hB 57 (by decide) rfl (fun h17 t17 hB => ?_)
  refine mt_ob hB (fun _ => ?_)
  refine mt_call hB (mm_X8_done (fun _ _ _ _ hB => mm_X8_back hB) hB.start) (fun r30 ad H30 S30 hB => ?_)
  dsimp only
  refine mt_if (fun _ => ?_) (fun _ => ?_)
  · refine mt_pI hB 53 (by decide) rfl (fun h77 t77 hB => ?_)
    refine mt_if (fun _ => ?_) (fun _ => ?_)
    · exact mt_ret hB
    · refine mt_ob hB (fun _ => ?_)
      refine mt_call hB (mm_X8_note hB.start) (fun r96 ad H96 S96 hB => ?_)
      dsimp only
      exact mt_ret hB
  · refine mt_pI hB 53 (by decide) rfl (fun h47 t47 hB => ?_)
    refine mt_gI hB 49 (by decide) rfl ?_
    refine mt_if (fun _ => ?_) (fun _ => ?_)
    · exact mm_bl_X8_act_67 hB
    · refine mt_gR hB 50 (by decide) (by decide) ?_
      refine mt_ldI hB 50 (by decide) rfl (fun v63 => ?_)
      refine mt_ob hB (fun _ => ?_)
      refine mt_call hB (mm_X8_back hB.start) (fun r64 ad H64 S64 hB => ?_)
      dsimp only
      exact mm_bl_X8_act_67 hB
def gm_X8_ask (N : Nat) (a1 : Int32) (s : mt_S) : Option (Int64 × mt_S) :=
  Option.bind (gm_X8_act N 20 a1 0 0 0 0 s) fun q8 =>
  some (q8.1, q8.2)
set_option maxRecDepth 20000 in
set_option maxHeartbeats 4000000 in
theorem mm_X8_ask {M : Nat} {X : Nat → Prop} {ad : Nat → Nat} {h : ym_H} {s : mt_S} {N : Nat} {a1 : Int32} (hB : mt_B M X ad h s h s) : mt_ok M X h s (fn_X8_ask N (some M) a1 h) (gm_X8_ask N a1 s) := by
  unfold fn_X8_ask gm_X8_ask
  refine mt_ob hB (fun _ => ?_)
  refine mt_call hB (mm_X8_act hB.start) (fun r8 ad H8 S8 hB => ?_)
  dsimp only
  exact mt_ret hB
def gm_X8_isBidder (N : Nat) (a1 : Int32) (s : mt_S) : Option (Int32 × mt_S) :=
  Option.bind (gm_X8_noBidder N a1 s) fun q2 =>
  if q2.1 = 0 then
    some (1, q2.2)
  else
    some (0, q2.2)
set_option maxRecDepth 20000 in
set_option maxHeartbeats 4000000 in
theorem mm_X8_isBidder {M : Nat} {X : Nat → Prop} {ad : Nat → Nat} {h : ym_H} {s : mt_S} {N : Nat} {a1 : Int32} (hB : mt_B M X ad h s h s) : mt_ok M X h s (fn_X8_isBidder N (some M) a1 h) (gm_X8_isBidder N a1 s) := by
  unfold fn_X8_isBidder gm_X8_isBidder
  refine mt_ob hB (fun _ => ?_)
  refine mt_call hB (mm_X8_noBidder hB.start) (fun r2 ad H2 S2 hB => ?_)
  dsimp only
  refine mt_if (fun _ => ?_) (fun _ => ?_)
  · exact mt_ret hB
  · exact mt_ret hB
def gm_X8_balance (N : Nat) (a1 : Int32) (s : mt_S) : Option (Int64 × mt_S) :=
  Option.bind (gm_X8_isBidder N a1 s) fun q2 =>
  if q2.1 = 0 then
    some (0, q2.2)
  else
    Option.bind (gm_ldL q2.2 3 a1) fun v13 =>
    some (v13, q2.2)
set_option maxRecDepth 20000 in
set_option maxHeartbeats 4000000 in
theorem mm_X8_balance {M : Nat} {X : Nat → Prop} {ad : Nat → Nat} {h : ym_H} {s : mt_S} {N : Nat} {a1 : Int32} (hB : mt_B M X ad h s h s) : mt_ok M X h s (fn_X8_balance N (some M) a1 h) (gm_X8_balance N a1 s) := by
  unfold fn_X8_balance gm_X8_balance
  refine mt_ob hB (fun _ => ?_)
  refine mt_call hB (mm_X8_isBidder hB.start) (fun r2 ad H2 S2 hB => ?_)
  dsimp only
  refine mt_if (fun _ => ?_) (fun _ => ?_)
  · exact mt_ret hB
  · refine mt_gR hB 3 (by decide) (by decide) ?_
    refine mt_ldL hB 3 (by decide) rfl (fun v13 => ?_)
    exact mt_ret hB
def gm_X8_batch (N : Nat)  (s : mt_S) : Option (Int64 × mt_S) :=
  Option.bind (gm_X8_act N 23 0 0 0 0 0 s) fun q8 =>
  some (q8.1, q8.2)
set_option maxRecDepth 20000 in
set_option maxHeartbeats 4000000 in
theorem mm_X8_batch {M : Nat} {X : Nat → Prop} {ad : Nat → Nat} {h : ym_H} {s : mt_S} {N : Nat}  (hB : mt_B M X ad h s h s) : mt_ok M X h s (fn_X8_batch N (some M) h) (gm_X8_batch N  s) := by
  unfold fn_X8_batch gm_X8_batch
  refine mt_ob hB (fun _ => ?_)
  refine mt_call hB (mm_X8_act hB.start) (fun r8 ad H8 S8 hB => ?_)
  dsimp only
  exact mt_ret hB
def gm_X8_batches (N : Nat)  (s : mt_S) : Option (Int32 × mt_S) :=
  some ((s.1 49 0), s)
set_option maxRecDepth 20000 in
set_option maxHeartbeats 4000000 in
theorem mm_X8_batches {M : Nat} {X : Nat → Prop} {ad : Nat → Nat} {h : ym_H} {s : mt_S} {N : Nat}  (hB : mt_B M X ad h s h s) : mt_ok M X h s (fn_X8_batches N (some M) h) (gm_X8_batches N  s) := by
  unfold fn_X8_batches gm_X8_batches
  refine mt_gI hB 49 (by decide) rfl ?_
  exact mt_ret hB
def gm_X8_bid (N : Nat) (a1 : Int32) (a2 : Int32) (a3 : Int64) (s : mt_S) : Option (Int64 × mt_S) :=
  Option.bind (gm_X8_act N 9 a1 a2 0 a3 0 s) fun q8 =>
  some (q8.1, q8.2)
set_option maxRecDepth 20000 in
set_option maxHeartbeats 4000000 in
theorem mm_X8_bid {M : Nat} {X : Nat → Prop} {ad : Nat → Nat} {h : ym_H} {s : mt_S} {N : Nat} {a1 : Int32} {a2 : Int32} {a3 : Int64} (hB : mt_B M X ad h s h s) : mt_ok M X h s (fn_X8_bid N (some M) a1 a2 a3 h) (gm_X8_bid N a1 a2 a3 s) := by
  unfold fn_X8_bid gm_X8_bid
  refine mt_ob hB (fun _ => ?_)
  refine mt_call hB (mm_X8_act hB.start) (fun r8 ad H8 S8 hB => ?_)
  dsimp only
  exact mt_ret hB
def gm_X8_bidder (N : Nat) (a1 : Int32) (a2 : Int64) (s : mt_S) : Option (Int64 × mt_S) :=
  Option.bind (gm_X8_act N 1 a1 0 0 a2 0 s) fun q7 =>
  some (q7.1, q7.2)
set_option maxRecDepth 20000 in
set_option maxHeartbeats 4000000 in
theorem mm_X8_bidder {M : Nat} {X : Nat → Prop} {ad : Nat → Nat} {h : ym_H} {s : mt_S} {N : Nat} {a1 : Int32} {a2 : Int64} (hB : mt_B M X ad h s h s) : mt_ok M X h s (fn_X8_bidder N (some M) a1 a2 h) (gm_X8_bidder N a1 a2 s) := by
  unfold fn_X8_bidder gm_X8_bidder
  refine mt_ob hB (fun _ => ?_)
  refine mt_call hB (mm_X8_act hB.start) (fun r7 ad H7 S7 hB => ?_)
  dsimp only
  exact mt_ret hB
def gm_X8_bidderAt (N : Nat) (a1 : Int32) (a2 : Int32) (s : mt_S) : Option (Int64 × mt_S) :=
  Option.bind (gm_X8_act N 21 a1 a2 0 0 0 s) fun q8 =>
  some (q8.1, q8.2)
set_option maxRecDepth 20000 in
set_option maxHeartbeats 4000000 in
theorem mm_X8_bidderAt {M : Nat} {X : Nat → Prop} {ad : Nat → Nat} {h : ym_H} {s : mt_S} {N : Nat} {a1 : Int32} {a2 : Int32} (hB : mt_B M X ad h s h s) : mt_ok M X h s (fn_X8_bidderAt N (some M) a1 a2 h) (gm_X8_bidderAt N a1 a2 s) := by
  unfold fn_X8_bidderAt gm_X8_bidderAt
  refine mt_ob hB (fun _ => ?_)
  refine mt_call hB (mm_X8_act hB.start) (fun r8 ad H8 S8 hB => ?_)
  dsimp only
  exact mt_ret hB
def gm_X8_bidderKind (N : Nat) (a1 : Int32) (s : mt_S) : Option (Int32 × mt_S) :=
  Option.bind (gm_X8_isBidder N a1 s) fun q2 =>
  if q2.1 = 0 then
    some (0, q2.2)
  else
    Option.bind (gm_ldI q2.2 1 a1) fun v13 =>
    some (v13, q2.2)
set_option maxRecDepth 20000 in
set_option maxHeartbeats 4000000 in
theorem mm_X8_bidderKind {M : Nat} {X : Nat → Prop} {ad : Nat → Nat} {h : ym_H} {s : mt_S} {N : Nat} {a1 : Int32} (hB : mt_B M X ad h s h s) : mt_ok M X h s (fn_X8_bidderKind N (some M) a1 h) (gm_X8_bidderKind N a1 s) := by
  unfold fn_X8_bidderKind gm_X8_bidderKind
  refine mt_ob hB (fun _ => ?_)
  refine mt_call hB (mm_X8_isBidder hB.start) (fun r2 ad H2 S2 hB => ?_)
  dsimp only
  refine mt_if (fun _ => ?_) (fun _ => ?_)
  · exact mt_ret hB
  · refine mt_gR hB 1 (by decide) (by decide) ?_
    refine mt_ldI hB 1 (by decide) rfl (fun v13 => ?_)
    exact mt_ret hB
def gm_X8_call (N : Nat) (a1 : Int32) (s : mt_S) : Option (Int64 × mt_S) :=
  Option.bind (gm_X8_act N 8 a1 0 0 0 0 s) fun q8 =>
  some (q8.1, q8.2)
set_option maxRecDepth 20000 in
set_option maxHeartbeats 4000000 in
theorem mm_X8_call {M : Nat} {X : Nat → Prop} {ad : Nat → Nat} {h : ym_H} {s : mt_S} {N : Nat} {a1 : Int32} (hB : mt_B M X ad h s h s) : mt_ok M X h s (fn_X8_call N (some M) a1 h) (gm_X8_call N a1 s) := by
  unfold fn_X8_call gm_X8_call
  refine mt_ob hB (fun _ => ?_)
  refine mt_call hB (mm_X8_act hB.start) (fun r8 ad H8 S8 hB => ?_)
  dsimp only
  exact mt_ret hB
def gm_X8_isLot (N : Nat) (a1 : Int32) (s : mt_S) : Option (Int32 × mt_S) :=
  Option.bind (gm_X8_noLot N a1 s) fun q2 =>
  if q2.1 = 0 then
    some (1, q2.2)
  else
    some (0, q2.2)
set_option maxRecDepth 20000 in
set_option maxHeartbeats 4000000 in
theorem mm_X8_isLot {M : Nat} {X : Nat → Prop} {ad : Nat → Nat} {h : ym_H} {s : mt_S} {N : Nat} {a1 : Int32} (hB : mt_B M X ad h s h s) : mt_ok M X h s (fn_X8_isLot N (some M) a1 h) (gm_X8_isLot N a1 s) := by
  unfold fn_X8_isLot gm_X8_isLot
  refine mt_ob hB (fun _ => ?_)
  refine mt_call hB (mm_X8_noLot hB.start) (fun r2 ad H2 S2 hB => ?_)
  dsimp only
  refine mt_if (fun _ => ?_) (fun _ => ?_)
  · exact mt_ret hB
  · exact mt_ret hB
def gm_X8_cause (N : Nat) (a1 : Int32) (a2 : Int32) (s : mt_S) : Option (Int32 × mt_S) :=
  Option.bind (gm_X8_isLot N a1 s) fun q2 =>
  if q2.1 = 0 then
    some (0, q2.2)
  else
    if a2 = 0 then
      Option.bind (gm_ldI q2.2 28 a1) fun v21 =>
      some (v21, q2.2)
    else
      if a2 = 1 then
        Option.bind (gm_ldI q2.2 29 a1) fun v35 =>
        some (v35, q2.2)
      else
        some (0, q2.2)
set_option maxRecDepth 20000 in
set_option maxHeartbeats 4000000 in
theorem mm_X8_cause {M : Nat} {X : Nat → Prop} {ad : Nat → Nat} {h : ym_H} {s : mt_S} {N : Nat} {a1 : Int32} {a2 : Int32} (hB : mt_B M X ad h s h s) : mt_ok M X h s (fn_X8_cause N (some M) a1 a2 h) (gm_X8_cause N a1 a2 s) := by
  unfold fn_X8_cause gm_X8_cause
  refine mt_ob hB (fun _ => ?_)
  refine mt_call hB (mm_X8_isLot hB.start) (fun r2 ad H2 S2 hB => ?_)
  dsimp only
  refine mt_if (fun _ => ?_) (fun _ => ?_)
  · exact mt_ret hB
  · refine mt_if (fun _ => ?_) (fun _ => ?_)
    · refine mt_gR hB 28 (by decide) (by decide) ?_
      refine mt_ldI hB 28 (by decide) rfl (fun v21 => ?_)
      exact mt_ret hB
    · refine mt_if (fun _ => ?_) (fun _ => ?_)
      · refine mt_gR hB 29 (by decide) (by decide) ?_
        refine mt_ldI hB 29 (by decide) rfl (fun v35 => ?_)
        exact mt_ret hB
      · exact mt_ret hB
def gm_X8_cut (N : Nat) (a1 : Int32) (a2 : Int32) (s : mt_S) : Option (Int64 × mt_S) :=
  Option.bind (gm_X8_act N 4 a1 a2 0 0 0 s) fun q7 =>
  some (q7.1, q7.2)
set_option maxRecDepth 20000 in
set_option maxHeartbeats 4000000 in
theorem mm_X8_cut {M : Nat} {X : Nat → Prop} {ad : Nat → Nat} {h : ym_H} {s : mt_S} {N : Nat} {a1 : Int32} {a2 : Int32} (hB : mt_B M X ad h s h s) : mt_ok M X h s (fn_X8_cut N (some M) a1 a2 h) (gm_X8_cut N a1 a2 s) := by
  unfold fn_X8_cut gm_X8_cut
  refine mt_ob hB (fun _ => ?_)
  refine mt_call hB (mm_X8_act hB.start) (fun r7 ad H7 S7 hB => ?_)
  dsimp only
  exact mt_ret hB
