def gb_X8_ticked_128 (N : Nat) (w1 : Int32) (s0 : Int64) (s1 : Int32) (s : mt_S) : Option (Int64 × mt_S) :=
  Option.bind (gm_stL s 10 s1 s0) fun t128 =>
  Option.bind (gm_ldL t128 10 w1) fun v134 =>
  some (v134, t128)
set_option maxRecDepth 20000 in
set_option maxHeartbeats 4000000 in
theorem mm_bl_X8_ticked_128 {M : Nat} {X : Nat → Prop} {ad : Nat → Nat} {H0 h : ym_H} {S0 s : mt_S} {N : Nat} {w1 : Int32} {s0 : Int64} {s1 : Int32} (hB : mt_B M X ad H0 S0 h s) : mt_ok M X H0 S0 (bl_X8_ticked_128 N (some M) w1 s0 s1 (some (ad 10)) h) (gb_X8_ticked_128 N w1 s0 s1 s) := by
  unfold bl_X8_ticked_128 gb_X8_ticked_128
  refine mt_aL hB 10 (by decide) rfl (fun h128 t128 hB => ?_)
  refine mt_gR hB 10 (by decide) (by decide) ?_
  refine mt_ldL hB 10 (by decide) rfl (fun v134 => ?_)
  exact mt_ret hB
def gb_X8_ticked_78 (N : Nat) (w1 : Int32) (w2 : Int64) (s0 : Int64) (s : mt_S) : Option (Int64 × mt_S) :=
  Option.bind (gm_ldL s 10 w1) fun v85 =>
  if s0 < v85 then
    Option.bind (gm_ldL s 10 w1) fun v106 =>
    if s0 ≤ (v106 - w2) then
      Option.bind (gm_ldL s 10 w1) fun v125 =>
      gb_X8_ticked_128 N w1 (v125 - w2) w1 s
    else
      gb_X8_ticked_128 N w1 s0 w1 s
  else
    some ((-10), s)
set_option maxRecDepth 20000 in
set_option maxHeartbeats 4000000 in
theorem mm_bl_X8_ticked_78 {M : Nat} {X : Nat → Prop} {ad : Nat → Nat} {H0 h : ym_H} {S0 s : mt_S} {N : Nat} {w1 : Int32} {w2 : Int64} {s0 : Int64} (hB : mt_B M X ad H0 S0 h s) : mt_ok M X H0 S0 (bl_X8_ticked_78 N (some M) w1 w2 s0 h) (gb_X8_ticked_78 N w1 w2 s0 s) := by
  unfold bl_X8_ticked_78 gb_X8_ticked_78
  refine mt_gR hB 10 (by decide) (by decide) ?_
  refine mt_ldL hB 10 (by decide) rfl (fun v85 => ?_)
  refine mt_if (fun _ => ?_) (fun _ => ?_)
  · refine mt_gR hB 10 (by decide) (by decide) ?_
    refine mt_gR hB 10 (by decide) (by decide) ?_
    refine mt_ldL hB 10 (by decide) rfl (fun v106 => ?_)
    refine mt_if (fun _ => ?_) (fun _ => ?_)
    · refine mt_gR hB 10 (by decide) (by decide) ?_
      refine mt_ldL hB 10 (by decide) rfl (fun v125 => ?_)
      exact mm_bl_X8_ticked_128 hB
    · exact mm_bl_X8_ticked_128 hB
  · exact mt_ret hB
def gm_X8_ticked (N : Nat) (a1 : Int32) (a2 : Int64) (s : mt_S) : Option (Int64 × mt_S) :=
  Option.bind (gm_X8_isSum N a2 s) fun q1 =>
  if q1.1 = 0 then
    some ((-1), q1.2)
  else
    Option.bind (gm_X8_noLotOf N a1 5 q1.2) fun q14 =>
    if q14.1 ≤ 0 then
      Option.bind (gm_X8_notOpen N a1 q14.2) fun q31 =>
      if q31.1 ≤ 0 then
        Option.bind (gm_X8_standing N a1 q31.2) fun q47 =>
        if q47.1 < 0 then
          Option.bind (gm_ldL q47.2 7 a1) fun v62 =>
          if v62 ≤ 1 then
            gb_X8_ticked_78 N a1 a2 1 q47.2
          else
            Option.bind (gm_ldL q47.2 7 a1) fun v73 =>
            gb_X8_ticked_78 N a1 a2 v73 q47.2
        else
          some ((-8), q47.2)
      else
        Option.bind (gm_X8_notOpen N a1 q31.2) fun q39 =>
        some ((Int32.toInt64 (-q39.1)), q39.2)
    else
      Option.bind (gm_X8_noLotOf N a1 5 q14.2) fun q23 =>
      some ((Int32.toInt64 (-q23.1)), q23.2)
set_option maxRecDepth 20000 in
set_option maxHeartbeats 4000000 in
theorem mm_X8_ticked {M : Nat} {X : Nat → Prop} {ad : Nat → Nat} {h : ym_H} {s : mt_S} {N : Nat} {a1 : Int32} {a2 : Int64} (hB : mt_B M X ad h s h s) : mt_ok M X h s (fn_X8_ticked N (some M) a1 a2 h) (gm_X8_ticked N a1 a2 s) := by
  unfold fn_X8_ticked gm_X8_ticked
  refine mt_call hB (mm_X8_isSum hB.start) (fun r1 ad H1 S1 hB => ?_)
  dsimp only
  refine mt_if (fun _ => ?_) (fun _ => ?_)
  · exact mt_ret hB
  · refine mt_ob hB (fun _ => ?_)
    refine mt_call hB (mm_X8_noLotOf hB.start) (fun r14 ad H14 S14 hB => ?_)
    dsimp only
    refine mt_if (fun _ => ?_) (fun _ => ?_)
    · refine mt_ob hB (fun _ => ?_)
      refine mt_call hB (mm_X8_notOpen hB.start) (fun r31 ad H31 S31 hB => ?_)
      dsimp only
      refine mt_if (fun _ => ?_) (fun _ => ?_)
      · refine mt_ob hB (fun _ => ?_)
        refine mt_call hB (mm_X8_standing hB.start) (fun r47 ad H47 S47 hB => ?_)
        dsimp only
        refine mt_if (fun _ => ?_) (fun _ => ?_)
        · refine mt_gR hB 7 (by decide) (by decide) ?_
          refine mt_ldL hB 7 (by decide) rfl (fun v62 => ?_)
          refine mt_if (fun _ => ?_) (fun _ => ?_)
          · exact mm_bl_X8_ticked_78 hB
          · refine mt_gR hB 7 (by decide) (by decide) ?_
            refine mt_ldL hB 7 (by decide) rfl (fun v73 => ?_)
            exact mm_bl_X8_ticked_78 hB
        · exact mt_ret hB
      · refine mt_ob hB (fun _ => ?_)
        refine mt_call hB (mm_X8_notOpen hB.start) (fun r39 ad H39 S39 hB => ?_)
        dsimp only
        exact mt_ret hB
    · refine mt_ob hB (fun _ => ?_)
      refine mt_call hB (mm_X8_noLotOf hB.start) (fun r23 ad H23 S23 hB => ?_)
      dsimp only
      exact mt_ret hB
def gm_X8_took (N : Nat) (a1 : Int32) (a2 : Int32) (s : mt_S) : Option (Int64 × mt_S) :=
  Option.bind (gm_X8_noLotOf N a1 5 s) fun q3 =>
  if q3.1 ≤ 0 then
    Option.bind (gm_X8_noBidder N a2 q3.2) fun q20 =>
    if q20.1 ≤ 0 then
      Option.bind (gm_ldI q20.2 1 a2) fun v39 =>
      if v39 = 1 then
        Option.bind (gm_X8_notOpen N a1 q20.2) fun q50 =>
        if q50.1 ≤ 0 then
          Option.bind (gm_X8_standing N a1 q50.2) fun q66 =>
          if q66.1 < 0 then
            Option.bind (gm_ldL q66.2 10 a1) fun v84 =>
            Option.bind (gm_X8_enter N a1 a2 v84 q66.2) fun q85 =>
            Option.bind (gm_ldL q85.2 10 a1) fun v93 =>
            some (v93, q85.2)
          else
            some ((-8), q66.2)
        else
          Option.bind (gm_X8_notOpen N a1 q50.2) fun q58 =>
          some ((Int32.toInt64 (-q58.1)), q58.2)
      else
        some ((-4), q20.2)
    else
      Option.bind (gm_X8_noBidder N a2 q20.2) fun q28 =>
      some ((Int32.toInt64 (-q28.1)), q28.2)
  else
    Option.bind (gm_X8_noLotOf N a1 5 q3.2) fun q12 =>
    some ((Int32.toInt64 (-q12.1)), q12.2)
set_option maxRecDepth 20000 in
set_option maxHeartbeats 4000000 in
theorem mm_X8_took {M : Nat} {X : Nat → Prop} {ad : Nat → Nat} {h : ym_H} {s : mt_S} {N : Nat} {a1 : Int32} {a2 : Int32} (hB : mt_B M X ad h s h s) : mt_ok M X h s (fn_X8_took N (some M) a1 a2 h) (gm_X8_took N a1 a2 s) := by
  unfold fn_X8_took gm_X8_took
  refine mt_ob hB (fun _ => ?_)
  refine mt_call hB (mm_X8_noLotOf hB.start) (fun r3 ad H3 S3 hB => ?_)
  dsimp only
  refine mt_if (fun _ => ?_) (fun _ => ?_)
  · refine mt_ob hB (fun _ => ?_)
    refine mt_call hB (mm_X8_noBidder hB.start) (fun r20 ad H20 S20 hB => ?_)
    dsimp only
    refine mt_if (fun _ => ?_) (fun _ => ?_)
    · refine mt_gR hB 1 (by decide) (by decide) ?_
      refine mt_ldI hB 1 (by decide) rfl (fun v39 => ?_)
      refine mt_if (fun _ => ?_) (fun _ => ?_)
      · refine mt_ob hB (fun _ => ?_)
        refine mt_call hB (mm_X8_notOpen hB.start) (fun r50 ad H50 S50 hB => ?_)
        dsimp only
        refine mt_if (fun _ => ?_) (fun _ => ?_)
        · refine mt_ob hB (fun _ => ?_)
          refine mt_call hB (mm_X8_standing hB.start) (fun r66 ad H66 S66 hB => ?_)
          dsimp only
          refine mt_if (fun _ => ?_) (fun _ => ?_)
          · refine mt_gR hB 10 (by decide) (by decide) ?_
            refine mt_ldL hB 10 (by decide) rfl (fun v84 => ?_)
            refine mt_ob hB (fun _ => ?_)
            refine mt_call hB (mm_X8_enter hB.start) (fun r85 ad H85 S85 hB => ?_)
            dsimp only
            refine mt_gR hB 10 (by decide) (by decide) ?_
            refine mt_ldL hB 10 (by decide) rfl (fun v93 => ?_)
            exact mt_ret hB
          · exact mt_ret hB
        · refine mt_ob hB (fun _ => ?_)
          refine mt_call hB (mm_X8_notOpen hB.start) (fun r58 ad H58 S58 hB => ?_)
          dsimp only
          exact mt_ret hB
      · exact mt_ret hB
    · refine mt_ob hB (fun _ => ?_)
      refine mt_call hB (mm_X8_noBidder hB.start) (fun r28 ad H28 S28 hB => ?_)
      dsimp only
      exact mt_ret hB
  · refine mt_ob hB (fun _ => ?_)
    refine mt_call hB (mm_X8_noLotOf hB.start) (fun r12 ad H12 S12 hB => ?_)
    dsimp only
    exact mt_ret hB
def gb_X8_soldOf_46 (N : Nat) (w1 : Int32) (s : mt_S) : Option (Int32 × mt_S) :=
  Option.bind (gm_X8_mark N 11 s) fun q49 =>
  Option.bind (gm_X8_standing N w1 q49.2) fun q54 =>
  if q54.1 < 0 then
    some (0, q54.2)
  else
    Option.bind (gm_X8_standingSum N w1 q54.2) fun q62 =>
    Option.bind (gm_ldL q62.2 7 w1) fun v70 =>
    if q62.1 < v70 then
      some (0, q62.2)
    else
      some (1, q62.2)
set_option maxRecDepth 20000 in
set_option maxHeartbeats 4000000 in
theorem mm_bl_X8_soldOf_46 {M : Nat} {X : Nat → Prop} {ad : Nat → Nat} {H0 h : ym_H} {S0 s : mt_S} {N : Nat} {w1 : Int32} (hB : mt_B M X ad H0 S0 h s) : mt_ok M X H0 S0 (bl_X8_soldOf_46 N (some M) w1 h) (gb_X8_soldOf_46 N w1 s) := by
  unfold bl_X8_soldOf_46 gb_X8_soldOf_46
  refine mt_ob hB (fun _ => ?_)
  refine mt_call hB (mm_X8_mark hB.start) (fun r49 ad H49 S49 hB => ?_)
  dsimp only
  refine mt_ob hB (fun _ => ?_)
  refine mt_call hB (mm_X8_standing hB.start) (fun r54 ad H54 S54 hB => ?_)
  dsimp only
  refine mt_if (fun _ => ?_) (fun _ => ?_)
  · exact mt_ret hB
  · refine mt_ob hB (fun _ => ?_)
    refine mt_call hB (mm_X8_standingSum hB.start) (fun r62 ad H62 S62 hB => ?_)
    dsimp only
    refine mt_gR hB 7 (by decide) (by decide) ?_
    refine mt_ldL hB 7 (by decide) rfl (fun v70 => ?_)
    refine mt_if (fun _ => ?_) (fun _ => ?_)
    · exact mt_ret hB
    · exact mt_ret hB
def gm_X8_soldOf (N : Nat) (a1 : Int32) (s : mt_S) : Option (Int32 × mt_S) :=
  Option.bind (gm_ldI s 5 a1) fun v5 =>
  if v5 = 5 then
    Option.bind (gm_X8_mark N 13 s) fun q13 =>
    Option.bind (gm_X8_standing N a1 q13.2) fun q18 =>
    if q18.1 < 0 then
      some (0, q18.2)
    else
      some (1, q18.2)
  else
    Option.bind (gm_ldI s 5 a1) fun v35 =>
    if v35 = 4 then
      Option.bind (gm_X8_mark N 12 s) fun q43 =>
      gb_X8_soldOf_46 N a1 q43.2
    else
      gb_X8_soldOf_46 N a1 s
set_option maxRecDepth 20000 in
set_option maxHeartbeats 4000000 in
theorem mm_X8_soldOf {M : Nat} {X : Nat → Prop} {ad : Nat → Nat} {h : ym_H} {s : mt_S} {N : Nat} {a1 : Int32} (hB : mt_B M X ad h s h s) : mt_ok M X h s (fn_X8_soldOf N (some M) a1 h) (gm_X8_soldOf N a1 s) := by
  unfold fn_X8_soldOf gm_X8_soldOf
  refine mt_gR hB 5 (by decide) (by decide) ?_
  refine mt_ldI hB 5 (by decide) rfl (fun v5 => ?_)
  refine mt_if (fun _ => ?_) (fun _ => ?_)
  · refine mt_ob hB (fun _ => ?_)
    refine mt_call hB (mm_X8_mark hB.start) (fun r13 ad H13 S13 hB => ?_)
    dsimp only
    refine mt_ob hB (fun _ => ?_)
    refine mt_call hB (mm_X8_standing hB.start) (fun r18 ad H18 S18 hB => ?_)
    dsimp only
    refine mt_if (fun _ => ?_) (fun _ => ?_)
    · exact mt_ret hB
    · exact mt_ret hB
  · refine mt_gR hB 5 (by decide) (by decide) ?_
    refine mt_ldI hB 5 (by decide) rfl (fun v35 => ?_)
    refine mt_if (fun _ => ?_) (fun _ => ?_)
    · refine mt_ob hB (fun _ => ?_)
      refine mt_call hB (mm_X8_mark hB.start) (fun r43 ad H43 S43 hB => ?_)
      dsimp only
      exact mm_bl_X8_soldOf_46 hB
    · exact mm_bl_X8_soldOf_46 hB
def gm_X8_even (N : Nat) (a0 : Int64) (s : mt_S) : Option (Int64 × mt_S) :=
  if 10000 < (2 * (a0 - a0 / 10000 * 10000)) then
    some (((a0 / 10000) + 1), s)
  else
    if (2 * (a0 - a0 / 10000 * 10000)) = 10000 then
      if ((a0 / 10000) - (a0 / 10000) / 2 * 2) = 1 then
        some (((a0 / 10000) + 1), s)
      else
        some ((a0 / 10000), s)
    else
      some ((a0 / 10000), s)
set_option maxRecDepth 20000 in
set_option maxHeartbeats 4000000 in
theorem mm_X8_even {M : Nat} {X : Nat → Prop} {ad : Nat → Nat} {h : ym_H} {s : mt_S} {N : Nat} {a0 : Int64} (hB : mt_B M X ad h s h s) : mt_ok M X h s (fn_X8_even N a0 h) (gm_X8_even N a0 s) := by
  unfold fn_X8_even gm_X8_even
  refine mt_if (fun _ => ?_) (fun _ => ?_)
  · exact mt_ret hB
  · refine mt_if (fun _ => ?_) (fun _ => ?_)
    · refine mt_if (fun _ => ?_) (fun _ => ?_)
      · exact mt_ret hB
      · exact mt_ret hB
    · exact mt_ret hB
def gb_X8_premiumOf_89_5 (Kl : Int64 → Int64 → Int32 → mt_S → Option ((Int64) × mt_S)) (N : Nat) (w1 : Int64) (w3 : Int64) (w5 : Int32) (s : mt_S) : Option ((Int64) × mt_S) :=
  Kl w1 w3 (w5 + 1) s
set_option maxRecDepth 20000 in
set_option maxHeartbeats 4000000 in
theorem mm_bl_X8_premiumOf_89_5 {M : Nat} {X : Nat → Prop} {ad : Nat → Nat} {H0 h : ym_H} {S0 s : mt_S} {K : Option Nat → Int64 → Int64 → Int32 → ym_H → Option ((Int64) × ym_H)} {Kl : Int64 → Int64 → Int32 → mt_S → Option ((Int64) × mt_S)} (hKl : ∀ (w1 : Int64) (w3 : Int64) (w5 : Int32) (ad : Nat → Nat) (h : ym_H) (s : mt_S), mt_B M X ad H0 S0 h s → mt_ok M X H0 S0 (K (some M) w1 w3 w5 h) (Kl w1 w3 w5 s)) {N : Nat} {w1 : Int64} {w3 : Int64} {w5 : Int32} (hB : mt_B M X ad H0 S0 h s) : mt_ok M X H0 S0 (bl_X8_premiumOf_89_5 K N (some M) w1 w3 w5 h) (gb_X8_premiumOf_89_5 Kl N w1 w3 w5 s) := by
  unfold bl_X8_premiumOf_89_5 gb_X8_premiumOf_89_5
  exact hKl _ _ _ _ _ _ hB
def gb_X8_premiumOf_52_5 (Kl : Int64 → Int64 → Int32 → mt_S → Option ((Int64) × mt_S)) (N : Nat) (w1 : Int64) (w3 : Int64) (w5 : Int32) (s0 : Int64) (s : mt_S) : Option ((Int64) × mt_S) :=
  Option.bind (gm_ldL s 37 w5) fun v62 =>
  if s0 ≤ v62 then
    gb_X8_premiumOf_89_5 Kl N w1 w3 w5 s
  else
    Option.bind (gm_ldL s 37 w5) fun v76 =>
    Option.bind (gm_ldI s 38 w5) fun v84 =>
    gb_X8_premiumOf_89_5 Kl N w1 (w3 + ((s0 - v76) * (Int32.toInt64 v84))) w5 s
set_option maxRecDepth 20000 in
set_option maxHeartbeats 4000000 in
theorem mm_bl_X8_premiumOf_52_5 {M : Nat} {X : Nat → Prop} {ad : Nat → Nat} {H0 h : ym_H} {S0 s : mt_S} {K : Option Nat → Int64 → Int64 → Int32 → ym_H → Option ((Int64) × ym_H)} {Kl : Int64 → Int64 → Int32 → mt_S → Option ((Int64) × mt_S)} (hKl : ∀ (w1 : Int64) (w3 : Int64) (w5 : Int32) (ad : Nat → Nat) (h : ym_H) (s : mt_S), mt_B M X ad H0 S0 h s → mt_ok M X H0 S0 (K (some M) w1 w3 w5 h) (Kl w1 w3 w5 s)) {N : Nat} {w1 : Int64} {w3 : Int64} {w5 : Int32} {s0 : Int64} (hB : mt_B M X ad H0 S0 h s) : mt_ok M X H0 S0 (bl_X8_premiumOf_52_5 K N (some M) w1 w3 w5 s0 h) (gb_X8_premiumOf_52_5 Kl N w1 w3 w5 s0 s) := by
  unfold bl_X8_premiumOf_52_5 gb_X8_premiumOf_52_5
  refine mt_gR hB 37 (by decide) (by decide) ?_
  refine mt_ldL hB 37 (by decide) rfl (fun v62 => ?_)
  refine mt_if (fun _ => ?_) (fun _ => ?_)
  · exact mm_bl_X8_premiumOf_89_5 hKl hB
  · refine mt_gR hB 37 (by decide) (by decide) ?_
    refine mt_ldL hB 37 (by decide) rfl (fun v76 => ?_)
    refine mt_gR hB 38 (by decide) (by decide) ?_
    refine mt_ldI hB 38 (by decide) rfl (fun v84 => ?_)
    exact mm_bl_X8_premiumOf_89_5 hKl hB
def gb_X8_premiumOf_51_5 (Kl : Int64 → Int64 → Int32 → mt_S → Option ((Int64) × mt_S)) (N : Nat) (w1 : Int64) (w3 : Int64) (w5 : Int32) (s : mt_S) : Option ((Int64) × mt_S) :=
  gb_X8_premiumOf_52_5 Kl N w1 w3 w5 w1 s
set_option maxRecDepth 20000 in
set_option maxHeartbeats 4000000 in
theorem mm_bl_X8_premiumOf_51_5 {M : Nat} {X : Nat → Prop} {ad : Nat → Nat} {H0 h : ym_H} {S0 s : mt_S} {K : Option Nat → Int64 → Int64 → Int32 → ym_H → Option ((Int64) × ym_H)} {Kl : Int64 → Int64 → Int32 → mt_S → Option ((Int64) × mt_S)} (hKl : ∀ (w1 : Int64) (w3 : Int64) (w5 : Int32) (ad : Nat → Nat) (h : ym_H) (s : mt_S), mt_B M X ad H0 S0 h s → mt_ok M X H0 S0 (K (some M) w1 w3 w5 h) (Kl w1 w3 w5 s)) {N : Nat} {w1 : Int64} {w3 : Int64} {w5 : Int32} (hB : mt_B M X ad H0 S0 h s) : mt_ok M X H0 S0 (bl_X8_premiumOf_51_5 K N (some M) w1 w3 w5 h) (gb_X8_premiumOf_51_5 Kl N w1 w3 w5 s) := by
  unfold bl_X8_premiumOf_51_5 gb_X8_premiumOf_51_5
  exact mm_bl_X8_premiumOf_52_5 hKl hB
def gl_X8_premiumOf_5 (Kl : Int64 → Int64 → Int32 → mt_S → Option ((Int64) × mt_S)) (N : Nat) (w1 : Int64) (w3 : Int64) (w5 : Int32) (s : mt_S) : Option ((Int64) × mt_S) :=
  if (s.1 36 0) ≤ w5 then
    some (w3, s)
  else
    if (s.1 36 0) ≤ (w5 + 1) then
      gb_X8_premiumOf_51_5 Kl N w1 w3 w5 s
    else
      Option.bind (gm_ldL s 37 (w5 + 1)) fun v33 =>
      if w1 ≤ v33 then
        gb_X8_premiumOf_51_5 Kl N w1 w3 w5 s
      else
        Option.bind (gm_ldL s 37 (w5 + 1)) fun v47 =>
        gb_X8_premiumOf_52_5 Kl N w1 w3 w5 v47 s
set_option maxRecDepth 20000 in
set_option maxHeartbeats 4000000 in
theorem mm_lb_X8_premiumOf_5 {M : Nat} {X : Nat → Prop} {ad : Nat → Nat} {H0 h : ym_H} {S0 s : mt_S} {K : Option Nat → Int64 → Int64 → Int32 → ym_H → Option ((Int64) × ym_H)} {Kl : Int64 → Int64 → Int32 → mt_S → Option ((Int64) × mt_S)} (hKl : ∀ (w1 : Int64) (w3 : Int64) (w5 : Int32) (ad : Nat → Nat) (h : ym_H) (s : mt_S), mt_B M X ad H0 S0 h s → mt_ok M X H0 S0 (K (some M) w1 w3 w5 h) (Kl w1 w3 w5 s)) {N : Nat} {w1 : Int64} {w3 : Int64} {w5 : Int32} (hB : mt_B M X ad H0 S0 h s) : mt_ok M X H0 S0 (lb_X8_premiumOf_5 K N (some M) w1 w3 w5 h) (gl_X8_premiumOf_5 Kl N w1 w3 w5 s) := by
  unfold lb_X8_premiumOf_5 gl_X8_premiumOf_5
  refine mt_gI hB 36 (by decide) rfl ?_
  refine mt_if (fun _ => ?_) (fun _ => ?_)
  · exact mt_ret hB
  · refine mt_gI hB 36 (by decide) rfl ?_
    refine mt_if (fun _ => ?_) (fun _ => ?_)
    · exact mm_bl_X8_premiumOf_51_5 hKl hB
    · refine mt_gR hB 37 (by decide) (by decide) ?_
      refine mt_ldL hB 37 (by decide) rfl (fun v33 => ?_)
      refine mt_if (fun _ => ?_) (fun _ => ?_)
      · exact mm_bl_X8_premiumOf_51_5 hKl hB
      · refine mt_gR hB 37 (by decide) (by decide) ?_
        refine mt_ldL hB 37 (by decide) rfl (fun v47 => ?_)
        exact mm_bl_X8_premiumOf_52_5 hKl hB
def gp_X8_premiumOf_5 (N : Nat) : Nat → Int64 → Int64 → Int32 → mt_S → Option ((Int64) × mt_S)
  | 0, _, _, _, _ => none
  | n + 1, w1, w3, w5, s => gl_X8_premiumOf_5 (gp_X8_premiumOf_5 N n) N w1 w3 w5 s
theorem mm_lp_X8_premiumOf_5 {M : Nat} {X : Nat → Prop} {H0 : ym_H} {S0 : mt_S} {N : Nat} : ∀ (n : Nat) (ad : Nat → Nat) (h : ym_H) (s : mt_S) (w1 : Int64) (w3 : Int64) (w5 : Int32), mt_B M X ad H0 S0 h s → mt_ok M X H0 S0 (lp_X8_premiumOf_5 N n (some M) w1 w3 w5 h) (gp_X8_premiumOf_5 N n w1 w3 w5 s) := by
  intro n
  induction n with
  | zero => intro ad h s w1 w3 w5 hB; exact mt_no
  | succ n ih =>
    intro ad h s w1 w3 w5 hB
    exact mm_lb_X8_premiumOf_5 (fun w1 w3 w5 ad h s hB => ih ad h s w1 w3 w5 hB) hB
def gm_X8_premiumOf (N : Nat) (a1 : Int64) (s : mt_S) : Option (Int64 × mt_S) :=
  Option.bind (gp_X8_premiumOf_5 N N a1 0 0 s) fun q5 =>
  Option.bind (gm_X8_even N q5.1 q5.2) fun q96 =>
  some (q96.1, q96.2)
set_option maxRecDepth 20000 in
set_option maxHeartbeats 4000000 in
theorem mm_X8_premiumOf {M : Nat} {X : Nat → Prop} {ad : Nat → Nat} {h : ym_H} {s : mt_S} {N : Nat} {a1 : Int64} (hB : mt_B M X ad h s h s) : mt_ok M X h s (fn_X8_premiumOf N (some M) a1 h) (gm_X8_premiumOf N a1 s) := by
  unfold fn_X8_premiumOf gm_X8_premiumOf
  refine mt_call hB (mm_lp_X8_premiumOf_5 N _ _ _ _ _ _ hB.start) (fun r5 ad H5 S5 hB => ?_)
  dsimp only
  refine mt_call hB (mm_X8_even hB.start) (fun r96 ad H96 S96 hB => ?_)
  dsimp only
  exact mt_ret hB
def gb_X8_sell_170_116 (Kl : Int32 → Int32 → Int64 → Int64 → Int32 → mt_S → Option ((Unit) × mt_S)) (N : Nat) (w1 : Int32) (w5 : Int32) (w6 : Int64) (w12 : Int64) (w14 : Int32) (s0 : Int64) (s1 : Int64) (s2 : Int64) (s3 : Int32) (s : mt_S) : Option ((Unit) × mt_S) :=
  Option.bind (gm_stL s 3 s3 (s2 + (s1 + s0))) fun t172 =>
  Kl w1 w5 w6 w12 (w14 + 1) t172
set_option maxRecDepth 20000 in
set_option maxHeartbeats 4000000 in
theorem mm_bl_X8_sell_170_116 {M : Nat} {X : Nat → Prop} {ad : Nat → Nat} {H0 h : ym_H} {S0 s : mt_S} {K : Option Nat → Int32 → Int32 → Int64 → Int64 → Int32 → ym_H → Option ((Unit) × ym_H)} {Kl : Int32 → Int32 → Int64 → Int64 → Int32 → mt_S → Option ((Unit) × mt_S)} (hKl : ∀ (w1 : Int32) (w5 : Int32) (w6 : Int64) (w12 : Int64) (w14 : Int32) (ad : Nat → Nat) (h : ym_H) (s : mt_S), mt_B M X ad H0 S0 h s → mt_ok M X H0 S0 (K (some M) w1 w5 w6 w12 w14 h) (Kl w1 w5 w6 w12 w14 s)) {N : Nat} {w1 : Int32} {w5 : Int32} {w6 : Int64} {w12 : Int64} {w14 : Int32} {s0 : Int64} {s1 : Int64} {s2 : Int64} {s3 : Int32} (hB : mt_B M X ad H0 S0 h s) : mt_ok M X H0 S0 (bl_X8_sell_170_116 K N (some M) w1 w5 w6 w12 w14 s0 s1 s2 s3 (some (ad 3)) h) (gb_X8_sell_170_116 Kl N w1 w5 w6 w12 w14 s0 s1 s2 s3 s) := by
  unfold bl_X8_sell_170_116 gb_X8_sell_170_116
  refine mt_aL hB 3 (by decide) rfl (fun h172 t172 hB => ?_)
  exact hKl _ _ _ _ _ _ _ _ hB
def gl_X8_sell_116 (Kl : Int32 → Int32 → Int64 → Int64 → Int32 → mt_S → Option ((Unit) × mt_S)) (N : Nat) (w1 : Int32) (w5 : Int32) (w6 : Int64) (w12 : Int64) (w14 : Int32) (s : mt_S) : Option ((Unit) × mt_S) :=
  if w5 ≤ w14 then
    some ((), s)
  else
    Option.bind (gm_ldI s 11 ((4 * w1) + w14)) fun v137 =>
    Option.bind (gm_ldL s 3 v137) fun v139 =>
    if (Int32.toInt64 w5) = 0 then none else
    if (Int32.toInt64 w5) = 0 then none else
    if ((w6 - w12) - (w6 - w12) / (Int32.toInt64 w5) * (Int32.toInt64 w5)) ≤ (Int32.toInt64 w14) then
      gb_X8_sell_170_116 Kl N w1 w5 w6 w12 w14 0 ((w6 - w12) / (Int32.toInt64 w5)) v139 v137 s
    else
      gb_X8_sell_170_116 Kl N w1 w5 w6 w12 w14 1 ((w6 - w12) / (Int32.toInt64 w5)) v139 v137 s
set_option maxRecDepth 20000 in
set_option maxHeartbeats 4000000 in
theorem mm_lb_X8_sell_116 {M : Nat} {X : Nat → Prop} {ad : Nat → Nat} {H0 h : ym_H} {S0 s : mt_S} {K : Option Nat → Int32 → Int32 → Int64 → Int64 → Int32 → ym_H → Option ((Unit) × ym_H)} {Kl : Int32 → Int32 → Int64 → Int64 → Int32 → mt_S → Option ((Unit) × mt_S)} (hKl : ∀ (w1 : Int32) (w5 : Int32) (w6 : Int64) (w12 : Int64) (w14 : Int32) (ad : Nat → Nat) (h : ym_H) (s : mt_S), mt_B M X ad H0 S0 h s → mt_ok M X H0 S0 (K (some M) w1 w5 w6 w12 w14 h) (Kl w1 w5 w6 w12 w14 s)) {N : Nat} {w1 : Int32} {w5 : Int32} {w6 : Int64} {w12 : Int64} {w14 : Int32} (hB : mt_B M X ad H0 S0 h s) : mt_ok M X H0 S0 (lb_X8_sell_116 K N (some M) w1 w5 w6 w12 w14 h) (gl_X8_sell_116 Kl N w1 w5 w6 w12 w14 s) := by
  unfold lb_X8_sell_116 gl_X8_sell_116
  refine mt_if (fun _ => ?_) (fun _ => ?_)
  · exact mt_ret hB
  · refine mt_gR hB 3 (by decide) (by decide) ?_
    refine mt_gR hB 11 (by decide) (by decide) ?_
    refine mt_ldI hB 11 (by decide) rfl (fun v137 => ?_)
    refine mt_ldL hB 3 (by decide) rfl (fun v139 => ?_)
    refine mt_if (fun _ => mt_no) (fun _ => ?_)
    refine mt_if (fun _ => mt_no) (fun _ => ?_)
    refine mt_if (fun _ => ?_) (fun _ => ?_)
    · exact mm_bl_X8_sell_170_116 hKl hB
    · exact mm_bl_X8_sell_170_116 hKl hB
def gp_X8_sell_116 (N : Nat) : Nat → Int32 → Int32 → Int64 → Int64 → Int32 → mt_S → Option ((Unit) × mt_S)
  | 0, _, _, _, _, _, _ => none
  | n + 1, w1, w5, w6, w12, w14, s => gl_X8_sell_116 (gp_X8_sell_116 N n) N w1 w5 w6 w12 w14 s
theorem mm_lp_X8_sell_116 {M : Nat} {X : Nat → Prop} {H0 : ym_H} {S0 : mt_S} {N : Nat} : ∀ (n : Nat) (ad : Nat → Nat) (h : ym_H) (s : mt_S) (w1 : Int32) (w5 : Int32) (w6 : Int64) (w12 : Int64) (w14 : Int32), mt_B M X ad H0 S0 h s → mt_ok M X H0 S0 (lp_X8_sell_116 N n (some M) w1 w5 w6 w12 w14 h) (gp_X8_sell_116 N n w1 w5 w6 w12 w14 s) := by
  intro n
  induction n with
  | zero => intro ad h s w1 w5 w6 w12 w14 hB; exact mt_no
  | succ n ih =>
    intro ad h s w1 w5 w6 w12 w14 hB
    exact mm_lb_X8_sell_116 (fun w1 w5 w6 w12 w14 ad h s hB => ih ad h s w1 w5 w6 w12 w14 hB) hB
def gm_X8_sell (N : Nat) (a1 : Int32) (a2 : Int64) (s : mt_S) : Option (Int64 × mt_S) :=
  Option.bind (gm_X8_standing N a1 s) fun q2 =>
  Option.bind (gm_ldI q2.2 12 a1) fun v12 =>
  Option.bind (gm_X8_standingSum N a1 q2.2) fun q17 =>
  Option.bind (gm_X8_premiumOf N (q17.1 * a2) q17.2) fun q27 =>
  Option.bind (gm_ldI q27.2 5 a1) fun v46 =>
  Option.bind (gm_ldI q27.2 39 v46) fun v47 =>
  Option.bind (gm_X8_even N (((q17.1 * a2) + q27.1) * (Int32.toInt64 v47)) q27.2) fun q50 =>
  Option.bind (gm_ldI q50.2 8 a1) fun v62 =>
  Option.bind (gm_X8_even N ((q17.1 * a2) * (Int32.toInt64 v62)) q50.2) fun q65 =>
  Option.bind (gm_ldL q65.2 3 q2.1) fun v77 =>
  Option.bind (gm_stL q65.2 3 q2.1 (v77 - (((q17.1 * a2) + q27.1) + q50.1))) fun t87 =>
  Option.bind (gm_ldL t87 40 0) fun v94 =>
  Option.bind (gm_stL t87 40 0 (v94 + (q27.1 + q65.1))) fun t101 =>
  Option.bind (gm_ldL t101 40 1) fun v108 =>
  Option.bind (gm_stL t101 40 1 (v108 + q50.1)) fun t112 =>
  Option.bind (gp_X8_sell_116 N N a1 v12 (q17.1 * a2) q65.1 0 t112) fun q116 =>
  Option.bind (gm_stI q116.2 9 a1 2) fun t185 =>
  some ((q17.1 * a2), t185)
set_option maxRecDepth 20000 in
set_option maxHeartbeats 4000000 in
theorem mm_X8_sell {M : Nat} {X : Nat → Prop} {ad : Nat → Nat} {h : ym_H} {s : mt_S} {N : Nat} {a1 : Int32} {a2 : Int64} (hB : mt_B M X ad h s h s) : mt_ok M X h s (fn_X8_sell N (some M) a1 a2 h) (gm_X8_sell N a1 a2 s) := by
  unfold fn_X8_sell gm_X8_sell
  refine mt_ob hB (fun _ => ?_)
  refine mt_call hB (mm_X8_standing hB.start) (fun r2 ad H2 S2 hB => ?_)
  dsimp only
  refine mt_gR hB 12 (by decide) (by decide) ?_
  refine mt_ldI hB 12 (by decide) rfl (fun v12 => ?_)
  refine mt_ob hB (fun _ => ?_)
  refine mt_call hB (mm_X8_standingSum hB.start) (fun r17 ad H17 S17 hB => ?_)
  dsimp only
  refine mt_ob hB (fun _ => ?_)
  refine mt_call hB (mm_X8_premiumOf hB.start) (fun r27 ad H27 S27 hB => ?_)
  dsimp only
  refine mt_gR hB 39 (by decide) (by decide) ?_
  refine mt_gR hB 5 (by decide) (by decide) ?_
  refine mt_ldI hB 5 (by decide) rfl (fun v46 => ?_)
  refine mt_ldI hB 39 (by decide) rfl (fun v47 => ?_)
  refine mt_call hB (mm_X8_even hB.start) (fun r50 ad H50 S50 hB => ?_)
  dsimp only
  refine mt_gR hB 8 (by decide) (by decide) ?_
  refine mt_ldI hB 8 (by decide) rfl (fun v62 => ?_)
  refine mt_call hB (mm_X8_even hB.start) (fun r65 ad H65 S65 hB => ?_)
  dsimp only
  refine mt_gR hB 3 (by decide) (by decide) ?_
  refine mt_ldL hB 3 (by decide) rfl (fun v77 => ?_)
  refine mt_aL hB 3 (by decide) rfl (fun h87 t87 hB => ?_)
  refine mt_gR hB 40 (by decide) (by decide) ?_
  refine mt_ldL hB 40 (by decide) rfl (fun v94 => ?_)
  refine mt_aL hB 40 (by decide) rfl (fun h101 t101 hB => ?_)
  refine mt_gR hB 40 (by decide) (by decide) ?_
  refine mt_ldL hB 40 (by decide) rfl (fun v108 => ?_)
  refine mt_aL hB 40 (by decide) rfl (fun h112 t112 hB => ?_)
  refine mt_call hB (mm_lp_X8_sell_116 N _ _ _ _ _ _ _ _ hB.start) (fun r116 ad H116 S116 hB => ?_)
  dsimp only
  refine mt_gR hB 9 (by decide) (by decide) ?_
  refine mt_aI hB 9 (by decide) rfl (fun h185 t185 hB => ?_)
  exact mt_ret hB
def gm_X8_hammered (N : Nat) (a1 : Int32) (s : mt_S) : Option (Int64 × mt_S) :=
  Option.bind (gm_X8_noLot N a1 s) fun q2 =>
  if q2.1 ≤ 0 then
    Option.bind (gm_X8_notOpen N a1 q2.2) fun q18 =>
    if q18.1 ≤ 0 then
      Option.bind (gm_ldI q18.2 30 a1) fun v37 =>
      if v37 < 0 then
        Option.bind (gm_X8_soldOf N a1 q18.2) fun q47 =>
        if q47.1 = 0 then
          Option.bind (gm_stI q47.2 9 a1 3) fun t59 =>
          some (0, t59)
        else
          Option.bind (gm_X8_piecesOf N a1 q47.2) fun q64 =>
          Option.bind (gm_ldI q64.2 12 a1) fun v73 =>
          if v73 = 0 then
            some ((-5), q64.2)
          else
            Option.bind (gm_X8_sell N a1 q64.1 q64.2) fun q86 =>
            some (q86.1, q86.2)
      else
        some ((-8), q18.2)
    else
      Option.bind (gm_X8_notOpen N a1 q18.2) fun q26 =>
      some ((Int32.toInt64 (-q26.1)), q26.2)
  else
    Option.bind (gm_X8_noLot N a1 q2.2) fun q10 =>
    some ((Int32.toInt64 (-q10.1)), q10.2)
set_option maxRecDepth 20000 in
set_option maxHeartbeats 4000000 in
theorem mm_X8_hammered {M : Nat} {X : Nat → Prop} {ad : Nat → Nat} {h : ym_H} {s : mt_S} {N : Nat} {a1 : Int32} (hB : mt_B M X ad h s h s) : mt_ok M X h s (fn_X8_hammered N (some M) a1 h) (gm_X8_hammered N a1 s) := by
  unfold fn_X8_hammered gm_X8_hammered
  refine mt_ob hB (fun _ => ?_)
  refine mt_call hB (mm_X8_noLot hB.start) (fun r2 ad H2 S2 hB => ?_)
  dsimp only
  refine mt_if (fun _ => ?_) (fun _ => ?_)
  · refine mt_ob hB (fun _ => ?_)
    refine mt_call hB (mm_X8_notOpen hB.start) (fun r18 ad H18 S18 hB => ?_)
    dsimp only
    refine mt_if (fun _ => ?_) (fun _ => ?_)
    · refine mt_gR hB 30 (by decide) (by decide) ?_
      refine mt_ldI hB 30 (by decide) rfl (fun v37 => ?_)
      refine mt_if (fun _ => ?_) (fun _ => ?_)
      · refine mt_ob hB (fun _ => ?_)
        refine mt_call hB (mm_X8_soldOf hB.start) (fun r47 ad H47 S47 hB => ?_)
        dsimp only
        refine mt_if (fun _ => ?_) (fun _ => ?_)
        · refine mt_gR hB 9 (by decide) (by decide) ?_
          refine mt_aI hB 9 (by decide) rfl (fun h59 t59 hB => ?_)
          exact mt_ret hB
        · refine mt_ob hB (fun _ => ?_)
          refine mt_call hB (mm_X8_piecesOf hB.start) (fun r64 ad H64 S64 hB => ?_)
          dsimp only
          refine mt_gR hB 12 (by decide) (by decide) ?_
          refine mt_ldI hB 12 (by decide) rfl (fun v73 => ?_)
          refine mt_if (fun _ => ?_) (fun _ => ?_)
          · exact mt_ret hB
          · refine mt_ob hB (fun _ => ?_)
            refine mt_call hB (mm_X8_sell hB.start) (fun r86 ad H86 S86 hB => ?_)
            dsimp only
            exact mt_ret hB
      · exact mt_ret hB
    · refine mt_ob hB (fun _ => ?_)
      refine mt_call hB (mm_X8_notOpen hB.start) (fun r26 ad H26 S26 hB => ?_)
      dsimp only
      exact mt_ret hB
  · refine mt_ob hB (fun _ => ?_)
    refine mt_call hB (mm_X8_noLot hB.start) (fun r10 ad H10 S10 hB => ?_)
    dsimp only
    exact mt_ret hB
def gm_X8_joined (N : Nat) (a1 : Int32) (a2 : Int32) (a3 : Int32) (s : mt_S) : Option (Int64 × mt_S) :=
  Option.bind (gm_X8_noLot N a1 s) fun q2 =>
  if q2.1 ≤ 0 then
    Option.bind (gm_X8_noLot N a2 q2.2) fun q18 =>
    if q18.1 ≤ 0 then
      Option.bind (gm_X8_noLot N a3 q18.2) fun q34 =>
      if q34.1 ≤ 0 then
        if a1 = a2 then
          some ((-13), q34.2)
        else
          if a1 = a3 then
            some ((-13), q34.2)
          else
            if a2 = a3 then
              some ((-13), q34.2)
            else
              Option.bind (gm_X8_isPlain N a1 q34.2) fun q69 =>
              if q69.1 = 0 then
                some ((-4), q69.2)
              else
                Option.bind (gm_X8_isPlain N a2 q69.2) fun q77 =>
                if q77.1 = 0 then
                  some ((-4), q77.2)
                else
                  Option.bind (gm_X8_isPlain N a3 q77.2) fun q85 =>
                  if q85.1 = 0 then
                    some ((-4), q85.2)
                  else
                    Option.bind (gm_ldI q85.2 9 a1) fun v100 =>
                    if v100 = 0 then
                      Option.bind (gm_ldI q85.2 9 a2) fun v109 =>
                      if v109 = 0 then
                        Option.bind (gm_ldI q85.2 9 a3) fun v118 =>
                        if v118 = 0 then
                          Option.bind (gm_ldI q85.2 30 a1) fun v131 =>
                          if 0 ≤ v131 then
                            some ((-8), q85.2)
                          else
                            Option.bind (gm_ldI q85.2 30 a2) fun v140 =>
                            if 0 ≤ v140 then
                              some ((-8), q85.2)
                            else
                              Option.bind (gm_ldI q85.2 30 a3) fun v149 =>
                              if v149 < 0 then
                                Option.bind (gm_stI q85.2 30 a1 a1) fun t163 =>
                                Option.bind (gm_stI t163 30 a2 a1) fun t170 =>
                                Option.bind (gm_stI t170 30 a3 a1) fun t177 =>
                                Option.bind (gm_stI t177 31 a1 a2) fun t184 =>
                                Option.bind (gm_stI t184 32 a1 a3) fun t191 =>
                                some (1, t191)
                              else
                                some ((-8), q85.2)
                        else
                          some ((-9), q85.2)
                      else
                        some ((-9), q85.2)
                    else
                      some ((-9), q85.2)
      else
        Option.bind (gm_X8_noLot N a3 q34.2) fun q42 =>
        some ((Int32.toInt64 (-q42.1)), q42.2)
    else
      Option.bind (gm_X8_noLot N a2 q18.2) fun q26 =>
      some ((Int32.toInt64 (-q26.1)), q26.2)
  else
    Option.bind (gm_X8_noLot N a1 q2.2) fun q10 =>
    some ((Int32.toInt64 (-q10.1)), q10.2)
set_option maxRecDepth 20000 in
set_option maxHeartbeats 4000000 in
theorem mm_X8_joined {M : Nat} {X : Nat → Prop} {ad : Nat → Nat} {h : ym_H} {s : mt_S} {N : Nat} {a1 : Int32} {a2 : Int32} {a3 : Int32} (hB : mt_B M X ad h s h s) : mt_ok M X h s (fn_X8_joined N (some M) a1 a2 a3 h) (gm_X8_joined N a1 a2 a3 s) := by
  unfold fn_X8_joined gm_X8_joined
  refine mt_ob hB (fun _ => ?_)
  refine mt_call hB (mm_X8_noLot hB.start) (fun r2 ad H2 S2 hB => ?_)
  dsimp only
  refine mt_if (fun _ => ?_) (fun _ => ?_)
  · refine mt_ob hB (fun _ => ?_)
    refine mt_call hB (mm_X8_noLot hB.start) (fun r18 ad H18 S18 hB => ?_)
    dsimp only
    refine mt_if (fun _ => ?_) (fun _ => ?_)
    · refine mt_ob hB (fun _ => ?_)
      refine mt_call hB (mm_X8_noLot hB.start) (fun r34 ad H34 S34 hB => ?_)
      dsimp only
      refine mt_if (fun _ => ?_) (fun _ => ?_)
      · refine mt_if (fun _ => ?_) (fun _ => ?_)
        · exact mt_ret hB
        · refine mt_if (fun _ => ?_) (fun _ => ?_)
          · exact mt_ret hB
          · refine mt_if (fun _ => ?_) (fun _ => ?_)
            · exact mt_ret hB
            · refine mt_ob hB (fun _ => ?_)
              refine mt_call hB (mm_X8_isPlain hB.start) (fun r69 ad H69 S69 hB => ?_)
              dsimp only
              refine mt_if (fun _ => ?_) (fun _ => ?_)
              · exact mt_ret hB
              · refine mt_ob hB (fun _ => ?_)
                refine mt_call hB (mm_X8_isPlain hB.start) (fun r77 ad H77 S77 hB => ?_)
                dsimp only
                refine mt_if (fun _ => ?_) (fun _ => ?_)
                · exact mt_ret hB
                · refine mt_ob hB (fun _ => ?_)
                  refine mt_call hB (mm_X8_isPlain hB.start) (fun r85 ad H85 S85 hB => ?_)
                  dsimp only
                  refine mt_if (fun _ => ?_) (fun _ => ?_)
                  · exact mt_ret hB
                  · refine mt_gR hB 9 (by decide) (by decide) ?_
                    refine mt_ldI hB 9 (by decide) rfl (fun v100 => ?_)
                    refine mt_if (fun _ => ?_) (fun _ => ?_)
                    · refine mt_gR hB 9 (by decide) (by decide) ?_
                      refine mt_ldI hB 9 (by decide) rfl (fun v109 => ?_)
                      refine mt_if (fun _ => ?_) (fun _ => ?_)
                      · refine mt_gR hB 9 (by decide) (by decide) ?_
                        refine mt_ldI hB 9 (by decide) rfl (fun v118 => ?_)
                        refine mt_if (fun _ => ?_) (fun _ => ?_)
                        · refine mt_gR hB 30 (by decide) (by decide) ?_
                          refine mt_ldI hB 30 (by decide) rfl (fun v131 => ?_)
                          refine mt_if (fun _ => ?_) (fun _ => ?_)
                          · exact mt_ret hB
                          · refine mt_gR hB 30 (by decide) (by decide) ?_
                            refine mt_ldI hB 30 (by decide) rfl (fun v140 => ?_)
                            refine mt_if (fun _ => ?_) (fun _ => ?_)
                            · exact mt_ret hB
                            · refine mt_gR hB 30 (by decide) (by decide) ?_
                              refine mt_ldI hB 30 (by decide) rfl (fun v149 => ?_)
                              refine mt_if (fun _ => ?_) (fun _ => ?_)
                              · refine mt_gR hB 30 (by decide) (by decide) ?_
                                refine mt_aI hB 30 (by decide) rfl (fun h163 t163 hB => ?_)
                                refine mt_gR hB 30 (by decide) (by decide) ?_
                                refine mt_aI hB 30 (by decide) rfl (fun h170 t170 hB => ?_)
                                refine mt_gR hB 30 (by decide) (by decide) ?_
                                refine mt_aI hB 30 (by decide) rfl (fun h177 t177 hB => ?_)
                                refine mt_gR hB 31 (by decide) (by decide) ?_
                                refine mt_aI hB 31 (by decide) rfl (fun h184 t184 hB => ?_)
                                refine mt_gR hB 32 (by decide) (by decide) ?_
                                refine mt_aI hB 32 (by decide) rfl (fun h191 t191 hB => ?_)
                                exact mt_ret hB
                              · exact mt_ret hB
                        · exact mt_ret hB
                      · exact mt_ret hB
                    · exact mt_ret hB
      · refine mt_ob hB (fun _ => ?_)
        refine mt_call hB (mm_X8_noLot hB.start) (fun r42 ad H42 S42 hB => ?_)
        dsimp only
        exact mt_ret hB
    · refine mt_ob hB (fun _ => ?_)
      refine mt_call hB (mm_X8_noLot hB.start) (fun r26 ad H26 S26 hB => ?_)
      dsimp only
      exact mt_ret hB
  · refine mt_ob hB (fun _ => ?_)
    refine mt_call hB (mm_X8_noLot hB.start) (fun r10 ad H10 S10 hB => ?_)
    dsimp only
    exact mt_ret hB
def gm_X8_wouldBring (N : Nat) (a1 : Int32) (s : mt_S) : Option (Int64 × mt_S) :=
  Option.bind (gm_X8_soldOf N a1 s) fun q2 =>
  if q2.1 = 0 then
    some ((-1), q2.2)
  else
    Option.bind (gm_X8_standingSum N a1 q2.2) fun q10 =>
    Option.bind (gm_X8_piecesOf N a1 q10.2) fun q15 =>
    some ((q10.1 * q15.1), q15.2)
set_option maxRecDepth 20000 in
set_option maxHeartbeats 4000000 in
theorem mm_X8_wouldBring {M : Nat} {X : Nat → Prop} {ad : Nat → Nat} {h : ym_H} {s : mt_S} {N : Nat} {a1 : Int32} (hB : mt_B M X ad h s h s) : mt_ok M X h s (fn_X8_wouldBring N (some M) a1 h) (gm_X8_wouldBring N a1 s) := by
  unfold fn_X8_wouldBring gm_X8_wouldBring
  refine mt_ob hB (fun _ => ?_)
  refine mt_call hB (mm_X8_soldOf hB.start) (fun r2 ad H2 S2 hB => ?_)
  dsimp only
  refine mt_if (fun _ => ?_) (fun _ => ?_)
  · exact mt_ret hB
  · refine mt_ob hB (fun _ => ?_)
    refine mt_call hB (mm_X8_standingSum hB.start) (fun r10 ad H10 S10 hB => ?_)
    dsimp only
    refine mt_ob hB (fun _ => ?_)
    refine mt_call hB (mm_X8_piecesOf hB.start) (fun r15 ad H15 S15 hB => ?_)
    dsimp only
    exact mt_ret hB
def gb_X8_settled_358 (N : Nat) (w3 : Int32) (w12 : Int32) (w17 : Int64) (w19 : Int64) (s : mt_S) : Option (Int64 × mt_S) :=
  if w12 = 0 then
    some (w19, s)
  else
    Option.bind (gm_X8_sell N w3 w17 s) fun q369 =>
    some ((w19 + q369.1), q369.2)
set_option maxRecDepth 20000 in
set_option maxHeartbeats 4000000 in
theorem mm_bl_X8_settled_358 {M : Nat} {X : Nat → Prop} {ad : Nat → Nat} {H0 h : ym_H} {S0 s : mt_S} {N : Nat} {w3 : Int32} {w12 : Int32} {w17 : Int64} {w19 : Int64} (hB : mt_B M X ad H0 S0 h s) : mt_ok M X H0 S0 (bl_X8_settled_358 N (some M) w3 w12 w17 w19 h) (gb_X8_settled_358 N w3 w12 w17 w19 s) := by
  unfold bl_X8_settled_358 gb_X8_settled_358
  refine mt_if (fun _ => ?_) (fun _ => ?_)
  · exact mt_ret hB
  · refine mt_ob hB (fun _ => ?_)
    refine mt_call hB (mm_X8_sell hB.start) (fun r369 ad H369 S369 hB => ?_)
    dsimp only
    exact mt_ret hB
def gb_X8_settled_341 (N : Nat) (w2 : Int32) (w3 : Int32) (w11 : Int32) (w12 : Int32) (w15 : Int64) (w17 : Int64) (w19 : Int64) (s : mt_S) : Option (Int64 × mt_S) :=
  if w11 = 0 then
    gb_X8_settled_358 N w3 w12 w17 w19 s
  else
    Option.bind (gm_X8_sell N w2 w15 s) fun q352 =>
    gb_X8_settled_358 N w3 w12 w17 (w19 + q352.1) q352.2
set_option maxRecDepth 20000 in
set_option maxHeartbeats 4000000 in
theorem mm_bl_X8_settled_341 {M : Nat} {X : Nat → Prop} {ad : Nat → Nat} {H0 h : ym_H} {S0 s : mt_S} {N : Nat} {w2 : Int32} {w3 : Int32} {w11 : Int32} {w12 : Int32} {w15 : Int64} {w17 : Int64} {w19 : Int64} (hB : mt_B M X ad H0 S0 h s) : mt_ok M X H0 S0 (bl_X8_settled_341 N (some M) w2 w3 w11 w12 w15 w17 w19 h) (gb_X8_settled_341 N w2 w3 w11 w12 w15 w17 w19 s) := by
  unfold bl_X8_settled_341 gb_X8_settled_341
  refine mt_if (fun _ => ?_) (fun _ => ?_)
  · exact mm_bl_X8_settled_358 hB
  · refine mt_ob hB (fun _ => ?_)
    refine mt_call hB (mm_X8_sell hB.start) (fun r352 ad H352 S352 hB => ?_)
    dsimp only
    exact mm_bl_X8_settled_358 hB
def gb_X8_settled_300 (N : Nat) (w1 : Int32) (w2 : Int32) (w3 : Int32) (w10 : Int32) (w11 : Int32) (w12 : Int32) (w13 : Int64) (w15 : Int64) (w17 : Int64) (s : mt_S) : Option (Int64 × mt_S) :=
  Option.bind (gm_stI s 9 w1 3) fun t306 =>
  Option.bind (gm_stI t306 9 w2 3) fun t313 =>
  Option.bind (gm_stI t313 9 w3 3) fun t320 =>
  if w10 = 0 then
    gb_X8_settled_341 N w2 w3 w11 w12 w15 w17 0 t320
  else
    Option.bind (gm_X8_sell N w1 w13 t320) fun q335 =>
    gb_X8_settled_341 N w2 w3 w11 w12 w15 w17 (0 + q335.1) q335.2
set_option maxRecDepth 20000 in
set_option maxHeartbeats 4000000 in
theorem mm_bl_X8_settled_300 {M : Nat} {X : Nat → Prop} {ad : Nat → Nat} {H0 h : ym_H} {S0 s : mt_S} {N : Nat} {w1 : Int32} {w2 : Int32} {w3 : Int32} {w10 : Int32} {w11 : Int32} {w12 : Int32} {w13 : Int64} {w15 : Int64} {w17 : Int64} (hB : mt_B M X ad H0 S0 h s) : mt_ok M X H0 S0 (bl_X8_settled_300 N (some M) w1 w2 w3 w10 w11 w12 w13 w15 w17 h) (gb_X8_settled_300 N w1 w2 w3 w10 w11 w12 w13 w15 w17 s) := by
  unfold bl_X8_settled_300 gb_X8_settled_300
  refine mt_gR hB 9 (by decide) (by decide) ?_
  refine mt_aI hB 9 (by decide) rfl (fun h306 t306 hB => ?_)
  refine mt_gR hB 9 (by decide) (by decide) ?_
  refine mt_aI hB 9 (by decide) rfl (fun h313 t313 hB => ?_)
  refine mt_gR hB 9 (by decide) (by decide) ?_
  refine mt_aI hB 9 (by decide) rfl (fun h320 t320 hB => ?_)
  refine mt_if (fun _ => ?_) (fun _ => ?_)
  · exact mm_bl_X8_settled_341 hB
  · refine mt_ob hB (fun _ => ?_)
    refine mt_call hB (mm_X8_sell hB.start) (fun r335 ad H335 S335 hB => ?_)
    dsimp only
    exact mm_bl_X8_settled_341 hB
def gb_X8_settled_280 (N : Nat) (w1 : Int32) (w2 : Int32) (w3 : Int32) (w10 : Int32) (w11 : Int32) (w12 : Int32) (w13 : Int64) (w15 : Int64) (s0 : Int64) (s : mt_S) : Option (Int64 × mt_S) :=
  if w12 = 0 then
    gb_X8_settled_300 N w1 w2 w3 w10 w11 w12 w13 w15 s0 s
  else
    Option.bind (gm_ldI s 12 w3) fun v292 =>
    if v292 = 0 then
      some ((-5), s)
    else
      gb_X8_settled_300 N w1 w2 w3 w10 w11 w12 w13 w15 s0 s
set_option maxRecDepth 20000 in
set_option maxHeartbeats 4000000 in
theorem mm_bl_X8_settled_280 {M : Nat} {X : Nat → Prop} {ad : Nat → Nat} {H0 h : ym_H} {S0 s : mt_S} {N : Nat} {w1 : Int32} {w2 : Int32} {w3 : Int32} {w10 : Int32} {w11 : Int32} {w12 : Int32} {w13 : Int64} {w15 : Int64} {s0 : Int64} (hB : mt_B M X ad H0 S0 h s) : mt_ok M X H0 S0 (bl_X8_settled_280 N (some M) w1 w2 w3 w10 w11 w12 w13 w15 s0 h) (gb_X8_settled_280 N w1 w2 w3 w10 w11 w12 w13 w15 s0 s) := by
  unfold bl_X8_settled_280 gb_X8_settled_280
  refine mt_if (fun _ => ?_) (fun _ => ?_)
  · exact mm_bl_X8_settled_300 hB
  · refine mt_gR hB 12 (by decide) (by decide) ?_
    refine mt_ldI hB 12 (by decide) rfl (fun v292 => ?_)
    refine mt_if (fun _ => ?_) (fun _ => ?_)
    · exact mt_ret hB
    · exact mm_bl_X8_settled_300 hB
def gb_X8_settled_266 (N : Nat) (w1 : Int32) (w2 : Int32) (w3 : Int32) (w10 : Int32) (w11 : Int32) (w12 : Int32) (w13 : Int64) (w15 : Int64) (s : mt_S) : Option (Int64 × mt_S) :=
  if w12 = 0 then
    gb_X8_settled_280 N w1 w2 w3 w10 w11 w12 w13 w15 0 s
  else
    Option.bind (gm_X8_piecesOf N w3 s) fun q273 =>
    gb_X8_settled_280 N w1 w2 w3 w10 w11 w12 w13 w15 q273.1 q273.2
set_option maxRecDepth 20000 in
set_option maxHeartbeats 4000000 in
theorem mm_bl_X8_settled_266 {M : Nat} {X : Nat → Prop} {ad : Nat → Nat} {H0 h : ym_H} {S0 s : mt_S} {N : Nat} {w1 : Int32} {w2 : Int32} {w3 : Int32} {w10 : Int32} {w11 : Int32} {w12 : Int32} {w13 : Int64} {w15 : Int64} (hB : mt_B M X ad H0 S0 h s) : mt_ok M X H0 S0 (bl_X8_settled_266 N (some M) w1 w2 w3 w10 w11 w12 w13 w15 h) (gb_X8_settled_266 N w1 w2 w3 w10 w11 w12 w13 w15 s) := by
  unfold bl_X8_settled_266 gb_X8_settled_266
  refine mt_if (fun _ => ?_) (fun _ => ?_)
  · exact mm_bl_X8_settled_280 hB
  · refine mt_ob hB (fun _ => ?_)
    refine mt_call hB (mm_X8_piecesOf hB.start) (fun r273 ad H273 S273 hB => ?_)
    dsimp only
    exact mm_bl_X8_settled_280 hB
def gb_X8_settled_246 (N : Nat) (w1 : Int32) (w2 : Int32) (w3 : Int32) (w10 : Int32) (w11 : Int32) (w12 : Int32) (w13 : Int64) (s0 : Int64) (s : mt_S) : Option (Int64 × mt_S) :=
  if w11 = 0 then
    gb_X8_settled_266 N w1 w2 w3 w10 w11 w12 w13 s0 s
  else
    Option.bind (gm_ldI s 12 w2) fun v258 =>
    if v258 = 0 then
      some ((-5), s)
    else
      gb_X8_settled_266 N w1 w2 w3 w10 w11 w12 w13 s0 s
set_option maxRecDepth 20000 in
set_option maxHeartbeats 4000000 in
theorem mm_bl_X8_settled_246 {M : Nat} {X : Nat → Prop} {ad : Nat → Nat} {H0 h : ym_H} {S0 s : mt_S} {N : Nat} {w1 : Int32} {w2 : Int32} {w3 : Int32} {w10 : Int32} {w11 : Int32} {w12 : Int32} {w13 : Int64} {s0 : Int64} (hB : mt_B M X ad H0 S0 h s) : mt_ok M X H0 S0 (bl_X8_settled_246 N (some M) w1 w2 w3 w10 w11 w12 w13 s0 h) (gb_X8_settled_246 N w1 w2 w3 w10 w11 w12 w13 s0 s) := by
  unfold bl_X8_settled_246 gb_X8_settled_246
  refine mt_if (fun _ => ?_) (fun _ => ?_)
  · exact mm_bl_X8_settled_266 hB
  · refine mt_gR hB 12 (by decide) (by decide) ?_
    refine mt_ldI hB 12 (by decide) rfl (fun v258 => ?_)
    refine mt_if (fun _ => ?_) (fun _ => ?_)
    · exact mt_ret hB
    · exact mm_bl_X8_settled_266 hB
def gb_X8_settled_232 (N : Nat) (w1 : Int32) (w2 : Int32) (w3 : Int32) (w10 : Int32) (w11 : Int32) (w12 : Int32) (w13 : Int64) (s : mt_S) : Option (Int64 × mt_S) :=
  if w11 = 0 then
    gb_X8_settled_246 N w1 w2 w3 w10 w11 w12 w13 0 s
  else
    Option.bind (gm_X8_piecesOf N w2 s) fun q239 =>
    gb_X8_settled_246 N w1 w2 w3 w10 w11 w12 w13 q239.1 q239.2
set_option maxRecDepth 20000 in
set_option maxHeartbeats 4000000 in
theorem mm_bl_X8_settled_232 {M : Nat} {X : Nat → Prop} {ad : Nat → Nat} {H0 h : ym_H} {S0 s : mt_S} {N : Nat} {w1 : Int32} {w2 : Int32} {w3 : Int32} {w10 : Int32} {w11 : Int32} {w12 : Int32} {w13 : Int64} (hB : mt_B M X ad H0 S0 h s) : mt_ok M X H0 S0 (bl_X8_settled_232 N (some M) w1 w2 w3 w10 w11 w12 w13 h) (gb_X8_settled_232 N w1 w2 w3 w10 w11 w12 w13 s) := by
  unfold bl_X8_settled_232 gb_X8_settled_232
  refine mt_if (fun _ => ?_) (fun _ => ?_)
  · exact mm_bl_X8_settled_246 hB
  · refine mt_ob hB (fun _ => ?_)
    refine mt_call hB (mm_X8_piecesOf hB.start) (fun r239 ad H239 S239 hB => ?_)
    dsimp only
    exact mm_bl_X8_settled_246 hB
def gb_X8_settled_212 (N : Nat) (w1 : Int32) (w2 : Int32) (w3 : Int32) (w10 : Int32) (w11 : Int32) (w12 : Int32) (s0 : Int64) (s : mt_S) : Option (Int64 × mt_S) :=
  if w10 = 0 then
    gb_X8_settled_232 N w1 w2 w3 w10 w11 w12 s0 s
  else
    Option.bind (gm_ldI s 12 w1) fun v224 =>
    if v224 = 0 then
      some ((-5), s)
    else
      gb_X8_settled_232 N w1 w2 w3 w10 w11 w12 s0 s
set_option maxRecDepth 20000 in
set_option maxHeartbeats 4000000 in
theorem mm_bl_X8_settled_212 {M : Nat} {X : Nat → Prop} {ad : Nat → Nat} {H0 h : ym_H} {S0 s : mt_S} {N : Nat} {w1 : Int32} {w2 : Int32} {w3 : Int32} {w10 : Int32} {w11 : Int32} {w12 : Int32} {s0 : Int64} (hB : mt_B M X ad H0 S0 h s) : mt_ok M X H0 S0 (bl_X8_settled_212 N (some M) w1 w2 w3 w10 w11 w12 s0 h) (gb_X8_settled_212 N w1 w2 w3 w10 w11 w12 s0 s) := by
  unfold bl_X8_settled_212 gb_X8_settled_212
  refine mt_if (fun _ => ?_) (fun _ => ?_)
  · exact mm_bl_X8_settled_232 hB
  · refine mt_gR hB 12 (by decide) (by decide) ?_
    refine mt_ldI hB 12 (by decide) rfl (fun v224 => ?_)
    refine mt_if (fun _ => ?_) (fun _ => ?_)
    · exact mt_ret hB
    · exact mm_bl_X8_settled_232 hB
def gb_X8_settled_196 (N : Nat) (w1 : Int32) (w2 : Int32) (w3 : Int32) (w10 : Int32) (w11 : Int32) (s0 : Int32) (s : mt_S) : Option (Int64 × mt_S) :=
  if w10 = 0 then
    gb_X8_settled_212 N w1 w2 w3 w10 w11 s0 0 s
  else
    Option.bind (gm_X8_piecesOf N w1 s) fun q205 =>
    gb_X8_settled_212 N w1 w2 w3 w10 w11 s0 q205.1 q205.2
set_option maxRecDepth 20000 in
set_option maxHeartbeats 4000000 in
theorem mm_bl_X8_settled_196 {M : Nat} {X : Nat → Prop} {ad : Nat → Nat} {H0 h : ym_H} {S0 s : mt_S} {N : Nat} {w1 : Int32} {w2 : Int32} {w3 : Int32} {w10 : Int32} {w11 : Int32} {s0 : Int32} (hB : mt_B M X ad H0 S0 h s) : mt_ok M X H0 S0 (bl_X8_settled_196 N (some M) w1 w2 w3 w10 w11 s0 h) (gb_X8_settled_196 N w1 w2 w3 w10 w11 s0 s) := by
  unfold bl_X8_settled_196 gb_X8_settled_196
  refine mt_if (fun _ => ?_) (fun _ => ?_)
  · exact mm_bl_X8_settled_212 hB
  · refine mt_ob hB (fun _ => ?_)
    refine mt_call hB (mm_X8_piecesOf hB.start) (fun r205 ad H205 S205 hB => ?_)
    dsimp only
    exact mm_bl_X8_settled_212 hB
def gb_X8_settled_195 (N : Nat) (w1 : Int32) (w2 : Int32) (w3 : Int32) (w10 : Int32) (w11 : Int32) (s : mt_S) : Option (Int64 × mt_S) :=
  gb_X8_settled_196 N w1 w2 w3 w10 w11 0 s
set_option maxRecDepth 20000 in
set_option maxHeartbeats 4000000 in
theorem mm_bl_X8_settled_195 {M : Nat} {X : Nat → Prop} {ad : Nat → Nat} {H0 h : ym_H} {S0 s : mt_S} {N : Nat} {w1 : Int32} {w2 : Int32} {w3 : Int32} {w10 : Int32} {w11 : Int32} (hB : mt_B M X ad H0 S0 h s) : mt_ok M X H0 S0 (bl_X8_settled_195 N (some M) w1 w2 w3 w10 w11 h) (gb_X8_settled_195 N w1 w2 w3 w10 w11 s) := by
  unfold bl_X8_settled_195 gb_X8_settled_195
  exact mm_bl_X8_settled_196 hB
def gb_X8_settled_177 (N : Nat) (w1 : Int32) (w2 : Int32) (w3 : Int32) (w8 : Int64) (w10 : Int32) (s0 : Int32) (s : mt_S) : Option (Int64 × mt_S) :=
  if w10 = 0 then
    if w8 < 0 then
      gb_X8_settled_195 N w1 w2 w3 w10 s0 s
    else
      gb_X8_settled_196 N w1 w2 w3 w10 s0 1 s
  else
    gb_X8_settled_195 N w1 w2 w3 w10 s0 s
set_option maxRecDepth 20000 in
set_option maxHeartbeats 4000000 in
theorem mm_bl_X8_settled_177 {M : Nat} {X : Nat → Prop} {ad : Nat → Nat} {H0 h : ym_H} {S0 s : mt_S} {N : Nat} {w1 : Int32} {w2 : Int32} {w3 : Int32} {w8 : Int64} {w10 : Int32} {s0 : Int32} (hB : mt_B M X ad H0 S0 h s) : mt_ok M X H0 S0 (bl_X8_settled_177 N (some M) w1 w2 w3 w8 w10 s0 h) (gb_X8_settled_177 N w1 w2 w3 w8 w10 s0 s) := by
  unfold bl_X8_settled_177 gb_X8_settled_177
  refine mt_if (fun _ => ?_) (fun _ => ?_)
  · refine mt_if (fun _ => ?_) (fun _ => ?_)
    · exact mm_bl_X8_settled_195 hB
    · exact mm_bl_X8_settled_196 hB
  · exact mm_bl_X8_settled_195 hB
def gb_X8_settled_176 (N : Nat) (w1 : Int32) (w2 : Int32) (w3 : Int32) (w8 : Int64) (w10 : Int32) (s : mt_S) : Option (Int64 × mt_S) :=
  gb_X8_settled_177 N w1 w2 w3 w8 w10 0 s
set_option maxRecDepth 20000 in
set_option maxHeartbeats 4000000 in
theorem mm_bl_X8_settled_176 {M : Nat} {X : Nat → Prop} {ad : Nat → Nat} {H0 h : ym_H} {S0 s : mt_S} {N : Nat} {w1 : Int32} {w2 : Int32} {w3 : Int32} {w8 : Int64} {w10 : Int32} (hB : mt_B M X ad H0 S0 h s) : mt_ok M X H0 S0 (bl_X8_settled_176 N (some M) w1 w2 w3 w8 w10 h) (gb_X8_settled_176 N w1 w2 w3 w8 w10 s) := by
  unfold bl_X8_settled_176 gb_X8_settled_176
  exact mm_bl_X8_settled_177 hB
def gb_X8_settled_158 (N : Nat) (w1 : Int32) (w2 : Int32) (w3 : Int32) (w6 : Int64) (w8 : Int64) (s0 : Int32) (s : mt_S) : Option (Int64 × mt_S) :=
  if s0 = 0 then
    if w6 < 0 then
      gb_X8_settled_176 N w1 w2 w3 w8 s0 s
    else
      gb_X8_settled_177 N w1 w2 w3 w8 s0 1 s
  else
    gb_X8_settled_176 N w1 w2 w3 w8 s0 s
set_option maxRecDepth 20000 in
set_option maxHeartbeats 4000000 in
theorem mm_bl_X8_settled_158 {M : Nat} {X : Nat → Prop} {ad : Nat → Nat} {H0 h : ym_H} {S0 s : mt_S} {N : Nat} {w1 : Int32} {w2 : Int32} {w3 : Int32} {w6 : Int64} {w8 : Int64} {s0 : Int32} (hB : mt_B M X ad H0 S0 h s) : mt_ok M X H0 S0 (bl_X8_settled_158 N (some M) w1 w2 w3 w6 w8 s0 h) (gb_X8_settled_158 N w1 w2 w3 w6 w8 s0 s) := by
  unfold bl_X8_settled_158 gb_X8_settled_158
  refine mt_if (fun _ => ?_) (fun _ => ?_)
  · refine mt_if (fun _ => ?_) (fun _ => ?_)
    · exact mm_bl_X8_settled_176 hB
    · exact mm_bl_X8_settled_177 hB
  · exact mm_bl_X8_settled_176 hB
def gb_X8_settled_157 (N : Nat) (w1 : Int32) (w2 : Int32) (w3 : Int32) (w6 : Int64) (w8 : Int64) (s : mt_S) : Option (Int64 × mt_S) :=
  gb_X8_settled_158 N w1 w2 w3 w6 w8 0 s
set_option maxRecDepth 20000 in
set_option maxHeartbeats 4000000 in
theorem mm_bl_X8_settled_157 {M : Nat} {X : Nat → Prop} {ad : Nat → Nat} {H0 h : ym_H} {S0 s : mt_S} {N : Nat} {w1 : Int32} {w2 : Int32} {w3 : Int32} {w6 : Int64} {w8 : Int64} (hB : mt_B M X ad H0 S0 h s) : mt_ok M X H0 S0 (bl_X8_settled_157 N (some M) w1 w2 w3 w6 w8 h) (gb_X8_settled_157 N w1 w2 w3 w6 w8 s) := by
  unfold bl_X8_settled_157 gb_X8_settled_157
  exact mm_bl_X8_settled_158 hB
def gb_X8_settled_148 (N : Nat) (w1 : Int32) (w2 : Int32) (w3 : Int32) (w6 : Int64) (w8 : Int64) (s0 : Int64) (s1 : Int64) (s2 : Int64) (s : mt_S) : Option (Int64 × mt_S) :=
  if s2 ≤ (s1 + s0) then
    gb_X8_settled_157 N w1 w2 w3 w6 w8 s
  else
    gb_X8_settled_158 N w1 w2 w3 w6 w8 1 s
set_option maxRecDepth 20000 in
set_option maxHeartbeats 4000000 in
theorem mm_bl_X8_settled_148 {M : Nat} {X : Nat → Prop} {ad : Nat → Nat} {H0 h : ym_H} {S0 s : mt_S} {N : Nat} {w1 : Int32} {w2 : Int32} {w3 : Int32} {w6 : Int64} {w8 : Int64} {s0 : Int64} {s1 : Int64} {s2 : Int64} (hB : mt_B M X ad H0 S0 h s) : mt_ok M X H0 S0 (bl_X8_settled_148 N (some M) w1 w2 w3 w6 w8 s0 s1 s2 h) (gb_X8_settled_148 N w1 w2 w3 w6 w8 s0 s1 s2 s) := by
  unfold bl_X8_settled_148 gb_X8_settled_148
  refine mt_if (fun _ => ?_) (fun _ => ?_)
  · exact mm_bl_X8_settled_157 hB
  · exact mm_bl_X8_settled_158 hB
def gb_X8_settled_135 (N : Nat) (w1 : Int32) (w2 : Int32) (w3 : Int32) (w6 : Int64) (w8 : Int64) (s0 : Int64) (s1 : Int64) (s : mt_S) : Option (Int64 × mt_S) :=
  if w8 ≤ 0 then
    gb_X8_settled_148 N w1 w2 w3 w6 w8 0 s0 s1 s
  else
    gb_X8_settled_148 N w1 w2 w3 w6 w8 w8 s0 s1 s
set_option maxRecDepth 20000 in
set_option maxHeartbeats 4000000 in
theorem mm_bl_X8_settled_135 {M : Nat} {X : Nat → Prop} {ad : Nat → Nat} {H0 h : ym_H} {S0 s : mt_S} {N : Nat} {w1 : Int32} {w2 : Int32} {w3 : Int32} {w6 : Int64} {w8 : Int64} {s0 : Int64} {s1 : Int64} (hB : mt_B M X ad H0 S0 h s) : mt_ok M X H0 S0 (bl_X8_settled_135 N (some M) w1 w2 w3 w6 w8 s0 s1 h) (gb_X8_settled_135 N w1 w2 w3 w6 w8 s0 s1 s) := by
  unfold bl_X8_settled_135 gb_X8_settled_135
  refine mt_if (fun _ => ?_) (fun _ => ?_)
  · exact mm_bl_X8_settled_148 hB
  · exact mm_bl_X8_settled_148 hB
def gm_X8_settled (N : Nat) (a1 : Int32) (s : mt_S) : Option (Int64 × mt_S) :=
  Option.bind (gm_X8_noLot N a1 s) fun q2 =>
  if q2.1 ≤ 0 then
    Option.bind (gm_ldI q2.2 30 a1) fun v21 =>
    if v21 = a1 then
      Option.bind (gm_ldI q2.2 31 a1) fun v35 =>
      Option.bind (gm_ldI q2.2 32 a1) fun v42 =>
      Option.bind (gm_X8_notOpen N a1 q2.2) fun q46 =>
      if q46.1 ≤ 0 then
        Option.bind (gm_X8_notOpen N v35 q46.2) fun q62 =>
        if q62.1 ≤ 0 then
          Option.bind (gm_X8_notOpen N v42 q62.2) fun q78 =>
          if q78.1 ≤ 0 then
            Option.bind (gm_X8_wouldBring N a1 q78.2) fun q94 =>
            Option.bind (gm_X8_wouldBring N v35 q94.2) fun q101 =>
            Option.bind (gm_X8_wouldBring N v42 q101.2) fun q108 =>
            if q94.1 < 0 then
              gb_X8_settled_157 N a1 v35 v42 q101.1 q108.1 q108.2
            else
              if q101.1 ≤ 0 then
                gb_X8_settled_135 N a1 v35 v42 q101.1 q108.1 0 q94.1 q108.2
              else
                gb_X8_settled_135 N a1 v35 v42 q101.1 q108.1 q101.1 q94.1 q108.2
          else
            Option.bind (gm_X8_notOpen N v42 q78.2) fun q86 =>
            some ((Int32.toInt64 (-q86.1)), q86.2)
        else
          Option.bind (gm_X8_notOpen N v35 q62.2) fun q70 =>
          some ((Int32.toInt64 (-q70.1)), q70.2)
      else
        Option.bind (gm_X8_notOpen N a1 q46.2) fun q54 =>
        some ((Int32.toInt64 (-q54.1)), q54.2)
    else
      some ((-14), q2.2)
  else
    Option.bind (gm_X8_noLot N a1 q2.2) fun q10 =>
    some ((Int32.toInt64 (-q10.1)), q10.2)
set_option maxRecDepth 20000 in
set_option maxHeartbeats 4000000 in
theorem mm_X8_settled {M : Nat} {X : Nat → Prop} {ad : Nat → Nat} {h : ym_H} {s : mt_S} {N : Nat} {a1 : Int32} (hB : mt_B M X ad h s h s) : mt_ok M X h s (fn_X8_settled N (some M) a1 h) (gm_X8_settled N a1 s) := by
  unfold fn_X8_settled gm_X8_settled
  refine mt_ob hB (fun _ => ?_)
  refine mt_call hB (mm_X8_noLot hB.start) (fun r2 ad H2 S2 hB => ?_)
  dsimp only
  refine mt_if (fun _ => ?_) (fun _ => ?_)
  · refine mt_gR hB 30 (by decide) (by decide) ?_
    refine mt_ldI hB 30 (by decide) rfl (fun v21 => ?_)
    refine mt_if (fun _ => ?_) (fun _ => ?_)
    · refine mt_gR hB 31 (by decide) (by decide) ?_
      refine mt_ldI hB 31 (by decide) rfl (fun v35 => ?_)
      refine mt_gR hB 32 (by decide) (by decide) ?_
      refine mt_ldI hB 32 (by decide) rfl (fun v42 => ?_)
      refine mt_ob hB (fun _ => ?_)
      refine mt_call hB (mm_X8_notOpen hB.start) (fun r46 ad H46 S46 hB => ?_)
      dsimp only
      refine mt_if (fun _ => ?_) (fun _ => ?_)
      · refine mt_ob hB (fun _ => ?_)
        refine mt_call hB (mm_X8_notOpen hB.start) (fun r62 ad H62 S62 hB => ?_)
        dsimp only
        refine mt_if (fun _ => ?_) (fun _ => ?_)
        · refine mt_ob hB (fun _ => ?_)
          refine mt_call hB (mm_X8_notOpen hB.start) (fun r78 ad H78 S78 hB => ?_)
          dsimp only
          refine mt_if (fun _ => ?_) (fun _ => ?_)
          · refine mt_ob hB (fun _ => ?_)
            refine mt_call hB (mm_X8_wouldBring hB.start) (fun r94 ad H94 S94 hB => ?_)
            dsimp only
            refine mt_ob hB (fun _ => ?_)
            refine mt_call hB (mm_X8_wouldBring hB.start) (fun r101 ad H101 S101 hB => ?_)
            dsimp only
            refine mt_ob hB (fun _ => ?_)
            refine mt_call hB (mm_X8_wouldBring hB.start) (fun r108 ad H108 S108 hB => ?_)
            dsimp only
            refine mt_if (fun _ => ?_) (fun _ => ?_)
            · exact mm_bl_X8_settled_157 hB
            · refine mt_if (fun _ => ?_) (fun _ => ?_)
              · exact mm_bl_X8_settled_135 hB
              · exact mm_bl_X8_settled_135 hB
          · refine mt_ob hB (fun _ => ?_)
            refine mt_call hB (mm_X8_notOpen hB.start) (fun r86 ad H86 S86 hB => ?_)
            dsimp only
            exact mt_ret hB
        · refine mt_ob hB (fun _ => ?_)
          refine mt_call hB (mm_X8_notOpen hB.start) (fun r70 ad H70 S70 hB => ?_)
          dsimp only
          exact mt_ret hB
      · refine mt_ob hB (fun _ => ?_)
        refine mt_call hB (mm_X8_notOpen hB.start) (fun r54 ad H54 S54 hB => ?_)
        dsimp only
        exact mt_ret hB
    · exact mt_ret hB
  · refine mt_ob hB (fun _ => ?_)
    refine mt_call hB (mm_X8_noLot hB.start) (fun r10 ad H10 S10 hB => ?_)
    dsimp only
    exact mt_ret hB
