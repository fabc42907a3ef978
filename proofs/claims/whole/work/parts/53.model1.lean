def gl_X8_hasEntry_7 (Kl : Int32 → Int32 → mt_S → Option (((Unit) ⊕ Int32) × mt_S)) (N : Nat) (w2 : Int32) (w3 : Int32) (s : mt_S) : Option (((Unit) ⊕ Int32) × mt_S) :=
  if w3 < 0 then
    some ((.inl ()), s)
  else
    Option.bind (gm_ldI s 16 w3) fun v16 =>
    if v16 = w2 then
      some ((.inr 1), s)
    else
      Option.bind (gm_ldI s 18 w3) fun v28 =>
      Kl w2 v28 s
set_option maxRecDepth 20000 in
set_option maxHeartbeats 4000000 in
theorem mm_lb_X8_hasEntry_7 {M : Nat} {X : Nat → Prop} {ad : Nat → Nat} {H0 h : ym_H} {S0 s : mt_S} {K : Option Nat → Int32 → Int32 → ym_H → Option (((Unit) ⊕ Int32) × ym_H)} {Kl : Int32 → Int32 → mt_S → Option (((Unit) ⊕ Int32) × mt_S)} (hKl : ∀ (w2 : Int32) (w3 : Int32) (ad : Nat → Nat) (h : ym_H) (s : mt_S), mt_B M X ad H0 S0 h s → mt_ok M X H0 S0 (K (some M) w2 w3 h) (Kl w2 w3 s)) {N : Nat} {w2 : Int32} {w3 : Int32} (hB : mt_B M X ad H0 S0 h s) : mt_ok M X H0 S0 (lb_X8_hasEntry_7 K N (some M) w2 w3 h) (gl_X8_hasEntry_7 Kl N w2 w3 s) := by
  unfold lb_X8_hasEntry_7 gl_X8_hasEntry_7
  refine mt_if (fun _ => ?_) (fun _ => ?_)
  · exact mt_ret hB
  · refine mt_gR hB 16 (by decide) (by decide) ?_
    refine mt_ldI hB 16 (by decide) rfl (fun v16 => ?_)
    refine mt_if (fun _ => ?_) (fun _ => ?_)
    · exact mt_ret hB
    · refine mt_gR hB 18 (by decide) (by decide) ?_
      refine mt_ldI hB 18 (by decide) rfl (fun v28 => ?_)
      exact hKl _ _ _ _ _ hB
def gp_X8_hasEntry_7 (N : Nat) : Nat → Int32 → Int32 → mt_S → Option (((Unit) ⊕ Int32) × mt_S)
  | 0, _, _, _ => none
  | n + 1, w2, w3, s => gl_X8_hasEntry_7 (gp_X8_hasEntry_7 N n) N w2 w3 s
theorem mm_lp_X8_hasEntry_7 {M : Nat} {X : Nat → Prop} {H0 : ym_H} {S0 : mt_S} {N : Nat} : ∀ (n : Nat) (ad : Nat → Nat) (h : ym_H) (s : mt_S) (w2 : Int32) (w3 : Int32), mt_B M X ad H0 S0 h s → mt_ok M X H0 S0 (lp_X8_hasEntry_7 N n (some M) w2 w3 h) (gp_X8_hasEntry_7 N n w2 w3 s) := by
  intro n
  induction n with
  | zero => intro ad h s w2 w3 hB; exact mt_no
  | succ n ih =>
    intro ad h s w2 w3 hB
    exact mm_lb_X8_hasEntry_7 (fun w2 w3 ad h s hB => ih ad h s w2 w3 hB) hB
def gm_X8_hasEntry (N : Nat) (a1 : Int32) (a2 : Int32) (s : mt_S) : Option (Int32 × mt_S) :=
  Option.bind (gm_ldI s 14 a1) fun v5 =>
  Option.bind (gp_X8_hasEntry_7 N N a2 v5 s) fun q7 =>
  match q7.1 with
  | .inr y7 => some (y7, q7.2)
  | .inl z7 =>
    some (0, q7.2)
set_option maxRecDepth 20000 in
set_option maxHeartbeats 4000000 in
theorem mm_X8_hasEntry {M : Nat} {X : Nat → Prop} {ad : Nat → Nat} {h : ym_H} {s : mt_S} {N : Nat} {a1 : Int32} {a2 : Int32} (hB : mt_B M X ad h s h s) : mt_ok M X h s (fn_X8_hasEntry N (some M) a1 a2 h) (gm_X8_hasEntry N a1 a2 s) := by
  unfold fn_X8_hasEntry gm_X8_hasEntry
  refine mt_gR hB 14 (by decide) (by decide) ?_
  refine mt_ldI hB 14 (by decide) rfl (fun v5 => ?_)
  refine mt_call hB (mm_lp_X8_hasEntry_7 N _ _ _ _ _ hB.start) (fun r7 ad H7 S7 hB => ?_)
  dsimp only
  cases r7 with
  | inr y7 => exact mt_ret hB
  | inl z7 =>
    dsimp only
    exact mt_ret hB
def gm_X8_mark (N : Nat) (a1 : Int32) (s : mt_S) : Option (Unit × mt_S) :=
  if (s.1 56 0) = 0 then
    if (s.1 55 0) = (Int32.ofNat (s.2.2 54)) then
      some ((), s)
    else
      Option.bind (gm_stI s 54 (s.1 55 0) a1) fun t29 =>
      Option.bind (gm_pI t29 55 ((t29.1 55 0) + 1)) fun t37 =>
      some ((), t37)
  else
    some ((), s)
set_option maxRecDepth 20000 in
set_option maxHeartbeats 4000000 in
theorem mm_X8_mark {M : Nat} {X : Nat → Prop} {ad : Nat → Nat} {h : ym_H} {s : mt_S} {N : Nat} {a1 : Int32} (hB : mt_B M X ad h s h s) : mt_ok M X h s (fn_X8_mark N (some M) a1 h) (gm_X8_mark N a1 s) := by
  unfold fn_X8_mark gm_X8_mark
  refine mt_gI hB 56 (by decide) rfl ?_
  refine mt_if (fun _ => ?_) (fun _ => ?_)
  · refine mt_gI hB 55 (by decide) rfl ?_
    refine mt_gR hB 54 (by decide) (by decide) ?_
    refine mt_len hB 54 (by decide) (by decide) ?_
    refine mt_if (fun _ => ?_) (fun _ => ?_)
    · exact mt_ret hB
    · refine mt_gR hB 54 (by decide) (by decide) ?_
      refine mt_gI hB 55 (by decide) rfl ?_
      refine mt_aI hB 54 (by decide) rfl (fun h29 t29 hB => ?_)
      refine mt_gI hB 55 (by decide) rfl ?_
      refine mt_pI hB 55 (by decide) rfl (fun h37 t37 hB => ?_)
      exact mt_ret hB
  · exact mt_ret hB
def gb_X8_askOf_37 (N : Nat) (w1 : Int32) (s : mt_S) : Option (Int64 × mt_S) :=
  Option.bind (gm_X8_mark N 1 s) fun q39 =>
  Option.bind (gm_ldI q39.2 5 w1) fun v47 =>
  if v47 = 4 then
    Option.bind (gm_ldL q39.2 6 w1) fun v65 =>
    some (v65, q39.2)
  else
    Option.bind (gm_X8_standing N w1 q39.2) fun q54 =>
    if 0 ≤ q54.1 then
      Option.bind (gm_X8_standingSum N w1 q54.2) fun q72 =>
      Option.bind (gm_X8_after N q72.1 q72.2) fun q75 =>
      some (q75.1, q75.2)
    else
      Option.bind (gm_ldL q54.2 6 w1) fun v65 =>
      some (v65, q54.2)
set_option maxRecDepth 20000 in
set_option maxHeartbeats 4000000 in
theorem mm_bl_X8_askOf_37 {M : Nat} {X : Nat → Prop} {ad : Nat → Nat} {H0 h : ym_H} {S0 s : mt_S} {N : Nat} {w1 : Int32} (hB : mt_B M X ad H0 S0 h s) : mt_ok M X H0 S0 (bl_X8_askOf_37 N (some M) w1 h) (gb_X8_askOf_37 N w1 s) := by
  unfold bl_X8_askOf_37 gb_X8_askOf_37
  refine mt_ob hB (fun _ => ?_)
  refine mt_call hB (mm_X8_mark hB.start) (fun r39 ad H39 S39 hB => ?_)
  dsimp only
  refine mt_gR hB 5 (by decide) (by decide) ?_
  refine mt_ldI hB 5 (by decide) rfl (fun v47 => ?_)
  refine mt_if (fun _ => ?_) (fun _ => ?_)
  · refine mt_gR hB 6 (by decide) (by decide) ?_
    refine mt_ldL hB 6 (by decide) rfl (fun v65 => ?_)
    exact mt_ret hB
  · refine mt_ob hB (fun _ => ?_)
    refine mt_call hB (mm_X8_standing hB.start) (fun r54 ad H54 S54 hB => ?_)
    dsimp only
    refine mt_if (fun _ => ?_) (fun _ => ?_)
    · refine mt_ob hB (fun _ => ?_)
      refine mt_call hB (mm_X8_standingSum hB.start) (fun r72 ad H72 S72 hB => ?_)
      dsimp only
      refine mt_ob hB (fun _ => ?_)
      refine mt_call hB (mm_X8_after hB.start) (fun r75 ad H75 S75 hB => ?_)
      dsimp only
      exact mt_ret hB
    · refine mt_gR hB 6 (by decide) (by decide) ?_
      refine mt_ldL hB 6 (by decide) rfl (fun v65 => ?_)
      exact mt_ret hB
def gm_X8_askOf (N : Nat) (a1 : Int32) (s : mt_S) : Option (Int64 × mt_S) :=
  Option.bind (gm_ldI s 5 a1) fun v5 =>
  if v5 = 5 then
    Option.bind (gm_X8_mark N 3 s) fun q12 =>
    Option.bind (gm_ldL q12.2 10 a1) fun v20 =>
    some (v20, q12.2)
  else
    Option.bind (gm_ldI s 5 a1) fun v27 =>
    if v27 = 4 then
      Option.bind (gm_X8_mark N 2 s) fun q34 =>
      gb_X8_askOf_37 N a1 q34.2
    else
      gb_X8_askOf_37 N a1 s
set_option maxRecDepth 20000 in
set_option maxHeartbeats 4000000 in
theorem mm_X8_askOf {M : Nat} {X : Nat → Prop} {ad : Nat → Nat} {h : ym_H} {s : mt_S} {N : Nat} {a1 : Int32} (hB : mt_B M X ad h s h s) : mt_ok M X h s (fn_X8_askOf N (some M) a1 h) (gm_X8_askOf N a1 s) := by
  unfold fn_X8_askOf gm_X8_askOf
  refine mt_gR hB 5 (by decide) (by decide) ?_
  refine mt_ldI hB 5 (by decide) rfl (fun v5 => ?_)
  refine mt_if (fun _ => ?_) (fun _ => ?_)
  · refine mt_ob hB (fun _ => ?_)
    refine mt_call hB (mm_X8_mark hB.start) (fun r12 ad H12 S12 hB => ?_)
    dsimp only
    refine mt_gR hB 10 (by decide) (by decide) ?_
    refine mt_ldL hB 10 (by decide) rfl (fun v20 => ?_)
    exact mt_ret hB
  · refine mt_gR hB 5 (by decide) (by decide) ?_
    refine mt_ldI hB 5 (by decide) rfl (fun v27 => ?_)
    refine mt_if (fun _ => ?_) (fun _ => ?_)
    · refine mt_ob hB (fun _ => ?_)
      refine mt_call hB (mm_X8_mark hB.start) (fun r34 ad H34 S34 hB => ?_)
      dsimp only
      exact mm_bl_X8_askOf_37 hB
    · exact mm_bl_X8_askOf_37 hB
def gb_X8_piecesOf_42 (N : Nat) (w1 : Int32) (s0 : Int32) (s : mt_S) : Option (Int64 × mt_S) :=
  Option.bind (gm_X8_mark N s0 s) fun q42 =>
  Option.bind (gm_ldI q42.2 5 w1) fun v50 =>
  if v50 = 2 then
    some (2, q42.2)
  else
    Option.bind (gm_ldI q42.2 5 w1) fun v66 =>
    if v66 = 3 then
      some (12, q42.2)
    else
      some (1, q42.2)
set_option maxRecDepth 20000 in
set_option maxHeartbeats 4000000 in
theorem mm_bl_X8_piecesOf_42 {M : Nat} {X : Nat → Prop} {ad : Nat → Nat} {H0 h : ym_H} {S0 s : mt_S} {N : Nat} {w1 : Int32} {s0 : Int32} (hB : mt_B M X ad H0 S0 h s) : mt_ok M X H0 S0 (bl_X8_piecesOf_42 N (some M) w1 s0 (some M) h) (gb_X8_piecesOf_42 N w1 s0 s) := by
  unfold bl_X8_piecesOf_42 gb_X8_piecesOf_42
  refine mt_ob hB (fun _ => ?_)
  refine mt_call hB (mm_X8_mark hB.start) (fun r42 ad H42 S42 hB => ?_)
  dsimp only
  refine mt_gR hB 5 (by decide) (by decide) ?_
  refine mt_ldI hB 5 (by decide) rfl (fun v50 => ?_)
  refine mt_if (fun _ => ?_) (fun _ => ?_)
  · exact mt_ret hB
  · refine mt_gR hB 5 (by decide) (by decide) ?_
    refine mt_ldI hB 5 (by decide) rfl (fun v66 => ?_)
    refine mt_if (fun _ => ?_) (fun _ => ?_)
    · exact mt_ret hB
    · exact mt_ret hB
def gb_X8_piecesOf_37 (N : Nat) (w1 : Int32) (s : mt_S) : Option (Int64 × mt_S) :=
  gb_X8_piecesOf_42 N w1 5 s
set_option maxRecDepth 20000 in
set_option maxHeartbeats 4000000 in
theorem mm_bl_X8_piecesOf_37 {M : Nat} {X : Nat → Prop} {ad : Nat → Nat} {H0 h : ym_H} {S0 s : mt_S} {N : Nat} {w1 : Int32} (hB : mt_B M X ad H0 S0 h s) : mt_ok M X H0 S0 (bl_X8_piecesOf_37 N (some M) w1 (some M) h) (gb_X8_piecesOf_37 N w1 s) := by
  unfold bl_X8_piecesOf_37 gb_X8_piecesOf_37
  exact mm_bl_X8_piecesOf_42 hB
def gb_X8_piecesOf_16 (N : Nat) (w1 : Int32) (s : mt_S) : Option (Int64 × mt_S) :=
  Option.bind (gm_ldI s 5 w1) fun v22 =>
  if v22 = 2 then
    gb_X8_piecesOf_37 N w1 s
  else
    Option.bind (gm_ldI s 5 w1) fun v32 =>
    if v32 = 3 then
      gb_X8_piecesOf_37 N w1 s
    else
      gb_X8_piecesOf_42 N w1 4 s
set_option maxRecDepth 20000 in
set_option maxHeartbeats 4000000 in
theorem mm_bl_X8_piecesOf_16 {M : Nat} {X : Nat → Prop} {ad : Nat → Nat} {H0 h : ym_H} {S0 s : mt_S} {N : Nat} {w1 : Int32} (hB : mt_B M X ad H0 S0 h s) : mt_ok M X H0 S0 (bl_X8_piecesOf_16 N (some M) w1 h) (gb_X8_piecesOf_16 N w1 s) := by
  unfold bl_X8_piecesOf_16 gb_X8_piecesOf_16
  refine mt_gR hB 5 (by decide) (by decide) ?_
  refine mt_ldI hB 5 (by decide) rfl (fun v22 => ?_)
  refine mt_if (fun _ => ?_) (fun _ => ?_)
  · exact mm_bl_X8_piecesOf_37 hB
  · refine mt_gR hB 5 (by decide) (by decide) ?_
    refine mt_ldI hB 5 (by decide) rfl (fun v32 => ?_)
    refine mt_if (fun _ => ?_) (fun _ => ?_)
    · exact mm_bl_X8_piecesOf_37 hB
    · exact mm_bl_X8_piecesOf_42 hB
def gm_X8_piecesOf (N : Nat) (a1 : Int32) (s : mt_S) : Option (Int64 × mt_S) :=
  Option.bind (gm_ldI s 5 a1) fun v5 =>
  if v5 = 3 then
    Option.bind (gm_X8_mark N 6 s) fun q13 =>
    gb_X8_piecesOf_16 N a1 q13.2
  else
    gb_X8_piecesOf_16 N a1 s
set_option maxRecDepth 20000 in
set_option maxHeartbeats 4000000 in
theorem mm_X8_piecesOf {M : Nat} {X : Nat → Prop} {ad : Nat → Nat} {h : ym_H} {s : mt_S} {N : Nat} {a1 : Int32} (hB : mt_B M X ad h s h s) : mt_ok M X h s (fn_X8_piecesOf N (some M) a1 h) (gm_X8_piecesOf N a1 s) := by
  unfold fn_X8_piecesOf gm_X8_piecesOf
  refine mt_gR hB 5 (by decide) (by decide) ?_
  refine mt_ldI hB 5 (by decide) rfl (fun v5 => ?_)
  refine mt_if (fun _ => ?_) (fun _ => ?_)
  · refine mt_ob hB (fun _ => ?_)
    refine mt_call hB (mm_X8_mark hB.start) (fun r13 ad H13 S13 hB => ?_)
    dsimp only
    exact mm_bl_X8_piecesOf_16 hB
  · exact mm_bl_X8_piecesOf_16 hB
def gl_X8_limitOf_2 (Kl : Int32 → Int32 → Int32 → mt_S → Option (((Unit) ⊕ Int32) × mt_S)) (N : Nat) (w1 : Int32) (w2 : Int32) (w3 : Int32) (s : mt_S) : Option (((Unit) ⊕ Int32) × mt_S) :=
  Option.bind (gm_ldI s 19 w1) fun v8 =>
  if v8 ≤ w3 then
    some ((.inl ()), s)
  else
    Option.bind (gm_ldI s 20 ((40 * w1) + w3)) fun v22 =>
    if v22 = w2 then
      some ((.inr ((40 * w1) + w3)), s)
    else
      Kl w1 w2 (w3 + 1) s
set_option maxRecDepth 20000 in
set_option maxHeartbeats 4000000 in
theorem mm_lb_X8_limitOf_2 {M : Nat} {X : Nat → Prop} {ad : Nat → Nat} {H0 h : ym_H} {S0 s : mt_S} {K : Option Nat → Int32 → Int32 → Int32 → ym_H → Option (((Unit) ⊕ Int32) × ym_H)} {Kl : Int32 → Int32 → Int32 → mt_S → Option (((Unit) ⊕ Int32) × mt_S)} (hKl : ∀ (w1 : Int32) (w2 : Int32) (w3 : Int32) (ad : Nat → Nat) (h : ym_H) (s : mt_S), mt_B M X ad H0 S0 h s → mt_ok M X H0 S0 (K (some M) w1 w2 w3 h) (Kl w1 w2 w3 s)) {N : Nat} {w1 : Int32} {w2 : Int32} {w3 : Int32} (hB : mt_B M X ad H0 S0 h s) : mt_ok M X H0 S0 (lb_X8_limitOf_2 K N (some M) w1 w2 w3 h) (gl_X8_limitOf_2 Kl N w1 w2 w3 s) := by
  unfold lb_X8_limitOf_2 gl_X8_limitOf_2
  refine mt_gR hB 19 (by decide) (by decide) ?_
  refine mt_ldI hB 19 (by decide) rfl (fun v8 => ?_)
  refine mt_if (fun _ => ?_) (fun _ => ?_)
  · exact mt_ret hB
  · refine mt_gR hB 20 (by decide) (by decide) ?_
    refine mt_ldI hB 20 (by decide) rfl (fun v22 => ?_)
    refine mt_if (fun _ => ?_) (fun _ => ?_)
    · exact mt_ret hB
    · exact hKl _ _ _ _ _ _ hB
def gp_X8_limitOf_2 (N : Nat) : Nat → Int32 → Int32 → Int32 → mt_S → Option (((Unit) ⊕ Int32) × mt_S)
  | 0, _, _, _, _ => none
  | n + 1, w1, w2, w3, s => gl_X8_limitOf_2 (gp_X8_limitOf_2 N n) N w1 w2 w3 s
theorem mm_lp_X8_limitOf_2 {M : Nat} {X : Nat → Prop} {H0 : ym_H} {S0 : mt_S} {N : Nat} : ∀ (n : Nat) (ad : Nat → Nat) (h : ym_H) (s : mt_S) (w1 : Int32) (w2 : Int32) (w3 : Int32), mt_B M X ad H0 S0 h s → mt_ok M X H0 S0 (lp_X8_limitOf_2 N n (some M) w1 w2 w3 h) (gp_X8_limitOf_2 N n w1 w2 w3 s) := by
  intro n
  induction n with
  | zero => intro ad h s w1 w2 w3 hB; exact mt_no
  | succ n ih =>
    intro ad h s w1 w2 w3 hB
    exact mm_lb_X8_limitOf_2 (fun w1 w2 w3 ad h s hB => ih ad h s w1 w2 w3 hB) hB
def gm_X8_limitOf (N : Nat) (a1 : Int32) (a2 : Int32) (s : mt_S) : Option (Int32 × mt_S) :=
  Option.bind (gp_X8_limitOf_2 N N a1 a2 0 s) fun q2 =>
  match q2.1 with
  | .inr y2 => some (y2, q2.2)
  | .inl z2 =>
    some ((-1), q2.2)
set_option maxRecDepth 20000 in
set_option maxHeartbeats 4000000 in
theorem mm_X8_limitOf {M : Nat} {X : Nat → Prop} {ad : Nat → Nat} {h : ym_H} {s : mt_S} {N : Nat} {a1 : Int32} {a2 : Int32} (hB : mt_B M X ad h s h s) : mt_ok M X h s (fn_X8_limitOf N (some M) a1 a2 h) (gm_X8_limitOf N a1 a2 s) := by
  unfold fn_X8_limitOf gm_X8_limitOf
  refine mt_call hB (mm_lp_X8_limitOf_2 N _ _ _ _ _ _ hB.start) (fun r2 ad H2 S2 hB => ?_)
  dsimp only
  cases r2 with
  | inr y2 => exact mt_ret hB
  | inl z2 =>
    dsimp only
    exact mt_ret hB
def gb_X8_mayAgent_69_12 (Kl : Int32 → Int64 → Int32 → mt_S → Option ((Int64) × mt_S)) (N : Nat) (w1 : Int32) (w5 : Int64) (w7 : Int32) (s : mt_S) : Option ((Int64) × mt_S) :=
  Kl w1 w5 (w7 + 1) s
set_option maxRecDepth 20000 in
set_option maxHeartbeats 4000000 in
theorem mm_bl_X8_mayAgent_69_12 {M : Nat} {X : Nat → Prop} {ad : Nat → Nat} {H0 h : ym_H} {S0 s : mt_S} {K : Option Nat → Int32 → Int64 → Int32 → ym_H → Option ((Int64) × ym_H)} {Kl : Int32 → Int64 → Int32 → mt_S → Option ((Int64) × mt_S)} (hKl : ∀ (w1 : Int32) (w5 : Int64) (w7 : Int32) (ad : Nat → Nat) (h : ym_H) (s : mt_S), mt_B M X ad H0 S0 h s → mt_ok M X H0 S0 (K (some M) w1 w5 w7 h) (Kl w1 w5 w7 s)) {N : Nat} {w1 : Int32} {w5 : Int64} {w7 : Int32} (hB : mt_B M X ad H0 S0 h s) : mt_ok M X H0 S0 (bl_X8_mayAgent_69_12 K N (some M) w1 w5 w7 h) (gb_X8_mayAgent_69_12 Kl N w1 w5 w7 s) := by
  unfold bl_X8_mayAgent_69_12 gb_X8_mayAgent_69_12
  exact hKl _ _ _ _ _ _ hB
def gb_X8_mayAgent_43_12 (Kl : Int32 → Int64 → Int32 → mt_S → Option ((Int64) × mt_S)) (N : Nat) (w1 : Int32) (w5 : Int64) (w7 : Int32) (s0 : Int32) (s : mt_S) : Option ((Int64) × mt_S) :=
  if s0 < 0 then
    gb_X8_mayAgent_69_12 Kl N w1 w5 w7 s
  else
    Option.bind (gm_ldL s 21 s0) fun v58 =>
    Option.bind (gm_X8_piecesOf N w7 s) fun q62 =>
    gb_X8_mayAgent_69_12 Kl N w1 (w5 + (v58 * q62.1)) w7 q62.2
set_option maxRecDepth 20000 in
set_option maxHeartbeats 4000000 in
theorem mm_bl_X8_mayAgent_43_12 {M : Nat} {X : Nat → Prop} {ad : Nat → Nat} {H0 h : ym_H} {S0 s : mt_S} {K : Option Nat → Int32 → Int64 → Int32 → ym_H → Option ((Int64) × ym_H)} {Kl : Int32 → Int64 → Int32 → mt_S → Option ((Int64) × mt_S)} (hKl : ∀ (w1 : Int32) (w5 : Int64) (w7 : Int32) (ad : Nat → Nat) (h : ym_H) (s : mt_S), mt_B M X ad H0 S0 h s → mt_ok M X H0 S0 (K (some M) w1 w5 w7 h) (Kl w1 w5 w7 s)) {N : Nat} {w1 : Int32} {w5 : Int64} {w7 : Int32} {s0 : Int32} (hB : mt_B M X ad H0 S0 h s) : mt_ok M X H0 S0 (bl_X8_mayAgent_43_12 K N (some M) w1 w5 w7 s0 h) (gb_X8_mayAgent_43_12 Kl N w1 w5 w7 s0 s) := by
  unfold bl_X8_mayAgent_43_12 gb_X8_mayAgent_43_12
  refine mt_if (fun _ => ?_) (fun _ => ?_)
  · exact mm_bl_X8_mayAgent_69_12 hKl hB
  · refine mt_gR hB 21 (by decide) (by decide) ?_
    refine mt_ldL hB 21 (by decide) rfl (fun v58 => ?_)
    refine mt_ob hB (fun _ => ?_)
    refine mt_call hB (mm_X8_piecesOf hB.start) (fun r62 ad H62 S62 hB => ?_)
    dsimp only
    exact mm_bl_X8_mayAgent_69_12 hKl hB
def gl_X8_mayAgent_12 (Kl : Int32 → Int64 → Int32 → mt_S → Option ((Int64) × mt_S)) (N : Nat) (w1 : Int32) (w5 : Int64) (w7 : Int32) (s : mt_S) : Option ((Int64) × mt_S) :=
  if (s.1 4 0) ≤ w7 then
    some (w5, s)
  else
    Option.bind (gm_ldI s 9 w7) fun v27 =>
    if v27 ≤ 1 then
      Option.bind (gm_X8_limitOf N w7 w1 s) fun q40 =>
      gb_X8_mayAgent_43_12 Kl N w1 w5 w7 q40.1 q40.2
    else
      gb_X8_mayAgent_43_12 Kl N w1 w5 w7 (-1) s
set_option maxRecDepth 20000 in
set_option maxHeartbeats 4000000 in
theorem mm_lb_X8_mayAgent_12 {M : Nat} {X : Nat → Prop} {ad : Nat → Nat} {H0 h : ym_H} {S0 s : mt_S} {K : Option Nat → Int32 → Int64 → Int32 → ym_H → Option ((Int64) × ym_H)} {Kl : Int32 → Int64 → Int32 → mt_S → Option ((Int64) × mt_S)} (hKl : ∀ (w1 : Int32) (w5 : Int64) (w7 : Int32) (ad : Nat → Nat) (h : ym_H) (s : mt_S), mt_B M X ad H0 S0 h s → mt_ok M X H0 S0 (K (some M) w1 w5 w7 h) (Kl w1 w5 w7 s)) {N : Nat} {w1 : Int32} {w5 : Int64} {w7 : Int32} (hB : mt_B M X ad H0 S0 h s) : mt_ok M X H0 S0 (lb_X8_mayAgent_12 K N (some M) w1 w5 w7 h) (gl_X8_mayAgent_12 Kl N w1 w5 w7 s) := by
  unfold lb_X8_mayAgent_12 gl_X8_mayAgent_12
  refine mt_gI hB 4 (by decide) rfl ?_
  refine mt_if (fun _ => ?_) (fun _ => ?_)
  · exact mt_ret hB
  · refine mt_gR hB 9 (by decide) (by decide) ?_
    refine mt_ldI hB 9 (by decide) rfl (fun v27 => ?_)
    refine mt_if (fun _ => ?_) (fun _ => ?_)
    · refine mt_ob hB (fun _ => ?_)
      refine mt_call hB (mm_X8_limitOf hB.start) (fun r40 ad H40 S40 hB => ?_)
      dsimp only
      exact mm_bl_X8_mayAgent_43_12 hKl hB
    · exact mm_bl_X8_mayAgent_43_12 hKl hB
def gp_X8_mayAgent_12 (N : Nat) : Nat → Int32 → Int64 → Int32 → mt_S → Option ((Int64) × mt_S)
  | 0, _, _, _, _ => none
  | n + 1, w1, w5, w7, s => gl_X8_mayAgent_12 (gp_X8_mayAgent_12 N n) N w1 w5 w7 s
theorem mm_lp_X8_mayAgent_12 {M : Nat} {X : Nat → Prop} {H0 : ym_H} {S0 : mt_S} {N : Nat} : ∀ (n : Nat) (ad : Nat → Nat) (h : ym_H) (s : mt_S) (w1 : Int32) (w5 : Int64) (w7 : Int32), mt_B M X ad H0 S0 h s → mt_ok M X H0 S0 (lp_X8_mayAgent_12 N n (some M) w1 w5 w7 h) (gp_X8_mayAgent_12 N n w1 w5 w7 s) := by
  intro n
  induction n with
  | zero => intro ad h s w1 w5 w7 hB; exact mt_no
  | succ n ih =>
    intro ad h s w1 w5 w7 hB
    exact mm_lb_X8_mayAgent_12 (fun w1 w5 w7 ad h s hB => ih ad h s w1 w5 w7 hB) hB
def gm_X8_mayAgent (N : Nat) (a1 : Int32) (a2 : Int32) (a3 : Int64) (s : mt_S) : Option (Int32 × mt_S) :=
  Option.bind (gm_X8_piecesOf N a2 s) fun q3 =>
  Option.bind (gp_X8_mayAgent_12 N N a1 (a3 * q3.1) 0 q3.2) fun q12 =>
  Option.bind (gm_ldL q12.2 2 a1) fun v82 =>
  if v82 < q12.1 then
    some (0, q12.2)
  else
    some (1, q12.2)
set_option maxRecDepth 20000 in
set_option maxHeartbeats 4000000 in
theorem mm_X8_mayAgent {M : Nat} {X : Nat → Prop} {ad : Nat → Nat} {h : ym_H} {s : mt_S} {N : Nat} {a1 : Int32} {a2 : Int32} {a3 : Int64} (hB : mt_B M X ad h s h s) : mt_ok M X h s (fn_X8_mayAgent N (some M) a1 a2 a3 h) (gm_X8_mayAgent N a1 a2 a3 s) := by
  unfold fn_X8_mayAgent gm_X8_mayAgent
  refine mt_ob hB (fun _ => ?_)
  refine mt_call hB (mm_X8_piecesOf hB.start) (fun r3 ad H3 S3 hB => ?_)
  dsimp only
  refine mt_call hB (mm_lp_X8_mayAgent_12 N _ _ _ _ _ _ hB.start) (fun r12 ad H12 S12 hB => ?_)
  dsimp only
  refine mt_gR hB 2 (by decide) (by decide) ?_
  refine mt_ldL hB 2 (by decide) rfl (fun v82 => ?_)
  refine mt_if (fun _ => ?_) (fun _ => ?_)
  · exact mt_ret hB
  · exact mt_ret hB
def gm_X8_may (N : Nat) (a1 : Int32) (a2 : Int32) (a3 : Int64) (s : mt_S) : Option (Int32 × mt_S) :=
  Option.bind (gm_ldI s 1 a1) fun v5 =>
  if v5 = 1 then
    Option.bind (gm_X8_mark N 7 s) fun q39 =>
    some (1, q39.2)
  else
    if v5 = 2 then
      Option.bind (gm_X8_mark N 9 s) fun q70 =>
      some (1, q70.2)
    else
      if v5 = 3 then
        Option.bind (gm_X8_mark N 10 s) fun q78 =>
        Option.bind (gm_X8_mark N 9 q78.2) fun q84 =>
        Option.bind (gm_X8_mayAgent N a1 a2 a3 q84.2) fun q91 =>
        if q91.1 = 0 ∨ q91.1 = 1 then some (q91.1, q91.2) else none
      else
        if v5 = 4 then
          Option.bind (gm_X8_mark N 8 s) fun q47 =>
          Option.bind (gm_ldL q47.2 7 a2) fun v56 =>
          if v56 ≤ a3 then
            some (0, q47.2)
          else
            some (1, q47.2)
        else
          Option.bind (gm_X8_mark N 10 s) fun q78 =>
          Option.bind (gm_X8_mark N 9 q78.2) fun q84 =>
          Option.bind (gm_X8_mayAgent N a1 a2 a3 q84.2) fun q91 =>
          if q91.1 = 0 ∨ q91.1 = 1 then some (q91.1, q91.2) else none
set_option maxRecDepth 20000 in
set_option maxHeartbeats 4000000 in
theorem mm_X8_may {M : Nat} {X : Nat → Prop} {ad : Nat → Nat} {h : ym_H} {s : mt_S} {N : Nat} {a1 : Int32} {a2 : Int32} {a3 : Int64} (hB : mt_B M X ad h s h s) : mt_ok M X h s (fn_X8_may N (some M) a1 a2 a3 h) (gm_X8_may N a1 a2 a3 s) := by
  unfold fn_X8_may gm_X8_may
  refine mt_gR hB 1 (by decide) (by decide) ?_
  refine mt_ldI hB 1 (by decide) rfl (fun v5 => ?_)
  refine mt_if (fun _ => ?_) (fun _ => ?_)
  · refine mt_ob hB (fun _ => ?_)
    refine mt_call hB (mm_X8_mark hB.start) (fun r39 ad H39 S39 hB => ?_)
    dsimp only
    exact mt_ret hB
  · refine mt_if (fun _ => ?_) (fun _ => ?_)
    · refine mt_ob hB (fun _ => ?_)
      refine mt_call hB (mm_X8_mark hB.start) (fun r70 ad H70 S70 hB => ?_)
      dsimp only
      exact mt_ret hB
    · refine mt_if (fun _ => ?_) (fun _ => ?_)
      · refine mt_ob hB (fun _ => ?_)
        refine mt_call hB (mm_X8_mark hB.start) (fun r78 ad H78 S78 hB => ?_)
        dsimp only
        refine mt_ob hB (fun _ => ?_)
        refine mt_call hB (mm_X8_mark hB.start) (fun r84 ad H84 S84 hB => ?_)
        dsimp only
        refine mt_ob hB (fun _ => ?_)
        refine mt_call hB (mm_X8_mayAgent hB.start) (fun r91 ad H91 S91 hB => ?_)
        dsimp only
        exact mt_if (fun _ => mt_ret hB) (fun _ => mt_no)
      · refine mt_if (fun _ => ?_) (fun _ => ?_)
        · refine mt_ob hB (fun _ => ?_)
          refine mt_call hB (mm_X8_mark hB.start) (fun r47 ad H47 S47 hB => ?_)
          dsimp only
          refine mt_gR hB 7 (by decide) (by decide) ?_
          refine mt_ldL hB 7 (by decide) rfl (fun v56 => ?_)
          refine mt_if (fun _ => ?_) (fun _ => ?_)
          · exact mt_ret hB
          · exact mt_ret hB
        · refine mt_ob hB (fun _ => ?_)
          refine mt_call hB (mm_X8_mark hB.start) (fun r78 ad H78 S78 hB => ?_)
          dsimp only
          refine mt_ob hB (fun _ => ?_)
          refine mt_call hB (mm_X8_mark hB.start) (fun r84 ad H84 S84 hB => ?_)
          dsimp only
          refine mt_ob hB (fun _ => ?_)
          refine mt_call hB (mm_X8_mayAgent hB.start) (fun r91 ad H91 S91 hB => ?_)
          dsimp only
          exact mt_if (fun _ => mt_ret hB) (fun _ => mt_no)
def gm_X8_number (N : Nat)  (s : mt_S) : Option (Int32 × mt_S) :=
  if (s.1 56 0) = 0 then
    Option.bind (gm_pI s 51 ((s.1 51 0) + 1)) fun t19 =>
    Option.bind (gm_pI t19 57 (t19.1 51 0)) fun t27 =>
    some ((t27.1 57 0), t27)
  else
    some ((s.1 57 0), s)
set_option maxRecDepth 20000 in
set_option maxHeartbeats 4000000 in
theorem mm_X8_number {M : Nat} {X : Nat → Prop} {ad : Nat → Nat} {h : ym_H} {s : mt_S} {N : Nat}  (hB : mt_B M X ad h s h s) : mt_ok M X h s (fn_X8_number N (some M) h) (gm_X8_number N  s) := by
  unfold fn_X8_number gm_X8_number
  refine mt_gI hB 56 (by decide) rfl ?_
  refine mt_if (fun _ => ?_) (fun _ => ?_)
  · refine mt_gI hB 51 (by decide) rfl ?_
    refine mt_pI hB 51 (by decide) rfl (fun h19 t19 hB => ?_)
    refine mt_gI hB 51 (by decide) rfl ?_
    refine mt_pI hB 57 (by decide) rfl (fun h27 t27 hB => ?_)
    refine mt_gI hB 57 (by decide) rfl ?_
    exact mt_ret hB
  · refine mt_gI hB 57 (by decide) rfl ?_
    exact mt_ret hB
def gb_X8_bidden_155 (N : Nat) (w1 : Int32) (w2 : Int32) (w3 : Int64) (s : mt_S) : Option (Int64 × mt_S) :=
  Option.bind (gm_X8_askOf N w1 s) fun q158 =>
  if q158.1 ≤ w3 then
    Option.bind (gm_X8_may N w2 w1 w3 q158.2) fun q173 =>
    if q173.1 = 0 then
      some ((-11), q173.2)
    else
      Option.bind (gm_ldI q173.2 13 w1) fun v188 =>
      if v188 < 299 then
        Option.bind (gm_X8_number N  q173.2) fun q200 =>
        Option.bind (gm_X8_enter N w1 w2 w3 q200.2) fun q209 =>
        Option.bind (gm_stI q209.2 23 w1 q200.1) fun t219 =>
        Option.bind (gm_stL t219 24 w1 w3) fun t226 =>
        Option.bind (gm_X8_askPapers N w1 t226) fun q229 =>
        some ((Int32.toInt64 q200.1), q229.2)
      else
        some ((-12), q173.2)
  else
    some ((-10), q158.2)
set_option maxRecDepth 20000 in
set_option maxHeartbeats 4000000 in
theorem mm_bl_X8_bidden_155 {M : Nat} {X : Nat → Prop} {ad : Nat → Nat} {H0 h : ym_H} {S0 s : mt_S} {N : Nat} {w1 : Int32} {w2 : Int32} {w3 : Int64} (hB : mt_B M X ad H0 S0 h s) : mt_ok M X H0 S0 (bl_X8_bidden_155 N (some M) w1 w2 w3 h) (gb_X8_bidden_155 N w1 w2 w3 s) := by
  unfold bl_X8_bidden_155 gb_X8_bidden_155
  refine mt_ob hB (fun _ => ?_)
  refine mt_call hB (mm_X8_askOf hB.start) (fun r158 ad H158 S158 hB => ?_)
  dsimp only
  refine mt_if (fun _ => ?_) (fun _ => ?_)
  · refine mt_ob hB (fun _ => ?_)
    refine mt_call hB (mm_X8_may hB.start) (fun r173 ad H173 S173 hB => ?_)
    dsimp only
    refine mt_if (fun _ => ?_) (fun _ => ?_)
    · exact mt_ret hB
    · refine mt_gR hB 13 (by decide) (by decide) ?_
      refine mt_ldI hB 13 (by decide) rfl (fun v188 => ?_)
      refine mt_if (fun _ => ?_) (fun _ => ?_)
      · refine mt_ob hB (fun _ => ?_)
        refine mt_call hB (mm_X8_number hB.start) (fun r200 ad H200 S200 hB => ?_)
        dsimp only
        refine mt_ob hB (fun _ => ?_)
        refine mt_call hB (mm_X8_enter hB.start) (fun r209 ad H209 S209 hB => ?_)
        dsimp only
        refine mt_gR hB 23 (by decide) (by decide) ?_
        refine mt_aI hB 23 (by decide) rfl (fun h219 t219 hB => ?_)
        refine mt_gR hB 24 (by decide) (by decide) ?_
        refine mt_aL hB 24 (by decide) rfl (fun h226 t226 hB => ?_)
        refine mt_ob hB (fun _ => ?_)
        refine mt_call hB (mm_X8_askPapers hB.start) (fun r229 ad H229 S229 hB => ?_)
        dsimp only
        exact mt_ret hB
      · exact mt_ret hB
  · exact mt_ret hB
def gb_X8_bidden_120 (N : Nat) (w1 : Int32) (w2 : Int32) (w3 : Int64) (s : mt_S) : Option (Int64 × mt_S) :=
  Option.bind (gm_ldI s 5 w1) fun v125 =>
  if v125 = 4 then
    Option.bind (gm_X8_hasEntry N w1 w2 s) fun q133 =>
    if q133.1 = 0 then
      gb_X8_bidden_155 N w1 w2 w3 q133.2
    else
      some ((-13), q133.2)
  else
    Option.bind (gm_X8_standing N w1 s) fun q144 =>
    if q144.1 = w2 then
      some ((-13), q144.2)
    else
      gb_X8_bidden_155 N w1 w2 w3 q144.2
set_option maxRecDepth 20000 in
set_option maxHeartbeats 4000000 in
theorem mm_bl_X8_bidden_120 {M : Nat} {X : Nat → Prop} {ad : Nat → Nat} {H0 h : ym_H} {S0 s : mt_S} {N : Nat} {w1 : Int32} {w2 : Int32} {w3 : Int64} (hB : mt_B M X ad H0 S0 h s) : mt_ok M X H0 S0 (bl_X8_bidden_120 N (some M) w1 w2 w3 h) (gb_X8_bidden_120 N w1 w2 w3 s) := by
  unfold bl_X8_bidden_120 gb_X8_bidden_120
  refine mt_gR hB 5 (by decide) (by decide) ?_
  refine mt_ldI hB 5 (by decide) rfl (fun v125 => ?_)
  refine mt_if (fun _ => ?_) (fun _ => ?_)
  · refine mt_ob hB (fun _ => ?_)
    refine mt_call hB (mm_X8_hasEntry hB.start) (fun r133 ad H133 S133 hB => ?_)
    dsimp only
    refine mt_if (fun _ => ?_) (fun _ => ?_)
    · exact mm_bl_X8_bidden_155 hB
    · exact mt_ret hB
  · refine mt_ob hB (fun _ => ?_)
    refine mt_call hB (mm_X8_standing hB.start) (fun r144 ad H144 S144 hB => ?_)
    dsimp only
    refine mt_if (fun _ => ?_) (fun _ => ?_)
    · exact mt_ret hB
    · exact mm_bl_X8_bidden_155 hB
def gm_X8_bidden (N : Nat) (a1 : Int32) (a2 : Int32) (a3 : Int64) (s : mt_S) : Option (Int64 × mt_S) :=
  Option.bind (gm_X8_isSum N a3 s) fun q1 =>
  if q1.1 = 0 then
    some ((-1), q1.2)
  else
    Option.bind (gm_X8_noLot N a1 q1.2) fun q13 =>
    if q13.1 ≤ 0 then
      Option.bind (gm_ldI q13.2 5 a1) fun v32 =>
      if v32 = 5 then
        some ((-4), q13.2)
      else
        Option.bind (gm_X8_noBidder N a2 q13.2) fun q43 =>
        if q43.1 ≤ 0 then
          Option.bind (gm_ldI q43.2 1 a2) fun v62 =>
          if v62 = 2 then
            some ((-4), q43.2)
          else
            Option.bind (gm_ldI q43.2 1 a2) fun v72 =>
            if v72 = 3 then
              some ((-4), q43.2)
            else
              Option.bind (gm_X8_notOpen N a1 q43.2) fun q83 =>
              if q83.1 ≤ 0 then
                Option.bind (gm_ldI q83.2 5 a1) fun v102 =>
                if v102 = 4 then
                  Option.bind (gm_ldI q83.2 25 a1) fun v112 =>
                  if v112 = 0 then
                    gb_X8_bidden_120 N a1 a2 a3 q83.2
                  else
                    some ((-8), q83.2)
                else
                  gb_X8_bidden_120 N a1 a2 a3 q83.2
              else
                Option.bind (gm_X8_notOpen N a1 q83.2) fun q91 =>
                some ((Int32.toInt64 (-q91.1)), q91.2)
        else
          Option.bind (gm_X8_noBidder N a2 q43.2) fun q51 =>
          some ((Int32.toInt64 (-q51.1)), q51.2)
    else
      Option.bind (gm_X8_noLot N a1 q13.2) fun q21 =>
      some ((Int32.toInt64 (-q21.1)), q21.2)
set_option maxRecDepth 20000 in
set_option maxHeartbeats 4000000 in
theorem mm_X8_bidden {M : Nat} {X : Nat → Prop} {ad : Nat → Nat} {h : ym_H} {s : mt_S} {N : Nat} {a1 : Int32} {a2 : Int32} {a3 : Int64} (hB : mt_B M X ad h s h s) : mt_ok M X h s (fn_X8_bidden N (some M) a1 a2 a3 h) (gm_X8_bidden N a1 a2 a3 s) := by
  unfold fn_X8_bidden gm_X8_bidden
  refine mt_call hB (mm_X8_isSum hB.start) (fun r1 ad H1 S1 hB => ?_)
  dsimp only
  refine mt_if (fun _ => ?_) (fun _ => ?_)
  · exact mt_ret hB
  · refine mt_ob hB (fun _ => ?_)
    refine mt_call hB (mm_X8_noLot hB.start) (fun r13 ad H13 S13 hB => ?_)
    dsimp only
    refine mt_if (fun _ => ?_) (fun _ => ?_)
    · refine mt_gR hB 5 (by decide) (by decide) ?_
      refine mt_ldI hB 5 (by decide) rfl (fun v32 => ?_)
      refine mt_if (fun _ => ?_) (fun _ => ?_)
      · exact mt_ret hB
      · refine mt_ob hB (fun _ => ?_)
        refine mt_call hB (mm_X8_noBidder hB.start) (fun r43 ad H43 S43 hB => ?_)
        dsimp only
        refine mt_if (fun _ => ?_) (fun _ => ?_)
        · refine mt_gR hB 1 (by decide) (by decide) ?_
          refine mt_ldI hB 1 (by decide) rfl (fun v62 => ?_)
          refine mt_if (fun _ => ?_) (fun _ => ?_)
          · exact mt_ret hB
          · refine mt_gR hB 1 (by decide) (by decide) ?_
            refine mt_ldI hB 1 (by decide) rfl (fun v72 => ?_)
            refine mt_if (fun _ => ?_) (fun _ => ?_)
            · exact mt_ret hB
            · refine mt_ob hB (fun _ => ?_)
              refine mt_call hB (mm_X8_notOpen hB.start) (fun r83 ad H83 S83 hB => ?_)
              dsimp only
              refine mt_if (fun _ => ?_) (fun _ => ?_)
              · refine mt_gR hB 5 (by decide) (by decide) ?_
                refine mt_ldI hB 5 (by decide) rfl (fun v102 => ?_)
                refine mt_if (fun _ => ?_) (fun _ => ?_)
                · refine mt_gR hB 25 (by decide) (by decide) ?_
                  refine mt_ldZ hB 25 (by decide) rfl (fun v112 => ?_)
                  refine mt_if (fun _ => ?_) (fun _ => ?_)
                  · exact mm_bl_X8_bidden_120 hB
                  · exact mt_ret hB
                · exact mm_bl_X8_bidden_120 hB
              · refine mt_ob hB (fun _ => ?_)
                refine mt_call hB (mm_X8_notOpen hB.start) (fun r91 ad H91 S91 hB => ?_)
                dsimp only
                exact mt_ret hB
        · refine mt_ob hB (fun _ => ?_)
          refine mt_call hB (mm_X8_noBidder hB.start) (fun r51 ad H51 S51 hB => ?_)
          dsimp only
          exact mt_ret hB
    · refine mt_ob hB (fun _ => ?_)
      refine mt_call hB (mm_X8_noLot hB.start) (fun r21 ad H21 S21 hB => ?_)
      dsimp only
      exact mt_ret hB
def gb_X8_written_79 (N : Nat) (w1 : Int32) (w2 : Int32) (w3 : Int64) (s : mt_S) : Option (Int64 × mt_S) :=
  Option.bind (gm_ldI s 9 w1) fun v84 =>
  if v84 ≤ 1 then
    Option.bind (gm_X8_limitOf N w1 w2 s) fun q96 =>
    if q96.1 < 0 then
      Option.bind (gm_X8_may N w2 w1 w3 q96.2) fun q110 =>
      if q110.1 = 0 then
        some ((-11), q110.2)
      else
        Option.bind (gm_ldI q110.2 19 w1) fun v125 =>
        if v125 = 40 then
          some ((-12), q110.2)
        else
          Option.bind (gm_ldI q110.2 13 w1) fun v136 =>
          if v136 < 300 then
            Option.bind (gm_X8_number N  q110.2) fun q148 =>
            Option.bind (gm_ldI q148.2 19 w1) fun v162 =>
            Option.bind (gm_stI q148.2 20 ((40 * w1) + v162) w2) fun t173 =>
            Option.bind (gm_stL t173 21 ((40 * w1) + v162) w3) fun t181 =>
            Option.bind (gm_stI t181 22 ((40 * w1) + v162) q148.1) fun t190 =>
            Option.bind (gm_ldI t190 19 w1) fun v197 =>
            Option.bind (gm_stI t190 19 w1 (v197 + 1)) fun t200 =>
            Option.bind (gm_ldI t200 9 w1) fun v206 =>
            if v206 = 1 then
              Option.bind (gm_X8_askPapers N w1 t200) fun q213 =>
              some ((Int32.toInt64 q148.1), q213.2)
            else
              some ((Int32.toInt64 q148.1), t200)
          else
            some ((-12), q110.2)
    else
      some ((-13), q96.2)
  else
    some ((-9), s)
set_option maxRecDepth 20000 in
set_option maxHeartbeats 4000000 in
theorem mm_bl_X8_written_79 {M : Nat} {X : Nat → Prop} {ad : Nat → Nat} {H0 h : ym_H} {S0 s : mt_S} {N : Nat} {w1 : Int32} {w2 : Int32} {w3 : Int64} (hB : mt_B M X ad H0 S0 h s) : mt_ok M X H0 S0 (bl_X8_written_79 N (some M) w1 w2 w3 h) (gb_X8_written_79 N w1 w2 w3 s) := by
  unfold bl_X8_written_79 gb_X8_written_79
  refine mt_gR hB 9 (by decide) (by decide) ?_
  refine mt_ldI hB 9 (by decide) rfl (fun v84 => ?_)
  refine mt_if (fun _ => ?_) (fun _ => ?_)
  · refine mt_ob hB (fun _ => ?_)
    refine mt_call hB (mm_X8_limitOf hB.start) (fun r96 ad H96 S96 hB => ?_)
    dsimp only
    refine mt_if (fun _ => ?_) (fun _ => ?_)
    · refine mt_ob hB (fun _ => ?_)
      refine mt_call hB (mm_X8_may hB.start) (fun r110 ad H110 S110 hB => ?_)
      dsimp only
      refine mt_if (fun _ => ?_) (fun _ => ?_)
      · exact mt_ret hB
      · refine mt_gR hB 19 (by decide) (by decide) ?_
        refine mt_ldI hB 19 (by decide) rfl (fun v125 => ?_)
        refine mt_if (fun _ => ?_) (fun _ => ?_)
        · exact mt_ret hB
        · refine mt_gR hB 13 (by decide) (by decide) ?_
          refine mt_ldI hB 13 (by decide) rfl (fun v136 => ?_)
          refine mt_if (fun _ => ?_) (fun _ => ?_)
          · refine mt_ob hB (fun _ => ?_)
            refine mt_call hB (mm_X8_number hB.start) (fun r148 ad H148 S148 hB => ?_)
            dsimp only
            refine mt_gR hB 19 (by decide) (by decide) ?_
            refine mt_ldI hB 19 (by decide) rfl (fun v162 => ?_)
            refine mt_gR hB 20 (by decide) (by decide) ?_
            refine mt_aI hB 20 (by decide) rfl (fun h173 t173 hB => ?_)
            refine mt_gR hB 21 (by decide) (by decide) ?_
            refine mt_aL hB 21 (by decide) rfl (fun h181 t181 hB => ?_)
            refine mt_gR hB 22 (by decide) (by decide) ?_
            refine mt_aI hB 22 (by decide) rfl (fun h190 t190 hB => ?_)
            refine mt_gR hB 19 (by decide) (by decide) ?_
            refine mt_ldI hB 19 (by decide) rfl (fun v197 => ?_)
            refine mt_aI hB 19 (by decide) rfl (fun h200 t200 hB => ?_)
            refine mt_gR hB 9 (by decide) (by decide) ?_
            refine mt_ldI hB 9 (by decide) rfl (fun v206 => ?_)
            refine mt_if (fun _ => ?_) (fun _ => ?_)
            · refine mt_ob hB (fun _ => ?_)
              refine mt_call hB (mm_X8_askPapers hB.start) (fun r213 ad H213 S213 hB => ?_)
              dsimp only
              exact mt_ret hB
            · exact mt_ret hB
          · exact mt_ret hB
    · exact mt_ret hB
  · exact mt_ret hB
def gm_X8_written (N : Nat) (a1 : Int32) (a2 : Int32) (a3 : Int64) (s : mt_S) : Option (Int64 × mt_S) :=
  Option.bind (gm_X8_isSum N a3 s) fun q1 =>
  if q1.1 = 0 then
    some ((-1), q1.2)
  else
    Option.bind (gm_X8_noLot N a1 q1.2) fun q13 =>
    if q13.1 ≤ 0 then
      Option.bind (gm_X8_isPlain N a1 q13.2) fun q29 =>
      if q29.1 = 0 then
        some ((-4), q29.2)
      else
        Option.bind (gm_X8_noBidder N a2 q29.2) fun q41 =>
        if q41.1 ≤ 0 then
          Option.bind (gm_ldI q41.2 1 a2) fun v60 =>
          if v60 = 2 then
            gb_X8_written_79 N a1 a2 a3 q41.2
          else
            Option.bind (gm_ldI q41.2 1 a2) fun v70 =>
            if v70 = 3 then
              gb_X8_written_79 N a1 a2 a3 q41.2
            else
              some ((-4), q41.2)
        else
          Option.bind (gm_X8_noBidder N a2 q41.2) fun q49 =>
          some ((Int32.toInt64 (-q49.1)), q49.2)
    else
      Option.bind (gm_X8_noLot N a1 q13.2) fun q21 =>
      some ((Int32.toInt64 (-q21.1)), q21.2)
set_option maxRecDepth 20000 in
set_option maxHeartbeats 4000000 in
theorem mm_X8_written {M : Nat} {X : Nat → Prop} {ad : Nat → Nat} {h : ym_H} {s : mt_S} {N : Nat} {a1 : Int32} {a2 : Int32} {a3 : Int64} (hB : mt_B M X ad h s h s) : mt_ok M X h s (fn_X8_written N (some M) a1 a2 a3 h) (gm_X8_written N a1 a2 a3 s) := by
  unfold fn_X8_written gm_X8_written
  refine mt_call hB (mm_X8_isSum hB.start) (fun r1 ad H1 S1 hB => ?_)
  dsimp only
  refine mt_if (fun _ => ?_) (fun _ => ?_)
  · exact mt_ret hB
  · refine mt_ob hB (fun _ => ?_)
    refine mt_call hB (mm_X8_noLot hB.start) (fun r13 ad H13 S13 hB => ?_)
    dsimp only
    refine mt_if (fun _ => ?_) (fun _ => ?_)
    · refine mt_ob hB (fun _ => ?_)
      refine mt_call hB (mm_X8_isPlain hB.start) (fun r29 ad H29 S29 hB => ?_)
      dsimp only
      refine mt_if (fun _ => ?_) (fun _ => ?_)
      · exact mt_ret hB
      · refine mt_ob hB (fun _ => ?_)
        refine mt_call hB (mm_X8_noBidder hB.start) (fun r41 ad H41 S41 hB => ?_)
        dsimp only
        refine mt_if (fun _ => ?_) (fun _ => ?_)
        · refine mt_gR hB 1 (by decide) (by decide) ?_
          refine mt_ldI hB 1 (by decide) rfl (fun v60 => ?_)
          refine mt_if (fun _ => ?_) (fun _ => ?_)
          · exact mm_bl_X8_written_79 hB
          · refine mt_gR hB 1 (by decide) (by decide) ?_
            refine mt_ldI hB 1 (by decide) rfl (fun v70 => ?_)
            refine mt_if (fun _ => ?_) (fun _ => ?_)
            · exact mm_bl_X8_written_79 hB
            · exact mt_ret hB
        · refine mt_ob hB (fun _ => ?_)
          refine mt_call hB (mm_X8_noBidder hB.start) (fun r49 ad H49 S49 hB => ?_)
          dsimp only
          exact mt_ret hB
    · refine mt_ob hB (fun _ => ?_)
      refine mt_call hB (mm_X8_noLot hB.start) (fun r21 ad H21 S21 hB => ?_)
      dsimp only
      exact mt_ret hB
def gm_X8_noLotOf (N : Nat) (a1 : Int32) (a2 : Int32) (s : mt_S) : Option (Int32 × mt_S) :=
  Option.bind (gm_X8_noLot N a1 s) fun q2 =>
  if q2.1 ≤ 0 then
    Option.bind (gm_ldI q2.2 5 a1) fun v21 =>
    if v21 = a2 then
      some (0, q2.2)
    else
      some (4, q2.2)
  else
    Option.bind (gm_X8_noLot N a1 q2.2) fun q10 =>
    some (q10.1, q10.2)
set_option maxRecDepth 20000 in
set_option maxHeartbeats 4000000 in
theorem mm_X8_noLotOf {M : Nat} {X : Nat → Prop} {ad : Nat → Nat} {h : ym_H} {s : mt_S} {N : Nat} {a1 : Int32} {a2 : Int32} (hB : mt_B M X ad h s h s) : mt_ok M X h s (fn_X8_noLotOf N (some M) a1 a2 h) (gm_X8_noLotOf N a1 a2 s) := by
  unfold fn_X8_noLotOf gm_X8_noLotOf
  refine mt_ob hB (fun _ => ?_)
  refine mt_call hB (mm_X8_noLot hB.start) (fun r2 ad H2 S2 hB => ?_)
  dsimp only
  refine mt_if (fun _ => ?_) (fun _ => ?_)
  · refine mt_gR hB 5 (by decide) (by decide) ?_
    refine mt_ldI hB 5 (by decide) rfl (fun v21 => ?_)
    refine mt_if (fun _ => ?_) (fun _ => ?_)
    · exact mt_ret hB
    · exact mt_ret hB
  · refine mt_ob hB (fun _ => ?_)
    refine mt_call hB (mm_X8_noLot hB.start) (fun r10 ad H10 S10 hB => ?_)
    dsimp only
    exact mt_ret hB
def gb_X8_opened_96_74 (Kl : Int32 → Int32 → Int32 → mt_S → Option ((Int32) × mt_S)) (N : Nat) (w1 : Int32) (w2 : Int32) (w3 : Int32) (s : mt_S) : Option ((Int32) × mt_S) :=
  Option.bind (gm_ldI s 18 w3) fun v101 =>
  Kl w1 w2 v101 s
set_option maxRecDepth 20000 in
set_option maxHeartbeats 4000000 in
theorem mm_bl_X8_opened_96_74 {M : Nat} {X : Nat → Prop} {ad : Nat → Nat} {H0 h : ym_H} {S0 s : mt_S} {K : Option Nat → Int32 → Int32 → Int32 → ym_H → Option ((Int32) × ym_H)} {Kl : Int32 → Int32 → Int32 → mt_S → Option ((Int32) × mt_S)} (hKl : ∀ (w1 : Int32) (w2 : Int32) (w3 : Int32) (ad : Nat → Nat) (h : ym_H) (s : mt_S), mt_B M X ad H0 S0 h s → mt_ok M X H0 S0 (K (some M) w1 w2 w3 h) (Kl w1 w2 w3 s)) {N : Nat} {w1 : Int32} {w2 : Int32} {w3 : Int32} (hB : mt_B M X ad H0 S0 h s) : mt_ok M X H0 S0 (bl_X8_opened_96_74 K N (some M) w1 w2 w3 h) (gb_X8_opened_96_74 Kl N w1 w2 w3 s) := by
  unfold bl_X8_opened_96_74 gb_X8_opened_96_74
  refine mt_gR hB 18 (by decide) (by decide) ?_
  refine mt_ldI hB 18 (by decide) rfl (fun v101 => ?_)
  exact hKl _ _ _ _ _ _ hB
def gl_X8_opened_74 (Kl : Int32 → Int32 → Int32 → mt_S → Option ((Int32) × mt_S)) (N : Nat) (w1 : Int32) (w2 : Int32) (w3 : Int32) (s : mt_S) : Option ((Int32) × mt_S) :=
  if w3 < 0 then
    some (w2, s)
  else
    Option.bind (gm_ldL s 17 w3) fun v83 =>
    Option.bind (gm_ldL s 17 w2) fun v89 =>
    if v83 < v89 then
      gb_X8_opened_96_74 Kl N w1 w2 w3 s
    else
      gb_X8_opened_96_74 Kl N w1 w3 w3 s
set_option maxRecDepth 20000 in
set_option maxHeartbeats 4000000 in
theorem mm_lb_X8_opened_74 {M : Nat} {X : Nat → Prop} {ad : Nat → Nat} {H0 h : ym_H} {S0 s : mt_S} {K : Option Nat → Int32 → Int32 → Int32 → ym_H → Option ((Int32) × ym_H)} {Kl : Int32 → Int32 → Int32 → mt_S → Option ((Int32) × mt_S)} (hKl : ∀ (w1 : Int32) (w2 : Int32) (w3 : Int32) (ad : Nat → Nat) (h : ym_H) (s : mt_S), mt_B M X ad H0 S0 h s → mt_ok M X H0 S0 (K (some M) w1 w2 w3 h) (Kl w1 w2 w3 s)) {N : Nat} {w1 : Int32} {w2 : Int32} {w3 : Int32} (hB : mt_B M X ad H0 S0 h s) : mt_ok M X H0 S0 (lb_X8_opened_74 K N (some M) w1 w2 w3 h) (gl_X8_opened_74 Kl N w1 w2 w3 s) := by
  unfold lb_X8_opened_74 gl_X8_opened_74
  refine mt_if (fun _ => ?_) (fun _ => ?_)
  · exact mt_ret hB
  · refine mt_gR hB 17 (by decide) (by decide) ?_
    refine mt_ldL hB 17 (by decide) rfl (fun v83 => ?_)
    refine mt_gR hB 17 (by decide) (by decide) ?_
    refine mt_ldL hB 17 (by decide) rfl (fun v89 => ?_)
    refine mt_if (fun _ => ?_) (fun _ => ?_)
    · exact mm_bl_X8_opened_96_74 hKl hB
    · exact mm_bl_X8_opened_96_74 hKl hB
def gp_X8_opened_74 (N : Nat) : Nat → Int32 → Int32 → Int32 → mt_S → Option ((Int32) × mt_S)
  | 0, _, _, _, _ => none
  | n + 1, w1, w2, w3, s => gl_X8_opened_74 (gp_X8_opened_74 N n) N w1 w2 w3 s
theorem mm_lp_X8_opened_74 {M : Nat} {X : Nat → Prop} {H0 : ym_H} {S0 : mt_S} {N : Nat} : ∀ (n : Nat) (ad : Nat → Nat) (h : ym_H) (s : mt_S) (w1 : Int32) (w2 : Int32) (w3 : Int32), mt_B M X ad H0 S0 h s → mt_ok M X H0 S0 (lp_X8_opened_74 N n (some M) w1 w2 w3 h) (gp_X8_opened_74 N n w1 w2 w3 s) := by
  intro n
  induction n with
  | zero => intro ad h s w1 w2 w3 hB; exact mt_no
  | succ n ih =>
    intro ad h s w1 w2 w3 hB
    exact mm_lb_X8_opened_74 (fun w1 w2 w3 ad h s hB => ih ad h s w1 w2 w3 hB) hB
def gb_X8_opened_177_146 (Kl : Int32 → Int32 → Int64 → Int32 → mt_S → Option ((Int64) × mt_S)) (N : Nat) (w1 : Int32) (w2 : Int32) (w3 : Int64) (w5 : Int32) (s : mt_S) : Option ((Int64) × mt_S) :=
  Option.bind (gm_ldI s 18 w5) fun v183 =>
  Kl w1 w2 w3 v183 s
set_option maxRecDepth 20000 in
set_option maxHeartbeats 4000000 in
theorem mm_bl_X8_opened_177_146 {M : Nat} {X : Nat → Prop} {ad : Nat → Nat} {H0 h : ym_H} {S0 s : mt_S} {K : Option Nat → Int32 → Int32 → Int64 → Int32 → ym_H → Option ((Int64) × ym_H)} {Kl : Int32 → Int32 → Int64 → Int32 → mt_S → Option ((Int64) × mt_S)} (hKl : ∀ (w1 : Int32) (w2 : Int32) (w3 : Int64) (w5 : Int32) (ad : Nat → Nat) (h : ym_H) (s : mt_S), mt_B M X ad H0 S0 h s → mt_ok M X H0 S0 (K (some M) w1 w2 w3 w5 h) (Kl w1 w2 w3 w5 s)) {N : Nat} {w1 : Int32} {w2 : Int32} {w3 : Int64} {w5 : Int32} (hB : mt_B M X ad H0 S0 h s) : mt_ok M X H0 S0 (bl_X8_opened_177_146 K N (some M) w1 w2 w3 w5 h) (gb_X8_opened_177_146 Kl N w1 w2 w3 w5 s) := by
  unfold bl_X8_opened_177_146 gb_X8_opened_177_146
  refine mt_gR hB 18 (by decide) (by decide) ?_
  refine mt_ldI hB 18 (by decide) rfl (fun v183 => ?_)
  exact hKl _ _ _ _ _ _ _ hB
def gl_X8_opened_146 (Kl : Int32 → Int32 → Int64 → Int32 → mt_S → Option ((Int64) × mt_S)) (N : Nat) (w1 : Int32) (w2 : Int32) (w3 : Int64) (w5 : Int32) (s : mt_S) : Option ((Int64) × mt_S) :=
  if w5 < 0 then
    some (w3, s)
  else
    if w5 = w2 then
      gb_X8_opened_177_146 Kl N w1 w2 w3 w5 s
    else
      Option.bind (gm_ldL s 17 w5) fun v163 =>
      if v163 ≤ w3 then
        gb_X8_opened_177_146 Kl N w1 w2 w3 w5 s
      else
        Option.bind (gm_ldL s 17 w5) fun v175 =>
        gb_X8_opened_177_146 Kl N w1 w2 v175 w5 s
set_option maxRecDepth 20000 in
set_option maxHeartbeats 4000000 in
theorem mm_lb_X8_opened_146 {M : Nat} {X : Nat → Prop} {ad : Nat → Nat} {H0 h : ym_H} {S0 s : mt_S} {K : Option Nat → Int32 → Int32 → Int64 → Int32 → ym_H → Option ((Int64) × ym_H)} {Kl : Int32 → Int32 → Int64 → Int32 → mt_S → Option ((Int64) × mt_S)} (hKl : ∀ (w1 : Int32) (w2 : Int32) (w3 : Int64) (w5 : Int32) (ad : Nat → Nat) (h : ym_H) (s : mt_S), mt_B M X ad H0 S0 h s → mt_ok M X H0 S0 (K (some M) w1 w2 w3 w5 h) (Kl w1 w2 w3 w5 s)) {N : Nat} {w1 : Int32} {w2 : Int32} {w3 : Int64} {w5 : Int32} (hB : mt_B M X ad H0 S0 h s) : mt_ok M X H0 S0 (lb_X8_opened_146 K N (some M) w1 w2 w3 w5 h) (gl_X8_opened_146 Kl N w1 w2 w3 w5 s) := by
  unfold lb_X8_opened_146 gl_X8_opened_146
  refine mt_if (fun _ => ?_) (fun _ => ?_)
  · exact mt_ret hB
  · refine mt_if (fun _ => ?_) (fun _ => ?_)
    · exact mm_bl_X8_opened_177_146 hKl hB
    · refine mt_gR hB 17 (by decide) (by decide) ?_
      refine mt_ldL hB 17 (by decide) rfl (fun v163 => ?_)
      refine mt_if (fun _ => ?_) (fun _ => ?_)
      · exact mm_bl_X8_opened_177_146 hKl hB
      · refine mt_gR hB 17 (by decide) (by decide) ?_
        refine mt_ldL hB 17 (by decide) rfl (fun v175 => ?_)
        exact mm_bl_X8_opened_177_146 hKl hB
def gp_X8_opened_146 (N : Nat) : Nat → Int32 → Int32 → Int64 → Int32 → mt_S → Option ((Int64) × mt_S)
  | 0, _, _, _, _, _ => none
  | n + 1, w1, w2, w3, w5, s => gl_X8_opened_146 (gp_X8_opened_146 N n) N w1 w2 w3 w5 s
theorem mm_lp_X8_opened_146 {M : Nat} {X : Nat → Prop} {H0 : ym_H} {S0 : mt_S} {N : Nat} : ∀ (n : Nat) (ad : Nat → Nat) (h : ym_H) (s : mt_S) (w1 : Int32) (w2 : Int32) (w3 : Int64) (w5 : Int32), mt_B M X ad H0 S0 h s → mt_ok M X H0 S0 (lp_X8_opened_146 N n (some M) w1 w2 w3 w5 h) (gp_X8_opened_146 N n w1 w2 w3 w5 s) := by
  intro n
  induction n with
  | zero => intro ad h s w1 w2 w3 w5 hB; exact mt_no
  | succ n ih =>
    intro ad h s w1 w2 w3 w5 hB
    exact mm_lb_X8_opened_146 (fun w1 w2 w3 w5 ad h s hB => ih ad h s w1 w2 w3 w5 hB) hB
def gb_X8_opened_255 (N : Nat) (w1 : Int32) (s0 : Int64) (s1 : Int32) (s : mt_S) : Option (Int64 × mt_S) :=
  Option.bind (gm_stL s 27 s1 s0) fun t255 =>
  Option.bind (gm_ldL t255 27 w1) fun v261 =>
  some (v261, t255)
set_option maxRecDepth 20000 in
set_option maxHeartbeats 4000000 in
theorem mm_bl_X8_opened_255 {M : Nat} {X : Nat → Prop} {ad : Nat → Nat} {H0 h : ym_H} {S0 s : mt_S} {N : Nat} {w1 : Int32} {s0 : Int64} {s1 : Int32} (hB : mt_B M X ad H0 S0 h s) : mt_ok M X H0 S0 (bl_X8_opened_255 N (some M) w1 s0 s1 (some (ad 27)) h) (gb_X8_opened_255 N w1 s0 s1 s) := by
  unfold bl_X8_opened_255 gb_X8_opened_255
  refine mt_aL hB 27 (by decide) rfl (fun h255 t255 hB => ?_)
  refine mt_gR hB 27 (by decide) (by decide) ?_
  refine mt_ldL hB 27 (by decide) rfl (fun v261 => ?_)
  exact mt_ret hB
def gb_X8_opened_239 (N : Nat) (w1 : Int32) (w3 : Int64) (w5 : Int32) (s0 : Int32) (s1 : Int32) (s : mt_S) : Option (Int64 × mt_S) :=
  Option.bind (gm_stI s 26 s1 s0) fun t239 =>
  if w5 = 0 then
    gb_X8_opened_255 N w1 0 w1 t239
  else
    gb_X8_opened_255 N w1 w3 w1 t239
set_option maxRecDepth 20000 in
set_option maxHeartbeats 4000000 in
theorem mm_bl_X8_opened_239 {M : Nat} {X : Nat → Prop} {ad : Nat → Nat} {H0 h : ym_H} {S0 s : mt_S} {N : Nat} {w1 : Int32} {w3 : Int64} {w5 : Int32} {s0 : Int32} {s1 : Int32} (hB : mt_B M X ad H0 S0 h s) : mt_ok M X H0 S0 (bl_X8_opened_239 N (some M) w1 w3 w5 s0 s1 (some (ad 26)) h) (gb_X8_opened_239 N w1 w3 w5 s0 s1 s) := by
  unfold bl_X8_opened_239 gb_X8_opened_239
  refine mt_aI hB 26 (by decide) rfl (fun h239 t239 hB => ?_)
  refine mt_gR hB 27 (by decide) (by decide) ?_
  refine mt_if (fun _ => ?_) (fun _ => ?_)
  · exact mm_bl_X8_opened_255 hB
  · exact mm_bl_X8_opened_255 hB
def gb_X8_opened_217 (N : Nat) (w1 : Int32) (w2 : Int32) (w3 : Int64) (s0 : Int32) (s : mt_S) : Option (Int64 × mt_S) :=
  if s0 = 0 then
    gb_X8_opened_239 N w1 w3 s0 (-1) w1 s
  else
    Option.bind (gm_ldI s 16 w2) fun v234 =>
    gb_X8_opened_239 N w1 w3 s0 v234 w1 s
set_option maxRecDepth 20000 in
set_option maxHeartbeats 4000000 in
theorem mm_bl_X8_opened_217 {M : Nat} {X : Nat → Prop} {ad : Nat → Nat} {H0 h : ym_H} {S0 s : mt_S} {N : Nat} {w1 : Int32} {w2 : Int32} {w3 : Int64} {s0 : Int32} (hB : mt_B M X ad H0 S0 h s) : mt_ok M X H0 S0 (bl_X8_opened_217 N (some M) w1 w2 w3 s0 h) (gb_X8_opened_217 N w1 w2 w3 s0 s) := by
  unfold bl_X8_opened_217 gb_X8_opened_217
  refine mt_gR hB 26 (by decide) (by decide) ?_
  refine mt_if (fun _ => ?_) (fun _ => ?_)
  · exact mm_bl_X8_opened_239 hB
  · refine mt_gR hB 16 (by decide) (by decide) ?_
    refine mt_ldI hB 16 (by decide) rfl (fun v234 => ?_)
    exact mm_bl_X8_opened_239 hB
def gb_X8_opened_137 (N : Nat) (w1 : Int32) (w2 : Int32) (s0 : Int64) (s : mt_S) : Option (Int64 × mt_S) :=
  Option.bind (gm_ldI s 14 w1) fun v143 =>
  Option.bind (gp_X8_opened_146 N N w1 w2 s0 v143 s) fun q146 =>
  Option.bind (gm_stI q146.2 25 w1 1) fun t195 =>
  Option.bind (gm_ldL t195 17 w2) fun v201 =>
  Option.bind (gm_ldL t195 7 w1) fun v207 =>
  if v201 < v207 then
    gb_X8_opened_217 N w1 w2 q146.1 0 t195
  else
    gb_X8_opened_217 N w1 w2 q146.1 1 t195
set_option maxRecDepth 20000 in
set_option maxHeartbeats 4000000 in
theorem mm_bl_X8_opened_137 {M : Nat} {X : Nat → Prop} {ad : Nat → Nat} {H0 h : ym_H} {S0 s : mt_S} {N : Nat} {w1 : Int32} {w2 : Int32} {s0 : Int64} (hB : mt_B M X ad H0 S0 h s) : mt_ok M X H0 S0 (bl_X8_opened_137 N (some M) w1 w2 s0 h) (gb_X8_opened_137 N w1 w2 s0 s) := by
  unfold bl_X8_opened_137 gb_X8_opened_137
  refine mt_gR hB 14 (by decide) (by decide) ?_
  refine mt_ldI hB 14 (by decide) rfl (fun v143 => ?_)
  refine mt_call hB (mm_lp_X8_opened_146 N _ _ _ _ _ _ _ hB.start) (fun r146 ad H146 S146 hB => ?_)
  dsimp only
  refine mt_gR hB 25 (by decide) (by decide) ?_
  refine mt_aZ hB 25 (by decide) rfl (fun h195 t195 hB => ?_)
  refine mt_gR hB 17 (by decide) (by decide) ?_
  refine mt_ldL hB 17 (by decide) rfl (fun v201 => ?_)
  refine mt_gR hB 7 (by decide) (by decide) ?_
  refine mt_ldL hB 7 (by decide) rfl (fun v207 => ?_)
  refine mt_if (fun _ => ?_) (fun _ => ?_)
  · exact mm_bl_X8_opened_217 hB
  · exact mm_bl_X8_opened_217 hB
def gm_X8_opened (N : Nat) (a1 : Int32) (s : mt_S) : Option (Int64 × mt_S) :=
  Option.bind (gm_X8_noLotOf N a1 4 s) fun q3 =>
  if q3.1 ≤ 0 then
    Option.bind (gm_X8_notOpen N a1 q3.2) fun q20 =>
    if q20.1 ≤ 0 then
      Option.bind (gm_ldI q20.2 25 a1) fun v39 =>
      if v39 = 0 then
        Option.bind (gm_ldI q20.2 13 a1) fun v52 =>
        if v52 = 0 then
          some ((-14), q20.2)
        else
          Option.bind (gm_ldI q20.2 14 a1) fun v65 =>
          Option.bind (gm_ldI q20.2 14 a1) fun v72 =>
          Option.bind (gp_X8_opened_74 N N a1 v65 v72 q20.2) fun q74 =>
          Option.bind (gm_ldL q74.2 6 a1) fun v111 =>
          Option.bind (gm_ldL q74.2 7 a1) fun v117 =>
          if v111 ≤ v117 then
            Option.bind (gm_ldL q74.2 7 a1) fun v136 =>
            gb_X8_opened_137 N a1 q74.1 v136 q74.2
          else
            Option.bind (gm_ldL q74.2 6 a1) fun v127 =>
            gb_X8_opened_137 N a1 q74.1 v127 q74.2
      else
        some ((-8), q20.2)
    else
      Option.bind (gm_X8_notOpen N a1 q20.2) fun q28 =>
      some ((Int32.toInt64 (-q28.1)), q28.2)
  else
    Option.bind (gm_X8_noLotOf N a1 4 q3.2) fun q12 =>
    some ((Int32.toInt64 (-q12.1)), q12.2)
set_option maxRecDepth 20000 in
set_option maxHeartbeats 4000000 in
theorem mm_X8_opened {M : Nat} {X : Nat → Prop} {ad : Nat → Nat} {h : ym_H} {s : mt_S} {N : Nat} {a1 : Int32} (hB : mt_B M X ad h s h s) : mt_ok M X h s (fn_X8_opened N (some M) a1 h) (gm_X8_opened N a1 s) := by
  unfold fn_X8_opened gm_X8_opened
  refine mt_ob hB (fun _ => ?_)
  refine mt_call hB (mm_X8_noLotOf hB.start) (fun r3 ad H3 S3 hB => ?_)
  dsimp only
  refine mt_if (fun _ => ?_) (fun _ => ?_)
  · refine mt_ob hB (fun _ => ?_)
    refine mt_call hB (mm_X8_notOpen hB.start) (fun r20 ad H20 S20 hB => ?_)
    dsimp only
    refine mt_if (fun _ => ?_) (fun _ => ?_)
    · refine mt_gR hB 25 (by decide) (by decide) ?_
      refine mt_ldZ hB 25 (by decide) rfl (fun v39 => ?_)
      refine mt_if (fun _ => ?_) (fun _ => ?_)
      · refine mt_gR hB 13 (by decide) (by decide) ?_
        refine mt_ldI hB 13 (by decide) rfl (fun v52 => ?_)
        refine mt_if (fun _ => ?_) (fun _ => ?_)
        · exact mt_ret hB
        · refine mt_gR hB 14 (by decide) (by decide) ?_
          refine mt_ldI hB 14 (by decide) rfl (fun v65 => ?_)
          refine mt_gR hB 14 (by decide) (by decide) ?_
          refine mt_ldI hB 14 (by decide) rfl (fun v72 => ?_)
          refine mt_call hB (mm_lp_X8_opened_74 N _ _ _ _ _ _ hB.start) (fun r74 ad H74 S74 hB => ?_)
          dsimp only
          refine mt_gR hB 6 (by decide) (by decide) ?_
          refine mt_ldL hB 6 (by decide) rfl (fun v111 => ?_)
          refine mt_gR hB 7 (by decide) (by decide) ?_
          refine mt_ldL hB 7 (by decide) rfl (fun v117 => ?_)
          refine mt_if (fun _ => ?_) (fun _ => ?_)
          · refine mt_gR hB 7 (by decide) (by decide) ?_
            refine mt_ldL hB 7 (by decide) rfl (fun v136 => ?_)
            exact mm_bl_X8_opened_137 hB
          · refine mt_gR hB 6 (by decide) (by decide) ?_
            refine mt_ldL hB 6 (by decide) rfl (fun v127 => ?_)
            exact mm_bl_X8_opened_137 hB
      · exact mt_ret hB
    · refine mt_ob hB (fun _ => ?_)
      refine mt_call hB (mm_X8_notOpen hB.start) (fun r28 ad H28 S28 hB => ?_)
      dsimp only
      exact mt_ret hB
  · refine mt_ob hB (fun _ => ?_)
    refine mt_call hB (mm_X8_noLotOf hB.start) (fun r12 ad H12 S12 hB => ?_)
    dsimp only
    exact mt_ret hB
