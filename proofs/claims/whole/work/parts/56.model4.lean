def gl_X8_digest_12 (Kl : Int64 → Int32 → mt_S → Option ((Int64) × mt_S)) (N : Nat) (w1 : Int64) (w3 : Int32) (s : mt_S) : Option ((Int64) × mt_S) :=
  if (s.1 0 0) ≤ w3 then
    some (w1, s)
  else
    Option.bind (gm_ldI s 1 w3) fun v30 =>
    Option.bind (gm_ldL s 3 w3) fun v42 =>
    Kl ((((w1 * 31) + (Int32.toInt64 v30)) * 31) + v42) (w3 + 1) s
set_option maxRecDepth 20000 in
set_option maxHeartbeats 4000000 in
theorem mm_lb_X8_digest_12 {M : Nat} {X : Nat → Prop} {ad : Nat → Nat} {H0 h : ym_H} {S0 s : mt_S} {K : Option Nat → Int64 → Int32 → ym_H → Option ((Int64) × ym_H)} {Kl : Int64 → Int32 → mt_S → Option ((Int64) × mt_S)} (hKl : ∀ (w1 : Int64) (w3 : Int32) (ad : Nat → Nat) (h : ym_H) (s : mt_S), mt_B M X ad H0 S0 h s → mt_ok M X H0 S0 (K (some M) w1 w3 h) (Kl w1 w3 s)) {N : Nat} {w1 : Int64} {w3 : Int32} (hB : mt_B M X ad H0 S0 h s) : mt_ok M X H0 S0 (lb_X8_digest_12 K N (some M) w1 w3 h) (gl_X8_digest_12 Kl N w1 w3 s) := by
  unfold lb_X8_digest_12 gl_X8_digest_12
  refine mt_gI hB 0 (by decide) rfl ?_
  refine mt_if (fun _ => ?_) (fun _ => ?_)
  · exact mt_ret hB
  · refine mt_gR hB 1 (by decide) (by decide) ?_
    refine mt_ldI hB 1 (by decide) rfl (fun v30 => ?_)
    refine mt_gR hB 3 (by decide) (by decide) ?_
    refine mt_ldL hB 3 (by decide) rfl (fun v42 => ?_)
    exact hKl _ _ _ _ _ hB
def gp_X8_digest_12 (N : Nat) : Nat → Int64 → Int32 → mt_S → Option ((Int64) × mt_S)
  | 0, _, _, _ => none
  | n + 1, w1, w3, s => gl_X8_digest_12 (gp_X8_digest_12 N n) N w1 w3 s
theorem mm_lp_X8_digest_12 {M : Nat} {X : Nat → Prop} {H0 : ym_H} {S0 : mt_S} {N : Nat} : ∀ (n : Nat) (ad : Nat → Nat) (h : ym_H) (s : mt_S) (w1 : Int64) (w3 : Int32), mt_B M X ad H0 S0 h s → mt_ok M X H0 S0 (lp_X8_digest_12 N n (some M) w1 w3 h) (gp_X8_digest_12 N n w1 w3 s) := by
  intro n
  induction n with
  | zero => intro ad h s w1 w3 hB; exact mt_no
  | succ n ih =>
    intro ad h s w1 w3 hB
    exact mm_lb_X8_digest_12 (fun w1 w3 ad h s hB => ih ad h s w1 w3 hB) hB
def gl_X8_digest_65 (Kl : Int64 → Int32 → mt_S → Option ((Int64) × mt_S)) (N : Nat) (w1 : Int64) (w3 : Int32) (s : mt_S) : Option ((Int64) × mt_S) :=
  if (s.1 4 0) ≤ w3 then
    some (w1, s)
  else
    Option.bind (gm_ldI s 5 w3) fun v83 =>
    Option.bind (gm_ldI s 9 w3) fun v95 =>
    Option.bind (gm_X8_standing N w3 s) fun q106 =>
    Option.bind (gm_X8_standingSum N w3 q106.2) fun q117 =>
    Option.bind (gm_ldI q117.2 13 w3) fun v132 =>
    Option.bind (gm_ldI q117.2 12 w3) fun v146 =>
    Option.bind (gm_ldI q117.2 19 w3) fun v158 =>
    Kl ((((((((((((((w1 * 31) + (Int32.toInt64 v83)) * 31) + (Int32.toInt64 v95)) * 31) + (Int32.toInt64 q106.1)) * 31) + q117.1) * 31) + (Int32.toInt64 v132)) * 31) + (Int32.toInt64 v146)) * 31) + (Int32.toInt64 v158)) (w3 + 1) q117.2
set_option maxRecDepth 20000 in
set_option maxHeartbeats 4000000 in
theorem mm_lb_X8_digest_65 {M : Nat} {X : Nat → Prop} {ad : Nat → Nat} {H0 h : ym_H} {S0 s : mt_S} {K : Option Nat → Int64 → Int32 → ym_H → Option ((Int64) × ym_H)} {Kl : Int64 → Int32 → mt_S → Option ((Int64) × mt_S)} (hKl : ∀ (w1 : Int64) (w3 : Int32) (ad : Nat → Nat) (h : ym_H) (s : mt_S), mt_B M X ad H0 S0 h s → mt_ok M X H0 S0 (K (some M) w1 w3 h) (Kl w1 w3 s)) {N : Nat} {w1 : Int64} {w3 : Int32} (hB : mt_B M X ad H0 S0 h s) : mt_ok M X H0 S0 (lb_X8_digest_65 K N (some M) w1 w3 h) (gl_X8_digest_65 Kl N w1 w3 s) := by
  unfold lb_X8_digest_65 gl_X8_digest_65
  refine mt_gI hB 4 (by decide) rfl ?_
  refine mt_if (fun _ => ?_) (fun _ => ?_)
  · exact mt_ret hB
  · refine mt_gR hB 5 (by decide) (by decide) ?_
    refine mt_ldI hB 5 (by decide) rfl (fun v83 => ?_)
    refine mt_gR hB 9 (by decide) (by decide) ?_
    refine mt_ldI hB 9 (by decide) rfl (fun v95 => ?_)
    refine mt_ob hB (fun _ => ?_)
    refine mt_call hB (mm_X8_standing hB.start) (fun r106 ad H106 S106 hB => ?_)
    dsimp only
    refine mt_ob hB (fun _ => ?_)
    refine mt_call hB (mm_X8_standingSum hB.start) (fun r117 ad H117 S117 hB => ?_)
    dsimp only
    refine mt_gR hB 13 (by decide) (by decide) ?_
    refine mt_ldI hB 13 (by decide) rfl (fun v132 => ?_)
    refine mt_gR hB 12 (by decide) (by decide) ?_
    refine mt_ldI hB 12 (by decide) rfl (fun v146 => ?_)
    refine mt_gR hB 19 (by decide) (by decide) ?_
    refine mt_ldI hB 19 (by decide) rfl (fun v158 => ?_)
    exact hKl _ _ _ _ _ hB
def gp_X8_digest_65 (N : Nat) : Nat → Int64 → Int32 → mt_S → Option ((Int64) × mt_S)
  | 0, _, _, _ => none
  | n + 1, w1, w3, s => gl_X8_digest_65 (gp_X8_digest_65 N n) N w1 w3 s
theorem mm_lp_X8_digest_65 {M : Nat} {X : Nat → Prop} {H0 : ym_H} {S0 : mt_S} {N : Nat} : ∀ (n : Nat) (ad : Nat → Nat) (h : ym_H) (s : mt_S) (w1 : Int64) (w3 : Int32), mt_B M X ad H0 S0 h s → mt_ok M X H0 S0 (lp_X8_digest_65 N n (some M) w1 w3 h) (gp_X8_digest_65 N n w1 w3 s) := by
  intro n
  induction n with
  | zero => intro ad h s w1 w3 hB; exact mt_no
  | succ n ih =>
    intro ad h s w1 w3 hB
    exact mm_lb_X8_digest_65 (fun w1 w3 ad h s hB => ih ad h s w1 w3 hB) hB
def gl_X8_digest_170 (Kl : Int64 → Int32 → mt_S → Option ((Int64) × mt_S)) (N : Nat) (w1 : Int64) (w3 : Int32) (s : mt_S) : Option ((Int64) × mt_S) :=
  if 3 ≤ w3 then
    some (w1, s)
  else
    Option.bind (gm_ldL s 40 w3) fun v185 =>
    Kl ((w1 * 31) + v185) (w3 + 1) s
set_option maxRecDepth 20000 in
set_option maxHeartbeats 4000000 in
theorem mm_lb_X8_digest_170 {M : Nat} {X : Nat → Prop} {ad : Nat → Nat} {H0 h : ym_H} {S0 s : mt_S} {K : Option Nat → Int64 → Int32 → ym_H → Option ((Int64) × ym_H)} {Kl : Int64 → Int32 → mt_S → Option ((Int64) × mt_S)} (hKl : ∀ (w1 : Int64) (w3 : Int32) (ad : Nat → Nat) (h : ym_H) (s : mt_S), mt_B M X ad H0 S0 h s → mt_ok M X H0 S0 (K (some M) w1 w3 h) (Kl w1 w3 s)) {N : Nat} {w1 : Int64} {w3 : Int32} (hB : mt_B M X ad H0 S0 h s) : mt_ok M X H0 S0 (lb_X8_digest_170 K N (some M) w1 w3 h) (gl_X8_digest_170 Kl N w1 w3 s) := by
  unfold lb_X8_digest_170 gl_X8_digest_170
  refine mt_if (fun _ => ?_) (fun _ => ?_)
  · exact mt_ret hB
  · refine mt_gR hB 40 (by decide) (by decide) ?_
    refine mt_ldL hB 40 (by decide) rfl (fun v185 => ?_)
    exact hKl _ _ _ _ _ hB
def gp_X8_digest_170 (N : Nat) : Nat → Int64 → Int32 → mt_S → Option ((Int64) × mt_S)
  | 0, _, _, _ => none
  | n + 1, w1, w3, s => gl_X8_digest_170 (gp_X8_digest_170 N n) N w1 w3 s
theorem mm_lp_X8_digest_170 {M : Nat} {X : Nat → Prop} {H0 : ym_H} {S0 : mt_S} {N : Nat} : ∀ (n : Nat) (ad : Nat → Nat) (h : ym_H) (s : mt_S) (w1 : Int64) (w3 : Int32), mt_B M X ad H0 S0 h s → mt_ok M X H0 S0 (lp_X8_digest_170 N n (some M) w1 w3 h) (gp_X8_digest_170 N n w1 w3 s) := by
  intro n
  induction n with
  | zero => intro ad h s w1 w3 hB; exact mt_no
  | succ n ih =>
    intro ad h s w1 w3 hB
    exact mm_lb_X8_digest_170 (fun w1 w3 ad h s hB => ih ad h s w1 w3 hB) hB
def gm_X8_digest (N : Nat)  (s : mt_S) : Option (Int64 × mt_S) :=
  Option.bind (gp_X8_digest_12 N N (217 + (Int32.toInt64 (s.1 0 0))) 0 s) fun q12 =>
  Option.bind (gp_X8_digest_65 N N ((q12.1 * 31) + (Int32.toInt64 (q12.2.1 4 0))) 0 q12.2) fun q65 =>
  Option.bind (gp_X8_digest_170 N N q65.1 0 q65.2) fun q170 =>
  some (((((q170.1 * 31) + (Int32.toInt64 (q170.2.1 33 0))) * 31) + (Int32.toInt64 (q170.2.1 36 0))), q170.2)
set_option maxRecDepth 20000 in
set_option maxHeartbeats 4000000 in
theorem mm_X8_digest {M : Nat} {X : Nat → Prop} {ad : Nat → Nat} {h : ym_H} {s : mt_S} {N : Nat}  (hB : mt_B M X ad h s h s) : mt_ok M X h s (fn_X8_digest N (some M) h) (gm_X8_digest N  s) := by
  unfold fn_X8_digest gm_X8_digest
  refine mt_gI hB 0 (by decide) rfl ?_
  refine mt_call hB (mm_lp_X8_digest_12 N _ _ _ _ _ hB.start) (fun r12 ad H12 S12 hB => ?_)
  dsimp only
  refine mt_gI hB 4 (by decide) rfl ?_
  refine mt_call hB (mm_lp_X8_digest_65 N _ _ _ _ _ hB.start) (fun r65 ad H65 S65 hB => ?_)
  dsimp only
  refine mt_call hB (mm_lp_X8_digest_170 N _ _ _ _ _ hB.start) (fun r170 ad H170 S170 hB => ?_)
  dsimp only
  refine mt_gI hB 33 (by decide) rfl ?_
  refine mt_gI hB 36 (by decide) rfl ?_
  exact mt_ret hB
def gm_X8_end (N : Nat)  (s : mt_S) : Option (Int64 × mt_S) :=
  Option.bind (gm_X8_act N 24 0 0 0 0 0 s) fun q8 =>
  some (q8.1, q8.2)
set_option maxRecDepth 20000 in
set_option maxHeartbeats 4000000 in
theorem mm_X8_end {M : Nat} {X : Nat → Prop} {ad : Nat → Nat} {h : ym_H} {s : mt_S} {N : Nat}  (hB : mt_B M X ad h s h s) : mt_ok M X h s (fn_X8_end N (some M) h) (gm_X8_end N  s) := by
  unfold fn_X8_end gm_X8_end
  refine mt_ob hB (fun _ => ?_)
  refine mt_call hB (mm_X8_act hB.start) (fun r8 ad H8 S8 hB => ?_)
  dsimp only
  exact mt_ret hB
def gm_X8_entries (N : Nat) (a1 : Int32) (s : mt_S) : Option (Int32 × mt_S) :=
  Option.bind (gm_X8_isLot N a1 s) fun q2 =>
  if q2.1 = 0 then
    some ((-1), q2.2)
  else
    Option.bind (gm_ldI q2.2 13 a1) fun v13 =>
    some (v13, q2.2)
set_option maxRecDepth 20000 in
set_option maxHeartbeats 4000000 in
theorem mm_X8_entries {M : Nat} {X : Nat → Prop} {ad : Nat → Nat} {h : ym_H} {s : mt_S} {N : Nat} {a1 : Int32} (hB : mt_B M X ad h s h s) : mt_ok M X h s (fn_X8_entries N (some M) a1 h) (gm_X8_entries N a1 s) := by
  unfold fn_X8_entries gm_X8_entries
  refine mt_ob hB (fun _ => ?_)
  refine mt_call hB (mm_X8_isLot hB.start) (fun r2 ad H2 S2 hB => ?_)
  dsimp only
  refine mt_if (fun _ => ?_) (fun _ => ?_)
  · exact mt_ret hB
  · refine mt_gR hB 13 (by decide) (by decide) ?_
    refine mt_ldI hB 13 (by decide) rfl (fun v13 => ?_)
    exact mt_ret hB
def gm_X8_hammer (N : Nat) (a1 : Int32) (s : mt_S) : Option (Int64 × mt_S) :=
  Option.bind (gm_X8_act N 14 a1 0 0 0 0 s) fun q8 =>
  some (q8.1, q8.2)
set_option maxRecDepth 20000 in
set_option maxHeartbeats 4000000 in
theorem mm_X8_hammer {M : Nat} {X : Nat → Prop} {ad : Nat → Nat} {h : ym_H} {s : mt_S} {N : Nat} {a1 : Int32} (hB : mt_B M X ad h s h s) : mt_ok M X h s (fn_X8_hammer N (some M) a1 h) (gm_X8_hammer N a1 s) := by
  unfold fn_X8_hammer gm_X8_hammer
  refine mt_ob hB (fun _ => ?_)
  refine mt_call hB (mm_X8_act hB.start) (fun r8 ad H8 S8 hB => ?_)
  dsimp only
  exact mt_ret hB
def gm_X8_join (N : Nat) (a1 : Int32) (a2 : Int32) (a3 : Int32) (s : mt_S) : Option (Int64 × mt_S) :=
  Option.bind (gm_X8_act N 15 a1 a2 a3 0 0 s) fun q8 =>
  some (q8.1, q8.2)
set_option maxRecDepth 20000 in
set_option maxHeartbeats 4000000 in
theorem mm_X8_join {M : Nat} {X : Nat → Prop} {ad : Nat → Nat} {h : ym_H} {s : mt_S} {N : Nat} {a1 : Int32} {a2 : Int32} {a3 : Int32} (hB : mt_B M X ad h s h s) : mt_ok M X h s (fn_X8_join N (some M) a1 a2 a3 h) (gm_X8_join N a1 a2 a3 s) := by
  unfold fn_X8_join gm_X8_join
  refine mt_ob hB (fun _ => ?_)
  refine mt_call hB (mm_X8_act hB.start) (fun r8 ad H8 S8 hB => ?_)
  dsimp only
  exact mt_ret hB
def gm_X8_kindOf (N : Nat) (a1 : Int32) (s : mt_S) : Option (Int32 × mt_S) :=
  Option.bind (gm_X8_isLot N a1 s) fun q2 =>
  if q2.1 = 0 then
    some (0, q2.2)
  else
    Option.bind (gm_ldI q2.2 5 a1) fun v13 =>
    some (v13, q2.2)
set_option maxRecDepth 20000 in
set_option maxHeartbeats 4000000 in
theorem mm_X8_kindOf {M : Nat} {X : Nat → Prop} {ad : Nat → Nat} {h : ym_H} {s : mt_S} {N : Nat} {a1 : Int32} (hB : mt_B M X ad h s h s) : mt_ok M X h s (fn_X8_kindOf N (some M) a1 h) (gm_X8_kindOf N a1 s) := by
  unfold fn_X8_kindOf gm_X8_kindOf
  refine mt_ob hB (fun _ => ?_)
  refine mt_call hB (mm_X8_isLot hB.start) (fun r2 ad H2 S2 hB => ?_)
  dsimp only
  refine mt_if (fun _ => ?_) (fun _ => ?_)
  · exact mt_ret hB
  · refine mt_gR hB 5 (by decide) (by decide) ?_
    refine mt_ldI hB 5 (by decide) rfl (fun v13 => ?_)
    exact mt_ret hB
def gm_X8_limit (N : Nat) (a1 : Int32) (a2 : Int32) (a3 : Int64) (s : mt_S) : Option (Int64 × mt_S) :=
  Option.bind (gm_X8_act N 10 a1 a2 0 a3 0 s) fun q8 =>
  some (q8.1, q8.2)
set_option maxRecDepth 20000 in
set_option maxHeartbeats 4000000 in
theorem mm_X8_limit {M : Nat} {X : Nat → Prop} {ad : Nat → Nat} {h : ym_H} {s : mt_S} {N : Nat} {a1 : Int32} {a2 : Int32} {a3 : Int64} (hB : mt_B M X ad h s h s) : mt_ok M X h s (fn_X8_limit N (some M) a1 a2 a3 h) (gm_X8_limit N a1 a2 a3 s) := by
  unfold fn_X8_limit gm_X8_limit
  refine mt_ob hB (fun _ => ?_)
  refine mt_call hB (mm_X8_act hB.start) (fun r8 ad H8 S8 hB => ?_)
  dsimp only
  exact mt_ret hB
def gm_X8_lot (N : Nat) (a1 : Int32) (a2 : Int64) (a4 : Int64) (s : mt_S) : Option (Int64 × mt_S) :=
  Option.bind (gm_X8_act N 2 a1 0 0 a2 a4 s) fun q8 =>
  some (q8.1, q8.2)
set_option maxRecDepth 20000 in
set_option maxHeartbeats 4000000 in
theorem mm_X8_lot {M : Nat} {X : Nat → Prop} {ad : Nat → Nat} {h : ym_H} {s : mt_S} {N : Nat} {a1 : Int32} {a2 : Int64} {a4 : Int64} (hB : mt_B M X ad h s h s) : mt_ok M X h s (fn_X8_lot N (some M) a1 a2 a4 h) (gm_X8_lot N a1 a2 a4 s) := by
  unfold fn_X8_lot gm_X8_lot
  refine mt_ob hB (fun _ => ?_)
  refine mt_call hB (mm_X8_act hB.start) (fun r8 ad H8 S8 hB => ?_)
  dsimp only
  exact mt_ret hB
def gm_X8_numbers (N : Nat) (a1 : Int32) (s : mt_S) : Option (Int32 × mt_S) :=
  if a1 = 0 then
    some ((s.1 51 0), s)
  else
    if a1 = 1 then
      some ((s.1 51 0), s)
    else
      some (0, s)
set_option maxRecDepth 20000 in
set_option maxHeartbeats 4000000 in
theorem mm_X8_numbers {M : Nat} {X : Nat → Prop} {ad : Nat → Nat} {h : ym_H} {s : mt_S} {N : Nat} {a1 : Int32} (hB : mt_B M X ad h s h s) : mt_ok M X h s (fn_X8_numbers N (some M) a1 h) (gm_X8_numbers N a1 s) := by
  unfold fn_X8_numbers gm_X8_numbers
  refine mt_if (fun _ => ?_) (fun _ => ?_)
  · refine mt_gI hB 51 (by decide) rfl ?_
    exact mt_ret hB
  · refine mt_if (fun _ => ?_) (fun _ => ?_)
    · refine mt_gI hB 51 (by decide) rfl ?_
      exact mt_ret hB
    · exact mt_ret hB
def gm_X8_open (N : Nat) (a1 : Int32) (s : mt_S) : Option (Int64 × mt_S) :=
  Option.bind (gm_X8_act N 11 a1 0 0 0 0 s) fun q8 =>
  some (q8.1, q8.2)
set_option maxRecDepth 20000 in
set_option maxHeartbeats 4000000 in
theorem mm_X8_open {M : Nat} {X : Nat → Prop} {ad : Nat → Nat} {h : ym_H} {s : mt_S} {N : Nat} {a1 : Int32} (hB : mt_B M X ad h s h s) : mt_ok M X h s (fn_X8_open N (some M) a1 h) (gm_X8_open N a1 s) := by
  unfold fn_X8_open gm_X8_open
  refine mt_ob hB (fun _ => ?_)
  refine mt_call hB (mm_X8_act hB.start) (fun r8 ad H8 S8 hB => ?_)
  dsimp only
  exact mt_ret hB
def gm_X8_pay (N : Nat) (a1 : Int32) (a2 : Int64) (s : mt_S) : Option (Int64 × mt_S) :=
  Option.bind (gm_X8_act N 18 a1 0 0 a2 0 s) fun q8 =>
  some (q8.1, q8.2)
set_option maxRecDepth 20000 in
set_option maxHeartbeats 4000000 in
theorem mm_X8_pay {M : Nat} {X : Nat → Prop} {ad : Nat → Nat} {h : ym_H} {s : mt_S} {N : Nat} {a1 : Int32} {a2 : Int64} (hB : mt_B M X ad h s h s) : mt_ok M X h s (fn_X8_pay N (some M) a1 a2 h) (gm_X8_pay N a1 a2 s) := by
  unfold fn_X8_pay gm_X8_pay
  refine mt_ob hB (fun _ => ?_)
  refine mt_call hB (mm_X8_act hB.start) (fun r8 ad H8 S8 hB => ?_)
  dsimp only
  exact mt_ret hB
def gm_X8_payOut (N : Nat) (a1 : Int32) (a2 : Int64) (s : mt_S) : Option (Int64 × mt_S) :=
  Option.bind (gm_X8_act N 19 a1 0 0 a2 0 s) fun q8 =>
  some (q8.1, q8.2)
set_option maxRecDepth 20000 in
set_option maxHeartbeats 4000000 in
theorem mm_X8_payOut {M : Nat} {X : Nat → Prop} {ad : Nat → Nat} {h : ym_H} {s : mt_S} {N : Nat} {a1 : Int32} {a2 : Int64} (hB : mt_B M X ad h s h s) : mt_ok M X h s (fn_X8_payOut N (some M) a1 a2 h) (gm_X8_payOut N a1 a2 s) := by
  unfold fn_X8_payOut gm_X8_payOut
  refine mt_ob hB (fun _ => ?_)
  refine mt_call hB (mm_X8_act hB.start) (fun r8 ad H8 S8 hB => ?_)
  dsimp only
  exact mt_ret hB
def gm_X8_premium (N : Nat) (a1 : Int64) (a3 : Int32) (s : mt_S) : Option (Int64 × mt_S) :=
  Option.bind (gm_X8_act N 6 a3 0 0 a1 0 s) fun q8 =>
  some (q8.1, q8.2)
set_option maxRecDepth 20000 in
set_option maxHeartbeats 4000000 in
theorem mm_X8_premium {M : Nat} {X : Nat → Prop} {ad : Nat → Nat} {h : ym_H} {s : mt_S} {N : Nat} {a1 : Int64} {a3 : Int32} (hB : mt_B M X ad h s h s) : mt_ok M X h s (fn_X8_premium N (some M) a1 a3 h) (gm_X8_premium N a1 a3 s) := by
  unfold fn_X8_premium gm_X8_premium
  refine mt_ob hB (fun _ => ?_)
  refine mt_call hB (mm_X8_act hB.start) (fun r8 ad H8 S8 hB => ?_)
  dsimp only
  exact mt_ret hB
def gm_X8_reoffer (N : Nat) (a1 : Int32) (a2 : Int64) (s : mt_S) : Option (Int64 × mt_S) :=
  Option.bind (gm_X8_act N 17 a1 0 0 a2 0 s) fun q8 =>
  some (q8.1, q8.2)
set_option maxRecDepth 20000 in
set_option maxHeartbeats 4000000 in
theorem mm_X8_reoffer {M : Nat} {X : Nat → Prop} {ad : Nat → Nat} {h : ym_H} {s : mt_S} {N : Nat} {a1 : Int32} {a2 : Int64} (hB : mt_B M X ad h s h s) : mt_ok M X h s (fn_X8_reoffer N (some M) a1 a2 h) (gm_X8_reoffer N a1 a2 s) := by
  unfold fn_X8_reoffer gm_X8_reoffer
  refine mt_ob hB (fun _ => ?_)
  refine mt_call hB (mm_X8_act hB.start) (fun r8 ad H8 S8 hB => ?_)
  dsimp only
  exact mt_ret hB
def gm_X8_seller (N : Nat) (a1 : Int32) (a2 : Int32) (s : mt_S) : Option (Int64 × mt_S) :=
  Option.bind (gm_X8_act N 3 a1 a2 0 0 0 s) fun q7 =>
  some (q7.1, q7.2)
set_option maxRecDepth 20000 in
set_option maxHeartbeats 4000000 in
theorem mm_X8_seller {M : Nat} {X : Nat → Prop} {ad : Nat → Nat} {h : ym_H} {s : mt_S} {N : Nat} {a1 : Int32} {a2 : Int32} (hB : mt_B M X ad h s h s) : mt_ok M X h s (fn_X8_seller N (some M) a1 a2 h) (gm_X8_seller N a1 a2 s) := by
  unfold fn_X8_seller gm_X8_seller
  refine mt_ob hB (fun _ => ?_)
  refine mt_call hB (mm_X8_act hB.start) (fun r7 ad H7 S7 hB => ?_)
  dsimp only
  exact mt_ret hB
def gm_X8_settle (N : Nat) (a1 : Int32) (s : mt_S) : Option (Int64 × mt_S) :=
  Option.bind (gm_X8_act N 16 a1 0 0 0 0 s) fun q8 =>
  some (q8.1, q8.2)
set_option maxRecDepth 20000 in
set_option maxHeartbeats 4000000 in
theorem mm_X8_settle {M : Nat} {X : Nat → Prop} {ad : Nat → Nat} {h : ym_H} {s : mt_S} {N : Nat} {a1 : Int32} (hB : mt_B M X ad h s h s) : mt_ok M X h s (fn_X8_settle N (some M) a1 h) (gm_X8_settle N a1 s) := by
  unfold fn_X8_settle gm_X8_settle
  refine mt_ob hB (fun _ => ?_)
  refine mt_call hB (mm_X8_act hB.start) (fun r8 ad H8 S8 hB => ?_)
  dsimp only
  exact mt_ret hB
def gm_X8_stands (N : Nat) (a1 : Int32) (s : mt_S) : Option (Int32 × mt_S) :=
  Option.bind (gm_X8_isLot N a1 s) fun q2 =>
  if q2.1 = 0 then
    some ((-1), q2.2)
  else
    Option.bind (gm_X8_standing N a1 q2.2) fun q10 =>
    some (q10.1, q10.2)
set_option maxRecDepth 20000 in
set_option maxHeartbeats 4000000 in
theorem mm_X8_stands {M : Nat} {X : Nat → Prop} {ad : Nat → Nat} {h : ym_H} {s : mt_S} {N : Nat} {a1 : Int32} (hB : mt_B M X ad h s h s) : mt_ok M X h s (fn_X8_stands N (some M) a1 h) (gm_X8_stands N a1 s) := by
  unfold fn_X8_stands gm_X8_stands
  refine mt_ob hB (fun _ => ?_)
  refine mt_call hB (mm_X8_isLot hB.start) (fun r2 ad H2 S2 hB => ?_)
  dsimp only
  refine mt_if (fun _ => ?_) (fun _ => ?_)
  · exact mt_ret hB
  · refine mt_ob hB (fun _ => ?_)
    refine mt_call hB (mm_X8_standing hB.start) (fun r10 ad H10 S10 hB => ?_)
    dsimp only
    exact mt_ret hB
def gm_X8_state (N : Nat) (a1 : Int32) (s : mt_S) : Option (Int32 × mt_S) :=
  Option.bind (gm_X8_isLot N a1 s) fun q2 =>
  if q2.1 = 0 then
    some ((-1), q2.2)
  else
    Option.bind (gm_ldI q2.2 9 a1) fun v13 =>
    some (v13, q2.2)
set_option maxRecDepth 20000 in
set_option maxHeartbeats 4000000 in
theorem mm_X8_state {M : Nat} {X : Nat → Prop} {ad : Nat → Nat} {h : ym_H} {s : mt_S} {N : Nat} {a1 : Int32} (hB : mt_B M X ad h s h s) : mt_ok M X h s (fn_X8_state N (some M) a1 h) (gm_X8_state N a1 s) := by
  unfold fn_X8_state gm_X8_state
  refine mt_ob hB (fun _ => ?_)
  refine mt_call hB (mm_X8_isLot hB.start) (fun r2 ad H2 S2 hB => ?_)
  dsimp only
  refine mt_if (fun _ => ?_) (fun _ => ?_)
  · exact mt_ret hB
  · refine mt_gR hB 9 (by decide) (by decide) ?_
    refine mt_ldI hB 9 (by decide) rfl (fun v13 => ?_)
    exact mt_ret hB
def gm_X8_step (N : Nat) (a1 : Int64) (a3 : Int64) (s : mt_S) : Option (Int64 × mt_S) :=
  Option.bind (gm_X8_act N 5 0 0 0 a1 a3 s) fun q7 =>
  some (q7.1, q7.2)
set_option maxRecDepth 20000 in
set_option maxHeartbeats 4000000 in
theorem mm_X8_step {M : Nat} {X : Nat → Prop} {ad : Nat → Nat} {h : ym_H} {s : mt_S} {N : Nat} {a1 : Int64} {a3 : Int64} (hB : mt_B M X ad h s h s) : mt_ok M X h s (fn_X8_step N (some M) a1 a3 h) (gm_X8_step N a1 a3 s) := by
  unfold fn_X8_step gm_X8_step
  refine mt_ob hB (fun _ => ?_)
  refine mt_call hB (mm_X8_act hB.start) (fun r7 ad H7 S7 hB => ?_)
  dsimp only
  exact mt_ret hB
def gm_X8_sum (N : Nat) (a1 : Int32) (s : mt_S) : Option (Int64 × mt_S) :=
  Option.bind (gm_X8_isLot N a1 s) fun q2 =>
  if q2.1 = 0 then
    some (0, q2.2)
  else
    Option.bind (gm_X8_standingSum N a1 q2.2) fun q10 =>
    some (q10.1, q10.2)
set_option maxRecDepth 20000 in
set_option maxHeartbeats 4000000 in
theorem mm_X8_sum {M : Nat} {X : Nat → Prop} {ad : Nat → Nat} {h : ym_H} {s : mt_S} {N : Nat} {a1 : Int32} (hB : mt_B M X ad h s h s) : mt_ok M X h s (fn_X8_sum N (some M) a1 h) (gm_X8_sum N a1 s) := by
  unfold fn_X8_sum gm_X8_sum
  refine mt_ob hB (fun _ => ?_)
  refine mt_call hB (mm_X8_isLot hB.start) (fun r2 ad H2 S2 hB => ?_)
  dsimp only
  refine mt_if (fun _ => ?_) (fun _ => ?_)
  · exact mt_ret hB
  · refine mt_ob hB (fun _ => ?_)
    refine mt_call hB (mm_X8_standingSum hB.start) (fun r10 ad H10 S10 hB => ?_)
    dsimp only
    exact mt_ret hB
def gm_X8_sumAt (N : Nat) (a1 : Int32) (a2 : Int32) (s : mt_S) : Option (Int64 × mt_S) :=
  Option.bind (gm_X8_act N 22 a1 a2 0 0 0 s) fun q8 =>
  some (q8.1, q8.2)
set_option maxRecDepth 20000 in
set_option maxHeartbeats 4000000 in
theorem mm_X8_sumAt {M : Nat} {X : Nat → Prop} {ad : Nat → Nat} {h : ym_H} {s : mt_S} {N : Nat} {a1 : Int32} {a2 : Int32} (hB : mt_B M X ad h s h s) : mt_ok M X h s (fn_X8_sumAt N (some M) a1 a2 h) (gm_X8_sumAt N a1 a2 s) := by
  unfold fn_X8_sumAt gm_X8_sumAt
  refine mt_ob hB (fun _ => ?_)
  refine mt_call hB (mm_X8_act hB.start) (fun r8 ad H8 S8 hB => ?_)
  dsimp only
  exact mt_ret hB
def gm_X8_take (N : Nat) (a1 : Int32) (a2 : Int32) (s : mt_S) : Option (Int64 × mt_S) :=
  Option.bind (gm_X8_act N 13 a1 a2 0 0 0 s) fun q8 =>
  some (q8.1, q8.2)
set_option maxRecDepth 20000 in
set_option maxHeartbeats 4000000 in
theorem mm_X8_take {M : Nat} {X : Nat → Prop} {ad : Nat → Nat} {h : ym_H} {s : mt_S} {N : Nat} {a1 : Int32} {a2 : Int32} (hB : mt_B M X ad h s h s) : mt_ok M X h s (fn_X8_take N (some M) a1 a2 h) (gm_X8_take N a1 a2 s) := by
  unfold fn_X8_take gm_X8_take
  refine mt_ob hB (fun _ => ?_)
  refine mt_call hB (mm_X8_act hB.start) (fun r8 ad H8 S8 hB => ?_)
  dsimp only
  exact mt_ret hB
def gm_X8_tax (N : Nat) (a1 : Int32) (a2 : Int32) (s : mt_S) : Option (Int64 × mt_S) :=
  Option.bind (gm_X8_act N 7 a1 a2 0 0 0 s) fun q8 =>
  some (q8.1, q8.2)
set_option maxRecDepth 20000 in
set_option maxHeartbeats 4000000 in
theorem mm_X8_tax {M : Nat} {X : Nat → Prop} {ad : Nat → Nat} {h : ym_H} {s : mt_S} {N : Nat} {a1 : Int32} {a2 : Int32} (hB : mt_B M X ad h s h s) : mt_ok M X h s (fn_X8_tax N (some M) a1 a2 h) (gm_X8_tax N a1 a2 s) := by
  unfold fn_X8_tax gm_X8_tax
  refine mt_ob hB (fun _ => ?_)
  refine mt_call hB (mm_X8_act hB.start) (fun r8 ad H8 S8 hB => ?_)
  dsimp only
  exact mt_ret hB
def gm_X8_tick (N : Nat) (a1 : Int32) (a2 : Int64) (s : mt_S) : Option (Int64 × mt_S) :=
  Option.bind (gm_X8_act N 12 a1 0 0 a2 0 s) fun q8 =>
  some (q8.1, q8.2)
set_option maxRecDepth 20000 in
set_option maxHeartbeats 4000000 in
theorem mm_X8_tick {M : Nat} {X : Nat → Prop} {ad : Nat → Nat} {h : ym_H} {s : mt_S} {N : Nat} {a1 : Int32} {a2 : Int64} (hB : mt_B M X ad h s h s) : mt_ok M X h s (fn_X8_tick N (some M) a1 a2 h) (gm_X8_tick N a1 a2 s) := by
  unfold fn_X8_tick gm_X8_tick
  refine mt_ob hB (fun _ => ?_)
  refine mt_call hB (mm_X8_act hB.start) (fun r8 ad H8 S8 hB => ?_)
  dsimp only
  exact mt_ret hB
def gl_X8_total_23 (Kl : Int64 → Int32 → mt_S → Option ((Int64) × mt_S)) (N : Nat) (w1 : Int64) (w3 : Int32) (s : mt_S) : Option ((Int64) × mt_S) :=
  if (s.1 0 0) ≤ w3 then
    some (w1, s)
  else
    Option.bind (gm_ldL s 3 w3) fun v37 =>
    Kl (w1 + v37) (w3 + 1) s
set_option maxRecDepth 20000 in
set_option maxHeartbeats 4000000 in
theorem mm_lb_X8_total_23 {M : Nat} {X : Nat → Prop} {ad : Nat → Nat} {H0 h : ym_H} {S0 s : mt_S} {K : Option Nat → Int64 → Int32 → ym_H → Option ((Int64) × ym_H)} {Kl : Int64 → Int32 → mt_S → Option ((Int64) × mt_S)} (hKl : ∀ (w1 : Int64) (w3 : Int32) (ad : Nat → Nat) (h : ym_H) (s : mt_S), mt_B M X ad H0 S0 h s → mt_ok M X H0 S0 (K (some M) w1 w3 h) (Kl w1 w3 s)) {N : Nat} {w1 : Int64} {w3 : Int32} (hB : mt_B M X ad H0 S0 h s) : mt_ok M X H0 S0 (lb_X8_total_23 K N (some M) w1 w3 h) (gl_X8_total_23 Kl N w1 w3 s) := by
  unfold lb_X8_total_23 gl_X8_total_23
  refine mt_gI hB 0 (by decide) rfl ?_
  refine mt_if (fun _ => ?_) (fun _ => ?_)
  · exact mt_ret hB
  · refine mt_gR hB 3 (by decide) (by decide) ?_
    refine mt_ldL hB 3 (by decide) rfl (fun v37 => ?_)
    exact hKl _ _ _ _ _ hB
def gp_X8_total_23 (N : Nat) : Nat → Int64 → Int32 → mt_S → Option ((Int64) × mt_S)
  | 0, _, _, _ => none
  | n + 1, w1, w3, s => gl_X8_total_23 (gp_X8_total_23 N n) N w1 w3 s
theorem mm_lp_X8_total_23 {M : Nat} {X : Nat → Prop} {H0 : ym_H} {S0 : mt_S} {N : Nat} : ∀ (n : Nat) (ad : Nat → Nat) (h : ym_H) (s : mt_S) (w1 : Int64) (w3 : Int32), mt_B M X ad H0 S0 h s → mt_ok M X H0 S0 (lp_X8_total_23 N n (some M) w1 w3 h) (gp_X8_total_23 N n w1 w3 s) := by
  intro n
  induction n with
  | zero => intro ad h s w1 w3 hB; exact mt_no
  | succ n ih =>
    intro ad h s w1 w3 hB
    exact mm_lb_X8_total_23 (fun w1 w3 ad h s hB => ih ad h s w1 w3 hB) hB
def gm_X8_total (N : Nat)  (s : mt_S) : Option (Int64 × mt_S) :=
  Option.bind (gm_ldL s 40 0) fun v5 =>
  Option.bind (gm_ldL s 40 1) fun v11 =>
  Option.bind (gm_ldL s 40 2) fun v18 =>
  Option.bind (gp_X8_total_23 N N ((v5 + v11) + v18) 0 s) fun q23 =>
  some (q23.1, q23.2)
set_option maxRecDepth 20000 in
set_option maxHeartbeats 4000000 in
theorem mm_X8_total {M : Nat} {X : Nat → Prop} {ad : Nat → Nat} {h : ym_H} {s : mt_S} {N : Nat}  (hB : mt_B M X ad h s h s) : mt_ok M X h s (fn_X8_total N (some M) h) (gm_X8_total N  s) := by
  unfold fn_X8_total gm_X8_total
  refine mt_gR hB 40 (by decide) (by decide) ?_
  refine mt_ldL hB 40 (by decide) rfl (fun v5 => ?_)
  refine mt_gR hB 40 (by decide) (by decide) ?_
  refine mt_ldL hB 40 (by decide) rfl (fun v11 => ?_)
  refine mt_gR hB 40 (by decide) (by decide) ?_
  refine mt_ldL hB 40 (by decide) rfl (fun v18 => ?_)
  refine mt_call hB (mm_lp_X8_total_23 N _ _ _ _ _ hB.start) (fun r23 ad H23 S23 hB => ?_)
  dsimp only
  exact mt_ret hB
def gm_X8_trace (N : Nat) (a1 : Int32) (s : mt_S) : Option (Int32 × mt_S) :=
  if a1 < 0 then
    some (0, s)
  else
    if a1 < (s.1 55 0) then
      Option.bind (gm_ldI s 54 a1) fun v21 =>
      some (v21, s)
    else
      some (0, s)
set_option maxRecDepth 20000 in
set_option maxHeartbeats 4000000 in
theorem mm_X8_trace {M : Nat} {X : Nat → Prop} {ad : Nat → Nat} {h : ym_H} {s : mt_S} {N : Nat} {a1 : Int32} (hB : mt_B M X ad h s h s) : mt_ok M X h s (fn_X8_trace N (some M) a1 h) (gm_X8_trace N a1 s) := by
  unfold fn_X8_trace gm_X8_trace
  refine mt_if (fun _ => ?_) (fun _ => ?_)
  · exact mt_ret hB
  · refine mt_gI hB 55 (by decide) rfl ?_
    refine mt_if (fun _ => ?_) (fun _ => ?_)
    · refine mt_gR hB 54 (by decide) (by decide) ?_
      refine mt_ldI hB 54 (by decide) rfl (fun v21 => ?_)
      exact mt_ret hB
    · exact mt_ret hB
def gm_X8_tries (N : Nat)  (s : mt_S) : Option (Int32 × mt_S) :=
  some ((s.1 52 0), s)
set_option maxRecDepth 20000 in
set_option maxHeartbeats 4000000 in
theorem mm_X8_tries {M : Nat} {X : Nat → Prop} {ad : Nat → Nat} {h : ym_H} {s : mt_S} {N : Nat}  (hB : mt_B M X ad h s h s) : mt_ok M X h s (fn_X8_tries N (some M) h) (gm_X8_tries N  s) := by
  unfold fn_X8_tries gm_X8_tries
  refine mt_gI hB 52 (by decide) rfl ?_
  exact mt_ret hB
def gm_X8_undo (N : Nat)  (s : mt_S) : Option (Int64 × mt_S) :=
  Option.bind (gm_X8_act N 25 0 0 0 0 0 s) fun q8 =>
  some (q8.1, q8.2)
set_option maxRecDepth 20000 in
set_option maxHeartbeats 4000000 in
theorem mm_X8_undo {M : Nat} {X : Nat → Prop} {ad : Nat → Nat} {h : ym_H} {s : mt_S} {N : Nat}  (hB : mt_B M X ad h s h s) : mt_ok M X h s (fn_X8_undo N (some M) h) (gm_X8_undo N  s) := by
  unfold fn_X8_undo gm_X8_undo
  refine mt_ob hB (fun _ => ?_)
  refine mt_call hB (mm_X8_act hB.start) (fun r8 ad H8 S8 hB => ?_)
  dsimp only
  exact mt_ret hB
def gm_X8_why (N : Nat)  (s : mt_S) : Option (Int32 × mt_S) :=
  some ((s.1 53 0), s)
set_option maxRecDepth 20000 in
set_option maxHeartbeats 4000000 in
theorem mm_X8_why {M : Nat} {X : Nat → Prop} {ad : Nat → Nat} {h : ym_H} {s : mt_S} {N : Nat}  (hB : mt_B M X ad h s h s) : mt_ok M X h s (fn_X8_why N (some M) h) (gm_X8_why N  s) := by
  unfold fn_X8_why gm_X8_why
  refine mt_gI hB 53 (by decide) rfl ?_
  exact mt_ret hB
