/-! questions, and what the reference answers -/
def q_lot {α : Type} (D : pd) (l : Int32) (z : α) (f : Nat → α) : α := if sp_noLot D l = 0 then f (ix l) else z
def q_bid {α : Type} (D : pd) (b : Int32) (z : α) (f : Nat → α) : α := if sp_noBid D b = 0 then f (ix b) else z
def q_entries (D : pd) (l : Nat) : Int32 := if D.facts l 2 = 0 then -1 else nI (D.nE l)
def q_cause (D : pd) (l : Int32) (w : Int32) : Int32 := q_lot D l 0 fun l => if w = 0 then (D.facts l 9).toInt32 else if w = 1 then (D.facts l 10).toInt32 else 0
def q_acc (D : pd) (w : Int32) : Int64 := if w < 0 then 0 else if w ≤ 2 then D.room (2 + ix w) else 0
def q_tot (D : pd) : Nat → Int64
  | 0 => D.room 2 + D.room 3 + D.room 4
  | k + 1 => q_tot D k + D.bal k 0
def q_dgB (D : pd) : Nat → Int64
  | 0 => 217 + (nI D.nb).toInt64
  | k + 1 => (q_dgB D k * 31 + (D.bkind k).toInt64) * 31 + D.bal k 0
def q_dgL (D : pd) : Nat → Int64
  | 0 => q_dgB D D.nb * 31 + (nI D.nl).toInt64
  | k + 1 => ((((((q_dgL D k * 31 + (D.kind k).toInt64) * 31 + (D.facts k 2).toInt32.toInt64) * 31 + (sp_stand D k).toInt64) * 31 + sp_ssum D k) * 31 + (q_entries D k).toInt64) * 31 + (nI (D.nS k)).toInt64) * 31 + (nI (D.nL k)).toInt64
def q_dig (D : pd) : Int64 := (((((q_dgL D D.nl * 31 + D.room 2) * 31 + D.room 3) * 31 + D.room 4) * 31 + (nI (cn (D.st 0))).toInt64) * 31 + (nI (cn (D.br 0))).toInt64)
def q_num (a : ab) (w : Int32) : Int32 := if w = 0 ∨ w = 1 then nI a.num else 0
def q_trace (cs : List Int32) (i : Int32) : Int32 := if i < 0 then 0 else (cs[ix i]?).getD 0
section QR
variable {N : Nat} {s : mt_S} {D : pd} {e M : Nat}
theorem r_isLot (h : rv s D e) {l : Int32} : gm_X8_isLot N l s = some (if sp_noLot D l = 0 then 1 else 0, s) := by
  unfold gm_X8_isLot
  rw [w_noLot h, Option.bind_some]
  dsimp only
  split <;> rfl
theorem r_isBid (h : rv s D e) {l : Int32} : gm_X8_isBidder N l s = some (if sp_noBid D l = 0 then 1 else 0, s) := by
  unfold gm_X8_isBidder
  rw [w_noBid h, Option.bind_some]
  dsimp only
  split <;> rfl
theorem r_lot {α : Type} (hp : pi D M) {l : Int32} {z : α} {f : Nat → α} {g : Option (α × mt_S)} (hg : ∀ m, l = nI m → m < D.nl → g = some (f m, s)) : (if (if sp_noLot D l = 0 then (1 : Int32) else 0) = 0 then some (z, s) else g) = some (q_lot D l z f, s) := by
  unfold q_lot
  by_cases c : sp_noLot D l = 0
  · obtain ⟨x, y⟩ := noLot0 hp.l0.2 c
    rw [if_pos c, if_neg (by decide), if_pos c]
    exact hg _ x y
  · rw [if_neg c, if_pos rfl, if_neg c]
theorem r_bid {α : Type} (hp : pi D M) {l : Int32} {z : α} {f : Nat → α} {g : Option (α × mt_S)} (hg : ∀ m, l = nI m → m < D.nb → g = some (f m, s)) : (if (if sp_noBid D l = 0 then (1 : Int32) else 0) = 0 then some (z, s) else g) = some (q_bid D l z f, s) := by
  unfold q_bid
  by_cases c : sp_noBid D l = 0
  · obtain ⟨x, y⟩ := noBid0 hp.b0.2 c
    rw [if_pos c, if_neg (by decide), if_pos c]
    exact hg _ x y
  · rw [if_neg c, if_pos rfl, if_neg c]
theorem r_kindOf (h : rv s D e) (hp : pi D M) {l : Int32} : gm_X8_kindOf N l s = some (q_lot D l 0 D.kind, s) := by
  unfold gm_X8_kindOf
  rw [r_isLot h, Option.bind_some]
  refine r_lot hp (fun m hm hl => ?_)
  rw [hm, rd5 h hl hp.l0.2, Option.bind_some]
theorem r_bidderKind (h : rv s D e) (hp : pi D M) {l : Int32} : gm_X8_bidderKind N l s = some (q_bid D l 0 D.bkind, s) := by
  unfold gm_X8_bidderKind
  rw [r_isBid h, Option.bind_some]
  refine r_bid hp (fun m hm hl => ?_)
  rw [hm, rd1 h hl hp.b0.2, Option.bind_some]
theorem r_balance (h : rv s D e) (hp : pi D M) {l : Int32} : gm_X8_balance N l s = some (q_bid D l 0 (fun b => D.bal b 0), s) := by
  unfold gm_X8_balance
  rw [r_isBid h, Option.bind_some]
  refine r_bid hp (fun m hm hl => ?_)
  rw [hm, rd3 h hl hp.b0.2, Option.bind_some]
theorem r_state (h : rv s D e) (hp : pi D M) {l : Int32} : gm_X8_state N l s = some (q_lot D l (-1) (fun l => (D.facts l 2).toInt32), s) := by
  unfold gm_X8_state
  rw [r_isLot h, Option.bind_some]
  refine r_lot hp (fun m hm hl => ?_)
  rw [hm, rd9 h hl hp.l0.2, Option.bind_some]
theorem r_stands (h : rv s D e) (hp : pi D M) (he : e < 1990) {l : Int32} : gm_X8_stands N l s = some (q_lot D l (-1) (sp_stand D), s) := by
  unfold gm_X8_stands
  rw [r_isLot h, Option.bind_some]
  refine r_lot hp (fun m hm hl => ?_)
  rw [hm, w_stand h hp hl (by omega), Option.bind_some]
theorem r_sum (h : rv s D e) (hp : pi D M) (he : e < 1990) {l : Int32} : gm_X8_sum N l s = some (q_lot D l 0 (sp_ssum D), s) := by
  unfold gm_X8_sum
  rw [r_isLot h, Option.bind_some]
  refine r_lot hp (fun m hm hl => ?_)
  rw [hm, w_ssum h hp hl (by omega), Option.bind_some]
theorem r_entries (h : rv s D e) (hp : pi D M) {l : Int32} : gm_X8_entries N l s = some (q_lot D l (-1) (q_entries D), s) := by
  unfold gm_X8_entries
  rw [r_isLot h, Option.bind_some]
  refine r_lot hp (fun m hm hl => ?_)
  rw [hm, rd13 h hl hp.l0.2, Option.bind_some]
  rfl
theorem r_cause (h : rv s D e) (hp : pi D M) {l w : Int32} : gm_X8_cause N l w s = some (q_cause D l w, s) := by
  unfold gm_X8_cause q_cause
  rw [r_isLot h, Option.bind_some]
  refine r_lot hp (fun m hm hl => ?_)
  rw [hm]
  dsimp only
  rw [rd28 h hl hp.l0.2, Option.bind_some, rd29 h hl hp.l0.2, Option.bind_some]
  by_cases c : w = 0
  · rw [if_pos c, if_pos c]
  · rw [if_neg c, if_neg c]
    by_cases c1 : w = 1
    · rw [if_pos c1, if_pos c1]
    · rw [if_neg c1, if_neg c1]
theorem r_acc (h : rv s D e) {w : Int32} : gm_X8_account N w s = some (q_acc D w, s) := by
  unfold gm_X8_account q_acc
  by_cases c : w < 0
  · rw [if_pos c, if_pos c]
  · rw [if_neg c, if_neg c]
    by_cases c1 : w ≤ 2
    · rw [if_pos c1, if_pos c1]
      obtain ⟨x, y⟩ := cz_of c
      have lt : ix w < 3 := by
        rw [x, show (2 : Int32) = nI 2 from rfl, cz_le y (by omega)] at c1
        omega
      have r := rd40 h lt
      rw [← x] at r
      rw [r, Option.bind_some]
    · rw [if_neg c1, if_neg c1]
theorem r_totL (h : rv s D e) (h2 : D.nb ≤ 200) : ∀ (d k n : Nat), k + d = D.nb → d < n → gp_X8_total_23 N n (q_tot D k) (nI k) s = some (q_tot D D.nb, s) := by
  intro d
  induction d with
  | zero =>
    intro k n hk hn
    obtain ⟨n, rfl⟩ : ∃ m, n = m + 1 := ⟨n - 1, by omega⟩
    unfold gp_X8_total_23 gl_X8_total_23
    rw [h.nb, if_pos (by rw [cz_le (by omega) (by omega)]; omega), show k = D.nb from by omega]
  | succ d ih =>
    intro k n hk hn
    obtain ⟨n, rfl⟩ : ∃ m, n = m + 1 := ⟨n - 1, by omega⟩
    unfold gp_X8_total_23 gl_X8_total_23
    rw [h.nb, if_neg (by rw [cz_le (by omega) (by omega)]; omega), rd3 h (by omega) h2, Option.bind_some, show (1 : Int32) = nI 1 from rfl, cz_add]
    exact ih (k + 1) n (by omega) (by omega)
theorem r_total (h : rv s D e) (h2 : D.nb ≤ 200) (hN : 5000 ≤ N) : gm_X8_total N s = some (q_tot D D.nb, s) := by
  unfold gm_X8_total
  rw [show (0 : Int32) = nI 0 from rfl, show (1 : Int32) = nI 1 from rfl, show (2 : Int32) = nI 2 from rfl, rd40 h (by omega), Option.bind_some, rd40 h (by omega), Option.bind_some, rd40 h (by omega), Option.bind_some]
  have q := r_totL (N := N) h h2 D.nb 0 N (by omega) (by omega)
  rw [show q_tot D 0 = D.room (2 + 0) + D.room (2 + 1) + D.room (2 + 2) from rfl] at q
  rw [q, Option.bind_some]
theorem r_dgB (h : rv s D e) (h2 : D.nb ≤ 200) : ∀ (d k n : Nat), k + d = D.nb → d < n → gp_X8_digest_12 N n (q_dgB D k) (nI k) s = some (q_dgB D D.nb, s) := by
  intro d
  induction d with
  | zero =>
    intro k n hk hn
    obtain ⟨n, rfl⟩ : ∃ m, n = m + 1 := ⟨n - 1, by omega⟩
    unfold gp_X8_digest_12 gl_X8_digest_12
    rw [h.nb, if_pos (by rw [cz_le (by omega) (by omega)]; omega), show k = D.nb from by omega]
  | succ d ih =>
    intro k n hk hn
    obtain ⟨n, rfl⟩ : ∃ m, n = m + 1 := ⟨n - 1, by omega⟩
    unfold gp_X8_digest_12 gl_X8_digest_12
    rw [h.nb, if_neg (by rw [cz_le (by omega) (by omega)]; omega), rd1 h (by omega) h2, Option.bind_some, rd3 h (by omega) h2, Option.bind_some, show (1 : Int32) = nI 1 from rfl, cz_add]
    exact ih (k + 1) n (by omega) (by omega)
theorem r_dgL (h : rv s D e) (hp : pi D M) (he : e < 1990) : ∀ (d k n : Nat), k + d = D.nl → d < n → gp_X8_digest_65 N n (q_dgL D k) (nI k) s = some (q_dgL D D.nl, s) := by
  have h4 := hp.l0.2
  intro d
  induction d with
  | zero =>
    intro k n hk hn
    obtain ⟨n, rfl⟩ : ∃ m, n = m + 1 := ⟨n - 1, by omega⟩
    unfold gp_X8_digest_65 gl_X8_digest_65
    rw [h.nl, if_pos (by rw [cz_le (by omega) (by omega)]; omega), show k = D.nl from by omega]
  | succ d ih =>
    intro k n hk hn
    obtain ⟨n, rfl⟩ : ∃ m, n = m + 1 := ⟨n - 1, by omega⟩
    have hl : k < D.nl := by omega
    unfold gp_X8_digest_65 gl_X8_digest_65
    rw [h.nl, if_neg (by rw [cz_le (by omega) (by omega)]; omega), rd5 h hl h4, Option.bind_some, rd9 h hl h4, Option.bind_some, w_stand h hp hl (by omega), Option.bind_some]
    dsimp only
    rw [w_ssum h hp hl (by omega), Option.bind_some]
    dsimp only
    rw [rd13 h hl h4, Option.bind_some, rd12 h hl h4, Option.bind_some, rd19 h hl h4, Option.bind_some, show (1 : Int32) = nI 1 from rfl, cz_add]
    exact ih (k + 1) n (by omega) (by omega)
theorem r_dig (h : rv s D e) (hp : pi D M) (he : e < 1990) (hN : 5000 ≤ N) : gm_X8_digest N s = some (q_dig D, s) := by
  unfold gm_X8_digest
  have h2 := hp.b0.2
  have h4 := hp.l0.2
  rw [h.nb]
  have q1 := r_dgB (N := N) h h2 D.nb 0 N (by omega) (by omega)
  rw [show q_dgB D 0 = 217 + (nI D.nb).toInt64 from rfl] at q1
  rw [show (0 : Int32) = nI 0 from rfl, q1, Option.bind_some]
  dsimp only
  rw [h.nl]
  have q2 := r_dgL (N := N) h hp he D.nl 0 N (by omega) (by omega)
  rw [show q_dgL D 0 = q_dgB D D.nb * 31 + (nI D.nl).toInt64 from rfl] at q2
  rw [q2, Option.bind_some]
  dsimp only
  obtain ⟨n, rfl⟩ : ∃ m, N = m + 4 := ⟨N - 4, by omega⟩
  have q3 : ∀ d, gp_X8_digest_170 (n + 4) (n + 4) d (nI 0) s = some (((d * 31 + D.room 2) * 31 + D.room 3) * 31 + D.room 4, s) := by
    intro d
    show gl_X8_digest_170 (gp_X8_digest_170 (n + 4) (n + 3)) (n + 4) d (nI 0) s = _
    unfold gl_X8_digest_170
    rw [if_neg (by decide), rd40 h (k := 0) (by omega), Option.bind_some, show nI 0 + 1 = nI 1 from rfl]
    show gl_X8_digest_170 (gp_X8_digest_170 (n + 4) (n + 2)) (n + 4) _ (nI 1) s = _
    unfold gl_X8_digest_170
    rw [if_neg (by decide), rd40 h (k := 1) (by omega), Option.bind_some, show nI 1 + 1 = nI 2 from rfl]
    show gl_X8_digest_170 (gp_X8_digest_170 (n + 4) (n + 1)) (n + 4) _ (nI 2) s = _
    unfold gl_X8_digest_170
    rw [if_neg (by decide), rd40 h (k := 2) (by omega), Option.bind_some, show nI 2 + 1 = nI 3 from rfl]
    show gl_X8_digest_170 (gp_X8_digest_170 (n + 4) n) (n + 4) _ (nI 3) s = _
    unfold gl_X8_digest_170
    rw [if_pos (by decide)]
  rw [q3, Option.bind_some]
  dsimp only
  rw [h.st.1, h.br.1]
  rfl
theorem r_trace {cs : List Int32} (h : rC s cs) {i : Int32} : gm_X8_trace N i s = some (q_trace cs i, s) := by
  unfold gm_X8_trace q_trace
  obtain ⟨c1, c2, c3, c4⟩ := h
  by_cases c : i < 0
  · rw [if_pos c, if_pos c]
  · rw [if_neg c, if_neg c, c2]
    obtain ⟨x, y⟩ := cz_of c
    by_cases c5 : ix i < cs.length
    · rw [if_pos (by rw [x, cz_lt y (by omega)]; exact c5)]
      have r := gm_rdI (s := s) (k := 54) (i := ix i) (by omega) y
      rw [← x] at r
      rw [r, Option.bind_some, c4 _ c5, List.getElem?_eq_getElem c5]
      rfl
    · rw [if_neg (by rw [x, cz_lt y (by omega)]; exact c5), List.getElem?_eq_none (by omega)]
      rfl
end QR
