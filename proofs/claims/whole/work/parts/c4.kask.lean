/-! questions, and what the class answers -/
section KQ
variable {N : Nat} {k0 k : mt_S} {D : pd} {J0 E : List je} {cs : List Int32} {g n M : Nat}
theorem x_kindOf (h : cw k0 k D J0 E cs g n) (hp : pi D M) {l : Int32} : gk_X7_kindOf N l k = some (q_lot D l 0 D.kind, k) := by
  unfold gk_X7_kindOf q_lot
  rw [c_lotAt h hp, Option.bind_some]
  dsimp only
  by_cases c : sp_noLot D l = 0
  · obtain ⟨x, hl⟩ := noLot0 hp.l0.2 c
    rw [if_pos c, if_pos c]
    dsimp only
    rw [c_lot h hl, Option.bind_some, (h.kd.l _ hl).1]
  · rw [if_neg c, if_neg c]
theorem x_bidderKind (h : cw k0 k D J0 E cs g n) (hp : pi D M) {l : Int32} : gk_X7_bidderKind N l k = some (q_bid D l 0 D.bkind, k) := by
  unfold gk_X7_bidderKind q_bid
  rw [c_bidW h hp, Option.bind_some]
  dsimp only
  by_cases c : sp_noBid D l = 0
  · obtain ⟨x, hl⟩ := noBid0 hp.b0.2 c
    rw [if_pos c, if_pos c]
    dsimp only
    rw [c_bid h hl, Option.bind_some, (h.kd.b _ hl).1]
  · rw [if_neg c, if_neg c]
theorem x_balance (h : cw k0 k D J0 E cs g n) (hp : pi D M) {l : Int32} : gk_X7_balance N l k = some (q_bid D l 0 (fun b => D.bal b 0), k) := by
  unfold gk_X7_balance q_bid
  rw [c_bidW h hp, Option.bind_some]
  dsimp only
  by_cases c : sp_noBid D l = 0
  · obtain ⟨x, hl⟩ := noBid0 hp.b0.2 c
    rw [if_pos c, if_pos c]
    dsimp only
    rw [c_bid h hl, Option.bind_some]
    unfold gk_X0_balanceNow
    rw [c_bid h hl, Option.bind_some, h.cel (dmB hl), Option.bind_some, c_B h hl hp.b0.2, Option.bind_some, Option.bind_some]
  · rw [if_neg c, if_neg c]
theorem x_state (h : cw k0 k D J0 E cs g n) (hp : pi D M) {l : Int32} : gk_X7_state N l k = some (q_lot D l (-1) (fun l => (D.facts l 2).toInt32), k) := by
  unfold gk_X7_state q_lot
  rw [c_lotAt h hp, Option.bind_some]
  dsimp only
  by_cases c : sp_noLot D l = 0
  · obtain ⟨x, hl⟩ := noLot0 hp.l0.2 c
    rw [if_pos c, if_pos c]
    dsimp only
    rw [c_lot h hl, Option.bind_some, c_state h hl, Option.bind_some]
  · rw [if_neg c, if_neg c]
theorem x_stands (h : cw k0 k D J0 E cs g n) (hp : pi D M) {l : Int32} : gk_X7_stands N l k = some (q_lot D l (-1) (sp_stand D), k) := by
  unfold gk_X7_stands q_lot
  rw [c_lotAt h hp, Option.bind_some]
  dsimp only
  by_cases c : sp_noLot D l = 0
  · obtain ⟨x, hl⟩ := noLot0 hp.l0.2 c
    rw [if_pos c, if_pos c]
    dsimp only
    rw [c_lot h hl, Option.bind_some, c_stand h hp hl, Option.bind_some]
  · rw [if_neg c, if_neg c]
theorem x_sum (h : cw k0 k D J0 E cs g n) (hp : pi D M) {l : Int32} : gk_X7_sum N l k = some (q_lot D l 0 (sp_ssum D), k) := by
  unfold gk_X7_sum q_lot
  rw [c_lotAt h hp, Option.bind_some]
  dsimp only
  by_cases c : sp_noLot D l = 0
  · obtain ⟨x, hl⟩ := noLot0 hp.l0.2 c
    rw [if_pos c, if_pos c]
    dsimp only
    rw [c_lot h hl, Option.bind_some, c_ssum h hp hl, Option.bind_some]
  · rw [if_neg c, if_neg c]
theorem x_entries (h : cw k0 k D J0 E cs g n) (hp : pi D M) {l : Int32} : gk_X7_entries N l k = some (q_lot D l (-1) (q_entries D), k) := by
  unfold gk_X7_entries q_lot
  rw [c_lotAt h hp, Option.bind_some]
  dsimp only
  by_cases c : sp_noLot D l = 0
  · obtain ⟨x, hl⟩ := noLot0 hp.l0.2 c
    rw [if_pos c, if_pos c]
    dsimp only
    rw [c_lot h hl, Option.bind_some, c_hasBook h hp hl, Option.bind_some]
    dsimp only
    unfold q_entries
    by_cases z : D.facts (ix l) 2 = 0
    · rw [if_pos (show (if D.facts (ix l) 2 = 0 then (0 : Int32) else 1) = 0 from if_pos z), if_pos z]
    · rw [if_neg (show ¬ (if D.facts (ix l) 2 = 0 then (0 : Int32) else 1) = 0 by rw [if_neg z]; decide), if_neg z, c_lot h hl, Option.bind_some, c_sheL h hl (by omega), Option.bind_some, c_rowE h hp hl, Option.bind_some]
  · rw [if_neg c, if_neg c]
theorem x_cause (h : cw k0 k D J0 E cs g n) (hp : pi D M) {l w : Int32} : gk_X7_cause N l w k = some (q_cause D l w, k) := by
  unfold gk_X7_cause q_cause q_lot
  rw [c_lotAt h hp, Option.bind_some]
  dsimp only
  by_cases c : sp_noLot D l = 0
  · obtain ⟨x, hl⟩ := noLot0 hp.l0.2 c
    rw [if_pos c, if_pos c]
    dsimp only
    rw [c_lot h hl, Option.bind_some, Option.bind_some, h.cel (dmF hl), Option.bind_some, Option.bind_some, c_F (q := 9) (p := 9) h hl rfl (by omega), Option.bind_some, c_F (q := 10) (p := 10) h hl rfl (by omega), Option.bind_some]
    by_cases c0 : w = 0
    · rw [if_pos c0, if_pos c0]
    · rw [if_neg c0, if_neg c0]
      by_cases c1 : w = 1
      · rw [if_pos c1, if_pos c1]
      · rw [if_neg c1, if_neg c1]
  · rw [if_neg c, if_neg c]
theorem x_acc (h : cw k0 k D J0 E cs g n) {w : Int32} : gk_X7_account N w k = some (q_acc D w, k) := by
  unfold gk_X7_account q_acc
  by_cases c : w < 0
  · rw [if_pos c, if_pos c]
  · rw [if_neg c, if_neg c]
    by_cases c1 : w ≤ 2
    · rw [if_pos c1, if_pos c1]
      obtain ⟨x, y⟩ := cz_of c
      have lt : ix w < 3 := by
        rw [x, show (2 : Int32) = nI 2 from rfl, cz_le y (by omega)] at c1
        omega
      have e2 : 2 + w = nI (2 + ix w) := by
        have : (2 : Int32) + nI (ix w) = nI (2 + ix w) := cz_add 2 _
        rw [← x] at this
        exact this
      rw [h.cel (dmR (by omega)), Option.bind_some, c_R (p := 2 + ix w) h e2 (by omega), Option.bind_some]
    · rw [if_neg c1, if_neg c1]
theorem x_totL (h : cw k0 k D J0 E cs g n) (hp : pi D M) : ∀ (d i f : Nat), i + d = D.nb → d < f → gkp_X7_total_35 N f (q_tot D i) (nI D.nb) (nI i) k = some (q_tot D D.nb, k) := by
  have h2 := hp.b0.2
  intro d
  induction d with
  | zero =>
    intro i f hi hf
    obtain ⟨f, rfl⟩ : ∃ m, f = m + 1 := ⟨f - 1, by omega⟩
    unfold gkp_X7_total_35 gkl_X7_total_35
    rw [if_pos (by rw [cz_le (by omega) (by omega)]; omega), show i = D.nb from by omega]
  | succ d ih =>
    intro i f hi hf
    obtain ⟨f, rfl⟩ : ∃ m, f = m + 1 := ⟨f - 1, by omega⟩
    unfold gkp_X7_total_35 gkl_X7_total_35
    rw [if_neg (by rw [cz_le (by omega) (by omega)]; omega), x_balance h hp, Option.bind_some, show nI i + 1 = nI (i + 1) from cz_add i 1]
    dsimp only
    unfold q_bid
    rw [if_pos (noBid_of (by omega) h2), cz_ix (by omega)]
    exact ih (i + 1) f (by omega) (by omega)
theorem x_total (h : cw k0 k D J0 E cs g n) (hp : pi D M) (hN : 5000 ≤ N) : gk_X7_total N k = some (q_tot D D.nb, k) := by
  have h2 := hp.b0.2
  unfold gk_X7_total
  rw [h.cel (dmR (by omega)), Option.bind_some, c_R (q := 2) (p := 2) h rfl (by omega), Option.bind_some]
  dsimp only
  rw [h.cel (dmR (by omega)), Option.bind_some, c_R (q := 3) (p := 3) h rfl (by omega), Option.bind_some]
  dsimp only
  rw [h.cel (dmR (by omega)), Option.bind_some, c_R (q := 4) (p := 4) h rfl (by omega), Option.bind_some]
  dsimp only
  rw [c_nb h hp, Option.bind_some]
  dsimp only
  have q := x_totL (N := N) h hp D.nb 0 N (by omega) (by omega)
  rw [show q_tot D 0 = D.room 2 + D.room 3 + D.room 4 from rfl] at q
  rw [show (0 : Int32) = nI 0 from rfl, q, Option.bind_some]
theorem x_dgB (h : cw k0 k D J0 E cs g n) (hp : pi D M) : ∀ (d i f : Nat), i + d = D.nb → d < f → gkp_X7_digest_21 N f (q_dgB D i) (nI D.nb) (nI i) k = some (q_dgB D D.nb, k) := by
  have h2 := hp.b0.2
  intro d
  induction d with
  | zero =>
    intro i f hi hf
    obtain ⟨f, rfl⟩ : ∃ m, f = m + 1 := ⟨f - 1, by omega⟩
    unfold gkp_X7_digest_21 gkl_X7_digest_21
    rw [if_pos (by rw [cz_le (by omega) (by omega)]; omega), show i = D.nb from by omega]
  | succ d ih =>
    intro i f hi hf
    obtain ⟨f, rfl⟩ : ∃ m, f = m + 1 := ⟨f - 1, by omega⟩
    unfold gkp_X7_digest_21 gkl_X7_digest_21
    rw [if_neg (by rw [cz_le (by omega) (by omega)]; omega), x_bidderKind h hp, Option.bind_some]
    dsimp only
    rw [x_balance h hp, Option.bind_some, show nI i + 1 = nI (i + 1) from cz_add i 1]
    dsimp only
    unfold q_bid
    rw [if_pos (noBid_of (by omega) h2), if_pos (noBid_of (by omega) h2), cz_ix (by omega)]
    exact ih (i + 1) f (by omega) (by omega)
theorem x_dgLot (h : cw k0 k D J0 E cs g n) (hp : pi D M) {i : Nat} {d : Int64} (hl : i < D.nl) : gk_X7_digestLot N d (nI i) k = some (((((((d * 31 + (D.kind i).toInt64) * 31 + (D.facts i 2).toInt32.toInt64) * 31 + (sp_stand D i).toInt64) * 31 + sp_ssum D i) * 31 + (q_entries D i).toInt64) * 31 + (nI (D.nS i)).toInt64) * 31 + (nI (D.nL i)).toInt64, k) := by
  have h4 := hp.l0.2
  unfold gk_X7_digestLot
  rw [c_lotAt h hp, Option.bind_some, if_pos (noLot_of hl h4), cz_ix (by omega)]
  dsimp only
  rw [c_lot h hl, Option.bind_some, Option.bind_some, c_state h hl, Option.bind_some]
  dsimp only
  rw [c_lot h hl, Option.bind_some, c_stand h hp hl, Option.bind_some]
  dsimp only
  rw [c_lot h hl, Option.bind_some, c_ssum h hp hl, Option.bind_some]
  dsimp only
  rw [x_entries h hp, Option.bind_some]
  dsimp only
  unfold q_lot
  rw [if_pos (noLot_of hl h4), cz_ix (by omega), c_lot h hl, Option.bind_some, c_sheL h hl (by omega), Option.bind_some, c_rowQ h hp hl, Option.bind_some]
  dsimp only
  rw [c_lot h hl, Option.bind_some, c_sheL h hl (by omega), Option.bind_some, c_rowL h hp hl, Option.bind_some, (h.kd.l i hl).1]
theorem x_dgL (h : cw k0 k D J0 E cs g n) (hp : pi D M) : ∀ (d i f : Nat), i + d = D.nl → d < f → gkp_X7_digest_77 N f (q_dgL D i) (nI D.nl) (nI i) k = some (q_dgL D D.nl, k) := by
  have h4 := hp.l0.2
  intro d
  induction d with
  | zero =>
    intro i f hi hf
    obtain ⟨f, rfl⟩ : ∃ m, f = m + 1 := ⟨f - 1, by omega⟩
    unfold gkp_X7_digest_77 gkl_X7_digest_77
    rw [if_pos (by rw [cz_le (by omega) (by omega)]; omega), show i = D.nl from by omega]
  | succ d ih =>
    intro i f hi hf
    obtain ⟨f, rfl⟩ : ∃ m, f = m + 1 := ⟨f - 1, by omega⟩
    unfold gkp_X7_digest_77 gkl_X7_digest_77
    rw [if_neg (by rw [cz_le (by omega) (by omega)]; omega), x_dgLot h hp (by omega), Option.bind_some, show nI i + 1 = nI (i + 1) from cz_add i 1]
    exact ih (i + 1) f (by omega) (by omega)
theorem x_dig (h : cw k0 k D J0 E cs g n) (hp : pi D M) (hN : 5000 ≤ N) : gk_X7_digest N k = some (q_dig D, k) := by
  have h2 := hp.b0.2
  have h4 := hp.l0.2
  unfold gk_X7_digest
  rw [c_nb h hp, Option.bind_some]
  dsimp only
  have q1 := x_dgB (N := N) h hp D.nb 0 N (by omega) (by omega)
  rw [show q_dgB D 0 = 7 * 31 + (nI D.nb).toInt64 from rfl] at q1
  rw [show (0 : Int32) = nI 0 from rfl, q1, Option.bind_some]
  dsimp only
  rw [c_nl h hp, Option.bind_some]
  dsimp only
  have q2 := x_dgL (N := N) h hp D.nl 0 N (by omega) (by omega)
  rw [show q_dgL D 0 = q_dgB D D.nb * 31 + (nI D.nl).toInt64 from rfl] at q2
  rw [q2, Option.bind_some]
  dsimp only
  rw [x_acc h, Option.bind_some]
  dsimp only
  rw [x_acc h, Option.bind_some]
  dsimp only
  rw [x_acc h, Option.bind_some]
  dsimp only
  have rows : ∀ c, (c = 1 ∨ c = 2) → rdD D c 0 = Int64.ofNat (cn (rdD D c 0)) → cn (rdD D c 0) ≤ 20 → gk_X6_rows N c k = some (nI (cn (rdD D c 0)), k) := by
    intro c hc t1 t2
    unfold gk_X6_rows
    rw [c_tab hc, Option.bind_some, c_sheT hc, Option.bind_some, c_rowT h hc t1 t2, Option.bind_some]
  rw [c_tab (Or.inl rfl), Option.bind_some, rows 1 (Or.inl rfl) hp.st.t0.1 hp.st.t0.2, Option.bind_some]
  dsimp only
  rw [c_tab (Or.inr rfl), Option.bind_some, rows 2 (Or.inr rfl) hp.br.t0.1 hp.br.t0.2, Option.bind_some]
  rfl
theorem x_trace (h : cw k0 k D J0 E cs g n) {i : Int32} : gk_X7_trace N i k = some (q_trace cs i, k) := by
  obtain ⟨c2, c3, c4⟩ := h.tr
  unfold gk_X7_trace gk_X1_ranAt q_trace
  rw [c2]
  by_cases c : i < 0
  · rw [if_pos c, if_pos c, Option.bind_some]
  · rw [if_neg c, if_neg c]
    obtain ⟨x, y⟩ := cz_of c
    by_cases c5 : ix i < cs.length
    · have lt : i < nI cs.length := by rw [x, cz_lt y (by omega)]; exact c5
      have lt2 : i < Int32.ofNat 200 := by
        have q : nI (ix i) < nI 200 := (cz_lt y (by omega)).mpr (by omega)
        rw [← x] at q
        exact q
      rw [if_neg (fun z => absurd lt (nle32.mpr z)), if_pos lt2]
      have r := gk_rdI (s := k) (k := 6) (n := 200) (i := ix i) (by omega) y
      rw [← x] at r
      rw [r, Option.bind_some, Option.bind_some, c4 _ c5, List.getElem?_eq_getElem c5]
      rfl
    · have ge : nI cs.length ≤ i := by rw [x, cz_le (by omega) y]; omega
      rw [if_pos ge, Option.bind_some, List.getElem?_eq_none (by omega)]
      rfl
end KQ
