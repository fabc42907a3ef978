/-! the class reads its lots, bidders and tables -/
section CRD
variable {N : Nat} {k0 k : mt_S} {D : pd} {J0 E : List je} {cs : List Int32} {g n M l b : Nat}
theorem dmF (hl : l < D.nl) : dm D (203 + 4 * l) := Or.inr (Or.inr ⟨by omega, by omega⟩)
theorem dmE (hl : l < D.nl) : dm D (204 + 4 * l) := Or.inr (Or.inr ⟨by omega, by omega⟩)
theorem dmL (hl : l < D.nl) : dm D (205 + 4 * l) := Or.inr (Or.inr ⟨by omega, by omega⟩)
theorem dmQ (hl : l < D.nl) : dm D (206 + 4 * l) := Or.inr (Or.inr ⟨by omega, by omega⟩)
theorem dmB (hb : b < D.nb) : dm D (3 + b) := Or.inr (Or.inl ⟨by omega, by omega⟩)
theorem dmR {c : Nat} (hc : c < 3) : dm D c := Or.inl hc
theorem c_lot (h : cw k0 k D J0 E cs g n) (hl : l < D.nl) : gk_lot k l = some () := if_pos (by have := h.dim; omega)
theorem c_bid (h : cw k0 k D J0 E cs g n) (hb : b < D.nb) : gk_bid k b = some () := if_pos (by have := h.dim; omega)
theorem c_sheL (h : cw k0 k D J0 E cs g n) (hl : l < D.nl) {j : Nat} (hj : j = 204 ∨ j = 205 ∨ j = 206) : gk_she k (j + 4 * l) = some () := by
  have := h.dim
  refine if_pos ⟨?_, by omega⟩
  unfold kt_sh
  simp only [Bool.or_eq_true, Bool.and_eq_true, decide_eq_true_eq]
  exact Or.inr (Or.inr ⟨by omega, by omega, by omega⟩)
theorem c_sheT {c : Nat} (hc : c = 1 ∨ c = 2) : gk_she k c = some () := by
  refine if_pos ⟨?_, by omega⟩
  unfold kt_sh
  simp only [Bool.or_eq_true, Bool.and_eq_true, decide_eq_true_eq]
  rcases hc with z | z
  · exact Or.inl z
  · exact Or.inr (Or.inl z)
theorem c_tab {c : Nat} (hc : c = 1 ∨ c = 2) : gk_tab k c = some () := if_pos hc
theorem w2E : kt_w (204 + 4 * l) = 2 := by unfold kt_w; rw [if_neg (by omega), if_pos (by omega)]
theorem w2L : kt_w (205 + 4 * l) = 3 := by unfold kt_w; rw [if_neg (by omega), if_neg (by omega), if_pos (by omega)]
theorem w2Q : kt_w (206 + 4 * l) = 1 := by unfold kt_w; rw [if_neg (by omega), if_neg (by omega), if_neg (by omega)]
theorem w2T {c : Nat} (hc : c = 1 ∨ c = 2) : kt_w c = 2 := by unfold kt_w; rw [if_pos (by omega)]
theorem c_F (h : cw k0 k D J0 E cs g n) (hl : l < D.nl) {p : Nat} {q : Int32} (hq : q = nI p) (hp : p < 2 ^ 31) : gk_X2_get N (203 + 4 * l) q k = some (D.facts l p, k) := by
  rw [hq, k_get h (dmF hl) hp, rdF]
theorem c_R (h : cw k0 k D J0 E cs g n) {p : Nat} {q : Int32} (hq : q = nI p) (hp : p < 2 ^ 31) : gk_X2_get N 0 q k = some (D.room p, k) := by
  rw [hq, k_get h (dmR (by omega)) hp]; rfl
theorem c_B (h : cw k0 k D J0 E cs g n) (hb : b < D.nb) (h2 : D.nb ≤ 200) : gk_X2_get N (3 + b) 0 k = some (D.bal b 0, k) := by
  rw [show (0 : Int32) = nI 0 from rfl, k_get h (dmB hb) (by omega), rdB (by omega)]
theorem c_nl (h : cw k0 k D J0 E cs g n) (hp : pi D M) : gk_X7_lotsMade N k = some (nI D.nl, k) := by
  unfold gk_X7_lotsMade
  have := hp.l0.2
  rw [h.cel (dmR (by omega)), Option.bind_some, c_R (q := 1) (p := 1) h rfl (by omega), Option.bind_some]
  dsimp only
  rw [hp.l0.1, cl_32 (by omega)]
theorem c_nb (h : cw k0 k D J0 E cs g n) (hp : pi D M) : gk_X7_biddersMade N k = some (nI D.nb, k) := by
  unfold gk_X7_biddersMade
  have := hp.b0.2
  rw [h.cel (dmR (by omega)), Option.bind_some, c_R (q := 0) (p := 0) h rfl (by omega), Option.bind_some]
  dsimp only
  rw [hp.b0.1, cl_32 (by omega)]
theorem c_lotAt (h : cw k0 k D J0 E cs g n) (hp : pi D M) {a : Int32} : gk_X7_lotAt N a k = some (if sp_noLot D a = 0 then some (ix a) else none, k) := by
  have h4 := hp.l0.2
  have hd := h.dim
  unfold gk_X7_lotAt sp_noLot
  by_cases c : a < 0
  · rw [if_pos c, if_pos c, if_neg (by decide)]
  · rw [if_neg c, if_neg c, c_nl h hp, Option.bind_some]
    dsimp only
    obtain ⟨x, y⟩ := cz_of c
    have n4 : a < 400 ↔ ix a < 400 := by
      conv => lhs; rw [x]
      rw [show (400 : Int32) = nI 400 from rfl, cz_lt y (by omega)]
    have nn : a < nI D.nl ↔ ix a < D.nl := by
      conv => lhs; rw [x]
      rw [cz_lt y (by omega)]
    by_cases c2 : ix a < D.nl
    · rw [if_neg (fun z => absurd (nn.mpr c2) (nle32.mpr z)), if_pos (n4.mpr (by omega)), if_pos (nn.mpr c2), if_pos rfl]
      rw [if_pos (show a < Int32.ofNat 400 from n4.mpr (by omega))]
      unfold gk_lots
      rw [if_neg, if_pos (show a.toNatClampNeg < k.2.2 2 by show ix a < _; omega), Option.bind_some]
      · rfl
      · rintro (z | z)
        · exact c z
        · have : 400 ≤ ix a := z
          omega
    · rw [if_pos (nle32.mp (fun z => c2 (nn.mp z)))]
      by_cases c3 : a < 400
      · rw [if_pos c3, if_neg (fun z => c2 (nn.mp z)), if_neg (by decide)]
      · rw [if_neg c3, if_neg (by decide)]
theorem c_bidW (h : cw k0 k D J0 E cs g n) (hp : pi D M) {a : Int32} : gk_X7_bidderWith N a k = some (if sp_noBid D a = 0 then some (ix a) else none, k) := by
  have h4 := hp.b0.2
  have hd := h.dim
  unfold gk_X7_bidderWith sp_noBid
  by_cases c : a < 0
  · rw [if_pos c, if_pos c, if_neg (by decide)]
  · rw [if_neg c, if_neg c, c_nb h hp, Option.bind_some]
    dsimp only
    obtain ⟨x, y⟩ := cz_of c
    have n4 : a < 200 ↔ ix a < 200 := by
      conv => lhs; rw [x]
      rw [show (200 : Int32) = nI 200 from rfl, cz_lt y (by omega)]
    have nn : a < nI D.nb ↔ ix a < D.nb := by
      conv => lhs; rw [x]
      rw [cz_lt y (by omega)]
    by_cases c2 : ix a < D.nb
    · rw [if_neg (fun z => absurd (nn.mpr c2) (nle32.mpr z)), if_pos (n4.mpr (by omega)), if_pos (nn.mpr c2), if_pos rfl]
      rw [if_pos (show a < Int32.ofNat 200 from n4.mpr (by omega))]
      unfold gk_bids
      rw [if_neg, if_pos (show a.toNatClampNeg < k.2.2 3 by show ix a < _; omega), Option.bind_some]
      · rfl
      · rintro (z | z)
        · exact c z
        · have : 200 ≤ ix a := z
          omega
    · rw [if_pos (nle32.mp (fun z => c2 (nn.mp z)))]
      by_cases c3 : a < 200
      · rw [if_pos c3, if_neg (fun z => c2 (nn.mp z)), if_neg (by decide)]
      · rw [if_neg c3, if_neg (by decide)]
theorem c_whyL {a : Int32} (hn : sp_noLot D a ≠ 0) : gk_X7_whyNoLot N a k = some (sp_noLot D a, k) := by
  unfold gk_X7_whyNoLot
  unfold sp_noLot at hn ⊢
  by_cases c : a < 0
  · rw [if_pos c, if_pos c]
  · rw [if_neg c] at hn ⊢
    rw [if_neg c]
    by_cases c2 : a < 400
    · rw [if_pos c2] at hn ⊢
      rw [if_pos c2]
      by_cases c3 : a < nI D.nl
      · rw [if_pos c3] at hn; exact absurd rfl hn
      · rw [if_neg c3]
    · rw [if_neg c2, if_neg c2]
theorem c_whyB {a : Int32} (hn : sp_noBid D a ≠ 0) : gk_X7_whyNoBidder N a k = some (sp_noBid D a, k) := by
  unfold gk_X7_whyNoBidder
  unfold sp_noBid at hn ⊢
  by_cases c : a < 0
  · rw [if_pos c, if_pos c]
  · rw [if_neg c] at hn ⊢
    rw [if_neg c]
    by_cases c2 : a < 200
    · rw [if_pos c2] at hn ⊢
      rw [if_pos c2]
      by_cases c3 : a < nI D.nb
      · rw [if_pos c3] at hn; exact absurd rfl hn
      · rw [if_neg c3]
    · rw [if_neg c2, if_neg c2]
theorem c_state (h : cw k0 k D J0 E cs g n) (hl : l < D.nl) : gk_X4_stateNow N l k = some ((D.facts l 2).toInt32, k) := by
  unfold gk_X4_stateNow
  rw [c_lot h hl, Option.bind_some, h.cel (dmF hl), Option.bind_some, c_F (q := 2) (p := 2) h hl rfl (by omega), Option.bind_some]
theorem c_start (h : cw k0 k D J0 E cs g n) (hl : l < D.nl) : gk_X4_startNow N l k = some (D.facts l 0, k) := by
  unfold gk_X4_startNow
  rw [c_lot h hl, Option.bind_some, h.cel (dmF hl), Option.bind_some, c_F (q := 0) (p := 0) h hl rfl (by omega), Option.bind_some]
theorem c_opened (h : cw k0 k D J0 E cs g n) (hl : l < D.nl) : gk_X4_wasOpened N l k = some (if D.facts l 4 = 0 then 0 else 1, k) := by
  unfold gk_X4_wasOpened
  rw [c_lot h hl, Option.bind_some, h.cel (dmF hl), Option.bind_some, c_F (q := 4) (p := 4) h hl rfl (by omega), Option.bind_some]
  dsimp only
  split <;> rfl
theorem sts32 (hp : pi D M) (hl : l < D.nl) {c : Int32} (hc : c = 0 ∨ c = 1 ∨ c = 2 ∨ c = 3) : (D.facts l 2).toInt32 = c ↔ D.facts l 2 = c.toInt64 := by
  rcases (hp.lot l hl).sts with z | z | z | z <;> rw [z] <;> rcases hc with y | y | y | y <;> rw [y] <;> decide
theorem c_isOpen (h : cw k0 k D J0 E cs g n) (hp : pi D M) (hl : l < D.nl) : gk_X4_isOpen N l k = some (if sp_notOpen D l = 0 then 1 else 0, k) := by
  unfold gk_X4_isOpen
  rw [c_lot h hl, Option.bind_some, c_state h hl, Option.bind_some]
  dsimp only
  unfold sp_notOpen
  rcases (hp.lot l hl).sts with z | z | z | z <;> rw [z] <;> rfl
theorem c_hasBook (h : cw k0 k D J0 E cs g n) (hp : pi D M) (hl : l < D.nl) : gk_X4_hasBook N l k = some (if D.facts l 2 = 0 then 0 else 1, k) := by
  unfold gk_X4_hasBook
  rw [c_lot h hl, Option.bind_some, c_state h hl, Option.bind_some]
  dsimp only
  rcases (hp.lot l hl).sts with z | z | z | z <;> rw [z] <;> rfl
theorem c_whyO (h : cw k0 k D J0 E cs g n) (hp : pi D M) (hl : l < D.nl) (ho : sp_notOpen D l ≠ 0) : gk_X4_whyNotOpen N l k = some (sp_notOpen D l, k) := by
  unfold gk_X4_whyNotOpen
  rw [c_lot h hl, Option.bind_some, c_hasBook h hp hl, Option.bind_some]
  dsimp only
  unfold sp_notOpen at ho ⊢
  rcases (hp.lot l hl).sts with z | z | z | z
  · rw [z]; rfl
  · rw [z] at ho; exact absurd rfl ho
  · rw [z]; rfl
  · rw [z]; rfl
theorem c_newCal (h : cw k0 k D J0 E cs g n) (hp : pi D M) (hl : l < D.nl) : gk_X4_isNewOrCalled N l k = some (if D.facts l 2 = 0 ∨ D.facts l 2 = 1 then 1 else 0, k) := by
  unfold gk_X4_isNewOrCalled
  rw [c_lot h hl, Option.bind_some, c_state h hl, Option.bind_some]
  dsimp only
  rw [c_lot h hl, Option.bind_some, c_state h hl, Option.bind_some]
  dsimp only
  rcases (hp.lot l hl).sts with z | z | z | z <;> rw [z] <;> rfl
theorem c_raised (h : cw k0 k D J0 E cs g n) (hl : l < D.nl) : gk_X4_isRaised N l k = some (if D.kind l = 4 ∨ D.kind l = 5 then 0 else 1, k) := by
  unfold gk_X4_isRaised
  rw [c_lot h hl, Option.bind_some, Option.bind_some, (h.kd.l l hl).1]
  by_cases c : D.kind l = 4
  · rw [if_pos c, if_pos (Or.inl c)]
  · rw [if_neg c]
    by_cases c2 : D.kind l = 5
    · rw [if_pos c2, if_pos (Or.inr c2)]
    · rw [if_neg c2, if_neg (by rintro (z | z); exact c z; exact c2 z)]
theorem c_joined (h : cw k0 k D J0 E cs g n) (hl : l < D.nl) : gk_X4_isJoined N l k = some (if D.facts l 11 = -1 then 0 else 1, k) := by
  unfold gk_X4_isJoined
  rw [c_lot h hl, Option.bind_some, h.cel (dmF hl), Option.bind_some, c_F (q := 11) (p := 11) h hl rfl (by omega), Option.bind_some]
  dsimp only
  split <;> rfl
theorem c_paper (h : cw k0 k D J0 E cs g n) (hb : b < D.nb) : gk_X0_isPaper N b k = some (if D.bkind b = 2 ∨ D.bkind b = 3 then 1 else 0, k) := by
  unfold gk_X0_isPaper
  rw [c_bid h hb, Option.bind_some, Option.bind_some, (h.kd.b b hb).1]
  by_cases c : D.bkind b = 2
  · rw [if_pos c, if_pos (Or.inl c)]
  · rw [if_neg c]
    by_cases c2 : D.bkind b = 3
    · rw [if_pos c2, if_pos (Or.inr c2)]
    · rw [if_neg c2, if_neg (by rintro (z | z); exact c z; exact c2 z)]
/-! sheets -/
theorem c_rowE (h : cw k0 k D J0 E cs g n) (hp : pi D M) (hl : l < D.nl) : gk_X5_rows N (204 + 4 * l) k = some (nI (D.nE l), k) := by
  have I := hp.lot l hl
  unfold gk_X5_rows
  rw [c_sheL h hl (by omega), Option.bind_some, h.cel (dmE hl), Option.bind_some, show (0 : Int32) = nI 0 from rfl, k_get h (dmE hl) (by omega), Option.bind_some, rdE]
  dsimp only
  rw [I.e0.1, cl_32 (by have := I.e0.2; omega)]
theorem c_rowL (h : cw k0 k D J0 E cs g n) (hp : pi D M) (hl : l < D.nl) : gk_X5_rows N (205 + 4 * l) k = some (nI (D.nL l), k) := by
  have I := hp.lot l hl
  unfold gk_X5_rows
  rw [c_sheL h hl (by omega), Option.bind_some, h.cel (dmL hl), Option.bind_some, show (0 : Int32) = nI 0 from rfl, k_get h (dmL hl) (by omega), Option.bind_some, rdL]
  dsimp only
  rw [I.l0.1, cl_32 (by have := I.l0.2; omega)]
theorem c_rowQ (h : cw k0 k D J0 E cs g n) (hp : pi D M) (hl : l < D.nl) : gk_X5_rows N (206 + 4 * l) k = some (nI (D.nS l), k) := by
  have I := hp.lot l hl
  unfold gk_X5_rows
  rw [c_sheL h hl (by omega), Option.bind_some, h.cel (dmQ hl), Option.bind_some, show (0 : Int32) = nI 0 from rfl, k_get h (dmQ hl) (by omega), Option.bind_some, rdQ]
  dsimp only
  rw [I.s0.1, cl_32 (by have := I.s0.2; omega)]
theorem c_rowT {c : Nat} (h : cw k0 k D J0 E cs g n) (hc : c = 1 ∨ c = 2) (hT : rdD D c 0 = Int64.ofNat (cn (rdD D c 0))) (hT2 : cn (rdD D c 0) ≤ 20) : gk_X5_rows N c k = some (nI (cn (rdD D c 0)), k) := by
  unfold gk_X5_rows
  rw [c_sheT hc, Option.bind_some, h.cel (dmR (by omega)), Option.bind_some, show (0 : Int32) = nI 0 from rfl, k_get h (dmR (by omega)) (by omega), Option.bind_some]
  dsimp only
  have e : (rdD D c 0).toInt32 = nI (cn (rdD D c 0)) := by
    conv => lhs; rw [hT]
    rw [cl_32 (by omega)]
  rw [e]
theorem c_atE (h : cw k0 k D J0 E cs g n) (hl : l < D.nl) {i j : Nat} {q : Int32} (hq : q = nI j) (hi : i < 1000) (hj : j < 2) : gk_X5_at N (204 + 4 * l) (nI i) q k = some (D.book l (1 + j + 2 * i), k) := by
  unfold gk_X5_at
  rw [c_sheL h hl (by omega), Option.bind_some, Option.bind_some, h.cel (dmE hl), Option.bind_some, w2E, hq, show (1 : Int32) = nI 1 from rfl, show (2 : Int32) = nI 2 from rfl, cz_mul, cz_add, cz_add, k_get h (dmE hl) (by omega), Option.bind_some, rdE, show 1 + i * 2 + j = 1 + j + 2 * i from by omega]
theorem c_atL (h : cw k0 k D J0 E cs g n) (hl : l < D.nl) {i j : Nat} {q : Int32} (hq : q = nI j) (hi : i < 1000) (hj : j < 3) : gk_X5_at N (205 + 4 * l) (nI i) q k = some (D.lims l (1 + j + 3 * i), k) := by
  unfold gk_X5_at
  rw [c_sheL h hl (by omega), Option.bind_some, Option.bind_some, h.cel (dmL hl), Option.bind_some, w2L, hq, show (1 : Int32) = nI 1 from rfl, show (3 : Int32) = nI 3 from rfl, cz_mul, cz_add, cz_add, k_get h (dmL hl) (by omega), Option.bind_some, rdL, show 1 + i * 3 + j = 1 + j + 3 * i from by omega]
theorem c_atQ (h : cw k0 k D J0 E cs g n) (hl : l < D.nl) {i : Nat} (hi : i < 1000) : gk_X5_at N (206 + 4 * l) (nI i) 0 k = some (D.sels l (1 + i), k) := by
  unfold gk_X5_at
  rw [c_sheL h hl (by omega), Option.bind_some, Option.bind_some, h.cel (dmQ hl), Option.bind_some, w2Q, show (1 : Int32) = nI 1 from rfl, show (0 : Int32) = nI 0 from rfl, cz_mul, cz_add, cz_add, k_get h (dmQ hl) (by omega), Option.bind_some, rdQ, show 1 + i * 1 + 0 = 1 + i from by omega]
theorem c_atT {c : Nat} (h : cw k0 k D J0 E cs g n) (hc : c = 1 ∨ c = 2) {i j : Nat} {q : Int32} (hq : q = nI j) (hi : i < 1000) (hj : j < 2) : gk_X5_at N c (nI i) q k = some (rdD D c (1 + j + 2 * i), k) := by
  unfold gk_X5_at
  rw [c_sheT hc, Option.bind_some, Option.bind_some, h.cel (dmR (by omega)), Option.bind_some, w2T hc, hq, show (1 : Int32) = nI 1 from rfl, show (2 : Int32) = nI 2 from rfl, cz_mul, cz_add, cz_add, k_get h (dmR (by omega)) (by omega), Option.bind_some, show 1 + i * 2 + j = 1 + j + 2 * i from by omega]
theorem c_stand (h : cw k0 k D J0 E cs g n) (hp : pi D M) (hl : l < D.nl) : gk_X4_standingBidder N l k = some (sp_stand D l, k) := by
  have I := hp.lot l hl
  have e3 := I.e0.2
  unfold gk_X4_standingBidder sp_stand
  rw [c_lot h hl, Option.bind_some, Option.bind_some, (h.kd.l l hl).1]
  by_cases c4 : D.kind l = 4
  · rw [if_pos c4, if_pos c4, c_opened h hl, Option.bind_some]
    dsimp only
    by_cases f4 : D.facts l 4 = 0
    · rw [if_pos f4, if_pos rfl, if_pos f4]
    · rw [if_neg f4, if_neg (by decide), if_neg f4, c_lot h hl, Option.bind_some, h.cel (dmF hl), Option.bind_some, c_F (q := 5) (p := 5) h hl rfl (by omega), Option.bind_some]
  · rw [if_neg c4, if_neg c4, c_sheL h hl (by omega), Option.bind_some, Option.bind_some, c_rowE h hp hl, Option.bind_some]
    dsimp only
    by_cases n0 : D.nE l = 0
    · rw [if_pos (by rw [n0]; rfl), if_pos n0]
    · rw [if_neg (by rw [show (0 : Int32) = nI 0 from rfl, cz_eq (by omega) (by omega)]; exact n0), if_neg n0, c_lot h hl, Option.bind_some, Option.bind_some, c_sheL h hl (by omega), Option.bind_some, c_rowE h hp hl, Option.bind_some]
      dsimp only
      rw [c_sheL h hl (by omega), Option.bind_some, show (1 : Int32) = nI 1 from rfl, cz_sub (by omega) (by omega), c_atE (q := 0) (j := 0) h hl rfl (by omega) (by omega), Option.bind_some]
theorem c_ssum (h : cw k0 k D J0 E cs g n) (hp : pi D M) (hl : l < D.nl) : gk_X4_standingSum N l k = some (sp_ssum D l, k) := by
  have I := hp.lot l hl
  have e3 := I.e0.2
  unfold gk_X4_standingSum sp_ssum
  rw [c_lot h hl, Option.bind_some, Option.bind_some, (h.kd.l l hl).1]
  by_cases c4 : D.kind l = 4
  · rw [if_pos c4, if_pos c4, c_opened h hl, Option.bind_some]
    dsimp only
    by_cases f4 : D.facts l 4 = 0
    · rw [if_pos f4, if_pos rfl, if_pos f4]
    · rw [if_neg f4, if_neg (by decide), if_neg f4, c_lot h hl, Option.bind_some, h.cel (dmF hl), Option.bind_some, c_F (q := 6) (p := 6) h hl rfl (by omega), Option.bind_some]
  · rw [if_neg c4, if_neg c4, c_sheL h hl (by omega), Option.bind_some, Option.bind_some, c_rowE h hp hl, Option.bind_some]
    dsimp only
    by_cases n0 : D.nE l = 0
    · rw [if_pos (by rw [n0]; rfl), if_pos n0]
    · rw [if_neg (by rw [show (0 : Int32) = nI 0 from rfl, cz_eq (by omega) (by omega)]; exact n0), if_neg n0, c_lot h hl, Option.bind_some, Option.bind_some, c_sheL h hl (by omega), Option.bind_some, c_rowE h hp hl, Option.bind_some]
      dsimp only
      rw [c_sheL h hl (by omega), Option.bind_some, show nI (D.nE l) - 1 = nI (D.nE l - 1) from cz_sub (b := 1) (by omega) (by omega), c_atE (q := 1) (j := 1) h hl rfl (by omega) (by omega), Option.bind_some]
theorem c_rowOfL {T : Nat → Int64} {c : Nat} {a : Int32} {m : Nat} (hat : ∀ i, i < m → gk_X5_at N c (nI i) 0 k = some (T i, k)) (hs : gk_she k c = some ()) (hm : m < 1000) : ∀ (d i f : Nat), i + d = m → d < f → gkp_X5_rowOf_7 N f c a (nI m) (nI i) k = some (match fr T a.toInt64 d i with | none => .inl () | some r => .inr (nI r), k) := by
  intro d
  induction d with
  | zero =>
    intro i f hi hf
    obtain ⟨f, rfl⟩ : ∃ m, f = m + 1 := ⟨f - 1, by omega⟩
    unfold gkp_X5_rowOf_7 gkl_X5_rowOf_7
    rw [if_pos (by rw [cz_le (by omega) (by omega)]; omega)]
    rfl
  | succ d ih =>
    intro i f hi hf
    obtain ⟨f, rfl⟩ : ∃ m, f = m + 1 := ⟨f - 1, by omega⟩
    unfold gkp_X5_rowOf_7 gkl_X5_rowOf_7
    rw [if_neg (by rw [cz_le (by omega) (by omega)]; omega), hs, Option.bind_some, hat i (by omega), Option.bind_some]
    dsimp only
    unfold fr
    by_cases e : T i = a.toInt64
    · rw [if_pos e, if_pos e]
    · rw [if_neg e, if_neg e, show (1 : Int32) = nI 1 from rfl, cz_add]
      exact ih (i + 1) f (by omega) (by omega)
def rowI (r : Option Nat) : Int32 := match r with | none => -1 | some r => nI r
theorem c_rowOf {T : Nat → Int64} {c m : Nat} {a : Int32} (hat : ∀ i, i < m → gk_X5_at N c (nI i) 0 k = some (T i, k)) (hr : gk_X5_rows N c k = some (nI m, k)) (hs : gk_she k c = some ()) (hm : m < 1000) (hN : 5000 ≤ N) : gk_X5_rowOf N c a k = some (rowI (fr T a.toInt64 m 0), k) := by
  unfold gk_X5_rowOf
  rw [hs, Option.bind_some, hr, Option.bind_some]
  dsimp only
  have q := c_rowOfL (N := N) (a := a) hat hs hm m 0 N (by omega) (by omega)
  rw [show (0 : Int32) = nI 0 from rfl, q, Option.bind_some]
  dsimp only
  unfold rowI
  cases fr T a.toInt64 m 0 <;> rfl
theorem rowI_m1 {r : Option Nat} (h : ∀ x, r = some x → x < 1000) : rowI r = -1 ↔ r = none := by
  cases r with
  | none => exact ⟨fun _ => rfl, fun _ => rfl⟩
  | some r =>
    refine ⟨fun z => ?_, fun z => Option.noConfusion rfl (heq_of_eq z)⟩
    exfalso
    have z : nI r = -1 := z
    have q := cz_nn (n := r) (by have := h r rfl; omega)
    rw [z] at q
    exact q (by decide)
end CRD
