/-! acts of the reference -/
def wk (s0 : mt_S) (ag : Bool) (cs : List Int32) (e : Nat) (g : Option (Int64 × mt_S)) (r : sr) : Prop := ∃ s' e', g = some (r.1, s') ∧ rs s0 s' r.2.1 e' ag (addC ag cs r.2.2) ∧ e' ≤ e + 2
theorem sI_same {s : mt_S} {k j : Nat} {v : Int32} : (gm_setI s k j v).1 k j = v := by
  dsimp only [gm_setI]
  rw [if_pos ⟨rfl, rfl⟩]
theorem sL_same {s : mt_S} {k j : Nat} {v : Int64} : (gm_setL s k j v).2.1 k j = v := by
  dsimp only [gm_setL]
  rw [if_pos ⟨rfl, rfl⟩]
section WK
variable {N : Nat} {s0 s : mt_S} {D : pd} {e M : Nat} {ag : Bool} {cs : List Int32}
theorem wk_ret {s' : mt_S} {D' : pd} {e' : Nat} {x : Int64} (h : rs s0 s' D' e' ag cs) (he : e' ≤ e + 2) : wk s0 ag cs e (some (x, s')) (x, D', []) :=
  ⟨s', e', rfl, by rw [show ((x, D', []) : sr).2.2 = [] from rfl, addC_nil h.c.2.2.1]; exact h, he⟩
theorem wk_no {x : Int64} (h : rs s0 s D e ag cs) : wk s0 ag cs e (some (x, s)) (x, D, []) := wk_ret h (by omega)
theorem wk_L {a : Int32} {g1 : Option (Int64 × mt_S)} {f : Nat → sr} (h : rs s0 s D e ag cs) (hp : pi D M) (kk : ∀ l, a = nI l → l < D.nl → wk s0 ag cs e g1 (f l)) : wk s0 ag cs e (if sp_noLot D a ≤ 0 then g1 else Option.bind (gm_X8_noLot N a s) fun q => some ((-q.1).toInt64, q.2)) (sp_withL D a f) := by
  rw [w_noLot h.v, Option.bind_some]
  unfold sp_withL
  by_cases c : sp_noLot D a = 0
  · obtain ⟨x, y⟩ := noLot0 hp.l0.2 c
    rw [if_pos (noLotLe.mpr c), if_pos c]
    exact kk (ix a) x y
  · rw [if_neg (fun z => c (noLotLe.mp z)), if_neg c]
    exact wk_no h
theorem wk_B {a : Int32} {g1 : Option (Int64 × mt_S)} {f : Nat → sr} (h : rs s0 s D e ag cs) (hp : pi D M) (kk : ∀ l, a = nI l → l < D.nb → wk s0 ag cs e g1 (f l)) : wk s0 ag cs e (if sp_noBid D a ≤ 0 then g1 else Option.bind (gm_X8_noBidder N a s) fun q => some ((-q.1).toInt64, q.2)) (sp_withB D a f) := by
  rw [w_noBid h.v, Option.bind_some]
  unfold sp_withB
  by_cases c : sp_noBid D a = 0
  · obtain ⟨x, y⟩ := noBid0 hp.b0.2 c
    rw [if_pos (noBidLe.mpr c), if_pos c]
    exact kk (ix a) x y
  · rw [if_neg (fun z => c (noBidLe.mp z)), if_neg c]
    exact wk_no h
theorem wk_O {l : Nat} {g1 : Option (Int64 × mt_S)} {f : sr} (h : rs s0 s D e ag cs) (hp : pi D M) (hl : l < D.nl) (kk : sp_notOpen D l = 0 → wk s0 ag cs e g1 f) : wk s0 ag cs e (if sp_notOpen D l ≤ 0 then g1 else Option.bind (gm_X8_notOpen N (nI l) s) fun q => some ((-q.1).toInt64, q.2)) (sp_open' D l f) := by
  rw [w_notOpen h.v hp hl, Option.bind_some]
  unfold sp_open'
  by_cases c : sp_notOpen D l = 0
  · rw [if_pos (notOpenLe.mpr c), if_pos c]
    exact kk c
  · rw [if_neg (fun z => c (notOpenLe.mp z)), if_neg c]
    exact wk_no h
theorem wk_if {p q : Prop} [Decidable p] [Decidable q] {g1 g2 : Option (Int64 × mt_S)} {r1 r2 : sr} (hpq : p ↔ q) (h1 : q → wk s0 ag cs e g1 r1) (h2 : ¬ q → wk s0 ag cs e g2 r2) : wk s0 ag cs e (if p then g1 else g2) (if q then r1 else r2) := by
  by_cases c : q
  · rw [if_pos (hpq.mpr c), if_pos c]; exact h1 c
  · rw [if_neg (fun z => c (hpq.mp z)), if_neg c]; exact h2 c
theorem wk_ifn {p q : Prop} [Decidable p] [Decidable q] {g1 g2 : Option (Int64 × mt_S)} {r1 r2 : sr} (hpq : p ↔ ¬ q) (h1 : q → wk s0 ag cs e g2 r1) (h2 : ¬ q → wk s0 ag cs e g1 r2) : wk s0 ag cs e (if p then g1 else g2) (if q then r1 else r2) := by
  by_cases c : q
  · rw [if_neg (fun z => (hpq.mp z) c), if_pos c]; exact h1 c
  · rw [if_pos (hpq.mpr c), if_neg c]; exact h2 c
theorem fct_0 {l : Nat} (h : rv s D e) (hl : l < D.nl) {c : Int32} : (D.facts l 2).toInt32 = c ↔ D.facts l 2 = c.toInt64 := t32i (h.lot l hl).k9
theorem fct_4 {l : Nat} (h : rv s D e) (hl : l < D.nl) {c : Int32} : (D.facts l 4).toInt32 = c ↔ D.facts l 4 = c.toInt64 := t32i (h.lot l hl).k25
theorem w_cut {a r : Int32} (h : rs s0 s D e ag cs) (hp : pi D M) : wk s0 ag cs e (gm_X8_newCut N a r s) (sp_cut D a r) := by
  unfold gm_X8_newCut sp_cut
  rw [w_isRate, Option.bind_some]
  dsimp only
  refine wk_if b10 (fun _ => wk_no h) (fun hr => ?_)
  rw [w_noLot h.v, Option.bind_some]
  dsimp only
  refine wk_L h hp (fun l hl1 hl => ?_)
  subst hl1
  have h4 := hp.l0.2
  rw [rd9 h.v hl h4, Option.bind_some]
  refine wk_ifn (by rw [fct_0 h.v hl, ← cl_0]; exact ⟨fun z y => y z, fun z => Classical.byContradiction z⟩) (fun _ => wk_no h) (fun _ => ?_)
  rw [rd8 h.v hl h4, Option.bind_some, gm_wrI (by rw [h.v.len 8 (by decide)]; show l < 400; omega) (by omega), Option.bind_some]
  rw [show (D.facts l 1).toInt32.toInt64 = D.facts l 1 from by rw [← (h.v.lot l hl).k8, Int32.toInt32_toInt64]]
  exact wk_ret (rs_of h (hi_I hi_refl (by decide)) (rv_8 h.v hl)) (by omega)
theorem w_selL {l : Nat} {b : Int32} (h : rv s D e) (hl : l < D.nl) (h4 : D.nl ≤ 400) : ∀ (d i n : Nat), i + d = D.nS l → d < n → gp_X8_newSeller_47 N n (nI l) b (nI i) s = some (match fr (fun k => D.sels l (1 + k)) b.toInt64 d i with | none => .inl () | some _ => .inr (-8), s) := by
  have hb := (h.lot l hl).bd.1
  intro d
  induction d with
  | zero =>
    intro i n hi hn
    obtain ⟨n, rfl⟩ : ∃ m, n = m + 1 := ⟨n - 1, by omega⟩
    unfold gp_X8_newSeller_47 gl_X8_newSeller_47
    rw [rd12 h hl h4, Option.bind_some, if_pos (by rw [cz_le (by omega) (by omega)]; omega)]
    rfl
  | succ d ih =>
    intro i n hi hn
    obtain ⟨n, rfl⟩ : ∃ m, n = m + 1 := ⟨n - 1, by omega⟩
    unfold gp_X8_newSeller_47 gl_X8_newSeller_47
    rw [rd12 h hl h4, Option.bind_some, if_neg (by rw [cz_le (by omega) (by omega)]; omega), rd11 h hl h4 (by omega), Option.bind_some]
    unfold fr
    by_cases c : D.sels l (1 + i) = b.toInt64
    · rw [if_pos ((t32i ((h.lot l hl).k11 i (by omega))).mpr c), if_pos c]
    · rw [if_neg (fun z => c ((t32i ((h.lot l hl).k11 i (by omega))).mp z)), if_neg c, cz_lit 1, cz_add]
      exact ih (i + 1) n (by omega) (by omega)
theorem w_seller {a b : Int32} (h : rs s0 s D e ag cs) (hp : pi D M) (hN : 5000 ≤ N) : wk s0 ag cs e (gm_X8_newSeller N a b s) (sp_seller D a b) := by
  unfold gm_X8_newSeller sp_seller
  rw [w_noLot h.v, Option.bind_some]
  dsimp only
  refine wk_L h hp (fun l hl1 hl => ?_)
  subst hl1
  have h4 := hp.l0.2
  have hS := (h.v.lot l hl).bd.1
  rw [w_noBid h.v, Option.bind_some]
  dsimp only
  refine wk_B h hp (fun c hc1 hc => ?_)
  rw [rd9 h.v hl h4, Option.bind_some]
  refine wk_ifn (by rw [fct_0 h.v hl, ← cl_0]; exact ⟨fun z y => y z, fun z => Classical.byContradiction z⟩) (fun _ => wk_no h) (fun _ => ?_)
  rw [show (0 : Int32) = nI 0 from rfl, w_selL h.v hl h4 (D.nS l) 0 N (by omega) (by omega), Option.bind_some]
  dsimp only
  cases hr : fr (fun k => D.sels l (1 + k)) b.toInt64 (D.nS l) 0 with
  | some r =>
    dsimp only
    rw [if_pos (by simp)]
    exact wk_no h
  | none =>
    dsimp only
    rw [if_neg (by simp), rd12 h.v hl h4, Option.bind_some]
    refine wk_if (by rw [show (4 : Int32) = nI 4 from rfl, cz_eq (by omega) (by omega)]) (fun _ => wk_no h) (fun n4 => ?_)
    have l11 : 4 * l + D.nS l < s.2.2 11 := by rw [h.v.len 11 (by decide)]; show 4 * l + D.nS l < 1600; omega
    have l12 : l < s.2.2 12 := by rw [h.v.len 12 (by decide)]; show l < 400; omega
    rw [Option.bind_some, cz_lit 4, cz_mul, cz_add, gm_wrI l11 (by omega), Option.bind_some]
    rw [gm_rdI (by exact l12) (by omega), Option.bind_some]
    rw [show (gm_setI s 11 (4 * l + D.nS l) b).1 12 l = nI (D.nS l) from (h.v.lot l hl).k12, cz_lit 1, cz_add, gm_wrI (by exact l12) (by omega), Option.bind_some, gm_rdI (by exact l12) (by omega), Option.bind_some]
    rw [show (gm_setI (gm_setI s 11 (4 * l + D.nS l) b) 12 l (nI (D.nS l + 1))).1 12 l = nI (D.nS l + 1) from sI_same, cl_64 (by omega)]
    exact wk_ret (rs_of h (hi_I (hi_I hi_refl (by decide)) (by decide)) (rv_seller h.v hl (by omega))) (by omega)
theorem w_step {x y : Int64} (h : rs s0 s D e ag cs) (hp : pi D M) : wk s0 ag cs e (gm_X8_newStep N x y s) (sp_step D x y) := by
  have t4 := hp.st.t0.2
  have l34 : s.2.2 34 = 20 := h.v.len 34 (by decide)
  have l35 : s.2.2 35 = 20 := h.v.len 35 (by decide)
  unfold gm_X8_newStep sp_step
  by_cases c1 : x < 0
  · rw [if_pos c1, if_pos (Or.inl (show ¬ sp_monOk x from fun z => z.1 c1))]; exact wk_no h
  · rw [if_neg c1]
    by_cases c2 : 1000000000000 < x
    · rw [if_pos c2, if_pos (Or.inl (show ¬ sp_monOk x from fun z => z.2 c2))]; exact wk_no h
    · rw [if_neg c2, w_isSum, Option.bind_some]
      dsimp only
      by_cases c3 : sp_sumOk y
      · rw [if_neg (fun z => (b10.mp z) c3), if_neg (show ¬ (¬ sp_monOk x ∨ ¬ sp_sumOk y) from fun z => by rcases z with z | z; exact z ⟨c1, c2⟩; exact z c3), h.v.st.1]
        have fin : cn (D.st 0) < 20 → wk s0 ag cs e (gb_X8_newStep_65 N x y s) (Int64.ofNat (cn (D.st 0) + 1), ((D.putS 0 (Int64.ofNat (cn (D.st 0) + 1))).putS (1 + 2 * cn (D.st 0)) x).putS (2 + 2 * cn (D.st 0)) y, []) := by
          intro hn
          unfold gb_X8_newStep_65
          rw [h.v.st.1, gm_wrL (by omega) (by omega), Option.bind_some, show (gm_setL s 34 (cn (D.st 0)) x).1 33 0 = nI (cn (D.st 0)) from h.v.st.1, gm_wrL (by show _ < s.2.2 35; omega) (by omega), Option.bind_some]
          unfold gm_pI
          rw [Option.bind_some, show (gm_setL (gm_setL s 34 (cn (D.st 0)) x) 35 (cn (D.st 0)) y).1 33 0 = nI (cn (D.st 0)) from h.v.st.1, cz_lit 1, cz_add]
          rw [show (gm_setI (gm_setL (gm_setL s 34 (cn (D.st 0)) x) 35 (cn (D.st 0)) y) 33 0 (nI (cn (D.st 0) + 1))).1 33 0 = nI (cn (D.st 0) + 1) from sI_same, cl_64 (by omega)]
          exact wk_ret (rs_of h (hi_I (hi_L (hi_L hi_refl (by decide)) (by decide)) (by decide)) (rv_step h.v hn)) (by omega)
        refine wk_if (by rw [show (20 : Int32) = nI 20 from rfl, cz_eq (by omega) (by omega)]) (fun _ => wk_no h) (fun n20 => ?_)
        by_cases c4 : cn (D.st 0) = 0
        · rw [if_pos (by rw [c4]; decide), if_neg (fun z => z.1 c4)]
          exact fin (by omega)
        · rw [if_neg (by rw [show (0 : Int32) = nI 0 from rfl, cz_le (by omega) (by omega)]; omega), cz_lit 1, cz_sub (by omega) (by omega), rd34 h.v (by omega) t4, Option.bind_some]
          by_cases c5 : D.st (1 + 2 * (cn (D.st 0) - 1)) < x
          · rw [if_pos c5, if_neg (fun z => z.2 c5)]
            exact fin (by omega)
          · rw [if_neg c5, if_pos ⟨c4, c5⟩]
            exact wk_no h
      · rw [if_pos (b10.mpr c3), if_pos (Or.inr c3)]; exact wk_no h
theorem w_prem {x : Int64} {y : Int32} (h : rs s0 s D e ag cs) (hp : pi D M) : wk s0 ag cs e (gm_X8_newBracket N x y s) (sp_prem D x y) := by
  have t4 := hp.br.t0.2
  have l34 : s.2.2 37 = 20 := h.v.len 37 (by decide)
  have l35 : s.2.2 38 = 20 := h.v.len 38 (by decide)
  unfold gm_X8_newBracket sp_prem
  by_cases c1 : x < 0
  · rw [if_pos c1, if_pos (Or.inl (show ¬ sp_monOk x from fun z => z.1 c1))]; exact wk_no h
  · rw [if_neg c1]
    by_cases c2 : 1000000000000 < x
    · rw [if_pos c2, if_pos (Or.inl (show ¬ sp_monOk x from fun z => z.2 c2))]; exact wk_no h
    · rw [if_neg c2, w_isRate, Option.bind_some]
      dsimp only
      by_cases c3 : sp_rateOk y
      · rw [if_neg (fun z => (b10.mp z) c3), if_neg (show ¬ (¬ sp_monOk x ∨ ¬ sp_rateOk y) from fun z => by rcases z with z | z; exact z ⟨c1, c2⟩; exact z c3), h.v.br.1]
        have fin : cn (D.br 0) < 20 → wk s0 ag cs e (gb_X8_newBracket_65 N x y s) (Int64.ofNat (cn (D.br 0) + 1), ((D.putT 0 (Int64.ofNat (cn (D.br 0) + 1))).putT (1 + 2 * cn (D.br 0)) x).putT (2 + 2 * cn (D.br 0)) y.toInt64, []) := by
          intro hn
          unfold gb_X8_newBracket_65
          rw [h.v.br.1, gm_wrL (by omega) (by omega), Option.bind_some, show (gm_setL s 37 (cn (D.br 0)) x).1 36 0 = nI (cn (D.br 0)) from h.v.br.1, gm_wrI (by show _ < s.2.2 38; omega) (by omega), Option.bind_some]
          unfold gm_pI
          rw [Option.bind_some, show (gm_setI (gm_setL s 37 (cn (D.br 0)) x) 38 (cn (D.br 0)) y).1 36 0 = nI (cn (D.br 0)) from h.v.br.1, cz_lit 1, cz_add]
          rw [show (gm_setI (gm_setI (gm_setL s 37 (cn (D.br 0)) x) 38 (cn (D.br 0)) y) 36 0 (nI (cn (D.br 0) + 1))).1 36 0 = nI (cn (D.br 0) + 1) from sI_same, cl_64 (by omega)]
          exact wk_ret (rs_of h (hi_I (hi_I (hi_L hi_refl (by decide)) (by decide)) (by decide)) (rv_brk h.v hn)) (by omega)
        refine wk_if (by rw [show (20 : Int32) = nI 20 from rfl, cz_eq (by omega) (by omega)]) (fun _ => wk_no h) (fun n20 => ?_)
        by_cases c4 : cn (D.br 0) = 0
        · rw [if_pos (by rw [c4]; decide), if_neg (fun z => z.1 c4)]
          exact fin (by omega)
        · rw [if_neg (by rw [show (0 : Int32) = nI 0 from rfl, cz_le (by omega) (by omega)]; omega), cz_lit 1, cz_sub (by omega) (by omega), rd37 h.v (by omega) t4, Option.bind_some]
          by_cases c5 : D.br (1 + 2 * (cn (D.br 0) - 1)) < x
          · rw [if_pos c5, if_neg (fun z => z.2 c5)]
            exact fin (by omega)
          · rw [if_neg c5, if_pos ⟨c4, c5⟩]
            exact wk_no h
      · rw [if_pos (b10.mpr c3), if_pos (Or.inr c3)]; exact wk_no h
theorem kd_ix {k : Int32} (h1 : ¬ k < 1) (h2 : ¬ 5 < k) : k = nI (ix k) ∧ 1 ≤ ix k ∧ ix k ≤ 5 := by
  have a : ¬ k < 0 := by
    rw [Int32.lt_iff_toInt_lt] at h1 ⊢
    have x1 : (1 : Int32).toInt = 1 := by decide
    have x0 : (0 : Int32).toInt = 0 := by decide
    omega
  obtain ⟨x, y⟩ := cz_of a
  refine ⟨x, ?_⟩
  rw [x, show (1 : Int32) = nI 1 from rfl, cz_lt (by omega) (by omega)] at h1
  rw [x, show (5 : Int32) = nI 5 from rfl, cz_lt (by omega) (by omega)] at h2
  omega
theorem w_tax {k r : Int32} (h : rs s0 s D e ag cs) : wk s0 ag cs e (gm_X8_newTax N k r s) (sp_taxA D k r) := by
  unfold gm_X8_newTax sp_taxA
  by_cases c1 : k < 1
  · rw [if_pos c1, if_pos (Or.inl c1)]; exact wk_no h
  · rw [if_neg c1]
    by_cases c2 : 5 < k
    · rw [if_pos c2, if_pos (Or.inr (Or.inl c2))]; exact wk_no h
    · rw [if_neg c2, w_isRate, Option.bind_some]
      dsimp only
      by_cases c3 : sp_rateOk r
      · rw [if_neg (fun z => (b10.mp z) c3), if_neg (show ¬ (k < 1 ∨ 5 < k ∨ ¬ sp_rateOk r) from fun z => by rcases z with z | z | z; exact c1 z; exact c2 z; exact z c3)]
        obtain ⟨k1, k2, k3⟩ := kd_ix c1 c2
        rw [k1, cz_ix (by omega), rd39 h.v k2 k3, Option.bind_some, gm_wrI (by rw [h.v.len 39 (by decide)]; show ix k < 6; omega) (by omega), Option.bind_some]
        rw [show (D.room (5 + ix k)).toInt32.toInt64 = D.room (5 + ix k) from by rw [← h.v.tx (ix k) k2 k3, Int32.toInt32_toInt64]]
        exact wk_ret (rs_of h (hi_I hi_refl (by decide)) (rv_tax h.v k2 k3)) (by omega)
      · rw [if_pos (b10.mpr c3), if_pos (Or.inr (Or.inr c3))]; exact wk_no h
theorem w_pay {b : Int32} {x : Int64} (h : rs s0 s D e ag cs) (hp : pi D M) : wk s0 ag cs e (gm_X8_paid N b x s) (sp_pay D b x) := by
  unfold gm_X8_paid sp_pay
  rw [w_isSum, Option.bind_some]
  dsimp only
  refine wk_if b10 (fun _ => wk_no h) (fun hr => ?_)
  rw [w_noBid h.v, Option.bind_some]
  dsimp only
  refine wk_B h hp (fun c hc1 hc => ?_)
  subst hc1
  have hb := hp.b0.2
  rw [rd3 h.v hc hb, Option.bind_some]
  refine wk_ifn (by rw [nle64]) (fun _ => wk_no h) (fun _ => ?_)
  rw [Option.bind_some, gm_wrL (by rw [h.v.len 3 (by decide)]; show c < 200; omega) (by omega), Option.bind_some]
  have h1 : rs s0 (gm_setL s 3 c (D.bal c 0 + x)) (D.putB c 0 (D.bal c 0 + x)) e ag cs := rs_of h (hi_L hi_refl (by decide)) (rv_bal h.v hc)
  rw [show (2 : Int32) = nI 2 from rfl, rd40 h1.v (by omega), Option.bind_some, gm_wrL (by rw [h1.v.len 40 (by decide)]; show 2 < 3; omega) (by omega), Option.bind_some]
  rw [Int64.sub_eq_add_neg]
  exact wk_ret (rs_of h1 (hi_L hi_refl (by decide)) (rv_acc (k := 2) h1.v (by omega))) (by omega)
theorem w_payOut {b : Int32} {x : Int64} (h : rs s0 s D e ag cs) (hp : pi D M) : wk s0 ag cs e (gm_X8_paidOut N b x s) (sp_payOut D b x) := by
  unfold gm_X8_paidOut sp_payOut
  rw [w_isSum, Option.bind_some]
  dsimp only
  refine wk_if b10 (fun _ => wk_no h) (fun hr => ?_)
  rw [w_noBid h.v, Option.bind_some]
  dsimp only
  refine wk_B h hp (fun c hc1 hc => ?_)
  subst hc1
  have hb := hp.b0.2
  rw [rd3 h.v hc hb, Option.bind_some]
  refine wk_ifn (by rw [nle64]) (fun _ => wk_no h) (fun _ => ?_)
  rw [Option.bind_some, gm_wrL (by rw [h.v.len 3 (by decide)]; show c < 200; omega) (by omega), Option.bind_some]
  rw [Int64.sub_eq_add_neg]
  have h1 : rs s0 (gm_setL s 3 c (D.bal c 0 + -x)) (D.putB c 0 (D.bal c 0 + -x)) e ag cs := rs_of h (hi_L hi_refl (by decide)) (rv_bal h.v hc)
  rw [show (2 : Int32) = nI 2 from rfl, rd40 h1.v (by omega), Option.bind_some, gm_wrL (by rw [h1.v.len 40 (by decide)]; show 2 < 3; omega) (by omega), Option.bind_some]
  exact wk_ret (rs_of h1 (hi_L hi_refl (by decide)) (rv_acc (k := 2) h1.v (by omega))) (by omega)
theorem w_asked {a : Int32} (h : rs s0 s D e ag cs) (hp : pi D M) (he : e < 1990) (hN : 5000 ≤ N) : wk s0 ag cs e (gm_X8_asked N a s) (sp_askA D a) := by
  unfold gm_X8_asked sp_askA
  rw [w_noLot h.v, Option.bind_some]
  dsimp only
  refine wk_L h hp (fun l hl1 hl => ?_)
  subst hl1
  rw [w_notOpen h.v hp hl, Option.bind_some]
  dsimp only
  refine wk_O h hp hl (fun _ => ?_)
  obtain ⟨s', g1, h1⟩ := w_ask (N := N) h hp hl (by omega) hN
  rw [g1, Option.bind_some]
  exact ⟨s', e, rfl, h1, by omega⟩
theorem w_called {a : Int32} (h : rs s0 s D e ag cs) (hp : pi D M) (he : e < 1900) (hM : M < 2 ^ 31) (hN : 5000 ≤ N) : wk s0 ag cs e (gm_X8_called N a s) (sp_call D a) := by
  unfold gm_X8_called sp_call
  rw [w_noLot h.v, Option.bind_some]
  dsimp only
  refine wk_L h hp (fun l hl1 hl => ?_)
  subst hl1
  have h4 := hp.l0.2
  have I := hp.lot l hl
  rw [rd9 h.v hl h4, Option.bind_some]
  refine wk_ifn (by rw [fct_0 h.v hl, ← cl_0]; exact ⟨fun z y => y z, fun z => Classical.byContradiction z⟩) (fun _ => wk_no h) (fun f2 => ?_)
  have f20 : D.facts l 2 = 0 := Classical.byContradiction f2
  have n0 := I.en f20
  rw [gm_wrI (by rw [h.v.len 9 (by decide)]; show l < 400; omega) (by omega), Option.bind_some, gm_wrI (by show l < s.2.2 13; rw [h.v.len 13 (by decide)]; show l < 400; omega) (by omega), Option.bind_some]
  have h1 : rs s0 (gm_setI (gm_setI s 9 l 1) 13 l 0) (D.putF l 2 1) e ag cs := rs_of h (hi_I (hi_I hi_refl (by decide)) (by decide)) (rv_call h.v hl n0)
  have pc := pi_call hp hl
  rw [rd5 h1.v hl h4, Option.bind_some]
  have fin : ∀ (t : mt_S) (D1 : pd), rs s0 t D1 e ag cs → pi D1 M → D1.nl = D.nl → D1.nE l < 300 → D1.facts l 2 ≠ 0 → wk s0 ag cs e (gb_X8_called_65 N (nI l) t) ((sp_papers D1 l).book l 0, sp_papers D1 l, []) := by
    intro t D1 ht hp1 hnl hn hs
    unfold gb_X8_called_65
    have hl1 : l < D1.nl := by omega
    obtain ⟨s', e', g1, g2, g3⟩ := w_papers (N := N) ht hp1 hl1 hM (by omega) hn hs hN
    have p2 := pi_papers hp1 hl1 hM hn hs
    have hl2 : l < (sp_papers D1 l).nl := by
      have : (sp_papers D1 l).nl = D1.nl := by
        unfold sp_papers
        split
        · rfl
        · dsimp only
          split
          · rfl
          · split <;> rfl
      omega
    have fs : (sp_papers D1 l).facts l 2 ≠ 0 := by
      have : (sp_papers D1 l).facts l 2 = D1.facts l 2 := by
        unfold sp_papers
        split
        · rfl
        · dsimp only
          split
          · rfl
          · split <;> rfl
      rw [this]; exact hs
    have J := p2.lot l hl2
    rw [g1, Option.bind_some]
    dsimp only
    rw [rd13 g2.v hl2 p2.l0.2, Option.bind_some, if_neg fs, cl_64 (by have := J.e0.2; omega), ← J.e0.1]
    exact wk_ret g2 (by omega)
  by_cases k5 : D.kind l = 5
  · rw [if_pos k5] at pc ⊢
    rw [if_pos (show (D.putF l 2 1).kind l = 5 from k5), rd6 h1.v hl h4, Option.bind_some, gm_wrL (by show l < s.2.2 10; rw [h.v.len 10 (by decide)]; show l < 400; omega) (by omega), Option.bind_some]
    refine fin _ _ (rs_of h1 (hi_L hi_refl (by decide)) (rv_10 h1.v hl)) pc rfl (by show D.nE l < 300; omega) ?_
    rw [show ((D.putF l 2 1).putF l 3 (D.facts l 0)).facts l 2 = 1 from up2_s]
    decide
  · rw [if_neg k5] at pc ⊢
    rw [if_neg (show ¬ (D.putF l 2 1).kind l = 5 from k5)]
    refine fin _ _ h1 pc rfl (by show D.nE l < 300; omega) ?_
    rw [show (D.putF l 2 1).facts l 2 = 1 from up2_s]
    decide
end WK
