/-! bids and limits, which take a number -/
def nxtN (s0 : mt_S) (ag : Bool) : Int32 := if ag then s0.1 57 0 else s0.1 51 0 + 1
def numS (s0 : mt_S) (ag : Bool) : mt_S := if ag then s0 else gm_setI (gm_setI s0 51 0 (s0.1 51 0 + 1)) 57 0 (s0.1 51 0 + 1)
def wkn (s0 : mt_S) (ag : Bool) (cs : List Int32) (e : Nat) (g : Option (Int64 × mt_S)) (r : sr) : Prop := ∃ s' e', g = some (r.1, s') ∧ rs (if r.1 < 0 then s0 else numS s0 ag) s' r.2.1 e' ag (addC ag cs r.2.2) ∧ e' ≤ e + 2
section WN
variable {N : Nat} {s0 s : mt_S} {D : pd} {e M l : Nat} {ag : Bool} {cs : List Int32}
theorem rv_57 {v w : Int32} (h : rv s D e) : rv (gm_setI (gm_setI s 51 0 v) 57 0 w) D e :=
  ⟨h.len, h.pl, h.en, h.nb, h.bid, h.nl, h.st, h.br, h.tx, h.ac, rv_lots h (fun k hk _ _ _ _ _ _ _ _ _ _ _ _ => ⟨(fne_I (by omega)).trans (fne_I (by omega)), rfl⟩) rfl ⟨rfl, rfl, rfl, rfl, rfl, rfl⟩⟩
theorem w_number (h : rs s0 s D e ag cs) : ∃ s1, gm_X8_number N s = some (nxtN s0 ag, s1) ∧ rs (numS s0 ag) s1 D e ag cs := by
  unfold gm_X8_number nxtN numS
  cases ag with
  | true =>
    rw [if_neg (by rw [h.ag]; decide), if_pos rfl, if_pos rfl, (h.fr 57 (by decide)).1]
    exact ⟨s, rfl, h⟩
  | false =>
    rw [if_pos (by rw [h.ag]; rfl), if_neg (by decide), if_neg (by decide)]
    unfold gm_pI
    rw [Option.bind_some]
    have e51 := (h.fr 51 (by decide)).1
    rw [show (gm_setI s 51 0 (s.1 51 0 + 1)).1 51 0 = s.1 51 0 + 1 from sI_same, Option.bind_some]
    rw [show (gm_setI (gm_setI s 51 0 (s.1 51 0 + 1)) 57 0 (s.1 51 0 + 1)).1 57 0 = s.1 51 0 + 1 from sI_same, e51]
    refine ⟨_, rfl, rv_57 h.v, h.c, h.ag, ?_⟩
    intro k hk
    obtain ⟨x, y, z⟩ := h.fr k hk
    refine ⟨?_, y, z⟩
    funext j
    dsimp only [gm_setI]
    rw [x]
theorem wkn_no {x : Int64} (h : rs s0 s D e ag cs) (hx : x < 0) : wkn s0 ag cs e (some (x, s)) (x, D, []) :=
  ⟨s, e, rfl, by rw [if_pos (show ((x, D, []) : sr).1 < 0 from hx), show ((x, D, []) : sr).2.2 = [] from rfl, addC_nil h.c.2.2.1]; exact h, by omega⟩
theorem wkn_noC {x : Int64} {L : List Int32} (h : rs s0 s D e ag (addC ag cs L)) (hx : x < 0) : wkn s0 ag cs e (some (x, s)) (x, D, L) :=
  ⟨s, e, rfl, by rw [if_pos (show ((x, D, L) : sr).1 < 0 from hx)]; exact h, by omega⟩
theorem wkn_yes {x : Int64} {L : List Int32} {D' : pd} {e' : Nat} (h : rs (numS s0 ag) s D' e' ag (addC ag cs L)) (hx : ¬ x < 0) (he : e' ≤ e + 2) : wkn s0 ag cs e (some (x, s)) (x, D', L) :=
  ⟨s, e', rfl, by rw [if_neg (show ¬ ((x, D', L) : sr).1 < 0 from hx)]; exact h, he⟩
theorem neg_noLot {a : Int32} (h : sp_noLot D a ≠ 0) : (-(sp_noLot D a)).toInt64 < 0 := by
  unfold sp_noLot at h ⊢
  split
  · decide
  · split
    · split
      · rename_i z1 z2 z3; rw [if_neg z1, if_pos z2, if_pos z3] at h; exact absurd rfl h
      · decide
    · decide
theorem neg_noBid {a : Int32} (h : sp_noBid D a ≠ 0) : (-(sp_noBid D a)).toInt64 < 0 := by
  unfold sp_noBid at h ⊢
  split
  · decide
  · split
    · split
      · rename_i z1 z2 z3; rw [if_neg z1, if_pos z2, if_pos z3] at h; exact absurd rfl h
      · decide
    · decide
theorem neg_notOpen (h : sp_notOpen D l ≠ 0) : (-(sp_notOpen D l)).toInt64 < 0 := by
  unfold sp_notOpen at h ⊢
  split
  · decide
  · split
    · rename_i z1 z2; rw [if_neg z1, if_pos z2] at h; exact absurd rfl h
    · decide
theorem wkn_L {a : Int32} {g1 : Option (Int64 × mt_S)} {f : Nat → sr} (h : rs s0 s D e ag cs) (hp : pi D M) (kk : ∀ l, a = nI l → l < D.nl → wkn s0 ag cs e g1 (f l)) : wkn s0 ag cs e (if sp_noLot D a ≤ 0 then g1 else Option.bind (gm_X8_noLot N a s) fun q => some ((-q.1).toInt64, q.2)) (sp_withL D a f) := by
  rw [w_noLot h.v, Option.bind_some]
  unfold sp_withL
  by_cases c : sp_noLot D a = 0
  · obtain ⟨x, y⟩ := noLot0 hp.l0.2 c
    rw [if_pos (noLotLe.mpr c), if_pos c]
    exact kk (ix a) x y
  · rw [if_neg (fun z => c (noLotLe.mp z)), if_neg c]
    exact wkn_no h (neg_noLot c)
theorem wkn_B {a : Int32} {g1 : Option (Int64 × mt_S)} {f : Nat → sr} (h : rs s0 s D e ag cs) (hp : pi D M) (kk : ∀ l, a = nI l → l < D.nb → wkn s0 ag cs e g1 (f l)) : wkn s0 ag cs e (if sp_noBid D a ≤ 0 then g1 else Option.bind (gm_X8_noBidder N a s) fun q => some ((-q.1).toInt64, q.2)) (sp_withB D a f) := by
  rw [w_noBid h.v, Option.bind_some]
  unfold sp_withB
  by_cases c : sp_noBid D a = 0
  · obtain ⟨x, y⟩ := noBid0 hp.b0.2 c
    rw [if_pos (noBidLe.mpr c), if_pos c]
    exact kk (ix a) x y
  · rw [if_neg (fun z => c (noBidLe.mp z)), if_neg c]
    exact wkn_no h (neg_noBid c)
theorem wkn_O {l : Nat} {g1 : Option (Int64 × mt_S)} {f : sr} (h : rs s0 s D e ag cs) (hp : pi D M) (hl : l < D.nl) (kk : sp_notOpen D l = 0 → wkn s0 ag cs e g1 f) : wkn s0 ag cs e (if sp_notOpen D l ≤ 0 then g1 else Option.bind (gm_X8_notOpen N (nI l) s) fun q => some ((-q.1).toInt64, q.2)) (sp_open' D l f) := by
  rw [w_notOpen h.v hp hl, Option.bind_some]
  unfold sp_open'
  by_cases c : sp_notOpen D l = 0
  · rw [if_pos (notOpenLe.mpr c), if_pos c]
    exact kk c
  · rw [if_neg (fun z => c (notOpenLe.mp z)), if_neg c]
    exact wkn_no h (neg_notOpen c)
theorem wkn_if {p q : Prop} [Decidable p] [Decidable q] {g1 g2 : Option (Int64 × mt_S)} {r1 r2 : sr} (hpq : p ↔ q) (h1 : q → wkn s0 ag cs e g1 r1) (h2 : ¬ q → wkn s0 ag cs e g2 r2) : wkn s0 ag cs e (if p then g1 else g2) (if q then r1 else r2) := by
  by_cases c : q
  · rw [if_pos (hpq.mpr c), if_pos c]; exact h1 c
  · rw [if_neg (fun z => c (hpq.mp z)), if_neg c]; exact h2 c
theorem wkn_ifn {p q : Prop} [Decidable p] [Decidable q] {g1 g2 : Option (Int64 × mt_S)} {r1 r2 : sr} (hpq : p ↔ ¬ q) (h1 : q → wkn s0 ag cs e g2 r1) (h2 : ¬ q → wkn s0 ag cs e g1 r2) : wkn s0 ag cs e (if p then g1 else g2) (if q then r1 else r2) := by
  by_cases c : q
  · rw [if_neg (fun z => (hpq.mp z) c), if_pos c]; exact h1 c
  · rw [if_pos (hpq.mpr c), if_neg c]; exact h2 c
theorem nn_ge {n : Nat} (h : n < 2 ^ 31) : ¬ (nI n).toInt64 < 0 := by
  rw [cl_0, cl_lt]; exact cz_nn h
theorem w_bid {a b : Int32} {x : Int64} {n : Nat} (h : rs s0 s D e ag cs) (hp : pi D M) (he : e < 1900) (hn : nxtN s0 ag = nI n) (hn1 : M < n) (hn2 : n < 2 ^ 31) (hN : 5000 ≤ N) : wkn s0 ag cs e (gm_X8_bidden N a b x s) (sp_bid D (nI n) a b x) := by
  have h4 := hp.l0.2
  unfold gm_X8_bidden sp_bid
  rw [w_isSum, Option.bind_some]
  dsimp only
  refine wkn_if b10 (fun _ => wkn_no h (by decide)) (fun hx => ?_)
  have hx : sp_sumOk x := Decidable.not_not.mp hx
  rw [w_noLot h.v, Option.bind_some]
  dsimp only
  refine wkn_L h hp (fun l hl1 hl => ?_)
  subst hl1
  have I := hp.lot l hl
  rw [rd5 h.v hl h4, Option.bind_some]
  refine wkn_if Iff.rfl (fun _ => wkn_no h (by decide)) (fun k5 => ?_)
  rw [w_noBid h.v, Option.bind_some]
  dsimp only
  refine wkn_B h hp (fun c hc1 hc => ?_)
  subst hc1
  rw [rd1 h.v hc hp.b0.2, Option.bind_some, Option.bind_some]
  have split2 : ∀ {g1 g2 : Option (Int64 × mt_S)} {r1 r2 : sr}, wkn s0 ag cs e g1 r1 → (¬ (D.bkind c = 2 ∨ D.bkind c = 3) → wkn s0 ag cs e g2 r2) → wkn s0 ag cs e (if D.bkind c = 2 then g1 else if D.bkind c = 3 then g1 else g2) (if D.bkind c = 2 ∨ D.bkind c = 3 then r1 else r2) := by
    intro g1 g2 r1 r2 w1 w2
    by_cases z2 : D.bkind c = 2
    · rw [if_pos z2, if_pos (Or.inl z2)]; exact w1
    · by_cases z3 : D.bkind c = 3
      · rw [if_neg z2, if_pos z3, if_pos (Or.inr z3)]; exact w1
      · rw [if_neg z2, if_neg z3, if_neg (by rintro (z | z); exact z2 z; exact z3 z)]
        exact w2 (by rintro (z | z); exact z2 z; exact z3 z)
  refine split2 (wkn_no h (by decide)) (fun hk => ?_)
  rw [w_notOpen h.v hp hl, Option.bind_some]
  dsimp only
  refine wkn_O h hp hl (fun ho => ?_)
  have f2 := ne1 (notOpen_1 ho)
  rw [rd5 h.v hl h4, Option.bind_some, rd25 h.v hl h4, Option.bind_some]
  have key : wkn s0 ag cs e (gb_X8_bidden_155 N (nI l) (nI c) x s) (if x < sp_ask D l then (-10, D, sp_askC D l)
  else if ¬ sp_may D c l x then (-11, D, sp_askC D l ++ sp_mayC D c l)
  else if 299 ≤ D.nE l then (-12, D, sp_askC D l ++ sp_mayC D c l)
  else ((nI n).toInt64, sp_bidIn D (nI n) l (nI c) x, sp_askC D l ++ sp_mayC D c l)) := by
    unfold gb_X8_bidden_155
    obtain ⟨s1, g1, h1⟩ := w_ask (N := N) h hp hl (by omega) hN
    rw [g1, Option.bind_some]
    dsimp only
    refine wkn_ifn (by rw [nle64]) (fun _ => wkn_noC h1 (by decide)) (fun _ => ?_)
    obtain ⟨s2, g2, h2⟩ := w_may (N := N) (x := x) h1 hp hl hc (hp.bk c hc) hN
    rw [g2, Option.bind_some]
    dsimp only
    rw [addC_add] at h2
    refine wkn_if b10 (fun _ => wkn_noC h2 (by decide)) (fun hm => ?_)
    rw [rd13 h2.v hl h4, Option.bind_some, if_neg f2]
    have e3 := I.e0.2
    refine wkn_ifn (by rw [show (299 : Int32) = nI 299 from rfl, cz_lt (by omega) (by omega)]; omega) (fun _ => wkn_noC h2 (by decide)) (fun h9 => ?_)
    obtain ⟨s3, g3, h3⟩ := w_number (N := N) h2
    rw [g3, Option.bind_some, hn]
    dsimp only
    obtain ⟨s4, g4, h4'⟩ := rs_enter (N := N) (b := nI c) (v := x) h3 hN hl h4 (by omega) (by omega) f2
    rw [g4, Option.bind_some]
    have P1 := pi_enter (b := c) (v := x) hp hl hc hx (by omega) f2
    dsimp only
    rw [gm_wrI (by rw [h4'.v.len 23 (by decide)]; show l < 400; omega) (by omega), Option.bind_some, gm_wrL (by show l < s4.2.2 24; rw [h4'.v.len 24 (by decide)]; show l < 400; omega) (by omega), Option.bind_some]
    have h5 := rs_of h4' (hi_L (hi_I hi_refl (by decide)) (by decide)) (rv_bid (v := nI n) (x := x) h4'.v (l := l) hl)
    have P2 := pi_bid (n := n) (x := x) P1 (l := l) hl hx hn1 hn2
    have nE1 : (((sp_enter D l (nI c) x).putF l 7 x).putF l 8 (nI n).toInt64).nE l = D.nE l + 1 := sp_enter_nE (by omega)
    have ff : (((sp_enter D l (nI c) x).putF l 7 x).putF l 8 (nI n).toInt64).facts l 2 = D.facts l 2 := rfl
    obtain ⟨s6, e6, g6, h6, k6⟩ := w_papers (N := N) h5 P2 hl hn2 (by omega) (by omega) (by rw [ff]; exact f2) hN
    rw [g6, Option.bind_some]
    exact wkn_yes h6 (nn_ge hn2) (by omega)
  have has : wkn s0 ag cs e (gb_X8_bidden_120 N (nI l) (nI c) x s) (if sp_has D l (nI c) then (-13, D, []) else if x < sp_ask D l then (-10, D, sp_askC D l)
  else if ¬ sp_may D c l x then (-11, D, sp_askC D l ++ sp_mayC D c l)
  else if 299 ≤ D.nE l then (-12, D, sp_askC D l ++ sp_mayC D c l)
  else ((nI n).toInt64, sp_bidIn D (nI n) l (nI c) x, sp_askC D l ++ sp_mayC D c l)) := by
    unfold gb_X8_bidden_120
    rw [rd5 h.v hl h4, Option.bind_some, w_has h.v hp hl hN, Option.bind_some, w_stand h.v hp hl (by omega), Option.bind_some]
    dsimp only
    by_cases k4 : D.kind l = 4
    · rw [if_pos k4]
      have e1 : sp_has D l (nI c) ↔ fr (fun k => D.book l (1 + 2 * k)) (nI c).toInt64 (D.nE l) 0 ≠ none := by
        unfold sp_has
        rw [if_pos k4]
      exact wkn_ifn (by rw [b10, e1]) (fun _ => wkn_no h (by decide)) (fun _ => key)
    · rw [if_neg k4]
      have e1 : sp_has D l (nI c) ↔ sp_stand D l = nI c := by
        unfold sp_has
        rw [if_neg k4]
      exact wkn_if (by rw [e1]) (fun _ => wkn_no h (by decide)) (fun _ => key)
  by_cases k4 : D.kind l = 4
  · rw [if_pos k4]
    refine wkn_ifn (by rw [fct_4 h.v hl, ← cl_0]; exact Decidable.not_not.symm) (fun _ => wkn_no h (by decide)) (fun _ => has)
  · rw [if_neg k4, if_neg (show ¬ D.facts l 4 ≠ 0 from fun z => k4 (I.op z).2.1)]
    exact has
theorem w_limit {a b : Int32} {x : Int64} {n : Nat} (h : rs s0 s D e ag cs) (hp : pi D M) (he : e < 1900) (hn : nxtN s0 ag = nI n) (hn1 : M < n) (hn2 : n < 2 ^ 31) (hN : 5000 ≤ N) : wkn s0 ag cs e (gm_X8_written N a b x s) (sp_limit D (nI n) a b x) := by
  have h4 := hp.l0.2
  unfold gm_X8_written sp_limit
  rw [w_isSum, Option.bind_some]
  dsimp only
  refine wkn_if b10 (fun _ => wkn_no h (by decide)) (fun hx => ?_)
  have hx : sp_sumOk x := Decidable.not_not.mp hx
  rw [w_noLot h.v, Option.bind_some]
  dsimp only
  refine wkn_L h hp (fun l hl1 hl => ?_)
  subst hl1
  have I := hp.lot l hl
  rw [w_isPlain h.v hp hl, Option.bind_some]
  dsimp only
  refine wkn_if b01 (fun _ => wkn_no h (by decide)) (fun k5 => ?_)
  rw [w_noBid h.v, Option.bind_some]
  dsimp only
  refine wkn_B h hp (fun c hc1 hc => ?_)
  subst hc1
  rw [rd1 h.v hc hp.b0.2, Option.bind_some, Option.bind_some]
  have split2 : ∀ {g1 g2 : Option (Int64 × mt_S)} {r1 r2 : sr}, ((D.bkind c = 2 ∨ D.bkind c = 3) → wkn s0 ag cs e g1 r1) → wkn s0 ag cs e g2 r2 → wkn s0 ag cs e (if D.bkind c = 2 then g1 else if D.bkind c = 3 then g1 else g2) (if ¬ (D.bkind c = 2 ∨ D.bkind c = 3) then r2 else r1) := by
    intro g1 g2 r1 r2 w1 w2
    by_cases z2 : D.bkind c = 2
    · rw [if_pos z2, if_neg (fun k => k (Or.inl z2))]; exact w1 (Or.inl z2)
    · by_cases z3 : D.bkind c = 3
      · rw [if_neg z2, if_pos z3, if_neg (fun k => k (Or.inr z3))]; exact w1 (Or.inr z3)
      · rw [if_neg z2, if_neg z3, if_pos (by rintro (z | z); exact z2 z; exact z3 z)]
        exact w2
  refine split2 (fun hk => ?_) (wkn_no h (by decide))
  unfold gb_X8_written_79
  rw [rd9 h.v hl h4, Option.bind_some]
  have st1 : (D.facts l 2).toInt32 ≤ 1 ↔ ¬ ¬ (D.facts l 2 = 0 ∨ D.facts l 2 = 1) := by
    rw [Decidable.not_not]
    rcases I.sts with z | z | z | z <;> rw [z] <;> decide
  refine wkn_ifn st1 (fun _ => wkn_no h (by decide)) (fun hst => ?_)
  have hst : D.facts l 2 = 0 ∨ D.facts l 2 = 1 := Decidable.not_not.mp hst
  rw [w_limitOf h.v hl h4 hN, Option.bind_some]
  dsimp only
  have hL4 := I.l0.2
  have lr : (match sp_limRow D l (nI c) with | none => -1 | some r => nI (40 * l + r)) < (0 : Int32) ↔ ¬ sp_limRow D l (nI c) ≠ none := by
    cases q : sp_limRow D l (nI c) with
    | none => exact ⟨fun _ z => z rfl, fun _ => (by decide : (-1 : Int32) < 0)⟩
    | some r =>
      obtain ⟨r1, r2, r3⟩ := fr_some _ _ _ q
      refine ⟨fun z => absurd z (cz_nn (by omega)), fun z => absurd (by simp) z⟩
  refine wkn_ifn lr (fun _ => wkn_no h (by decide)) (fun hlr => ?_)
  obtain ⟨s2, g2, h2⟩ := w_may (N := N) (x := x) h hp hl hc (hp.bk c hc) hN
  rw [g2, Option.bind_some]
  dsimp only
  refine wkn_if b10 (fun _ => wkn_noC h2 (by decide)) (fun hm => ?_)
  rw [rd19 h2.v hl h4, Option.bind_some, rd13 h2.v hl h4, Option.bind_some]
  have e3 := I.e0.2
  have split3 : ∀ {g1 g2 : Option (Int64 × mt_S)} {r1 r2 : sr}, wkn s0 ag cs e g1 r1 → (¬ (D.nL l = 40 ∨ 300 ≤ D.nE l) → wkn s0 ag cs e g2 r2) → wkn s0 ag cs e (if nI (D.nL l) = 40 then g1 else if (if D.facts l 2 = 0 then -1 else nI (D.nE l)) < 300 then g2 else g1) (if D.nL l = 40 ∨ 300 ≤ D.nE l then r1 else r2) := by
    intro g1 g2 r1 r2 w1 w2
    have c1 : nI (D.nL l) = 40 ↔ D.nL l = 40 := by rw [show (40 : Int32) = nI 40 from rfl, cz_eq (by omega) (by omega)]
    have c2 : (if D.facts l 2 = 0 then -1 else nI (D.nE l)) < 300 ↔ D.nE l < 300 := by
      by_cases z : D.facts l 2 = 0
      · rw [if_pos z, I.en z]; decide
      · rw [if_neg z, show (300 : Int32) = nI 300 from rfl, cz_lt (by omega) (by omega)]
    by_cases z2 : D.nL l = 40
    · rw [if_pos (c1.mpr z2), if_pos (Or.inl z2)]; exact w1
    · by_cases z3 : D.nE l < 300
      · rw [if_neg (fun k => z2 (c1.mp k)), if_pos (c2.mpr z3), if_neg (by omega)]; exact w2 (by omega)
      · rw [if_neg (fun k => z2 (c1.mp k)), if_neg (fun k => z3 (c2.mp k)), if_pos (by omega)]
        exact w1
  refine split3 (wkn_noC h2 (by decide)) (fun h9 => ?_)
  have hL : D.nL l < 40 := by omega
  obtain ⟨s3, g3, h3⟩ := w_number (N := N) h2
  rw [g3, Option.bind_some, hn]
  dsimp only
  have ixe : (40 * nI l) + nI (D.nL l) = nI (40 * l + D.nL l) := by
    rw [show (40 : Int32) = nI 40 from rfl, cz_mul, cz_add]
  rw [rd19 h3.v hl h4, Option.bind_some, ixe]
  rw [gm_wrI (by rw [h3.v.len 20 (by decide)]; show _ < 16000; omega) (by omega), Option.bind_some]
  rw [gm_wrL (by show _ < s3.2.2 21; rw [h3.v.len 21 (by decide)]; show _ < 16000; omega) (by omega), Option.bind_some]
  rw [gm_wrI (by show _ < s3.2.2 22; rw [h3.v.len 22 (by decide)]; show _ < 16000; omega) (by omega), Option.bind_some]
  rw [gm_rdI (by show l < s3.2.2 19; rw [h3.v.len 19 (by decide)]; show l < 400; omega) (by omega), Option.bind_some]
  rw [show (gm_setI (gm_setL (gm_setI s3 20 (40 * l + D.nL l) (nI c)) 21 (40 * l + D.nL l) x) 22 (40 * l + D.nL l) (nI n)).1 19 l = nI (D.nL l) from (h3.v.lot l hl).k19, show (1 : Int32) = nI 1 from rfl, cz_add]
  rw [gm_wrI (by show l < s3.2.2 19; rw [h3.v.len 19 (by decide)]; show l < 400; omega) (by omega), Option.bind_some]
  have h5 := rs_of h3 (hi_I (hi_I (hi_L (hi_I hi_refl (by decide)) (by decide)) (by decide)) (by decide)) (rv_limit (b := nI c) (n := nI n) (x := x) h3.v hl hL)
  have P2 : pi (sp_limPut D (nI n) l (nI c) x) n := pi_lim hp hl hc hx hn1 hn2 hL
  rw [show ((((D.putL l 0 (Int64.ofNat (D.nL l + 1))).putL l (1 + 3 * D.nL l) (nI c).toInt64).putL l (2 + 3 * D.nL l) x).putL l (3 + 3 * D.nL l) (nI n).toInt64) = sp_limPut D (nI n) l (nI c) x from rfl] at h5
  have lE : sp_limIn D (nI n) l (nI c) x = if D.facts l 2 = 1 then sp_papers (sp_limPut D (nI n) l (nI c) x) l else sp_limPut D (nI n) l (nI c) x := rfl
  rw [lE]
  generalize hDD : sp_limPut D (nI n) l (nI c) x = DD at h5 P2 ⊢
  have hlD : l < DD.nl := by rw [← hDD]; exact hl
  have fD : DD.facts l 2 = D.facts l 2 := by rw [← hDD]; rfl
  have eD : DD.nE l = D.nE l := by rw [← hDD]; rfl
  have h4D : DD.nl ≤ 400 := P2.l0.2
  rw [rd9 h5.v hlD h4D, Option.bind_some, fD]
  have st2 : (D.facts l 2).toInt32 = nI 1 ↔ D.facts l 2 = 1 := by
    rcases I.sts with z | z | z | z <;> rw [z] <;> decide
  by_cases c1 : D.facts l 2 = 1
  · rw [if_pos (st2.mpr c1), if_pos c1]
    obtain ⟨s6, e6, g6, h6, k6⟩ := w_papers (N := N) h5 P2 hlD hn2 (by omega) (by omega) (by rw [fD]; exact ne1 c1) hN
    rw [g6, Option.bind_some]
    exact wkn_yes h6 (nn_ge hn2) (by omega)
  · rw [if_neg (fun z => c1 (st2.mp z)), if_neg c1]
    exact wkn_yes h5 (nn_ge hn2) (by omega)
end WN
