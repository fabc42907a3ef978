/-! the acts keep what holds of the room -/
theorem li_same {D D' : pd} {M M' m : Nat} (I : li D M m) (hM : M ≤ M') (nb : D.nb ≤ D'.nb) (hw : ∀ w p q, sp_whole D w p q → sp_whole D' w p q)
    (d1 : D'.kind m = D.kind m) (d2 : D'.res m = D.res m) (d3 : D'.facts m = D.facts m) (d4 : D'.book m = D.book m) (d5 : D'.lims m = D.lims m) (d6 : D'.sels m = D.sels m) : li D' M' m := by
  have nE : D'.nE m = D.nE m := by unfold pd.nE; rw [d4]
  have nS : D'.nS m = D.nS m := by unfold pd.nS; rw [d6]
  have nL : D'.nL m = D.nL m := by unfold pd.nL; rw [d5]
  refine ⟨by rw [d1]; exact I.kd, by rw [d3]; exact I.so, by rw [d2]; exact I.ro, by rw [d3]; exact I.co, by rw [d3]; exact I.sts, by rw [d1, d3]; exact I.pr, ?_, ?_, by rw [d3]; exact I.bs, ?_, by rw [d4, nE]; exact I.e0, by rw [d3, nE]; exact I.en, ?_, by rw [d5, nL]; exact I.l0, ?_, by rw [d5, nL]; exact I.ld, by rw [d5, nL, d3]; exact I.lx, by rw [d6, nS]; exact I.s0, ?_⟩
  · rw [d1, d3]
    intro z
    obtain ⟨a, b, c⟩ := I.op z
    refine ⟨a, b, ?_⟩
    rcases c with c | ⟨⟨b, b1, b2⟩, c⟩
    · exact Or.inl c
    · exact Or.inr ⟨⟨b, by omega, b2⟩, c⟩
  · rw [d3]
    obtain ⟨n, a, b⟩ := I.bn
    exact ⟨n, by omega, b⟩
  · rw [d3]
    rcases I.wh with z | ⟨w, p, q, a, b, c⟩
    · exact Or.inl z
    · exact Or.inr ⟨w, p, q, hw w p q a, b, c⟩
  · rw [d4, nE]
    intro i hi
    obtain ⟨⟨b, b1, b2⟩, c⟩ := I.eb i hi
    exact ⟨⟨b, by omega, b2⟩, c⟩
  · rw [d5, nL]
    intro i hi
    obtain ⟨⟨b, b1, b2⟩, c, n, n1, n2, n3⟩ := I.lb i hi
    exact ⟨⟨b, by omega, b2⟩, c, n, n1, by omega, n3⟩
  · rw [d6, nS]
    intro i hi
    obtain ⟨b, b1, b2⟩ := I.sb i hi
    exact ⟨b, by omega, b2⟩
theorem wh_tr {D D' : pd} (nl : D.nl ≤ D'.nl) (h : ∀ m, m < D.nl → D'.facts m 11 = D.facts m 11 ∧ D'.facts m 12 = D.facts m 12 ∧ D'.facts m 13 = D.facts m 13) (w p q : Nat) (z : sp_whole D w p q) : sp_whole D' w p q := by
  obtain ⟨a, b, c, d, e, f, g1, g2, g3, g4, g5⟩ := z
  refine ⟨by omega, by omega, by omega, d, e, f, ?_, ?_, ?_, ?_, ?_⟩
  · rw [(h w a).1]; exact g1
  · rw [(h w a).2.1]; exact g2
  · rw [(h w a).2.2]; exact g3
  · rw [(h p b).1]; exact g4
  · rw [(h q c).1]; exact g5
theorem pi_lot {D D' : pd} {M M' l : Nat} (h : pi D M) (hM : M ≤ M') (hd : dou l D D') (h1 : D'.facts l 11 = D.facts l 11 ∧ D'.facts l 12 = D.facts l 12 ∧ D'.facts l 13 = D.facts l 13) (hl : (∀ w p q, sp_whole D w p q → sp_whole D' w p q) → li D' M' l) : pi D' M' := by
  have nb : D'.nb = D.nb := by unfold pd.nb; rw [hd.room]
  have nl : D'.nl = D.nl := by unfold pd.nl; rw [hd.room]
  have tr := wh_tr (D := D) (D' := D') (by omega) (fun m _ => by
    by_cases e1 : m = l
    · rw [e1]; exact h1
    · rw [(hd.o m e1).2.2.1]; exact ⟨rfl, rfl, rfl⟩)
  refine ⟨by rw [hd.room, nb]; exact h.b0, by rw [hd.room, nl]; exact h.l0, by rw [hd.st]; exact h.st, by rw [hd.br]; exact h.br, by rw [hd.br]; exact h.rt, by rw [hd.room]; exact h.tx, by rw [nb, hd.bk]; exact h.bk, by rw [hd.st]; exact h.sw, ?_⟩
  intro m hm
  rw [nl] at hm
  by_cases e1 : m = l
  · rw [e1]; exact hl tr
  · obtain ⟨d1, d2, d3, d4, d5, d6⟩ := hd.o m e1
    exact li_same (h.lot m hm) hM (by omega) tr d1 d2 d3 d4 d5 d6
theorem wh_f {D D' : pd} {l : Nat} (a : D'.facts l 11 = D.facts l 11) (hw : ∀ w p q, sp_whole D w p q → sp_whole D' w p q) (z : D.facts l 11 = -1 ∨ ∃ w p q, sp_whole D w p q ∧ D.facts l 11 = Int64.ofNat w ∧ (l = w ∨ l = p ∨ l = q)) : D'.facts l 11 = -1 ∨ ∃ w p q, sp_whole D' w p q ∧ D'.facts l 11 = Int64.ofNat w ∧ (l = w ∨ l = p ∨ l = q) := by
  rw [a]
  rcases z with z | ⟨w, p, q, a, b, c⟩
  · exact Or.inl z
  · exact Or.inr ⟨w, p, q, hw w p q a, b, c⟩
theorem up2_s {f : Nat → Nat → Int64} {l p : Nat} {v : Int64} : up2 f l p v l p = v := if_pos ⟨rfl, rfl⟩
section PI
variable {D : pd} {M l : Nat}
theorem pi_cut {r : Nat} (h : pi D M) (hl : l < D.nl) (hr : r ≤ 10000) : pi (D.putF l 1 (Int64.ofNat r)) M := by
  have I := h.lot l hl
  refine pi_lot h (Nat.le_refl _) (do_F do_refl) ⟨rfl, rfl, rfl⟩ (fun hw => ⟨I.kd, I.so, I.ro, ⟨r, hr, up2_s⟩, I.sts, I.pr, I.op, I.bn, I.bs, wh_f rfl hw I.wh, I.e0, I.en, I.eb, I.l0, I.lb, I.ld, I.lx, I.s0, I.sb⟩)
theorem pi_9 {v : Int64} (h : pi D M) (hl : l < D.nl) : pi (D.putF l 9 v) M := by
  have I := h.lot l hl
  exact pi_lot h (Nat.le_refl _) (do_F do_refl) ⟨rfl, rfl, rfl⟩ (fun hw => ⟨I.kd, I.so, I.ro, I.co, I.sts, I.pr, I.op, I.bn, I.bs, wh_f rfl hw I.wh, I.e0, I.en, I.eb, I.l0, I.lb, I.ld, I.lx, I.s0, I.sb⟩)
theorem pi_10 {v : Int64} (h : pi D M) (hl : l < D.nl) : pi (D.putF l 10 v) M := by
  have I := h.lot l hl
  exact pi_lot h (Nat.le_refl _) (do_F do_refl) ⟨rfl, rfl, rfl⟩ (fun hw => ⟨I.kd, I.so, I.ro, I.co, I.sts, I.pr, I.op, I.bn, I.bs, wh_f rfl hw I.wh, I.e0, I.en, I.eb, I.l0, I.lb, I.ld, I.lx, I.s0, I.sb⟩)
theorem pi_3 {v : Int64} (h : pi D M) (hl : l < D.nl) (hv : sp_sumOk v) : pi (D.putF l 3 v) M := by
  have I := h.lot l hl
  exact pi_lot h (Nat.le_refl _) (do_F do_refl) ⟨rfl, rfl, rfl⟩ (fun hw => ⟨I.kd, I.so, I.ro, I.co, I.sts, fun _ _ => by show sp_sumOk (up2 D.facts l 3 v l 3); rw [up2_s]; exact hv, I.op, I.bn, I.bs, wh_f rfl hw I.wh, I.e0, I.en, I.eb, I.l0, I.lb, I.ld, I.lx, I.s0, I.sb⟩)
theorem pi_2 {v : Int64} (h : pi D M) (hl : l < D.nl) (hv : v = 1 ∨ v = 2 ∨ v = 3) (hs : D.facts l 2 ≠ 0) : pi (D.putF l 2 v) M := by
  have I := h.lot l hl
  have q : (D.putF l 2 v).facts l 2 = v := up2_s
  refine pi_lot h (Nat.le_refl _) (do_F do_refl) ⟨rfl, rfl, rfl⟩ (fun hw => ⟨I.kd, I.so, I.ro, I.co, ?_, fun k _ => I.pr k hs, I.op, I.bn, I.bs, wh_f rfl hw I.wh, I.e0, ?_, I.eb, I.l0, I.lb, I.ld, I.lx, I.s0, I.sb⟩)
  · rw [q]; exact Or.inr hv
  · rw [q]
    intro z
    exfalso
    rcases hv with y | y | y <;> (rw [y] at z; exact absurd z (by decide))
theorem pi_call (h : pi D M) (hl : l < D.nl) : pi (if D.kind l = 5 then (D.putF l 2 1).putF l 3 (D.facts l 0) else D.putF l 2 1) M := by
  have I := h.lot l hl
  by_cases k5 : D.kind l = 5
  · rw [if_pos k5]
    refine pi_lot h (Nat.le_refl _) (do_F (do_F do_refl)) ⟨rfl, rfl, rfl⟩ (fun hw => ⟨I.kd, I.so, I.ro, I.co, Or.inr (Or.inl up2_s), fun _ _ => ?_, I.op, I.bn, I.bs, wh_f rfl hw I.wh, I.e0, ?_, I.eb, I.l0, I.lb, I.ld, I.lx, I.s0, I.sb⟩)
    · show sp_sumOk (up2 _ l 3 _ l 3)
      rw [up2_s]
      exact I.so
    · intro z
      exact absurd (show (1 : Int64) = 0 from (show ((D.putF l 2 1).putF l 3 (D.facts l 0)).facts l 2 = 1 from up2_s) ▸ z) (by decide)
  · rw [if_neg k5]
    refine pi_lot h (Nat.le_refl _) (do_F do_refl) ⟨rfl, rfl, rfl⟩ (fun hw => ⟨I.kd, I.so, I.ro, I.co, Or.inr (Or.inl up2_s), fun k _ => absurd k k5, I.op, I.bn, I.bs, wh_f rfl hw I.wh, I.e0, ?_, I.eb, I.l0, I.lb, I.ld, I.lx, I.s0, I.sb⟩)
    intro z
    exact absurd (show (1 : Int64) = 0 from (show (D.putF l 2 1).facts l 2 = 1 from up2_s) ▸ z) (by decide)
theorem pi_enter {b : Nat} {v : Int64} (h : pi D M) (hl : l < D.nl) (hb : b < D.nb) (hv : sp_sumOk v) (hn : D.nE l < 300) (hs : D.facts l 2 ≠ 0) : pi (sp_enter D l (nI b) v) M := by
  have I := h.lot l hl
  have hb2 := h.b0.2
  have n1 := sp_enter_nE (D := D) (l := l) (b := nI b) (v := v) (by omega)
  refine pi_lot h (Nat.le_refl _) (do_E (do_E (do_E do_refl))) ⟨rfl, rfl, rfl⟩ (fun hw => ⟨I.kd, I.so, I.ro, I.co, I.sts, I.pr, I.op, I.bn, I.bs, wh_f rfl hw I.wh, ?_, fun z => absurd z hs, ?_, I.l0, I.lb, I.ld, I.lx, I.s0, I.sb⟩)
  · rw [n1]
    refine ⟨?_, by omega⟩
    dsimp only [sp_enter, pd.putE, up2, pd.room, pd.st, pd.br, pd.bal, pd.facts, pd.book, pd.lims, pd.sels, pd.kind, pd.res, pd.bkind, pd.purse]
    rw [if_neg (by omega), if_neg (by omega), if_pos ⟨rfl, rfl⟩]
  · intro i hi
    rw [n1] at hi
    dsimp only [sp_enter, pd.putE, up2, pd.room, pd.st, pd.br, pd.bal, pd.facts, pd.book, pd.lims, pd.sels, pd.kind, pd.res, pd.bkind, pd.purse]
    by_cases e1 : i = D.nE l
    · subst e1
      rw [if_neg (by omega), if_pos ⟨rfl, rfl⟩, if_pos ⟨rfl, rfl⟩]
      exact ⟨⟨b, hb, cl_64 (by omega)⟩, hv⟩
    · rw [if_neg (by omega), if_neg (by omega), if_neg (by omega), if_neg (by omega), if_neg (by omega), if_neg (by omega)]
      exact I.eb i (by omega)
theorem pi_bid {n : Nat} {x : Int64} (h : pi D M) (hl : l < D.nl) (hx : sp_sumOk x) (hn : M < n) (hn2 : n < 2 ^ 31) : pi ((D.putF l 7 x).putF l 8 (nI n).toInt64) n := by
  have I := h.lot l hl
  have q : ((D.putF l 7 x).putF l 8 (nI n).toInt64).facts l 8 = Int64.ofNat n := (up2_s).trans (cl_64 hn2)
  refine pi_lot h (by omega) (do_F (do_F do_refl)) ⟨rfl, rfl, rfl⟩ (fun hw => ⟨I.kd, I.so, I.ro, I.co, I.sts, I.pr, I.op, ⟨n, by omega, q⟩, fun _ => ?_, wh_f rfl hw I.wh, I.e0, I.en, I.eb, I.l0, ?_, I.ld, ?_, I.s0, I.sb⟩)
  · show sp_sumOk (up2 D.facts l 7 x l 7)
    rw [up2_s]
    exact hx
  · intro i hi
    obtain ⟨a, b, c, c1, c2, c3⟩ := I.lb i hi
    exact ⟨a, b, c, c1, by omega, c3⟩
  · intro i hi
    rw [q]
    obtain ⟨a, b, c, c1, c2, c3⟩ := I.lb i hi
    show D.lims l (3 + 3 * i) ≠ _
    rw [c3]
    intro z
    rw [cl_eq (by omega) (by omega)] at z
    omega
def sp_limPut (D : pd) (n : Int32) (l : Nat) (b : Int32) (x : Int64) : pd := (((D.putL l 0 (Int64.ofNat (D.nL l + 1))).putL l (1 + 3 * D.nL l) b.toInt64).putL l (2 + 3 * D.nL l) x).putL l (3 + 3 * D.nL l) n.toInt64
theorem sp_lim_nL {b n : Int32} {x : Int64} (h : D.nL l ≤ 40) : (sp_limPut D n l b x).nL l = D.nL l + 1 := by
  have : (sp_limPut D n l b x).lims l 0 = Int64.ofNat (D.nL l + 1) := by
    dsimp only [sp_limPut, pd.putL, up2, pd.room, pd.st, pd.br, pd.bal, pd.facts, pd.book, pd.lims, pd.sels, pd.kind, pd.res, pd.bkind, pd.purse]
    rw [if_neg (by omega), if_neg (by omega), if_neg (by omega), if_pos ⟨rfl, rfl⟩]
  have h2 : (sp_limPut D n l b x).nL l = cn ((sp_limPut D n l b x).lims l 0) := rfl
  rw [h2, this, cl_cn (by omega)]
theorem pi_lim {b n : Nat} {x : Int64} (h : pi D M) (hl : l < D.nl) (hb : b < D.nb) (hx : sp_sumOk x) (hn : M < n) (hn2 : n < 2 ^ 31) (hL : D.nL l < 40) : pi (sp_limPut D (nI n) l (nI b) x) n := by
  have I := h.lot l hl
  have hb2 := h.b0.2
  have n1 := sp_lim_nL (D := D) (l := l) (b := nI b) (n := nI n) (x := x) (by omega)
  have old : ∀ i, i < D.nL l → (sp_limPut D (nI n) l (nI b) x).lims l (1 + 3 * i) = D.lims l (1 + 3 * i) ∧ (sp_limPut D (nI n) l (nI b) x).lims l (2 + 3 * i) = D.lims l (2 + 3 * i) ∧ (sp_limPut D (nI n) l (nI b) x).lims l (3 + 3 * i) = D.lims l (3 + 3 * i) := by
    intro i hi
    dsimp only [sp_limPut, pd.putL, up2, pd.room, pd.st, pd.br, pd.bal, pd.facts, pd.book, pd.lims, pd.sels, pd.kind, pd.res, pd.bkind, pd.purse]
    rw [if_neg (by omega), if_neg (by omega), if_neg (by omega), if_neg (by omega), if_neg (by omega), if_neg (by omega), if_neg (by omega), if_neg (by omega), if_neg (by omega), if_neg (by omega), if_neg (by omega), if_neg (by omega)]
    exact ⟨rfl, rfl, rfl⟩
  have new3 : (sp_limPut D (nI n) l (nI b) x).lims l (3 + 3 * D.nL l) = Int64.ofNat n := (up2_s).trans (cl_64 hn2)
  refine pi_lot h (by omega) (do_L (do_L (do_L (do_L do_refl)))) ⟨rfl, rfl, rfl⟩ (fun hw => ⟨I.kd, I.so, I.ro, I.co, I.sts, I.pr, I.op, ?_, I.bs, wh_f rfl hw I.wh, I.e0, I.en, I.eb, ?_, ?_, ?_, ?_, I.s0, I.sb⟩)
  · obtain ⟨m, a, c⟩ := I.bn
    exact ⟨m, by omega, c⟩
  · rw [n1]
    refine ⟨?_, by omega⟩
    dsimp only [sp_limPut, pd.putL, up2, pd.room, pd.st, pd.br, pd.bal, pd.facts, pd.book, pd.lims, pd.sels, pd.kind, pd.res, pd.bkind, pd.purse]
    rw [if_neg (by omega), if_neg (by omega), if_neg (by omega), if_pos ⟨rfl, rfl⟩]
  · intro i hi
    rw [n1] at hi
    by_cases e1 : i = D.nL l
    · subst e1
      rw [new3]
      dsimp only [sp_limPut, pd.putL, up2, pd.room, pd.st, pd.br, pd.bal, pd.facts, pd.book, pd.lims, pd.sels, pd.kind, pd.res, pd.bkind, pd.purse]
      rw [if_neg (by omega), if_neg (by omega), if_pos ⟨rfl, rfl⟩, if_neg (by omega), if_pos ⟨rfl, rfl⟩]
      exact ⟨⟨b, hb, cl_64 (by omega)⟩, hx, n, by omega, by omega, rfl⟩
    · obtain ⟨o1, o2, o3⟩ := old i (by omega)
      rw [o1, o2, o3]
      obtain ⟨a, c, m, m1, m2, m3⟩ := I.lb i (by omega)
      exact ⟨a, c, m, m1, by omega, m3⟩
  · intro i j hi hj hij
    rw [n1] at hi hj
    by_cases e1 : i = D.nL l
    · subst e1
      rw [new3, (old j (by omega)).2.2]
      obtain ⟨a, c, m, m1, m2, m3⟩ := I.lb j (by omega)
      rw [m3]
      intro z
      rw [cl_eq (by omega) (by omega)] at z
      omega
    · rw [(old i (by omega)).2.2]
      by_cases e2 : j = D.nL l
      · subst e2
        rw [new3]
        obtain ⟨a, c, m, m1, m2, m3⟩ := I.lb i (by omega)
        rw [m3]
        intro z
        rw [cl_eq (by omega) (by omega)] at z
        omega
      · rw [(old j (by omega)).2.2]
        exact I.ld i j (by omega) (by omega) hij
  · intro i hi
    rw [n1] at hi
    show _ ≠ D.facts l 8
    by_cases e1 : i = D.nL l
    · subst e1
      rw [new3]
      obtain ⟨m, a, c⟩ := I.bn
      rw [c]
      intro z
      rw [cl_eq (by omega) (by omega)] at z
      omega
    · rw [(old i (by omega)).2.2]
      exact I.lx i (by omega)
theorem pi_win {v x : Int64} (h : pi D M) (hl : l < D.nl) (hk : D.kind l = 4) (hv : (v = -1 ∧ x = 0) ∨ ((∃ b, b < D.nb ∧ v = Int64.ofNat b) ∧ sp_sumOk x)) : pi (((D.putF l 4 1).putF l 5 v).putF l 6 x) M := by
  have I := h.lot l hl
  refine pi_lot h (Nat.le_refl _) (do_F (do_F (do_F do_refl))) ⟨rfl, rfl, rfl⟩ (fun hw => ⟨I.kd, I.so, I.ro, I.co, I.sts, I.pr, fun _ => ⟨up2_s, hk, ?_⟩, I.bn, I.bs, wh_f rfl hw I.wh, I.e0, I.en, I.eb, I.l0, I.lb, I.ld, I.lx, I.s0, I.sb⟩)
  rw [show (((D.putF l 4 1).putF l 5 v).putF l 6 x).facts l 6 = x from up2_s, show (((D.putF l 4 1).putF l 5 v).putF l 6 x).facts l 5 = v from up2_s]
  exact hv
theorem pi_seller {b : Nat} (h : pi D M) (hl : l < D.nl) (hb : b < D.nb) (hn : D.nS l < 4) : pi ((D.putQ l 0 (Int64.ofNat (D.nS l + 1))).putQ l (1 + D.nS l) (nI b).toInt64) M := by
  have I := h.lot l hl
  have hb2 := h.b0.2
  generalize hD : (D.putQ l 0 (Int64.ofNat (D.nS l + 1))).putQ l (1 + D.nS l) (nI b).toInt64 = D'
  have s0 : D'.sels l 0 = Int64.ofNat (D.nS l + 1) := by
    rw [← hD]
    dsimp only [pd.putQ, up2, pd.room, pd.st, pd.br, pd.bal, pd.facts, pd.book, pd.lims, pd.sels, pd.kind, pd.res, pd.bkind, pd.purse]
    rw [if_neg (by omega), if_pos ⟨rfl, rfl⟩]
  have n1 : D'.nS l = D.nS l + 1 := by
    have h2 : D'.nS l = cn (D'.sels l 0) := rfl
    rw [h2, s0, cl_cn (by omega)]
  subst hD
  refine pi_lot h (Nat.le_refl _) (do_Q (do_Q do_refl)) ⟨rfl, rfl, rfl⟩ (fun hw => ⟨I.kd, I.so, I.ro, I.co, I.sts, I.pr, I.op, I.bn, I.bs, wh_f rfl hw I.wh, I.e0, I.en, I.eb, I.l0, I.lb, I.ld, I.lx, ⟨by rw [n1]; exact s0, by omega⟩, ?_⟩)
  intro i hi
  rw [n1] at hi
  dsimp only [pd.putQ, up2, pd.room, pd.st, pd.br, pd.bal, pd.facts, pd.book, pd.lims, pd.sels, pd.kind, pd.res, pd.bkind, pd.purse]
  by_cases e1 : i = D.nS l
  · subst e1
    rw [if_pos ⟨rfl, rfl⟩]
    exact ⟨b, hb, cl_64 (by omega)⟩
  · rw [if_neg (by omega), if_neg (by omega)]
    exact I.sb i (by omega)
/-! rows of the room -/
theorem pi_bal {b p : Nat} {v : Int64} (h : pi D M) : pi (D.putB b p v) M :=
  ⟨h.b0, h.l0, h.st, h.br, h.rt, h.tx, h.bk, h.sw, fun m hm => li_same (h.lot m hm) (Nat.le_refl _) (Nat.le_refl _) (fun w p q z => wh_tr (D := D) (Nat.le_refl _) (fun _ _ => ⟨rfl, rfl, rfl⟩) w p q z) rfl rfl rfl rfl rfl rfl⟩
theorem pi_room {k : Nat} {v : Int64} (h : pi D M) (hk : 2 ≤ k) (hv : k < 6 ∨ 10 < k ∨ ∃ r : Nat, r ≤ 10000 ∧ v = Int64.ofNat r) : pi (D.putR k v) M := by
  have nb : (D.putR k v).nb = D.nb := by
    dsimp only [pd.nb, pd.putR, up1, pd.room, pd.st, pd.br, pd.bal, pd.facts, pd.book, pd.lims, pd.sels, pd.kind, pd.res, pd.bkind, pd.purse]
    rw [if_neg (by omega)]
  have nl : (D.putR k v).nl = D.nl := by
    dsimp only [pd.nl, pd.putR, up1, pd.room, pd.st, pd.br, pd.bal, pd.facts, pd.book, pd.lims, pd.sels, pd.kind, pd.res, pd.bkind, pd.purse]
    rw [if_neg (by omega)]
  refine ⟨?_, ?_, h.st, h.br, h.rt, ?_, by rw [nb]; exact h.bk, h.sw, ?_⟩
  · rw [nb]
    dsimp only [pd.putR, up1, pd.room, pd.st, pd.br, pd.bal, pd.facts, pd.book, pd.lims, pd.sels, pd.kind, pd.res, pd.bkind, pd.purse]
    rw [if_neg (by omega)]
    exact h.b0
  · rw [nl]
    dsimp only [pd.putR, up1, pd.room, pd.st, pd.br, pd.bal, pd.facts, pd.book, pd.lims, pd.sels, pd.kind, pd.res, pd.bkind, pd.purse]
    rw [if_neg (by omega)]
    exact h.l0
  · intro j a b
    dsimp only [pd.putR, up1, pd.room, pd.st, pd.br, pd.bal, pd.facts, pd.book, pd.lims, pd.sels, pd.kind, pd.res, pd.bkind, pd.purse]
    by_cases e1 : 5 + j = k
    · rw [if_pos e1]
      rcases hv with z | z | z
      · omega
      · omega
      · exact z
    · rw [if_neg e1]
      exact h.tx j a b
  · intro m hm
    rw [nl] at hm
    exact li_same (h.lot m hm) (Nat.le_refl _) (by omega) (fun w p q z => wh_tr (D := D) (D' := D.putR k v) (by omega) (fun _ _ => ⟨rfl, rfl, rfl⟩) w p q z) rfl rfl rfl rfl rfl rfl
theorem ti_add {T : Nat → Int64} {x y : Int64} (h : ti T) (hn : cn (T 0) < 20) (hx : sp_monOk x) (hu : cn (T 0) ≠ 0 → T (1 + 2 * (cn (T 0) - 1)) < x) : ti (up1 (up1 (up1 T 0 (Int64.ofNat (cn (T 0) + 1))) (1 + 2 * cn (T 0)) x) (2 + 2 * cn (T 0)) y) ∧ cn (up1 (up1 (up1 T 0 (Int64.ofNat (cn (T 0) + 1))) (1 + 2 * cn (T 0)) x) (2 + 2 * cn (T 0)) y 0) = cn (T 0) + 1 := by
  generalize hm : cn (T 0) = m at hn hu ⊢
  have z0 : up1 (up1 (up1 T 0 (Int64.ofNat (m + 1))) (1 + 2 * m) x) (2 + 2 * m) y 0 = Int64.ofNat (m + 1) := by
    dsimp only [up1]
    rw [if_neg (by omega), if_neg (by omega), if_pos rfl]
  have c0 : cn (up1 (up1 (up1 T 0 (Int64.ofNat (m + 1))) (1 + 2 * m) x) (2 + 2 * m) y 0) = m + 1 := by
    rw [z0, cl_cn (by omega)]
  have old : ∀ i, i < m → up1 (up1 (up1 T 0 (Int64.ofNat (m + 1))) (1 + 2 * m) x) (2 + 2 * m) y (1 + 2 * i) = T (1 + 2 * i) := by
    intro i hi
    dsimp only [up1]
    rw [if_neg (by omega), if_neg (by omega), if_neg (by omega)]
  have new : up1 (up1 (up1 T 0 (Int64.ofNat (m + 1))) (1 + 2 * m) x) (2 + 2 * m) y (1 + 2 * m) = x := by
    dsimp only [up1]
    rw [if_neg (by omega), if_pos rfl]
  refine ⟨⟨by rw [c0]; exact ⟨z0, by omega⟩, ?_, ?_⟩, c0⟩
  · rw [c0]
    intro i hi
    by_cases e1 : i = m
    · rw [e1, new]; exact hx
    · rw [old i (by omega)]
      exact h.fo i (by omega)
  · rw [c0]
    intro i hi
    by_cases e1 : i + 1 = m
    · rw [e1, new, old i (by omega)]
      have := hu (by omega)
      rw [show m - 1 = i from by omega] at this
      exact this
    · rw [old i (by omega), old (i + 1) (by omega)]
      exact h.up i (by omega)
theorem pi_step {x y : Int64} (h : pi D M) (hn : cn (D.st 0) < 20) (hx : sp_monOk x) (hy : sp_sumOk y) (hu : cn (D.st 0) ≠ 0 → D.st (1 + 2 * (cn (D.st 0) - 1)) < x) : pi (((D.putS 0 (Int64.ofNat (cn (D.st 0) + 1))).putS (1 + 2 * cn (D.st 0)) x).putS (2 + 2 * cn (D.st 0)) y) M := by
  obtain ⟨t1, t2⟩ := ti_add (y := y) h.st hn hx hu
  refine ⟨h.b0, h.l0, t1, h.br, h.rt, h.tx, h.bk, ?_, fun m hm => li_same (h.lot m hm) (Nat.le_refl _) (Nat.le_refl _) (fun w p q z => wh_tr (D := D) (Nat.le_refl _) (fun _ _ => ⟨rfl, rfl, rfl⟩) w p q z) rfl rfl rfl rfl rfl rfl⟩
  intro i hi
  have hi2 : i < cn (D.st 0) + 1 := by rw [← t2]; exact hi
  show sp_sumOk (up1 (up1 (up1 D.st 0 (Int64.ofNat (cn (D.st 0) + 1))) (1 + 2 * cn (D.st 0)) x) (2 + 2 * cn (D.st 0)) y (2 + 2 * i))
  dsimp only [up1]
  by_cases e1 : i = cn (D.st 0)
  · rw [if_pos (by omega)]
    exact hy
  · rw [if_neg (by omega), if_neg (by omega), if_neg (by omega)]
    exact h.sw i (by omega)
theorem pi_brk {x : Int64} {r : Nat} (h : pi D M) (hn : cn (D.br 0) < 20) (hx : sp_monOk x) (hr : r ≤ 10000) (hu : cn (D.br 0) ≠ 0 → D.br (1 + 2 * (cn (D.br 0) - 1)) < x) : pi (((D.putT 0 (Int64.ofNat (cn (D.br 0) + 1))).putT (1 + 2 * cn (D.br 0)) x).putT (2 + 2 * cn (D.br 0)) (Int64.ofNat r)) M := by
  obtain ⟨t1, t2⟩ := ti_add (y := Int64.ofNat r) h.br hn hx hu
  refine ⟨h.b0, h.l0, h.st, t1, ?_, h.tx, h.bk, h.sw, fun m hm => li_same (h.lot m hm) (Nat.le_refl _) (Nat.le_refl _) (fun w p q z => wh_tr (D := D) (Nat.le_refl _) (fun _ _ => ⟨rfl, rfl, rfl⟩) w p q z) rfl rfl rfl rfl rfl rfl⟩
  intro i hi
  have hi2 : i < cn (D.br 0) + 1 := by rw [← t2]; exact hi
  show ∃ r' : Nat, r' ≤ 10000 ∧ up1 (up1 (up1 D.br 0 (Int64.ofNat (cn (D.br 0) + 1))) (1 + 2 * cn (D.br 0)) x) (2 + 2 * cn (D.br 0)) (Int64.ofNat r) (2 + 2 * i) = Int64.ofNat r'
  dsimp only [up1]
  by_cases e1 : i = cn (D.br 0)
  · rw [if_pos (by omega)]
    exact ⟨r, hr, rfl⟩
  · rw [if_neg (by omega), if_neg (by omega), if_neg (by omega)]
    exact h.rt i (by omega)
end PI
