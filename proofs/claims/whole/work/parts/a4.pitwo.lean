/-! every act keeps what holds of the room -/
theorem pi_mono {D : pd} {M M' : Nat} (h : pi D M) (hM : M ≤ M') : pi D M' :=
  ⟨h.b0, h.l0, h.st, h.br, h.rt, h.tx, h.bk, h.sw, fun l hl => li_same (h.lot l hl) hM (Nat.le_refl _) (fun _ _ _ z => z) rfl rfl rfl rfl rfl rfl⟩
theorem pi_lots {D D' : pd} {M : Nat} (h : pi D M) (e1 : D'.room = D.room) (e2 : D'.st = D.st) (e3 : D'.br = D.br) (e4 : D'.bkind = D.bkind) (hl : ∀ l, l < D.nl → li D' M l) : pi D' M := by
  have nb : D'.nb = D.nb := by unfold pd.nb; rw [e1]
  have nl : D'.nl = D.nl := by unfold pd.nl; rw [e1]
  exact ⟨by rw [e1, nb]; exact h.b0, by rw [e1, nl]; exact h.l0, by rw [e2]; exact h.st, by rw [e3]; exact h.br, by rw [e3]; exact h.rt, by rw [e1]; exact h.tx, by rw [nb, e4]; exact h.bk, by rw [e2]; exact h.sw, by rw [nl]; exact hl⟩
theorem li_11 {D D' : pd} {M m : Nat} (I : li D M m) (nb : D'.nb = D.nb) (d1 : D'.kind = D.kind) (d2 : D'.res = D.res) (d4 : D'.book = D.book) (d5 : D'.lims = D.lims) (d6 : D'.sels = D.sels) (d3 : ∀ k, k < 11 → D'.facts m k = D.facts m k) (hw : D'.facts m 11 = -1 ∨ ∃ w p q, sp_whole D' w p q ∧ D'.facts m 11 = Int64.ofNat w ∧ (m = w ∨ m = p ∨ m = q)) : li D' M m := by
  have nE : D'.nE m = D.nE m := by unfold pd.nE; rw [d4]
  have nS : D'.nS m = D.nS m := by unfold pd.nS; rw [d6]
  have nL : D'.nL m = D.nL m := by unfold pd.nL; rw [d5]
  refine ⟨by rw [d1]; exact I.kd, by rw [d3 0 (by decide)]; exact I.so, by rw [d2]; exact I.ro, by rw [d3 1 (by decide)]; exact I.co, by rw [d3 2 (by decide)]; exact I.sts, by rw [d1, d3 2 (by decide), d3 3 (by decide)]; exact I.pr, ?_, by rw [d3 8 (by decide)]; exact I.bn, by rw [d3 8 (by decide), d3 7 (by decide)]; exact I.bs, hw, by rw [d4, nE]; exact I.e0, by rw [d3 2 (by decide), nE]; exact I.en, by rw [d4, nE, nb]; exact I.eb, by rw [d5, nL]; exact I.l0, by rw [d5, nL, nb]; exact I.lb, by rw [d5, nL]; exact I.ld, by rw [d5, nL, d3 8 (by decide)]; exact I.lx, by rw [d6, nS]; exact I.s0, by rw [d6, nS, nb]; exact I.sb⟩
  rw [d1, d3 4 (by decide), d3 5 (by decide), d3 6 (by decide), nb]
  exact I.op
theorem pi_newB {D : pd} {M : Nat} {k : Int32} {x : Int64} (h : pi D M) (hk : k = 1 ∨ k = 2 ∨ k = 3 ∨ k = 4) (hn : D.nb < 200) : pi (sp_newB D k x) M := by
  have n1 := nb_newB (D := D) (k := k) (x := x) (by omega)
  refine ⟨⟨?_, by rw [n1]; omega⟩, h.l0, h.st, h.br, h.rt, ?_, ?_, h.sw, ?_⟩
  · rw [n1]
    dsimp only [sp_newB, up1, pd.room, pd.st, pd.br, pd.bal, pd.facts, pd.book, pd.lims, pd.sels, pd.kind, pd.res, pd.bkind, pd.purse]
    rw [if_pos rfl]
  · intro k a b
    dsimp only [sp_newB, up1, pd.room, pd.st, pd.br, pd.bal, pd.facts, pd.book, pd.lims, pd.sels, pd.kind, pd.res, pd.bkind, pd.purse]
    rw [if_neg (by omega)]
    exact h.tx k a b
  · intro b hb
    rw [n1] at hb
    dsimp only [sp_newB, pd.room, pd.st, pd.br, pd.bal, pd.facts, pd.book, pd.lims, pd.sels, pd.kind, pd.res, pd.bkind, pd.purse]
    by_cases c : b = D.nb
    · rw [if_pos c]; exact hk
    · rw [if_neg c]; exact h.bk b (by omega)
  · intro l hl
    exact li_same (h.lot l hl) (Nat.le_refl _) (by omega) (wh_tr (Nat.le_refl _) (fun _ _ => ⟨rfl, rfl, rfl⟩)) rfl rfl rfl rfl rfl rfl
theorem pi_newL {D : pd} {M : Nat} {k : Int32} {x y : Int64} (h : pi D M) (hk : k = 1 ∨ k = 2 ∨ k = 3 ∨ k = 4 ∨ k = 5) (hx : sp_sumOk x) (hy : sp_monOk y) (hn : D.nl < 400) : pi (sp_newL D k x y) M := by
  have n1 := nl_newL (D := D) (k := k) (x := x) (y := y) (by omega)
  refine ⟨h.b0, ⟨?_, by rw [n1]; omega⟩, h.st, h.br, h.rt, ?_, h.bk, h.sw, ?_⟩
  · rw [n1]
    dsimp only [sp_newL, up1, pd.room, pd.st, pd.br, pd.bal, pd.facts, pd.book, pd.lims, pd.sels, pd.kind, pd.res, pd.bkind, pd.purse]
    rw [if_pos rfl]
  · intro k a b
    dsimp only [sp_newL, up1, pd.room, pd.st, pd.br, pd.bal, pd.facts, pd.book, pd.lims, pd.sels, pd.kind, pd.res, pd.bkind, pd.purse]
    rw [if_neg (by omega)]
    exact h.tx k a b
  · intro l hl
    rw [n1] at hl
    by_cases c : l = D.nl
    · subst c
      have q0 : (sp_newL D k x y).facts D.nl = fun q => if q = 0 then x else if q = 11 then -1 else 0 := by
        funext q; dsimp only [sp_newL, pd.room, pd.st, pd.br, pd.bal, pd.facts, pd.book, pd.lims, pd.sels, pd.kind, pd.res, pd.bkind, pd.purse]; rw [if_pos rfl]
      have b0 : (sp_newL D k x y).book D.nl = fun _ => 0 := by funext q; dsimp only [sp_newL, pd.room, pd.st, pd.br, pd.bal, pd.facts, pd.book, pd.lims, pd.sels, pd.kind, pd.res, pd.bkind, pd.purse]; rw [if_pos rfl]
      have l0 : (sp_newL D k x y).lims D.nl = fun _ => 0 := by funext q; dsimp only [sp_newL, pd.room, pd.st, pd.br, pd.bal, pd.facts, pd.book, pd.lims, pd.sels, pd.kind, pd.res, pd.bkind, pd.purse]; rw [if_pos rfl]
      have s0 : (sp_newL D k x y).sels D.nl = fun _ => 0 := by funext q; dsimp only [sp_newL, pd.room, pd.st, pd.br, pd.bal, pd.facts, pd.book, pd.lims, pd.sels, pd.kind, pd.res, pd.bkind, pd.purse]; rw [if_pos rfl]
      have k0 : (sp_newL D k x y).kind D.nl = k := if_pos rfl
      have r0 : (sp_newL D k x y).res D.nl = y := if_pos rfl
      have nE : (sp_newL D k x y).nE D.nl = 0 := by unfold pd.nE; rw [b0]; rfl
      have nL : (sp_newL D k x y).nL D.nl = 0 := by unfold pd.nL; rw [l0]; rfl
      have nS : (sp_newL D k x y).nS D.nl = 0 := by unfold pd.nS; rw [s0]; rfl
      refine ⟨by rw [k0]; exact hk, by rw [q0]; exact hx, by rw [r0]; exact hy, ⟨0, by omega, by rw [q0]; rfl⟩, by rw [q0]; exact Or.inl rfl, fun _ z => absurd (by rw [q0]; rfl) z, fun z => absurd (by rw [q0]; rfl) z, ⟨0, by omega, by rw [q0]; rfl⟩, fun z => absurd (by rw [q0]; rfl) z, by rw [q0]; exact Or.inl rfl, ⟨by rw [nE, b0]; rfl, by omega⟩, fun _ => nE, fun i hi => by omega, ⟨by rw [nL, l0]; rfl, by omega⟩, fun i hi => by omega, fun i j hi => by omega, fun i hi => by omega, ⟨by rw [nS, s0]; rfl, by omega⟩, fun i hi => by omega⟩
    · have o : ∀ m, m < D.nl → (sp_newL D k x y).kind m = D.kind m ∧ (sp_newL D k x y).res m = D.res m ∧ (sp_newL D k x y).facts m = D.facts m ∧ (sp_newL D k x y).book m = D.book m ∧ (sp_newL D k x y).lims m = D.lims m ∧ (sp_newL D k x y).sels m = D.sels m := by
        intro m hm
        have c : ¬ m = D.nl := by omega
        refine ⟨if_neg c, if_neg c, ?_, ?_, ?_, ?_⟩ <;> (funext q; dsimp only [sp_newL, pd.room, pd.st, pd.br, pd.bal, pd.facts, pd.book, pd.lims, pd.sels, pd.kind, pd.res, pd.bkind, pd.purse]; rw [if_neg c])
      obtain ⟨d1, d2, d3, d4, d5, d6⟩ := o l (by omega)
      refine li_same (h.lot l (by omega)) (Nat.le_refl _) (Nat.le_refl _) (wh_tr (by rw [n1]; omega) (fun m hm => ?_)) d1 d2 d3 d4 d5 d6
      rw [(o m hm).2.2.1]
      exact ⟨rfl, rfl, rfl⟩
theorem ofn_i {a b : Nat} (ha : a < 400) (hb : b < 400) (h : Int64.ofNat a = Int64.ofNat b) : a = b := (cl_eq (by omega) (by omega)).mp h
def sp_joinPut (D : pd) (w p q : Nat) : pd := ((((D.putF w 11 (Int64.ofNat w)).putF w 12 (Int64.ofNat p)).putF w 13 (Int64.ofNat q)).putF p 11 (Int64.ofNat w)).putF q 11 (Int64.ofNat w)
theorem pi_join {D : pd} {M w p q : Nat} (h : pi D M) (hw : w < D.nl) (hpp : p < D.nl) (hq : q < D.nl) (wp : w ≠ p) (wq : w ≠ q) (pq : p ≠ q) (fw : D.facts w 11 = -1) (fp : D.facts p 11 = -1) (fq : D.facts q 11 = -1) : pi (sp_joinPut D w p q) M := by
  have h4 := h.l0.2
  have f11 : ∀ m, (sp_joinPut D w p q).facts m 11 = if m = w ∨ m = p ∨ m = q then Int64.ofNat w else D.facts m 11 := by
    intro m
    simp only [sp_joinPut, pd.putF, up2, pd.room, pd.st, pd.br, pd.bal, pd.facts, pd.book, pd.lims, pd.sels, pd.kind, pd.res, pd.bkind, pd.purse]
    by_cases c1 : m = q
    · simp [c1]
    · by_cases c2 : m = p
      · simp [c2]
      · by_cases c3 : m = w
        · simp [c3]
        · simp [c1, c2, c3]
  have f12 : ∀ m, m ≠ w → (sp_joinPut D w p q).facts m 12 = D.facts m 12 ∧ (sp_joinPut D w p q).facts m 13 = D.facts m 13 := by
    intro m hm
    simp [sp_joinPut, pd.putF, up2, hm, pd.room, pd.st, pd.br, pd.bal, pd.facts, pd.book, pd.lims, pd.sels, pd.kind, pd.res, pd.bkind, pd.purse]
  have fw12 : (sp_joinPut D w p q).facts w 12 = Int64.ofNat p ∧ (sp_joinPut D w p q).facts w 13 = Int64.ofNat q := by
    simp [sp_joinPut, pd.putF, up2, pd.room, pd.st, pd.br, pd.bal, pd.facts, pd.book, pd.lims, pd.sels, pd.kind, pd.res, pd.bkind, pd.purse]
  have fl : ∀ m k, k < 11 → (sp_joinPut D w p q).facts m k = D.facts m k := by
    intro m k hk
    dsimp only [sp_joinPut, pd.putF, up2, pd.room, pd.st, pd.br, pd.bal, pd.facts, pd.book, pd.lims, pd.sels, pd.kind, pd.res, pd.bkind, pd.purse]
    rw [if_neg (by omega), if_neg (by omega), if_neg (by omega), if_neg (by omega), if_neg (by omega)]
  have W : sp_whole (sp_joinPut D w p q) w p q := ⟨hw, hpp, hq, wp, wq, pq, by rw [f11, if_pos (Or.inl rfl)], fw12.1, fw12.2, by rw [f11, if_pos (Or.inr (Or.inl rfl))], by rw [f11, if_pos (Or.inr (Or.inr rfl))]⟩
  refine pi_lots h rfl rfl rfl rfl (fun m hm => ?_)
  refine li_11 (h.lot m hm) rfl rfl rfl rfl rfl rfl (fl m) ?_
  rw [f11]
  by_cases c : m = w ∨ m = p ∨ m = q
  · rw [if_pos c]
    exact Or.inr ⟨w, p, q, W, rfl, c⟩
  · rw [if_neg c]
    rcases (h.lot m hm).wh with z | ⟨w', p', q', ⟨z1, z2, z3, z4, z5, z6, z7, z8, z9, z10, z11⟩, z12, z13⟩
    · exact Or.inl z
    · have nx : ∀ u, u < D.nl → D.facts u 11 = Int64.ofNat w' → ¬ (u = w ∨ u = p ∨ u = q) := by
        intro u _ hu k
        rcases k with k | k | k <;> rw [k] at hu
        · rw [fw] at hu; exact ofn_ne (by omega) hu.symm
        · rw [fp] at hu; exact ofn_ne (by omega) hu.symm
        · rw [fq] at hu; exact ofn_ne (by omega) hu.symm
      have n1 := nx w' z1 z7
      have n2 := nx p' z2 z10
      have n3 := nx q' z3 z11
      refine Or.inr ⟨w', p', q', ⟨z1, z2, z3, z4, z5, z6, ?_, ?_, ?_, ?_, ?_⟩, z12, z13⟩
      · rw [f11, if_neg n1]; exact z7
      · rw [(f12 w' (fun k => n1 (Or.inl k))).1]; exact z8
      · rw [(f12 w' (fun k => n1 (Or.inl k))).2]; exact z9
      · rw [f11, if_neg n2]; exact z10
      · rw [f11, if_neg n3]; exact z11
theorem part_eq {D : pd} {M l : Nat} (h : pi D M) (hl : l < D.nl) : (D.facts l 11 = -1 ∧ sp_part D (D.facts l 11).toInt32 = D) ∨ (∃ w p q, sp_whole D w p q ∧ (l = w ∨ l = p ∨ l = q) ∧ D.facts l 11 = Int64.ofNat w ∧ sp_part D (D.facts l 11).toInt32 = ((D.putF w 11 (-1)).putF p 11 (-1)).putF q 11 (-1)) := by
  have h4 := h.l0.2
  rcases (h.lot l hl).wh with z | ⟨w', p', q', W, z12, z13⟩
  · refine Or.inl ⟨z, ?_⟩
    rw [z]
    unfold sp_part
    rw [if_neg]
    unfold sp_noLot
    rw [if_pos (by decide)]
    decide
  · refine Or.inr ⟨w', p', q', W, z13, z12, ?_⟩
    obtain ⟨z1, z2, z3, z4, z5, z6, z7, z8, z9, z10, z11⟩ := W
    rw [z12, cl_32 (by omega)]
    unfold sp_part
    rw [if_pos (noLot_of z1 h4), cz_ix (by omega), z8, z9, cl_32 (by omega), cl_32 (by omega), cz_ix (by omega), cz_ix (by omega)]
theorem pi_part {D : pd} {M l : Nat} (h : pi D M) (hl : l < D.nl) : pi (sp_part D (D.facts l 11).toInt32) M := by
  have h4 := h.l0.2
  rcases part_eq h hl with ⟨_, e⟩ | ⟨w, p, q, ⟨z1, z2, z3, z4, z5, z6, z7, z8, z9, z10, z11⟩, _, _, e⟩
  · rw [e]; exact h
  · rw [e]
    have f11 : ∀ m, (((D.putF w 11 (-1)).putF p 11 (-1)).putF q 11 (-1)).facts m 11 = if m = w ∨ m = p ∨ m = q then -1 else D.facts m 11 := by
      intro m
      simp only [pd.putF, up2, pd.room, pd.st, pd.br, pd.bal, pd.facts, pd.book, pd.lims, pd.sels, pd.kind, pd.res, pd.bkind, pd.purse]
      by_cases c1 : m = q
      · simp [c1]
      · by_cases c2 : m = p
        · simp [c2]
        · by_cases c3 : m = w
          · simp [c3]
          · simp [c1, c2, c3]
    have fl : ∀ m k, k ≠ 11 → (((D.putF w 11 (-1)).putF p 11 (-1)).putF q 11 (-1)).facts m k = D.facts m k := by
      intro m k hk
      dsimp only [pd.putF, up2, pd.room, pd.st, pd.br, pd.bal, pd.facts, pd.book, pd.lims, pd.sels, pd.kind, pd.res, pd.bkind, pd.purse]
      rw [if_neg (by omega), if_neg (by omega), if_neg (by omega)]
    refine pi_lots h rfl rfl rfl rfl (fun m hm => ?_)
    refine li_11 (h.lot m hm) rfl rfl rfl rfl rfl rfl (fun k hk => fl m k (by omega)) ?_
    rw [f11]
    by_cases c : m = w ∨ m = p ∨ m = q
    · rw [if_pos c]; exact Or.inl rfl
    · rw [if_neg c]
      rcases (h.lot m hm).wh with z | ⟨w', p', q', ⟨y1, y2, y3, y4, y5, y6, y7, y8, y9, y10, y11⟩, y12, y13⟩
      · exact Or.inl z
      · have nw : w' ≠ w := by
          intro k
          subst k
          have e1 : p' = p := ofn_i (by omega) (by omega) (by rw [← y8, z8])
          have e2 : q' = q := ofn_i (by omega) (by omega) (by rw [← y9, z9])
          subst e1 e2
          exact c y13
        have nx : ∀ u, u < D.nl → D.facts u 11 = Int64.ofNat w' → ¬ (u = w ∨ u = p ∨ u = q) := by
          intro u _ hu k
          rcases k with k | k | k <;> rw [k] at hu
          · rw [z7] at hu; exact nw (ofn_i (by omega) (by omega) hu.symm)
          · rw [z10] at hu; exact nw (ofn_i (by omega) (by omega) hu.symm)
          · rw [z11] at hu; exact nw (ofn_i (by omega) (by omega) hu.symm)
        refine Or.inr ⟨w', p', q', ⟨y1, y2, y3, y4, y5, y6, ?_, ?_, ?_, ?_, ?_⟩, y12, y13⟩
        · rw [f11, if_neg (nx w' y1 y7)]; exact y7
        · rw [fl _ _ (by decide)]; exact y8
        · rw [fl _ _ (by decide)]; exact y9
        · rw [f11, if_neg (nx p' y2 y10)]; exact y10
        · rw [f11, if_neg (nx q' y3 y11)]; exact y11
theorem pi_ren {D : pd} {M l : Nat} {x : Int64} (h : pi D M) (hl : l < D.nl) (hx : sp_sumOk x) : pi (sp_renew D l x) M := by
  have I := h.lot l hl
  have hE : (sp_renew D l x).book l 0 = 0 := by simp [sp_renew, sp_zero, pd.putF, pd.putE, pd.putL, up2, pd.room, pd.st, pd.br, pd.bal, pd.facts, pd.book, pd.lims, pd.sels, pd.kind, pd.res, pd.bkind, pd.purse]
  have hL : (sp_renew D l x).lims l 0 = 0 := by simp [sp_renew, sp_zero, pd.putF, pd.putE, pd.putL, up2, pd.room, pd.st, pd.br, pd.bal, pd.facts, pd.book, pd.lims, pd.sels, pd.kind, pd.res, pd.bkind, pd.purse]
  have nE : (sp_renew D l x).nE l = 0 := by show cn ((sp_renew D l x).book l 0) = 0; rw [hE]; rfl
  have nL : (sp_renew D l x).nL l = 0 := by show cn ((sp_renew D l x).lims l 0) = 0; rw [hL]; rfl
  have nS : (sp_renew D l x).nS l = D.nS l := by unfold pd.nS; rw [ren_k.2.2]
  have nb : (sp_renew D l x).nb = D.nb := by unfold pd.nb; rw [(ren_do (D := D) (l := l) (x := x)).room]
  have f0 : (sp_renew D l x).facts l 0 = x := by simp [sp_renew, sp_zero, pd.putF, pd.putE, pd.putL, up2, pd.room, pd.st, pd.br, pd.bal, pd.facts, pd.book, pd.lims, pd.sels, pd.kind, pd.res, pd.bkind, pd.purse]
  have f := fun p a b => ren_F (D := D) (l := l) (x := x) (p := p) a b
  have g := fun p a => ren_G (D := D) (l := l) (x := x) (p := p) a
  refine pi_lot h (Nat.le_refl _) ren_do ⟨g 11 (Or.inr (by decide)), g 12 (Or.inr (by decide)), g 13 (Or.inr (by decide))⟩ (fun hw => ?_)
  refine ⟨by rw [ren_k.1]; exact I.kd, by rw [f0]; exact hx, by rw [ren_k.2.1]; exact I.ro, by rw [g 1 (Or.inl rfl)]; exact I.co, Or.inl (f 2 (by decide) (by decide)), fun _ z => absurd (f 2 (by decide) (by decide)) z, fun z => absurd (f 4 (by decide) (by decide)) z, ⟨0, by omega, f 8 (by decide) (by decide)⟩, fun z => absurd (f 8 (by decide) (by decide)) z, wh_f (g 11 (Or.inr (by decide))) hw I.wh, ⟨by rw [hE, nE]; rfl, by omega⟩, fun _ => nE, fun i hi => by omega, ⟨by rw [hL, nL]; rfl, by omega⟩, fun i hi => by omega, fun i j hi => by omega, fun i hi => by omega, by rw [nS, ren_k.2.2]; exact I.s0, by rw [nS, ren_k.2.2, nb]; exact I.sb⟩
theorem win_ok {D : pd} {M l : Nat} (h : pi D M) (hl : l < D.nl) (hk : D.kind l = 4) (hn : D.nE l ≠ 0) : pi (sp_win D l) M := by
  have I := h.lot l hl
  unfold sp_win
  dsimp only
  obtain ⟨b1, b2, b3, b4, b5, b6⟩ := best_p (g := fun k => D.book l (2 + 2 * k)) (D.nE l - 1)
  split
  · exact pi_win h hl hk (Or.inl ⟨rfl, rfl⟩)
  · refine pi_win h hl hk (Or.inr ⟨(I.eb _ (by omega)).1, ?_⟩)
    have so := sum_i.mp I.so
    have ro := mon_i.mp I.ro
    have key : ∀ a b : Int64, (0 ≤ a.toInt ∧ a.toInt ≤ 1000000000000) → (0 ≤ b.toInt ∧ b.toInt ≤ 1000000000000) → (a.toInt ≤ (mx a b).toInt ∧ (mx a b).toInt ≤ 1000000000000) := by
      intro a b ha hb
      unfold mx
      split
      · rename_i z; rw [lt_i] at z; omega
      · omega
    have sec : 0 ≤ (sp_best (fun k => D.book l (2 + 2 * k)) (D.nE l - 1)).2.toInt ∧ (sp_best (fun k => D.book l (2 + 2 * k)) (D.nE l - 1)).2.toInt ≤ 1000000000000 := by
      rcases b6 with z | ⟨i, i1, i2, i3⟩
      · rw [z]; decide
      · rw [i3]
        have := sum_i.mp (I.eb i (by omega)).2
        omega
    have k1 := key _ _ ⟨by omega, so.2⟩ ro
    have k2 := key (mx (D.facts l 0) (D.res l)) _ ⟨by omega, k1.2⟩ sec
    rw [sum_i]
    omega
theorem tick_ok {D : pd} {M l : Nat} {x : Int64} (h : pi D M) (hl : l < D.nl) (hx : sp_sumOk x) (hp : sp_sumOk (D.facts l 3)) : sp_sumOk (sp_tickV D l x) := by
  have ro := mon_i.mp (h.lot l hl).ro
  have h1 := sum_i.mp hx
  have h2 := sum_i.mp hp
  have m : 1 ≤ (mx 1 (D.res l)).toInt ∧ (mx 1 (D.res l)).toInt ≤ 1000000000000 := by
    unfold mx
    have : (1 : Int64).toInt = 1 := rfl
    split
    · rename_i z; rw [lt_i] at z; omega
    · omega
  unfold sp_tickV
  rw [sum_i]
  split
  · exact m
  · rename_i z
    have e := sub_i (x := D.facts l 3) (y := x) (by omega)
    rw [lt_i] at z
    omega
