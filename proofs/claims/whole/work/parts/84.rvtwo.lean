/-! more writes of the reference -/
theorem so_11 {l j : Nat} {s s' : mt_S} {v : Int32} (h : so l s s') (h1 : 4 * l ≤ j) (h2 : j < 4 * l + 4) : so l s (gm_setI s' 11 j v) := by
  refine ⟨h.len, ?_, ?_, ?_, ?_⟩
  · intro k' j' a b c d f g
    dsimp only [gm_setI]
    rw [if_neg (fun z => c z.1)]
    exact h.a k' j' a b c d f g
  · intro j' hj
    dsimp only [gm_setI]
    rw [if_neg (fun z => by omega)]
    exact h.b j' hj
  · intro j' hj
    dsimp only [gm_setI]
    rw [if_neg (fun z => by omega), if_neg (fun z => by omega)]
    exact h.c j' hj
  · intro k' j' hj
    dsimp only [gm_setI]
    rw [if_neg (fun z => by omega)]
    exact h.d k' j' hj
theorem so_20 {l j k : Nat} {s s' : mt_S} {v : Int32} (h : so l s s') (hk : k = 20 ∨ k = 22) (h1 : 40 * l ≤ j) (h2 : j < 40 * l + 40) : so l s (gm_setI s' k j v) := by
  refine ⟨h.len, ?_, ?_, ?_, ?_⟩
  · intro k' j' a b c d f g
    dsimp only [gm_setI]
    rw [if_neg (fun z => by omega)]
    exact h.a k' j' a b c d f g
  · intro j' hj
    dsimp only [gm_setI]
    rw [if_neg (fun z => by omega)]
    exact h.b j' hj
  · intro j' hj
    dsimp only [gm_setI]
    rw [if_neg (fun z => by omega), if_neg (fun z => by omega)]
    exact h.c j' hj
  · intro k' j' hj
    dsimp only [gm_setI]
    rw [if_neg (fun z => by omega)]
    exact h.d k' j' hj
theorem so_21 {l j : Nat} {s s' : mt_S} {v : Int64} (h : so l s s') (h1 : 40 * l ≤ j) (h2 : j < 40 * l + 40) : so l s (gm_setL s' 21 j v) := by
  refine ⟨h.len, ?_, ?_, ?_, ?_⟩
  · intro k' j' a b c d f g
    dsimp only [gm_setL]
    rw [if_neg (fun z => by omega)]
    exact h.a k' j' a b c d f g
  · intro j' hj
    exact h.b j' hj
  · intro j' hj
    dsimp only [gm_setL]
    rw [if_neg (fun z => by omega)]
    exact h.c j' hj
  · intro k' j' hj
    dsimp only [gm_setL]
    rw [if_neg (fun z => by omega)]
    exact h.d k' j' hj
theorem rv_seller {s : mt_S} {D : pd} {e l : Nat} {b : Int32} (h : rv s D e) (hl : l < D.nl) (hn : D.nS l < 4) : rv (gm_setI (gm_setI s 11 (4 * l + D.nS l) b) 12 l (nI (D.nS l + 1))) ((D.putQ l 0 (Int64.ofNat (D.nS l + 1))).putQ l (1 + D.nS l) b.toInt64) e := by
  have L := h.lot l hl
  have n1 : ((D.putQ l 0 (Int64.ofNat (D.nS l + 1))).putQ l (1 + D.nS l) b.toInt64).nS l = D.nS l + 1 := by
    have : ((D.putQ l 0 (Int64.ofNat (D.nS l + 1))).putQ l (1 + D.nS l) b.toInt64).sels l 0 = Int64.ofNat (D.nS l + 1) := by
      dsimp only [pd.putQ, up2, pd.room, pd.st, pd.br, pd.bal, pd.facts, pd.book, pd.lims, pd.sels, pd.kind, pd.res, pd.bkind, pd.purse, pd.room, pd.st, pd.br, pd.bal, pd.facts, pd.book, pd.lims, pd.sels, pd.kind, pd.res, pd.bkind, pd.purse]
      rw [if_neg (by omega), if_pos ⟨rfl, rfl⟩]
    unfold pd.nS at this ⊢
    rw [this, cl_cn (by have := hn; unfold pd.nS at this; omega)]
  refine rv_so h (so_I (so_11 so_refl (by omega) (by omega)) (by decide : lsc 12)) (do_Q (do_Q do_refl)) ⟨⟨by rw [n1]; omega, L.bd.2⟩, L.k5, L.k6, L.k7, L.k8, L.k9, L.k10, ?_, ?_, L.k13, L.ch, L.k19, L.lim, L.k23, L.k24, L.k25, L.k26, L.k28, L.k29, L.k30, L.k31⟩
  · rw [n1]; simp [gm_setI]
  · intro k hk
    rw [n1] at hk
    dsimp only [gm_setI, pd.putQ, up2, pd.room, pd.st, pd.br, pd.bal, pd.facts, pd.book, pd.lims, pd.sels, pd.kind, pd.res, pd.bkind, pd.purse, pd.room, pd.st, pd.br, pd.bal, pd.facts, pd.book, pd.lims, pd.sels, pd.kind, pd.res, pd.bkind, pd.purse]
    rw [if_neg (by omega)]
    by_cases e1 : k = D.nS l
    · rw [e1, if_pos ⟨rfl, rfl⟩, if_pos ⟨rfl, rfl⟩]
    · rw [if_neg (by omega), if_neg (by omega), if_neg (by omega)]
      exact L.k11 k (by omega)
theorem rv_limit {s : mt_S} {D : pd} {e l : Nat} {b n : Int32} {x : Int64} (h : rv s D e) (hl : l < D.nl) (hn : D.nL l < 40) : rv (gm_setI (gm_setI (gm_setL (gm_setI s 20 (40 * l + D.nL l) b) 21 (40 * l + D.nL l) x) 22 (40 * l + D.nL l) n) 19 l (nI (D.nL l + 1))) ((((D.putL l 0 (Int64.ofNat (D.nL l + 1))).putL l (1 + 3 * D.nL l) b.toInt64).putL l (2 + 3 * D.nL l) x).putL l (3 + 3 * D.nL l) n.toInt64) e := by
  have L := h.lot l hl
  generalize hD : ((((D.putL l 0 (Int64.ofNat (D.nL l + 1))).putL l (1 + 3 * D.nL l) b.toInt64).putL l (2 + 3 * D.nL l) x).putL l (3 + 3 * D.nL l) n.toInt64) = D'
  have n1 : D'.nL l = D.nL l + 1 := by
    have : D'.lims l 0 = Int64.ofNat (D.nL l + 1) := by
      rw [← hD]
      dsimp only [pd.putL, up2, pd.room, pd.st, pd.br, pd.bal, pd.facts, pd.book, pd.lims, pd.sels, pd.kind, pd.res, pd.bkind, pd.purse, pd.room, pd.st, pd.br, pd.bal, pd.facts, pd.book, pd.lims, pd.sels, pd.kind, pd.res, pd.bkind, pd.purse]
      rw [if_neg (by omega), if_neg (by omega), if_neg (by omega), if_pos ⟨rfl, rfl⟩]
    have h2 : D'.nL l = cn (D'.lims l 0) := rfl
    rw [h2, this, cl_cn (by omega)]
  have d1 : dou l D D' := by rw [← hD]; exact do_L (do_L (do_L (do_L do_refl)))
  refine rv_so h (so_I (so_20 (so_21 (so_20 so_refl (Or.inl rfl) (by omega) (by omega)) (by omega) (by omega)) (Or.inr rfl) (by omega) (by omega)) (by decide : lsc 19)) d1 ?_
  subst hD
  refine ⟨⟨L.bd.1, by rw [n1]; omega, L.bd.2.2⟩, L.k5, L.k6, L.k7, L.k8, L.k9, L.k10, L.k12, L.k11, L.k13, L.ch, ?_, ?_, L.k23, L.k24, L.k25, L.k26, L.k28, L.k29, L.k30, L.k31⟩
  · rw [n1]; simp [gm_setI]
  · intro k hk
    rw [n1] at hk
    dsimp only [gm_setI, gm_setL, pd.putL, up2, pd.room, pd.st, pd.br, pd.bal, pd.facts, pd.book, pd.lims, pd.sels, pd.kind, pd.res, pd.bkind, pd.purse, pd.room, pd.st, pd.br, pd.bal, pd.facts, pd.book, pd.lims, pd.sels, pd.kind, pd.res, pd.bkind, pd.purse]
    by_cases e1 : k = D.nL l
    · subst e1
      refine ⟨?_, ?_, ?_⟩
      · rw [if_neg (by omega), if_neg (by omega), if_pos ⟨rfl, rfl⟩, if_neg (by omega), if_neg (by omega), if_pos ⟨rfl, rfl⟩]
      · rw [if_pos ⟨rfl, rfl⟩, if_neg (by omega), if_pos ⟨rfl, rfl⟩]
      · rw [if_neg (by omega), if_pos ⟨rfl, rfl⟩, if_pos ⟨rfl, rfl⟩]
    · have z := L.lim k (by omega)
      refine ⟨?_, ?_, ?_⟩
      · rw [if_neg (by omega), if_neg (by omega), if_neg (by omega), if_neg (by omega), if_neg (by omega), if_neg (by omega), if_neg (by omega)]; exact z.1
      · rw [if_neg (by omega), if_neg (by omega), if_neg (by omega), if_neg (by omega), if_neg (by omega)]; exact z.2.1
      · rw [if_neg (by omega), if_neg (by omega), if_neg (by omega), if_neg (by omega), if_neg (by omega), if_neg (by omega), if_neg (by omega)]; exact z.2.2
/-! the room's other rows -/
theorem rv_lots {s s' : mt_S} {D D' : pd} {e : Nat} (h : rv s D e) (hs : ∀ k, k ≤ 40 → k ≠ 1 → k ≠ 2 → k ≠ 3 → k ≠ 33 → k ≠ 34 → k ≠ 35 → k ≠ 36 → k ≠ 37 → k ≠ 38 → k ≠ 39 → k ≠ 40 → k ≠ 0 → s'.1 k = s.1 k ∧ s'.2.1 k = s.2.1 k) (hn : D'.nl = D.nl)
    (hd : D'.kind = D.kind ∧ D'.res = D.res ∧ D'.facts = D.facts ∧ D'.book = D.book ∧ D'.lims = D.lims ∧ D'.sels = D.sels) : ∀ l, l < D'.nl → rl s' D' e l := by
  intro l hl
  obtain ⟨d1, d2, d3, d4, d5, d6⟩ := hd
  have q : ∀ k, k ≤ 40 → 4 < k → k < 33 → s'.1 k = s.1 k ∧ s'.2.1 k = s.2.1 k := fun k a b c => hs k a (by omega) (by omega) (by omega) (by omega) (by omega) (by omega) (by omega) (by omega) (by omega) (by omega) (by omega) (by omega)
  have L := h.lot l (by rw [← hn]; exact hl)
  have L' : rl s' D e l := by
    refine ⟨L.bd, ?_, ?_, ?_, ?_, ?_, ?_, ?_, ?_, ?_, ?_, ?_, ?_, ?_, ?_, ?_, ?_, ?_, ?_, ?_, ?_⟩
    · rw [(q 5 (by decide) (by decide) (by decide)).1]; exact L.k5
    · rw [(q 6 (by decide) (by decide) (by decide)).2]; exact L.k6
    · rw [(q 7 (by decide) (by decide) (by decide)).2]; exact L.k7
    · rw [(q 8 (by decide) (by decide) (by decide)).1]; exact L.k8
    · rw [(q 9 (by decide) (by decide) (by decide)).1]; exact L.k9
    · rw [(q 10 (by decide) (by decide) (by decide)).2]; exact L.k10
    · rw [(q 12 (by decide) (by decide) (by decide)).1]; exact L.k12
    · rw [(q 11 (by decide) (by decide) (by decide)).1]; exact L.k11
    · rw [(q 13 (by decide) (by decide) (by decide)).1]; exact L.k13
    · rw [(q 14 (by decide) (by decide) (by decide)).1, (q 16 (by decide) (by decide) (by decide)).1, (q 17 (by decide) (by decide) (by decide)).2, (q 18 (by decide) (by decide) (by decide)).1]; exact L.ch
    · rw [(q 19 (by decide) (by decide) (by decide)).1]; exact L.k19
    · rw [(q 20 (by decide) (by decide) (by decide)).1, (q 21 (by decide) (by decide) (by decide)).2, (q 22 (by decide) (by decide) (by decide)).1]; exact L.lim
    · rw [(q 23 (by decide) (by decide) (by decide)).1]; exact L.k23
    · rw [(q 24 (by decide) (by decide) (by decide)).2]; exact L.k24
    · rw [(q 25 (by decide) (by decide) (by decide)).1]; exact L.k25
    · rw [(q 26 (by decide) (by decide) (by decide)).1, (q 27 (by decide) (by decide) (by decide)).2]; exact L.k26
    · rw [(q 28 (by decide) (by decide) (by decide)).1]; exact L.k28
    · rw [(q 29 (by decide) (by decide) (by decide)).1]; exact L.k29
    · rw [(q 30 (by decide) (by decide) (by decide)).1]; exact L.k30
    · rw [(q 31 (by decide) (by decide) (by decide)).1, (q 32 (by decide) (by decide) (by decide)).1]; exact L.k31
  exact rl_congr L' (Nat.le_refl _) (fun _ _ _ _ _ _ _ _ _ _ _ => ⟨rfl, rfl⟩) (fun _ _ => rfl) (fun _ _ => ⟨rfl, rfl, rfl⟩) (fun _ _ => ⟨rfl, rfl, rfl⟩) (congrFun d1 l) (congrFun d2 l) (congrFun d3 l) (congrFun d4 l) (congrFun d5 l) (congrFun d6 l)
theorem fne_I {s : mt_S} {k k' j : Nat} {v : Int32} (h : k' ≠ k) : (gm_setI s k j v).1 k' = s.1 k' := by
  funext q
  dsimp only [gm_setI]
  rw [if_neg (fun z => h z.1)]
theorem fne_L {s : mt_S} {k k' j : Nat} {v : Int64} (h : k' ≠ k) : (gm_setL s k j v).2.1 k' = s.2.1 k' := by
  funext q
  dsimp only [gm_setL]
  rw [if_neg (fun z => h z.1)]
theorem rv_bal {s : mt_S} {D : pd} {e b : Nat} {v : Int64} (h : rv s D e) (hb : b < D.nb) : rv (gm_setL s 3 b v) (D.putB b 0 v) e := by
  refine ⟨h.len, h.pl, h.en, h.nb, ?_, h.nl, h.st, h.br, h.tx, h.ac, rv_lots h (fun k _ _ _ a _ _ _ _ _ _ _ _ _ => ⟨rfl, fne_L a⟩) rfl ⟨rfl, rfl, rfl, rfl, rfl, rfl⟩⟩
  intro c hc
  have z := h.bid c hc
  refine ⟨z.1, z.2.1, ?_⟩
  dsimp only [gm_setL, pd.putB, up2, pd.room, pd.st, pd.br, pd.bal, pd.facts, pd.book, pd.lims, pd.sels, pd.kind, pd.res, pd.bkind, pd.purse, pd.room, pd.st, pd.br, pd.bal, pd.facts, pd.book, pd.lims, pd.sels, pd.kind, pd.res, pd.bkind, pd.purse]
  by_cases e1 : c = b
  · rw [if_pos ⟨rfl, e1⟩, if_pos ⟨rfl, e1⟩]
  · rw [if_neg (fun z => e1 z.2), if_neg (fun z => e1 z.2)]; exact z.2.2
theorem rv_acc {s : mt_S} {D : pd} {e k : Nat} {v : Int64} (h : rv s D e) (hk : k < 3) : rv (gm_setL s 40 k v) (D.putR (2 + k) v) e := by
  have nb : (D.putR (2 + k) v).nb = D.nb := by
    dsimp only [pd.nb, pd.putR, up1, pd.room, pd.st, pd.br, pd.bal, pd.facts, pd.book, pd.lims, pd.sels, pd.kind, pd.res, pd.bkind, pd.purse, pd.room, pd.st, pd.br, pd.bal, pd.facts, pd.book, pd.lims, pd.sels, pd.kind, pd.res, pd.bkind, pd.purse]
    rw [if_neg (by omega)]
  have nl : (D.putR (2 + k) v).nl = D.nl := by
    dsimp only [pd.nl, pd.putR, up1, pd.room, pd.st, pd.br, pd.bal, pd.facts, pd.book, pd.lims, pd.sels, pd.kind, pd.res, pd.bkind, pd.purse, pd.room, pd.st, pd.br, pd.bal, pd.facts, pd.book, pd.lims, pd.sels, pd.kind, pd.res, pd.bkind, pd.purse]
    rw [if_neg (by omega)]
  refine ⟨h.len, h.pl, h.en, by rw [nb]; exact h.nb, by rw [nb]; exact h.bid, by rw [nl]; exact h.nl, h.st, h.br, ?_, ?_, rv_lots h (fun k _ _ _ _ _ _ _ _ _ _ _ a _ => ⟨rfl, fne_L a⟩) nl ⟨rfl, rfl, rfl, rfl, rfl, rfl⟩⟩
  · intro j a b
    dsimp only [pd.putR, up1, pd.room, pd.st, pd.br, pd.bal, pd.facts, pd.book, pd.lims, pd.sels, pd.kind, pd.res, pd.bkind, pd.purse, pd.room, pd.st, pd.br, pd.bal, pd.facts, pd.book, pd.lims, pd.sels, pd.kind, pd.res, pd.bkind, pd.purse]
    rw [if_neg (by omega)]
    exact h.tx j a b
  · intro j a
    dsimp only [gm_setL, pd.putR, up1, pd.room, pd.st, pd.br, pd.bal, pd.facts, pd.book, pd.lims, pd.sels, pd.kind, pd.res, pd.bkind, pd.purse, pd.room, pd.st, pd.br, pd.bal, pd.facts, pd.book, pd.lims, pd.sels, pd.kind, pd.res, pd.bkind, pd.purse]
    by_cases e1 : j = k
    · rw [if_pos ⟨rfl, e1⟩, if_pos (by omega)]
    · rw [if_neg (by omega), if_neg (by omega)]; exact h.ac j a
theorem rv_tax {s : mt_S} {D : pd} {e k : Nat} {v : Int32} (h : rv s D e) (hk : 1 ≤ k) (hk2 : k ≤ 5) : rv (gm_setI s 39 k v) (D.putR (5 + k) v.toInt64) e := by
  have nb : (D.putR (5 + k) v.toInt64).nb = D.nb := by
    dsimp only [pd.nb, pd.putR, up1, pd.room, pd.st, pd.br, pd.bal, pd.facts, pd.book, pd.lims, pd.sels, pd.kind, pd.res, pd.bkind, pd.purse, pd.room, pd.st, pd.br, pd.bal, pd.facts, pd.book, pd.lims, pd.sels, pd.kind, pd.res, pd.bkind, pd.purse]
    rw [if_neg (by omega)]
  have nl : (D.putR (5 + k) v.toInt64).nl = D.nl := by
    dsimp only [pd.nl, pd.putR, up1, pd.room, pd.st, pd.br, pd.bal, pd.facts, pd.book, pd.lims, pd.sels, pd.kind, pd.res, pd.bkind, pd.purse, pd.room, pd.st, pd.br, pd.bal, pd.facts, pd.book, pd.lims, pd.sels, pd.kind, pd.res, pd.bkind, pd.purse]
    rw [if_neg (by omega)]
  refine ⟨h.len, h.pl, h.en, by rw [nb]; exact h.nb, by rw [nb]; exact h.bid, by rw [nl]; exact h.nl, h.st, h.br, ?_, ?_, rv_lots h (fun k _ _ _ _ _ _ _ _ _ _ a _ _ => ⟨fne_I a, rfl⟩) nl ⟨rfl, rfl, rfl, rfl, rfl, rfl⟩⟩
  · intro j a b
    dsimp only [gm_setI, pd.putR, up1, pd.room, pd.st, pd.br, pd.bal, pd.facts, pd.book, pd.lims, pd.sels, pd.kind, pd.res, pd.bkind, pd.purse, pd.room, pd.st, pd.br, pd.bal, pd.facts, pd.book, pd.lims, pd.sels, pd.kind, pd.res, pd.bkind, pd.purse]
    by_cases e1 : j = k
    · rw [if_pos ⟨rfl, e1⟩, if_pos (by omega)]
    · rw [if_neg (by omega), if_neg (by omega)]; exact h.tx j a b
  · intro j a
    dsimp only [pd.putR, up1, pd.room, pd.st, pd.br, pd.bal, pd.facts, pd.book, pd.lims, pd.sels, pd.kind, pd.res, pd.bkind, pd.purse, pd.room, pd.st, pd.br, pd.bal, pd.facts, pd.book, pd.lims, pd.sels, pd.kind, pd.res, pd.bkind, pd.purse]
    rw [if_neg (by omega)]
    exact h.ac j a
theorem rv_step {s : mt_S} {D : pd} {e : Nat} {x y : Int64} (h : rv s D e) (hn : cn (D.st 0) < 20) : rv (gm_setI (gm_setL (gm_setL s 34 (cn (D.st 0)) x) 35 (cn (D.st 0)) y) 33 0 (nI (cn (D.st 0) + 1))) (((D.putS 0 (Int64.ofNat (cn (D.st 0) + 1))).putS (1 + 2 * cn (D.st 0)) x).putS (2 + 2 * cn (D.st 0)) y) e := by
  generalize hm : cn (D.st 0) = m at hn ⊢
  refine ⟨h.len, h.pl, h.en, h.nb, h.bid, h.nl, ?_, h.br, h.tx, h.ac, rv_lots h (fun k _ _ _ _ a b c _ _ _ _ _ _ => ⟨fne_I a, (fne_L c).trans (fne_L b)⟩) rfl ⟨rfl, rfl, rfl, rfl, rfl, rfl⟩⟩
  have c0 : cn ((((D.putS 0 (Int64.ofNat (m + 1))).putS (1 + 2 * m) x).putS (2 + 2 * m) y).st 0) = m + 1 := by
    dsimp only [pd.putS, up1, pd.room, pd.st, pd.br, pd.bal, pd.facts, pd.book, pd.lims, pd.sels, pd.kind, pd.res, pd.bkind, pd.purse, pd.room, pd.st, pd.br, pd.bal, pd.facts, pd.book, pd.lims, pd.sels, pd.kind, pd.res, pd.bkind, pd.purse]
    rw [if_neg (by omega), if_neg (by omega), if_pos rfl, cl_cn (by omega)]
  rw [c0]
  refine ⟨by simp [gm_setI], fun k hk => ?_⟩
  dsimp only [gm_setI, gm_setL, pd.putS, up1, pd.room, pd.st, pd.br, pd.bal, pd.facts, pd.book, pd.lims, pd.sels, pd.kind, pd.res, pd.bkind, pd.purse, pd.room, pd.st, pd.br, pd.bal, pd.facts, pd.book, pd.lims, pd.sels, pd.kind, pd.res, pd.bkind, pd.purse]
  by_cases e1 : k = m
  · subst e1
    refine ⟨?_, ?_⟩
    · rw [if_neg (by omega), if_pos ⟨rfl, rfl⟩, if_neg (by omega), if_pos rfl]
    · rw [if_pos ⟨rfl, rfl⟩, if_pos rfl]
  · have z := h.st.2 k (by omega)
    refine ⟨?_, ?_⟩
    · rw [if_neg (by omega), if_neg (by omega), if_neg (by omega), if_neg (by omega), if_neg (by omega)]; exact z.1
    · rw [if_neg (by omega), if_neg (by omega), if_neg (by omega), if_neg (by omega), if_neg (by omega)]; exact z.2
theorem rv_brk {s : mt_S} {D : pd} {e : Nat} {x : Int64} {y : Int32} (h : rv s D e) (hn : cn (D.br 0) < 20) : rv (gm_setI (gm_setI (gm_setL s 37 (cn (D.br 0)) x) 38 (cn (D.br 0)) y) 36 0 (nI (cn (D.br 0) + 1))) (((D.putT 0 (Int64.ofNat (cn (D.br 0) + 1))).putT (1 + 2 * cn (D.br 0)) x).putT (2 + 2 * cn (D.br 0)) y.toInt64) e := by
  generalize hm : cn (D.br 0) = m at hn ⊢
  refine ⟨h.len, h.pl, h.en, h.nb, h.bid, h.nl, h.st, ?_, h.tx, h.ac, rv_lots h (fun k _ _ _ _ _ _ _ a b c _ _ _ => ⟨(fne_I a).trans (fne_I c), fne_L b⟩) rfl ⟨rfl, rfl, rfl, rfl, rfl, rfl⟩⟩
  have c0 : cn ((((D.putT 0 (Int64.ofNat (m + 1))).putT (1 + 2 * m) x).putT (2 + 2 * m) y.toInt64).br 0) = m + 1 := by
    dsimp only [pd.putT, up1, pd.room, pd.st, pd.br, pd.bal, pd.facts, pd.book, pd.lims, pd.sels, pd.kind, pd.res, pd.bkind, pd.purse, pd.room, pd.st, pd.br, pd.bal, pd.facts, pd.book, pd.lims, pd.sels, pd.kind, pd.res, pd.bkind, pd.purse]
    rw [if_neg (by omega), if_neg (by omega), if_pos rfl, cl_cn (by omega)]
  rw [c0]
  refine ⟨by simp [gm_setI], fun k hk => ?_⟩
  dsimp only [gm_setI, gm_setL, pd.putT, up1, pd.room, pd.st, pd.br, pd.bal, pd.facts, pd.book, pd.lims, pd.sels, pd.kind, pd.res, pd.bkind, pd.purse, pd.room, pd.st, pd.br, pd.bal, pd.facts, pd.book, pd.lims, pd.sels, pd.kind, pd.res, pd.bkind, pd.purse]
  by_cases e1 : k = m
  · subst e1
    refine ⟨?_, ?_⟩
    · rw [if_pos ⟨rfl, rfl⟩, if_neg (by omega), if_pos rfl]
    · rw [if_neg (by omega), if_pos ⟨rfl, rfl⟩, if_pos rfl]
  · have z := h.br.2 k (by omega)
    refine ⟨?_, ?_⟩
    · rw [if_neg (by omega), if_neg (by omega), if_neg (by omega), if_neg (by omega)]; exact z.1
    · rw [if_neg (by omega), if_neg (by omega), if_neg (by omega), if_neg (by omega), if_neg (by omega)]; exact z.2
