/-! a bid enters a book -/
def hi40 (s s' : mt_S) : Prop := (∀ k, 40 < k → s'.1 k = s.1 k ∧ s'.2.1 k = s.2.1 k ∧ s'.2.2 k = s.2.2 k)
theorem hi40.a {s s' : mt_S} (z : hi40 s s') : ∀ k, 40 < k → s'.1 k = s.1 k ∧ s'.2.1 k = s.2.1 k ∧ s'.2.2 k = s.2.2 k := z
theorem hi_refl {s : mt_S} : hi40 s s := fun _ _ => ⟨rfl, rfl, rfl⟩
theorem hi_I {s s' : mt_S} {k j : Nat} {v : Int32} (h : hi40 s s') (hk : k ≤ 40) : hi40 s (gm_setI s' k j v) := fun k' hk' => ⟨(fne_I (by omega)).trans (h.a k' hk').1, (h.a k' hk').2.1, (h.a k' hk').2.2⟩
theorem hi_L {s s' : mt_S} {k j : Nat} {v : Int64} (h : hi40 s s') (hk : k ≤ 40) : hi40 s (gm_setL s' k j v) := fun k' hk' => ⟨(h.a k' hk').1, (fne_L (by omega)).trans (h.a k' hk').2.1, (h.a k' hk').2.2⟩
theorem hi_G {s s' : mt_S} {k : Nat} (h : hi40 s s') (hk : k ≤ 40) : hi40 s (gm_grow s' k) := fun k' hk' => by
  obtain ⟨a, b, c⟩ := h.a k' hk'
  refine ⟨?_, ?_, ?_⟩
  · rw [← a]; funext q; dsimp only [gm_grow]; rw [if_neg (by omega)]
  · rw [← b]; funext q; dsimp only [gm_grow]; rw [if_neg (by omega)]
  · rw [← c]; dsimp only [gm_grow]; rw [if_neg (by omega)]
theorem rs_of {s0 s s' : mt_S} {D D' : pd} {e e' : Nat} {ag : Bool} {cs : List Int32} (h : rs s0 s D e ag cs) (hk : hi40 s s') (hv : rv s' D' e') : rs s0 s' D' e' ag cs := by
  refine ⟨hv, ?_, ?_, ?_⟩
  · obtain ⟨a, b, c, d⟩ := h.c
    obtain ⟨x1, x2, x3⟩ := hk.a 54 (by decide)
    obtain ⟨y1, y2, y3⟩ := hk.a 55 (by decide)
    refine ⟨x3.trans a, by rw [y1]; exact b, c, fun i hi => by rw [x1]; exact d i hi⟩
  · rw [(hk.a 56 (by decide)).1]; exact h.ag
  · intro k hr
    obtain ⟨x1, x2, x3⟩ := hk.a k (by have := hr.1; omega)
    obtain ⟨y1, y2, y3⟩ := h.fr k hr
    exact ⟨x1.trans y1, x2.trans y2, x3.trans y3⟩
def entS (s : mt_S) (e l n : Nat) (b : Int32) (v : Int64) : mt_S := gm_setI (gm_setI (gm_setI (gm_setI (gm_setL (gm_setI s 16 e b) 17 e v) 18 e (s.1 14 l)) 14 l (nI e)) 15 0 (nI (e + 1))) 13 l (nI (n + 1))
theorem sp_enter_nE {D : pd} {l : Nat} {b : Int32} {v : Int64} (h : D.nE l ≤ 300) : (sp_enter D l b v).nE l = D.nE l + 1 := by
  have : (sp_enter D l b v).book l 0 = Int64.ofNat (D.nE l + 1) := by
    dsimp only [sp_enter, pd.putE, up2, pd.room, pd.st, pd.br, pd.bal, pd.facts, pd.book, pd.lims, pd.sels, pd.kind, pd.res, pd.bkind, pd.purse, pd.room, pd.st, pd.br, pd.bal, pd.facts, pd.book, pd.lims, pd.sels, pd.kind, pd.res, pd.bkind, pd.purse]
    rw [if_neg (by omega), if_neg (by omega), if_pos ⟨rfl, rfl⟩]
  have h2 : (sp_enter D l b v).nE l = cn ((sp_enter D l b v).book l 0) := rfl
  rw [h2, this, cl_cn (by omega)]
theorem rv_ent {s : mt_S} {D : pd} {e l : Nat} {b : Int32} {v : Int64} (h : rv s D e) (hl : l < D.nl) (he : e < s.2.2 16) (hn : D.nE l < 300) (hs : D.facts l 2 ≠ 0) : rv (entS s e l (D.nE l) b v) (sp_enter D l b v) (e + 1) := by
  have L := h.lot l hl
  have n1 := sp_enter_nE (D := D) (l := l) (b := b) (v := v) (by omega)
  have q : ∀ k j, k ≠ 13 → k ≠ 14 → k ≠ 15 → k ≠ 16 → k ≠ 17 → k ≠ 18 → (entS s e l (D.nE l) b v).1 k j = s.1 k j ∧ (entS s e l (D.nE l) b v).2.1 k j = s.2.1 k j := by
    intro k j a1 a2 a3 a4 a5 a6
    dsimp only [entS, gm_setI, gm_setL]
    rw [if_neg (by omega), if_neg (by omega), if_neg (by omega), if_neg (by omega), if_neg (by omega), if_neg (by omega)]
    exact ⟨rfl, rfl⟩
  refine ⟨h.len, ⟨h.pl.1, h.pl.2.1, he, h.pl.2.2.2.1, h.pl.2.2.2.2⟩, ?_, h.nb, h.bid, h.nl, h.st, h.br, h.tx, h.ac, ?_⟩
  · dsimp only [entS, gm_setI, gm_setL]
    rw [if_neg (by omega), if_pos ⟨rfl, rfl⟩]
  · intro m hm
    by_cases e1 : m = l
    · rw [e1]
      refine ⟨⟨L.bd.1, L.bd.2.1, by rw [n1]; omega⟩, L.k5, L.k6, L.k7, L.k8, L.k9, L.k10, L.k12, L.k11, ?_, ?_, L.k19, L.lim, L.k23, L.k24, L.k25, L.k26, L.k28, L.k29, L.k30, L.k31⟩
      · have t : (entS s e l (D.nE l) b v).1 13 l = nI (D.nE l + 1) := by
          dsimp only [entS, gm_setI]
          rw [if_pos ⟨rfl, rfl⟩]
        rw [n1, t, if_neg (show ¬ (sp_enter D l b v).facts l 2 = 0 from hs)]
      · obtain ⟨c, c1, c2, c3⟩ := L.ch
        refine ⟨fun i => if i < D.nE l then c i else e, ?_, ?_, ?_⟩
        · intro i hi
          rw [n1] at hi
          by_cases e2 : i < D.nE l
          · obtain ⟨y1, y2, y3, y4⟩ := c1 i e2
            dsimp only
            rw [if_pos e2]
            refine ⟨by omega, ?_, ?_, ?_⟩
            · dsimp only [entS, gm_setI, gm_setL, sp_enter, pd.putE, up2, pd.room, pd.st, pd.br, pd.bal, pd.facts, pd.book, pd.lims, pd.sels, pd.kind, pd.res, pd.bkind, pd.purse, pd.room, pd.st, pd.br, pd.bal, pd.facts, pd.book, pd.lims, pd.sels, pd.kind, pd.res, pd.bkind, pd.purse]
              rw [if_neg (by omega), if_neg (by omega), if_neg (by omega), if_neg (by omega), if_neg (by omega), if_neg (by omega), if_neg (by omega), if_neg (by omega)]; exact y2
            · dsimp only [entS, gm_setI, gm_setL, sp_enter, pd.putE, up2, pd.room, pd.st, pd.br, pd.bal, pd.facts, pd.book, pd.lims, pd.sels, pd.kind, pd.res, pd.bkind, pd.purse, pd.room, pd.st, pd.br, pd.bal, pd.facts, pd.book, pd.lims, pd.sels, pd.kind, pd.res, pd.bkind, pd.purse]
              rw [if_neg (by omega), if_neg (by omega), if_neg (by omega), if_neg (by omega)]; exact y3
            · dsimp only [entS, gm_setI, gm_setL]
              rw [if_neg (by omega), if_neg (by omega), if_neg (by omega), if_neg (by omega), if_neg (by omega), y4]
              by_cases e3 : i = 0
              · rw [if_pos e3, if_pos e3]
              · rw [if_neg e3, if_neg e3, if_pos (by omega)]
          · have e4 : i = D.nE l := by omega
            subst e4
            dsimp only
            rw [if_neg (Nat.lt_irrefl _)]
            refine ⟨by omega, ?_, ?_, ?_⟩
            · dsimp only [entS, gm_setI, gm_setL, sp_enter, pd.putE, up2, pd.room, pd.st, pd.br, pd.bal, pd.facts, pd.book, pd.lims, pd.sels, pd.kind, pd.res, pd.bkind, pd.purse, pd.room, pd.st, pd.br, pd.bal, pd.facts, pd.book, pd.lims, pd.sels, pd.kind, pd.res, pd.bkind, pd.purse]
              rw [if_neg (by omega), if_neg (by omega), if_neg (by omega), if_neg (by omega), if_pos ⟨rfl, rfl⟩, if_neg (by omega), if_pos ⟨rfl, rfl⟩]
            · dsimp only [entS, gm_setI, gm_setL, sp_enter, pd.putE, up2, pd.room, pd.st, pd.br, pd.bal, pd.facts, pd.book, pd.lims, pd.sels, pd.kind, pd.res, pd.bkind, pd.purse, pd.room, pd.st, pd.br, pd.bal, pd.facts, pd.book, pd.lims, pd.sels, pd.kind, pd.res, pd.bkind, pd.purse]
              rw [if_pos ⟨rfl, rfl⟩, if_pos ⟨rfl, rfl⟩]
            · dsimp only [entS, gm_setI, gm_setL]
              rw [if_neg (by omega), if_neg (by omega), if_neg (by omega), if_pos ⟨rfl, rfl⟩, c3]
              by_cases e3 : D.nE l = 0
              · rw [if_pos e3, if_pos e3]
              · rw [if_neg e3, if_neg e3, if_pos (by omega)]
        · intro i j hij hj
          rw [n1] at hj
          dsimp only
          rw [if_pos (by omega)]
          by_cases e2 : j < D.nE l
          · rw [if_pos e2]; exact c2 i j hij e2
          · rw [if_neg e2]; exact (c1 i (by omega)).1
        · rw [n1, if_neg (by omega)]
          dsimp only [entS, gm_setI, gm_setL]
          rw [if_neg (by omega), if_neg (by omega), if_pos ⟨rfl, rfl⟩, if_neg (by omega)]
    · refine rl_congr (h.lot m hm) (Nat.le_succ e) ?_ ?_ ?_ ?_ rfl rfl rfl ?_ rfl rfl
      · intro k a _ b' c d f g i j kk
        by_cases k13 : k = 13
        · subst k13
          dsimp only [entS, gm_setI, gm_setL]
          rw [if_neg (by omega), if_neg (by omega), if_neg (by omega), if_neg (by omega), if_neg (by omega), if_neg (by omega)]
          exact ⟨rfl, rfl⟩
        · by_cases k14 : k = 14
          · subst k14
            dsimp only [entS, gm_setI, gm_setL]
            rw [if_neg (by omega), if_neg (by omega), if_neg (by omega), if_neg (by omega), if_neg (by omega), if_neg (by omega)]
            exact ⟨rfl, rfl⟩
          · exact q k m k13 k14 c d f g
      · intro k hk
        exact (q 11 _ (by decide) (by decide) (by decide) (by decide) (by decide) (by decide)).1
      · intro k hk
        exact ⟨(q 20 _ (by decide) (by decide) (by decide) (by decide) (by decide) (by decide)).1, (q 21 _ (by decide) (by decide) (by decide) (by decide) (by decide) (by decide)).2, (q 22 _ (by decide) (by decide) (by decide) (by decide) (by decide) (by decide)).1⟩
      · intro i hi
        dsimp only [entS, gm_setI, gm_setL]
        refine ⟨?_, ?_, ?_⟩
        · rw [if_neg (by omega), if_neg (by omega), if_neg (by omega), if_neg (by omega), if_neg (by omega)]
        · rw [if_neg (by omega)]
        · rw [if_neg (by omega), if_neg (by omega), if_neg (by omega), if_neg (by omega), if_neg (by omega)]
      · dsimp only [sp_enter, pd.putE, pd.room, pd.st, pd.br, pd.bal, pd.facts, pd.book, pd.lims, pd.sels, pd.kind, pd.res, pd.bkind, pd.purse, pd.room, pd.st, pd.br, pd.bal, pd.facts, pd.book, pd.lims, pd.sels, pd.kind, pd.res, pd.bkind, pd.purse]
        rw [up2_ne e1, up2_ne e1, up2_ne e1]
theorem grow_eq {s : mt_S} {k0 k j : Nat} (h : k ≠ k0 ∨ j < s.2.2 k0) : (gm_grow s k0).1 k j = s.1 k j ∧ (gm_grow s k0).2.1 k j = s.2.1 k j := by
  dsimp only [gm_grow]
  rw [if_neg (by omega), if_neg (by omega)]
  exact ⟨rfl, rfl⟩
def grwS (s : mt_S) : mt_S := gm_grow (gm_grow (gm_grow s 16) 17) 18
theorem rv_grw {s : mt_S} {D : pd} {e : Nat} (h : rv s D e) (hc : s.2.2 16 ≤ 2048) : rv (grwS s) D e := by
  have q : ∀ k j, (k ≠ 16 ∧ k ≠ 17 ∧ k ≠ 18) ∨ j < e → (grwS s).1 k j = s.1 k j ∧ (grwS s).2.1 k j = s.2.1 k j := by
    intro k j hj
    have p1 := h.pl.1
    have p2 := h.pl.2.1
    have p3 := h.pl.2.2.1
    have z1 := grow_eq (s := gm_grow (gm_grow s 16) 17) (k0 := 18) (k := k) (j := j) (by have : (gm_grow (gm_grow s 16) 17).2.2 18 = s.2.2 18 := rfl; omega)
    have z2 := grow_eq (s := gm_grow s 16) (k0 := 17) (k := k) (j := j) (by have : (gm_grow s 16).2.2 17 = s.2.2 17 := rfl; omega)
    have z3 := grow_eq (s := s) (k0 := 16) (k := k) (j := j) (by omega)
    exact ⟨z1.1.trans (z2.1.trans z3.1), z1.2.trans (z2.2.trans z3.2)⟩
  refine ⟨?_, ?_, ?_, ?_, ?_, ?_, ?_, ?_, ?_, ?_, ?_⟩
  · intro k hk
    rw [← h.len k hk]
    obtain ⟨_, _, _, _, a, b, c, _⟩ := hk
    dsimp only [grwS, gm_grow]
    rw [if_neg c, if_neg b, if_neg a]
  · obtain ⟨p1, p2, p3, p4, p5⟩ := h.pl
    have c16 : (grwS s).2.2 16 = 2 * s.2.2 16 := rfl
    have c17 : (grwS s).2.2 17 = 2 * s.2.2 17 := rfl
    have c18 : (grwS s).2.2 18 = 2 * s.2.2 18 := rfl
    rw [c16, c17, c18, p1, p2]
    omega
  · rw [(q 15 0 (Or.inl (by decide))).1]; exact h.en
  · rw [(q 0 0 (Or.inl (by decide))).1]; exact h.nb
  · intro b hb
    rw [(q 1 b (Or.inl (by decide))).1, (q 2 b (Or.inl (by decide))).2, (q 3 b (Or.inl (by decide))).2]; exact h.bid b hb
  · rw [(q 4 0 (Or.inl (by decide))).1]; exact h.nl
  · rw [(q 33 0 (Or.inl (by decide))).1]
    refine ⟨h.st.1, fun k hk => ?_⟩
    rw [(q 34 k (Or.inl (by decide))).2, (q 35 k (Or.inl (by decide))).2]; exact h.st.2 k hk
  · rw [(q 36 0 (Or.inl (by decide))).1]
    refine ⟨h.br.1, fun k hk => ?_⟩
    rw [(q 37 k (Or.inl (by decide))).2, (q 38 k (Or.inl (by decide))).1]; exact h.br.2 k hk
  · intro k a b
    rw [(q 39 k (Or.inl (by decide))).1]; exact h.tx k a b
  · intro k a
    rw [(q 40 k (Or.inl (by decide))).2]; exact h.ac k a
  · intro l hl
    refine rl_congr (h.lot l hl) (Nat.le_refl _) ?_ ?_ ?_ ?_ rfl rfl rfl rfl rfl rfl
    · intro k a _ b c d f g i j kk
      exact q k l (Or.inl ⟨d, f, g⟩)
    · intro k hk
      exact (q 11 _ (Or.inl (by decide))).1
    · intro k hk
      exact ⟨(q 20 _ (Or.inl (by decide))).1, (q 21 _ (Or.inl (by decide))).2, (q 22 _ (Or.inl (by decide))).1⟩
    · intro i hi
      exact ⟨(q 16 i (Or.inr hi)).1, (q 17 i (Or.inr hi)).2, (q 18 i (Or.inr hi)).1⟩
theorem gb_ent {N : Nat} {s : mt_S} {D : pd} {e l : Nat} {b : Int32} {v : Int64} (h : rv s D e) (hl : l < D.nl) (hl4 : D.nl ≤ 400) (he : e < s.2.2 16) (hs : D.facts l 2 ≠ 0) : gb_X8_enter_45 N (nI l) b v s = some ((), entS s e l (D.nE l) b v) := by
  obtain ⟨p1, p2, p3, p4, p5⟩ := h.pl
  have l14 : s.2.2 14 = 400 := h.len 14 (by decide)
  have l13 : s.2.2 13 = 400 := h.len 13 (by decide)
  have k13 := (h.lot l hl).k13
  rw [if_neg hs] at k13
  unfold gb_X8_enter_45
  rw [h.en, gm_wrI (by omega) (by omega), Option.bind_some]
  rw [show (gm_setI s 16 e b).1 15 0 = nI e from h.en, gm_wrL (by show e < s.2.2 17; omega) (by omega), Option.bind_some]
  rw [gm_rdI (by show l < s.2.2 14; omega) (by omega), Option.bind_some]
  rw [show (gm_setL (gm_setI s 16 e b) 17 e v).1 15 0 = nI e from h.en, gm_wrI (by show e < s.2.2 18; omega) (by omega), Option.bind_some]
  rw [show (gm_setI (gm_setL (gm_setI s 16 e b) 17 e v) 18 e ((gm_setL (gm_setI s 16 e b) 17 e v).1 14 l)).1 15 0 = nI e from h.en, gm_wrI (by show l < s.2.2 14; omega) (by omega), Option.bind_some]
  rw [show (gm_setI (gm_setI (gm_setL (gm_setI s 16 e b) 17 e v) 18 e ((gm_setL (gm_setI s 16 e b) 17 e v).1 14 l)) 14 l (nI e)).1 15 0 = nI e from h.en]
  unfold gm_pI
  rw [Option.bind_some, cz_lit 1, cz_add]
  rw [gm_rdI (by show l < s.2.2 13; omega) (by omega), Option.bind_some, show (gm_setI (gm_setI (gm_setI (gm_setL (gm_setI s 16 e b) 17 e v) 18 e ((gm_setL (gm_setI s 16 e b) 17 e v).1 14 l)) 14 l (nI e)) 15 0 (nI (e + 1))).1 13 l = nI (D.nE l) from k13, cz_add]
  rw [gm_wrI (by show l < s.2.2 13; omega) (by omega), Option.bind_some]
  rfl
theorem rs_enter {N : Nat} {s0 s : mt_S} {D : pd} {e l : Nat} {ag : Bool} {cs : List Int32} {b : Int32} {v : Int64} (h : rs s0 s D e ag cs) (hN : 5000 ≤ N) (hl : l < D.nl) (hl4 : D.nl ≤ 400) (he : e < 2000) (hn : D.nE l < 300) (hs : D.facts l 2 ≠ 0) : ∃ s', gm_X8_enter N (nI l) b v s = some ((), s') ∧ rs s0 s' (sp_enter D l b v) (e + 1) ag cs := by
  obtain ⟨p1, p2, p3, p4, p5⟩ := h.v.pl
  unfold gm_X8_enter
  by_cases c : s.1 15 0 = Int32.ofNat (s.2.2 16)
  · rw [if_pos c]
    have ec : e = s.2.2 16 := by
      rw [h.v.en] at c
      exact (cz_eq (by omega) (by omega)).mp c
    have g1 : gm_gr N s 16 = some (gm_grow s 16) := if_pos ⟨by omega, by omega, by omega⟩
    have g2 : gm_gr N (gm_grow s 16) 17 = some (gm_grow (gm_grow s 16) 17) := if_pos ⟨by show s.2.2 17 < N; omega, by show s.2.2 17 < _; omega, by show 1 ≤ s.2.2 17; omega⟩
    have g3 : gm_gr N (gm_grow (gm_grow s 16) 17) 18 = some (grwS s) := if_pos ⟨by show s.2.2 18 < N; omega, by show s.2.2 18 < _; omega, by show 1 ≤ s.2.2 18; omega⟩
    rw [g1, Option.bind_some, g2, Option.bind_some, g3, Option.bind_some]
    have hv := rv_grw h.v (by omega)
    have he' : e < (grwS s).2.2 16 := by
      show e < 2 * s.2.2 16
      omega
    rw [gb_ent hv hl hl4 he' hs]
    refine ⟨_, rfl, rs_of h ?_ (rv_ent hv hl he' hn hs)⟩
    exact hi_I (hi_I (hi_I (hi_I (hi_L (hi_I (hi_G (hi_G (hi_G hi_refl (by decide)) (by decide)) (by decide)) (by decide)) (by decide)) (by decide)) (by decide)) (by decide)) (by decide)
  · rw [if_neg c]
    have ec : e < s.2.2 16 := by
      rcases Nat.lt_or_ge e (s.2.2 16) with z | z
      · exact z
      · exfalso
        apply c
        rw [h.v.en, show e = s.2.2 16 from by omega]
        rfl
    rw [gb_ent h.v hl hl4 ec hs]
    refine ⟨_, rfl, rs_of h ?_ (rv_ent h.v hl ec hn hs)⟩
    exact hi_I (hi_I (hi_I (hi_I (hi_L (hi_I hi_refl (by decide)) (by decide)) (by decide)) (by decide)) (by decide)) (by decide)
