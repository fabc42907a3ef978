/-! acts of the reference that make, renew, join -/
def newBS (s : mt_S) (b : Nat) (k : Int32) (x : Int64) : mt_S := gm_setI (gm_setL (gm_setL (gm_setI s 1 b k) 2 b x) 3 b 0) 0 0 (nI (b + 1))
theorem nb_newB {D : pd} {k : Int32} {x : Int64} (h : D.nb ≤ 200) : (sp_newB D k x).nb = D.nb + 1 := by
  show cn (up1 D.room 0 (Int64.ofNat (D.nb + 1)) 0) = D.nb + 1
  rw [show up1 D.room 0 (Int64.ofNat (D.nb + 1)) 0 = Int64.ofNat (D.nb + 1) from rfl, cl_cn (by omega)]
theorem rv_newB {s : mt_S} {D : pd} {e : Nat} {k : Int32} {x : Int64} (h : rv s D e) (hn : D.nb < 200) : rv (newBS s D.nb k x) (sp_newB D k x) e := by
  have n1 := nb_newB (D := D) (k := k) (x := x) (by omega)
  refine ⟨h.len, h.pl, h.en, by rw [n1]; rfl, ?_, h.nl, h.st, h.br, fun j a b => by dsimp only [sp_newB, up1, pd.room, pd.st, pd.br, pd.bal, pd.facts, pd.book, pd.lims, pd.sels, pd.kind, pd.res, pd.bkind, pd.purse]; rw [if_neg (by omega)]; exact h.tx j a b, fun j a => by dsimp only [sp_newB, up1, pd.room, pd.st, pd.br, pd.bal, pd.facts, pd.book, pd.lims, pd.sels, pd.kind, pd.res, pd.bkind, pd.purse]; rw [if_neg (by omega)]; exact h.ac j a, rv_lots h (fun k' hk a b c _ _ _ _ _ _ _ _ z => ⟨(fne_I z).trans (fne_I a), (fne_L c).trans (fne_L b)⟩) rfl ⟨rfl, rfl, rfl, rfl, rfl, rfl⟩⟩
  intro b hb
  rw [n1] at hb
  dsimp only [newBS, gm_setI, gm_setL, sp_newB, pd.room, pd.st, pd.br, pd.bal, pd.facts, pd.book, pd.lims, pd.sels, pd.kind, pd.res, pd.bkind, pd.purse]
  by_cases e1 : b = D.nb
  · refine ⟨?_, ?_, ?_⟩
    · rw [if_neg (by omega), if_pos ⟨rfl, e1⟩, if_pos e1]
    · rw [if_neg (by omega), if_pos ⟨rfl, e1⟩, if_pos e1]
    · rw [if_pos ⟨rfl, e1⟩, if_pos e1]
  · obtain ⟨z1, z2, z3⟩ := h.bid b (by omega)
    refine ⟨?_, ?_, ?_⟩
    · rw [if_neg (by omega), if_neg (by omega), if_neg e1]; exact z1
    · rw [if_neg (by omega), if_neg (by omega), if_neg e1]; exact z2
    · rw [if_neg (by omega), if_neg (by omega), if_neg e1]; exact z3
theorem nl_newL {D : pd} {k : Int32} {x y : Int64} (h : D.nl ≤ 400) : (sp_newL D k x y).nl = D.nl + 1 := by
  show cn (up1 D.room 1 (Int64.ofNat (D.nl + 1)) 1) = D.nl + 1
  rw [show up1 D.room 1 (Int64.ofNat (D.nl + 1)) 1 = Int64.ofNat (D.nl + 1) from rfl, cl_cn (by omega)]
def renS (s : mt_S) (l : Nat) (x : Int64) : mt_S := gm_setI (gm_setI (gm_setI (gm_setI (gm_setI (gm_setI (gm_setI (gm_setL (gm_setI (gm_setL s 6 l x) 9 l 0) 10 l 0) 13 l (-1)) 14 l (-1)) 19 l 0) 23 l 0) 25 l 0) 28 l 0) 29 l 0
def newLS (s : mt_S) (l : Nat) (k : Int32) (x y : Int64) : mt_S := renS (gm_setI (gm_setI (gm_setI (gm_setI (gm_setL (gm_setI s 5 l k) 7 l y) 8 l 0) 12 l 0) 30 l (-1)) 4 0 (nI (l + 1))) l x
theorem hi_ren {s s' : mt_S} {l : Nat} {x : Int64} (h : hi40 s s') : hi40 s (renS s' l x) :=
  hi_I (hi_I (hi_I (hi_I (hi_I (hi_I (hi_I (hi_L (hi_I (hi_L h (by decide)) (by decide)) (by decide)) (by decide)) (by decide)) (by decide)) (by decide)) (by decide)) (by decide)) (by decide)
theorem w_renew {N : Nat} {s : mt_S} {l : Nat} {x : Int64} (h : ∀ k, lsc k → l < s.2.2 k) (hl : l < 400) : gm_X8_renew N (nI l) x s = some ((), renS s l x) := by
  unfold gm_X8_renew
  rw [gm_wrL (h 6 (by decide)) (by omega), Option.bind_some]
  rw [gm_wrI (by exact h 9 (by decide)) (by omega), Option.bind_some]
  rw [gm_wrL (by exact h 10 (by decide)) (by omega), Option.bind_some]
  rw [gm_wrI (by exact h 13 (by decide)) (by omega), Option.bind_some]
  rw [gm_wrI (by exact h 14 (by decide)) (by omega), Option.bind_some]
  rw [gm_wrI (by exact h 19 (by decide)) (by omega), Option.bind_some]
  rw [gm_wrI (by exact h 23 (by decide)) (by omega), Option.bind_some]
  rw [gm_wrI (by exact h 25 (by decide)) (by omega), Option.bind_some]
  rw [gm_wrI (by exact h 28 (by decide)) (by omega), Option.bind_some]
  rw [gm_wrI (by exact h 29 (by decide)) (by omega), Option.bind_some]
  rfl
theorem lsc_len {s : mt_S} {D : pd} {e l : Nat} (h : rv s D e) (hl : l < 400) : ∀ k, lsc k → l < s.2.2 k := by
  intro k hk
  have e1 : s.2.2 k = 400 := by
    have f : rfix k := by unfold lsc at hk; unfold rfix; omega
    rw [h.len k f]
    unfold lsc at hk
    unfold rlen
    rw [if_neg (by omega), if_neg (by omega), if_neg (by omega), if_neg (by omega), if_neg (by omega), if_neg (by omega)]
  omega
theorem rv_newL {s : mt_S} {D : pd} {e : Nat} {k : Int32} {x y : Int64} (h : rv s D e) (hn : D.nl < 400) : rv (newLS s D.nl k x y) (sp_newL D k x y) e := by
  have n1 := nl_newL (D := D) (k := k) (x := x) (y := y) (by omega)
  generalize hl : D.nl = l at hn n1
  have hD : ∀ q, (sp_newL D k x y).facts l q = if q = 0 then x else if q = 11 then -1 else 0 := by
    intro q
    dsimp only [sp_newL, pd.room, pd.st, pd.br, pd.bal, pd.facts, pd.book, pd.lims, pd.sels, pd.kind, pd.res, pd.bkind, pd.purse]
    rw [if_pos hl.symm]
  have hk : (sp_newL D k x y).kind l = k := by dsimp only [sp_newL, pd.room, pd.st, pd.br, pd.bal, pd.facts, pd.book, pd.lims, pd.sels, pd.kind, pd.res, pd.bkind, pd.purse]; rw [if_pos hl.symm]
  have hr : (sp_newL D k x y).res l = y := by dsimp only [sp_newL, pd.room, pd.st, pd.br, pd.bal, pd.facts, pd.book, pd.lims, pd.sels, pd.kind, pd.res, pd.bkind, pd.purse]; rw [if_pos hl.symm]
  have hE : (sp_newL D k x y).nE l = 0 := by
    have : (sp_newL D k x y).book l 0 = 0 := by dsimp only [sp_newL, pd.room, pd.st, pd.br, pd.bal, pd.facts, pd.book, pd.lims, pd.sels, pd.kind, pd.res, pd.bkind, pd.purse]; rw [if_pos hl.symm]
    show cn ((sp_newL D k x y).book l 0) = 0
    rw [this]; rfl
  have hL : (sp_newL D k x y).nL l = 0 := by
    have : (sp_newL D k x y).lims l 0 = 0 := by dsimp only [sp_newL, pd.room, pd.st, pd.br, pd.bal, pd.facts, pd.book, pd.lims, pd.sels, pd.kind, pd.res, pd.bkind, pd.purse]; rw [if_pos hl.symm]
    show cn ((sp_newL D k x y).lims l 0) = 0
    rw [this]; rfl
  have hS : (sp_newL D k x y).nS l = 0 := by
    have : (sp_newL D k x y).sels l 0 = 0 := by dsimp only [sp_newL, pd.room, pd.st, pd.br, pd.bal, pd.facts, pd.book, pd.lims, pd.sels, pd.kind, pd.res, pd.bkind, pd.purse]; rw [if_pos hl.symm]
    show cn ((sp_newL D k x y).sels l 0) = 0
    rw [this]; rfl
  have so1 : so l (gm_setI s 4 0 (nI (l + 1))) (newLS s l k x y) := by
    have c : newLS s l k x y = renS (gm_setI (gm_setI (gm_setI (gm_setL (gm_setI (gm_setI s 4 0 (nI (l + 1))) 5 l k) 7 l y) 8 l 0) 12 l 0) 30 l (-1)) l x := by
      unfold newLS
      congr 1
      unfold gm_setI gm_setL
      refine Prod.ext ?_ rfl
      funext k' j'
      dsimp only
      by_cases c4 : k' = 4 ∧ j' = 0
      · rw [if_pos c4, if_neg (by omega), if_neg (by omega), if_neg (by omega), if_neg (by omega), if_pos c4]
      · simp only [if_neg c4]
    rw [c]
    unfold renS
    exact so_I (so_I (so_I (so_I (so_I (so_I (so_I (so_L (so_I (so_L (so_I (so_I (so_I (so_L (so_I so_refl (by decide)) (by decide)) (by decide)) (by decide)) (by decide)) (by decide)) (by decide)) (by decide)) (by decide)) (by decide)) (by decide)) (by decide)) (by decide)) (by decide)) (by decide)
  have n4 : (newLS s l k x y).1 4 0 = nI (l + 1) := (so1.d 4 0 (by decide)).1.trans sI_same
  have dd : ∀ k' j, k' = 0 ∨ k' = 1 ∨ k' = 2 ∨ k' = 3 ∨ k' = 15 ∨ k' = 16 ∨ k' = 17 ∨ k' = 18 ∨ k' = 33 ∨ k' = 34 ∨ k' = 35 ∨ k' = 36 ∨ k' = 37 ∨ k' = 38 ∨ k' = 39 ∨ k' = 40 → (newLS s l k x y).1 k' j = s.1 k' j ∧ (newLS s l k x y).2.1 k' j = s.2.1 k' j := by
    intro k' j hk'
    obtain ⟨z1, z2⟩ := so1.d k' j (by omega)
    refine ⟨z1.trans ?_, z2⟩
    rw [fne_I (by omega)]
  refine ⟨h.len, h.pl, ?_, ?_, ?_, by rw [n1]; exact n4, ?_, ?_, ?_, ?_, ?_⟩
  · rw [(dd 15 0 (by decide)).1]; exact h.en
  · rw [(dd 0 0 (by decide)).1]; exact h.nb
  · intro b hb
    rw [(dd 1 b (by decide)).1, (dd 2 b (by decide)).2, (dd 3 b (by decide)).2]; exact h.bid b hb
  · rw [(dd 33 0 (by decide)).1]
    refine ⟨h.st.1, fun k' hk' => ?_⟩
    rw [(dd 34 k' (by decide)).2, (dd 35 k' (by decide)).2]; exact h.st.2 k' hk'
  · rw [(dd 36 0 (by decide)).1]
    refine ⟨h.br.1, fun k' hk' => ?_⟩
    rw [(dd 37 k' (by decide)).2, (dd 38 k' (by decide)).1]; exact h.br.2 k' hk'
  · intro k' a b
    rw [(dd 39 k' (by decide)).1]
    dsimp only [sp_newL, up1, pd.room, pd.st, pd.br, pd.bal, pd.facts, pd.book, pd.lims, pd.sels, pd.kind, pd.res, pd.bkind, pd.purse]
    rw [if_neg (by omega)]
    exact h.tx k' a b
  · intro k' a
    rw [(dd 40 k' (by decide)).2]
    dsimp only [sp_newL, up1, pd.room, pd.st, pd.br, pd.bal, pd.facts, pd.book, pd.lims, pd.sels, pd.kind, pd.res, pd.bkind, pd.purse]
    rw [if_neg (by omega)]
    exact h.ac k' a
  · intro m hm
    rw [n1] at hm
    by_cases e1 : m = l
    · rw [e1]
      refine ⟨by rw [hS, hE, hL]; omega, by rw [hk]; simp [newLS, renS, gm_setI, gm_setL], by rw [hD]; simp [newLS, renS, gm_setI, gm_setL], by rw [hr]; simp [newLS, renS, gm_setI, gm_setL], ?_, ?_, by rw [hD]; simp [newLS, renS, gm_setI, gm_setL], ?_, fun i hi => by rw [hS] at hi; omega, ?_, ?_, ?_, fun i hi => by rw [hL] at hi; omega, ?_, fun z => ?_, ?_, fun z => ?_, ?_, ?_, ?_, fun z => ?_⟩
      · rw [hD]; simp [newLS, renS, gm_setI, gm_setL]
      · rw [hD]; simp [newLS, renS, gm_setI, gm_setL]
      · rw [hS]; simp [newLS, renS, gm_setI, gm_setL]; rfl
      · rw [hD]; simp [newLS, renS, gm_setI, gm_setL]
      · refine ⟨fun _ => 0, fun i hi => by rw [hE] at hi; omega, fun i j _ hj => by rw [hE] at hj; omega, ?_⟩
        rw [hE]; simp [newLS, renS, gm_setI, gm_setL]
      · rw [hL]; simp [newLS, renS, gm_setI, gm_setL]; rfl
      · rw [hD]; simp [newLS, renS, gm_setI, gm_setL]
      · exfalso; rw [hD] at z; exact z rfl
      · rw [hD]; simp [newLS, renS, gm_setI, gm_setL]
      · exfalso; rw [hD] at z; exact z rfl
      · rw [hD]; simp [newLS, renS, gm_setI, gm_setL]
      · rw [hD]; simp [newLS, renS, gm_setI, gm_setL]
      · rw [hD]; simp [newLS, renS, gm_setI, gm_setL]
      · exfalso
        rw [hD, if_neg (by decide), if_pos rfl, ← cl_64 (by omega), cl_m1, cl_inj] at z
        have q := cz_nn (n := l) (by omega)
        rw [← z] at q
        exact q (by decide)
    · have L := h.lot m (by omega)
      have mn : ¬ m = D.nl := by omega
      refine rl_congr L (Nat.le_refl _) ?_ ?_ ?_ ?_ (by dsimp only [sp_newL, pd.room, pd.st, pd.br, pd.bal, pd.facts, pd.book, pd.lims, pd.sels, pd.kind, pd.res, pd.bkind, pd.purse]; rw [if_neg mn]) (by dsimp only [sp_newL, pd.room, pd.st, pd.br, pd.bal, pd.facts, pd.book, pd.lims, pd.sels, pd.kind, pd.res, pd.bkind, pd.purse]; rw [if_neg mn]) (by funext q; dsimp only [sp_newL, pd.room, pd.st, pd.br, pd.bal, pd.facts, pd.book, pd.lims, pd.sels, pd.kind, pd.res, pd.bkind, pd.purse]; rw [if_neg mn]) (by funext q; dsimp only [sp_newL, pd.room, pd.st, pd.br, pd.bal, pd.facts, pd.book, pd.lims, pd.sels, pd.kind, pd.res, pd.bkind, pd.purse]; rw [if_neg mn]) (by funext q; dsimp only [sp_newL, pd.room, pd.st, pd.br, pd.bal, pd.facts, pd.book, pd.lims, pd.sels, pd.kind, pd.res, pd.bkind, pd.purse]; rw [if_neg mn]) (by funext q; dsimp only [sp_newL, pd.room, pd.st, pd.br, pd.bal, pd.facts, pd.book, pd.lims, pd.sels, pd.kind, pd.res, pd.bkind, pd.purse]; rw [if_neg mn])
      · intro k' a c4 b c d f g i j kk
        obtain ⟨z1, z2⟩ := so1.a k' m a e1 b i j kk
        refine ⟨z1.trans ?_, z2⟩
        rw [fne_I c4]
      · intro k' hk'
        exact (so1.b _ (by omega)).trans (by rw [fne_I (by decide)])
      · intro k' hk'
        obtain ⟨z1, z2, z3⟩ := so1.c (40 * m + k') (by omega)
        exact ⟨z1.trans (by rw [fne_I (by decide)]), z2, z3.trans (by rw [fne_I (by decide)])⟩
      · intro i hi
        exact ⟨(dd 16 i (by decide)).1, (dd 17 i (by decide)).2, (dd 18 i (by decide)).1⟩
