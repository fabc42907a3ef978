/-! single writes of the reference on a lot -/
theorem rv_8 {s : mt_S} {D : pd} {e l : Nat} (h : rv s D e) (hl : l < D.nl) {v : Int32} : rv (gm_setI s 8 l v) (D.putF l 1 v.toInt64) e := by
  have L := h.lot l hl
  refine rv_so h (so_I so_refl (by decide : lsc 8)) (do_F do_refl) ⟨?_, ?_, ?_, ?_, ?_, ?_, ?_, ?_, ?_, ?_, ?_, ?_, ?_, ?_, ?_, ?_, ?_, ?_, ?_, ?_, ?_⟩
  · first
      | exact L.bd
      | (have z := L.bd; simp only [gm_setI, gm_setL, pd.putF, pd.putE, pd.putL, pd.putQ, up2, pd.nS, pd.nL, pd.nE, pd.room, pd.st, pd.br, pd.bal, pd.facts, pd.book, pd.lims, pd.sels, pd.kind, pd.res, pd.bkind, pd.purse] at z ⊢; simpa using z)
  · first
      | exact L.k5
      | (have z := L.k5; simp only [gm_setI, gm_setL, pd.putF, pd.putE, pd.putL, pd.putQ, up2, pd.nS, pd.nL, pd.nE, pd.room, pd.st, pd.br, pd.bal, pd.facts, pd.book, pd.lims, pd.sels, pd.kind, pd.res, pd.bkind, pd.purse] at z ⊢; simpa using z)
  · first
      | exact L.k6
      | (have z := L.k6; simp only [gm_setI, gm_setL, pd.putF, pd.putE, pd.putL, pd.putQ, up2, pd.nS, pd.nL, pd.nE, pd.room, pd.st, pd.br, pd.bal, pd.facts, pd.book, pd.lims, pd.sels, pd.kind, pd.res, pd.bkind, pd.purse] at z ⊢; simpa using z)
  · first
      | exact L.k7
      | (have z := L.k7; simp only [gm_setI, gm_setL, pd.putF, pd.putE, pd.putL, pd.putQ, up2, pd.nS, pd.nL, pd.nE, pd.room, pd.st, pd.br, pd.bal, pd.facts, pd.book, pd.lims, pd.sels, pd.kind, pd.res, pd.bkind, pd.purse] at z ⊢; simpa using z)
  · simp [gm_setI, gm_setL, pd.putF, pd.putE, pd.putL, pd.putQ, up2, pd.nS, pd.nL, pd.nE, pd.room, pd.st, pd.br, pd.bal, pd.facts, pd.book, pd.lims, pd.sels, pd.kind, pd.res, pd.bkind, pd.purse]
  · first
      | exact L.k9
      | (have z := L.k9; simp only [gm_setI, gm_setL, pd.putF, pd.putE, pd.putL, pd.putQ, up2, pd.nS, pd.nL, pd.nE, pd.room, pd.st, pd.br, pd.bal, pd.facts, pd.book, pd.lims, pd.sels, pd.kind, pd.res, pd.bkind, pd.purse] at z ⊢; simpa using z)
  · first
      | exact L.k10
      | (have z := L.k10; simp only [gm_setI, gm_setL, pd.putF, pd.putE, pd.putL, pd.putQ, up2, pd.nS, pd.nL, pd.nE, pd.room, pd.st, pd.br, pd.bal, pd.facts, pd.book, pd.lims, pd.sels, pd.kind, pd.res, pd.bkind, pd.purse] at z ⊢; simpa using z)
  · first
      | exact L.k12
      | (have z := L.k12; simp only [gm_setI, gm_setL, pd.putF, pd.putE, pd.putL, pd.putQ, up2, pd.nS, pd.nL, pd.nE, pd.room, pd.st, pd.br, pd.bal, pd.facts, pd.book, pd.lims, pd.sels, pd.kind, pd.res, pd.bkind, pd.purse] at z ⊢; simpa using z)
  · first
      | exact L.k11
      | (have z := L.k11; simp only [gm_setI, gm_setL, pd.putF, pd.putE, pd.putL, pd.putQ, up2, pd.nS, pd.nL, pd.nE, pd.room, pd.st, pd.br, pd.bal, pd.facts, pd.book, pd.lims, pd.sels, pd.kind, pd.res, pd.bkind, pd.purse] at z ⊢; simpa using z)
  · first
      | exact L.k13
      | (have z := L.k13; simp only [gm_setI, gm_setL, pd.putF, pd.putE, pd.putL, pd.putQ, up2, pd.nS, pd.nL, pd.nE, pd.room, pd.st, pd.br, pd.bal, pd.facts, pd.book, pd.lims, pd.sels, pd.kind, pd.res, pd.bkind, pd.purse] at z ⊢; simpa using z)
  · exact L.ch
  · first
      | exact L.k19
      | (have z := L.k19; simp only [gm_setI, gm_setL, pd.putF, pd.putE, pd.putL, pd.putQ, up2, pd.nS, pd.nL, pd.nE, pd.room, pd.st, pd.br, pd.bal, pd.facts, pd.book, pd.lims, pd.sels, pd.kind, pd.res, pd.bkind, pd.purse] at z ⊢; simpa using z)
  · first
      | exact L.lim
      | (have z := L.lim; simp only [gm_setI, gm_setL, pd.putF, pd.putE, pd.putL, pd.putQ, up2, pd.nS, pd.nL, pd.nE, pd.room, pd.st, pd.br, pd.bal, pd.facts, pd.book, pd.lims, pd.sels, pd.kind, pd.res, pd.bkind, pd.purse] at z ⊢; simpa using z)
  · first
      | exact L.k23
      | (have z := L.k23; simp only [gm_setI, gm_setL, pd.putF, pd.putE, pd.putL, pd.putQ, up2, pd.nS, pd.nL, pd.nE, pd.room, pd.st, pd.br, pd.bal, pd.facts, pd.book, pd.lims, pd.sels, pd.kind, pd.res, pd.bkind, pd.purse] at z ⊢; simpa using z)
  · first
      | exact L.k24
      | (have z := L.k24; simp only [gm_setI, gm_setL, pd.putF, pd.putE, pd.putL, pd.putQ, up2, pd.nS, pd.nL, pd.nE, pd.room, pd.st, pd.br, pd.bal, pd.facts, pd.book, pd.lims, pd.sels, pd.kind, pd.res, pd.bkind, pd.purse] at z ⊢; simpa using z)
  · first
      | exact L.k25
      | (have z := L.k25; simp only [gm_setI, gm_setL, pd.putF, pd.putE, pd.putL, pd.putQ, up2, pd.nS, pd.nL, pd.nE, pd.room, pd.st, pd.br, pd.bal, pd.facts, pd.book, pd.lims, pd.sels, pd.kind, pd.res, pd.bkind, pd.purse] at z ⊢; simpa using z)
  · first
      | exact L.k26
      | (have z := L.k26; simp only [gm_setI, gm_setL, pd.putF, pd.putE, pd.putL, pd.putQ, up2, pd.nS, pd.nL, pd.nE, pd.room, pd.st, pd.br, pd.bal, pd.facts, pd.book, pd.lims, pd.sels, pd.kind, pd.res, pd.bkind, pd.purse] at z ⊢; simpa using z)
  · first
      | exact L.k28
      | (have z := L.k28; simp only [gm_setI, gm_setL, pd.putF, pd.putE, pd.putL, pd.putQ, up2, pd.nS, pd.nL, pd.nE, pd.room, pd.st, pd.br, pd.bal, pd.facts, pd.book, pd.lims, pd.sels, pd.kind, pd.res, pd.bkind, pd.purse] at z ⊢; simpa using z)
  · first
      | exact L.k29
      | (have z := L.k29; simp only [gm_setI, gm_setL, pd.putF, pd.putE, pd.putL, pd.putQ, up2, pd.nS, pd.nL, pd.nE, pd.room, pd.st, pd.br, pd.bal, pd.facts, pd.book, pd.lims, pd.sels, pd.kind, pd.res, pd.bkind, pd.purse] at z ⊢; simpa using z)
  · first
      | exact L.k30
      | (have z := L.k30; simp only [gm_setI, gm_setL, pd.putF, pd.putE, pd.putL, pd.putQ, up2, pd.nS, pd.nL, pd.nE, pd.room, pd.st, pd.br, pd.bal, pd.facts, pd.book, pd.lims, pd.sels, pd.kind, pd.res, pd.bkind, pd.purse] at z ⊢; simpa using z)
  · first
      | exact L.k31
      | (have z := L.k31; simp only [gm_setI, gm_setL, pd.putF, pd.putE, pd.putL, pd.putQ, up2, pd.nS, pd.nL, pd.nE, pd.room, pd.st, pd.br, pd.bal, pd.facts, pd.book, pd.lims, pd.sels, pd.kind, pd.res, pd.bkind, pd.purse] at z ⊢; simpa using z)
theorem rv_10 {s : mt_S} {D : pd} {e l : Nat} (h : rv s D e) (hl : l < D.nl) {v : Int64} : rv (gm_setL s 10 l v) (D.putF l 3 v) e := by
  have L := h.lot l hl
  refine rv_so h (so_L so_refl (by decide : lsc 10)) (do_F do_refl) ⟨?_, ?_, ?_, ?_, ?_, ?_, ?_, ?_, ?_, ?_, ?_, ?_, ?_, ?_, ?_, ?_, ?_, ?_, ?_, ?_, ?_⟩
  · first
      | exact L.bd
      | (have z := L.bd; simp only [gm_setI, gm_setL, pd.putF, pd.putE, pd.putL, pd.putQ, up2, pd.nS, pd.nL, pd.nE, pd.room, pd.st, pd.br, pd.bal, pd.facts, pd.book, pd.lims, pd.sels, pd.kind, pd.res, pd.bkind, pd.purse] at z ⊢; simpa using z)
  · first
      | exact L.k5
      | (have z := L.k5; simp only [gm_setI, gm_setL, pd.putF, pd.putE, pd.putL, pd.putQ, up2, pd.nS, pd.nL, pd.nE, pd.room, pd.st, pd.br, pd.bal, pd.facts, pd.book, pd.lims, pd.sels, pd.kind, pd.res, pd.bkind, pd.purse] at z ⊢; simpa using z)
  · first
      | exact L.k6
      | (have z := L.k6; simp only [gm_setI, gm_setL, pd.putF, pd.putE, pd.putL, pd.putQ, up2, pd.nS, pd.nL, pd.nE, pd.room, pd.st, pd.br, pd.bal, pd.facts, pd.book, pd.lims, pd.sels, pd.kind, pd.res, pd.bkind, pd.purse] at z ⊢; simpa using z)
  · first
      | exact L.k7
      | (have z := L.k7; simp only [gm_setI, gm_setL, pd.putF, pd.putE, pd.putL, pd.putQ, up2, pd.nS, pd.nL, pd.nE, pd.room, pd.st, pd.br, pd.bal, pd.facts, pd.book, pd.lims, pd.sels, pd.kind, pd.res, pd.bkind, pd.purse] at z ⊢; simpa using z)
  · first
      | exact L.k8
      | (have z := L.k8; simp only [gm_setI, gm_setL, pd.putF, pd.putE, pd.putL, pd.putQ, up2, pd.nS, pd.nL, pd.nE, pd.room, pd.st, pd.br, pd.bal, pd.facts, pd.book, pd.lims, pd.sels, pd.kind, pd.res, pd.bkind, pd.purse] at z ⊢; simpa using z)
  · first
      | exact L.k9
      | (have z := L.k9; simp only [gm_setI, gm_setL, pd.putF, pd.putE, pd.putL, pd.putQ, up2, pd.nS, pd.nL, pd.nE, pd.room, pd.st, pd.br, pd.bal, pd.facts, pd.book, pd.lims, pd.sels, pd.kind, pd.res, pd.bkind, pd.purse] at z ⊢; simpa using z)
  · simp [gm_setI, gm_setL, pd.putF, pd.putE, pd.putL, pd.putQ, up2, pd.nS, pd.nL, pd.nE, pd.room, pd.st, pd.br, pd.bal, pd.facts, pd.book, pd.lims, pd.sels, pd.kind, pd.res, pd.bkind, pd.purse]
  · first
      | exact L.k12
      | (have z := L.k12; simp only [gm_setI, gm_setL, pd.putF, pd.putE, pd.putL, pd.putQ, up2, pd.nS, pd.nL, pd.nE, pd.room, pd.st, pd.br, pd.bal, pd.facts, pd.book, pd.lims, pd.sels, pd.kind, pd.res, pd.bkind, pd.purse] at z ⊢; simpa using z)
  · first
      | exact L.k11
      | (have z := L.k11; simp only [gm_setI, gm_setL, pd.putF, pd.putE, pd.putL, pd.putQ, up2, pd.nS, pd.nL, pd.nE, pd.room, pd.st, pd.br, pd.bal, pd.facts, pd.book, pd.lims, pd.sels, pd.kind, pd.res, pd.bkind, pd.purse] at z ⊢; simpa using z)
  · first
      | exact L.k13
      | (have z := L.k13; simp only [gm_setI, gm_setL, pd.putF, pd.putE, pd.putL, pd.putQ, up2, pd.nS, pd.nL, pd.nE, pd.room, pd.st, pd.br, pd.bal, pd.facts, pd.book, pd.lims, pd.sels, pd.kind, pd.res, pd.bkind, pd.purse] at z ⊢; simpa using z)
  · exact L.ch
  · first
      | exact L.k19
      | (have z := L.k19; simp only [gm_setI, gm_setL, pd.putF, pd.putE, pd.putL, pd.putQ, up2, pd.nS, pd.nL, pd.nE, pd.room, pd.st, pd.br, pd.bal, pd.facts, pd.book, pd.lims, pd.sels, pd.kind, pd.res, pd.bkind, pd.purse] at z ⊢; simpa using z)
  · first
      | exact L.lim
      | (have z := L.lim; simp only [gm_setI, gm_setL, pd.putF, pd.putE, pd.putL, pd.putQ, up2, pd.nS, pd.nL, pd.nE, pd.room, pd.st, pd.br, pd.bal, pd.facts, pd.book, pd.lims, pd.sels, pd.kind, pd.res, pd.bkind, pd.purse] at z ⊢; simpa using z)
  · first
      | exact L.k23
      | (have z := L.k23; simp only [gm_setI, gm_setL, pd.putF, pd.putE, pd.putL, pd.putQ, up2, pd.nS, pd.nL, pd.nE, pd.room, pd.st, pd.br, pd.bal, pd.facts, pd.book, pd.lims, pd.sels, pd.kind, pd.res, pd.bkind, pd.purse] at z ⊢; simpa using z)
  · first
      | exact L.k24
      | (have z := L.k24; simp only [gm_setI, gm_setL, pd.putF, pd.putE, pd.putL, pd.putQ, up2, pd.nS, pd.nL, pd.nE, pd.room, pd.st, pd.br, pd.bal, pd.facts, pd.book, pd.lims, pd.sels, pd.kind, pd.res, pd.bkind, pd.purse] at z ⊢; simpa using z)
  · first
      | exact L.k25
      | (have z := L.k25; simp only [gm_setI, gm_setL, pd.putF, pd.putE, pd.putL, pd.putQ, up2, pd.nS, pd.nL, pd.nE, pd.room, pd.st, pd.br, pd.bal, pd.facts, pd.book, pd.lims, pd.sels, pd.kind, pd.res, pd.bkind, pd.purse] at z ⊢; simpa using z)
  · first
      | exact L.k26
      | (have z := L.k26; simp only [gm_setI, gm_setL, pd.putF, pd.putE, pd.putL, pd.putQ, up2, pd.nS, pd.nL, pd.nE, pd.room, pd.st, pd.br, pd.bal, pd.facts, pd.book, pd.lims, pd.sels, pd.kind, pd.res, pd.bkind, pd.purse] at z ⊢; simpa using z)
  · first
      | exact L.k28
      | (have z := L.k28; simp only [gm_setI, gm_setL, pd.putF, pd.putE, pd.putL, pd.putQ, up2, pd.nS, pd.nL, pd.nE, pd.room, pd.st, pd.br, pd.bal, pd.facts, pd.book, pd.lims, pd.sels, pd.kind, pd.res, pd.bkind, pd.purse] at z ⊢; simpa using z)
  · first
      | exact L.k29
      | (have z := L.k29; simp only [gm_setI, gm_setL, pd.putF, pd.putE, pd.putL, pd.putQ, up2, pd.nS, pd.nL, pd.nE, pd.room, pd.st, pd.br, pd.bal, pd.facts, pd.book, pd.lims, pd.sels, pd.kind, pd.res, pd.bkind, pd.purse] at z ⊢; simpa using z)
  · first
      | exact L.k30
      | (have z := L.k30; simp only [gm_setI, gm_setL, pd.putF, pd.putE, pd.putL, pd.putQ, up2, pd.nS, pd.nL, pd.nE, pd.room, pd.st, pd.br, pd.bal, pd.facts, pd.book, pd.lims, pd.sels, pd.kind, pd.res, pd.bkind, pd.purse] at z ⊢; simpa using z)
  · first
      | exact L.k31
      | (have z := L.k31; simp only [gm_setI, gm_setL, pd.putF, pd.putE, pd.putL, pd.putQ, up2, pd.nS, pd.nL, pd.nE, pd.room, pd.st, pd.br, pd.bal, pd.facts, pd.book, pd.lims, pd.sels, pd.kind, pd.res, pd.bkind, pd.purse] at z ⊢; simpa using z)
theorem rv_28 {s : mt_S} {D : pd} {e l : Nat} (h : rv s D e) (hl : l < D.nl) {v : Int32} : rv (gm_setI s 28 l v) (D.putF l 9 v.toInt64) e := by
  have L := h.lot l hl
  refine rv_so h (so_I so_refl (by decide : lsc 28)) (do_F do_refl) ⟨?_, ?_, ?_, ?_, ?_, ?_, ?_, ?_, ?_, ?_, ?_, ?_, ?_, ?_, ?_, ?_, ?_, ?_, ?_, ?_, ?_⟩
  · first
      | exact L.bd
      | (have z := L.bd; simp only [gm_setI, gm_setL, pd.putF, pd.putE, pd.putL, pd.putQ, up2, pd.nS, pd.nL, pd.nE, pd.room, pd.st, pd.br, pd.bal, pd.facts, pd.book, pd.lims, pd.sels, pd.kind, pd.res, pd.bkind, pd.purse] at z ⊢; simpa using z)
  · first
      | exact L.k5
      | (have z := L.k5; simp only [gm_setI, gm_setL, pd.putF, pd.putE, pd.putL, pd.putQ, up2, pd.nS, pd.nL, pd.nE, pd.room, pd.st, pd.br, pd.bal, pd.facts, pd.book, pd.lims, pd.sels, pd.kind, pd.res, pd.bkind, pd.purse] at z ⊢; simpa using z)
  · first
      | exact L.k6
      | (have z := L.k6; simp only [gm_setI, gm_setL, pd.putF, pd.putE, pd.putL, pd.putQ, up2, pd.nS, pd.nL, pd.nE, pd.room, pd.st, pd.br, pd.bal, pd.facts, pd.book, pd.lims, pd.sels, pd.kind, pd.res, pd.bkind, pd.purse] at z ⊢; simpa using z)
  · first
      | exact L.k7
      | (have z := L.k7; simp only [gm_setI, gm_setL, pd.putF, pd.putE, pd.putL, pd.putQ, up2, pd.nS, pd.nL, pd.nE, pd.room, pd.st, pd.br, pd.bal, pd.facts, pd.book, pd.lims, pd.sels, pd.kind, pd.res, pd.bkind, pd.purse] at z ⊢; simpa using z)
  · first
      | exact L.k8
      | (have z := L.k8; simp only [gm_setI, gm_setL, pd.putF, pd.putE, pd.putL, pd.putQ, up2, pd.nS, pd.nL, pd.nE, pd.room, pd.st, pd.br, pd.bal, pd.facts, pd.book, pd.lims, pd.sels, pd.kind, pd.res, pd.bkind, pd.purse] at z ⊢; simpa using z)
  · first
      | exact L.k9
      | (have z := L.k9; simp only [gm_setI, gm_setL, pd.putF, pd.putE, pd.putL, pd.putQ, up2, pd.nS, pd.nL, pd.nE, pd.room, pd.st, pd.br, pd.bal, pd.facts, pd.book, pd.lims, pd.sels, pd.kind, pd.res, pd.bkind, pd.purse] at z ⊢; simpa using z)
  · first
      | exact L.k10
      | (have z := L.k10; simp only [gm_setI, gm_setL, pd.putF, pd.putE, pd.putL, pd.putQ, up2, pd.nS, pd.nL, pd.nE, pd.room, pd.st, pd.br, pd.bal, pd.facts, pd.book, pd.lims, pd.sels, pd.kind, pd.res, pd.bkind, pd.purse] at z ⊢; simpa using z)
  · first
      | exact L.k12
      | (have z := L.k12; simp only [gm_setI, gm_setL, pd.putF, pd.putE, pd.putL, pd.putQ, up2, pd.nS, pd.nL, pd.nE, pd.room, pd.st, pd.br, pd.bal, pd.facts, pd.book, pd.lims, pd.sels, pd.kind, pd.res, pd.bkind, pd.purse] at z ⊢; simpa using z)
  · first
      | exact L.k11
      | (have z := L.k11; simp only [gm_setI, gm_setL, pd.putF, pd.putE, pd.putL, pd.putQ, up2, pd.nS, pd.nL, pd.nE, pd.room, pd.st, pd.br, pd.bal, pd.facts, pd.book, pd.lims, pd.sels, pd.kind, pd.res, pd.bkind, pd.purse] at z ⊢; simpa using z)
  · first
      | exact L.k13
      | (have z := L.k13; simp only [gm_setI, gm_setL, pd.putF, pd.putE, pd.putL, pd.putQ, up2, pd.nS, pd.nL, pd.nE, pd.room, pd.st, pd.br, pd.bal, pd.facts, pd.book, pd.lims, pd.sels, pd.kind, pd.res, pd.bkind, pd.purse] at z ⊢; simpa using z)
  · exact L.ch
  · first
      | exact L.k19
      | (have z := L.k19; simp only [gm_setI, gm_setL, pd.putF, pd.putE, pd.putL, pd.putQ, up2, pd.nS, pd.nL, pd.nE, pd.room, pd.st, pd.br, pd.bal, pd.facts, pd.book, pd.lims, pd.sels, pd.kind, pd.res, pd.bkind, pd.purse] at z ⊢; simpa using z)
  · first
      | exact L.lim
      | (have z := L.lim; simp only [gm_setI, gm_setL, pd.putF, pd.putE, pd.putL, pd.putQ, up2, pd.nS, pd.nL, pd.nE, pd.room, pd.st, pd.br, pd.bal, pd.facts, pd.book, pd.lims, pd.sels, pd.kind, pd.res, pd.bkind, pd.purse] at z ⊢; simpa using z)
  · first
      | exact L.k23
      | (have z := L.k23; simp only [gm_setI, gm_setL, pd.putF, pd.putE, pd.putL, pd.putQ, up2, pd.nS, pd.nL, pd.nE, pd.room, pd.st, pd.br, pd.bal, pd.facts, pd.book, pd.lims, pd.sels, pd.kind, pd.res, pd.bkind, pd.purse] at z ⊢; simpa using z)
  · first
      | exact L.k24
      | (have z := L.k24; simp only [gm_setI, gm_setL, pd.putF, pd.putE, pd.putL, pd.putQ, up2, pd.nS, pd.nL, pd.nE, pd.room, pd.st, pd.br, pd.bal, pd.facts, pd.book, pd.lims, pd.sels, pd.kind, pd.res, pd.bkind, pd.purse] at z ⊢; simpa using z)
  · first
      | exact L.k25
      | (have z := L.k25; simp only [gm_setI, gm_setL, pd.putF, pd.putE, pd.putL, pd.putQ, up2, pd.nS, pd.nL, pd.nE, pd.room, pd.st, pd.br, pd.bal, pd.facts, pd.book, pd.lims, pd.sels, pd.kind, pd.res, pd.bkind, pd.purse] at z ⊢; simpa using z)
  · first
      | exact L.k26
      | (have z := L.k26; simp only [gm_setI, gm_setL, pd.putF, pd.putE, pd.putL, pd.putQ, up2, pd.nS, pd.nL, pd.nE, pd.room, pd.st, pd.br, pd.bal, pd.facts, pd.book, pd.lims, pd.sels, pd.kind, pd.res, pd.bkind, pd.purse] at z ⊢; simpa using z)
  · simp [gm_setI, gm_setL, pd.putF, pd.putE, pd.putL, pd.putQ, up2, pd.nS, pd.nL, pd.nE, pd.room, pd.st, pd.br, pd.bal, pd.facts, pd.book, pd.lims, pd.sels, pd.kind, pd.res, pd.bkind, pd.purse]
  · first
      | exact L.k29
      | (have z := L.k29; simp only [gm_setI, gm_setL, pd.putF, pd.putE, pd.putL, pd.putQ, up2, pd.nS, pd.nL, pd.nE, pd.room, pd.st, pd.br, pd.bal, pd.facts, pd.book, pd.lims, pd.sels, pd.kind, pd.res, pd.bkind, pd.purse] at z ⊢; simpa using z)
  · first
      | exact L.k30
      | (have z := L.k30; simp only [gm_setI, gm_setL, pd.putF, pd.putE, pd.putL, pd.putQ, up2, pd.nS, pd.nL, pd.nE, pd.room, pd.st, pd.br, pd.bal, pd.facts, pd.book, pd.lims, pd.sels, pd.kind, pd.res, pd.bkind, pd.purse] at z ⊢; simpa using z)
  · first
      | exact L.k31
      | (have z := L.k31; simp only [gm_setI, gm_setL, pd.putF, pd.putE, pd.putL, pd.putQ, up2, pd.nS, pd.nL, pd.nE, pd.room, pd.st, pd.br, pd.bal, pd.facts, pd.book, pd.lims, pd.sels, pd.kind, pd.res, pd.bkind, pd.purse] at z ⊢; simpa using z)
theorem rv_29 {s : mt_S} {D : pd} {e l : Nat} (h : rv s D e) (hl : l < D.nl) {v : Int32} : rv (gm_setI s 29 l v) (D.putF l 10 v.toInt64) e := by
  have L := h.lot l hl
  refine rv_so h (so_I so_refl (by decide : lsc 29)) (do_F do_refl) ⟨?_, ?_, ?_, ?_, ?_, ?_, ?_, ?_, ?_, ?_, ?_, ?_, ?_, ?_, ?_, ?_, ?_, ?_, ?_, ?_, ?_⟩
  · first
      | exact L.bd
      | (have z := L.bd; simp only [gm_setI, gm_setL, pd.putF, pd.putE, pd.putL, pd.putQ, up2, pd.nS, pd.nL, pd.nE, pd.room, pd.st, pd.br, pd.bal, pd.facts, pd.book, pd.lims, pd.sels, pd.kind, pd.res, pd.bkind, pd.purse] at z ⊢; simpa using z)
  · first
      | exact L.k5
      | (have z := L.k5; simp only [gm_setI, gm_setL, pd.putF, pd.putE, pd.putL, pd.putQ, up2, pd.nS, pd.nL, pd.nE, pd.room, pd.st, pd.br, pd.bal, pd.facts, pd.book, pd.lims, pd.sels, pd.kind, pd.res, pd.bkind, pd.purse] at z ⊢; simpa using z)
  · first
      | exact L.k6
      | (have z := L.k6; simp only [gm_setI, gm_setL, pd.putF, pd.putE, pd.putL, pd.putQ, up2, pd.nS, pd.nL, pd.nE, pd.room, pd.st, pd.br, pd.bal, pd.facts, pd.book, pd.lims, pd.sels, pd.kind, pd.res, pd.bkind, pd.purse] at z ⊢; simpa using z)
  · first
      | exact L.k7
      | (have z := L.k7; simp only [gm_setI, gm_setL, pd.putF, pd.putE, pd.putL, pd.putQ, up2, pd.nS, pd.nL, pd.nE, pd.room, pd.st, pd.br, pd.bal, pd.facts, pd.book, pd.lims, pd.sels, pd.kind, pd.res, pd.bkind, pd.purse] at z ⊢; simpa using z)
  · first
      | exact L.k8
      | (have z := L.k8; simp only [gm_setI, gm_setL, pd.putF, pd.putE, pd.putL, pd.putQ, up2, pd.nS, pd.nL, pd.nE, pd.room, pd.st, pd.br, pd.bal, pd.facts, pd.book, pd.lims, pd.sels, pd.kind, pd.res, pd.bkind, pd.purse] at z ⊢; simpa using z)
  · first
      | exact L.k9
      | (have z := L.k9; simp only [gm_setI, gm_setL, pd.putF, pd.putE, pd.putL, pd.putQ, up2, pd.nS, pd.nL, pd.nE, pd.room, pd.st, pd.br, pd.bal, pd.facts, pd.book, pd.lims, pd.sels, pd.kind, pd.res, pd.bkind, pd.purse] at z ⊢; simpa using z)
  · first
      | exact L.k10
      | (have z := L.k10; simp only [gm_setI, gm_setL, pd.putF, pd.putE, pd.putL, pd.putQ, up2, pd.nS, pd.nL, pd.nE, pd.room, pd.st, pd.br, pd.bal, pd.facts, pd.book, pd.lims, pd.sels, pd.kind, pd.res, pd.bkind, pd.purse] at z ⊢; simpa using z)
  · first
      | exact L.k12
      | (have z := L.k12; simp only [gm_setI, gm_setL, pd.putF, pd.putE, pd.putL, pd.putQ, up2, pd.nS, pd.nL, pd.nE, pd.room, pd.st, pd.br, pd.bal, pd.facts, pd.book, pd.lims, pd.sels, pd.kind, pd.res, pd.bkind, pd.purse] at z ⊢; simpa using z)
  · first
      | exact L.k11
      | (have z := L.k11; simp only [gm_setI, gm_setL, pd.putF, pd.putE, pd.putL, pd.putQ, up2, pd.nS, pd.nL, pd.nE, pd.room, pd.st, pd.br, pd.bal, pd.facts, pd.book, pd.lims, pd.sels, pd.kind, pd.res, pd.bkind, pd.purse] at z ⊢; simpa using z)
  · first
      | exact L.k13
      | (have z := L.k13; simp only [gm_setI, gm_setL, pd.putF, pd.putE, pd.putL, pd.putQ, up2, pd.nS, pd.nL, pd.nE, pd.room, pd.st, pd.br, pd.bal, pd.facts, pd.book, pd.lims, pd.sels, pd.kind, pd.res, pd.bkind, pd.purse] at z ⊢; simpa using z)
  · exact L.ch
  · first
      | exact L.k19
      | (have z := L.k19; simp only [gm_setI, gm_setL, pd.putF, pd.putE, pd.putL, pd.putQ, up2, pd.nS, pd.nL, pd.nE, pd.room, pd.st, pd.br, pd.bal, pd.facts, pd.book, pd.lims, pd.sels, pd.kind, pd.res, pd.bkind, pd.purse] at z ⊢; simpa using z)
  · first
      | exact L.lim
      | (have z := L.lim; simp only [gm_setI, gm_setL, pd.putF, pd.putE, pd.putL, pd.putQ, up2, pd.nS, pd.nL, pd.nE, pd.room, pd.st, pd.br, pd.bal, pd.facts, pd.book, pd.lims, pd.sels, pd.kind, pd.res, pd.bkind, pd.purse] at z ⊢; simpa using z)
  · first
      | exact L.k23
      | (have z := L.k23; simp only [gm_setI, gm_setL, pd.putF, pd.putE, pd.putL, pd.putQ, up2, pd.nS, pd.nL, pd.nE, pd.room, pd.st, pd.br, pd.bal, pd.facts, pd.book, pd.lims, pd.sels, pd.kind, pd.res, pd.bkind, pd.purse] at z ⊢; simpa using z)
  · first
      | exact L.k24
      | (have z := L.k24; simp only [gm_setI, gm_setL, pd.putF, pd.putE, pd.putL, pd.putQ, up2, pd.nS, pd.nL, pd.nE, pd.room, pd.st, pd.br, pd.bal, pd.facts, pd.book, pd.lims, pd.sels, pd.kind, pd.res, pd.bkind, pd.purse] at z ⊢; simpa using z)
  · first
      | exact L.k25
      | (have z := L.k25; simp only [gm_setI, gm_setL, pd.putF, pd.putE, pd.putL, pd.putQ, up2, pd.nS, pd.nL, pd.nE, pd.room, pd.st, pd.br, pd.bal, pd.facts, pd.book, pd.lims, pd.sels, pd.kind, pd.res, pd.bkind, pd.purse] at z ⊢; simpa using z)
  · first
      | exact L.k26
      | (have z := L.k26; simp only [gm_setI, gm_setL, pd.putF, pd.putE, pd.putL, pd.putQ, up2, pd.nS, pd.nL, pd.nE, pd.room, pd.st, pd.br, pd.bal, pd.facts, pd.book, pd.lims, pd.sels, pd.kind, pd.res, pd.bkind, pd.purse] at z ⊢; simpa using z)
  · first
      | exact L.k28
      | (have z := L.k28; simp only [gm_setI, gm_setL, pd.putF, pd.putE, pd.putL, pd.putQ, up2, pd.nS, pd.nL, pd.nE, pd.room, pd.st, pd.br, pd.bal, pd.facts, pd.book, pd.lims, pd.sels, pd.kind, pd.res, pd.bkind, pd.purse] at z ⊢; simpa using z)
  · simp [gm_setI, gm_setL, pd.putF, pd.putE, pd.putL, pd.putQ, up2, pd.nS, pd.nL, pd.nE, pd.room, pd.st, pd.br, pd.bal, pd.facts, pd.book, pd.lims, pd.sels, pd.kind, pd.res, pd.bkind, pd.purse]
  · first
      | exact L.k30
      | (have z := L.k30; simp only [gm_setI, gm_setL, pd.putF, pd.putE, pd.putL, pd.putQ, up2, pd.nS, pd.nL, pd.nE, pd.room, pd.st, pd.br, pd.bal, pd.facts, pd.book, pd.lims, pd.sels, pd.kind, pd.res, pd.bkind, pd.purse] at z ⊢; simpa using z)
  · first
      | exact L.k31
      | (have z := L.k31; simp only [gm_setI, gm_setL, pd.putF, pd.putE, pd.putL, pd.putQ, up2, pd.nS, pd.nL, pd.nE, pd.room, pd.st, pd.br, pd.bal, pd.facts, pd.book, pd.lims, pd.sels, pd.kind, pd.res, pd.bkind, pd.purse] at z ⊢; simpa using z)
theorem rv_9 {s : mt_S} {D : pd} {e l : Nat} (h : rv s D e) (hl : l < D.nl) {v : Int32} (hv : v ≠ 0) (hs : D.facts l 2 ≠ 0) : rv (gm_setI s 9 l v) (D.putF l 2 v.toInt64) e := by
  have L := h.lot l hl
  refine rv_so h (so_I so_refl (by decide : lsc 9)) (do_F do_refl) ⟨?_, ?_, ?_, ?_, ?_, ?_, ?_, ?_, ?_, ?_, ?_, ?_, ?_, ?_, ?_, ?_, ?_, ?_, ?_, ?_, ?_⟩
  · first
      | exact L.bd
      | (have z := L.bd; simp only [gm_setI, gm_setL, pd.putF, pd.putE, pd.putL, pd.putQ, up2, pd.nS, pd.nL, pd.nE, pd.room, pd.st, pd.br, pd.bal, pd.facts, pd.book, pd.lims, pd.sels, pd.kind, pd.res, pd.bkind, pd.purse] at z ⊢; simpa using z)
  · first
      | exact L.k5
      | (have z := L.k5; simp only [gm_setI, gm_setL, pd.putF, pd.putE, pd.putL, pd.putQ, up2, pd.nS, pd.nL, pd.nE, pd.room, pd.st, pd.br, pd.bal, pd.facts, pd.book, pd.lims, pd.sels, pd.kind, pd.res, pd.bkind, pd.purse] at z ⊢; simpa using z)
  · first
      | exact L.k6
      | (have z := L.k6; simp only [gm_setI, gm_setL, pd.putF, pd.putE, pd.putL, pd.putQ, up2, pd.nS, pd.nL, pd.nE, pd.room, pd.st, pd.br, pd.bal, pd.facts, pd.book, pd.lims, pd.sels, pd.kind, pd.res, pd.bkind, pd.purse] at z ⊢; simpa using z)
  · first
      | exact L.k7
      | (have z := L.k7; simp only [gm_setI, gm_setL, pd.putF, pd.putE, pd.putL, pd.putQ, up2, pd.nS, pd.nL, pd.nE, pd.room, pd.st, pd.br, pd.bal, pd.facts, pd.book, pd.lims, pd.sels, pd.kind, pd.res, pd.bkind, pd.purse] at z ⊢; simpa using z)
  · first
      | exact L.k8
      | (have z := L.k8; simp only [gm_setI, gm_setL, pd.putF, pd.putE, pd.putL, pd.putQ, up2, pd.nS, pd.nL, pd.nE, pd.room, pd.st, pd.br, pd.bal, pd.facts, pd.book, pd.lims, pd.sels, pd.kind, pd.res, pd.bkind, pd.purse] at z ⊢; simpa using z)
  · simp [gm_setI, gm_setL, pd.putF, pd.putE, pd.putL, pd.putQ, up2, pd.nS, pd.nL, pd.nE, pd.room, pd.st, pd.br, pd.bal, pd.facts, pd.book, pd.lims, pd.sels, pd.kind, pd.res, pd.bkind, pd.purse]
  · first
      | exact L.k10
      | (have z := L.k10; simp only [gm_setI, gm_setL, pd.putF, pd.putE, pd.putL, pd.putQ, up2, pd.nS, pd.nL, pd.nE, pd.room, pd.st, pd.br, pd.bal, pd.facts, pd.book, pd.lims, pd.sels, pd.kind, pd.res, pd.bkind, pd.purse] at z ⊢; simpa using z)
  · first
      | exact L.k12
      | (have z := L.k12; simp only [gm_setI, gm_setL, pd.putF, pd.putE, pd.putL, pd.putQ, up2, pd.nS, pd.nL, pd.nE, pd.room, pd.st, pd.br, pd.bal, pd.facts, pd.book, pd.lims, pd.sels, pd.kind, pd.res, pd.bkind, pd.purse] at z ⊢; simpa using z)
  · first
      | exact L.k11
      | (have z := L.k11; simp only [gm_setI, gm_setL, pd.putF, pd.putE, pd.putL, pd.putQ, up2, pd.nS, pd.nL, pd.nE, pd.room, pd.st, pd.br, pd.bal, pd.facts, pd.book, pd.lims, pd.sels, pd.kind, pd.res, pd.bkind, pd.purse] at z ⊢; simpa using z)
  · have z := L.k13
    rw [if_neg hs] at z
    have hv2 : v.toInt64 ≠ 0 := fun q => hv (cl_inj.mp (q.trans cl_0))
    simp only [gm_setI, gm_setL, pd.putF, pd.putE, pd.putL, pd.putQ, up2, pd.nS, pd.nL, pd.nE, pd.room, pd.st, pd.br, pd.bal, pd.facts, pd.book, pd.lims, pd.sels, pd.kind, pd.res, pd.bkind, pd.purse] at z ⊢
    simp [hv2, z]
  · exact L.ch
  · first
      | exact L.k19
      | (have z := L.k19; simp only [gm_setI, gm_setL, pd.putF, pd.putE, pd.putL, pd.putQ, up2, pd.nS, pd.nL, pd.nE, pd.room, pd.st, pd.br, pd.bal, pd.facts, pd.book, pd.lims, pd.sels, pd.kind, pd.res, pd.bkind, pd.purse] at z ⊢; simpa using z)
  · first
      | exact L.lim
      | (have z := L.lim; simp only [gm_setI, gm_setL, pd.putF, pd.putE, pd.putL, pd.putQ, up2, pd.nS, pd.nL, pd.nE, pd.room, pd.st, pd.br, pd.bal, pd.facts, pd.book, pd.lims, pd.sels, pd.kind, pd.res, pd.bkind, pd.purse] at z ⊢; simpa using z)
  · first
      | exact L.k23
      | (have z := L.k23; simp only [gm_setI, gm_setL, pd.putF, pd.putE, pd.putL, pd.putQ, up2, pd.nS, pd.nL, pd.nE, pd.room, pd.st, pd.br, pd.bal, pd.facts, pd.book, pd.lims, pd.sels, pd.kind, pd.res, pd.bkind, pd.purse] at z ⊢; simpa using z)
  · first
      | exact L.k24
      | (have z := L.k24; simp only [gm_setI, gm_setL, pd.putF, pd.putE, pd.putL, pd.putQ, up2, pd.nS, pd.nL, pd.nE, pd.room, pd.st, pd.br, pd.bal, pd.facts, pd.book, pd.lims, pd.sels, pd.kind, pd.res, pd.bkind, pd.purse] at z ⊢; simpa using z)
  · first
      | exact L.k25
      | (have z := L.k25; simp only [gm_setI, gm_setL, pd.putF, pd.putE, pd.putL, pd.putQ, up2, pd.nS, pd.nL, pd.nE, pd.room, pd.st, pd.br, pd.bal, pd.facts, pd.book, pd.lims, pd.sels, pd.kind, pd.res, pd.bkind, pd.purse] at z ⊢; simpa using z)
  · first
      | exact L.k26
      | (have z := L.k26; simp only [gm_setI, gm_setL, pd.putF, pd.putE, pd.putL, pd.putQ, up2, pd.nS, pd.nL, pd.nE, pd.room, pd.st, pd.br, pd.bal, pd.facts, pd.book, pd.lims, pd.sels, pd.kind, pd.res, pd.bkind, pd.purse] at z ⊢; simpa using z)
  · first
      | exact L.k28
      | (have z := L.k28; simp only [gm_setI, gm_setL, pd.putF, pd.putE, pd.putL, pd.putQ, up2, pd.nS, pd.nL, pd.nE, pd.room, pd.st, pd.br, pd.bal, pd.facts, pd.book, pd.lims, pd.sels, pd.kind, pd.res, pd.bkind, pd.purse] at z ⊢; simpa using z)
  · first
      | exact L.k29
      | (have z := L.k29; simp only [gm_setI, gm_setL, pd.putF, pd.putE, pd.putL, pd.putQ, up2, pd.nS, pd.nL, pd.nE, pd.room, pd.st, pd.br, pd.bal, pd.facts, pd.book, pd.lims, pd.sels, pd.kind, pd.res, pd.bkind, pd.purse] at z ⊢; simpa using z)
  · first
      | exact L.k30
      | (have z := L.k30; simp only [gm_setI, gm_setL, pd.putF, pd.putE, pd.putL, pd.putQ, up2, pd.nS, pd.nL, pd.nE, pd.room, pd.st, pd.br, pd.bal, pd.facts, pd.book, pd.lims, pd.sels, pd.kind, pd.res, pd.bkind, pd.purse] at z ⊢; simpa using z)
  · first
      | exact L.k31
      | (have z := L.k31; simp only [gm_setI, gm_setL, pd.putF, pd.putE, pd.putL, pd.putQ, up2, pd.nS, pd.nL, pd.nE, pd.room, pd.st, pd.br, pd.bal, pd.facts, pd.book, pd.lims, pd.sels, pd.kind, pd.res, pd.bkind, pd.purse] at z ⊢; simpa using z)
theorem rv_call {s : mt_S} {D : pd} {e l : Nat} (h : rv s D e) (hl : l < D.nl) (hs : D.nE l = 0) : rv (gm_setI (gm_setI s 9 l 1) 13 l 0) (D.putF l 2 1) e := by
  have L := h.lot l hl
  refine rv_so h (so_I (so_I so_refl (by decide : lsc 9)) (by decide : lsc 13)) (do_F do_refl) ⟨?_, ?_, ?_, ?_, ?_, ?_, ?_, ?_, ?_, ?_, ?_, ?_, ?_, ?_, ?_, ?_, ?_, ?_, ?_, ?_, ?_⟩
  · first
      | exact L.bd
      | (have z := L.bd; simp only [gm_setI, gm_setL, pd.putF, pd.putE, pd.putL, pd.putQ, up2, pd.nS, pd.nL, pd.nE, pd.room, pd.st, pd.br, pd.bal, pd.facts, pd.book, pd.lims, pd.sels, pd.kind, pd.res, pd.bkind, pd.purse] at z ⊢; simpa using z)
  · first
      | exact L.k5
      | (have z := L.k5; simp only [gm_setI, gm_setL, pd.putF, pd.putE, pd.putL, pd.putQ, up2, pd.nS, pd.nL, pd.nE, pd.room, pd.st, pd.br, pd.bal, pd.facts, pd.book, pd.lims, pd.sels, pd.kind, pd.res, pd.bkind, pd.purse] at z ⊢; simpa using z)
  · first
      | exact L.k6
      | (have z := L.k6; simp only [gm_setI, gm_setL, pd.putF, pd.putE, pd.putL, pd.putQ, up2, pd.nS, pd.nL, pd.nE, pd.room, pd.st, pd.br, pd.bal, pd.facts, pd.book, pd.lims, pd.sels, pd.kind, pd.res, pd.bkind, pd.purse] at z ⊢; simpa using z)
  · first
      | exact L.k7
      | (have z := L.k7; simp only [gm_setI, gm_setL, pd.putF, pd.putE, pd.putL, pd.putQ, up2, pd.nS, pd.nL, pd.nE, pd.room, pd.st, pd.br, pd.bal, pd.facts, pd.book, pd.lims, pd.sels, pd.kind, pd.res, pd.bkind, pd.purse] at z ⊢; simpa using z)
  · first
      | exact L.k8
      | (have z := L.k8; simp only [gm_setI, gm_setL, pd.putF, pd.putE, pd.putL, pd.putQ, up2, pd.nS, pd.nL, pd.nE, pd.room, pd.st, pd.br, pd.bal, pd.facts, pd.book, pd.lims, pd.sels, pd.kind, pd.res, pd.bkind, pd.purse] at z ⊢; simpa using z)
  · simp [gm_setI, gm_setL, pd.putF, pd.putE, pd.putL, pd.putQ, up2, pd.nS, pd.nL, pd.nE, pd.room, pd.st, pd.br, pd.bal, pd.facts, pd.book, pd.lims, pd.sels, pd.kind, pd.res, pd.bkind, pd.purse]
  · first
      | exact L.k10
      | (have z := L.k10; simp only [gm_setI, gm_setL, pd.putF, pd.putE, pd.putL, pd.putQ, up2, pd.nS, pd.nL, pd.nE, pd.room, pd.st, pd.br, pd.bal, pd.facts, pd.book, pd.lims, pd.sels, pd.kind, pd.res, pd.bkind, pd.purse] at z ⊢; simpa using z)
  · first
      | exact L.k12
      | (have z := L.k12; simp only [gm_setI, gm_setL, pd.putF, pd.putE, pd.putL, pd.putQ, up2, pd.nS, pd.nL, pd.nE, pd.room, pd.st, pd.br, pd.bal, pd.facts, pd.book, pd.lims, pd.sels, pd.kind, pd.res, pd.bkind, pd.purse] at z ⊢; simpa using z)
  · first
      | exact L.k11
      | (have z := L.k11; simp only [gm_setI, gm_setL, pd.putF, pd.putE, pd.putL, pd.putQ, up2, pd.nS, pd.nL, pd.nE, pd.room, pd.st, pd.br, pd.bal, pd.facts, pd.book, pd.lims, pd.sels, pd.kind, pd.res, pd.bkind, pd.purse] at z ⊢; simpa using z)
  · simp only [gm_setI, gm_setL, pd.putF, pd.putE, pd.putL, pd.putQ, up2, pd.nS, pd.nL, pd.nE, pd.room, pd.st, pd.br, pd.bal, pd.facts, pd.book, pd.lims, pd.sels, pd.kind, pd.res, pd.bkind, pd.purse] at hs ⊢
    simp [hs]
    rfl
  · exact L.ch
  · first
      | exact L.k19
      | (have z := L.k19; simp only [gm_setI, gm_setL, pd.putF, pd.putE, pd.putL, pd.putQ, up2, pd.nS, pd.nL, pd.nE, pd.room, pd.st, pd.br, pd.bal, pd.facts, pd.book, pd.lims, pd.sels, pd.kind, pd.res, pd.bkind, pd.purse] at z ⊢; simpa using z)
  · first
      | exact L.lim
      | (have z := L.lim; simp only [gm_setI, gm_setL, pd.putF, pd.putE, pd.putL, pd.putQ, up2, pd.nS, pd.nL, pd.nE, pd.room, pd.st, pd.br, pd.bal, pd.facts, pd.book, pd.lims, pd.sels, pd.kind, pd.res, pd.bkind, pd.purse] at z ⊢; simpa using z)
  · first
      | exact L.k23
      | (have z := L.k23; simp only [gm_setI, gm_setL, pd.putF, pd.putE, pd.putL, pd.putQ, up2, pd.nS, pd.nL, pd.nE, pd.room, pd.st, pd.br, pd.bal, pd.facts, pd.book, pd.lims, pd.sels, pd.kind, pd.res, pd.bkind, pd.purse] at z ⊢; simpa using z)
  · first
      | exact L.k24
      | (have z := L.k24; simp only [gm_setI, gm_setL, pd.putF, pd.putE, pd.putL, pd.putQ, up2, pd.nS, pd.nL, pd.nE, pd.room, pd.st, pd.br, pd.bal, pd.facts, pd.book, pd.lims, pd.sels, pd.kind, pd.res, pd.bkind, pd.purse] at z ⊢; simpa using z)
  · first
      | exact L.k25
      | (have z := L.k25; simp only [gm_setI, gm_setL, pd.putF, pd.putE, pd.putL, pd.putQ, up2, pd.nS, pd.nL, pd.nE, pd.room, pd.st, pd.br, pd.bal, pd.facts, pd.book, pd.lims, pd.sels, pd.kind, pd.res, pd.bkind, pd.purse] at z ⊢; simpa using z)
  · first
      | exact L.k26
      | (have z := L.k26; simp only [gm_setI, gm_setL, pd.putF, pd.putE, pd.putL, pd.putQ, up2, pd.nS, pd.nL, pd.nE, pd.room, pd.st, pd.br, pd.bal, pd.facts, pd.book, pd.lims, pd.sels, pd.kind, pd.res, pd.bkind, pd.purse] at z ⊢; simpa using z)
  · first
      | exact L.k28
      | (have z := L.k28; simp only [gm_setI, gm_setL, pd.putF, pd.putE, pd.putL, pd.putQ, up2, pd.nS, pd.nL, pd.nE, pd.room, pd.st, pd.br, pd.bal, pd.facts, pd.book, pd.lims, pd.sels, pd.kind, pd.res, pd.bkind, pd.purse] at z ⊢; simpa using z)
  · first
      | exact L.k29
      | (have z := L.k29; simp only [gm_setI, gm_setL, pd.putF, pd.putE, pd.putL, pd.putQ, up2, pd.nS, pd.nL, pd.nE, pd.room, pd.st, pd.br, pd.bal, pd.facts, pd.book, pd.lims, pd.sels, pd.kind, pd.res, pd.bkind, pd.purse] at z ⊢; simpa using z)
  · first
      | exact L.k30
      | (have z := L.k30; simp only [gm_setI, gm_setL, pd.putF, pd.putE, pd.putL, pd.putQ, up2, pd.nS, pd.nL, pd.nE, pd.room, pd.st, pd.br, pd.bal, pd.facts, pd.book, pd.lims, pd.sels, pd.kind, pd.res, pd.bkind, pd.purse] at z ⊢; simpa using z)
  · first
      | exact L.k31
      | (have z := L.k31; simp only [gm_setI, gm_setL, pd.putF, pd.putE, pd.putL, pd.putQ, up2, pd.nS, pd.nL, pd.nE, pd.room, pd.st, pd.br, pd.bal, pd.facts, pd.book, pd.lims, pd.sels, pd.kind, pd.res, pd.bkind, pd.purse] at z ⊢; simpa using z)
theorem rv_bid {s : mt_S} {D : pd} {e l : Nat} (h : rv s D e) (hl : l < D.nl) {v : Int32} {x : Int64} : rv (gm_setL (gm_setI s 23 l v) 24 l x) ((D.putF l 7 x).putF l 8 v.toInt64) e := by
  have L := h.lot l hl
  refine rv_so h (so_L (so_I so_refl (by decide : lsc 23)) (by decide : lsc 24)) (do_F (do_F do_refl)) ⟨?_, ?_, ?_, ?_, ?_, ?_, ?_, ?_, ?_, ?_, ?_, ?_, ?_, ?_, ?_, ?_, ?_, ?_, ?_, ?_, ?_⟩
  · first
      | exact L.bd
      | (have z := L.bd; simp only [gm_setI, gm_setL, pd.putF, pd.putE, pd.putL, pd.putQ, up2, pd.nS, pd.nL, pd.nE, pd.room, pd.st, pd.br, pd.bal, pd.facts, pd.book, pd.lims, pd.sels, pd.kind, pd.res, pd.bkind, pd.purse] at z ⊢; simpa using z)
  · first
      | exact L.k5
      | (have z := L.k5; simp only [gm_setI, gm_setL, pd.putF, pd.putE, pd.putL, pd.putQ, up2, pd.nS, pd.nL, pd.nE, pd.room, pd.st, pd.br, pd.bal, pd.facts, pd.book, pd.lims, pd.sels, pd.kind, pd.res, pd.bkind, pd.purse] at z ⊢; simpa using z)
  · first
      | exact L.k6
      | (have z := L.k6; simp only [gm_setI, gm_setL, pd.putF, pd.putE, pd.putL, pd.putQ, up2, pd.nS, pd.nL, pd.nE, pd.room, pd.st, pd.br, pd.bal, pd.facts, pd.book, pd.lims, pd.sels, pd.kind, pd.res, pd.bkind, pd.purse] at z ⊢; simpa using z)
  · first
      | exact L.k7
      | (have z := L.k7; simp only [gm_setI, gm_setL, pd.putF, pd.putE, pd.putL, pd.putQ, up2, pd.nS, pd.nL, pd.nE, pd.room, pd.st, pd.br, pd.bal, pd.facts, pd.book, pd.lims, pd.sels, pd.kind, pd.res, pd.bkind, pd.purse] at z ⊢; simpa using z)
  · first
      | exact L.k8
      | (have z := L.k8; simp only [gm_setI, gm_setL, pd.putF, pd.putE, pd.putL, pd.putQ, up2, pd.nS, pd.nL, pd.nE, pd.room, pd.st, pd.br, pd.bal, pd.facts, pd.book, pd.lims, pd.sels, pd.kind, pd.res, pd.bkind, pd.purse] at z ⊢; simpa using z)
  · first
      | exact L.k9
      | (have z := L.k9; simp only [gm_setI, gm_setL, pd.putF, pd.putE, pd.putL, pd.putQ, up2, pd.nS, pd.nL, pd.nE, pd.room, pd.st, pd.br, pd.bal, pd.facts, pd.book, pd.lims, pd.sels, pd.kind, pd.res, pd.bkind, pd.purse] at z ⊢; simpa using z)
  · first
      | exact L.k10
      | (have z := L.k10; simp only [gm_setI, gm_setL, pd.putF, pd.putE, pd.putL, pd.putQ, up2, pd.nS, pd.nL, pd.nE, pd.room, pd.st, pd.br, pd.bal, pd.facts, pd.book, pd.lims, pd.sels, pd.kind, pd.res, pd.bkind, pd.purse] at z ⊢; simpa using z)
  · first
      | exact L.k12
      | (have z := L.k12; simp only [gm_setI, gm_setL, pd.putF, pd.putE, pd.putL, pd.putQ, up2, pd.nS, pd.nL, pd.nE, pd.room, pd.st, pd.br, pd.bal, pd.facts, pd.book, pd.lims, pd.sels, pd.kind, pd.res, pd.bkind, pd.purse] at z ⊢; simpa using z)
  · first
      | exact L.k11
      | (have z := L.k11; simp only [gm_setI, gm_setL, pd.putF, pd.putE, pd.putL, pd.putQ, up2, pd.nS, pd.nL, pd.nE, pd.room, pd.st, pd.br, pd.bal, pd.facts, pd.book, pd.lims, pd.sels, pd.kind, pd.res, pd.bkind, pd.purse] at z ⊢; simpa using z)
  · first
      | exact L.k13
      | (have z := L.k13; simp only [gm_setI, gm_setL, pd.putF, pd.putE, pd.putL, pd.putQ, up2, pd.nS, pd.nL, pd.nE, pd.room, pd.st, pd.br, pd.bal, pd.facts, pd.book, pd.lims, pd.sels, pd.kind, pd.res, pd.bkind, pd.purse] at z ⊢; simpa using z)
  · exact L.ch
  · first
      | exact L.k19
      | (have z := L.k19; simp only [gm_setI, gm_setL, pd.putF, pd.putE, pd.putL, pd.putQ, up2, pd.nS, pd.nL, pd.nE, pd.room, pd.st, pd.br, pd.bal, pd.facts, pd.book, pd.lims, pd.sels, pd.kind, pd.res, pd.bkind, pd.purse] at z ⊢; simpa using z)
  · first
      | exact L.lim
      | (have z := L.lim; simp only [gm_setI, gm_setL, pd.putF, pd.putE, pd.putL, pd.putQ, up2, pd.nS, pd.nL, pd.nE, pd.room, pd.st, pd.br, pd.bal, pd.facts, pd.book, pd.lims, pd.sels, pd.kind, pd.res, pd.bkind, pd.purse] at z ⊢; simpa using z)
  · simp [gm_setI, gm_setL, pd.putF, pd.putE, pd.putL, pd.putQ, up2, pd.nS, pd.nL, pd.nE, pd.room, pd.st, pd.br, pd.bal, pd.facts, pd.book, pd.lims, pd.sels, pd.kind, pd.res, pd.bkind, pd.purse]
  · simp [gm_setI, gm_setL, pd.putF, pd.putE, pd.putL, pd.putQ, up2, pd.nS, pd.nL, pd.nE, pd.room, pd.st, pd.br, pd.bal, pd.facts, pd.book, pd.lims, pd.sels, pd.kind, pd.res, pd.bkind, pd.purse]
  · first
      | exact L.k25
      | (have z := L.k25; simp only [gm_setI, gm_setL, pd.putF, pd.putE, pd.putL, pd.putQ, up2, pd.nS, pd.nL, pd.nE, pd.room, pd.st, pd.br, pd.bal, pd.facts, pd.book, pd.lims, pd.sels, pd.kind, pd.res, pd.bkind, pd.purse] at z ⊢; simpa using z)
  · first
      | exact L.k26
      | (have z := L.k26; simp only [gm_setI, gm_setL, pd.putF, pd.putE, pd.putL, pd.putQ, up2, pd.nS, pd.nL, pd.nE, pd.room, pd.st, pd.br, pd.bal, pd.facts, pd.book, pd.lims, pd.sels, pd.kind, pd.res, pd.bkind, pd.purse] at z ⊢; simpa using z)
  · first
      | exact L.k28
      | (have z := L.k28; simp only [gm_setI, gm_setL, pd.putF, pd.putE, pd.putL, pd.putQ, up2, pd.nS, pd.nL, pd.nE, pd.room, pd.st, pd.br, pd.bal, pd.facts, pd.book, pd.lims, pd.sels, pd.kind, pd.res, pd.bkind, pd.purse] at z ⊢; simpa using z)
  · first
      | exact L.k29
      | (have z := L.k29; simp only [gm_setI, gm_setL, pd.putF, pd.putE, pd.putL, pd.putQ, up2, pd.nS, pd.nL, pd.nE, pd.room, pd.st, pd.br, pd.bal, pd.facts, pd.book, pd.lims, pd.sels, pd.kind, pd.res, pd.bkind, pd.purse] at z ⊢; simpa using z)
  · first
      | exact L.k30
      | (have z := L.k30; simp only [gm_setI, gm_setL, pd.putF, pd.putE, pd.putL, pd.putQ, up2, pd.nS, pd.nL, pd.nE, pd.room, pd.st, pd.br, pd.bal, pd.facts, pd.book, pd.lims, pd.sels, pd.kind, pd.res, pd.bkind, pd.purse] at z ⊢; simpa using z)
  · first
      | exact L.k31
      | (have z := L.k31; simp only [gm_setI, gm_setL, pd.putF, pd.putE, pd.putL, pd.putQ, up2, pd.nS, pd.nL, pd.nE, pd.room, pd.st, pd.br, pd.bal, pd.facts, pd.book, pd.lims, pd.sels, pd.kind, pd.res, pd.bkind, pd.purse] at z ⊢; simpa using z)
theorem rv_open {s : mt_S} {D : pd} {e l : Nat} (h : rv s D e) (hl : l < D.nl) {v : Int32} {x : Int64} : rv (gm_setL (gm_setI (gm_setI s 25 l 1) 26 l v) 27 l x) (((D.putF l 4 1).putF l 5 v.toInt64).putF l 6 x) e := by
  have L := h.lot l hl
  refine rv_so h (so_L (so_I (so_I so_refl (by decide : lsc 25)) (by decide : lsc 26)) (by decide : lsc 27)) (do_F (do_F (do_F do_refl))) ⟨?_, ?_, ?_, ?_, ?_, ?_, ?_, ?_, ?_, ?_, ?_, ?_, ?_, ?_, ?_, ?_, ?_, ?_, ?_, ?_, ?_⟩
  · first
      | exact L.bd
      | (have z := L.bd; simp only [gm_setI, gm_setL, pd.putF, pd.putE, pd.putL, pd.putQ, up2, pd.nS, pd.nL, pd.nE, pd.room, pd.st, pd.br, pd.bal, pd.facts, pd.book, pd.lims, pd.sels, pd.kind, pd.res, pd.bkind, pd.purse] at z ⊢; simpa using z)
  · first
      | exact L.k5
      | (have z := L.k5; simp only [gm_setI, gm_setL, pd.putF, pd.putE, pd.putL, pd.putQ, up2, pd.nS, pd.nL, pd.nE, pd.room, pd.st, pd.br, pd.bal, pd.facts, pd.book, pd.lims, pd.sels, pd.kind, pd.res, pd.bkind, pd.purse] at z ⊢; simpa using z)
  · first
      | exact L.k6
      | (have z := L.k6; simp only [gm_setI, gm_setL, pd.putF, pd.putE, pd.putL, pd.putQ, up2, pd.nS, pd.nL, pd.nE, pd.room, pd.st, pd.br, pd.bal, pd.facts, pd.book, pd.lims, pd.sels, pd.kind, pd.res, pd.bkind, pd.purse] at z ⊢; simpa using z)
  · first
      | exact L.k7
      | (have z := L.k7; simp only [gm_setI, gm_setL, pd.putF, pd.putE, pd.putL, pd.putQ, up2, pd.nS, pd.nL, pd.nE, pd.room, pd.st, pd.br, pd.bal, pd.facts, pd.book, pd.lims, pd.sels, pd.kind, pd.res, pd.bkind, pd.purse] at z ⊢; simpa using z)
  · first
      | exact L.k8
      | (have z := L.k8; simp only [gm_setI, gm_setL, pd.putF, pd.putE, pd.putL, pd.putQ, up2, pd.nS, pd.nL, pd.nE, pd.room, pd.st, pd.br, pd.bal, pd.facts, pd.book, pd.lims, pd.sels, pd.kind, pd.res, pd.bkind, pd.purse] at z ⊢; simpa using z)
  · first
      | exact L.k9
      | (have z := L.k9; simp only [gm_setI, gm_setL, pd.putF, pd.putE, pd.putL, pd.putQ, up2, pd.nS, pd.nL, pd.nE, pd.room, pd.st, pd.br, pd.bal, pd.facts, pd.book, pd.lims, pd.sels, pd.kind, pd.res, pd.bkind, pd.purse] at z ⊢; simpa using z)
  · first
      | exact L.k10
      | (have z := L.k10; simp only [gm_setI, gm_setL, pd.putF, pd.putE, pd.putL, pd.putQ, up2, pd.nS, pd.nL, pd.nE, pd.room, pd.st, pd.br, pd.bal, pd.facts, pd.book, pd.lims, pd.sels, pd.kind, pd.res, pd.bkind, pd.purse] at z ⊢; simpa using z)
  · first
      | exact L.k12
      | (have z := L.k12; simp only [gm_setI, gm_setL, pd.putF, pd.putE, pd.putL, pd.putQ, up2, pd.nS, pd.nL, pd.nE, pd.room, pd.st, pd.br, pd.bal, pd.facts, pd.book, pd.lims, pd.sels, pd.kind, pd.res, pd.bkind, pd.purse] at z ⊢; simpa using z)
  · first
      | exact L.k11
      | (have z := L.k11; simp only [gm_setI, gm_setL, pd.putF, pd.putE, pd.putL, pd.putQ, up2, pd.nS, pd.nL, pd.nE, pd.room, pd.st, pd.br, pd.bal, pd.facts, pd.book, pd.lims, pd.sels, pd.kind, pd.res, pd.bkind, pd.purse] at z ⊢; simpa using z)
  · first
      | exact L.k13
      | (have z := L.k13; simp only [gm_setI, gm_setL, pd.putF, pd.putE, pd.putL, pd.putQ, up2, pd.nS, pd.nL, pd.nE, pd.room, pd.st, pd.br, pd.bal, pd.facts, pd.book, pd.lims, pd.sels, pd.kind, pd.res, pd.bkind, pd.purse] at z ⊢; simpa using z)
  · exact L.ch
  · first
      | exact L.k19
      | (have z := L.k19; simp only [gm_setI, gm_setL, pd.putF, pd.putE, pd.putL, pd.putQ, up2, pd.nS, pd.nL, pd.nE, pd.room, pd.st, pd.br, pd.bal, pd.facts, pd.book, pd.lims, pd.sels, pd.kind, pd.res, pd.bkind, pd.purse] at z ⊢; simpa using z)
  · first
      | exact L.lim
      | (have z := L.lim; simp only [gm_setI, gm_setL, pd.putF, pd.putE, pd.putL, pd.putQ, up2, pd.nS, pd.nL, pd.nE, pd.room, pd.st, pd.br, pd.bal, pd.facts, pd.book, pd.lims, pd.sels, pd.kind, pd.res, pd.bkind, pd.purse] at z ⊢; simpa using z)
  · first
      | exact L.k23
      | (have z := L.k23; simp only [gm_setI, gm_setL, pd.putF, pd.putE, pd.putL, pd.putQ, up2, pd.nS, pd.nL, pd.nE, pd.room, pd.st, pd.br, pd.bal, pd.facts, pd.book, pd.lims, pd.sels, pd.kind, pd.res, pd.bkind, pd.purse] at z ⊢; simpa using z)
  · first
      | exact L.k24
      | (have z := L.k24; simp only [gm_setI, gm_setL, pd.putF, pd.putE, pd.putL, pd.putQ, up2, pd.nS, pd.nL, pd.nE, pd.room, pd.st, pd.br, pd.bal, pd.facts, pd.book, pd.lims, pd.sels, pd.kind, pd.res, pd.bkind, pd.purse] at z ⊢; simpa using z)
  · simp [gm_setI, gm_setL, pd.putF, pd.putE, pd.putL, pd.putQ, up2, pd.nS, pd.nL, pd.nE, pd.room, pd.st, pd.br, pd.bal, pd.facts, pd.book, pd.lims, pd.sels, pd.kind, pd.res, pd.bkind, pd.purse]
  · simp [gm_setI, gm_setL, pd.putF, pd.putE, pd.putL, pd.putQ, up2, pd.nS, pd.nL, pd.nE, pd.room, pd.st, pd.br, pd.bal, pd.facts, pd.book, pd.lims, pd.sels, pd.kind, pd.res, pd.bkind, pd.purse]
  · first
      | exact L.k28
      | (have z := L.k28; simp only [gm_setI, gm_setL, pd.putF, pd.putE, pd.putL, pd.putQ, up2, pd.nS, pd.nL, pd.nE, pd.room, pd.st, pd.br, pd.bal, pd.facts, pd.book, pd.lims, pd.sels, pd.kind, pd.res, pd.bkind, pd.purse] at z ⊢; simpa using z)
  · first
      | exact L.k29
      | (have z := L.k29; simp only [gm_setI, gm_setL, pd.putF, pd.putE, pd.putL, pd.putQ, up2, pd.nS, pd.nL, pd.nE, pd.room, pd.st, pd.br, pd.bal, pd.facts, pd.book, pd.lims, pd.sels, pd.kind, pd.res, pd.bkind, pd.purse] at z ⊢; simpa using z)
  · first
      | exact L.k30
      | (have z := L.k30; simp only [gm_setI, gm_setL, pd.putF, pd.putE, pd.putL, pd.putQ, up2, pd.nS, pd.nL, pd.nE, pd.room, pd.st, pd.br, pd.bal, pd.facts, pd.book, pd.lims, pd.sels, pd.kind, pd.res, pd.bkind, pd.purse] at z ⊢; simpa using z)
  · first
      | exact L.k31
      | (have z := L.k31; simp only [gm_setI, gm_setL, pd.putF, pd.putE, pd.putL, pd.putQ, up2, pd.nS, pd.nL, pd.nE, pd.room, pd.st, pd.br, pd.bal, pd.facts, pd.book, pd.lims, pd.sels, pd.kind, pd.res, pd.bkind, pd.purse] at z ⊢; simpa using z)
theorem rv_30 {s : mt_S} {D : pd} {e l : Nat} (h : rv s D e) (hl : l < D.nl) {v : Int32} (hv : v ≠ nI l) (hl2 : l < 400) : rv (gm_setI s 30 l v) (D.putF l 11 v.toInt64) e := by
  have L := h.lot l hl
  refine rv_so h (so_I so_refl (by decide : lsc 30)) (do_F do_refl) ⟨?_, ?_, ?_, ?_, ?_, ?_, ?_, ?_, ?_, ?_, ?_, ?_, ?_, ?_, ?_, ?_, ?_, ?_, ?_, ?_, ?_⟩
  · first
      | exact L.bd
      | (have z := L.bd; simp only [gm_setI, gm_setL, pd.putF, pd.putE, pd.putL, pd.putQ, up2, pd.nS, pd.nL, pd.nE, pd.room, pd.st, pd.br, pd.bal, pd.facts, pd.book, pd.lims, pd.sels, pd.kind, pd.res, pd.bkind, pd.purse] at z ⊢; simpa using z)
  · first
      | exact L.k5
      | (have z := L.k5; simp only [gm_setI, gm_setL, pd.putF, pd.putE, pd.putL, pd.putQ, up2, pd.nS, pd.nL, pd.nE, pd.room, pd.st, pd.br, pd.bal, pd.facts, pd.book, pd.lims, pd.sels, pd.kind, pd.res, pd.bkind, pd.purse] at z ⊢; simpa using z)
  · first
      | exact L.k6
      | (have z := L.k6; simp only [gm_setI, gm_setL, pd.putF, pd.putE, pd.putL, pd.putQ, up2, pd.nS, pd.nL, pd.nE, pd.room, pd.st, pd.br, pd.bal, pd.facts, pd.book, pd.lims, pd.sels, pd.kind, pd.res, pd.bkind, pd.purse] at z ⊢; simpa using z)
  · first
      | exact L.k7
      | (have z := L.k7; simp only [gm_setI, gm_setL, pd.putF, pd.putE, pd.putL, pd.putQ, up2, pd.nS, pd.nL, pd.nE, pd.room, pd.st, pd.br, pd.bal, pd.facts, pd.book, pd.lims, pd.sels, pd.kind, pd.res, pd.bkind, pd.purse] at z ⊢; simpa using z)
  · first
      | exact L.k8
      | (have z := L.k8; simp only [gm_setI, gm_setL, pd.putF, pd.putE, pd.putL, pd.putQ, up2, pd.nS, pd.nL, pd.nE, pd.room, pd.st, pd.br, pd.bal, pd.facts, pd.book, pd.lims, pd.sels, pd.kind, pd.res, pd.bkind, pd.purse] at z ⊢; simpa using z)
  · first
      | exact L.k9
      | (have z := L.k9; simp only [gm_setI, gm_setL, pd.putF, pd.putE, pd.putL, pd.putQ, up2, pd.nS, pd.nL, pd.nE, pd.room, pd.st, pd.br, pd.bal, pd.facts, pd.book, pd.lims, pd.sels, pd.kind, pd.res, pd.bkind, pd.purse] at z ⊢; simpa using z)
  · first
      | exact L.k10
      | (have z := L.k10; simp only [gm_setI, gm_setL, pd.putF, pd.putE, pd.putL, pd.putQ, up2, pd.nS, pd.nL, pd.nE, pd.room, pd.st, pd.br, pd.bal, pd.facts, pd.book, pd.lims, pd.sels, pd.kind, pd.res, pd.bkind, pd.purse] at z ⊢; simpa using z)
  · first
      | exact L.k12
      | (have z := L.k12; simp only [gm_setI, gm_setL, pd.putF, pd.putE, pd.putL, pd.putQ, up2, pd.nS, pd.nL, pd.nE, pd.room, pd.st, pd.br, pd.bal, pd.facts, pd.book, pd.lims, pd.sels, pd.kind, pd.res, pd.bkind, pd.purse] at z ⊢; simpa using z)
  · first
      | exact L.k11
      | (have z := L.k11; simp only [gm_setI, gm_setL, pd.putF, pd.putE, pd.putL, pd.putQ, up2, pd.nS, pd.nL, pd.nE, pd.room, pd.st, pd.br, pd.bal, pd.facts, pd.book, pd.lims, pd.sels, pd.kind, pd.res, pd.bkind, pd.purse] at z ⊢; simpa using z)
  · first
      | exact L.k13
      | (have z := L.k13; simp only [gm_setI, gm_setL, pd.putF, pd.putE, pd.putL, pd.putQ, up2, pd.nS, pd.nL, pd.nE, pd.room, pd.st, pd.br, pd.bal, pd.facts, pd.book, pd.lims, pd.sels, pd.kind, pd.res, pd.bkind, pd.purse] at z ⊢; simpa using z)
  · exact L.ch
  · first
      | exact L.k19
      | (have z := L.k19; simp only [gm_setI, gm_setL, pd.putF, pd.putE, pd.putL, pd.putQ, up2, pd.nS, pd.nL, pd.nE, pd.room, pd.st, pd.br, pd.bal, pd.facts, pd.book, pd.lims, pd.sels, pd.kind, pd.res, pd.bkind, pd.purse] at z ⊢; simpa using z)
  · first
      | exact L.lim
      | (have z := L.lim; simp only [gm_setI, gm_setL, pd.putF, pd.putE, pd.putL, pd.putQ, up2, pd.nS, pd.nL, pd.nE, pd.room, pd.st, pd.br, pd.bal, pd.facts, pd.book, pd.lims, pd.sels, pd.kind, pd.res, pd.bkind, pd.purse] at z ⊢; simpa using z)
  · first
      | exact L.k23
      | (have z := L.k23; simp only [gm_setI, gm_setL, pd.putF, pd.putE, pd.putL, pd.putQ, up2, pd.nS, pd.nL, pd.nE, pd.room, pd.st, pd.br, pd.bal, pd.facts, pd.book, pd.lims, pd.sels, pd.kind, pd.res, pd.bkind, pd.purse] at z ⊢; simpa using z)
  · first
      | exact L.k24
      | (have z := L.k24; simp only [gm_setI, gm_setL, pd.putF, pd.putE, pd.putL, pd.putQ, up2, pd.nS, pd.nL, pd.nE, pd.room, pd.st, pd.br, pd.bal, pd.facts, pd.book, pd.lims, pd.sels, pd.kind, pd.res, pd.bkind, pd.purse] at z ⊢; simpa using z)
  · first
      | exact L.k25
      | (have z := L.k25; simp only [gm_setI, gm_setL, pd.putF, pd.putE, pd.putL, pd.putQ, up2, pd.nS, pd.nL, pd.nE, pd.room, pd.st, pd.br, pd.bal, pd.facts, pd.book, pd.lims, pd.sels, pd.kind, pd.res, pd.bkind, pd.purse] at z ⊢; simpa using z)
  · first
      | exact L.k26
      | (have z := L.k26; simp only [gm_setI, gm_setL, pd.putF, pd.putE, pd.putL, pd.putQ, up2, pd.nS, pd.nL, pd.nE, pd.room, pd.st, pd.br, pd.bal, pd.facts, pd.book, pd.lims, pd.sels, pd.kind, pd.res, pd.bkind, pd.purse] at z ⊢; simpa using z)
  · first
      | exact L.k28
      | (have z := L.k28; simp only [gm_setI, gm_setL, pd.putF, pd.putE, pd.putL, pd.putQ, up2, pd.nS, pd.nL, pd.nE, pd.room, pd.st, pd.br, pd.bal, pd.facts, pd.book, pd.lims, pd.sels, pd.kind, pd.res, pd.bkind, pd.purse] at z ⊢; simpa using z)
  · first
      | exact L.k29
      | (have z := L.k29; simp only [gm_setI, gm_setL, pd.putF, pd.putE, pd.putL, pd.putQ, up2, pd.nS, pd.nL, pd.nE, pd.room, pd.st, pd.br, pd.bal, pd.facts, pd.book, pd.lims, pd.sels, pd.kind, pd.res, pd.bkind, pd.purse] at z ⊢; simpa using z)
  · simp [gm_setI, gm_setL, pd.putF, pd.putE, pd.putL, pd.putQ, up2, pd.nS, pd.nL, pd.nE, pd.room, pd.st, pd.br, pd.bal, pd.facts, pd.book, pd.lims, pd.sels, pd.kind, pd.res, pd.bkind, pd.purse]
  · intro z
    exfalso
    simp only [gm_setI, gm_setL, pd.putF, pd.putE, pd.putL, pd.putQ, up2, pd.nS, pd.nL, pd.nE, pd.room, pd.st, pd.br, pd.bal, pd.facts, pd.book, pd.lims, pd.sels, pd.kind, pd.res, pd.bkind, pd.purse] at z
    simp only [and_self, if_true] at z
    rw [← cl_64 (by omega), cl_inj] at z
    exact hv z
theorem rl_f {s s' : mt_S} {D D' : pd} {e l : Nat} (L : rl s D e l) (h1 : ∀ k, k ≠ 30 → k ≠ 31 → k ≠ 32 → s'.1 k = s.1 k) (h2 : s'.2 = s.2) (d1 : D'.kind = D.kind) (d2 : D'.res = D.res) (d3 : D'.book = D.book) (d4 : D'.lims = D.lims) (d5 : D'.sels = D.sels) (hf : ∀ q, q < 11 → D'.facts l q = D.facts l q) (k30 : (s'.1 30 l).toInt64 = D'.facts l 11) (k31 : D'.facts l 11 = Int64.ofNat l → (s'.1 31 l).toInt64 = D'.facts l 12 ∧ (s'.1 32 l).toInt64 = D'.facts l 13) : rl s' D' e l := by
  have nE : D'.nE l = D.nE l := by unfold pd.nE; rw [d3]
  have nS : D'.nS l = D.nS l := by unfold pd.nS; rw [d5]
  have nL : D'.nL l = D.nL l := by unfold pd.nL; rw [d4]
  have q := fun k (a : k ≠ 30) (b : k ≠ 31) (c : k ≠ 32) => h1 k a b c
  refine ⟨by rw [nE, nS, nL]; exact L.bd, ?_, ?_, ?_, ?_, ?_, ?_, ?_, ?_, ?_, ?_, ?_, ?_, ?_, ?_, ?_, ?_, ?_, ?_, k30, k31⟩
  · rw [q 5 (by decide) (by decide) (by decide), d1]; exact L.k5
  · rw [h2, hf 0 (by decide)]; exact L.k6
  · rw [h2, d2]; exact L.k7
  · rw [q 8 (by decide) (by decide) (by decide), hf 1 (by decide)]; exact L.k8
  · rw [q 9 (by decide) (by decide) (by decide), hf 2 (by decide)]; exact L.k9
  · rw [h2, hf 3 (by decide)]; exact L.k10
  · rw [q 12 (by decide) (by decide) (by decide), nS]; exact L.k12
  · rw [q 11 (by decide) (by decide) (by decide), nS, d5]; exact L.k11
  · rw [q 13 (by decide) (by decide) (by decide), nE, hf 2 (by decide)]; exact L.k13
  · rw [q 16 (by decide) (by decide) (by decide), q 18 (by decide) (by decide) (by decide), q 14 (by decide) (by decide) (by decide), h2, nE, d3]; exact L.ch
  · rw [q 19 (by decide) (by decide) (by decide), nL]; exact L.k19
  · rw [q 20 (by decide) (by decide) (by decide), q 22 (by decide) (by decide) (by decide), h2, nL, d4]; exact L.lim
  · rw [q 23 (by decide) (by decide) (by decide), hf 8 (by decide)]; exact L.k23
  · rw [h2, hf 8 (by decide), hf 7 (by decide)]; exact L.k24
  · rw [q 25 (by decide) (by decide) (by decide), hf 4 (by decide)]; exact L.k25
  · rw [q 26 (by decide) (by decide) (by decide), h2, hf 4 (by decide), hf 5 (by decide), hf 6 (by decide)]; exact L.k26
  · rw [q 28 (by decide) (by decide) (by decide), hf 9 (by decide)]; exact L.k28
  · rw [q 29 (by decide) (by decide) (by decide), hf 10 (by decide)]; exact L.k29
theorem setI_at {s : mt_S} {k j : Nat} {v : Int32} : (gm_setI s k j v).1 k j = v := if_pos ⟨rfl, rfl⟩
theorem putF_at {D : pd} {l p : Nat} {v : Int64} : (D.putF l p v).facts l p = v := if_pos ⟨rfl, rfl⟩
theorem putF_ne {D : pd} {l m p q : Nat} {v : Int64} (h : q ≠ p) : (D.putF l p v).facts m q = D.facts m q := if_neg (fun z => h z.1)
theorem setI_ne {s : mt_S} {k k' j : Nat} {v : Int32} (h : k' ≠ k) : (gm_setI s k j v).1 k' = s.1 k' := by
  funext i
  exact if_neg (fun z => h z.1)
theorem rv_join {s : mt_S} {D : pd} {e l : Nat} (h : rv s D e) (hl : l < D.nl) {v x y : Int32} : rv (gm_setI (gm_setI (gm_setI s 30 l v) 31 l x) 32 l y) (((D.putF l 11 v.toInt64).putF l 12 x.toInt64).putF l 13 y.toInt64) e := by
  have L := h.lot l hl
  refine rv_so h (so_I (so_I (so_I so_refl (by decide : lsc 30)) (by decide : lsc 31)) (by decide : lsc 32)) (do_F (do_F (do_F do_refl))) (rl_f L ?_ rfl rfl rfl rfl rfl rfl ?_ ?_ ?_)
  · intro k a b c
    exact (setI_ne c).trans ((setI_ne b).trans (setI_ne a))
  · intro q hq
    rw [putF_ne (by omega), putF_ne (by omega), putF_ne (by omega)]
  · rw [setI_ne (by decide), setI_ne (by decide), setI_at, putF_ne (by decide), putF_ne (by decide), putF_at]
  · intro _
    rw [setI_ne (by decide), setI_at, setI_at, putF_ne (by decide), putF_at, putF_at]
    exact ⟨rfl, rfl⟩
