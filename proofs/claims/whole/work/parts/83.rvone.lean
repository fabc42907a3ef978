/-! single writes of the reference on a lot -/
theorem rv_8 {s : mt_S} {D : pd} {e l : Nat} (h : rv s D e) (hl : l < D.nl) {v : Int32} : rv (gm_setI s 8 l v) (D.putF l 1 v.toInt64) e := by
  have L := h.lot l hl
  refine rv_so h (so_I so_refl (by decide : lsc 8)) (do_F do_refl) ⟨?_, ?_, ?_, ?_, ?_, ?_, ?_, ?_, ?_, ?_, ?_, ?_, ?_, ?_, ?_, ?_, ?_, ?_, ?_, ?_, ?_⟩
  · have z := L.bd
    simp only [gm_setI, gm_setL, pd.putF, pd.putE, pd.putL, pd.putQ, up2, pd.nS, pd.nL, pd.nE] at z ⊢
    simpa using z
  · have z := L.k5
    simp only [gm_setI, gm_setL, pd.putF, pd.putE, pd.putL, pd.putQ, up2, pd.nS, pd.nL, pd.nE] at z ⊢
    simpa using z
  · have z := L.k6
    simp only [gm_setI, gm_setL, pd.putF, pd.putE, pd.putL, pd.putQ, up2, pd.nS, pd.nL, pd.nE] at z ⊢
    simpa using z
  · have z := L.k7
    simp only [gm_setI, gm_setL, pd.putF, pd.putE, pd.putL, pd.putQ, up2, pd.nS, pd.nL, pd.nE] at z ⊢
    simpa using z
  · simp [gm_setI, gm_setL, pd.putF, pd.putE, pd.putL, pd.putQ, up2, pd.nS, pd.nL, pd.nE]
  · have z := L.k9
    simp only [gm_setI, gm_setL, pd.putF, pd.putE, pd.putL, pd.putQ, up2, pd.nS, pd.nL, pd.nE] at z ⊢
    simpa using z
  · have z := L.k10
    simp only [gm_setI, gm_setL, pd.putF, pd.putE, pd.putL, pd.putQ, up2, pd.nS, pd.nL, pd.nE] at z ⊢
    simpa using z
  · have z := L.k12
    simp only [gm_setI, gm_setL, pd.putF, pd.putE, pd.putL, pd.putQ, up2, pd.nS, pd.nL, pd.nE] at z ⊢
    simpa using z
  · have z := L.k11
    simp only [gm_setI, gm_setL, pd.putF, pd.putE, pd.putL, pd.putQ, up2, pd.nS, pd.nL, pd.nE] at z ⊢
    simpa using z
  · have z := L.k13
    simp only [gm_setI, gm_setL, pd.putF, pd.putE, pd.putL, pd.putQ, up2, pd.nS, pd.nL, pd.nE] at z ⊢
    simpa using z
  · exact L.ch
  · have z := L.k19
    simp only [gm_setI, gm_setL, pd.putF, pd.putE, pd.putL, pd.putQ, up2, pd.nS, pd.nL, pd.nE] at z ⊢
    simpa using z
  · have z := L.lim
    simp only [gm_setI, gm_setL, pd.putF, pd.putE, pd.putL, pd.putQ, up2, pd.nS, pd.nL, pd.nE] at z ⊢
    simpa using z
  · have z := L.k23
    simp only [gm_setI, gm_setL, pd.putF, pd.putE, pd.putL, pd.putQ, up2, pd.nS, pd.nL, pd.nE] at z ⊢
    simpa using z
  · have z := L.k24
    simp only [gm_setI, gm_setL, pd.putF, pd.putE, pd.putL, pd.putQ, up2, pd.nS, pd.nL, pd.nE] at z ⊢
    simpa using z
  · have z := L.k25
    simp only [gm_setI, gm_setL, pd.putF, pd.putE, pd.putL, pd.putQ, up2, pd.nS, pd.nL, pd.nE] at z ⊢
    simpa using z
  · have z := L.k26
    simp only [gm_setI, gm_setL, pd.putF, pd.putE, pd.putL, pd.putQ, up2, pd.nS, pd.nL, pd.nE] at z ⊢
    simpa using z
  · have z := L.k28
    simp only [gm_setI, gm_setL, pd.putF, pd.putE, pd.putL, pd.putQ, up2, pd.nS, pd.nL, pd.nE] at z ⊢
    simpa using z
  · have z := L.k29
    simp only [gm_setI, gm_setL, pd.putF, pd.putE, pd.putL, pd.putQ, up2, pd.nS, pd.nL, pd.nE] at z ⊢
    simpa using z
  · have z := L.k30
    simp only [gm_setI, gm_setL, pd.putF, pd.putE, pd.putL, pd.putQ, up2, pd.nS, pd.nL, pd.nE] at z ⊢
    simpa using z
  · have z := L.k31
    simp only [gm_setI, gm_setL, pd.putF, pd.putE, pd.putL, pd.putQ, up2, pd.nS, pd.nL, pd.nE] at z ⊢
    simpa using z
theorem rv_10 {s : mt_S} {D : pd} {e l : Nat} (h : rv s D e) (hl : l < D.nl) {v : Int64} : rv (gm_setL s 10 l v) (D.putF l 3 v) e := by
  have L := h.lot l hl
  refine rv_so h (so_L so_refl (by decide : lsc 10)) (do_F do_refl) ⟨?_, ?_, ?_, ?_, ?_, ?_, ?_, ?_, ?_, ?_, ?_, ?_, ?_, ?_, ?_, ?_, ?_, ?_, ?_, ?_, ?_⟩
  · have z := L.bd
    simp only [gm_setI, gm_setL, pd.putF, pd.putE, pd.putL, pd.putQ, up2, pd.nS, pd.nL, pd.nE] at z ⊢
    simpa using z
  · have z := L.k5
    simp only [gm_setI, gm_setL, pd.putF, pd.putE, pd.putL, pd.putQ, up2, pd.nS, pd.nL, pd.nE] at z ⊢
    simpa using z
  · have z := L.k6
    simp only [gm_setI, gm_setL, pd.putF, pd.putE, pd.putL, pd.putQ, up2, pd.nS, pd.nL, pd.nE] at z ⊢
    simpa using z
  · have z := L.k7
    simp only [gm_setI, gm_setL, pd.putF, pd.putE, pd.putL, pd.putQ, up2, pd.nS, pd.nL, pd.nE] at z ⊢
    simpa using z
  · have z := L.k8
    simp only [gm_setI, gm_setL, pd.putF, pd.putE, pd.putL, pd.putQ, up2, pd.nS, pd.nL, pd.nE] at z ⊢
    simpa using z
  · have z := L.k9
    simp only [gm_setI, gm_setL, pd.putF, pd.putE, pd.putL, pd.putQ, up2, pd.nS, pd.nL, pd.nE] at z ⊢
    simpa using z
  · simp [gm_setI, gm_setL, pd.putF, pd.putE, pd.putL, pd.putQ, up2, pd.nS, pd.nL, pd.nE]
  · have z := L.k12
    simp only [gm_setI, gm_setL, pd.putF, pd.putE, pd.putL, pd.putQ, up2, pd.nS, pd.nL, pd.nE] at z ⊢
    simpa using z
  · have z := L.k11
    simp only [gm_setI, gm_setL, pd.putF, pd.putE, pd.putL, pd.putQ, up2, pd.nS, pd.nL, pd.nE] at z ⊢
    simpa using z
  · have z := L.k13
    simp only [gm_setI, gm_setL, pd.putF, pd.putE, pd.putL, pd.putQ, up2, pd.nS, pd.nL, pd.nE] at z ⊢
    simpa using z
  · exact L.ch
  · have z := L.k19
    simp only [gm_setI, gm_setL, pd.putF, pd.putE, pd.putL, pd.putQ, up2, pd.nS, pd.nL, pd.nE] at z ⊢
    simpa using z
  · have z := L.lim
    simp only [gm_setI, gm_setL, pd.putF, pd.putE, pd.putL, pd.putQ, up2, pd.nS, pd.nL, pd.nE] at z ⊢
    simpa using z
  · have z := L.k23
    simp only [gm_setI, gm_setL, pd.putF, pd.putE, pd.putL, pd.putQ, up2, pd.nS, pd.nL, pd.nE] at z ⊢
    simpa using z
  · have z := L.k24
    simp only [gm_setI, gm_setL, pd.putF, pd.putE, pd.putL, pd.putQ, up2, pd.nS, pd.nL, pd.nE] at z ⊢
    simpa using z
  · have z := L.k25
    simp only [gm_setI, gm_setL, pd.putF, pd.putE, pd.putL, pd.putQ, up2, pd.nS, pd.nL, pd.nE] at z ⊢
    simpa using z
  · have z := L.k26
    simp only [gm_setI, gm_setL, pd.putF, pd.putE, pd.putL, pd.putQ, up2, pd.nS, pd.nL, pd.nE] at z ⊢
    simpa using z
  · have z := L.k28
    simp only [gm_setI, gm_setL, pd.putF, pd.putE, pd.putL, pd.putQ, up2, pd.nS, pd.nL, pd.nE] at z ⊢
    simpa using z
  · have z := L.k29
    simp only [gm_setI, gm_setL, pd.putF, pd.putE, pd.putL, pd.putQ, up2, pd.nS, pd.nL, pd.nE] at z ⊢
    simpa using z
  · have z := L.k30
    simp only [gm_setI, gm_setL, pd.putF, pd.putE, pd.putL, pd.putQ, up2, pd.nS, pd.nL, pd.nE] at z ⊢
    simpa using z
  · have z := L.k31
    simp only [gm_setI, gm_setL, pd.putF, pd.putE, pd.putL, pd.putQ, up2, pd.nS, pd.nL, pd.nE] at z ⊢
    simpa using z
theorem rv_28 {s : mt_S} {D : pd} {e l : Nat} (h : rv s D e) (hl : l < D.nl) {v : Int32} : rv (gm_setI s 28 l v) (D.putF l 9 v.toInt64) e := by
  have L := h.lot l hl
  refine rv_so h (so_I so_refl (by decide : lsc 28)) (do_F do_refl) ⟨?_, ?_, ?_, ?_, ?_, ?_, ?_, ?_, ?_, ?_, ?_, ?_, ?_, ?_, ?_, ?_, ?_, ?_, ?_, ?_, ?_⟩
  · have z := L.bd
    simp only [gm_setI, gm_setL, pd.putF, pd.putE, pd.putL, pd.putQ, up2, pd.nS, pd.nL, pd.nE] at z ⊢
    simpa using z
  · have z := L.k5
    simp only [gm_setI, gm_setL, pd.putF, pd.putE, pd.putL, pd.putQ, up2, pd.nS, pd.nL, pd.nE] at z ⊢
    simpa using z
  · have z := L.k6
    simp only [gm_setI, gm_setL, pd.putF, pd.putE, pd.putL, pd.putQ, up2, pd.nS, pd.nL, pd.nE] at z ⊢
    simpa using z
  · have z := L.k7
    simp only [gm_setI, gm_setL, pd.putF, pd.putE, pd.putL, pd.putQ, up2, pd.nS, pd.nL, pd.nE] at z ⊢
    simpa using z
  · have z := L.k8
    simp only [gm_setI, gm_setL, pd.putF, pd.putE, pd.putL, pd.putQ, up2, pd.nS, pd.nL, pd.nE] at z ⊢
    simpa using z
  · have z := L.k9
    simp only [gm_setI, gm_setL, pd.putF, pd.putE, pd.putL, pd.putQ, up2, pd.nS, pd.nL, pd.nE] at z ⊢
    simpa using z
  · have z := L.k10
    simp only [gm_setI, gm_setL, pd.putF, pd.putE, pd.putL, pd.putQ, up2, pd.nS, pd.nL, pd.nE] at z ⊢
    simpa using z
  · have z := L.k12
    simp only [gm_setI, gm_setL, pd.putF, pd.putE, pd.putL, pd.putQ, up2, pd.nS, pd.nL, pd.nE] at z ⊢
    simpa using z
  · have z := L.k11
    simp only [gm_setI, gm_setL, pd.putF, pd.putE, pd.putL, pd.putQ, up2, pd.nS, pd.nL, pd.nE] at z ⊢
    simpa using z
  · have z := L.k13
    simp only [gm_setI, gm_setL, pd.putF, pd.putE, pd.putL, pd.putQ, up2, pd.nS, pd.nL, pd.nE] at z ⊢
    simpa using z
  · exact L.ch
  · have z := L.k19
    simp only [gm_setI, gm_setL, pd.putF, pd.putE, pd.putL, pd.putQ, up2, pd.nS, pd.nL, pd.nE] at z ⊢
    simpa using z
  · have z := L.lim
    simp only [gm_setI, gm_setL, pd.putF, pd.putE, pd.putL, pd.putQ, up2, pd.nS, pd.nL, pd.nE] at z ⊢
    simpa using z
  · have z := L.k23
    simp only [gm_setI, gm_setL, pd.putF, pd.putE, pd.putL, pd.putQ, up2, pd.nS, pd.nL, pd.nE] at z ⊢
    simpa using z
  · have z := L.k24
    simp only [gm_setI, gm_setL, pd.putF, pd.putE, pd.putL, pd.putQ, up2, pd.nS, pd.nL, pd.nE] at z ⊢
    simpa using z
  · have z := L.k25
    simp only [gm_setI, gm_setL, pd.putF, pd.putE, pd.putL, pd.putQ, up2, pd.nS, pd.nL, pd.nE] at z ⊢
    simpa using z
  · have z := L.k26
    simp only [gm_setI, gm_setL, pd.putF, pd.putE, pd.putL, pd.putQ, up2, pd.nS, pd.nL, pd.nE] at z ⊢
    simpa using z
  · simp [gm_setI, gm_setL, pd.putF, pd.putE, pd.putL, pd.putQ, up2, pd.nS, pd.nL, pd.nE]
  · have z := L.k29
    simp only [gm_setI, gm_setL, pd.putF, pd.putE, pd.putL, pd.putQ, up2, pd.nS, pd.nL, pd.nE] at z ⊢
    simpa using z
  · have z := L.k30
    simp only [gm_setI, gm_setL, pd.putF, pd.putE, pd.putL, pd.putQ, up2, pd.nS, pd.nL, pd.nE] at z ⊢
    simpa using z
  · have z := L.k31
    simp only [gm_setI, gm_setL, pd.putF, pd.putE, pd.putL, pd.putQ, up2, pd.nS, pd.nL, pd.nE] at z ⊢
    simpa using z
theorem rv_29 {s : mt_S} {D : pd} {e l : Nat} (h : rv s D e) (hl : l < D.nl) {v : Int32} : rv (gm_setI s 29 l v) (D.putF l 10 v.toInt64) e := by
  have L := h.lot l hl
  refine rv_so h (so_I so_refl (by decide : lsc 29)) (do_F do_refl) ⟨?_, ?_, ?_, ?_, ?_, ?_, ?_, ?_, ?_, ?_, ?_, ?_, ?_, ?_, ?_, ?_, ?_, ?_, ?_, ?_, ?_⟩
  · have z := L.bd
    simp only [gm_setI, gm_setL, pd.putF, pd.putE, pd.putL, pd.putQ, up2, pd.nS, pd.nL, pd.nE] at z ⊢
    simpa using z
  · have z := L.k5
    simp only [gm_setI, gm_setL, pd.putF, pd.putE, pd.putL, pd.putQ, up2, pd.nS, pd.nL, pd.nE] at z ⊢
    simpa using z
  · have z := L.k6
    simp only [gm_setI, gm_setL, pd.putF, pd.putE, pd.putL, pd.putQ, up2, pd.nS, pd.nL, pd.nE] at z ⊢
    simpa using z
  · have z := L.k7
    simp only [gm_setI, gm_setL, pd.putF, pd.putE, pd.putL, pd.putQ, up2, pd.nS, pd.nL, pd.nE] at z ⊢
    simpa using z
  · have z := L.k8
    simp only [gm_setI, gm_setL, pd.putF, pd.putE, pd.putL, pd.putQ, up2, pd.nS, pd.nL, pd.nE] at z ⊢
    simpa using z
  · have z := L.k9
    simp only [gm_setI, gm_setL, pd.putF, pd.putE, pd.putL, pd.putQ, up2, pd.nS, pd.nL, pd.nE] at z ⊢
    simpa using z
  · have z := L.k10
    simp only [gm_setI, gm_setL, pd.putF, pd.putE, pd.putL, pd.putQ, up2, pd.nS, pd.nL, pd.nE] at z ⊢
    simpa using z
  · have z := L.k12
    simp only [gm_setI, gm_setL, pd.putF, pd.putE, pd.putL, pd.putQ, up2, pd.nS, pd.nL, pd.nE] at z ⊢
    simpa using z
  · have z := L.k11
    simp only [gm_setI, gm_setL, pd.putF, pd.putE, pd.putL, pd.putQ, up2, pd.nS, pd.nL, pd.nE] at z ⊢
    simpa using z
  · have z := L.k13
    simp only [gm_setI, gm_setL, pd.putF, pd.putE, pd.putL, pd.putQ, up2, pd.nS, pd.nL, pd.nE] at z ⊢
    simpa using z
  · exact L.ch
  · have z := L.k19
    simp only [gm_setI, gm_setL, pd.putF, pd.putE, pd.putL, pd.putQ, up2, pd.nS, pd.nL, pd.nE] at z ⊢
    simpa using z
  · have z := L.lim
    simp only [gm_setI, gm_setL, pd.putF, pd.putE, pd.putL, pd.putQ, up2, pd.nS, pd.nL, pd.nE] at z ⊢
    simpa using z
  · have z := L.k23
    simp only [gm_setI, gm_setL, pd.putF, pd.putE, pd.putL, pd.putQ, up2, pd.nS, pd.nL, pd.nE] at z ⊢
    simpa using z
  · have z := L.k24
    simp only [gm_setI, gm_setL, pd.putF, pd.putE, pd.putL, pd.putQ, up2, pd.nS, pd.nL, pd.nE] at z ⊢
    simpa using z
  · have z := L.k25
    simp only [gm_setI, gm_setL, pd.putF, pd.putE, pd.putL, pd.putQ, up2, pd.nS, pd.nL, pd.nE] at z ⊢
    simpa using z
  · have z := L.k26
    simp only [gm_setI, gm_setL, pd.putF, pd.putE, pd.putL, pd.putQ, up2, pd.nS, pd.nL, pd.nE] at z ⊢
    simpa using z
  · have z := L.k28
    simp only [gm_setI, gm_setL, pd.putF, pd.putE, pd.putL, pd.putQ, up2, pd.nS, pd.nL, pd.nE] at z ⊢
    simpa using z
  · simp [gm_setI, gm_setL, pd.putF, pd.putE, pd.putL, pd.putQ, up2, pd.nS, pd.nL, pd.nE]
  · have z := L.k30
    simp only [gm_setI, gm_setL, pd.putF, pd.putE, pd.putL, pd.putQ, up2, pd.nS, pd.nL, pd.nE] at z ⊢
    simpa using z
  · have z := L.k31
    simp only [gm_setI, gm_setL, pd.putF, pd.putE, pd.putL, pd.putQ, up2, pd.nS, pd.nL, pd.nE] at z ⊢
    simpa using z
theorem rv_9 {s : mt_S} {D : pd} {e l : Nat} (h : rv s D e) (hl : l < D.nl) {v : Int32} (hv : v ≠ 0) (hs : D.facts l 2 ≠ 0) : rv (gm_setI s 9 l v) (D.putF l 2 v.toInt64) e := by
  have L := h.lot l hl
  refine rv_so h (so_I so_refl (by decide : lsc 9)) (do_F do_refl) ⟨?_, ?_, ?_, ?_, ?_, ?_, ?_, ?_, ?_, ?_, ?_, ?_, ?_, ?_, ?_, ?_, ?_, ?_, ?_, ?_, ?_⟩
  · have z := L.bd
    simp only [gm_setI, gm_setL, pd.putF, pd.putE, pd.putL, pd.putQ, up2, pd.nS, pd.nL, pd.nE] at z ⊢
    simpa using z
  · have z := L.k5
    simp only [gm_setI, gm_setL, pd.putF, pd.putE, pd.putL, pd.putQ, up2, pd.nS, pd.nL, pd.nE] at z ⊢
    simpa using z
  · have z := L.k6
    simp only [gm_setI, gm_setL, pd.putF, pd.putE, pd.putL, pd.putQ, up2, pd.nS, pd.nL, pd.nE] at z ⊢
    simpa using z
  · have z := L.k7
    simp only [gm_setI, gm_setL, pd.putF, pd.putE, pd.putL, pd.putQ, up2, pd.nS, pd.nL, pd.nE] at z ⊢
    simpa using z
  · have z := L.k8
    simp only [gm_setI, gm_setL, pd.putF, pd.putE, pd.putL, pd.putQ, up2, pd.nS, pd.nL, pd.nE] at z ⊢
    simpa using z
  · simp [gm_setI, gm_setL, pd.putF, pd.putE, pd.putL, pd.putQ, up2, pd.nS, pd.nL, pd.nE]
  · have z := L.k10
    simp only [gm_setI, gm_setL, pd.putF, pd.putE, pd.putL, pd.putQ, up2, pd.nS, pd.nL, pd.nE] at z ⊢
    simpa using z
  · have z := L.k12
    simp only [gm_setI, gm_setL, pd.putF, pd.putE, pd.putL, pd.putQ, up2, pd.nS, pd.nL, pd.nE] at z ⊢
    simpa using z
  · have z := L.k11
    simp only [gm_setI, gm_setL, pd.putF, pd.putE, pd.putL, pd.putQ, up2, pd.nS, pd.nL, pd.nE] at z ⊢
    simpa using z
  · have z := L.k13
    rw [if_neg hs] at z
    have hv2 : v.toInt64 ≠ 0 := fun q => hv (cl_inj.mp (q.trans cl_0))
    simp only [gm_setI, gm_setL, pd.putF, pd.putE, pd.putL, pd.putQ, up2, pd.nS, pd.nL, pd.nE] at z ⊢
    simp [hv2, z]
  · exact L.ch
  · have z := L.k19
    simp only [gm_setI, gm_setL, pd.putF, pd.putE, pd.putL, pd.putQ, up2, pd.nS, pd.nL, pd.nE] at z ⊢
    simpa using z
  · have z := L.lim
    simp only [gm_setI, gm_setL, pd.putF, pd.putE, pd.putL, pd.putQ, up2, pd.nS, pd.nL, pd.nE] at z ⊢
    simpa using z
  · have z := L.k23
    simp only [gm_setI, gm_setL, pd.putF, pd.putE, pd.putL, pd.putQ, up2, pd.nS, pd.nL, pd.nE] at z ⊢
    simpa using z
  · have z := L.k24
    simp only [gm_setI, gm_setL, pd.putF, pd.putE, pd.putL, pd.putQ, up2, pd.nS, pd.nL, pd.nE] at z ⊢
    simpa using z
  · have z := L.k25
    simp only [gm_setI, gm_setL, pd.putF, pd.putE, pd.putL, pd.putQ, up2, pd.nS, pd.nL, pd.nE] at z ⊢
    simpa using z
  · have z := L.k26
    simp only [gm_setI, gm_setL, pd.putF, pd.putE, pd.putL, pd.putQ, up2, pd.nS, pd.nL, pd.nE] at z ⊢
    simpa using z
  · have z := L.k28
    simp only [gm_setI, gm_setL, pd.putF, pd.putE, pd.putL, pd.putQ, up2, pd.nS, pd.nL, pd.nE] at z ⊢
    simpa using z
  · have z := L.k29
    simp only [gm_setI, gm_setL, pd.putF, pd.putE, pd.putL, pd.putQ, up2, pd.nS, pd.nL, pd.nE] at z ⊢
    simpa using z
  · have z := L.k30
    simp only [gm_setI, gm_setL, pd.putF, pd.putE, pd.putL, pd.putQ, up2, pd.nS, pd.nL, pd.nE] at z ⊢
    simpa using z
  · have z := L.k31
    simp only [gm_setI, gm_setL, pd.putF, pd.putE, pd.putL, pd.putQ, up2, pd.nS, pd.nL, pd.nE] at z ⊢
    simpa using z
theorem rv_call {s : mt_S} {D : pd} {e l : Nat} (h : rv s D e) (hl : l < D.nl) (hs : D.nE l = 0) : rv (gm_setI (gm_setI s 9 l 1) 13 l 0) (D.putF l 2 1) e := by
  have L := h.lot l hl
  refine rv_so h (so_I (so_I so_refl (by decide : lsc 9)) (by decide : lsc 13)) (do_F do_refl) ⟨?_, ?_, ?_, ?_, ?_, ?_, ?_, ?_, ?_, ?_, ?_, ?_, ?_, ?_, ?_, ?_, ?_, ?_, ?_, ?_, ?_⟩
  · have z := L.bd
    simp only [gm_setI, gm_setL, pd.putF, pd.putE, pd.putL, pd.putQ, up2, pd.nS, pd.nL, pd.nE] at z ⊢
    simpa using z
  · have z := L.k5
    simp only [gm_setI, gm_setL, pd.putF, pd.putE, pd.putL, pd.putQ, up2, pd.nS, pd.nL, pd.nE] at z ⊢
    simpa using z
  · have z := L.k6
    simp only [gm_setI, gm_setL, pd.putF, pd.putE, pd.putL, pd.putQ, up2, pd.nS, pd.nL, pd.nE] at z ⊢
    simpa using z
  · have z := L.k7
    simp only [gm_setI, gm_setL, pd.putF, pd.putE, pd.putL, pd.putQ, up2, pd.nS, pd.nL, pd.nE] at z ⊢
    simpa using z
  · have z := L.k8
    simp only [gm_setI, gm_setL, pd.putF, pd.putE, pd.putL, pd.putQ, up2, pd.nS, pd.nL, pd.nE] at z ⊢
    simpa using z
  · simp [gm_setI, gm_setL, pd.putF, pd.putE, pd.putL, pd.putQ, up2, pd.nS, pd.nL, pd.nE]
  · have z := L.k10
    simp only [gm_setI, gm_setL, pd.putF, pd.putE, pd.putL, pd.putQ, up2, pd.nS, pd.nL, pd.nE] at z ⊢
    simpa using z
  · have z := L.k12
    simp only [gm_setI, gm_setL, pd.putF, pd.putE, pd.putL, pd.putQ, up2, pd.nS, pd.nL, pd.nE] at z ⊢
    simpa using z
  · have z := L.k11
    simp only [gm_setI, gm_setL, pd.putF, pd.putE, pd.putL, pd.putQ, up2, pd.nS, pd.nL, pd.nE] at z ⊢
    simpa using z
  · simp only [gm_setI, gm_setL, pd.putF, pd.putE, pd.putL, pd.putQ, up2, pd.nS, pd.nL, pd.nE] at hs ⊢
    simp [hs]
    rfl
  · exact L.ch
  · have z := L.k19
    simp only [gm_setI, gm_setL, pd.putF, pd.putE, pd.putL, pd.putQ, up2, pd.nS, pd.nL, pd.nE] at z ⊢
    simpa using z
  · have z := L.lim
    simp only [gm_setI, gm_setL, pd.putF, pd.putE, pd.putL, pd.putQ, up2, pd.nS, pd.nL, pd.nE] at z ⊢
    simpa using z
  · have z := L.k23
    simp only [gm_setI, gm_setL, pd.putF, pd.putE, pd.putL, pd.putQ, up2, pd.nS, pd.nL, pd.nE] at z ⊢
    simpa using z
  · have z := L.k24
    simp only [gm_setI, gm_setL, pd.putF, pd.putE, pd.putL, pd.putQ, up2, pd.nS, pd.nL, pd.nE] at z ⊢
    simpa using z
  · have z := L.k25
    simp only [gm_setI, gm_setL, pd.putF, pd.putE, pd.putL, pd.putQ, up2, pd.nS, pd.nL, pd.nE] at z ⊢
    simpa using z
  · have z := L.k26
    simp only [gm_setI, gm_setL, pd.putF, pd.putE, pd.putL, pd.putQ, up2, pd.nS, pd.nL, pd.nE] at z ⊢
    simpa using z
  · have z := L.k28
    simp only [gm_setI, gm_setL, pd.putF, pd.putE, pd.putL, pd.putQ, up2, pd.nS, pd.nL, pd.nE] at z ⊢
    simpa using z
  · have z := L.k29
    simp only [gm_setI, gm_setL, pd.putF, pd.putE, pd.putL, pd.putQ, up2, pd.nS, pd.nL, pd.nE] at z ⊢
    simpa using z
  · have z := L.k30
    simp only [gm_setI, gm_setL, pd.putF, pd.putE, pd.putL, pd.putQ, up2, pd.nS, pd.nL, pd.nE] at z ⊢
    simpa using z
  · have z := L.k31
    simp only [gm_setI, gm_setL, pd.putF, pd.putE, pd.putL, pd.putQ, up2, pd.nS, pd.nL, pd.nE] at z ⊢
    simpa using z
theorem rv_bid {s : mt_S} {D : pd} {e l : Nat} (h : rv s D e) (hl : l < D.nl) {v : Int32} {x : Int64} : rv (gm_setL (gm_setI s 23 l v) 24 l x) ((D.putF l 7 x).putF l 8 v.toInt64) e := by
  have L := h.lot l hl
  refine rv_so h (so_L (so_I so_refl (by decide : lsc 23)) (by decide : lsc 24)) (do_F (do_F do_refl)) ⟨?_, ?_, ?_, ?_, ?_, ?_, ?_, ?_, ?_, ?_, ?_, ?_, ?_, ?_, ?_, ?_, ?_, ?_, ?_, ?_, ?_⟩
  · have z := L.bd
    simp only [gm_setI, gm_setL, pd.putF, pd.putE, pd.putL, pd.putQ, up2, pd.nS, pd.nL, pd.nE] at z ⊢
    simpa using z
  · have z := L.k5
    simp only [gm_setI, gm_setL, pd.putF, pd.putE, pd.putL, pd.putQ, up2, pd.nS, pd.nL, pd.nE] at z ⊢
    simpa using z
  · have z := L.k6
    simp only [gm_setI, gm_setL, pd.putF, pd.putE, pd.putL, pd.putQ, up2, pd.nS, pd.nL, pd.nE] at z ⊢
    simpa using z
  · have z := L.k7
    simp only [gm_setI, gm_setL, pd.putF, pd.putE, pd.putL, pd.putQ, up2, pd.nS, pd.nL, pd.nE] at z ⊢
    simpa using z
  · have z := L.k8
    simp only [gm_setI, gm_setL, pd.putF, pd.putE, pd.putL, pd.putQ, up2, pd.nS, pd.nL, pd.nE] at z ⊢
    simpa using z
  · have z := L.k9
    simp only [gm_setI, gm_setL, pd.putF, pd.putE, pd.putL, pd.putQ, up2, pd.nS, pd.nL, pd.nE] at z ⊢
    simpa using z
  · have z := L.k10
    simp only [gm_setI, gm_setL, pd.putF, pd.putE, pd.putL, pd.putQ, up2, pd.nS, pd.nL, pd.nE] at z ⊢
    simpa using z
  · have z := L.k12
    simp only [gm_setI, gm_setL, pd.putF, pd.putE, pd.putL, pd.putQ, up2, pd.nS, pd.nL, pd.nE] at z ⊢
    simpa using z
  · have z := L.k11
    simp only [gm_setI, gm_setL, pd.putF, pd.putE, pd.putL, pd.putQ, up2, pd.nS, pd.nL, pd.nE] at z ⊢
    simpa using z
  · have z := L.k13
    simp only [gm_setI, gm_setL, pd.putF, pd.putE, pd.putL, pd.putQ, up2, pd.nS, pd.nL, pd.nE] at z ⊢
    simpa using z
  · exact L.ch
  · have z := L.k19
    simp only [gm_setI, gm_setL, pd.putF, pd.putE, pd.putL, pd.putQ, up2, pd.nS, pd.nL, pd.nE] at z ⊢
    simpa using z
  · have z := L.lim
    simp only [gm_setI, gm_setL, pd.putF, pd.putE, pd.putL, pd.putQ, up2, pd.nS, pd.nL, pd.nE] at z ⊢
    simpa using z
  · simp [gm_setI, gm_setL, pd.putF, pd.putE, pd.putL, pd.putQ, up2, pd.nS, pd.nL, pd.nE]
  · simp [gm_setI, gm_setL, pd.putF, pd.putE, pd.putL, pd.putQ, up2, pd.nS, pd.nL, pd.nE]
  · have z := L.k25
    simp only [gm_setI, gm_setL, pd.putF, pd.putE, pd.putL, pd.putQ, up2, pd.nS, pd.nL, pd.nE] at z ⊢
    simpa using z
  · have z := L.k26
    simp only [gm_setI, gm_setL, pd.putF, pd.putE, pd.putL, pd.putQ, up2, pd.nS, pd.nL, pd.nE] at z ⊢
    simpa using z
  · have z := L.k28
    simp only [gm_setI, gm_setL, pd.putF, pd.putE, pd.putL, pd.putQ, up2, pd.nS, pd.nL, pd.nE] at z ⊢
    simpa using z
  · have z := L.k29
    simp only [gm_setI, gm_setL, pd.putF, pd.putE, pd.putL, pd.putQ, up2, pd.nS, pd.nL, pd.nE] at z ⊢
    simpa using z
  · have z := L.k30
    simp only [gm_setI, gm_setL, pd.putF, pd.putE, pd.putL, pd.putQ, up2, pd.nS, pd.nL, pd.nE] at z ⊢
    simpa using z
  · have z := L.k31
    simp only [gm_setI, gm_setL, pd.putF, pd.putE, pd.putL, pd.putQ, up2, pd.nS, pd.nL, pd.nE] at z ⊢
    simpa using z
theorem rv_open {s : mt_S} {D : pd} {e l : Nat} (h : rv s D e) (hl : l < D.nl) {v : Int32} {x : Int64} : rv (gm_setL (gm_setI (gm_setI s 25 l 1) 26 l v) 27 l x) (((D.putF l 4 1).putF l 5 v.toInt64).putF l 6 x) e := by
  have L := h.lot l hl
  refine rv_so h (so_L (so_I (so_I so_refl (by decide : lsc 25)) (by decide : lsc 26)) (by decide : lsc 27)) (do_F (do_F (do_F do_refl))) ⟨?_, ?_, ?_, ?_, ?_, ?_, ?_, ?_, ?_, ?_, ?_, ?_, ?_, ?_, ?_, ?_, ?_, ?_, ?_, ?_, ?_⟩
  · have z := L.bd
    simp only [gm_setI, gm_setL, pd.putF, pd.putE, pd.putL, pd.putQ, up2, pd.nS, pd.nL, pd.nE] at z ⊢
    simpa using z
  · have z := L.k5
    simp only [gm_setI, gm_setL, pd.putF, pd.putE, pd.putL, pd.putQ, up2, pd.nS, pd.nL, pd.nE] at z ⊢
    simpa using z
  · have z := L.k6
    simp only [gm_setI, gm_setL, pd.putF, pd.putE, pd.putL, pd.putQ, up2, pd.nS, pd.nL, pd.nE] at z ⊢
    simpa using z
  · have z := L.k7
    simp only [gm_setI, gm_setL, pd.putF, pd.putE, pd.putL, pd.putQ, up2, pd.nS, pd.nL, pd.nE] at z ⊢
    simpa using z
  · have z := L.k8
    simp only [gm_setI, gm_setL, pd.putF, pd.putE, pd.putL, pd.putQ, up2, pd.nS, pd.nL, pd.nE] at z ⊢
    simpa using z
  · have z := L.k9
    simp only [gm_setI, gm_setL, pd.putF, pd.putE, pd.putL, pd.putQ, up2, pd.nS, pd.nL, pd.nE] at z ⊢
    simpa using z
  · have z := L.k10
    simp only [gm_setI, gm_setL, pd.putF, pd.putE, pd.putL, pd.putQ, up2, pd.nS, pd.nL, pd.nE] at z ⊢
    simpa using z
  · have z := L.k12
    simp only [gm_setI, gm_setL, pd.putF, pd.putE, pd.putL, pd.putQ, up2, pd.nS, pd.nL, pd.nE] at z ⊢
    simpa using z
  · have z := L.k11
    simp only [gm_setI, gm_setL, pd.putF, pd.putE, pd.putL, pd.putQ, up2, pd.nS, pd.nL, pd.nE] at z ⊢
    simpa using z
  · have z := L.k13
    simp only [gm_setI, gm_setL, pd.putF, pd.putE, pd.putL, pd.putQ, up2, pd.nS, pd.nL, pd.nE] at z ⊢
    simpa using z
  · exact L.ch
  · have z := L.k19
    simp only [gm_setI, gm_setL, pd.putF, pd.putE, pd.putL, pd.putQ, up2, pd.nS, pd.nL, pd.nE] at z ⊢
    simpa using z
  · have z := L.lim
    simp only [gm_setI, gm_setL, pd.putF, pd.putE, pd.putL, pd.putQ, up2, pd.nS, pd.nL, pd.nE] at z ⊢
    simpa using z
  · have z := L.k23
    simp only [gm_setI, gm_setL, pd.putF, pd.putE, pd.putL, pd.putQ, up2, pd.nS, pd.nL, pd.nE] at z ⊢
    simpa using z
  · have z := L.k24
    simp only [gm_setI, gm_setL, pd.putF, pd.putE, pd.putL, pd.putQ, up2, pd.nS, pd.nL, pd.nE] at z ⊢
    simpa using z
  · simp [gm_setI, gm_setL, pd.putF, pd.putE, pd.putL, pd.putQ, up2, pd.nS, pd.nL, pd.nE]
  · simp [gm_setI, gm_setL, pd.putF, pd.putE, pd.putL, pd.putQ, up2, pd.nS, pd.nL, pd.nE]
  · have z := L.k28
    simp only [gm_setI, gm_setL, pd.putF, pd.putE, pd.putL, pd.putQ, up2, pd.nS, pd.nL, pd.nE] at z ⊢
    simpa using z
  · have z := L.k29
    simp only [gm_setI, gm_setL, pd.putF, pd.putE, pd.putL, pd.putQ, up2, pd.nS, pd.nL, pd.nE] at z ⊢
    simpa using z
  · have z := L.k30
    simp only [gm_setI, gm_setL, pd.putF, pd.putE, pd.putL, pd.putQ, up2, pd.nS, pd.nL, pd.nE] at z ⊢
    simpa using z
  · have z := L.k31
    simp only [gm_setI, gm_setL, pd.putF, pd.putE, pd.putL, pd.putQ, up2, pd.nS, pd.nL, pd.nE] at z ⊢
    simpa using z
theorem rv_30 {s : mt_S} {D : pd} {e l : Nat} (h : rv s D e) (hl : l < D.nl) {v : Int32} (hv : v ≠ nI l) (hl2 : l < 400) : rv (gm_setI s 30 l v) (D.putF l 11 v.toInt64) e := by
  have L := h.lot l hl
  refine rv_so h (so_I so_refl (by decide : lsc 30)) (do_F do_refl) ⟨?_, ?_, ?_, ?_, ?_, ?_, ?_, ?_, ?_, ?_, ?_, ?_, ?_, ?_, ?_, ?_, ?_, ?_, ?_, ?_, ?_⟩
  · have z := L.bd
    simp only [gm_setI, gm_setL, pd.putF, pd.putE, pd.putL, pd.putQ, up2, pd.nS, pd.nL, pd.nE] at z ⊢
    simpa using z
  · have z := L.k5
    simp only [gm_setI, gm_setL, pd.putF, pd.putE, pd.putL, pd.putQ, up2, pd.nS, pd.nL, pd.nE] at z ⊢
    simpa using z
  · have z := L.k6
    simp only [gm_setI, gm_setL, pd.putF, pd.putE, pd.putL, pd.putQ, up2, pd.nS, pd.nL, pd.nE] at z ⊢
    simpa using z
  · have z := L.k7
    simp only [gm_setI, gm_setL, pd.putF, pd.putE, pd.putL, pd.putQ, up2, pd.nS, pd.nL, pd.nE] at z ⊢
    simpa using z
  · have z := L.k8
    simp only [gm_setI, gm_setL, pd.putF, pd.putE, pd.putL, pd.putQ, up2, pd.nS, pd.nL, pd.nE] at z ⊢
    simpa using z
  · have z := L.k9
    simp only [gm_setI, gm_setL, pd.putF, pd.putE, pd.putL, pd.putQ, up2, pd.nS, pd.nL, pd.nE] at z ⊢
    simpa using z
  · have z := L.k10
    simp only [gm_setI, gm_setL, pd.putF, pd.putE, pd.putL, pd.putQ, up2, pd.nS, pd.nL, pd.nE] at z ⊢
    simpa using z
  · have z := L.k12
    simp only [gm_setI, gm_setL, pd.putF, pd.putE, pd.putL, pd.putQ, up2, pd.nS, pd.nL, pd.nE] at z ⊢
    simpa using z
  · have z := L.k11
    simp only [gm_setI, gm_setL, pd.putF, pd.putE, pd.putL, pd.putQ, up2, pd.nS, pd.nL, pd.nE] at z ⊢
    simpa using z
  · have z := L.k13
    simp only [gm_setI, gm_setL, pd.putF, pd.putE, pd.putL, pd.putQ, up2, pd.nS, pd.nL, pd.nE] at z ⊢
    simpa using z
  · exact L.ch
  · have z := L.k19
    simp only [gm_setI, gm_setL, pd.putF, pd.putE, pd.putL, pd.putQ, up2, pd.nS, pd.nL, pd.nE] at z ⊢
    simpa using z
  · have z := L.lim
    simp only [gm_setI, gm_setL, pd.putF, pd.putE, pd.putL, pd.putQ, up2, pd.nS, pd.nL, pd.nE] at z ⊢
    simpa using z
  · have z := L.k23
    simp only [gm_setI, gm_setL, pd.putF, pd.putE, pd.putL, pd.putQ, up2, pd.nS, pd.nL, pd.nE] at z ⊢
    simpa using z
  · have z := L.k24
    simp only [gm_setI, gm_setL, pd.putF, pd.putE, pd.putL, pd.putQ, up2, pd.nS, pd.nL, pd.nE] at z ⊢
    simpa using z
  · have z := L.k25
    simp only [gm_setI, gm_setL, pd.putF, pd.putE, pd.putL, pd.putQ, up2, pd.nS, pd.nL, pd.nE] at z ⊢
    simpa using z
  · have z := L.k26
    simp only [gm_setI, gm_setL, pd.putF, pd.putE, pd.putL, pd.putQ, up2, pd.nS, pd.nL, pd.nE] at z ⊢
    simpa using z
  · have z := L.k28
    simp only [gm_setI, gm_setL, pd.putF, pd.putE, pd.putL, pd.putQ, up2, pd.nS, pd.nL, pd.nE] at z ⊢
    simpa using z
  · have z := L.k29
    simp only [gm_setI, gm_setL, pd.putF, pd.putE, pd.putL, pd.putQ, up2, pd.nS, pd.nL, pd.nE] at z ⊢
    simpa using z
  · simp [gm_setI, gm_setL, pd.putF, pd.putE, pd.putL, pd.putQ, up2, pd.nS, pd.nL, pd.nE]
  · intro z
    exfalso
    simp only [gm_setI, gm_setL, pd.putF, pd.putE, pd.putL, pd.putQ, up2, pd.nS, pd.nL, pd.nE] at z
    simp only [and_self, if_true] at z
    rw [← cl_64 (by omega), cl_inj] at z
    exact hv z
theorem rv_join {s : mt_S} {D : pd} {e l : Nat} (h : rv s D e) (hl : l < D.nl) {v x y : Int32} : rv (gm_setI (gm_setI (gm_setI s 30 l v) 31 l x) 32 l y) (((D.putF l 11 v.toInt64).putF l 12 x.toInt64).putF l 13 y.toInt64) e := by
  have L := h.lot l hl
  refine rv_so h (so_I (so_I (so_I so_refl (by decide : lsc 30)) (by decide : lsc 31)) (by decide : lsc 32)) (do_F (do_F (do_F do_refl))) ⟨?_, ?_, ?_, ?_, ?_, ?_, ?_, ?_, ?_, ?_, ?_, ?_, ?_, ?_, ?_, ?_, ?_, ?_, ?_, ?_, ?_⟩
  · have z := L.bd
    simp only [gm_setI, gm_setL, pd.putF, pd.putE, pd.putL, pd.putQ, up2, pd.nS, pd.nL, pd.nE] at z ⊢
    simpa using z
  · have z := L.k5
    simp only [gm_setI, gm_setL, pd.putF, pd.putE, pd.putL, pd.putQ, up2, pd.nS, pd.nL, pd.nE] at z ⊢
    simpa using z
  · have z := L.k6
    simp only [gm_setI, gm_setL, pd.putF, pd.putE, pd.putL, pd.putQ, up2, pd.nS, pd.nL, pd.nE] at z ⊢
    simpa using z
  · have z := L.k7
    simp only [gm_setI, gm_setL, pd.putF, pd.putE, pd.putL, pd.putQ, up2, pd.nS, pd.nL, pd.nE] at z ⊢
    simpa using z
  · have z := L.k8
    simp only [gm_setI, gm_setL, pd.putF, pd.putE, pd.putL, pd.putQ, up2, pd.nS, pd.nL, pd.nE] at z ⊢
    simpa using z
  · have z := L.k9
    simp only [gm_setI, gm_setL, pd.putF, pd.putE, pd.putL, pd.putQ, up2, pd.nS, pd.nL, pd.nE] at z ⊢
    simpa using z
  · have z := L.k10
    simp only [gm_setI, gm_setL, pd.putF, pd.putE, pd.putL, pd.putQ, up2, pd.nS, pd.nL, pd.nE] at z ⊢
    simpa using z
  · have z := L.k12
    simp only [gm_setI, gm_setL, pd.putF, pd.putE, pd.putL, pd.putQ, up2, pd.nS, pd.nL, pd.nE] at z ⊢
    simpa using z
  · have z := L.k11
    simp only [gm_setI, gm_setL, pd.putF, pd.putE, pd.putL, pd.putQ, up2, pd.nS, pd.nL, pd.nE] at z ⊢
    simpa using z
  · have z := L.k13
    simp only [gm_setI, gm_setL, pd.putF, pd.putE, pd.putL, pd.putQ, up2, pd.nS, pd.nL, pd.nE] at z ⊢
    simpa using z
  · exact L.ch
  · have z := L.k19
    simp only [gm_setI, gm_setL, pd.putF, pd.putE, pd.putL, pd.putQ, up2, pd.nS, pd.nL, pd.nE] at z ⊢
    simpa using z
  · have z := L.lim
    simp only [gm_setI, gm_setL, pd.putF, pd.putE, pd.putL, pd.putQ, up2, pd.nS, pd.nL, pd.nE] at z ⊢
    simpa using z
  · have z := L.k23
    simp only [gm_setI, gm_setL, pd.putF, pd.putE, pd.putL, pd.putQ, up2, pd.nS, pd.nL, pd.nE] at z ⊢
    simpa using z
  · have z := L.k24
    simp only [gm_setI, gm_setL, pd.putF, pd.putE, pd.putL, pd.putQ, up2, pd.nS, pd.nL, pd.nE] at z ⊢
    simpa using z
  · have z := L.k25
    simp only [gm_setI, gm_setL, pd.putF, pd.putE, pd.putL, pd.putQ, up2, pd.nS, pd.nL, pd.nE] at z ⊢
    simpa using z
  · have z := L.k26
    simp only [gm_setI, gm_setL, pd.putF, pd.putE, pd.putL, pd.putQ, up2, pd.nS, pd.nL, pd.nE] at z ⊢
    simpa using z
  · have z := L.k28
    simp only [gm_setI, gm_setL, pd.putF, pd.putE, pd.putL, pd.putQ, up2, pd.nS, pd.nL, pd.nE] at z ⊢
    simpa using z
  · have z := L.k29
    simp only [gm_setI, gm_setL, pd.putF, pd.putE, pd.putL, pd.putQ, up2, pd.nS, pd.nL, pd.nE] at z ⊢
    simpa using z
  · simp [gm_setI, gm_setL, pd.putF, pd.putE, pd.putL, pd.putQ, up2, pd.nS, pd.nL, pd.nE]
  · simp [gm_setI, gm_setL, pd.putF, pd.putE, pd.putL, pd.putQ, up2, pd.nS, pd.nL, pd.nE]
