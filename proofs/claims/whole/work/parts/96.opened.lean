/-! opening sealed sums, in the reference -/
section OP
variable {N : Nat} {s0 s : mt_S} {D : pd} {e M l : Nat} {ag : Bool} {cs : List Int32}
theorem w_opF {c : Nat → Nat} {g : Nat → Int64} {n0 : Nat} {w1 : Int32} (hc : ∀ i, i < n0 → c i < 4096 ∧ gm_ldL s 17 (nI (c i)) = some (g i) ∧ gm_ldI s 18 (nI (c i)) = some (lk c i)) : ∀ (j b n : Nat), j ≤ n0 → b < n0 → j < n → gp_X8_opened_74 N n w1 (nI (c b)) (lk c j) s = some (nI (c (opF g b j)), s) := by
  intro j
  induction j with
  | zero =>
    intro b n hj hb hn
    obtain ⟨n, rfl⟩ : ∃ m, n = m + 1 := ⟨n - 1, by omega⟩
    unfold gp_X8_opened_74 gl_X8_opened_74
    rw [show lk c 0 = -1 from rfl, if_pos (by decide)]
    rfl
  | succ j ih =>
    intro b n hj hb hn
    obtain ⟨n, rfl⟩ : ∃ m, n = m + 1 := ⟨n - 1, by omega⟩
    obtain ⟨a1, a2, a3⟩ := hc j (by omega)
    obtain ⟨b1, b2, b3⟩ := hc b hb
    unfold gp_X8_opened_74 gl_X8_opened_74 gb_X8_opened_96_74
    rw [lk_s, if_neg (cz_nn (by omega)), a2, Option.bind_some, b2, Option.bind_some, a3, Option.bind_some]
    unfold opF
    by_cases z : g j < g b
    · rw [if_pos z, if_pos z]
      exact ih b n (by omega) hb (by omega)
    · rw [if_neg z, if_neg z, Option.bind_some]
      exact ih j n (by omega) (by omega) (by omega)
theorem w_opG {c : Nat → Nat} {g : Nat → Int64} {n0 B : Nat} {w1 : Int32} (hB : B < n0) (hm : ∀ i j, i < j → j < n0 → c i < c j) (hc : ∀ i, i < n0 → c i < 4096 ∧ gm_ldL s 17 (nI (c i)) = some (g i) ∧ gm_ldI s 18 (nI (c i)) = some (lk c i)) : ∀ (j n : Nat) (m : Int64), j ≤ n0 → j < n → gp_X8_opened_146 N n w1 (nI (c B)) m (lk c j) s = some (opG g B m j, s) := by
  intro j
  induction j with
  | zero =>
    intro n m hj hn
    obtain ⟨n, rfl⟩ : ∃ m, n = m + 1 := ⟨n - 1, by omega⟩
    unfold gp_X8_opened_146 gl_X8_opened_146
    rw [show lk c 0 = -1 from rfl, if_pos (by decide)]
    rfl
  | succ j ih =>
    intro n m hj hn
    obtain ⟨n, rfl⟩ : ∃ m, n = m + 1 := ⟨n - 1, by omega⟩
    obtain ⟨a1, a2, a3⟩ := hc j (by omega)
    obtain ⟨b1, b2, b3⟩ := hc B hB
    have ne : nI (c j) = nI (c B) ↔ j = B := by
      rw [cz_eq (by omega) (by omega)]
      refine ⟨fun z => ?_, fun z => by rw [z]⟩
      rcases Nat.lt_trichotomy j B with y | y | y
      · have := hm j B y hB; omega
      · exact y
      · have := hm B j y (by omega); omega
    unfold gp_X8_opened_146 gl_X8_opened_146 gb_X8_opened_177_146
    rw [lk_s, if_neg (cz_nn (by omega)), a2, Option.bind_some, a3, Option.bind_some]
    unfold opG
    by_cases z : j = B
    · rw [if_pos (ne.mpr z), if_pos z]
      exact ih n m (by omega) (by omega)
    · rw [if_neg (fun q => z (ne.mp q)), if_neg z]
      by_cases d : g j ≤ m
      · rw [if_pos d, if_pos d]
        exact ih n m (by omega) (by omega)
      · rw [if_neg d, if_neg d, Option.bind_some, Option.bind_some]
        exact ih n (g j) (by omega) (by omega)
theorem w_opened {a : Int32} (h : rs s0 s D e ag cs) (hp : pi D M) (hN : 5000 ≤ N) : wk s0 ag cs e (gm_X8_opened N a s) (sp_openA D a) := by
  unfold gm_X8_opened sp_openA
  rw [w_noLotOf h hp, Option.bind_some]
  dsimp only
  refine wk_LO h hp (fun l hl1 hl k4 => ?_)
  subst hl1
  have h4 := hp.l0.2
  have I := hp.lot l hl
  have nb := I.e0.2
  rw [w_notOpen h.v hp hl, Option.bind_some]
  dsimp only
  refine wk_O h hp hl (fun ho => ?_)
  have f2 : D.facts l 2 ≠ 0 := fun z => by
    unfold sp_notOpen at ho
    rw [if_pos z] at ho
    exact absurd ho (by decide)
  rw [rd25 h.v hl h4, Option.bind_some]
  refine wk_ifn (by rw [fct_4 h.v hl, ← cl_0]; exact ⟨fun z y => y z, fun z => Classical.byContradiction z⟩) (fun _ => wk_no h) (fun _ => ?_)
  rw [rd13 h.v hl h4, Option.bind_some, if_neg f2]
  refine wk_if (by rw [show (0 : Int32) = nI 0 from rfl, cz_eq (by omega) (by omega)]) (fun _ => wk_no h) (fun n0 => ?_)
  obtain ⟨c, c1, c2, c3⟩ := chn h.v hl
  have cc : ∀ i, i < D.nE l → c i < 4096 ∧ gm_ldL s 17 (nI (c i)) = some ((fun k => D.book l (2 + 2 * k)) i) ∧ gm_ldI s 18 (nI (c i)) = some (lk c i) := fun i hi => by
    obtain ⟨x1, x2, x3, x4, x5⟩ := c1 i hi
    exact ⟨x1, x3, x4⟩
  have lkn : lk c (D.nE l) = nI (c (D.nE l - 1)) := by rw [← lk_s (i := D.nE l - 1), show D.nE l - 1 + 1 = D.nE l from by omega]
  rw [rd14 h.v hl h4, Option.bind_some, Option.bind_some, c3]
  have q1 := w_opF (N := N) (w1 := nI l) cc (D.nE l) (D.nE l - 1) N (by omega) (by omega) (by omega)
  rw [← lkn, op_eqB (by omega)] at q1
  rw [q1, Option.bind_some]
  dsimp only
  unfold sp_win
  dsimp only
  have bp := (best_p (g := fun k => D.book l (2 + 2 * k)) (D.nE l - 1)).1
  have oS := fun m hm => op_eqS (g := fun k => D.book l (2 + 2 * k)) (n := D.nE l) (m := m) (by omega) hm
  generalize hq : sp_best (fun k => D.book l (2 + 2 * k)) (D.nE l - 1) = q at bp oS ⊢
  obtain ⟨y1, y2, y3, y4, y5⟩ := c1 q.1 (by omega)
  have hb : ∃ b, b < D.nb ∧ D.book l (1 + 2 * q.1) = Int64.ofNat b := (I.eb q.1 (by omega)).1
  have k137 : ∀ m, 0 ≤ m → m = mx (D.facts l 0) (D.res l) → wk s0 ag cs e (gb_X8_opened_137 N (nI l) (nI (c q.1)) m s) ((if D.book l (2 + 2 * q.1) < D.res l then ((D.putF l 4 1).putF l 5 (-1)).putF l 6 0 else ((D.putF l 4 1).putF l 5 (D.book l (1 + 2 * q.1))).putF l 6 (mx (mx (D.facts l 0) (D.res l)) q.2)).facts l 6, (if D.book l (2 + 2 * q.1) < D.res l then ((D.putF l 4 1).putF l 5 (-1)).putF l 6 0 else ((D.putF l 4 1).putF l 5 (D.book l (1 + 2 * q.1))).putF l 6 (mx (mx (D.facts l 0) (D.res l)) q.2)), []) := by
    intro m m0 hm
    have r7 := rd7 h.v hl h4
    unfold gb_X8_opened_137
    rw [rd14 h.v hl h4, Option.bind_some, c3, w_opG (B := q.1) (w1 := nI l) (by omega) c2 cc (D.nE l) N m (by omega) (by omega), Option.bind_some]
    dsimp only
    rw [oS m m0, hm]
    rw [gm_wrI (lsc_len h.v (by omega) 25 (by decide)) (by omega), Option.bind_some]
    rw [show gm_ldL (gm_setI s 25 l 1) 17 (nI (c q.1)) = some (D.book l (2 + 2 * q.1)) from y3, Option.bind_some, show gm_ldL (gm_setI s 25 l 1) 7 (nI l) = some (D.res l) from r7, Option.bind_some]
    by_cases lo : D.book l (2 + 2 * q.1) < D.res l
    · rw [if_pos lo, if_pos lo]
      unfold gb_X8_opened_217 gb_X8_opened_239 gb_X8_opened_255
      rw [if_pos rfl, gm_wrI (by exact lsc_len h.v (by omega) 26 (by decide)) (by omega), Option.bind_some, if_pos rfl, gm_wrL (by exact lsc_len h.v (by omega) 27 (by decide)) (by omega), Option.bind_some, gm_rdL (by exact lsc_len h.v (by omega) 27 (by decide)) (by omega), Option.bind_some, sL_same]
      rw [show (((D.putF l 4 1).putF l 5 (-1)).putF l 6 0).facts l 6 = 0 from up2_s]
      have r := rv_open (v := -1) (x := 0) h.v hl
      rw [← cl_m1] at r
      exact wk_ret (rs_of h (hi_L (hi_I (hi_I hi_refl (by decide)) (by decide)) (by decide)) r) (by omega)
    · rw [if_neg lo, if_neg lo]
      unfold gb_X8_opened_217 gb_X8_opened_239 gb_X8_opened_255
      rw [if_neg (by decide), show gm_ldI (gm_setI s 25 l 1) 16 (nI (c q.1)) = some (D.book l (1 + 2 * q.1)).toInt32 from y2, Option.bind_some, gm_wrI (by exact lsc_len h.v (by omega) 26 (by decide)) (by omega), Option.bind_some, if_neg (by decide), gm_wrL (by exact lsc_len h.v (by omega) 27 (by decide)) (by omega), Option.bind_some, gm_rdL (by exact lsc_len h.v (by omega) 27 (by decide)) (by omega), Option.bind_some, sL_same]
      rw [show (((D.putF l 4 1).putF l 5 (D.book l (1 + 2 * q.1))).putF l 6 (mx (mx (D.facts l 0) (D.res l)) q.2)).facts l 6 = mx (mx (D.facts l 0) (D.res l)) q.2 from up2_s]
      have r := rv_open (v := (D.book l (1 + 2 * q.1)).toInt32) (x := mx (mx (D.facts l 0) (D.res l)) q.2) h.v hl
      rw [y5] at r
      exact wk_ret (rs_of h (hi_L (hi_I (hi_I hi_refl (by decide)) (by decide)) (by decide)) r) (by omega)
  have so0 : 0 ≤ D.facts l 0 := by
    rw [Int64.le_iff_toInt_le]
    have := sum_i.mp I.so
    have z : (0 : Int64).toInt = 0 := by decide
    omega
  have ro0 : 0 ≤ D.res l := by
    rw [Int64.le_iff_toInt_le]
    have := mon_i.mp I.ro
    have z : (0 : Int64).toInt = 0 := by decide
    omega
  rw [rd6 h.v hl h4, Option.bind_some, rd7 h.v hl h4, Option.bind_some]
  by_cases c0 : D.facts l 0 < D.res l
  · rw [if_pos (Int64.le_of_lt c0), Option.bind_some]
    exact k137 _ ro0 (by unfold mx; rw [if_pos c0])
  · by_cases c9 : D.facts l 0 ≤ D.res l
    · rw [if_pos c9, Option.bind_some]
      exact k137 _ ro0 (by unfold mx; rw [if_neg c0]; exact Int64.le_antisymm (nle64.mp c0) c9)
    · rw [if_neg c9, Option.bind_some]
      exact k137 _ so0 (by unfold mx; rw [if_neg c0])
end OP
