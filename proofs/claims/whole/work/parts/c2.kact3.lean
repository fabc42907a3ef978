/-! opening, hammer, join, settle, reoffer in the class -/
section KC
variable {N : Nat} {k00 k0 k : mt_S} {D : pd} {J0 E : List je} {cs : List Int32} {g n M l b : Nat} {v : Int64}
theorem c_twL (h : cw k0 k D J0 E cs g n) (hl : l < D.nl) (h3 : D.nE l ≤ 300) : ∀ (d i f : Nat), i + 1 + d = D.nE l → d < f → gkp_X4_tellWinner_16 N f l (nI (sp_best (fun j => D.book l (2 + 2 * j)) i).1) (sp_best (fun j => D.book l (2 + 2 * j)) i).2 (nI (D.nE l)) (nI (i + 1)) k = some ((nI (sp_best (fun j => D.book l (2 + 2 * j)) (D.nE l - 1)).1, (sp_best (fun j => D.book l (2 + 2 * j)) (D.nE l - 1)).2), k) := by
  intro d
  induction d with
  | zero =>
    intro i f hi hf
    obtain ⟨f, rfl⟩ : ∃ m, f = m + 1 := ⟨f - 1, by omega⟩
    unfold gkp_X4_tellWinner_16 gkl_X4_tellWinner_16
    rw [if_pos (by rw [cz_le (by omega) (by omega)]; omega), show D.nE l - 1 = i from by omega]
  | succ d ih =>
    intro i f hi hf
    obtain ⟨f, rfl⟩ : ∃ m, f = m + 1 := ⟨f - 1, by omega⟩
    have b1 := (best_p (g := fun j => D.book l (2 + 2 * j)) i).1
    have q := ih (i + 1) f (by omega) (by omega)
    have st : sp_best (fun j => D.book l (2 + 2 * j)) (i + 1) = (if D.book l (2 + 2 * (sp_best (fun j => D.book l (2 + 2 * j)) i).1) < D.book l (2 + 2 * (i + 1)) then (i + 1, if D.book l (2 + 2 * (sp_best (fun j => D.book l (2 + 2 * j)) i).1) < (sp_best (fun j => D.book l (2 + 2 * j)) i).2 then (sp_best (fun j => D.book l (2 + 2 * j)) i).2 else D.book l (2 + 2 * (sp_best (fun j => D.book l (2 + 2 * j)) i).1)) else ((sp_best (fun j => D.book l (2 + 2 * j)) i).1, if D.book l (2 + 2 * (i + 1)) < (sp_best (fun j => D.book l (2 + 2 * j)) i).2 then (sp_best (fun j => D.book l (2 + 2 * j)) i).2 else D.book l (2 + 2 * (i + 1)))) := rfl
    unfold gkp_X4_tellWinner_16 gkl_X4_tellWinner_16
    rw [if_neg (by rw [cz_le (by omega) (by omega)]; omega), c_lot h hl, Option.bind_some, c_sheL h hl (by omega), Option.bind_some, c_atE (q := 1) (j := 1) h hl rfl (by omega) (by omega), Option.bind_some]
    dsimp only
    rw [c_lot h hl, Option.bind_some, c_sheL h hl (by omega), Option.bind_some, c_atE (q := 1) (j := 1) h hl rfl (by omega) (by omega), Option.bind_some]
    dsimp only
    rw [c_lot h hl, Option.bind_some, c_sheL h hl (by omega), Option.bind_some, c_atE (q := 1) (j := 1) h hl rfl (by omega) (by omega), Option.bind_some]
    dsimp only
    unfold gkb_X4_tellWinner_64_16
    rw [show nI (i + 1) + 1 = nI (i + 1 + 1) from cz_add (i + 1) 1, show ∀ j, 1 + 1 + 2 * j = 2 + 2 * j from fun j => by omega]
    by_cases c : D.book l (2 + 2 * (sp_best (fun j => D.book l (2 + 2 * j)) i).1) < D.book l (2 + 2 * (i + 1))
    · rw [if_neg (fun z => absurd c (nle64.mpr z))]
      rw [if_pos c] at st
      rw [st] at q
      exact q
    · rw [if_pos (nle64.mp c)]
      rw [if_neg c] at st
      rw [st] at q
      exact q
theorem c_tell (h : cw k0 k D J0 E cs g n) (hp : pi D M) (hl : l < D.nl) (hn0 : D.nE l ≠ 0) (hN : 5000 ≤ N) (hn : n + 3 ≤ 30000) : cp k0 (sp_win D l) J0 cs g (n + 3) (gk_X4_tellWinner N l k) () := by
  have e3 := (hp.lot l hl).e0.2
  have b1 := (best_p (g := fun j => D.book l (2 + 2 * j)) (D.nE l - 1)).1
  unfold gk_X4_tellWinner sp_win
  rw [c_lot h hl, Option.bind_some, c_sheL h hl (by omega), Option.bind_some, c_rowE h hp hl, Option.bind_some]
  dsimp only
  have q := c_twL (N := N) h hl e3 (D.nE l - 1) 0 N (by omega) (by omega)
  rw [show nI (sp_best (fun j => D.book l (2 + 2 * j)) 0).1 = 0 from rfl, show (sp_best (fun j => D.book l (2 + 2 * j)) 0).2 = 0 from rfl, show nI (0 + 1) = 1 from rfl] at q
  rw [q, Option.bind_some]
  dsimp only
  generalize sp_best (fun j => D.book l (2 + 2 * j)) (D.nE l - 1) = B at b1 ⊢
  rw [c_lot h hl, Option.bind_some, c_sheL h hl (by omega), Option.bind_some, c_atE (q := 1) (j := 1) h hl rfl (by omega) (by omega), Option.bind_some]
  dsimp only
  rw [c_lot h hl, Option.bind_some, (h.kd.l l hl).2, show 1 + 1 + 2 * B.1 = 2 + 2 * B.1 from by omega]
  obtain ⟨k1, E1, a1, h1⟩ := c_pF (N := N) (v := 1) (q := 4) (p := 4) h hl rfl (by omega) (by omega)
  by_cases c : D.book l (2 + 2 * B.1) < D.res l
  · rw [if_pos c, if_pos c]
    unfold gkb_X4_tellWinner_99
    rw [c_lot h hl, Option.bind_some, h.cel (dmF hl), Option.bind_some, a1, Option.bind_some]
    dsimp only
    rw [c_lot h1 (by exact hl), Option.bind_some, if_pos rfl]
    unfold gkb_X4_tellWinner_135
    rw [h1.cel (dmF (by exact hl)), Option.bind_some]
    obtain ⟨k2, E2, a2, h2⟩ := c_pF (N := N) (v := -1) (q := 5) (p := 5) (l := l) h1 (by exact hl) rfl (by omega) (by omega)
    rw [a2, Option.bind_some]
    dsimp only
    rw [c_lot h2 (by exact hl), Option.bind_some, if_pos rfl]
    unfold gkb_X4_tellWinner_168
    rw [h2.cel (dmF (by exact hl)), Option.bind_some]
    obtain ⟨k3, E3, a3, h3⟩ := c_pF (N := N) (v := 0) (q := 6) (p := 6) (l := l) h2 (by exact hl) rfl (by omega) (by omega)
    rw [a3, Option.bind_some]
    exact ⟨k3, E3, rfl, h3⟩
  · rw [if_neg c, if_neg c]
    unfold gkb_X4_tellWinner_99
    rw [c_lot h hl, Option.bind_some, h.cel (dmF hl), Option.bind_some, a1, Option.bind_some]
    dsimp only
    rw [c_lot h1 (by exact hl), Option.bind_some, if_neg (by decide), Option.bind_some, c_sheL h1 (by exact hl) (by omega), Option.bind_some, c_atE (q := 0) (j := 0) (l := l) h1 (by exact hl) rfl (by omega) (by omega), Option.bind_some]
    dsimp only
    unfold gkb_X4_tellWinner_135
    rw [h1.cel (dmF (by exact hl)), Option.bind_some, show (D.putF l 4 1).book l (1 + 0 + 2 * B.1) = D.book l (1 + 2 * B.1) from rfl]
    obtain ⟨k2, E2, a2, h2⟩ := c_pF (N := N) (v := D.book l (1 + 2 * B.1)) (q := 5) (p := 5) (l := l) h1 (by exact hl) rfl (by omega) (by omega)
    rw [a2, Option.bind_some]
    dsimp only
    rw [c_lot h2 (by exact hl), Option.bind_some, if_neg (by decide), Option.bind_some, Option.bind_some, c_start h2 (by exact hl), Option.bind_some]
    dsimp only
    unfold gkb_X4_tellWinner_168
    rw [h2.cel (dmF (by exact hl)), Option.bind_some, (h2.kd.l l (by exact hl)).2]
    obtain ⟨k3, E3, a3, h3⟩ := c_pF (N := N) (v := mx (mx (D.facts l 0) (D.res l)) B.2) (q := 6) (p := 6) (l := l) h2 (by exact hl) rfl (by omega) (by omega)
    rw [show (if (if ((D.putF l 4 1).putF l 5 (D.book l (1 + 2 * B.1))).facts l 0 < ((D.putF l 4 1).putF l 5 (D.book l (1 + 2 * B.1))).res l then ((D.putF l 4 1).putF l 5 (D.book l (1 + 2 * B.1))).res l else ((D.putF l 4 1).putF l 5 (D.book l (1 + 2 * B.1))).facts l 0) < B.2 then B.2 else (if ((D.putF l 4 1).putF l 5 (D.book l (1 + 2 * B.1))).facts l 0 < ((D.putF l 4 1).putF l 5 (D.book l (1 + 2 * B.1))).res l then ((D.putF l 4 1).putF l 5 (D.book l (1 + 2 * B.1))).res l else ((D.putF l 4 1).putF l 5 (D.book l (1 + 2 * B.1))).facts l 0)) = mx (mx (D.facts l 0) (D.res l)) B.2 from rfl, a3, Option.bind_some]
    exact ⟨k3, E3, rfl, h3⟩
theorem win_nn : (sp_win D l).nl = D.nl ∧ (sp_win D l).nb = D.nb ∧ (sp_win D l).kind = D.kind ∧ (sp_win D l).facts l 4 = 1 := by
  unfold sp_win
  dsimp only
  split <;> exact ⟨rfl, rfl, rfl, by dsimp only [pd.putF, up2, pd.room, pd.st, pd.br, pd.bal, pd.facts, pd.book, pd.lims, pd.sels, pd.kind, pd.res, pd.bkind, pd.purse]; rw [if_neg (by omega), if_neg (by omega), if_pos ⟨rfl, rfl⟩]⟩
theorem a_open {a : Int32} (hs : gk_X7_startAct N k00 = some ((), k0)) (h : cw k0 k0 D J0 [] cs g n) (hp : pi D M) (hN : 5000 ≤ N) (hn : n + 40 ≤ 30000) : ck N k0 k0 D J0 cs g n (gk_X7_open N a k00) (sp_openA D a) := by
  unfold gk_X7_open sp_openA
  rw [hs, Option.bind_some]
  dsimp only
  rw [c_lotAt h hp, Option.bind_some]
  dsimp only
  refine ck_wl hp (fun l la hl e => ?_) (fun c e => ?_) <;> rw [e] <;> dsimp only
  · have e3 := (hp.lot l hl).e0.2
    rw [c_lot h hl, Option.bind_some, (h.kd.l l hl).1]
    refine ck_ifn (by exact Decidable.not_not.symm) (fun _ => ck_no h (by decide) (by decide)) (fun k4 => ?_)
    have k4 := Decidable.not_not.mp k4
    rw [Option.bind_some, c_isOpen h hp hl, Option.bind_some]
    dsimp only
    refine ck_op h hp hl (fun ho => ?_)
    rw [c_lot h hl, Option.bind_some, c_opened h hl, Option.bind_some]
    dsimp only
    refine ck_ifn (by rw [b01]; exact Decidable.not_not.symm) (fun _ => ck_no h (by decide) (by decide)) (fun _ => ?_)
    rw [c_lot h hl, Option.bind_some, c_sheL h hl (by omega), Option.bind_some, c_rowE h hp hl, Option.bind_some]
    dsimp only
    refine ck_if (by rw [show (0 : Int32) = nI 0 from rfl, cz_eq (by omega) (by omega)]) (fun _ => ck_no h (by decide) (by decide)) (fun n0 => ?_)
    rw [c_lot h hl, Option.bind_some]
    obtain ⟨k1, E1, a1, h1⟩ := c_tell (N := N) h hp hl n0 hN (by omega)
    obtain ⟨y1, y2, y3, y4⟩ := win_nn (D := D) (l := l)
    have P1 := win_ok hp hl k4 n0
    rw [a1, Option.bind_some]
    dsimp only
    rw [c_lot h1 (by omega), Option.bind_some, c_ssum h1 P1 (by omega), Option.bind_some]
    have se : sp_ssum (sp_win D l) l = (sp_win D l).facts l 6 := by
      unfold sp_ssum
      rw [if_pos (by rw [y3]; exact k4), if_neg (ne1 y4)]
    rw [se]
    refine ck_ret h1 (by omega) (by omega) hn y2 y1 ?_
    obtain ⟨_, _, z | z⟩ := (P1.lot l (by omega)).op (ne1 y4)
    · rw [z.2]; exact (by decide : (0 : Int64) ≤ 0)
    · exact sum_ge z.2
  · rw [c_whyL c, Option.bind_some]
    exact ck_no h (okL c) rfl
theorem fin_nn {x : Int64} : (sp_finish D l x).nl = D.nl ∧ (sp_finish D l x).nb = D.nb := ⟨(fin_lot (D := D) (l := l) (m := 0) (x := x)).2.2.1, (fin_lot (D := D) (l := l) (m := 0) (x := x)).2.2.2.1⟩
theorem br_ge (hp : pi D M) (hl : l < D.nl) : 0 ≤ sp_brings D l := by
  rcases br_i hp hl with ⟨_, x, _⟩ | ⟨_, x⟩
  · rw [le_i]; show (0 : Int) ≤ _; omega
  · rw [x]; decide
theorem a_hammer {a : Int32} (hs : gk_X7_startAct N k00 = some ((), k0)) (h : cw k0 k0 D J0 [] cs g n) (hp : pi D M) (hN : 5000 ≤ N) (hn : n + 40 ≤ 30000) : ck N k0 k0 D J0 cs g n (gk_X7_hammer N a k00) (sp_hammer D a) := by
  unfold gk_X7_hammer sp_hammer
  rw [hs, Option.bind_some]
  dsimp only
  rw [c_lotAt h hp, Option.bind_some]
  dsimp only
  refine ck_wl hp (fun l la hl e => ?_) (fun c e => ?_) <;> rw [e] <;> dsimp only
  · have s4 := (hp.lot l hl).s0.2
    rw [c_lot h hl, Option.bind_some, c_isOpen h hp hl, Option.bind_some]
    dsimp only
    refine ck_op h hp hl (fun ho => ?_)
    have f2 := ne1 (notOpen_1 ho)
    rw [c_lot h hl, Option.bind_some, c_joined h hl, Option.bind_some]
    dsimp only
    refine ck_ifn (by rw [b01]; exact Decidable.not_not.symm) (fun _ => ck_no h (by decide) (by decide)) (fun _ => ?_)
    obtain ⟨k1, a1, h1⟩ := c_brings (N := N) h hp hl
    rw [a1, Option.bind_some]
    dsimp only
    have fin : ck N k0 k0 D J0 cs g n (gkb_X7_hammer_84 N l (sp_brings D l) k1) (sp_brings D l, sp_finish D l (sp_brings D l), sp_bringsC D l) := by
      unfold gkb_X7_hammer_84
      obtain ⟨k2, E2, a2, h2⟩ := c_finish (N := N) (x := sp_brings D l) h1 hp hl f2 hN (by omega)
      rw [a2, Option.bind_some]
      exact ck_retC h2 (by omega) (by omega) hn fin_nn.2 fin_nn.1 (br_ge hp hl)
    rcases br_i hp hl with ⟨sd, q1, q2⟩ | ⟨sd, q1⟩
    · rw [if_neg (show ¬ sp_brings D l ≤ 0 from fun z => by rw [le_i] at z; have : (0 : Int64).toInt = 0 := rfl; omega), c_lot h1 hl, Option.bind_some, c_sheL h1 hl (by omega), Option.bind_some, c_rowQ h1 hp hl, Option.bind_some]
      dsimp only
      by_cases c : D.nS l = 0
      · rw [if_pos (by rw [c]; rfl), if_pos ⟨sd, c⟩]
        exact ck_noC h1 (by decide) (by decide)
      · rw [if_neg (by rw [show (0 : Int32) = nI 0 from rfl, cz_eq (by omega) (by omega)]; exact c), if_neg (fun z => c z.2)]
        exact fin
    · rw [if_pos (show sp_brings D l ≤ 0 by rw [q1]; decide), if_neg (fun z => sd z.1)]
      exact fin
  · rw [c_whyL c, Option.bind_some]
    exact ck_no h (okL c) rfl
theorem c_lacks {x : Int64} (h : cw k0 k D J0 E cs g n) (hp : pi D M) (hl : l < D.nl) : cm k0 D J0 E (addC false cs (if x ≠ 0 then sp_pcC D l else [])) g n (gk_X7_lacksSeller N l x k) (if x ≠ 0 ∧ D.nS l = 0 then 1 else 0) := by
  have s4 := (hp.lot l hl).s0.2
  unfold gk_X7_lacksSeller
  by_cases c : x = 0
  · rw [if_pos c, if_neg (fun z => z c), if_neg (fun z => z.1 c), addC_nil h.tr.2.1]
    exact cm_ret h
  · rw [if_neg c, if_pos c]
    obtain ⟨k1, a1, h1⟩ := c_pieces (N := N) h hl
    rw [a1, Option.bind_some]
    dsimp only
    rw [c_lot h1 hl, Option.bind_some, c_sheL h1 hl (by omega), Option.bind_some, c_rowQ h1 hp hl, Option.bind_some]
    dsimp only
    by_cases z : D.nS l = 0
    · rw [if_pos (by rw [z]; rfl), if_pos ⟨c, z⟩]
      exact cm_ret h1
    · rw [if_neg (by rw [show (0 : Int32) = nI 0 from rfl, cz_eq (by omega) (by omega)]; exact z), if_neg (fun y => z y.2)]
      exact cm_ret h1
theorem c_part {w p : Nat} {a : Int32} {L : Int32} (h : cw k0 k D J0 E cs g n) (hw : w < D.nl) {q : Int32} {j : Nat} (hq : q = nI j) (hj : j < 14) : gk_X4_partNumber N w q a k = some (if D.facts w 11 = a.toInt64 then (D.facts w j).toInt32 else -1, k) := by
  unfold gk_X4_partNumber
  rw [c_lot h hw, Option.bind_some, h.cel (dmF hw), Option.bind_some, c_F (q := 11) (p := 11) h hw rfl (by omega), Option.bind_some]
  dsimp only
  rw [c_lot h hw, Option.bind_some, h.cel (dmF hw), Option.bind_some, c_F h hw hq (by omega), Option.bind_some]
  by_cases c : D.facts w 11 = a.toInt64
  · rw [if_pos c, if_pos c]
  · rw [if_neg c, if_neg c]
theorem a_settle {a : Int32} (hs : gk_X7_startAct N k00 = some ((), k0)) (h : cw k0 k0 D J0 [] cs g n) (hp : pi D M) (hN : 5000 ≤ N) (hn : n + 40 ≤ 30000) : ck N k0 k0 D J0 cs g n (gk_X7_settle N a k00) (sp_settle D a) := by
  have h4 := hp.l0.2
  unfold gk_X7_settle sp_settle gkb_X7_settle_57
  rw [hs, Option.bind_some]
  dsimp only
  rw [c_lotAt h hp, Option.bind_some]
  dsimp only
  refine ck_wl hp (fun w la hw e => ?_) (fun c e => ?_) <;> rw [e] <;> dsimp only
  · rw [c_lot h hw, Option.bind_some, c_part (p := 0) (L := 0) (q := 12) (j := 12) h hw rfl (by omega), Option.bind_some]
    dsimp only
    rw [c_lotAt h hp, Option.bind_some]
    dsimp only
    rw [c_lot h hw, Option.bind_some, c_part (p := 0) (L := 0) (q := 13) (j := 13) h hw rfl (by omega), Option.bind_some]
    dsimp only
    rw [c_lotAt h hp, Option.bind_some]
    dsimp only
    by_cases c : D.facts w 11 = a.toInt64
    · rw [if_neg (show ¬ D.facts w 11 ≠ a.toInt64 from fun z => z c), if_pos c, if_pos c]
      have c' := c
      rw [la, cl_64 (by omega)] at c'
      obtain ⟨p, q, hpp, hq, wp, wq, pq, e12, e13⟩ := settle_pq hp hw c'
      rw [e12, e13, cl_32 (by omega), cl_32 (by omega), if_pos (noLot_of hpp h4), if_pos (noLot_of hq h4), cz_ix (by omega), cz_ix (by omega)]
      dsimp only
      rw [c_lot h hw, Option.bind_some, c_isOpen h hp hw, Option.bind_some]
      dsimp only
      refine ck_op h hp hw (fun ow => ?_)
      rw [c_lot h hpp, Option.bind_some, c_isOpen h hp hpp, Option.bind_some]
      dsimp only
      refine ck_op h hp hpp (fun op => ?_)
      rw [c_lot h hq, Option.bind_some, c_isOpen h hp hq, Option.bind_some]
      dsimp only
      refine ck_op h hp hq (fun oq => ?_)
      have fw := ne1 (notOpen_1 ow)
      have fp := ne1 (notOpen_1 op)
      have fq := ne1 (notOpen_1 oq)
      obtain ⟨k1, a1, h1⟩ := c_brings (N := N) h hp hw
      rw [a1, Option.bind_some]
      dsimp only
      obtain ⟨k2, a2, h2⟩ := c_brings (N := N) h1 hp hpp
      rw [a2, Option.bind_some]
      dsimp only
      obtain ⟨k3, a3, h3⟩ := c_brings (N := N) h2 hp hq
      rw [a3, Option.bind_some]
      dsimp only
      rw [addC_add, addC_add, ← List.append_assoc] at h3
      have gg : ∀ (A : pd) (a b : Nat), A.facts b 2 ≠ 0 → (A.putF a 2 3).facts b 2 ≠ 0 := by
        intro A a b hb
        dsimp only [pd.putF, up2, pd.room, pd.st, pd.br, pd.bal, pd.facts, pd.book, pd.lims, pd.sels, pd.kind, pd.res, pd.bkind, pd.purse]
        split
        · decide
        · exact hb
      unfold sp_settleIn
      dsimp only
      by_cases k' : sp_brings D p + sp_brings D q < sp_brings D w
      · rw [if_neg (fun z => absurd k' (nle64.mpr z)), if_pos k']
        have xne : sp_brings D w ≠ 0 := by
          intro z
          rw [z, lt_i, add_i] at k'
          · rw [show (0 : Int64).toInt = 0 from rfl] at k'
            rcases br_i hp hpp with ⟨_, _, _⟩ | ⟨_, k1⟩ <;> rcases br_i hp hq with ⟨_, _, _⟩ | ⟨_, k2⟩ <;> (try rw [k1] at k') <;> (try rw [k2] at k') <;> (try rw [show (0 : Int64).toInt = 0 from rfl] at k') <;> omega
          · rcases br_i hp hpp with ⟨_, _, _⟩ | ⟨_, k1⟩ <;> rcases br_i hp hq with ⟨_, _, _⟩ | ⟨_, k2⟩ <;> (try rw [k1]) <;> (try rw [k2]) <;> (try rw [show (0 : Int64).toInt = 0 from rfl]) <;> omega
        unfold gkb_X7_settle_168 gkb_X7_settle_199
        obtain ⟨k4, a4, h4'⟩ := c_lacks (N := N) (x := sp_brings D w) h3 hp hw
        rw [if_pos xne, addC_add] at h4'
        rw [a4, Option.bind_some]
        dsimp only
        by_cases n0 : D.nS w = 0
        · rw [if_neg (show ¬ (if sp_brings D w ≠ 0 ∧ D.nS w = 0 then (1 : Int32) else 0) = 0 by rw [if_pos ⟨xne, n0⟩]; decide), if_pos n0]
          exact ck_noC h4' (by decide) (by decide)
        · rw [if_pos (show (if sp_brings D w ≠ 0 ∧ D.nS w = 0 then (1 : Int32) else 0) = 0 from if_neg (fun z => n0 z.2)), if_neg n0]
          obtain ⟨k5, a5, h5⟩ := c_lacks (N := N) (x := 0) h4' hp hpp
          rw [if_neg (show ¬ (0 : Int64) ≠ 0 from fun z => z rfl), addC_nil h4'.tr.2.1] at h5
          rw [a5, Option.bind_some]
          dsimp only
          rw [if_pos (show (if (0 : Int64) ≠ 0 ∧ D.nS p = 0 then (1 : Int32) else 0) = 0 from if_neg (fun z => z.1 rfl))]
          obtain ⟨k6, a6, h6⟩ := c_lacks (N := N) (x := 0) h5 hp hq
          rw [if_neg (show ¬ (0 : Int64) ≠ 0 from fun z => z rfl), addC_nil h5.tr.2.1] at h6
          rw [a6, Option.bind_some]
          dsimp only
          rw [if_pos (show (if (0 : Int64) ≠ 0 ∧ D.nS q = 0 then (1 : Int32) else 0) = 0 from if_neg (fun z => z.1 rfl))]
          obtain ⟨k7, E7, a7, h7⟩ := c_finish (N := N) (x := sp_brings D w) h6 hp hw fw hN (by omega)
          have L := fun m => fin_lot (D := D) (l := w) (m := m) (x := sp_brings D w)
          have P7 := pi_finish (x := sp_brings D w) hp hw fw
          rw [a7, Option.bind_some]
          dsimp only
          obtain ⟨k8, E8, a8, h8⟩ := c_finish (N := N) (l := p) (x := 0) h7 P7 (by rw [(L 0).2.2.1]; exact hpp) ((L p).2.2.2.2.2 fp) hN (by omega)
          have z0 : ∀ (A : pd) (m : Nat), sp_finish A m 0 = A.putF m 2 3 := fun A m => fin_neg (by decide)
          have P8 := pi_finish (l := p) (x := 0) P7 (by rw [(L 0).2.2.1]; exact hpp) ((L p).2.2.2.2.2 fp)
          rw [z0] at h8 P8
          rw [a8, Option.bind_some]
          dsimp only
          obtain ⟨k9, E9, a9, h9⟩ := c_finish (N := N) (l := q) (x := 0) h8 P8 (by show q < (sp_finish D w (sp_brings D w)).nl; rw [(L 0).2.2.1]; exact hq) (gg _ _ _ ((L q).2.2.2.2.2 fq)) hN (by omega)
          rw [z0] at h9
          rw [a9, Option.bind_some, Int64.add_zero, Int64.add_zero]
          exact ck_retC h9 (by omega) (by omega) hn fin_nn.2 fin_nn.1 (br_ge hp hw)
      · rw [if_pos (nle64.mp k'), if_neg k']
        unfold gkb_X7_settle_168 gkb_X7_settle_199
        obtain ⟨k4, a4, h4'⟩ := c_lacks (N := N) (x := 0) h3 hp hw
        rw [if_neg (show ¬ (0 : Int64) ≠ 0 from fun z => z rfl), addC_nil h3.tr.2.1] at h4'
        rw [a4, Option.bind_some]
        dsimp only
        rw [if_pos (show (if (0 : Int64) ≠ 0 ∧ D.nS w = 0 then (1 : Int32) else 0) = 0 from if_neg (fun z => z.1 rfl))]
        obtain ⟨k5, a5, h5⟩ := c_lacks (N := N) (x := sp_brings D p) h4' hp hpp
        rw [addC_add] at h5
        rw [a5, Option.bind_some]
        dsimp only
        by_cases n1 : sp_brings D p ≠ 0 ∧ D.nS p = 0
        · rw [if_neg (show ¬ (if sp_brings D p ≠ 0 ∧ D.nS p = 0 then (1 : Int32) else 0) = 0 by rw [if_pos n1]; decide), if_pos n1]
          rw [if_pos n1.1] at h5
          exact ck_noC h5 (by decide) (by decide)
        · rw [if_pos (show (if sp_brings D p ≠ 0 ∧ D.nS p = 0 then (1 : Int32) else 0) = 0 from if_neg n1), if_neg n1]
          obtain ⟨k6, a6, h6⟩ := c_lacks (N := N) (x := sp_brings D q) h5 hp hq
          rw [addC_add] at h6
          rw [a6, Option.bind_some]
          dsimp only
          by_cases n2 : sp_brings D q ≠ 0 ∧ D.nS q = 0
          · rw [if_neg (show ¬ (if sp_brings D q ≠ 0 ∧ D.nS q = 0 then (1 : Int32) else 0) = 0 by rw [if_pos n2]; decide), if_pos n2]
            rw [if_pos n2.1] at h6
            exact ck_noC h6 (by decide) (by decide)
          · rw [if_pos (show (if sp_brings D q ≠ 0 ∧ D.nS q = 0 then (1 : Int32) else 0) = 0 from if_neg n2), if_neg n2]
            have z0 : ∀ (A : pd) (m : Nat), sp_finish A m 0 = A.putF m 2 3 := fun A m => fin_neg (by decide)
            obtain ⟨k7, E7, a7, h7⟩ := c_finish (N := N) (x := 0) h6 hp hw fw hN (by omega)
            have P7 := pi_finish (x := 0) hp hw fw
            rw [z0] at h7 P7
            rw [a7, Option.bind_some]
            dsimp only
            obtain ⟨k8, E8, a8, h8⟩ := c_finish (N := N) (l := p) (x := sp_brings D p) h7 P7 (by exact hpp) (gg _ _ _ fp) hN (by omega)
            have P8 := pi_finish (l := p) (x := sp_brings D p) P7 (by exact hpp) (gg _ _ _ fp)
            have L := fun m => fin_lot (D := D.putF w 2 3) (l := p) (m := m) (x := sp_brings D p)
            rw [a8, Option.bind_some]
            dsimp only
            obtain ⟨k9, E9, a9, h9⟩ := c_finish (N := N) (l := q) (x := sp_brings D q) h8 P8 (by rw [(L 0).2.2.1]; exact hq) ((L q).2.2.2.2.2 (gg _ _ _ fq)) hN (by omega)
            rw [a9, Option.bind_some, Int64.zero_add]
            refine ck_retC h9 (by omega) (by omega) hn (fin_nn.2.trans fin_nn.2) (fin_nn.1.trans fin_nn.1) ?_
            have B : ∀ m, m < D.nl → 0 ≤ (sp_brings D m).toInt ∧ (sp_brings D m).toInt ≤ 12000000000000 := by
              intro m hm
              rcases br_i hp hm with ⟨_, x, y⟩ | ⟨_, x⟩
              · omega
              · rw [x]; decide
            have b2 := B p hpp
            have b3 := B q hq
            rw [le_i, add_i (by omega)]
            show (0 : Int) ≤ _
            omega
    · rw [if_pos (show D.facts w 11 ≠ a.toInt64 from c), if_neg c, if_neg c]
      rw [if_neg (show ¬ sp_noLot D (-1) = 0 by unfold sp_noLot; rw [if_pos (by decide)]; decide)]
      dsimp only
      exact ck_no h (by decide) (by decide)
  · rw [c_whyL c, Option.bind_some]
    exact ck_no h (okL c) rfl
end KC
