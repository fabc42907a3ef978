/-! more acts of the class -/
section KB
variable {N : Nat} {k00 k0 k : mt_S} {D : pd} {J0 E : List je} {cs : List Int32} {g n M l b : Nat} {v : Int64}
theorem pap_nn : (sp_papers D l).nl = D.nl ∧ (sp_papers D l).nb = D.nb ∧ (sp_papers D l).facts l 2 = D.facts l 2 := by
  unfold sp_papers
  split
  · exact ⟨rfl, rfl, rfl⟩
  · dsimp only
    split
    · exact ⟨rfl, rfl, rfl⟩
    · split <;> exact ⟨rfl, rfl, rfl⟩
theorem a_call {a : Int32} (hs : gk_X7_startAct N k00 = some ((), k0)) (h : cw k0 k0 D J0 [] cs g n) (hp : pi D M) (hM : M < 2 ^ 31) (hN : 5000 ≤ N) (hn : n + 40 ≤ 30000) : ck N k0 k0 D J0 cs g n (gk_X7_call N a k00) (sp_call D a) := by
  unfold gk_X7_call sp_call
  rw [hs, Option.bind_some]
  dsimp only
  rw [c_lotAt h hp, Option.bind_some]
  dsimp only
  refine ck_wl hp (fun l la hl e => ?_) (fun c e => ?_) <;> rw [e] <;> dsimp only
  · have I := hp.lot l hl
    rw [c_lot h hl, Option.bind_some, c_state h hl, Option.bind_some]
    dsimp only
    refine ck_ifn (by rw [sts32 hp hl (Or.inl rfl), ← cl_0]; exact Decidable.not_not.symm) (fun _ => ck_no h (by decide) (by decide)) (fun f2 => ?_)
    have n0 := I.en (Decidable.not_not.mp f2)
    rw [c_lot h hl, Option.bind_some, h.cel (dmF hl), Option.bind_some]
    obtain ⟨k1, E1, a1, h1⟩ := c_pF (N := N) (v := 1) (q := 2) (p := 2) h hl rfl (by omega) (by omega)
    rw [a1, Option.bind_some]
    dsimp only
    rw [c_lot h1 (by exact hl), Option.bind_some, Option.bind_some, Option.bind_some, (h1.kd.l l (by exact hl)).1, c_start h1 (by exact hl), Option.bind_some]
    dsimp only
    rw [h1.cel (dmF (by exact hl)), Option.bind_some]
    have fin : ∀ (k : mt_S) (E : List je) (D1 : pd), cw k0 k D1 J0 E cs g (n + 2) → pi D1 M → D1.nl = D.nl → D1.nb = D.nb → D1.nE l < 300 → D1.facts l 2 ≠ 0 → ck N k0 k0 D J0 cs g n (gkb_X7_call_66 N l k) ((sp_papers D1 l).book l 0, sp_papers D1 l, []) := by
      intro k E D1 h1 P1 e1 e2 e3 e4
      have hl1 : l < D1.nl := by omega
      obtain ⟨y1, y2, y3⟩ := pap_nn (D := D1) (l := l)
      unfold gkb_X7_call_66
      obtain ⟨k2, E2, a2, h2⟩ := c_papers (N := N) h1 P1 hl1 hM e3 hN (by omega)
      rw [a2, Option.bind_some]
      have P2 := pi_papers P1 hl1 hM e3 e4
      have J := (P2.lot l (by omega)).e0
      dsimp only
      rw [c_lot h2 (by omega), Option.bind_some, c_sheL h2 (by omega) (by omega), Option.bind_some, c_rowE h2 P2 (by omega), Option.bind_some]
      dsimp only
      rw [cl_64 (by have := J.2; omega), ← J.1]
      refine ck_ret h2 (by omega) (by omega) hn (by omega) (by omega) ?_
      rw [J.1]; exact ofn_ge (by have := J.2; omega)
    have pc := pi_call hp hl
    rw [show (D.putF l 2 1).kind l = D.kind l from rfl]
    by_cases c5 : D.kind l = 5
    · rw [if_pos c5]
      rw [if_pos c5] at pc
      obtain ⟨k2, E2, a2, h2⟩ := c_pF (N := N) (v := D.facts l 0) (q := 3) (p := 3) (l := l) h1 (by exact hl) rfl (by omega) (by omega)
      rw [show (D.putF l 2 1).facts l 0 = D.facts l 0 from rfl, a2, Option.bind_some, if_pos c5]
      exact fin k2 E2 _ h2 pc rfl rfl (by show D.nE l < 300; omega) (by dsimp only [pd.putF, up2, pd.room, pd.st, pd.br, pd.bal, pd.facts, pd.book, pd.lims, pd.sels, pd.kind, pd.res, pd.bkind, pd.purse]; rw [if_neg (by omega), if_pos ⟨rfl, rfl⟩]; decide)
    · rw [if_neg c5, if_neg c5]
      rw [if_neg c5] at pc
      exact fin k1 E1 _ (cw_g h1 (by omega) (by omega) (by omega)) pc rfl rfl (by show D.nE l < 300; omega) (by dsimp only [pd.putF, up2, pd.room, pd.st, pd.br, pd.bal, pd.facts, pd.book, pd.lims, pd.sels, pd.kind, pd.res, pd.bkind, pd.purse]; rw [if_pos ⟨rfl, rfl⟩]; decide)
  · rw [c_whyL c, Option.bind_some]
    exact ck_no h (okL c) rfl
theorem cw_num {w : Int32} (h : cw k0 k D J0 E cs g n) : cw (gm_setI k0 0 0 w) (gm_setI k 0 0 w) D J0 E cs g n := by
  refine ⟨?_, h.k2, h.k3, h.dim, ⟨h.kd.l, h.kd.b⟩, h.cv, h.le, h.lf, ⟨h.j.ln, h.j.cap, h.j.en, h.j.ok⟩, h.dp, h.ev, h.ed, h.tr, h.bu⟩
  intro r hr
  funext j
  dsimp only [gm_setI]
  rw [h.kf r hr]
theorem c_enterB {bI nn : Int32} (h : cw k0 k D J0 E cs g n) (hp : pi D M) (hl : l < D.nl) (hE : D.nE l < 300) (hn : n + 5 ≤ 30000) : cp k0 (((sp_enter D l bI v).putF l 7 v).putF l 8 nn.toInt64) J0 cs (g + 2) (n + 5) (gk_X4_enterBid N l bI v nn k) () := by
  unfold gk_X4_enterBid
  rw [c_lot h hl, Option.bind_some]
  obtain ⟨k1, E1, a1, h1⟩ := c_enter (N := N) (v := v) (bI := bI) h hp hl hE (by omega)
  rw [a1, Option.bind_some]
  dsimp only
  rw [c_lot h1 (by exact hl), Option.bind_some, h1.cel (dmF (by exact hl)), Option.bind_some]
  obtain ⟨k2, E2, a2, h2⟩ := c_pF (N := N) (v := v) (q := 7) (p := 7) (l := l) h1 (by exact hl) rfl (by omega) (by omega)
  rw [a2, Option.bind_some]
  dsimp only
  rw [c_lot h2 (by exact hl), Option.bind_some, h2.cel (dmF (by exact hl)), Option.bind_some]
  obtain ⟨k3, E3, a3, h3⟩ := c_pF (N := N) (v := nn.toInt64) (q := 8) (p := 8) (l := l) h2 (by exact hl) rfl (by omega) (by omega)
  rw [a3, Option.bind_some]
  exact ⟨k3, E3, rfl, h3⟩
theorem c_has {bI : Int32} (h : cw k0 k D J0 E cs g n) (hp : pi D M) (hl : l < D.nl) (hN : 5000 ≤ N) : gk_X4_hasBidderAlready N l bI k = some (if sp_has D l bI then 1 else 0, k) := by
  have e3 := (hp.lot l hl).e0.2
  unfold gk_X4_hasBidderAlready
  rw [c_lot h hl, Option.bind_some, Option.bind_some, (h.kd.l l hl).1, c_sheL h hl (by omega), Option.bind_some, Option.bind_some, c_stand h hp hl, Option.bind_some]
  have ro := c_rowOf (N := N) (a := bI) (T := fun j => D.book l (1 + 2 * j)) (m := D.nE l) (c := 204 + 4 * l) (k := k) (fun j hj => c_atE (q := 0) (j := 0) h hl rfl (by omega) (by omega)) (c_rowE h hp hl) (c_sheL h hl (by omega)) (by omega) hN
  rw [ro, Option.bind_some]
  dsimp only
  by_cases c4 : D.kind l = 4
  · have e : sp_has D l bI ↔ fr (fun j => D.book l (1 + 2 * j)) bI.toInt64 (D.nE l) 0 ≠ none := by unfold sp_has; rw [if_pos c4]
    rw [if_pos c4]
    have rm := rowI_m1 (r := fr (fun j => D.book l (1 + 2 * j)) bI.toInt64 (D.nE l) 0) (fun x hx => by obtain ⟨r1, r2, r3⟩ := fr_some _ _ _ hx; omega)
    by_cases z : fr (fun j => D.book l (1 + 2 * j)) bI.toInt64 (D.nE l) 0 = none
    · rw [if_pos (rm.mpr z), if_neg (fun y => e.mp y z)]
    · rw [if_neg (fun y => z (rm.mp y)), if_pos (e.mpr z)]
  · have e : sp_has D l bI ↔ sp_stand D l = bI := by unfold sp_has; rw [if_neg c4]
    rw [if_neg c4]
    by_cases z : sp_stand D l = bI
    · rw [if_pos z, if_pos (e.mpr z)]
    · rw [if_neg z, if_neg (fun y => z (e.mp y))]
theorem a_bid {a b : Int32} {x : Int64} {m : Nat} (hs : gk_X7_startAct N k00 = some ((), k0)) (h : cw k0 k0 D J0 [] cs g n) (hp : pi D M) (hm : k0.1 0 0 = nI m) (hm1 : M ≤ m) (hm2 : m + 1 < 2 ^ 31) (hN : 5000 ≤ N) (hn : n + 40 ≤ 30000) : ck N k0 (gm_setI k0 0 0 (nI (m + 1))) D J0 cs g n (gk_X7_bid N a b x k00) (sp_bid D (nI (m + 1)) a b x) := by
  unfold gk_X7_bid sp_bid
  rw [hs, Option.bind_some]
  dsimp only
  rw [c_isSum, Option.bind_some]
  dsimp only
  refine ck_if b10 (fun _ => ck_no h (by decide) (by decide)) (fun hx => ?_)
  have hx : sp_sumOk x := Decidable.not_not.mp hx
  rw [c_lotAt h hp, Option.bind_some]
  dsimp only
  refine ck_wl hp (fun l la hl e => ?_) (fun c e => ?_) <;> rw [e] <;> dsimp only
  · have I := hp.lot l hl
    have e3 := I.e0.2
    rw [c_lot h hl, Option.bind_some, (h.kd.l l hl).1]
    refine ck_if Iff.rfl (fun _ => ck_no h (by decide) (by decide)) (fun k5 => ?_)
    rw [c_bidW h hp, Option.bind_some]
    dsimp only
    refine ck_wb hp (fun c lb hb e => ?_) (fun c e => ?_) <;> rw [e] <;> dsimp only
    · rw [c_bid h hb, Option.bind_some, c_paper h hb, Option.bind_some]
      dsimp only
      refine ck_ifn b10 (fun _ => ck_no h (by decide) (by decide)) (fun _ => ?_)
      rw [c_lot h hl, Option.bind_some, c_isOpen h hp hl, Option.bind_some]
      dsimp only
      refine ck_op h hp hl (fun ho => ?_)
      have f2 := ne1 (notOpen_1 ho)
      rw [c_lot h hl, Option.bind_some, c_opened h hl, Option.bind_some]
      dsimp only
      refine ck_ifn (by rw [b01]; exact Decidable.not_not.symm) (fun _ => ck_no h (by decide) (by decide)) (fun _ => ?_)
      rw [c_lot h hl, Option.bind_some, c_has h hp hl hN, Option.bind_some]
      dsimp only
      refine ck_ifn b10 (fun _ => ck_no h (by decide) (by decide)) (fun _ => ?_)
      obtain ⟨k1, a1, h1⟩ := c_ask (N := N) h hp hl hN
      rw [a1, Option.bind_some]
      dsimp only
      refine ck_ifn (by rw [nle64]) (fun _ => ck_noC h1 (by decide) (by decide)) (fun _ => ?_)
      rw [c_nl h1 hp, Option.bind_some]
      dsimp only
      obtain ⟨k2, a2, h2⟩ := c_may (N := N) (x := x) h1 hp hl hb hN
      rw [a2, Option.bind_some]
      dsimp only
      rw [addC_add] at h2
      refine ck_if b10 (fun _ => ck_noC h2 (by decide) (by decide)) (fun _ => ?_)
      rw [c_lot h2 hl, Option.bind_some, c_sheL h2 hl (by omega), Option.bind_some, c_rowE h2 hp hl, Option.bind_some]
      dsimp only
      refine ck_ifn (by rw [show (299 : Int32) = nI 299 from rfl, cz_lt (by omega) (by omega)]; omega) (fun _ => ck_noC h2 (by decide) (by decide)) (fun h9 => ?_)
      rw [h2.kf 0 (by decide), hm, show nI m + 1 = nI (m + 1) from cz_add m 1, pI_e, Option.bind_some]
      have h3 := cw_num (w := nI (m + 1)) h2
      rw [c_lot h3 hl, Option.bind_some, show (gm_setI k2 0 0 (nI (m + 1))).1 0 0 = nI (m + 1) from rfl]
      obtain ⟨k4, E4, a4, h4⟩ := c_enterB (N := N) (v := x) (bI := b) (nn := nI (m + 1)) h3 hp hl (by omega) (by omega)
      rw [a4, Option.bind_some]
      dsimp only
      rw [lb] at h4 ⊢
      have P1 := pi_enter (b := c) (v := x) hp hl hb hx (by omega) f2
      have P2 := pi_bid (n := m + 1) (x := x) P1 (l := l) hl hx (by omega) (by omega)
      have nE1 : (((sp_enter D l (nI c) x).putF l 7 x).putF l 8 (nI (m + 1)).toInt64).nE l = D.nE l + 1 := sp_enter_nE (by omega)
      obtain ⟨k5, E5, a5, h5⟩ := c_papers (N := N) h4 P2 hl (by omega) (by omega) hN (by omega)
      rw [a5, Option.bind_some]
      dsimp only
      rw [show k5.1 0 0 = nI (m + 1) from by rw [h5.kf 0 (by decide)]; rfl]
      obtain ⟨y1, y2, y3⟩ := pap_nn (D := ((sp_enter D l (nI c) x).putF l 7 x).putF l 8 (nI (m + 1)).toInt64) (l := l)
      exact ck_retC h5 (by omega) (by omega) hn y2 y1 (nle64.mp (nn_ge (by omega)))
    · rw [c_whyB c, Option.bind_some]
      exact ck_no h (okB c) rfl
  · rw [c_whyL c, Option.bind_some]
    exact ck_no h (okL c) rfl
theorem a_limit {a b : Int32} {x : Int64} {m : Nat} (hs : gk_X7_startAct N k00 = some ((), k0)) (h : cw k0 k0 D J0 [] cs g n) (hp : pi D M) (hm : k0.1 0 0 = nI m) (hm1 : M ≤ m) (hm2 : m + 1 < 2 ^ 31) (hN : 5000 ≤ N) (hn : n + 40 ≤ 30000) : ck N k0 (gm_setI k0 0 0 (nI (m + 1))) D J0 cs g n (gk_X7_limit N a b x k00) (sp_limit D (nI (m + 1)) a b x) := by
  unfold gk_X7_limit sp_limit gkb_X7_limit_179
  rw [hs, Option.bind_some]
  dsimp only
  rw [c_isSum, Option.bind_some]
  dsimp only
  refine ck_if b10 (fun _ => ck_no h (by decide) (by decide)) (fun hx => ?_)
  have hx : sp_sumOk x := Decidable.not_not.mp hx
  rw [c_lotAt h hp, Option.bind_some]
  dsimp only
  refine ck_wl hp (fun l la hl e => ?_) (fun c e => ?_) <;> rw [e] <;> dsimp only
  · have I := hp.lot l hl
    have e3 := I.e0.2
    have l4 := I.l0.2
    rw [c_lot h hl, Option.bind_some, c_raised h hl, Option.bind_some]
    dsimp only
    refine ck_if b01 (fun _ => ck_no h (by decide) (by decide)) (fun k5 => ?_)
    rw [c_bidW h hp, Option.bind_some]
    dsimp only
    refine ck_wb hp (fun c lb hb e => ?_) (fun c e => ?_) <;> rw [e] <;> dsimp only
    · rw [c_bid h hb, Option.bind_some, c_paper h hb, Option.bind_some]
      dsimp only
      refine ck_if b10 (fun _ => ck_no h (by decide) (by decide)) (fun _ => ?_)
      rw [c_lot h hl, Option.bind_some, c_newCal h hp hl, Option.bind_some]
      dsimp only
      refine ck_if b10 (fun _ => ck_no h (by decide) (by decide)) (fun hst => ?_)
      rw [c_lot h hl, Option.bind_some, c_sheL h hl (by omega), Option.bind_some]
      have ro := c_rowOf (N := N) (a := b) (T := fun j => D.lims l (1 + 3 * j)) (m := D.nL l) (c := 205 + 4 * l) (k := k0) (fun j hj => c_atL (q := 0) (j := 0) h hl rfl (by omega) (by omega)) (c_rowL h hp hl) (c_sheL h hl (by omega)) (by omega) hN
      rw [ro, Option.bind_some]
      dsimp only
      refine ck_ifn (by rw [rowI_m1 (fun x hx => by obtain ⟨r1, r2, r3⟩ := fr_some _ _ _ hx; omega)]; exact Decidable.not_not.symm) (fun _ => ck_no h (by decide) (by decide)) (fun _ => ?_)
      rw [c_nl h hp, Option.bind_some]
      dsimp only
      obtain ⟨k2, a2, h2⟩ := c_may (N := N) (x := x) h hp hl hb hN
      rw [a2, Option.bind_some]
      dsimp only
      refine ck_if b10 (fun _ => ck_noC h2 (by decide) (by decide)) (fun _ => ?_)
      rw [c_lot h2 hl, Option.bind_some, c_sheL h2 hl (by omega), Option.bind_some, c_rowL h2 hp hl, Option.bind_some]
      dsimp only
      rw [c_lot h2 hl, Option.bind_some, c_sheL h2 hl (by omega), Option.bind_some, c_rowE h2 hp hl, Option.bind_some]
      dsimp only
      by_cases z40 : D.nL l = 40
      · rw [if_pos (show (40 : Int32) ≤ nI (D.nL l) from (cz_le (a := 40) (by omega) (by omega)).mpr (by omega)), if_pos (Or.inl z40)]
        exact ck_noC h2 (by decide) (by decide)
      · rw [if_neg (show ¬ (40 : Int32) ≤ nI (D.nL l) from fun z => by have := (cz_le (a := 40) (by omega) (by omega)).mp z; omega)]
        by_cases z3 : D.nE l < 300
        · rw [if_pos (show nI (D.nE l) < 300 from (cz_lt (b := 300) (by omega) (by omega)).mpr z3), if_neg (by omega)]
          rw [h2.kf 0 (by decide), hm, show nI m + 1 = nI (m + 1) from cz_add m 1, pI_e, Option.bind_some]
          have h3 := cw_num (w := nI (m + 1)) h2
          rw [c_lot h3 hl, Option.bind_some, show (gm_setI k2 0 0 (nI (m + 1))).1 0 0 = nI (m + 1) from rfl]
          obtain ⟨k4, E4, a4, h4⟩ := c_writeL (N := N) (v := x) (bI := b) (nn := nI (m + 1)) h3 hp hl (by omega) (by omega)
          rw [a4, Option.bind_some]
          dsimp only
          rw [lb] at h4 ⊢
          have P2 : pi (sp_limPut D (nI (m + 1)) l (nI c) x) (m + 1) := pi_lim hp hl hb hx (by omega) hm2 (by omega)
          have lE : sp_limIn D (nI (m + 1)) l (nI c) x = if D.facts l 2 = 1 then sp_papers (sp_limPut D (nI (m + 1)) l (nI c) x) l else sp_limPut D (nI (m + 1)) l (nI c) x := rfl
          rw [lE, c_lot h4 (by exact hl), Option.bind_some, c_state h4 (by exact hl), Option.bind_some]
          dsimp only
          rw [show (sp_limPut D (nI (m + 1)) l (nI c) x).facts l 2 = D.facts l 2 from rfl]
          by_cases c1 : D.facts l 2 = 1
          · rw [if_pos (show (D.facts l 2).toInt32 = 1 by rw [c1]; rfl), if_pos c1]
            obtain ⟨k5, E5, a5, h5⟩ := c_papers (N := N) h4 P2 hl hm2 (by exact z3) hN (by omega)
            rw [a5, Option.bind_some]
            dsimp only
            rw [show k5.1 0 0 = nI (m + 1) from by rw [h5.kf 0 (by decide)]; rfl]
            obtain ⟨y1, y2, y3⟩ := pap_nn (D := sp_limPut D (nI (m + 1)) l (nI c) x) (l := l)
            exact ck_retC h5 (by omega) (by omega) hn y2 y1 (nle64.mp (nn_ge (by omega)))
          · rw [if_neg (show ¬ (D.facts l 2).toInt32 = 1 by rw [sts32 hp hl (Or.inr (Or.inl rfl)), ← cl_1]; exact c1), if_neg c1]
            rw [show k4.1 0 0 = nI (m + 1) from by rw [h4.kf 0 (by decide)]; rfl]
            exact ck_retC h4 (by omega) (by omega) hn rfl rfl (nle64.mp (nn_ge (by omega)))
        · rw [if_neg (show ¬ nI (D.nE l) < 300 from fun z => z3 ((cz_lt (b := 300) (by omega) (by omega)).mp z)), if_pos (by omega)]
          exact ck_noC h2 (by decide) (by decide)
    · rw [c_whyB c, Option.bind_some]
      exact ck_no h (okB c) rfl
  · rw [c_whyL c, Option.bind_some]
    exact ck_no h (okL c) rfl
theorem mx_l {a b : Int64} : mx a b = if a < b then b else a := rfl
theorem a_tick {a : Int32} {x : Int64} (hs : gk_X7_startAct N k00 = some ((), k0)) (h : cw k0 k0 D J0 [] cs g n) (hp : pi D M) (hn : n + 40 ≤ 30000) : ck N k0 k0 D J0 cs g n (gk_X7_tick N a x k00) (sp_tick D a x) := by
  unfold gk_X7_tick sp_tick
  rw [hs, Option.bind_some]
  dsimp only
  rw [c_isSum, Option.bind_some]
  dsimp only
  refine ck_if b10 (fun _ => ck_no h (by decide) (by decide)) (fun hx => ?_)
  rw [c_lotAt h hp, Option.bind_some]
  dsimp only
  refine ck_wl hp (fun l la hl e => ?_) (fun c e => ?_) <;> rw [e] <;> dsimp only
  · rw [c_lot h hl, Option.bind_some, (h.kd.l l hl).1]
    refine ck_ifn (by exact Decidable.not_not.symm) (fun _ => ck_no h (by decide) (by decide)) (fun k5 => ?_)
    rw [Option.bind_some, c_isOpen h hp hl, Option.bind_some]
    dsimp only
    refine ck_op h hp hl (fun ho => ?_)
    rw [c_lot h hl, Option.bind_some, c_stand h hp hl, Option.bind_some]
    dsimp only
    refine ck_ifn (by exact Decidable.not_not.symm) (fun _ => ck_no h (by decide) (by decide)) (fun _ => ?_)
    rw [c_lot h hl, Option.bind_some, Option.bind_some, h.cel (dmF hl), Option.bind_some, c_F (q := 3) (p := 3) h hl rfl (by omega), Option.bind_some]
    dsimp only
    rw [(h.kd.l l hl).2, show (if 1 < D.res l then D.res l else 1) = mx 1 (D.res l) from rfl]
    refine ck_ifn (by exact Decidable.not_not.symm) (fun _ => ck_no h (by decide) (by decide)) (fun _ => ?_)
    have tv : (if mx 1 (D.res l) < D.facts l 3 - x then D.facts l 3 - x else mx 1 (D.res l)) = sp_tickV D l x := by
      unfold sp_tickV
      by_cases z1 : mx 1 (D.res l) < D.facts l 3 - x
      · rw [if_pos z1, if_neg (fun z2 => by rw [lt_i] at z1 z2; omega)]
      · rw [if_neg z1]
        by_cases z2 : D.facts l 3 - x < mx 1 (D.res l)
        · rw [if_pos z2]
        · rw [if_neg z2, ← Int64.toInt_inj]
          rw [lt_i] at z1 z2
          omega
    rw [c_lot h hl, Option.bind_some, h.cel (dmF hl), Option.bind_some, tv]
    obtain ⟨k1, E1, a1, h1⟩ := c_pF (N := N) (v := sp_tickV D l x) (q := 3) (p := 3) h hl rfl (by omega) (by omega)
    rw [a1, Option.bind_some]
    dsimp only
    rw [c_lot h1 (by exact hl), Option.bind_some, h1.cel (dmF (by exact hl)), Option.bind_some, c_F (q := 3) (p := 3) (l := l) h1 (by exact hl) rfl (by omega), Option.bind_some]
    rw [show (D.putF l 3 (sp_tickV D l x)).facts l 3 = sp_tickV D l x from up2_s]
    exact ck_ret h1 (by omega) (by omega) hn rfl rfl (sum_ge (tick_ok hp hl (Decidable.not_not.mp hx) ((hp.lot l hl).pr (Decidable.not_not.mp k5) (ne1 (notOpen_1 ho)))))
  · rw [c_whyL c, Option.bind_some]
    exact ck_no h (okL c) rfl
theorem a_take {a b : Int32} (hs : gk_X7_startAct N k00 = some ((), k0)) (h : cw k0 k0 D J0 [] cs g n) (hp : pi D M) (hn : n + 40 ≤ 30000) : ck N k0 k0 D J0 cs g n (gk_X7_take N a b k00) (sp_take D a b) := by
  unfold gk_X7_take sp_take
  rw [hs, Option.bind_some]
  dsimp only
  rw [c_lotAt h hp, Option.bind_some]
  dsimp only
  refine ck_wl hp (fun l la hl e => ?_) (fun c e => ?_) <;> rw [e] <;> dsimp only
  · rw [c_lot h hl, Option.bind_some, (h.kd.l l hl).1]
    refine ck_ifn (by exact Decidable.not_not.symm) (fun _ => ck_no h (by decide) (by decide)) (fun k5 => ?_)
    have k5 := Decidable.not_not.mp k5
    rw [c_bidW h hp, Option.bind_some]
    dsimp only
    refine ck_wb hp (fun c lb hb e => ?_) (fun c e => ?_) <;> rw [e] <;> dsimp only
    · rw [c_bid h hb, Option.bind_some, (h.kd.b c hb).1]
      refine ck_ifn (by exact Decidable.not_not.symm) (fun _ => ck_no h (by decide) (by decide)) (fun _ => ?_)
      rw [c_lot h hl, Option.bind_some, c_isOpen h hp hl, Option.bind_some]
      dsimp only
      refine ck_op h hp hl (fun ho => ?_)
      rw [c_lot h hl, Option.bind_some, c_stand h hp hl, Option.bind_some]
      dsimp only
      refine ck_ifn (by exact Decidable.not_not.symm) (fun _ => ck_no h (by decide) (by decide)) (fun hst => ?_)
      have n0 := stand_0 hp hl (by rw [k5]; decide) (Decidable.not_not.mp hst)
      rw [c_lot h hl, Option.bind_some, h.cel (dmF hl), Option.bind_some, c_F (q := 3) (p := 3) h hl rfl (by omega), Option.bind_some]
      dsimp only
      rw [c_lot h hl, Option.bind_some]
      obtain ⟨k1, E1, a1, h1⟩ := c_enter (N := N) (v := D.facts l 3) (bI := b) h hp hl (by omega) (by omega)
      rw [a1, Option.bind_some]
      dsimp only
      rw [c_lot h1 (by exact hl), Option.bind_some, h1.cel (dmF (by exact hl)), Option.bind_some, c_F (q := 3) (p := 3) (l := l) h1 (by exact hl) rfl (by omega), Option.bind_some]
      exact ck_ret h1 (by omega) (by omega) hn rfl rfl (sum_ge ((hp.lot l hl).pr k5 (ne1 (notOpen_1 ho))))
    · rw [c_whyB c, Option.bind_some]
      exact ck_no h (okB c) rfl
  · rw [c_whyL c, Option.bind_some]
    exact ck_no h (okL c) rfl
theorem c_add (h : cw k0 k D J0 E cs g n) (hp : pi D M) (hb : b < D.nb) (hn : n < 30000) : cp k0 (D.putB b 0 (D.bal b 0 + v)) J0 cs g (n + 1) (gk_X0_add N b v k) () := by
  unfold gk_X0_add
  rw [c_bid h hb, Option.bind_some, Option.bind_some, h.cel (dmB hb), Option.bind_some, c_B h hb hp.b0.2, Option.bind_some]
  dsimp only
  rw [h.cel (dmB hb), Option.bind_some]
  obtain ⟨k1, E1, a, d⟩ := c_pB (N := N) (v := D.bal b 0 + v) h hb hp.b0.2 hn
  rw [a, Option.bind_some]
  exact ⟨k1, E1, rfl, d⟩
theorem a_pay {b : Int32} {x : Int64} (hs : gk_X7_startAct N k00 = some ((), k0)) (h : cw k0 k0 D J0 [] cs g n) (hp : pi D M) (hn : n + 40 ≤ 30000) : ck N k0 k0 D J0 cs g n (gk_X7_pay N b x k00) (sp_pay D b x) := by
  unfold gk_X7_pay sp_pay
  rw [hs, Option.bind_some]
  dsimp only
  rw [c_isSum, Option.bind_some]
  dsimp only
  refine ck_if b10 (fun _ => ck_no h (by decide) (by decide)) (fun hx => ?_)
  rw [c_bidW h hp, Option.bind_some]
  dsimp only
  refine ck_wb hp (fun c lb hb e => ?_) (fun c e => ?_) <;> rw [e] <;> dsimp only
  · rw [c_bid h hb, Option.bind_some]
    unfold gk_X0_balanceNow
    rw [c_bid h hb, Option.bind_some, h.cel (dmB hb), Option.bind_some, c_B h hb hp.b0.2, Option.bind_some, Option.bind_some]
    dsimp only
    refine ck_ifn (by rw [nle64]) (fun _ => ck_no h (by decide) (by decide)) (fun _ => ?_)
    rw [c_bid h hb, Option.bind_some]
    obtain ⟨k1, E1, a1, h1⟩ := c_add (N := N) (v := x) h hp hb (by omega)
    rw [a1, Option.bind_some]
    dsimp only
    obtain ⟨k2, E2, a2, h2⟩ := c_bookTo (N := N) (q := 4) (p := 4) (v := -x) h1 rfl (by omega) (by omega) (by omega)
    rw [a2, Option.bind_some]
    exact ck_ret h2 (by omega) (by omega) hn rfl rfl (sum_ge (Decidable.not_not.mp hx))
  · rw [c_whyB c, Option.bind_some]
    exact ck_no h (okB c) rfl
theorem a_payOut {b : Int32} {x : Int64} (hs : gk_X7_startAct N k00 = some ((), k0)) (h : cw k0 k0 D J0 [] cs g n) (hp : pi D M) (hn : n + 40 ≤ 30000) : ck N k0 k0 D J0 cs g n (gk_X7_payOut N b x k00) (sp_payOut D b x) := by
  unfold gk_X7_payOut sp_payOut
  rw [hs, Option.bind_some]
  dsimp only
  rw [c_isSum, Option.bind_some]
  dsimp only
  refine ck_if b10 (fun _ => ck_no h (by decide) (by decide)) (fun hx => ?_)
  rw [c_bidW h hp, Option.bind_some]
  dsimp only
  refine ck_wb hp (fun c lb hb e => ?_) (fun c e => ?_) <;> rw [e] <;> dsimp only
  · rw [c_bid h hb, Option.bind_some]
    unfold gk_X0_balanceNow
    rw [c_bid h hb, Option.bind_some, h.cel (dmB hb), Option.bind_some, c_B h hb hp.b0.2, Option.bind_some, Option.bind_some]
    dsimp only
    refine ck_ifn (by rw [nle64]) (fun _ => ck_no h (by decide) (by decide)) (fun _ => ?_)
    rw [c_bid h hb, Option.bind_some]
    obtain ⟨k1, E1, a1, h1⟩ := c_add (N := N) (v := -x) h hp hb (by omega)
    rw [a1, Option.bind_some]
    dsimp only
    obtain ⟨k2, E2, a2, h2⟩ := c_bookTo (N := N) (q := 4) (p := 4) (v := x) h1 rfl (by omega) (by omega) (by omega)
    rw [a2, Option.bind_some]
    exact ck_ret h2 (by omega) (by omega) hn rfl rfl (sum_ge (Decidable.not_not.mp hx))
  · rw [c_whyB c, Option.bind_some]
    exact ck_no h (okB c) rfl
end KB
