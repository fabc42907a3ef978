/-! acts of the class -/
abbrev okW (w : Int32) : Prop := 1 ≤ w ∧ w ≤ 14
def ck (N : Nat) (k0 kS : mt_S) (D : pd) (J0 : List je) (cs : List Int32) (g n : Nat) (o : Option (Int64 × mt_S)) (r : sr) : Prop :=
  (∃ k1 E1, o = some (r.1, k1) ∧ cw kS k1 r.2.1 J0 E1 (addC false cs r.2.2) (g + 8) (n + 40) ∧ r.2.1.nb = D.nb ∧ r.2.1.nl = D.nl ∧ 0 ≤ r.1) ∨ (∃ k1 w, o = gk_X7_refuse N w k1 ∧ cw k0 k1 D J0 [] (addC false cs r.2.2) g n ∧ r.1 = (-w).toInt64 ∧ r.2.1 = D ∧ okW w)
section KA
variable {N : Nat} {k00 k0 kS k : mt_S} {D : pd} {J0 E : List je} {cs : List Int32} {g n M l b : Nat} {v : Int64}
theorem ck_noC {w : Int32} {x : Int64} {L : List Int32} (h : cw k0 k D J0 [] (addC false cs L) g n) (hw : okW w) (hx : x = (-w).toInt64) : ck N k0 kS D J0 cs g n (Option.bind (gk_X7_refuse N w k) fun q => some (q.1, q.2)) (x, D, L) :=
  Or.inr ⟨k, w, bind_eta, h, hx, rfl, hw⟩
theorem ck_no {w : Int32} {x : Int64} (h : cw k0 k D J0 [] cs g n) (hw : okW w) (hx : x = (-w).toInt64) : ck N k0 kS D J0 cs g n (Option.bind (gk_X7_refuse N w k) fun q => some (q.1, q.2)) (x, D, []) :=
  ck_noC (by rw [addC_nil h.tr.2.1]; exact h) hw hx
theorem ck_ret {D' : pd} {x : Int64} {g' n' : Nat} (h : cw kS k D' J0 E cs g' n') (hg : g' ≤ g + 8) (hn : n' ≤ n + 40) (h3 : n + 40 ≤ 30000) (hb : D'.nb = D.nb) (hl : D'.nl = D.nl) (hr : 0 ≤ x) : ck N k0 kS D J0 cs g n (some (x, k)) (x, D', []) :=
  Or.inl ⟨k, E, rfl, cw_g (by rw [show ((x, D', []) : sr).2.2 = [] from rfl, addC_nil h.tr.2.1]; exact h) hg hn h3, hb, hl, hr⟩
theorem ck_retC {D' : pd} {x : Int64} {L : List Int32} {g' n' : Nat} (h : cw kS k D' J0 E (addC false cs L) g' n') (hg : g' ≤ g + 8) (hn : n' ≤ n + 40) (h3 : n + 40 ≤ 30000) (hb : D'.nb = D.nb) (hl : D'.nl = D.nl) (hr : 0 ≤ x) : ck N k0 kS D J0 cs g n (some (x, k)) (x, D', L) :=
  Or.inl ⟨k, E, rfl, cw_g h hg hn h3, hb, hl, hr⟩
theorem okL {a : Int32} (c : sp_noLot D a ≠ 0) : okW (sp_noLot D a) := by
  unfold sp_noLot at c ⊢
  split
  · decide
  · split
    · split
      · rename_i z1 z2 z3; rw [if_neg z1, if_pos z2, if_pos z3] at c; exact absurd rfl c
      · decide
    · decide
theorem okB {a : Int32} (c : sp_noBid D a ≠ 0) : okW (sp_noBid D a) := by
  unfold sp_noBid at c ⊢
  split
  · decide
  · split
    · split
      · rename_i z1 z2 z3; rw [if_neg z1, if_pos z2, if_pos z3] at c; exact absurd rfl c
      · decide
    · decide
theorem okO (c : sp_notOpen D l ≠ 0) : okW (sp_notOpen D l) := by
  unfold sp_notOpen at c ⊢
  split
  · decide
  · split
    · rename_i z1 z2; rw [if_neg z1, if_pos z2] at c; exact absurd rfl c
    · decide
theorem ck_wl {a : Int32} {o : Option (Int64 × mt_S)} {F : Nat → sr} (hp : pi D M) (h1 : ∀ l, a = nI l → l < D.nl → (if sp_noLot D a = 0 then some (ix a) else none) = some l → ck N k0 kS D J0 cs g n o (F l)) (h2 : sp_noLot D a ≠ 0 → (if sp_noLot D a = 0 then some (ix a) else none) = none → ck N k0 kS D J0 cs g n o ((-(sp_noLot D a)).toInt64, D, [])) : ck N k0 kS D J0 cs g n o (sp_withL D a F) := by
  unfold sp_withL
  by_cases c : sp_noLot D a = 0
  · obtain ⟨x, y⟩ := noLot0 hp.l0.2 c
    rw [if_pos c]
    exact h1 _ x y (if_pos c)
  · rw [if_neg c]
    exact h2 c (if_neg c)
theorem ck_wb {a : Int32} {o : Option (Int64 × mt_S)} {F : Nat → sr} (hp : pi D M) (h1 : ∀ l, a = nI l → l < D.nb → (if sp_noBid D a = 0 then some (ix a) else none) = some l → ck N k0 kS D J0 cs g n o (F l)) (h2 : sp_noBid D a ≠ 0 → (if sp_noBid D a = 0 then some (ix a) else none) = none → ck N k0 kS D J0 cs g n o ((-(sp_noBid D a)).toInt64, D, [])) : ck N k0 kS D J0 cs g n o (sp_withB D a F) := by
  unfold sp_withB
  by_cases c : sp_noBid D a = 0
  · obtain ⟨x, y⟩ := noBid0 hp.b0.2 c
    rw [if_pos c]
    exact h1 _ x y (if_pos c)
  · rw [if_neg c]
    exact h2 c (if_neg c)
theorem ck_op {o1 : Option (Int64 × mt_S)} {F : sr} (h : cw k0 k D J0 [] cs g n) (hp : pi D M) (hl : l < D.nl) (h1 : sp_notOpen D l = 0 → ck N k0 kS D J0 cs g n o1 F) : ck N k0 kS D J0 cs g n (if (if sp_notOpen D l = 0 then (1 : Int32) else 0) = 0 then Option.bind (gk_lot k l) fun _ => Option.bind (gk_X4_whyNotOpen N l k) fun q => Option.bind (gk_X7_refuse N q.1 q.2) fun q => some (q.1, q.2) else o1) (sp_open' D l F) := by
  unfold sp_open'
  by_cases c : sp_notOpen D l = 0
  · rw [if_neg (show ¬ (if sp_notOpen D l = 0 then (1 : Int32) else 0) = 0 by rw [if_pos c]; decide), if_pos c]
    exact h1 c
  · rw [if_pos (show (if sp_notOpen D l = 0 then (1 : Int32) else 0) = 0 from if_neg c), if_neg c, c_lot h hl, Option.bind_some, c_whyO h hp hl c, Option.bind_some]
    exact ck_no h (okO c) rfl
theorem ck_if {p q : Prop} [Decidable p] [Decidable q] {o1 o2 : Option (Int64 × mt_S)} {r1 r2 : sr} (hpq : p ↔ q) (h1 : q → ck N k0 kS D J0 cs g n o1 r1) (h2 : ¬ q → ck N k0 kS D J0 cs g n o2 r2) : ck N k0 kS D J0 cs g n (if p then o1 else o2) (if q then r1 else r2) := by
  by_cases c : q
  · rw [if_pos (hpq.mpr c), if_pos c]; exact h1 c
  · rw [if_neg (fun z => c (hpq.mp z)), if_neg c]; exact h2 c
theorem ck_ifn {p q : Prop} [Decidable p] [Decidable q] {o1 o2 : Option (Int64 × mt_S)} {r1 r2 : sr} (hpq : p ↔ ¬ q) (h1 : q → ck N k0 kS D J0 cs g n o2 r1) (h2 : ¬ q → ck N k0 kS D J0 cs g n o1 r2) : ck N k0 kS D J0 cs g n (if p then o1 else o2) (if q then r1 else r2) := by
  by_cases c : q
  · rw [if_neg (fun z => (hpq.mp z) c), if_pos c]; exact h1 c
  · rw [if_pos (hpq.mpr c), if_neg c]; exact h2 c
theorem c_isSum {x : Int64} : gk_X7_isSum N x k = some (if sp_sumOk x then 1 else 0, k) := by
  unfold gk_X7_isSum
  by_cases c : x < 1
  · rw [if_pos c, if_neg (fun z => z.1 c)]
  · rw [if_neg c]
    by_cases d : 1000000000000 < x
    · rw [if_pos d, if_neg (fun z => z.2 d)]
    · rw [if_neg d, if_pos ⟨c, d⟩]
theorem c_isMoney {x : Int64} : gk_X7_isMoney N x k = some (if sp_monOk x then 1 else 0, k) := by
  unfold gk_X7_isMoney
  by_cases c : x < 0
  · rw [if_pos c, if_neg (fun z => z.1 c)]
  · rw [if_neg c]
    by_cases d : 1000000000000 < x
    · rw [if_pos d, if_neg (fun z => z.2 d)]
    · rw [if_neg d, if_pos ⟨c, d⟩]
theorem c_isRate {x : Int32} : gk_X7_isRate N x k = some (if sp_rateOk x then 1 else 0, k) := by
  unfold gk_X7_isRate
  by_cases c : x < 0
  · rw [if_pos c, if_neg (fun z => z.1 c)]
  · rw [if_neg c]
    by_cases d : 10000 < x
    · rw [if_pos d, if_neg (fun z => z.2 d)]
    · rw [if_neg d, if_pos ⟨c, d⟩]
theorem ask_ge (hp : pi D M) (hl : l < D.nl) (ho : sp_notOpen D l = 0) : 0 ≤ sp_ask D l := by
  have I := hp.lot l hl
  unfold sp_ask
  split
  · rename_i k5
    exact sum_ge (I.pr k5 (ne1 (notOpen_1 ho)))
  · split
    · exact sum_ge I.so
    · split
      · exact sum_ge I.so
      · rename_i st
        have s1 := sum_i.mp (ssum_ok hp hl st)
        have s2 := sum_i.mp (aft_i hp (sp_ssum D l) (cn (D.st 0)) (Nat.le_refl _))
        unfold sp_after
        rw [le_i, add_i (by omega)]
        show (0 : Int) ≤ _
        omega
theorem a_ask {a : Int32} (hs : gk_X7_startAct N k00 = some ((), k0)) (h : cw k0 k0 D J0 [] cs g n) (hp : pi D M) (hN : 5000 ≤ N) (hn : n + 40 ≤ 30000) : ck N k0 k0 D J0 cs g n (gk_X7_ask N a k00) (sp_askA D a) := by
  unfold gk_X7_ask sp_askA
  rw [hs, Option.bind_some]
  dsimp only
  rw [c_lotAt h hp, Option.bind_some]
  dsimp only
  refine ck_wl hp (fun l la hl e => ?_) (fun c e => ?_) <;> rw [e] <;> dsimp only
  · rw [c_lot h hl, Option.bind_some, c_isOpen h hp hl, Option.bind_some]
    dsimp only
    refine ck_op h hp hl (fun ho => ?_)
    obtain ⟨k1, a1, h1⟩ := c_ask (N := N) h hp hl hN
    rw [a1, Option.bind_some]
    exact ck_retC h1 (by omega) (by omega) hn rfl rfl (ask_ge hp hl ho)
  · rw [c_whyL c, Option.bind_some]
    exact ck_no h (okL c) rfl
theorem a_at {a i q : Int32} {col : Nat} (hq : q = nI col) (hc : col < 2) (hs : gk_X7_startAct N k00 = some ((), k0)) (h : cw k0 k0 D J0 [] cs g n) (hp : pi D M) (hn : n + 40 ≤ 30000) : ck N k0 k0 D J0 cs g n (gk_X7_readEntry N a i q k00) (sp_at D a i col) := by
  unfold gk_X7_readEntry sp_at
  rw [hs, Option.bind_some]
  dsimp only
  rw [c_lotAt h hp, Option.bind_some]
  dsimp only
  refine ck_wl hp (fun l la hl e => ?_) (fun c e => ?_) <;> rw [e] <;> dsimp only
  · have I := hp.lot l hl
    have e3 := I.e0.2
    rw [c_lot h hl, Option.bind_some, c_hasBook h hp hl, Option.bind_some]
    dsimp only
    refine ck_if b01 (fun _ => ck_no h (by decide) (by decide)) (fun f2 => ?_)
    rw [c_lot h hl, Option.bind_some, Option.bind_some, (h.kd.l l hl).1, c_isOpen h hp hl, Option.bind_some]
    dsimp only
    rw [c_lot h hl, Option.bind_some, c_opened h hl, Option.bind_some]
    dsimp only
    have fin : ck N k0 k0 D J0 cs g n (gkb_X7_readEntry_72 N i q l k0) (if i < 0 ∨ nI (D.nE l) ≤ i then (-3, D, []) else (D.book l (1 + 2 * ix i + col), D, [])) := by
      unfold gkb_X7_readEntry_72 gkb_X7_readEntry_88
      by_cases c1 : i < 0
      · rw [if_pos c1, if_pos (Or.inl c1)]
        exact ck_no h (by decide) (by decide)
      · rw [if_neg c1, c_lot h hl, Option.bind_some, c_sheL h hl (by omega), Option.bind_some, c_rowE h hp hl, Option.bind_some]
        dsimp only
        obtain ⟨x, y⟩ := cz_of c1
        by_cases c2 : nI (D.nE l) ≤ i
        · rw [if_neg (fun z => absurd z (nle32.mpr c2)), if_pos (Or.inr c2)]
          exact ck_no h (by decide) (by decide)
        · have lt : i < nI (D.nE l) := Int32.not_le.mp c2
          rw [if_pos lt, if_neg (by rintro (z | z); exact c1 z; exact c2 z), c_lot h hl, Option.bind_some, c_sheL h hl (by omega), Option.bind_some]
          rw [x, cz_lt y (by omega)] at lt
          have r := c_atE (N := N) (i := ix i) h hl hq (by omega) hc
          rw [← x] at r
          rw [r, Option.bind_some, show 1 + col + 2 * ix i = 1 + 2 * ix i + col from by omega]
          refine ck_ret h (by omega) (by omega) hn rfl rfl ?_
          have h2 := hp.b0.2
          obtain ⟨⟨bb, b1, b2⟩, b3⟩ := I.eb (ix i) lt
          obtain z | z : col = 0 ∨ col = 1 := by omega
          · rw [z, Nat.add_zero, b2]; exact ofn_ge (by omega)
          · rw [z, show 1 + 2 * ix i + 1 = 2 + 2 * ix i from by omega]; exact sum_ge b3
    have o1 : sp_notOpen D l = 0 ↔ D.facts l 2 = 1 := by
      unfold sp_notOpen
      rw [if_neg f2]
      by_cases z : D.facts l 2 = 1
      · rw [if_pos z]; exact ⟨fun _ => z, fun _ => rfl⟩
      · rw [if_neg z]; exact ⟨fun y => absurd y (by decide), fun y => absurd y z⟩
    by_cases c4 : D.kind l = 4
    · rw [if_pos c4]
      by_cases c1 : D.facts l 2 = 1
      · rw [if_neg (show ¬ (if sp_notOpen D l = 0 then (1 : Int32) else 0) = 0 by rw [if_pos (o1.mpr c1)]; decide)]
        by_cases c0 : D.facts l 4 = 0
        · rw [if_pos (show (if D.facts l 4 = 0 then (0 : Int32) else 1) = 0 from if_pos c0), if_pos ⟨c4, c1, c0⟩]
          exact ck_no h (by decide) (by decide)
        · rw [if_neg (show ¬ (if D.facts l 4 = 0 then (0 : Int32) else 1) = 0 by rw [if_neg c0]; decide), if_neg (fun z => c0 z.2.2)]
          exact fin
      · rw [if_pos (show (if sp_notOpen D l = 0 then (1 : Int32) else 0) = 0 from if_neg (fun z => c1 (o1.mp z))), if_neg (fun z => c1 z.2.1)]
        exact fin
    · rw [if_neg c4, if_neg (fun z => c4 z.1)]
      exact fin
  · rw [c_whyL c, Option.bind_some]
    exact ck_no h (okL c) rfl
theorem a_seller {a b : Int32} (hs : gk_X7_startAct N k00 = some ((), k0)) (h : cw k0 k0 D J0 [] cs g n) (hp : pi D M) (hN : 5000 ≤ N) (hn : n + 40 ≤ 30000) : ck N k0 k0 D J0 cs g n (gk_X7_seller N a b k00) (sp_seller D a b) := by
  unfold gk_X7_seller sp_seller
  rw [hs, Option.bind_some]
  dsimp only
  rw [c_lotAt h hp, Option.bind_some]
  dsimp only
  refine ck_wl hp (fun l la hl e => ?_) (fun c e => ?_) <;> rw [e] <;> dsimp only
  · rw [c_bidW h hp, Option.bind_some]
    dsimp only
    refine ck_wb hp (fun b' lb hb e => ?_) (fun c e => ?_) <;> rw [e] <;> dsimp only
    · have s4 := (hp.lot l hl).s0.2
      have h2 := hp.b0.2
      rw [c_lot h hl, Option.bind_some, c_state h hl, Option.bind_some]
      dsimp only
      refine ck_ifn (by rw [sts32 hp hl (Or.inl rfl), ← cl_0]; exact Decidable.not_not.symm) (fun _ => ck_no h (by decide) (by decide)) (fun _ => ?_)
      rw [c_lot h hl, Option.bind_some, c_sheL h hl (by omega), Option.bind_some]
      have ro := c_rowOf (N := N) (a := b) (T := fun j => D.sels l (1 + j)) (m := D.nS l) (c := 206 + 4 * l) (k := k0) (fun j hj => c_atQ h hl (by omega)) (c_rowQ h hp hl) (c_sheL h hl (by omega)) (by omega) hN
      rw [ro, Option.bind_some]
      dsimp only
      refine ck_ifn (by rw [rowI_m1 (fun x hx => by obtain ⟨r1, r2, r3⟩ := fr_some _ _ _ hx; omega)]; exact Decidable.not_not.symm) (fun _ => ck_no h (by decide) (by decide)) (fun _ => ?_)
      rw [c_lot h hl, Option.bind_some, c_sheL h hl (by omega), Option.bind_some, c_rowQ h hp hl, Option.bind_some]
      dsimp only
      refine ck_ifn (by rw [show (4 : Int32) = nI 4 from rfl, cz_lt (by omega) (by omega)]; omega) (fun _ => ck_no h (by decide) (by decide)) (fun n4 => ?_)
      rw [c_lot h hl, Option.bind_some, Option.bind_some, c_sheL h hl (by omega), Option.bind_some]
      obtain ⟨k1, E1, a1, h1⟩ := c_addRow (N := N) h (dmQ hl) (by omega) (c_sheL h hl (by omega)) (c_rowQ h hp hl) (by omega) (by omega)
      rw [wrQ] at h1
      rw [a1, Option.bind_some]
      dsimp only
      rw [c_sheL h1 (by exact hl) (by omega), Option.bind_some]
      obtain ⟨k2, E2, a2, h2'⟩ := c_putS (N := N) (v := b.toInt64) (i := D.nS l) (q := 0) (j := 0) (w := 1) (p := 1 + D.nS l) h1 (dmQ (by exact hl)) (by omega) (c_sheL h1 (by exact hl) (by omega)) w2Q rfl (by omega) (by omega) (by omega)
      rw [wrQ] at h2'
      rw [a2, Option.bind_some]
      dsimp only
      have P2 : pi ((D.putQ l 0 (Int64.ofNat (D.nS l + 1))).putQ l (1 + D.nS l) b.toInt64) M := by rw [lb]; exact pi_seller hp hl hb (by omega)
      have nS2 : ((D.putQ l 0 (Int64.ofNat (D.nS l + 1))).putQ l (1 + D.nS l) b.toInt64).nS l = D.nS l + 1 := by
        show cn (((D.putQ l 0 (Int64.ofNat (D.nS l + 1))).putQ l (1 + D.nS l) b.toInt64).sels l 0) = _
        dsimp only [pd.putQ, up2, pd.room, pd.st, pd.br, pd.bal, pd.facts, pd.book, pd.lims, pd.sels, pd.kind, pd.res, pd.bkind, pd.purse]
        rw [if_neg (by omega), if_pos ⟨rfl, rfl⟩, cl_cn (by omega)]
      rw [c_lot h2' (by exact hl), Option.bind_some, c_sheL h2' (by exact hl) (by omega), Option.bind_some, c_rowQ h2' P2 (by exact hl), Option.bind_some, nS2]
      dsimp only
      rw [cl_64 (by omega)]
      exact ck_ret h2' (by omega) (by omega) hn rfl rfl (ofn_ge (by omega))
    · rw [c_whyB c, Option.bind_some]
      exact ck_no h (okB c) rfl
  · rw [c_whyL c, Option.bind_some]
    exact ck_no h (okL c) rfl
theorem a_cut {a r : Int32} (hs : gk_X7_startAct N k00 = some ((), k0)) (h : cw k0 k0 D J0 [] cs g n) (hp : pi D M) (hn : n + 40 ≤ 30000) : ck N k0 k0 D J0 cs g n (gk_X7_cut N a r k00) (sp_cut D a r) := by
  unfold gk_X7_cut sp_cut
  rw [hs, Option.bind_some]
  dsimp only
  rw [c_isRate, Option.bind_some]
  dsimp only
  refine ck_if b10 (fun _ => ck_no h (by decide) (by decide)) (fun _ => ?_)
  rw [c_lotAt h hp, Option.bind_some]
  dsimp only
  refine ck_wl hp (fun l la hl e => ?_) (fun c e => ?_) <;> rw [e] <;> dsimp only
  · rw [c_lot h hl, Option.bind_some, c_state h hl, Option.bind_some]
    dsimp only
    refine ck_ifn (by rw [sts32 hp hl (Or.inl rfl), ← cl_0]; exact Decidable.not_not.symm) (fun _ => ck_no h (by decide) (by decide)) (fun _ => ?_)
    rw [c_lot h hl, Option.bind_some, h.cel (dmF hl), Option.bind_some, c_F (q := 1) (p := 1) h hl rfl (by omega), Option.bind_some]
    dsimp only
    rw [c_lot h hl, Option.bind_some, h.cel (dmF hl), Option.bind_some]
    obtain ⟨k1, E1, a1, h1⟩ := c_pF (N := N) (v := r.toInt64) (q := 1) (p := 1) h hl rfl (by omega) (by omega)
    rw [a1, Option.bind_some]
    refine ck_ret h1 (by omega) (by omega) hn rfl rfl ?_
    obtain ⟨r, r1, r2⟩ := (hp.lot l hl).co
    rw [r2]; exact ofn_ge (by omega)
  · rw [c_whyL c, Option.bind_some]
    exact ck_no h (okL c) rfl
theorem wr_nb {c p : Nat} {v : Int64} (h0 : c ≠ 0) : (wrD D c p v).nb = D.nb ∧ (wrD D c p v).nl = D.nl := by
  obtain ⟨_, _, _, _, h⟩ := wr_keep (D := D) (c := c) (p := p) (v := v)
  exact h (fun z => absurd z h0)
theorem a_row {c : Nat} {x y : Int64} {D' : pd} (hc : c = 1 ∨ c = 2) (h : cw k0 k D J0 [] cs g n) (ht : rdD D c 0 = Int64.ofNat (cn (rdD D c 0)) ∧ cn (rdD D c 0) ≤ 20) (hD : D' = wrD (wrD (wrD D c 0 (Int64.ofNat (cn (rdD D c 0) + 1))) c (1 + 2 * cn (rdD D c 0)) x) c (2 + 2 * cn (rdD D c 0)) y) (hn : n + 40 ≤ 30000) : ck N k0 k0 D J0 cs g n (Option.bind (gk_X7_addTableRow N c x y k) fun q => some (q.1, q.2)) (if cn (rdD D c 0) = 20 then (-12, D, []) else if cn (rdD D c 0) ≠ 0 ∧ ¬ rdD D c (1 + 2 * (cn (rdD D c 0) - 1)) < x then (-10, D, []) else (Int64.ofNat (cn (rdD D c 0) + 1), D', [])) := by
  obtain ⟨t1, t2⟩ := ht
  rw [bind_eta]
  unfold gk_X7_addTableRow
  have rows : gk_X6_rows N c k = some (nI (cn (rdD D c 0)), k) := by
    unfold gk_X6_rows
    rw [c_tab hc, Option.bind_some, c_sheT hc, Option.bind_some, c_rowT h hc t1 t2, Option.bind_some]
  rw [c_tab hc, Option.bind_some, rows, Option.bind_some]
  dsimp only
  rw [c_tab hc, Option.bind_some, rows, Option.bind_some]
  dsimp only
  refine ck_ifn (by rw [show (20 : Int32) = nI 20 from rfl, cz_lt (by omega) (by omega)]; omega) (fun _ => ck_no h (by decide) (by decide)) (fun n20 => ?_)
  have fin : ck N k0 k0 D J0 cs g n (gkb_X7_addTableRow_39 N c x y k) (Int64.ofNat (cn (rdD D c 0) + 1), D', []) := by
    unfold gkb_X7_addTableRow_39
    rw [c_tab hc, Option.bind_some]
    unfold gk_X6_add
    rw [c_tab hc, Option.bind_some, c_sheT hc, Option.bind_some]
    obtain ⟨k1, E1, a1, h1⟩ := c_addRow (N := N) h (dmR (c := c) (by omega)) (by omega) (c_sheT hc) (c_rowT h hc t1 t2) (by omega) (by omega)
    rw [a1, Option.bind_some]
    dsimp only
    rw [c_tab hc, Option.bind_some, c_sheT hc, Option.bind_some]
    obtain ⟨k2, E2, a2, h2⟩ := c_putS (N := N) (v := x) (i := cn (rdD D c 0)) (q := 0) (j := 0) (w := 2) (p := 1 + 2 * cn (rdD D c 0)) h1 (dmR (c := c) (by omega)) (by omega) (c_sheT hc) (w2T hc) rfl (by omega) (by omega) (by omega)
    rw [a2, Option.bind_some]
    dsimp only
    rw [c_tab hc, Option.bind_some, c_sheT hc, Option.bind_some]
    obtain ⟨k3, E3, a3, h3⟩ := c_putS (N := N) (v := y) (i := cn (rdD D c 0)) (q := 1) (j := 1) (w := 2) (p := 2 + 2 * cn (rdD D c 0)) h2 (dmR (c := c) (by omega)) (by omega) (c_sheT hc) (w2T hc) rfl (by omega) (by omega) (by omega)
    rw [a3, Option.bind_some, Option.bind_some]
    dsimp only
    rw [← hD] at h3
    have r0 : rdD D' c 0 = Int64.ofNat (cn (rdD D c 0) + 1) := by
      rw [hD, rd_wr, if_neg (by omega), rd_wr, if_neg (by omega), rd_wr, if_pos ⟨rfl, rfl⟩]
    have c0 : cn (rdD D' c 0) = cn (rdD D c 0) + 1 := by rw [r0, cl_cn (by omega)]
    rw [c_tab hc, Option.bind_some]
    unfold gk_X6_rows
    rw [c_tab hc, Option.bind_some, c_sheT hc, Option.bind_some, c_rowT h3 hc (by rw [c0, r0]) (by omega), Option.bind_some, Option.bind_some, c0]
    dsimp only
    rw [cl_64 (by omega)]
    have nn : D'.nb = D.nb ∧ D'.nl = D.nl := by
      rw [hD]
      have z : c ≠ 0 := by omega
      exact ⟨(wr_nb z).1.trans ((wr_nb z).1.trans (wr_nb z).1), (wr_nb z).2.trans ((wr_nb z).2.trans (wr_nb z).2)⟩
    exact ck_ret h3 (by omega) (by omega) hn nn.1 nn.2 (ofn_ge (by omega))
  by_cases c0 : cn (rdD D c 0) = 0
  · rw [if_pos (by rw [c0]; decide), if_neg (fun z => z.1 c0)]
    exact fin
  · rw [if_neg (by rw [show (0 : Int32) = nI 0 from rfl, cz_le (by omega) (by omega)]; omega), c_tab hc, Option.bind_some]
    unfold gk_X6_lastFrom
    rw [c_tab hc, Option.bind_some, Option.bind_some, c_sheT hc, Option.bind_some, c_rowT h hc t1 t2, Option.bind_some]
    dsimp only
    rw [c_sheT hc, Option.bind_some, show nI (cn (rdD D c 0)) - 1 = nI (cn (rdD D c 0) - 1) from cz_sub (b := 1) (by omega) (by omega), c_atT (q := 0) (j := 0) h hc rfl (by omega) (by omega), Option.bind_some, Option.bind_some]
    dsimp only
    rw [show 1 + 0 + 2 * (cn (rdD D c 0) - 1) = 1 + 2 * (cn (rdD D c 0) - 1) from by omega]
    refine ck_ifn ⟨fun z y => y.2 z, fun z => Decidable.not_not.mp (fun y => z ⟨c0, y⟩)⟩ (fun _ => ck_no h (by decide) (by decide)) (fun _ => fin)
theorem a_step {x y : Int64} (hs : gk_X7_startAct N k00 = some ((), k0)) (h : cw k0 k0 D J0 [] cs g n) (hp : pi D M) (hn : n + 40 ≤ 30000) : ck N k0 k0 D J0 cs g n (gk_X7_step N x y k00) (sp_step D x y) := by
  unfold gk_X7_step sp_step gkb_X7_step_18
  rw [hs, Option.bind_some]
  dsimp only
  rw [c_isMoney, Option.bind_some]
  dsimp only
  rw [c_isSum, Option.bind_some]
  dsimp only
  by_cases c1 : sp_monOk x
  · rw [if_neg (show ¬ (if sp_monOk x then (1 : Int32) else 0) = 0 by rw [if_pos c1]; decide)]
    by_cases c2 : sp_sumOk y
    · rw [if_neg (show ¬ (if sp_sumOk y then (1 : Int32) else 0) = 0 by rw [if_pos c2]; decide), if_neg (by rintro (z | z); exact z c1; exact z c2)]
      exact a_row (Or.inl rfl) h hp.st.t0 rfl hn
    · rw [if_pos (show (if sp_sumOk y then (1 : Int32) else 0) = 0 from if_neg c2), if_pos (Or.inr c2)]
      exact ck_no h (by decide) (by decide)
  · rw [if_pos (show (if sp_monOk x then (1 : Int32) else 0) = 0 from if_neg c1), if_pos (Or.inl c1)]
    exact ck_no h (by decide) (by decide)
theorem a_prem {x : Int64} {r : Int32} (hs : gk_X7_startAct N k00 = some ((), k0)) (h : cw k0 k0 D J0 [] cs g n) (hp : pi D M) (hn : n + 40 ≤ 30000) : ck N k0 k0 D J0 cs g n (gk_X7_premium N x r k00) (sp_prem D x r) := by
  unfold gk_X7_premium sp_prem gkb_X7_premium_18
  rw [hs, Option.bind_some]
  dsimp only
  rw [c_isMoney, Option.bind_some]
  dsimp only
  rw [c_isRate, Option.bind_some]
  dsimp only
  by_cases c1 : sp_monOk x
  · rw [if_neg (show ¬ (if sp_monOk x then (1 : Int32) else 0) = 0 by rw [if_pos c1]; decide)]
    by_cases c2 : sp_rateOk r
    · rw [if_neg (show ¬ (if sp_rateOk r then (1 : Int32) else 0) = 0 by rw [if_pos c2]; decide), if_neg (by rintro (z | z); exact z c1; exact z c2)]
      exact a_row (Or.inr rfl) h hp.br.t0 rfl hn
    · rw [if_pos (show (if sp_rateOk r then (1 : Int32) else 0) = 0 from if_neg c2), if_pos (Or.inr c2)]
      exact ck_no h (by decide) (by decide)
  · rw [if_pos (show (if sp_monOk x then (1 : Int32) else 0) = 0 from if_neg c1), if_pos (Or.inl c1)]
    exact ck_no h (by decide) (by decide)
theorem a_tax {t r : Int32} (hs : gk_X7_startAct N k00 = some ((), k0)) (h : cw k0 k0 D J0 [] cs g n) (hp : pi D M) (hn : n + 40 ≤ 30000) : ck N k0 k0 D J0 cs g n (gk_X7_tax N t r k00) (sp_taxA D t r) := by
  unfold gk_X7_tax sp_taxA gkb_X7_tax_21
  rw [hs, Option.bind_some]
  dsimp only
  by_cases c1 : t < 1
  · rw [if_pos c1, if_pos (Or.inl c1)]
    exact ck_no h (by decide) (by decide)
  · rw [if_neg c1]
    by_cases c2 : 5 < t
    · rw [if_pos c2, if_pos (Or.inr (Or.inl c2))]
      exact ck_no h (by decide) (by decide)
    · rw [if_neg c2, c_isRate, Option.bind_some]
      dsimp only
      by_cases c3 : sp_rateOk r
      · rw [if_neg (show ¬ (if sp_rateOk r then (1 : Int32) else 0) = 0 by rw [if_pos c3]; decide), if_neg (by rintro (z | z | z); exact c1 z; exact c2 z; exact z c3)]
        obtain ⟨q1, q2, q3⟩ := kd_ix c1 c2
        have e5 : 5 + t = nI (5 + ix t) := by
          have : (5 : Int32) + nI (ix t) = nI (5 + ix t) := cz_add 5 _
          rw [← q1] at this
          exact this
        rw [h.cel (dmR (by omega)), Option.bind_some, c_R (p := 5 + ix t) h e5 (by omega), Option.bind_some]
        dsimp only
        rw [h.cel (dmR (by omega)), Option.bind_some]
        obtain ⟨k1, E1, a1, h1⟩ := c_pR (N := N) (v := r.toInt64) (q := 5 + t) (p := 5 + ix t) h e5 (by omega) (by omega) (by omega)
        rw [a1, Option.bind_some]
        have nn : (D.putR (5 + ix t) r.toInt64).nb = D.nb ∧ (D.putR (5 + ix t) r.toInt64).nl = D.nl := (wr_keep (D := D) (c := 0) (p := 5 + ix t) (v := r.toInt64)).2.2.2.2 (fun _ => by omega)
        refine ck_ret h1 (by omega) (by omega) hn nn.1 nn.2 ?_
        obtain ⟨r, r1, r2⟩ := hp.tx _ q2 q3
        rw [r2]; exact ofn_ge (by omega)
      · rw [if_pos (show (if sp_rateOk r then (1 : Int32) else 0) = 0 from if_neg c3), if_pos (Or.inr (Or.inr c3))]
        exact ck_no h (by decide) (by decide)
end KA
