/-! acts of the reference: making, joining, offering again -/
section W3
variable {N : Nat} {s0 s : mt_S} {D : pd} {e M : Nat} {ag : Bool} {cs : List Int32}
theorem w_newB {k : Int32} {x : Int64} (h : rs s0 s D e ag cs) (hp : pi D M) : wk s0 ag cs e (gm_X8_newBidder N k x s) (sp_bidder D k x) := by
  have hb := hp.b0.2
  have l1 : s.2.2 1 = 200 := h.v.len 1 (by decide)
  have l2 : s.2.2 2 = 200 := h.v.len 2 (by decide)
  have l3 : s.2.2 3 = 200 := h.v.len 3 (by decide)
  have fin : wk s0 ag cs e (gb_X8_newBidder_33 N k x s) (if D.nb = 200 then (-12, D, []) else (Int64.ofNat D.nb, sp_newB D k x, [])) := by
    unfold gb_X8_newBidder_33
    rw [h.v.nb]
    refine wk_if (by rw [show (200 : Int32) = nI 200 from rfl, cz_eq (by omega) (by omega)]) (fun _ => wk_no h) (fun n => ?_)
    rw [gm_wrI (by omega) (by omega), Option.bind_some, show (gm_setI s 1 D.nb k).1 0 0 = nI D.nb from h.v.nb, gm_wrL (by show _ < s.2.2 2; omega) (by omega), Option.bind_some, show (gm_setL (gm_setI s 1 D.nb k) 2 D.nb x).1 0 0 = nI D.nb from h.v.nb, gm_wrL (by show _ < s.2.2 3; omega) (by omega), Option.bind_some, show (gm_setL (gm_setL (gm_setI s 1 D.nb k) 2 D.nb x) 3 D.nb 0).1 0 0 = nI D.nb from h.v.nb]
    unfold gm_pI
    rw [Option.bind_some, sI_same, cz_lit 1, cz_add, cl_64 (by omega)]
    rw [show Int64.ofNat (D.nb + 1) - 1 = Int64.ofNat D.nb from by rw [← cl_add]; simp [show Int64.ofNat 1 = 1 from rfl]]
    exact wk_ret (rs_of h (hi_I (hi_L (hi_L (hi_I hi_refl (by decide)) (by decide)) (by decide)) (by decide)) (rv_newB h.v (by omega))) (by omega)
  unfold gm_X8_newBidder sp_bidder
  by_cases c1 : k < 1
  · rw [if_pos c1, if_pos (Or.inl c1)]; exact wk_no h
  · rw [if_neg c1]
    by_cases c2 : 4 < k
    · rw [if_pos c2, if_pos (Or.inr (Or.inl c2))]; exact wk_no h
    · rw [if_neg c2]
      by_cases c3 : k = 3
      · rw [if_pos c3]
        by_cases c4 : x < 0
        · rw [if_pos c4, if_pos (Or.inr (Or.inr ⟨c3, fun z => z.1 c4⟩))]; exact wk_no h
        · rw [if_neg c4]
          by_cases c5 : 1000000000000 < x
          · rw [if_neg (by rw [← nle64]; exact fun z => z c5), if_pos (Or.inr (Or.inr ⟨c3, fun z => z.2 c5⟩))]; exact wk_no h
          · rw [if_pos (nle64.mp c5), if_neg (by rintro (z | z | z); exact c1 z; exact c2 z; exact z.2 ⟨c4, c5⟩)]
            exact fin
      · rw [if_neg c3, if_neg (by rintro (z | z | z); exact c1 z; exact c2 z; exact c3 z.1)]
        exact fin
theorem w_newL {k : Int32} {x y : Int64} (h : rs s0 s D e ag cs) (hp : pi D M) : wk s0 ag cs e (gm_X8_newLot N k x y s) (sp_lot D k x y) := by
  have hb := hp.l0.2
  have fin : wk s0 ag cs e (gb_X8_newLot_48 N k x y s) (if D.nl = 400 then (-12, D, []) else (Int64.ofNat D.nl, sp_newL D k x y, [])) := by
    unfold gb_X8_newLot_48
    rw [h.v.nl]
    refine wk_if (by rw [show (400 : Int32) = nI 400 from rfl, cz_eq (by omega) (by omega)]) (fun _ => wk_no h) (fun n => ?_)
    have ll := lsc_len h.v (l := D.nl) (by omega)
    rw [gm_wrI (ll 5 (by decide)) (by omega), Option.bind_some, gm_wrL (by exact ll 7 (by decide)) (by omega), Option.bind_some, gm_wrI (by exact ll 8 (by decide)) (by omega), Option.bind_some, gm_wrI (by exact ll 12 (by decide)) (by omega), Option.bind_some, gm_wrI (by exact ll 30 (by decide)) (by omega), Option.bind_some]
    rw [show (gm_setI (gm_setI (gm_setI (gm_setL (gm_setI s 5 D.nl k) 7 D.nl y) 8 D.nl 0) 12 D.nl 0) 30 D.nl (-1)).1 4 0 = nI D.nl from h.v.nl]
    unfold gm_pI
    rw [Option.bind_some, cz_lit 1, cz_add, w_renew (by exact ll) (by omega), Option.bind_some, cl_64 (by omega)]
    exact wk_ret (rs_of h (hi_ren (hi_I (hi_I (hi_I (hi_I (hi_L (hi_I hi_refl (by decide)) (by decide)) (by decide)) (by decide)) (by decide)) (by decide))) (rv_newL h.v (by omega))) (by omega)
  unfold gm_X8_newLot sp_lot
  by_cases c1 : k < 1
  · rw [if_pos c1, if_pos (Or.inl c1)]; exact wk_no h
  · rw [if_neg c1]
    by_cases c2 : 5 < k
    · rw [if_pos c2, if_pos (Or.inr (Or.inl c2))]; exact wk_no h
    · rw [if_neg c2, w_isSum, Option.bind_some]
      dsimp only
      by_cases c3 : sp_sumOk x
      · rw [if_neg (fun z => (b10.mp z) c3)]
        have k32 : sp_monOk y → wk s0 ag cs e (gb_X8_newLot_32 N k x y s) (if k < 1 ∨ 5 < k ∨ ¬ sp_sumOk x ∨ ¬ sp_monOk y ∨ (k = 5 ∧ x < y) then (-1, D, []) else if D.nl = 400 then (-12, D, []) else (Int64.ofNat D.nl, sp_newL D k x y, [])) := by
          intro hy
          unfold gb_X8_newLot_32
          by_cases c5 : k = 5
          · rw [if_pos c5]
            by_cases c6 : x < y
            · rw [if_neg (by rw [← nle64]; exact fun z => z c6), if_pos (Or.inr (Or.inr (Or.inr (Or.inr ⟨c5, c6⟩))))]; exact wk_no h
            · rw [if_pos (nle64.mp c6), if_neg (by rintro (z | z | z | z | z); exact c1 z; exact c2 z; exact z c3; exact z hy; exact c6 z.2)]
              exact fin
          · rw [if_neg c5, if_neg (by rintro (z | z | z | z | z); exact c1 z; exact c2 z; exact z c3; exact z hy; exact c5 z.1)]
            exact fin
        by_cases c4 : y = 0
        · rw [if_pos c4]
          exact k32 (by rw [c4]; exact ⟨by decide, by decide⟩)
        · rw [if_neg c4, w_isSum, Option.bind_some]
          dsimp only
          have eq : sp_sumOk y ↔ sp_monOk y := by
            rw [sum_i, mon_i]
            have : y.toInt ≠ 0 := fun z => c4 (by rw [← Int64.toInt_inj, z]; rfl)
            omega
          by_cases c5 : sp_monOk y
          · rw [if_neg (fun z => (b10.mp z) (eq.mpr c5))]
            exact k32 c5
          · rw [if_pos (b10.mpr (fun z => c5 (eq.mp z))), if_pos (Or.inr (Or.inr (Or.inr (Or.inl c5))))]; exact wk_no h
      · rw [if_pos (b10.mpr c3), if_pos (Or.inr (Or.inr (Or.inl c3)))]; exact wk_no h
theorem ren_F {l p : Nat} {x : Int64} (h1 : 2 ≤ p) (h2 : p ≤ 10) : (sp_renew D l x).facts l p = 0 := by
  obtain rfl | rfl | rfl | rfl | rfl | rfl | rfl | rfl | rfl : p = 2 ∨ p = 3 ∨ p = 4 ∨ p = 5 ∨ p = 6 ∨ p = 7 ∨ p = 8 ∨ p = 9 ∨ p = 10 := by omega
  all_goals simp [sp_renew, sp_zero, pd.putF, pd.putE, pd.putL, up2, pd.room, pd.st, pd.br, pd.bal, pd.facts, pd.book, pd.lims, pd.sels, pd.kind, pd.res, pd.bkind, pd.purse]
theorem ren_do {l : Nat} {x : Int64} : dou l D (sp_renew D l x) := by
  unfold sp_renew
  simp only [sp_zero]
  exact do_L (do_E (do_F (do_F (do_F (do_F (do_F (do_F (do_F (do_F (do_F (do_F do_refl))))))))))) 
theorem ren_G {l p : Nat} {x : Int64} (h : p = 1 ∨ 11 ≤ p) : (sp_renew D l x).facts l p = D.facts l p := by
  have z : (sp_renew D l x).facts l p = (if p = 10 ∧ l = l then 0 else if p = 9 ∧ l = l then 0 else if p = 8 ∧ l = l then 0 else if p = 7 ∧ l = l then 0 else if p = 6 ∧ l = l then 0 else if p = 5 ∧ l = l then 0 else if p = 4 ∧ l = l then 0 else if p = 3 ∧ l = l then 0 else if p = 2 ∧ l = l then 0 else if p = 0 ∧ l = l then x else D.facts l p) := by
    simp only [sp_renew, sp_zero, pd.putF, pd.putE, pd.putL, up2, pd.room, pd.st, pd.br, pd.bal, pd.facts, pd.book, pd.lims, pd.sels, pd.kind, pd.res, pd.bkind, pd.purse]
  rw [z, if_neg (by omega), if_neg (by omega), if_neg (by omega), if_neg (by omega), if_neg (by omega), if_neg (by omega), if_neg (by omega), if_neg (by omega), if_neg (by omega), if_neg (by omega)]
theorem ren_k {l : Nat} {x : Int64} : (sp_renew D l x).kind = D.kind ∧ (sp_renew D l x).res = D.res ∧ (sp_renew D l x).sels = D.sels := by
  simp only [sp_renew, sp_zero, pd.putF, pd.putE, pd.putL, pd.room, pd.st, pd.br, pd.bal, pd.facts, pd.book, pd.lims, pd.sels, pd.kind, pd.res, pd.bkind, pd.purse]
  exact ⟨trivial, trivial, trivial⟩
theorem rv_ren {l : Nat} {x : Int64} (h : rv s D e) (hl : l < D.nl) : rv (renS s l x) (sp_renew D l x) e := by
  have L := h.lot l hl
  have hE : (sp_renew D l x).nE l = 0 := by
    show cn ((sp_renew D l x).book l 0) = 0
    rw [show (sp_renew D l x).book l 0 = 0 from by simp [sp_renew, sp_zero, pd.putF, pd.putE, pd.putL, up2, pd.room, pd.st, pd.br, pd.bal, pd.facts, pd.book, pd.lims, pd.sels, pd.kind, pd.res, pd.bkind, pd.purse]]; rfl
  have hL : (sp_renew D l x).nL l = 0 := by
    show cn ((sp_renew D l x).lims l 0) = 0
    rw [show (sp_renew D l x).lims l 0 = 0 from by simp [sp_renew, sp_zero, pd.putF, pd.putE, pd.putL, up2, pd.room, pd.st, pd.br, pd.bal, pd.facts, pd.book, pd.lims, pd.sels, pd.kind, pd.res, pd.bkind, pd.purse]]; rfl
  have f0 : (sp_renew D l x).facts l 0 = x := by simp [sp_renew, sp_zero, pd.putF, pd.putE, pd.putL, up2, pd.room, pd.st, pd.br, pd.bal, pd.facts, pd.book, pd.lims, pd.sels, pd.kind, pd.res, pd.bkind, pd.purse]
  have dr : dou l D (sp_renew D l x) := ren_do
  have hS : (sp_renew D l x).nS l = D.nS l := by unfold pd.nS; rw [ren_k.2.2]
  have f := fun p a b => ren_F (D := D) (l := l) (x := x) (p := p) a b
  have g := fun p a => ren_G (D := D) (l := l) (x := x) (p := p) a
  have hk := (ren_k (D := D) (l := l) (x := x)).1
  have hr := (ren_k (D := D) (l := l) (x := x)).2.1
  have hs := (ren_k (D := D) (l := l) (x := x)).2.2
  generalize sp_renew D l x = D' at *
  refine rv_so h (by unfold renS; exact so_I (so_I (so_I (so_I (so_I (so_I (so_I (so_L (so_I (so_L so_refl (by decide)) (by decide)) (by decide)) (by decide)) (by decide)) (by decide)) (by decide)) (by decide)) (by decide)) (by decide)) dr ⟨⟨by rw [hS]; exact L.bd.1, by omega, by omega⟩, by rw [hk]; exact L.k5, ?_, by rw [hr]; exact L.k7, by rw [g 1 (Or.inl rfl)]; exact L.k8, ?_, ?_, by rw [hS]; exact L.k12, by rw [hS, hs]; exact L.k11, ?_, ?_, ?_, fun i hi => by rw [hL] at hi; omega, ?_, fun z => absurd (f 8 (by decide) (by decide)) z, ?_, fun z => absurd (f 4 (by decide) (by decide)) z, ?_, ?_, by rw [g 11 (Or.inr (by decide))]; exact L.k30, by rw [g 11 (Or.inr (by decide)), g 12 (Or.inr (by decide)), g 13 (Or.inr (by decide))]; exact L.k31⟩
  · rw [f0]; simp [renS, gm_setI, gm_setL]
  · rw [f 2 (by decide) (by decide)]; simp [renS, gm_setI, gm_setL]
  · rw [f 3 (by decide) (by decide)]; simp [renS, gm_setI, gm_setL]
  · rw [if_pos (f 2 (by decide) (by decide))]; simp [renS, gm_setI, gm_setL]
  · refine ⟨fun _ => 0, fun i hi => by rw [hE] at hi; omega, fun i j _ hj => by rw [hE] at hj; omega, ?_⟩
    rw [hE]; simp [renS, gm_setI, gm_setL]
  · rw [hL]; simp [renS, gm_setI, gm_setL]; rfl
  · rw [f 8 (by decide) (by decide)]; simp [renS, gm_setI, gm_setL]
  · rw [f 4 (by decide) (by decide)]; simp [renS, gm_setI, gm_setL]
  · rw [f 9 (by decide) (by decide)]; simp [renS, gm_setI, gm_setL]
  · rw [f 10 (by decide) (by decide)]; simp [renS, gm_setI, gm_setL]
theorem noLot_of {w : Nat} (h : w < D.nl) (h4 : D.nl ≤ 400) : sp_noLot D (nI w) = 0 := by
  unfold sp_noLot
  rw [if_neg (cz_nn (by omega)), if_pos (by rw [show (400 : Int32) = nI 400 from rfl, cz_lt (by omega) (by omega)]; omega), if_pos (by rw [cz_lt (by omega) (by omega)]; omega)]
theorem noBid_of {w : Nat} (h : w < D.nb) (h4 : D.nb ≤ 200) : sp_noBid D (nI w) = 0 := by
  unfold sp_noBid
  rw [if_neg (cz_nn (by omega)), if_pos (by rw [show (200 : Int32) = nI 200 from rfl, cz_lt (by omega) (by omega)]; omega), if_pos (by rw [cz_lt (by omega) (by omega)]; omega)]
theorem up2_cm {f : Nat → Nat → Int64} {a b p : Nat} {v : Int64} : up2 (up2 f a p v) b p v = up2 (up2 f b p v) a p v := by
  funext m q
  dsimp only [up2]
  by_cases c1 : q = p ∧ m = a
  · by_cases c2 : q = p ∧ m = b
    · simp only [if_pos c1, if_pos c2]
    · simp only [if_pos c1, if_neg c2]
  · simp only [if_neg c1]
theorem wh_m1 {l : Nat} (hp : pi D M) (hl : l < D.nl) : (D.facts l 11).toInt32 < 0 ↔ D.facts l 11 = -1 := by
  have h4 := hp.l0.2
  rcases (hp.lot l hl).wh with z | ⟨w, p, q, a, b, c⟩
  · rw [z]; decide
  · have hw := a.1
    rw [b, cl_32 (by omega)]
    refine ⟨fun z => absurd z (cz_nn (by omega)), fun z => ?_⟩
    exfalso
    rw [← cl_64 (by omega), cl_m1, cl_inj] at z
    have q2 := cz_nn (n := w) (by omega)
    rw [z] at q2
    exact q2 (by decide)
theorem ofn_ne {w : Nat} (h : w < 2 ^ 31) : Int64.ofNat w ≠ -1 := by
  intro z
  rw [← cl_64 h, cl_m1, cl_inj] at z
  have q2 := cz_nn (n := w) h
  rw [z] at q2
  exact q2 (by decide)
theorem w_offer {a : Int32} {x : Int64} (h : rs s0 s D e ag cs) (hp : pi D M) : wk s0 ag cs e (gm_X8_offered N a x s) (sp_reoffer D a x) := by
  unfold gm_X8_offered sp_reoffer
  rw [w_isSum, Option.bind_some]
  dsimp only
  refine wk_if b10 (fun _ => wk_no h) (fun hr => ?_)
  rw [w_noLot h.v, Option.bind_some]
  dsimp only
  refine wk_L h hp (fun l hl1 hl => ?_)
  subst hl1
  have h4 := hp.l0.2
  rw [rd9 h.v hl h4, Option.bind_some]
  refine wk_ifn (by rw [fct_0 h.v hl, ← cl_3]; exact ⟨fun z y => y z, fun z => Classical.byContradiction z⟩) (fun _ => wk_no h) (fun _ => ?_)
  have k113 : ∀ (t : mt_S) (D1 : pd), rs s0 t D1 e ag cs → D1.nl = D.nl → wk s0 ag cs e (gb_X8_offered_113 N (nI l) x t) (1, sp_renew D1 l x, []) := by
    intro t D1 ht hn
    unfold gb_X8_offered_113
    rw [w_renew (lsc_len ht.v (by omega)) (by omega), Option.bind_some]
    exact wk_ret (rs_of ht (hi_ren hi_refl) (rv_ren ht.v (by omega))) (by omega)
  have k66 : wk s0 ag cs e (gb_X8_offered_66 N (nI l) x s) (1, sp_renew (sp_part D (D.facts l 11).toInt32) l x, []) := by
    unfold gb_X8_offered_66
    rw [rd30 h.v hl h4, Option.bind_some]
    by_cases c : D.facts l 11 = -1
    · rw [if_pos ((wh_m1 hp hl).mpr c)]
      rw [show sp_part D (D.facts l 11).toInt32 = D from by
        unfold sp_part
        rw [c, if_neg (by unfold sp_noLot; rw [if_pos (by decide)]; decide)]]
      exact k113 s D h rfl
    · rw [if_neg (fun z => c ((wh_m1 hp hl).mp z))]
      rcases (hp.lot l hl).wh with z | ⟨w, p, q, ⟨a1, a2, a3, a4, a5, a6, b1, b2, b3, b4, b5⟩, bw, cw⟩
      · exact absurd z c
      · rw [bw, cl_32 (by omega), rd31 h.v a1 h4 b1, Option.bind_some, b2, cl_32 (by omega)]
        rw [gm_wrI (lsc_len h.v (by omega) 30 (by decide)) (by omega), Option.bind_some]
        have hm : ∀ n : Nat, n < 400 → (-1 : Int32) ≠ nI n := by
          intro n hn z
          have q2 := cz_nn (n := n) (by omega)
          rw [← z] at q2
          exact q2 (by decide)
        have h1 : rs s0 (gm_setI s 30 p (-1)) (D.putF p 11 (-1)) e ag cs := rs_of h (hi_I hi_refl (by decide)) (rv_30 h.v a2 (hm p (by omega)) (by omega))
        have f1 : (D.putF p 11 (-1)).facts w 11 = Int64.ofNat w := by
          show up2 D.facts p 11 (-1) w 11 = _
          rw [up2_ne a4]; exact b1
        rw [rd32 h1.v a1 h4 f1, Option.bind_some, show (D.putF p 11 (-1)).facts w 13 = Int64.ofNat q from b3, cl_32 (by omega)]
        rw [gm_wrI (lsc_len h1.v (by omega) 30 (by decide)) (by omega), Option.bind_some]
        have h2 : rs s0 (gm_setI (gm_setI s 30 p (-1)) 30 q (-1)) ((D.putF p 11 (-1)).putF q 11 (-1)) e ag cs := rs_of h1 (hi_I hi_refl (by decide)) (rv_30 h1.v a3 (hm q (by omega)) (by omega))
        rw [gm_wrI (lsc_len h2.v (by omega) 30 (by decide)) (by omega), Option.bind_some]
        have h3 : rs s0 (gm_setI (gm_setI (gm_setI s 30 p (-1)) 30 q (-1)) 30 w (-1)) (((D.putF p 11 (-1)).putF q 11 (-1)).putF w 11 (-1)) e ag cs := rs_of h2 (hi_I hi_refl (by decide)) (rv_30 h2.v a1 (hm w (by omega)) (by omega))
        have eD : ((D.putF p 11 (-1)).putF q 11 (-1)).putF w 11 (-1) = sp_part D (nI w) := by
          unfold sp_part
          rw [if_pos (noLot_of a1 h4), cz_ix (by omega), b2, b3, cl_32 (by omega), cl_32 (by omega), cz_ix (by omega), cz_ix (by omega)]
          refine congrArg (fun F => ((D.room, D.st, D.br, D.bal, F, D.book, D.lims, D.sels, D.kind, D.res, D.bkind, D.purse) : pd)) ?_
          show up2 (up2 (up2 D.facts p 11 (-1)) q 11 (-1)) w 11 (-1) = up2 (up2 (up2 D.facts w 11 (-1)) p 11 (-1)) q 11 (-1)
          rw [up2_cm (a := q) (b := w), up2_cm (a := p) (b := w)]
        rw [eD] at h3
        exact k113 _ _ h3 (by rw [← eD]; rfl)
  rw [rd5 h.v hl h4, Option.bind_some]
  by_cases k5 : D.kind l = 5
  · rw [if_pos k5, rd7 h.v hl h4, Option.bind_some]
    by_cases c : x < D.res l
    · rw [if_neg (by rw [← nle64]; exact fun z => z c), if_pos ⟨k5, c⟩]
      exact wk_no h
    · rw [if_pos (nle64.mp c), if_neg (fun z => c z.2)]
      exact k66
  · rw [if_neg k5, if_neg (fun z => k5 z.1)]
    exact k66
theorem setI_cm {s : mt_S} {k j k' j' : Nat} {v v' : Int32} (h : ¬ (k = k' ∧ j = j')) : gm_setI (gm_setI s k j v) k' j' v' = gm_setI (gm_setI s k' j' v') k j v := by
  unfold gm_setI
  refine Prod.ext ?_ rfl
  funext a b
  dsimp only
  by_cases c1 : a = k' ∧ b = j'
  · rw [if_pos c1, if_neg (by omega), if_pos c1]
  · rw [if_neg c1]
    by_cases c2 : a = k ∧ b = j
    · rw [if_pos c2, if_pos c2]
    · rw [if_neg c2, if_neg c2, if_neg c1]
theorem b01 {p : Prop} [Decidable p] : ((if p then (0 : Int32) else 1) = 0) ↔ p := by
  by_cases h : p
  · rw [if_pos h]; exact ⟨fun _ => h, fun _ => rfl⟩
  · rw [if_neg h]; exact ⟨fun z => absurd z (by decide), fun z => absurd z h⟩
theorem w_join {a b c : Int32} (h : rs s0 s D e ag cs) (hp : pi D M) : wk s0 ag cs e (gm_X8_joined N a b c s) (sp_join D a b c) := by
  unfold gm_X8_joined sp_join
  rw [w_noLot h.v, Option.bind_some]
  dsimp only
  refine wk_L h hp (fun w hw1 hw => ?_)
  subst hw1
  rw [w_noLot h.v, Option.bind_some]
  dsimp only
  refine wk_L h hp (fun p hp1 hp2 => ?_)
  subst hp1
  rw [w_noLot h.v, Option.bind_some]
  dsimp only
  refine wk_L h hp (fun q hq1 hq => ?_)
  subst hq1
  have h4 := hp.l0.2
  by_cases e1 : w = p
  · rw [if_pos (show nI w = nI p from by rw [e1]), if_pos (Or.inl e1)]; exact wk_no h
  rw [if_neg (fun z => e1 ((cz_eq (by omega) (by omega)).mp z))]
  by_cases e2 : w = q
  · rw [if_pos (show nI w = nI q from by rw [e2]), if_pos (Or.inr (Or.inl e2))]; exact wk_no h
  rw [if_neg (fun z => e2 ((cz_eq (by omega) (by omega)).mp z))]
  by_cases e3 : p = q
  · rw [if_pos (show nI p = nI q from by rw [e3]), if_pos (Or.inr (Or.inr e3))]; exact wk_no h
  rw [if_neg (fun z => e3 ((cz_eq (by omega) (by omega)).mp z)), if_neg (by rintro (z | z | z); exact e1 z; exact e2 z; exact e3 z), w_isPlain h.v hp hw, Option.bind_some]
  dsimp only
  by_cases p1 : D.kind w = 4 ∨ D.kind w = 5
  · rw [if_pos (b01.mpr p1), if_pos (Or.inl p1)]; exact wk_no h
  rw [if_neg (fun z => p1 (b01.mp z)), w_isPlain h.v hp hp2, Option.bind_some]
  dsimp only
  by_cases p2 : D.kind p = 4 ∨ D.kind p = 5
  · rw [if_pos (b01.mpr p2), if_pos (Or.inr (Or.inl p2))]; exact wk_no h
  rw [if_neg (fun z => p2 (b01.mp z)), w_isPlain h.v hp hq, Option.bind_some]
  dsimp only
  by_cases p3 : D.kind q = 4 ∨ D.kind q = 5
  · rw [if_pos (b01.mpr p3), if_pos (Or.inr (Or.inr p3))]; exact wk_no h
  rw [if_neg (fun z => p3 (b01.mp z)), if_neg (by rintro (z | z | z); exact p1 z; exact p2 z; exact p3 z), rd9 h.v hw h4, Option.bind_some]
  by_cases f1 : D.facts w 2 = 0
  rotate_left
  · rw [if_neg (fun z => f1 (by rw [fct_0 h.v hw, ← cl_0] at z; exact z)), if_pos (Or.inl f1)]; exact wk_no h
  rw [if_pos (by rw [f1]; decide), rd9 h.v hp2 h4, Option.bind_some]
  by_cases f2 : D.facts p 2 = 0
  rotate_left
  · rw [if_neg (fun z => f2 (by rw [fct_0 h.v hp2, ← cl_0] at z; exact z)), if_pos (Or.inr (Or.inl f2))]; exact wk_no h
  rw [if_pos (by rw [f2]; decide), rd9 h.v hq h4, Option.bind_some]
  by_cases f3 : D.facts q 2 = 0
  rotate_left
  · rw [if_neg (fun z => f3 (by rw [fct_0 h.v hq, ← cl_0] at z; exact z)), if_pos (Or.inr (Or.inr f3))]; exact wk_no h
  rw [if_pos (by rw [f3]; decide), if_neg (by rintro (z | z | z); exact z f1; exact z f2; exact z f3), rd30 h.v hw h4, Option.bind_some]
  by_cases g1 : D.facts w 11 = -1
  rotate_left
  · rw [if_pos (by rw [← nle32, wh_m1 hp hw]; exact g1), if_pos (Or.inl g1)]; exact wk_no h
  rw [if_neg (by rw [← nle32, wh_m1 hp hw]; exact fun z => z g1), rd30 h.v hp2 h4, Option.bind_some]
  by_cases g2 : D.facts p 11 = -1
  rotate_left
  · rw [if_pos (by rw [← nle32, wh_m1 hp hp2]; exact g2), if_pos (Or.inr (Or.inl g2))]; exact wk_no h
  rw [if_neg (by rw [← nle32, wh_m1 hp hp2]; exact fun z => z g2), rd30 h.v hq h4, Option.bind_some]
  by_cases g3 : D.facts q 11 = -1
  rotate_left
  · rw [if_neg (by rw [wh_m1 hp hq]; exact g3), if_pos (Or.inr (Or.inr g3))]; exact wk_no h
  rw [if_pos ((wh_m1 hp hq).mpr g3), if_neg (by rintro (z | z | z); exact z g1; exact z g2; exact z g3)]
  rw [gm_wrI (lsc_len h.v (by omega) 30 (by decide)) (by omega), Option.bind_some, gm_wrI (by exact lsc_len h.v (by omega) 30 (by decide)) (by omega), Option.bind_some, gm_wrI (by exact lsc_len h.v (by omega) 30 (by decide)) (by omega), Option.bind_some, gm_wrI (by exact lsc_len h.v (by omega) 31 (by decide)) (by omega), Option.bind_some, gm_wrI (by exact lsc_len h.v (by omega) 32 (by decide)) (by omega), Option.bind_some]
  rw [setI_cm (k := 30) (j := q) (k' := 31) (by omega), setI_cm (k := 30) (j := p) (k' := 31) (by omega), setI_cm (k := 30) (j := q) (k' := 32) (by omega), setI_cm (k := 30) (j := p) (k' := 32) (by omega)]
  refine wk_ret (e' := e) (rs_of h (hi_I (hi_I (hi_I (hi_I (hi_I hi_refl (by decide)) (by decide)) (by decide)) (by decide)) (by decide)) ?_) (by omega)
  have j1 := rv_join (v := nI w) (x := nI p) (y := nI q) h.v hw
  have j2 := rv_30 (v := nI w) j1 (l := p) hp2 (fun z => e1 ((cz_eq (by omega) (by omega)).mp z)) (by omega)
  exact rv_30 (v := nI w) j2 (l := q) hq (fun z => e2 ((cz_eq (by omega) (by omega)).mp z)) (by omega)
theorem w_noLotOf {a c : Int32} (h : rs s0 s D e ag cs) (hp : pi D M) : gm_X8_noLotOf N a c s = some (if sp_noLot D a = 0 then (if D.kind (ix a) = c then 0 else 4) else sp_noLot D a, s) := by
  unfold gm_X8_noLotOf
  rw [w_noLot h.v, Option.bind_some]
  dsimp only
  by_cases z : sp_noLot D a = 0
  · obtain ⟨x, y⟩ := noLot0 hp.l0.2 z
    rw [if_pos (noLotLe.mpr z), if_pos z]
    rw [show gm_ldI s 5 a = some (D.kind (ix a)) from by rw [x, cz_ix (by have := hp.l0.2; omega)]; exact rd5 h.v y hp.l0.2, Option.bind_some]
    split <;> rfl
  · rw [if_neg (fun q => z (noLotLe.mp q)), if_neg z, w_noLot h.v, Option.bind_some]
theorem wk_LO {a c : Int32} {g1 : Option (Int64 × mt_S)} {f : Nat → sr} (h : rs s0 s D e ag cs) (hp : pi D M) (kk : ∀ l, a = nI l → l < D.nl → D.kind l = c → wk s0 ag cs e g1 (f l)) : wk s0 ag cs e (if (if sp_noLot D a = 0 then (if D.kind (ix a) = c then 0 else 4) else sp_noLot D a) ≤ 0 then g1 else Option.bind (gm_X8_noLotOf N a c s) fun q => some ((-q.1).toInt64, q.2)) (sp_withL D a fun l => if D.kind l ≠ c then (-4, D, []) else f l) := by
  rw [w_noLotOf h hp, Option.bind_some]
  unfold sp_withL
  by_cases z : sp_noLot D a = 0
  · obtain ⟨x, y⟩ := noLot0 hp.l0.2 z
    rw [if_pos z, if_pos z]
    dsimp only
    by_cases k : D.kind (ix a) = c
    · rw [if_pos k, if_pos (by decide), if_neg (fun q => q k)]
      exact kk _ x y k
    · rw [if_neg k, if_neg (by decide), if_pos k]
      exact wk_no h
  · rw [if_neg z, if_neg z, if_neg (fun q => z (noLotLe.mp q))]
    exact wk_no h
theorem w_tick {a : Int32} {x : Int64} (h : rs s0 s D e ag cs) (hp : pi D M) (he : e < 1990) : wk s0 ag cs e (gm_X8_ticked N a x s) (sp_tick D a x) := by
  unfold gm_X8_ticked sp_tick
  rw [w_isSum, Option.bind_some]
  dsimp only
  refine wk_if b10 (fun _ => wk_no h) (fun hr => ?_)
  rw [w_noLotOf h hp, Option.bind_some]
  dsimp only
  refine wk_LO h hp (fun l hl1 hl k5 => ?_)
  subst hl1
  have h4 := hp.l0.2
  rw [w_notOpen h.v hp hl, Option.bind_some]
  dsimp only
  refine wk_O h hp hl (fun _ => ?_)
  rw [w_stand h.v hp hl (by omega), Option.bind_some]
  dsimp only
  refine wk_ifn (by rw [stand_neg hp hl]; exact ⟨fun z y => y z, fun z => Classical.byContradiction z⟩) (fun _ => wk_no h) (fun _ => ?_)
  have k78 : wk s0 ag cs e (gb_X8_ticked_78 N (nI l) x (mx 1 (D.res l)) s) (if ¬ mx 1 (D.res l) < D.facts l 3 then (-10, D, []) else (sp_tickV D l x, D.putF l 3 (sp_tickV D l x), [])) := by
    unfold gb_X8_ticked_78
    rw [rd10 h.v hl h4, Option.bind_some]
    refine wk_ifn (by exact ⟨fun z y => y z, fun z => Classical.byContradiction z⟩) (fun _ => wk_no h) (fun _ => ?_)
    rw [Option.bind_some]
    have k128 : ∀ y, y = sp_tickV D l x → wk s0 ag cs e (gb_X8_ticked_128 N (nI l) y (nI l) s) (sp_tickV D l x, D.putF l 3 (sp_tickV D l x), []) := by
      intro y hy
      unfold gb_X8_ticked_128
      rw [gm_wrL (lsc_len h.v (by omega) 10 (by decide)) (by omega), Option.bind_some, gm_rdL (by exact lsc_len h.v (by omega) 10 (by decide)) (by omega), Option.bind_some, sL_same, hy]
      exact wk_ret (rs_of h (hi_L hi_refl (by decide)) (rv_10 h.v hl)) (by omega)
    by_cases c : D.facts l 3 - x < mx 1 (D.res l)
    · rw [if_neg (by rw [← nle64]; exact fun z => z c)]
      exact k128 _ (by unfold sp_tickV; rw [if_pos c])
    · rw [if_pos (nle64.mp c), Option.bind_some]
      exact k128 _ (by unfold sp_tickV; rw [if_neg c])
  rw [rd7 h.v hl h4, Option.bind_some]
  by_cases c : 1 < D.res l
  · rw [if_neg (by rw [← nle64]; exact fun z => z c), Option.bind_some]
    rw [show mx 1 (D.res l) = D.res l from if_pos c] at k78 ⊢
    exact k78
  · rw [if_pos (nle64.mp c)]
    rw [show mx 1 (D.res l) = 1 from if_neg c] at k78 ⊢
    exact k78
theorem w_take {a b : Int32} (h : rs s0 s D e ag cs) (hp : pi D M) (he : e < 1990) (hN : 5000 ≤ N) : wk s0 ag cs e (gm_X8_took N a b s) (sp_take D a b) := by
  unfold gm_X8_took sp_take
  rw [w_noLotOf h hp, Option.bind_some]
  dsimp only
  refine wk_LO h hp (fun l hl1 hl k5 => ?_)
  subst hl1
  have h4 := hp.l0.2
  rw [w_noBid h.v, Option.bind_some]
  dsimp only
  refine wk_B h hp (fun c hc1 hc => ?_)
  subst hc1
  rw [rd1 h.v hc hp.b0.2, Option.bind_some]
  refine wk_ifn (by exact ⟨fun z y => y z, fun z => Classical.byContradiction z⟩) (fun _ => wk_no h) (fun _ => ?_)
  rw [w_notOpen h.v hp hl, Option.bind_some]
  dsimp only
  refine wk_O h hp hl (fun ho => ?_)
  rw [w_stand h.v hp hl (by omega), Option.bind_some]
  dsimp only
  refine wk_ifn (by rw [stand_neg hp hl]; exact ⟨fun z y => y z, fun z => Classical.byContradiction z⟩) (fun _ => wk_no h) (fun hst => ?_)
  have f2 : D.facts l 2 ≠ 0 := fun z => by
    unfold sp_notOpen at ho
    rw [if_pos z] at ho
    exact absurd ho (by decide)
  have n0 : D.nE l = 0 := by
    refine Classical.byContradiction (fun z => ?_)
    have hst' : sp_stand D l = -1 := Classical.byContradiction hst
    obtain ⟨b, b1, b2⟩ := stand_nE hp hl (by rw [k5]; decide) z
    have := hp.b0.2
    have q2 := cz_nn (n := b) (by omega)
    rw [← b2, hst'] at q2
    exact q2 (by decide)
  rw [rd10 h.v hl h4, Option.bind_some]
  obtain ⟨s', g1, g2⟩ := rs_enter (N := N) (b := nI c) (v := D.facts l 3) h hN hl h4 (by omega) (by omega) f2
  rw [g1, Option.bind_some]
  dsimp only
  rw [rd10 g2.v (by exact hl) (by exact h4), Option.bind_some]
  exact wk_ret g2 (by omega)
end W3
