/-! selling -/
theorem addB_F {D : pd} {m p : Nat} {v : Int64} {b : Int32} {y : Int64} : sp_addB (D.putF m p v) b y = (sp_addB D b y).putF m p v := by
  unfold sp_addB
  rw [show sp_noBid (D.putF m p v) b = sp_noBid D b from rfl]
  split <;> rfl
theorem share_F {D : pd} {m p l n : Nat} {v x : Int64} : ∀ k, sp_share (D.putF m p v) l n x k = (sp_share D l n x k).putF m p v := by
  intro k
  induction k with
  | zero => rfl
  | succ k ih =>
    unfold sp_share
    rw [ih, addB_F]
    rfl
theorem putF_room {A : pd} {l p : Nat} {v : Int64} : (A.putF l p v).room = A.room := rfl
theorem putF_nS {A : pd} {l p : Nat} {v : Int64} : (A.putF l p v).nS = A.nS := rfl
theorem putFR {A : pd} {l p q : Nat} {v a : Int64} : (A.putF l p v).putR q a = (A.putR q a).putF l p v := rfl
theorem book_F {D : pd} {m l : Nat} {v x : Int64} : sp_book (D.putF m 2 v) l x = (sp_book D l x).putF m 2 v := by
  unfold sp_book
  dsimp only
  rw [show sp_stand (D.putF m 2 v) l = sp_stand D l from rfl, show sp_premium (D.putF m 2 v) x = sp_premium D x from rfl, show sp_tax (D.putF m 2 v) l x = sp_tax D l x from rfl, show sp_cutOf (D.putF m 2 v) l x = sp_cutOf D l x from rfl, addB_F, putF_nS]
  rw [putF_room, putFR, putF_room, putFR, share_F]
theorem up2_cm2 {f : Nat → Nat → Int64} {l m p : Nat} {v w : Int64} (h : l ≠ m) : up2 (up2 f l p v) m p w = up2 (up2 f m p w) l p v := by
  funext a q
  unfold up2
  by_cases c1 : q = p ∧ a = m
  · rw [if_pos c1, if_neg (by omega), if_pos c1]
  · rw [if_neg c1]
    by_cases c2 : q = p ∧ a = l
    · rw [if_pos c2, if_pos c2]
    · rw [if_neg c2, if_neg c2, if_neg c1]
theorem up2_ov2 {f : Nat → Nat → Int64} {l p : Nat} {v w : Int64} : up2 (up2 f l p v) l p w = up2 f l p w := by
  funext a q
  unfold up2
  by_cases c1 : q = p ∧ a = l
  · rw [if_pos c1, if_pos c1]
  · rw [if_neg c1, if_neg c1, if_neg c1]
theorem putF_cm {D : pd} {l m p : Nat} {v w : Int64} (h : l ≠ m) : (D.putF l p v).putF m p w = (D.putF m p w).putF l p v :=
  congrArg (fun F => ((D.room, D.st, D.br, D.bal, F, D.book, D.lims, D.sels, D.kind, D.res, D.bkind, D.purse) : pd)) (up2_cm2 h)
theorem putF_ov {D : pd} {l p : Nat} {v w : Int64} : (D.putF l p v).putF l p w = D.putF l p w :=
  congrArg (fun F => ((D.room, D.st, D.br, D.bal, F, D.book, D.lims, D.sels, D.kind, D.res, D.bkind, D.purse) : pd)) up2_ov2
theorem pi_addB {D : pd} {M : Nat} {b : Int32} {y : Int64} (h : pi D M) : pi (sp_addB D b y) M := by
  unfold sp_addB
  split
  · exact pi_bal h
  · exact h
theorem pi_share {D : pd} {M l n : Nat} {x : Int64} (h : pi D M) : ∀ k, pi (sp_share D l n x k) M := by
  intro k
  induction k with
  | zero => exact h
  | succ k ih => unfold sp_share; exact pi_addB ih
theorem pi_book {D : pd} {M l : Nat} {x : Int64} (h : pi D M) : pi (sp_book D l x) M := by
  unfold sp_book
  dsimp only
  exact pi_share (pi_room (pi_room (pi_addB h) (by decide) (Or.inl (by decide))) (by decide) (Or.inl (by decide))) _
theorem pi_finish {D : pd} {M l : Nat} {x : Int64} (h : pi D M) (hl : l < D.nl) (hs : D.facts l 2 ≠ 0) : pi (sp_finish D l x) M := by
  unfold sp_finish
  split
  · exact pi_book (pi_2 h hl (Or.inr (Or.inl rfl)) hs)
  · exact pi_2 h hl (Or.inr (Or.inr rfl)) hs
section SE
variable {N : Nat} {s0 s : mt_S} {D : pd} {e M l : Nat} {ag : Bool} {cs : List Int32}
theorem addB_eq {b : Nat} {y : Int64} (hb : b < D.nb) (h2 : D.nb ≤ 200) : sp_addB D (nI b) y = D.putB b 0 (D.bal b 0 + y) := by
  unfold sp_addB
  rw [if_pos (noBid_of hb h2), cz_ix (by omega)]
theorem share_nb {n : Nat} {x : Int64} : ∀ k, (sp_share D l n x k).room = D.room ∧ (sp_share D l n x k).sels = D.sels ∧ (sp_share D l n x k).facts = D.facts := by
  intro k
  induction k with
  | zero => exact ⟨rfl, rfl, rfl⟩
  | succ k ih =>
    unfold sp_share sp_addB
    split
    · exact ih
    · exact ih
theorem w_sellL {hh c : Int64} {n : Nat} (h2 : D.nb ≤ 200) (h4 : D.nl ≤ 400) (hl : l < D.nl) (hn : n = D.nS l) (hn4 : n ≤ 4) (hn0 : n ≠ 0) (hs : ∀ i, i < n → ∃ b, b < D.nb ∧ D.sels l (1 + i) = Int64.ofNat b) : ∀ (d k f : Nat) (s : mt_S), k + d = n → d < f → rs s0 s (sp_share D l n (hh - c) k) e ag cs → wm s0 (sp_share D l n (hh - c) n) e ag cs (gp_X8_sell_116 N f (nI l) (nI n) hh c (nI k) s) () := by
  intro d
  induction d with
  | zero =>
    intro k f s hk hf h
    obtain ⟨f, rfl⟩ : ∃ m, f = m + 1 := ⟨f - 1, by omega⟩
    unfold gp_X8_sell_116 gl_X8_sell_116
    rw [if_pos (by rw [cz_le (by omega) (by omega)]; omega)]
    rw [show k = n from by omega] at h
    exact wm_ret h
  | succ d ih =>
    intro k f s hk hf h
    obtain ⟨f, rfl⟩ : ∃ m, f = m + 1 := ⟨f - 1, by omega⟩
    obtain ⟨r1, r2, r3⟩ := share_nb (D := D) (l := l) (n := n) (x := hh - c) k
    obtain ⟨b, b1, b2⟩ := hs k (by omega)
    have nbE : (sp_share D l n (hh - c) k).nb = D.nb := by unfold pd.nb; rw [r1]
    have nlE : (sp_share D l n (hh - c) k).nl = D.nl := by unfold pd.nl; rw [r1]
    have nsE : (sp_share D l n (hh - c) k).nS l = D.nS l := by unfold pd.nS; rw [r2]
    unfold gp_X8_sell_116 gl_X8_sell_116
    rw [if_neg (by rw [cz_le (by omega) (by omega)]; omega), rd11 h.v (by omega) (by omega) (by omega), Option.bind_some, r2, b2, cl_32 (by omega), rd3 h.v (by omega) (by omega), Option.bind_some]
    rw [cl_64 (by omega), cl_64 (by omega), if_neg (by rw [show (0 : Int64) = Int64.ofNat 0 from rfl, cl_eq (by omega) (by omega)]; omega), if_neg (by rw [show (0 : Int64) = Int64.ofNat 0 from rfl, cl_eq (by omega) (by omega)]; omega)]
    have q := ih (k + 1) f
    have stp : sp_share D l n (hh - c) (k + 1) = (sp_share D l n (hh - c) k).putB b 0 ((sp_share D l n (hh - c) k).bal b 0 + (if Int64.ofNat k < (hh - c) - (hh - c) / Int64.ofNat n * Int64.ofNat n then (hh - c) / Int64.ofNat n + 1 else (hh - c) / Int64.ofNat n)) := by
      show sp_addB (sp_share D l n (hh - c) k) (D.sels l (1 + k)).toInt32 _ = _
      rw [b2, cl_32 (by omega), addB_eq (by omega) (by omega)]
    rw [stp] at q
    generalize sp_share D l n (hh - c) k = Dk at h nbE nlE nsE r1 r2 r3 q ⊢
    have k170 : ∀ z, z = (if Int64.ofNat k < (hh - c) - (hh - c) / Int64.ofNat n * Int64.ofNat n then (hh - c) / Int64.ofNat n + 1 else (hh - c) / Int64.ofNat n) → ∀ y, (hh - c) / Int64.ofNat n + y = z → wm s0 (sp_share D l n (hh - c) n) e ag cs (gb_X8_sell_170_116 (gp_X8_sell_116 N f) N (nI l) (nI n) hh c (nI k) y ((hh - c) / Int64.ofNat n) (Dk.bal b 0) (nI b) s) () := by
      intro z hz y hy
      unfold gb_X8_sell_170_116
      rw [gm_wrL (by rw [h.v.len 3 (by decide)]; show b < 200; omega) (by omega), Option.bind_some, cz_lit 1, cz_add, hy, hz]
      exact q _ (by omega) (by omega) (rs_of h (hi_L hi_refl (by decide)) (rv_bal h.v (by omega)))
    by_cases c1 : Int64.ofNat k < (hh - c) - (hh - c) / Int64.ofNat n * Int64.ofNat n
    · rw [if_neg (by rw [← nle64]; exact fun z => z c1)]
      exact k170 _ (by rw [if_pos c1]) 1 rfl
    · rw [if_pos (nle64.mp c1)]
      exact k170 _ (by rw [if_neg c1]) 0 (by rw [Int64.add_zero])
theorem kd_tax (hp : pi D M) (hl : l < D.nl) : D.kind l = nI (ix (D.kind l)) ∧ 1 ≤ ix (D.kind l) ∧ ix (D.kind l) ≤ 5 := by
  rcases (hp.lot l hl).kd with z | z | z | z | z <;> rw [z] <;> decide
theorem w_sell {pc : Int64} (h : rs s0 s D e ag cs) (hp : pi D M) (hl : l < D.nl) (he : e < 2 ^ 31) (hN : 5000 ≤ N) (hst : sp_stand D l ≠ -1) (hn : D.nS l ≠ 0) (hf : D.facts l 2 ≠ 0) : wm s0 ((sp_book D l (sp_ssum D l * pc)).putF l 2 2) e ag cs (gm_X8_sell N (nI l) pc s) (sp_ssum D l * pc) := by
  have h4 := hp.l0.2
  have h2 := hp.b0.2
  have I := hp.lot l hl
  obtain ⟨b, b1, b2⟩ : ∃ b, b < D.nb ∧ sp_stand D l = nI b := by
    rcases stand_or hp hl with z | z
    · exact absurd z hst
    · exact z
  obtain ⟨k1, k2, k3⟩ := kd_tax hp hl
  unfold gm_X8_sell
  rw [w_stand h.v hp hl he, Option.bind_some]
  dsimp only
  rw [rd12 h.v hl h4, Option.bind_some, w_ssum h.v hp hl he, Option.bind_some]
  dsimp only
  generalize hx : sp_ssum D l * pc = x
  rw [w_premium h.v hp.br.t0.2 hN, Option.bind_some]
  dsimp only
  have r39 := rd39 h.v k2 k3
  rw [← k1] at r39
  rw [rd5 h.v hl h4, Option.bind_some, r39, Option.bind_some, w_even, Option.bind_some]
  dsimp only
  rw [rd8 h.v hl h4, Option.bind_some, w_even, Option.bind_some]
  dsimp only
  rw [show (D.room (5 + ix (D.kind l))).toInt32.toInt64 = D.room (5 + ix (D.kind l)) from by rw [← h.v.tx _ k2 k3, Int32.toInt32_toInt64], show (D.facts l 1).toInt32.toInt64 = D.facts l 1 from by rw [← (h.v.lot l hl).k8, Int32.toInt32_toInt64]]
  rw [show sp_even ((x + sp_premium D x) * D.room (5 + ix (D.kind l))) = sp_tax D l x from rfl, show sp_even (x * D.facts l 1) = sp_cutOf D l x from rfl]
  rw [b2, rd3 h.v b1 h2, Option.bind_some, gm_wrL (by rw [h.v.len 3 (by decide)]; show b < 200; omega) (by omega), Option.bind_some, Int64.sub_eq_add_neg]
  have h1 : rs s0 _ _ e ag cs := rs_of h (hi_L hi_refl (by decide)) (rv_bal (v := D.bal b 0 + -(x + sp_premium D x + sp_tax D l x)) h.v b1)
  rw [show (0 : Int32) = nI 0 from rfl, rd40 h1.v (by omega), Option.bind_some, gm_wrL (by rw [h1.v.len 40 (by decide)]; show 0 < 3; omega) (by omega), Option.bind_some]
  have h3 := rs_of h1 (hi_L hi_refl (by decide)) (rv_acc (k := 0) (v := (D.putB b 0 (D.bal b 0 + -(x + sp_premium D x + sp_tax D l x))).room (2 + 0) + (sp_premium D x + sp_cutOf D l x)) h1.v (by omega))
  rw [show (1 : Int32) = nI 1 from rfl, rd40 h3.v (by omega), Option.bind_some, gm_wrL (by rw [h3.v.len 40 (by decide)]; show 1 < 3; omega) (by omega), Option.bind_some]
  have h5 := rs_of h3 (hi_L hi_refl (by decide)) (rv_acc (k := 1) (v := ((D.putB b 0 (D.bal b 0 + -(x + sp_premium D x + sp_tax D l x))).putR (2 + 0) ((D.putB b 0 (D.bal b 0 + -(x + sp_premium D x + sp_tax D l x))).room (2 + 0) + (sp_premium D x + sp_cutOf D l x))).room (2 + 1) + sp_tax D l x) h3.v (by omega))
  have eD : sp_book D l x = sp_share (((D.putB b 0 (D.bal b 0 + -(x + sp_premium D x + sp_tax D l x))).putR (2 + 0) ((D.putB b 0 (D.bal b 0 + -(x + sp_premium D x + sp_tax D l x))).room (2 + 0) + (sp_premium D x + sp_cutOf D l x))).putR (2 + 1) (((D.putB b 0 (D.bal b 0 + -(x + sp_premium D x + sp_tax D l x))).putR (2 + 0) ((D.putB b 0 (D.bal b 0 + -(x + sp_premium D x + sp_tax D l x))).room (2 + 0) + (sp_premium D x + sp_cutOf D l x))).room (2 + 1) + sp_tax D l x)) l (D.nS l) (x - sp_cutOf D l x) (D.nS l) := by
    unfold sp_book
    dsimp only
    rw [b2, addB_eq b1 h2]
  rw [eD]
  generalize hD3 : ((D.putB b 0 (D.bal b 0 + -(x + sp_premium D x + sp_tax D l x))).putR (2 + 0) ((D.putB b 0 (D.bal b 0 + -(x + sp_premium D x + sp_tax D l x))).room (2 + 0) + (sp_premium D x + sp_cutOf D l x))).putR (2 + 1) (((D.putB b 0 (D.bal b 0 + -(x + sp_premium D x + sp_tax D l x))).putR (2 + 0) ((D.putB b 0 (D.bal b 0 + -(x + sp_premium D x + sp_tax D l x))).room (2 + 0) + (sp_premium D x + sp_cutOf D l x))).room (2 + 1) + sp_tax D l x) = D3 at h5 ⊢
  have nb3 : D3.nb = D.nb := by rw [← hD3]; rfl
  have nl3 : D3.nl = D.nl := by rw [← hD3]; rfl
  have nS3 : D3.nS l = D.nS l := by rw [← hD3]; rfl
  have se3 : D3.sels = D.sels := by rw [← hD3]; rfl
  have fa3 : D3.facts = D.facts := by rw [← hD3]; rfl
  have hS4 := I.s0.2
  obtain ⟨s6, g6, h6⟩ := w_sellL (N := N) (D := D3) (l := l) (hh := x) (c := sp_cutOf D l x) (n := D.nS l) (by omega) (by omega) (by omega) (by omega) (by omega) hn (fun i hi => by rw [se3, nb3]; exact I.sb i hi) (D.nS l) 0 N _ (by omega) (by omega) h5
  rw [g6, Option.bind_some]
  dsimp only
  obtain ⟨q1, q2, q3⟩ := share_nb (D := D3) (l := l) (n := D.nS l) (x := x - sp_cutOf D l x) (D.nS l)
  rw [gm_wrI (lsc_len h6.v (by omega) 9 (by decide)) (by omega), Option.bind_some]
  refine wm_ret (rs_of h6 (hi_I hi_refl (by decide)) ?_)
  have r := rv_9 (v := 2) h6.v (l := l) (by unfold pd.nl; rw [q1]; exact (show l < D3.nl by omega)) (by decide) (by rw [q3, fa3]; exact hf)
  rw [← cl_2] at r
  exact r
end SE
