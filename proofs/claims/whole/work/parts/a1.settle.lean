/-! the hammer, and settling -/
theorem mul_i {x y : Int64} (h : -9000000000000000000 ≤ x.toInt * y.toInt ∧ x.toInt * y.toInt ≤ 9000000000000000000) : (x * y).toInt = x.toInt * y.toInt := by
  rw [Int64.toInt_mul, Int.bmod_eq_of_le] <;> omega
theorem lt_i {x y : Int64} : x < y ↔ x.toInt < y.toInt := Int64.lt_iff_toInt_lt
theorem le_i {x y : Int64} : x ≤ y ↔ x.toInt ≤ y.toInt := Int64.le_iff_toInt_le
theorem pc_i (D : pd) (l : Nat) : (sp_pc D l).toInt = 1 ∨ (sp_pc D l).toInt = 2 ∨ (sp_pc D l).toInt = 12 := by
  unfold sp_pc
  split
  · exact Or.inr (Or.inr rfl)
  · split
    · exact Or.inr (Or.inl rfl)
    · exact Or.inl rfl
theorem ssum_ok {D : pd} {M l : Nat} (hp : pi D M) (hl : l < D.nl) (h : sp_stand D l ≠ -1) : sp_sumOk (sp_ssum D l) := by
  have I := hp.lot l hl
  unfold sp_stand at h
  unfold sp_ssum
  by_cases k4 : D.kind l = 4
  · rw [if_pos k4] at h ⊢
    by_cases f4 : D.facts l 4 = 0
    · rw [if_pos f4] at h; exact absurd rfl h
    · rw [if_neg f4] at h ⊢
      obtain ⟨_, _, z | z⟩ := I.op f4
      · rw [z.1] at h; exact absurd (by decide) h
      · exact z.2
  · rw [if_neg k4] at h ⊢
    by_cases n0 : D.nE l = 0
    · rw [if_pos n0] at h; exact absurd rfl h
    · rw [if_neg n0]
      exact (I.eb (D.nE l - 1) (by omega)).2
theorem sold_st {D : pd} {l : Nat} (h : sp_sold D l) : sp_stand D l ≠ -1 := by
  unfold sp_sold at h
  split at h
  · exact h
  · exact h.1
theorem br_pos {D : pd} {M l : Nat} (hp : pi D M) (hl : l < D.nl) (h : sp_sold D l) : 0 < (sp_ssum D l * sp_pc D l).toInt ∧ (sp_ssum D l * sp_pc D l).toInt ≤ 12000000000000 := by
  have z := sum_i.mp (ssum_ok hp hl (sold_st h))
  rcases pc_i D l with c | c | c <;> rw [mul_i (by rw [c]; omega), c] <;> omega
theorem br_i {D : pd} {M l : Nat} (hp : pi D M) (hl : l < D.nl) : (sp_sold D l ∧ 0 < (sp_brings D l).toInt ∧ (sp_brings D l).toInt ≤ 12000000000000) ∨ (¬ sp_sold D l ∧ sp_brings D l = 0) := by
  unfold sp_brings
  by_cases c : sp_sold D l
  · rw [if_pos c]; exact Or.inl ⟨c, br_pos hp hl c⟩
  · rw [if_neg c]; exact Or.inr ⟨c, rfl⟩
def pd.bb (D : pd) (b : Nat → Nat → Int64) (r : Nat → Int64) (f : Nat → Nat → Int64) : pd := (r, D.st, D.br, b, f, D.book, D.lims, D.sels, D.kind, D.res, D.bkind, D.purse)
theorem share_form {D : pd} {l n : Nat} {x : Int64} : ∀ k, ∃ b, sp_share D l n x k = D.bb b D.room D.facts := by
  intro k
  induction k with
  | zero => exact ⟨D.bal, rfl⟩
  | succ k ih =>
    obtain ⟨b, hb⟩ := ih
    unfold sp_share sp_addB
    rw [hb]
    split
    · exact ⟨_, rfl⟩
    · exact ⟨b, rfl⟩
theorem book_form {D : pd} {l : Nat} {x : Int64} : ∃ b r, sp_book D l x = D.bb b r D.facts ∧ ∀ k, k ≠ 2 → k ≠ 3 → r k = D.room k := by
  unfold sp_book
  dsimp only
  obtain ⟨b, hb⟩ : ∃ b, sp_addB D (sp_stand D l) (-(x + sp_premium D x + sp_tax D l x)) = D.bb b D.room D.facts := by
    unfold sp_addB
    split
    · exact ⟨_, rfl⟩
    · exact ⟨D.bal, rfl⟩
  rw [hb]
  obtain ⟨b2, hb2⟩ := share_form (D := ((D.bb b D.room D.facts).putR 2 ((D.bb b D.room D.facts).room 2 + (sp_premium D x + sp_cutOf D l x))).putR 3 (((D.bb b D.room D.facts).putR 2 ((D.bb b D.room D.facts).room 2 + (sp_premium D x + sp_cutOf D l x))).room 3 + sp_tax D l x)) (l := l) (n := D.nS l) (x := x - sp_cutOf D l x) (D.nS l)
  rw [hb2]
  refine ⟨b2, up1 (up1 D.room 2 (D.room 2 + (sp_premium D x + sp_cutOf D l x))) 3 (up1 D.room 2 (D.room 2 + (sp_premium D x + sp_cutOf D l x)) 3 + sp_tax D l x), rfl, fun k h2 h3 => ?_⟩
  dsimp only [up1]
  rw [if_neg h3, if_neg h2]
theorem fin_pos {D : pd} {l : Nat} {x : Int64} (h : 0 < x) : sp_finish D l x = (sp_book D l x).putF l 2 2 := by
  unfold sp_finish
  rw [if_pos h, book_F]
theorem fin_neg {D : pd} {l : Nat} {x : Int64} (h : ¬ 0 < x) : sp_finish D l x = D.putF l 2 3 := by
  unfold sp_finish
  rw [if_neg h]
theorem fin_form {D : pd} {l : Nat} {x : Int64} : ∃ b r f, sp_finish D l x = D.bb b r f ∧ (∀ k, k ≠ 2 → k ≠ 3 → r k = D.room k) ∧ (∀ m k, k ≠ 2 → f m k = D.facts m k) ∧ (∀ m, f m 2 ≠ D.facts m 2 → f m 2 = 2 ∨ f m 2 = 3) := by
  by_cases h : 0 < x
  · rw [fin_pos h]
    obtain ⟨b, r, e, hr⟩ := book_form (D := D) (l := l) (x := x)
    rw [e]
    refine ⟨b, r, up2 D.facts l 2 2, rfl, hr, ?_, ?_⟩
    · intro m k hk
      exact if_neg (fun z => hk z.1)
    · intro m hm
      dsimp only [up2] at hm ⊢
      by_cases c : 2 = 2 ∧ m = l
      · rw [if_pos c]; exact Or.inl rfl
      · rw [if_neg c] at hm; exact absurd rfl hm
  · rw [fin_neg h]
    refine ⟨D.bal, D.room, up2 D.facts l 2 3, rfl, fun _ _ _ => rfl, ?_, ?_⟩
    · intro m k hk
      exact if_neg (fun z => hk z.1)
    · intro m hm
      dsimp only [up2] at hm ⊢
      by_cases c : 2 = 2 ∧ m = l
      · rw [if_pos c]; exact Or.inr rfl
      · rw [if_neg c] at hm; exact absurd rfl hm
theorem fin_lot {D : pd} {l m : Nat} {x : Int64} : sp_stand (sp_finish D l x) m = sp_stand D m ∧ sp_ssum (sp_finish D l x) m = sp_ssum D m ∧ (sp_finish D l x).nl = D.nl ∧ (sp_finish D l x).nb = D.nb ∧ (sp_finish D l x).nS = D.nS ∧ (D.facts m 2 ≠ 0 → (sp_finish D l x).facts m 2 ≠ 0) := by
  obtain ⟨b, r, f, e, h1, h2, h3⟩ := fin_form (D := D) (l := l) (x := x)
  rw [e]
  have f4 : (D.bb b r f).facts m 4 = D.facts m 4 := h2 m 4 (by decide)
  have f5 : (D.bb b r f).facts m 5 = D.facts m 5 := h2 m 5 (by decide)
  have f6 : (D.bb b r f).facts m 6 = D.facts m 6 := h2 m 6 (by decide)
  refine ⟨?_, ?_, ?_, ?_, rfl, ?_⟩
  · unfold sp_stand
    simp only [f4, f5]
    rfl
  · unfold sp_ssum
    simp only [f4, f6]
    rfl
  · show cn (r 1) = cn (D.room 1)
    rw [h1 1 (by decide) (by decide)]
  · show cn (r 0) = cn (D.room 0)
    rw [h1 0 (by decide) (by decide)]
  · intro h
    show f m 2 ≠ 0
    by_cases c : f m 2 = D.facts m 2
    · rw [c]; exact h
    · rcases h3 m c with z | z <;> rw [z] <;> decide
section HS
variable {N : Nat} {s0 s : mt_S} {D : pd} {e M l : Nat} {ag : Bool} {cs : List Int32}
theorem wk_retC {s' : mt_S} {D' : pd} {e' : Nat} {x : Int64} {L : List Int32} (h : rs s0 s' D' e' ag (addC ag cs L)) (he : e' ≤ e + 2) : wk s0 ag cs e (some (x, s')) (x, D', L) := ⟨s', e', rfl, h, he⟩
theorem notOpen_1 (h : sp_notOpen D l = 0) : D.facts l 2 = 1 := by
  unfold sp_notOpen at h
  split at h
  · exact absurd h (by decide)
  · split at h
    · assumption
    · exact absurd h (by decide)
theorem ne1 {x : Int64} (h : x = 1) : x ≠ 0 := by rw [h]; decide
theorem w_hammer {a : Int32} (h : rs s0 s D e ag cs) (hp : pi D M) (he : e < 1990) (hN : 5000 ≤ N) : wk s0 ag cs e (gm_X8_hammered N a s) (sp_hammer D a) := by
  unfold gm_X8_hammered sp_hammer
  rw [w_noLot h.v, Option.bind_some]
  dsimp only
  refine wk_L h hp (fun l hl1 hl => ?_)
  subst hl1
  have h4 := hp.l0.2
  rw [w_notOpen h.v hp hl, Option.bind_some]
  dsimp only
  refine wk_O h hp hl (fun ho => ?_)
  have f1 := ne1 (notOpen_1 ho)
  rw [rd30 h.v hl h4, Option.bind_some]
  refine wk_ifn (by rw [wh_m1 hp hl]; exact Decidable.not_not.symm) (fun _ => wk_no h) (fun _ => ?_)
  obtain ⟨s1, g1, h1⟩ := w_sold (N := N) h hp hl (by omega)
  rw [g1, Option.bind_some]
  dsimp only
  have hs4 := (hp.lot l hl).s0.2
  by_cases c : sp_sold D l
  · rw [if_pos c, if_neg (by decide)]
    obtain ⟨s2, g2, h2⟩ := w_pieces (N := N) h1 hp hl
    rw [g2, Option.bind_some]
    dsimp only
    rw [addC_add] at h2
    have bE : sp_bringsC D l = sp_soldC D l ++ sp_pcC D l := if_pos c
    have bV : sp_brings D l = sp_ssum D l * sp_pc D l := if_pos c
    rw [rd12 h2.v hl h4, Option.bind_some]
    by_cases n0 : D.nS l = 0
    · rw [if_pos (by rw [n0]; rfl), if_pos ⟨c, n0⟩]
      exact wk_retC (e' := e) (by rw [bE]; exact h2) (by omega)
    · rw [if_neg (by rw [show (0 : Int32) = nI 0 from rfl, cz_eq (by omega) (by omega)]; exact n0), if_neg (fun z => n0 z.2)]
      obtain ⟨s3, g3, h3⟩ := w_sell (pc := sp_pc D l) h2 hp hl (by omega) hN (sold_st c) n0 f1
      rw [g3, Option.bind_some]
      rw [bV, fin_pos (by rw [lt_i]; exact (br_pos hp hl c).1), bE]
      exact wk_retC (e := e) (e' := e) h3 (by omega)
  · rw [if_neg c, if_pos rfl, if_neg (fun z => c z.1)]
    have bE : sp_bringsC D l = sp_soldC D l := if_neg c
    have bV : sp_brings D l = 0 := if_neg c
    rw [gm_wrI (lsc_len h1.v (by omega) 9 (by decide)) (by omega), Option.bind_some, bE, bV, fin_neg (by decide)]
    refine wk_retC (e' := e) (rs_of h1 (hi_I hi_refl (by decide)) ?_) (by omega)
    have r := rv_9 (v := 3) h1.v hl (by decide) f1
    rw [← cl_3] at r
    exact r
theorem w_bring (h : rs s0 s D e ag cs) (hp : pi D M) (hl : l < D.nl) (he : e < 1990) : wm s0 D e ag (addC ag cs (sp_bringsC D l)) (gm_X8_wouldBring N (nI l) s) (if sp_sold D l then sp_brings D l else -1) := by
  unfold gm_X8_wouldBring
  obtain ⟨s1, g1, h1⟩ := w_sold (N := N) h hp hl (by omega)
  rw [g1, Option.bind_some]
  dsimp only
  by_cases c : sp_sold D l
  · rw [if_pos c, if_neg (by decide), if_pos c]
    have bE : sp_bringsC D l = sp_soldC D l ++ sp_pcC D l := if_pos c
    have bV : sp_brings D l = sp_ssum D l * sp_pc D l := if_pos c
    rw [w_ssum h1.v hp hl (by omega), Option.bind_some]
    dsimp only
    obtain ⟨s2, g2, h2⟩ := w_pieces (N := N) h1 hp hl
    rw [g2, Option.bind_some, bE, bV]
    rw [addC_add] at h2
    exact wm_ret h2
  · rw [if_neg c, if_pos rfl, if_neg c]
    have bE : sp_bringsC D l = sp_soldC D l := if_neg c
    rw [bE]
    exact wm_ret h1
theorem set_head {w p q : Int32} {W O T x y z : Int64} {a b c : Prop} [Decidable a] [Decidable b] [Decidable c] (ha : (a ∧ W = x ∧ 0 < x.toInt ∧ x.toInt ≤ 12000000000000) ∨ (¬ a ∧ W = -1 ∧ x = 0)) (hb : (b ∧ O = y ∧ 0 < y.toInt ∧ y.toInt ≤ 12000000000000) ∨ (¬ b ∧ O = -1 ∧ y = 0)) (hc : (c ∧ T = z ∧ 0 < z.toInt ∧ z.toInt ≤ 12000000000000) ∨ (¬ c ∧ T = -1 ∧ z = 0)) : (if W < 0 then gb_X8_settled_157 N w p q O T s else if O ≤ 0 then gb_X8_settled_135 N w p q O T 0 W s else gb_X8_settled_135 N w p q O T O W s) = (if y + z < x then gb_X8_settled_196 N w p q 1 0 0 s else gb_X8_settled_196 N w p q 0 (if b then 1 else 0) (if c then 1 else 0) s) := by
  have t : (y + z).toInt = y.toInt + z.toInt := by
    apply add_i
    rcases hb with ⟨_, _, _, _⟩ | ⟨_, _, hb⟩ <;> rcases hc with ⟨_, _, _, _⟩ | ⟨_, _, hc⟩ <;> (try rw [hb]) <;> (try rw [hc]) <;> (try rw [show (0 : Int64).toInt = 0 from rfl]) <;> omega
  unfold gb_X8_settled_157 gb_X8_settled_135 gb_X8_settled_148 gb_X8_settled_157 gb_X8_settled_158 gb_X8_settled_176 gb_X8_settled_177 gb_X8_settled_195
  have z0 : (0 : Int64).toInt = 0 := rfl
  have m0 : (-1 : Int64) < 0 := by decide
  have m1 : (-1 : Int64) ≤ 0 := by decide
  have o1 : ¬ (1 : Int32) = 0 := by decide
  have neg : ∀ v : Int64, 0 < v.toInt → ¬ v < 0 ∧ ¬ v ≤ 0 := fun v hv => by rw [lt_i, le_i, z0]; omega
  have pz : (0 : Int64) + 0 = 0 := by decide
  rcases hb with ⟨hb, rfl, hb1, hb2⟩ | ⟨hb, rfl, rfl⟩
  · rcases hc with ⟨hc, rfl, hc1, hc2⟩ | ⟨hc, rfl, rfl⟩
    · rcases ha with ⟨ha, rfl, ha1, ha2⟩ | ⟨ha, rfl, rfl⟩
      · simp only [hb, hc, (neg _ ha1).1, (neg _ ha1).2, (neg _ hb1).1, (neg _ hb1).2, (neg _ hc1).1, (neg _ hc1).2, if_true, if_false, o1]
        by_cases k : O + T < W
        · rw [if_neg (fun z => nle64.mpr z k), if_pos k]
        · rw [if_pos (nle64.mp k), if_neg k]
      · have k : ¬ O + T < 0 := by rw [lt_i, t, z0]; omega
        simp only [hb, hc, m0, (neg _ hb1).1, (neg _ hb1).2, (neg _ hc1).1, (neg _ hc1).2, if_true, if_false, o1, k]
    · rw [z0] at t
      have t' : O + 0 = O := Int64.add_zero ..
      rcases ha with ⟨ha, rfl, ha1, ha2⟩ | ⟨ha, rfl, rfl⟩
      · simp only [hb, hc, m0, m1, (neg _ ha1).1, (neg _ ha1).2, (neg _ hb1).1, (neg _ hb1).2, if_true, if_false, o1]
        by_cases k : O + 0 < W
        · rw [if_neg (fun z => nle64.mpr z k), if_pos k]
        · rw [if_pos (nle64.mp k), if_neg k]
      · have k : ¬ O + 0 < 0 := by rw [t']; exact (neg _ hb1).1
        simp only [hb, hc, m0, m1, (neg _ hb1).1, (neg _ hb1).2, if_true, if_false, o1, k]
  · rw [z0] at t
    rcases hc with ⟨hc, rfl, hc1, hc2⟩ | ⟨hc, rfl, rfl⟩
    · rcases ha with ⟨ha, rfl, ha1, ha2⟩ | ⟨ha, rfl, rfl⟩
      · simp only [hb, hc, m0, m1, (neg _ ha1).1, (neg _ ha1).2, (neg _ hc1).1, (neg _ hc1).2, if_true, if_false, o1]
        by_cases k : 0 + T < W
        · rw [if_neg (fun z => nle64.mpr z k), if_pos k]
        · rw [if_pos (nle64.mp k), if_neg k]
      · have k : ¬ 0 + T < 0 := by rw [lt_i, t, z0]; omega
        simp only [hb, hc, m0, m1, (neg _ hc1).1, (neg _ hc1).2, if_true, if_false, o1, k]
    · rcases ha with ⟨ha, rfl, ha1, ha2⟩ | ⟨ha, rfl, rfl⟩
      · simp only [hb, hc, m0, m1, (neg _ ha1).1, (neg _ ha1).2, if_true, if_false, o1]
        by_cases k : (0 : Int64) + 0 < W
        · rw [if_neg (fun z => nle64.mpr z k), if_pos k]
        · rw [if_pos (nle64.mp k), if_neg k]
      · have k : ¬ (0 : Int64) + 0 < 0 := by decide
        simp only [hb, hc, m0, m1, if_true, if_false, o1, k]
end HS
