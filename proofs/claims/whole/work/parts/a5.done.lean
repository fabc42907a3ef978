/-! every act, kept or not -/
theorem bind_eta {α β : Type} {g : Option (α × β)} : (Option.bind g fun q => some (q.1, q.2)) = g := by
  cases g <;> rfl
section PD
variable {D : pd} {M : Nat}
theorem pi_withL {a : Int32} {f : Nat → sr} {M' : Nat} (h : pi D M) (h' : pi D M') (k : ∀ l, a = nI l → l < D.nl → pi (f l).2.1 M') : pi (sp_withL D a f).2.1 M' := by
  unfold sp_withL
  by_cases c : sp_noLot D a = 0
  · rw [if_pos c]
    obtain ⟨x, y⟩ := noLot0 h.l0.2 c
    exact k _ x y
  · rw [if_neg c]; exact h'
theorem pi_withB {a : Int32} {f : Nat → sr} {M' : Nat} (h : pi D M) (h' : pi D M') (k : ∀ l, a = nI l → l < D.nb → pi (f l).2.1 M') : pi (sp_withB D a f).2.1 M' := by
  unfold sp_withB
  by_cases c : sp_noBid D a = 0
  · rw [if_pos c]
    obtain ⟨x, y⟩ := noBid0 h.b0.2 c
    exact k _ x y
  · rw [if_neg c]; exact h'
theorem pi_open' {l : Nat} {f : sr} {M' : Nat} (h' : pi D M') (k : sp_notOpen D l = 0 → pi f.2.1 M') : pi (sp_open' D l f).2.1 M' := by
  unfold sp_open'
  by_cases c : sp_notOpen D l = 0
  · rw [if_pos c]; exact k c
  · rw [if_neg c]; exact h'
theorem pi_ite {c : Prop} [Decidable c] {a b : sr} {M' : Nat} (h1 : c → pi a.2.1 M') (h2 : ¬ c → pi b.2.1 M') : pi (if c then a else b).2.1 M' := by
  by_cases z : c
  · rw [if_pos z]; exact h1 z
  · rw [if_neg z]; exact h2 z
theorem rate_n {r : Int32} (h : sp_rateOk r) : ∃ n : Nat, n ≤ 10000 ∧ r.toInt64 = Int64.ofNat n := by
  obtain ⟨a, b⟩ := h
  obtain ⟨c, d⟩ := cz_of a
  refine ⟨ix r, ?_, ?_⟩
  · rw [c, show (10000 : Int32) = nI 10000 from rfl, cz_lt (by omega) (by omega)] at b
    omega
  · rw [c, cl_64 (by omega), cz_ix (by omega)]
theorem p_bidder {k : Int32} {x : Int64} (h : pi D M) : pi (sp_bidder D k x).2.1 M := by
  unfold sp_bidder
  have h2 := h.b0.2
  refine pi_ite (fun _ => h) (fun c => pi_ite (fun _ => h) (fun c2 => pi_newB h ?_ (by omega)))
  have c1 : ¬ k < 1 := fun z => c (Or.inl z)
  have c3 : ¬ 4 < k := fun z => c (Or.inr (Or.inl z))
  obtain ⟨a, b⟩ := cz_of (a := k) (fun z => c1 (Int32.lt_of_lt_of_le z (by decide)))
  rw [a, show (1 : Int32) = nI 1 from rfl, cz_lt (by omega) (by omega)] at c1
  rw [a, show (4 : Int32) = nI 4 from rfl, cz_lt (by omega) (by omega)] at c3
  obtain z | z | z | z : ix k = 1 ∨ ix k = 2 ∨ ix k = 3 ∨ ix k = 4 := by omega
  all_goals rw [a, z]
  · exact Or.inl rfl
  · exact Or.inr (Or.inl rfl)
  · exact Or.inr (Or.inr (Or.inl rfl))
  · exact Or.inr (Or.inr (Or.inr rfl))
theorem p_lot {k : Int32} {x y : Int64} (h : pi D M) : pi (sp_lot D k x y).2.1 M := by
  unfold sp_lot
  have h2 := h.l0.2
  refine pi_ite (fun _ => h) (fun c => pi_ite (fun _ => h) (fun c2 => pi_newL h ?_ (Decidable.not_not.mp (fun z => c (Or.inr (Or.inr (Or.inl z))))) (Decidable.not_not.mp (fun z => c (Or.inr (Or.inr (Or.inr (Or.inl z)))))) (by omega)))
  obtain ⟨a, b1, b2⟩ := kd_ix (k := k) (fun z => c (Or.inl z)) (fun z => c (Or.inr (Or.inl z)))
  obtain z | z | z | z | z : ix k = 1 ∨ ix k = 2 ∨ ix k = 3 ∨ ix k = 4 ∨ ix k = 5 := by omega
  all_goals rw [a, z]
  · exact Or.inl rfl
  · exact Or.inr (Or.inl rfl)
  · exact Or.inr (Or.inr (Or.inl rfl))
  · exact Or.inr (Or.inr (Or.inr (Or.inl rfl)))
  · exact Or.inr (Or.inr (Or.inr (Or.inr rfl)))
theorem p_seller {a b : Int32} (h : pi D M) : pi (sp_seller D a b).2.1 M := by
  refine pi_withL h h (fun l _ hl => pi_withB h h (fun c hc1 hc => ?_))
  refine pi_ite (fun _ => h) (fun _ => pi_ite (fun _ => h) (fun _ => pi_ite (fun _ => h) (fun z => ?_)))
  rw [hc1]
  exact pi_seller h hl hc (by have := (h.lot l hl).s0.2; omega)
theorem p_cut {a r : Int32} (h : pi D M) : pi (sp_cut D a r).2.1 M := by
  refine pi_ite (fun _ => h) (fun hr => pi_withL h h (fun l _ hl => pi_ite (fun _ => h) (fun _ => ?_)))
  obtain ⟨n, n1, n2⟩ := rate_n (Decidable.not_not.mp hr)
  dsimp only
  rw [n2]
  exact pi_cut h hl n1
theorem p_step {x y : Int64} (h : pi D M) : pi (sp_step D x y).2.1 M := by
  refine pi_ite (fun _ => h) (fun c => pi_ite (fun _ => h) (fun c2 => pi_ite (fun _ => h) (fun c3 => ?_)))
  have := h.st.t0.2
  exact pi_step h (by omega) (Decidable.not_not.mp (fun z => c (Or.inl z))) (Decidable.not_not.mp (fun z => c (Or.inr z))) (fun z => Decidable.not_not.mp (fun y => c3 ⟨z, y⟩))
theorem p_prem {x : Int64} {r : Int32} (h : pi D M) : pi (sp_prem D x r).2.1 M := by
  refine pi_ite (fun _ => h) (fun c => pi_ite (fun _ => h) (fun c2 => pi_ite (fun _ => h) (fun c3 => ?_)))
  have := h.br.t0.2
  obtain ⟨n, n1, n2⟩ := rate_n (Decidable.not_not.mp (fun z => c (Or.inr z)))
  dsimp only
  rw [n2]
  exact pi_brk h (by omega) (Decidable.not_not.mp (fun z => c (Or.inl z))) n1 (fun z => Decidable.not_not.mp (fun y => c3 ⟨z, y⟩))
theorem p_tax {k r : Int32} (h : pi D M) : pi (sp_taxA D k r).2.1 M := by
  refine pi_ite (fun _ => h) (fun c => ?_)
  obtain ⟨n, n1, n2⟩ := rate_n (Decidable.not_not.mp (fun z => c (Or.inr (Or.inr z))))
  dsimp only
  rw [n2]
  exact pi_room h (by omega) (Or.inr (Or.inr ⟨n, n1, rfl⟩))
theorem p_call {a : Int32} (h : pi D M) (hM : M < 2 ^ 31) : pi (sp_call D a).2.1 M := by
  refine pi_withL h h (fun l _ hl => pi_ite (fun _ => h) (fun c => ?_))
  dsimp only
  have n0 := (h.lot l hl).en (Decidable.not_not.mp c)
  refine pi_papers (pi_call h hl) ?_ hM ?_ ?_
  · split <;> exact hl
  · split
    · show D.nE l < 300; omega
    · show D.nE l < 300; omega
  · split
    · dsimp only [pd.putF, up2, pd.room, pd.st, pd.br, pd.bal, pd.facts, pd.book, pd.lims, pd.sels, pd.kind, pd.res, pd.bkind, pd.purse]
      rw [if_neg (by omega), if_pos ⟨rfl, rfl⟩]; decide
    · dsimp only [pd.putF, up2, pd.room, pd.st, pd.br, pd.bal, pd.facts, pd.book, pd.lims, pd.sels, pd.kind, pd.res, pd.bkind, pd.purse]
      rw [if_pos ⟨rfl, rfl⟩]; decide
theorem p_bidIn {l b n : Nat} {x : Int64} (h : pi D M) (hl : l < D.nl) (hb : b < D.nb) (hx : sp_sumOk x) (hn : D.nE l < 299) (hs : D.facts l 2 ≠ 0) (h1 : M < n) (h2 : n < 2 ^ 31) : pi (sp_bidIn D (nI n) l (nI b) x) n := by
  have P1 := pi_enter (b := b) (v := x) h hl hb hx (by omega) hs
  have P2 := pi_bid (n := n) (x := x) P1 (l := l) hl hx h1 h2
  have nE1 : (((sp_enter D l (nI b) x).putF l 7 x).putF l 8 (nI n).toInt64).nE l = D.nE l + 1 := sp_enter_nE (by omega)
  exact pi_papers P2 hl h2 (by omega) hs
theorem p_bid {a b : Int32} {x : Int64} {n : Nat} (h : pi D M) (h1 : M < n) (h2 : n < 2 ^ 31) : pi (sp_bid D (nI n) a b x).2.1 n := by
  have h' : pi D n := pi_mono h (by omega)
  refine pi_ite (fun _ => h') (fun hx => pi_withL h h' (fun l _ hl => pi_ite (fun _ => h') (fun _ => pi_withB h h' (fun c hc1 hc => pi_ite (fun _ => h') (fun _ => pi_open' h' (fun ho => ?_))))))
  refine pi_ite (fun _ => h') (fun _ => pi_ite (fun _ => h') (fun _ => pi_ite (fun _ => h') (fun _ => pi_ite (fun _ => h') (fun _ => pi_ite (fun _ => h') (fun _ => ?_)))))
  rw [hc1]
  exact p_bidIn h hl hc (Decidable.not_not.mp hx) (by omega) (ne1 (notOpen_1 ho)) h1 h2
theorem p_limit {a b : Int32} {x : Int64} {n : Nat} (h : pi D M) (h1 : M < n) (h2 : n < 2 ^ 31) : pi (sp_limit D (nI n) a b x).2.1 n := by
  have h' : pi D n := pi_mono h (by omega)
  refine pi_ite (fun _ => h') (fun hx => pi_withL h h' (fun l _ hl => pi_ite (fun _ => h') (fun _ => pi_withB h h' (fun c hc1 hc => pi_ite (fun _ => h') (fun _ => pi_ite (fun _ => h') (fun _ => pi_ite (fun _ => h') (fun _ => pi_ite (fun _ => h') (fun _ => pi_ite (fun _ => h') (fun h9 => ?_)))))))))
  rw [hc1]
  have I := h.lot l hl
  have P2 := pi_lim (b := c) (n := n) (x := x) h hl hc (Decidable.not_not.mp hx) h1 h2 (by have := I.l0.2; omega)
  show pi (if D.facts l 2 = 1 then sp_papers (sp_limPut D (nI n) l (nI c) x) l else sp_limPut D (nI n) l (nI c) x) n
  split
  · rename_i z
    exact pi_papers P2 hl h2 (by show D.nE l < 300; omega) (by show D.facts l 2 ≠ 0; exact ne1 z)
  · exact P2
theorem p_open {a : Int32} (h : pi D M) : pi (sp_openA D a).2.1 M :=
  pi_withL h h (fun l _ hl => pi_ite (fun _ => h) (fun k => pi_open' h (fun _ => pi_ite (fun _ => h) (fun _ => pi_ite (fun _ => h) (fun n => win_ok h hl (Decidable.not_not.mp k) n)))))
theorem p_tick {a : Int32} {x : Int64} (h : pi D M) : pi (sp_tick D a x).2.1 M :=
  pi_ite (fun _ => h) (fun hx => pi_withL h h (fun l _ hl => pi_ite (fun _ => h) (fun k => pi_open' h (fun ho => pi_ite (fun _ => h) (fun _ => pi_ite (fun _ => h) (fun _ => pi_3 h hl (tick_ok h hl (Decidable.not_not.mp hx) ((h.lot l hl).pr (Decidable.not_not.mp k) (ne1 (notOpen_1 ho))))))))))
theorem stand_0 {l : Nat} (h : pi D M) (hl : l < D.nl) (k : D.kind l ≠ 4) (hs : sp_stand D l = -1) : D.nE l = 0 := by
  refine Classical.byContradiction (fun z => ?_)
  obtain ⟨b, b1, b2⟩ := stand_nE h hl k z
  have := h.b0.2
  have q2 := cz_nn (n := b) (by omega)
  rw [← b2, hs] at q2
  exact q2 (by decide)
theorem p_take {a b : Int32} (h : pi D M) : pi (sp_take D a b).2.1 M := by
  refine pi_withL h h (fun l _ hl => pi_ite (fun _ => h) (fun k => pi_withB h h (fun c hc1 hc => pi_ite (fun _ => h) (fun _ => pi_open' h (fun ho => pi_ite (fun _ => h) (fun hs => ?_))))))
  have k5 := Decidable.not_not.mp k
  have f2 := ne1 (notOpen_1 ho)
  rw [hc1]
  exact pi_enter h hl hc ((h.lot l hl).pr k5 f2) (by rw [stand_0 h hl (by rw [k5]; decide) (Decidable.not_not.mp hs)]; omega) f2
theorem p_hammer {a : Int32} (h : pi D M) : pi (sp_hammer D a).2.1 M :=
  pi_withL h h (fun l _ hl => pi_open' h (fun ho => pi_ite (fun _ => h) (fun _ => pi_ite (fun _ => h) (fun _ => pi_finish h hl (ne1 (notOpen_1 ho))))))
theorem p_join {a b c : Int32} (h : pi D M) : pi (sp_join D a b c).2.1 M := by
  refine pi_withL h h (fun w hw1 hw => pi_withL h h (fun p hp1 hpp => pi_withL h h (fun q hq1 hq => pi_ite (fun _ => h) (fun c1 => pi_ite (fun _ => h) (fun _ => pi_ite (fun _ => h) (fun _ => pi_ite (fun _ => h) (fun c4 => ?_)))))))
  have h4 := h.l0.2
  rw [hw1, hp1, hq1]
  dsimp only
  rw [cl_64 (by omega), cl_64 (by omega), cl_64 (by omega)]
  exact pi_join h hw hpp hq (fun z => c1 (Or.inl z)) (fun z => c1 (Or.inr (Or.inl z))) (fun z => c1 (Or.inr (Or.inr z))) (Decidable.not_not.mp (fun z => c4 (Or.inl z))) (Decidable.not_not.mp (fun z => c4 (Or.inr (Or.inl z)))) (Decidable.not_not.mp (fun z => c4 (Or.inr (Or.inr z))))
theorem settle_pq {w : Nat} (h : pi D M) (hw : w < D.nl) (c : D.facts w 11 = Int64.ofNat w) : ∃ p q, p < D.nl ∧ q < D.nl ∧ w ≠ p ∧ w ≠ q ∧ p ≠ q ∧ D.facts w 12 = Int64.ofNat p ∧ D.facts w 13 = Int64.ofNat q := by
  have h4 := h.l0.2
  rcases (h.lot w hw).wh with z | ⟨w', p, q, ⟨z1, z2, z3, z4, z5, z6, z7, z8, z9, z10, z11⟩, z12, z13⟩
  · rw [z] at c; exact absurd c.symm (ofn_ne (by omega))
  · rw [c, cl_eq (by omega) (by omega)] at z12
    subst z12
    exact ⟨p, q, z2, z3, z4, z5, z6, z8, z9⟩
theorem p_settle {a : Int32} (h : pi D M) : pi (sp_settle D a).2.1 M := by
  refine pi_withL h h (fun w hw1 hw => pi_ite (fun _ => h) (fun c => ?_))
  have h4 := h.l0.2
  have c' := Decidable.not_not.mp c
  rw [hw1, cl_64 (by omega)] at c'
  obtain ⟨p, q, hpp, hq, wp, wq, pq, e12, e13⟩ := settle_pq h hw c'
  dsimp only
  rw [e12, e13, cl_32 (by omega), cl_32 (by omega), cz_ix (by omega), cz_ix (by omega)]
  refine pi_open' h (fun o1 => pi_open' h (fun o2 => pi_open' h (fun o3 => ?_)))
  have fw := ne1 (notOpen_1 o1)
  have fp := ne1 (notOpen_1 o2)
  have fq := ne1 (notOpen_1 o3)
  have g : ∀ (A : pd) (a b : Nat), A.facts b 2 ≠ 0 → (A.putF a 2 3).facts b 2 ≠ 0 := by
    intro A a b hb
    dsimp only [pd.putF, up2, pd.room, pd.st, pd.br, pd.bal, pd.facts, pd.book, pd.lims, pd.sels, pd.kind, pd.res, pd.bkind, pd.purse]
    split
    · decide
    · exact hb
  unfold sp_settleIn
  dsimp only
  refine pi_ite (fun _ => pi_ite (fun _ => h) (fun _ => ?_)) (fun _ => pi_ite (fun _ => h) (fun _ => pi_ite (fun _ => h) (fun _ => ?_)))
  · have L := fun m => fin_lot (D := D) (l := w) (m := m) (x := sp_brings D w)
    exact pi_2 (pi_2 (pi_finish h hw fw) (by rw [(L 0).2.2.1]; exact hpp) (Or.inr (Or.inr rfl)) ((L p).2.2.2.2.2 fp)) (by show q < (sp_finish D w (sp_brings D w)).nl; rw [(L 0).2.2.1]; exact hq) (Or.inr (Or.inr rfl)) (g _ _ _ ((L q).2.2.2.2.2 fq))
  · have L := fun m => fin_lot (D := D.putF w 2 3) (l := p) (m := m) (x := sp_brings D p)
    exact pi_finish (pi_finish (pi_2 h hw (Or.inr (Or.inr rfl)) fw) hpp (g _ _ _ fp)) (by rw [(L 0).2.2.1]; exact hq) ((L q).2.2.2.2.2 (g _ _ _ fq))
theorem p_reoffer {a : Int32} {x : Int64} (h : pi D M) : pi (sp_reoffer D a x).2.1 M := by
  refine pi_ite (fun _ => h) (fun hx => pi_withL h h (fun l _ hl => pi_ite (fun _ => h) (fun _ => pi_ite (fun _ => h) (fun _ => ?_))))
  refine pi_ren (pi_part h hl) ?_ (Decidable.not_not.mp hx)
  rcases part_eq h hl with ⟨_, e⟩ | ⟨w, p, q, _, _, _, e⟩ <;> rw [e] <;> exact hl
theorem p_pay {b : Int32} {x : Int64} (h : pi D M) : pi (sp_pay D b x).2.1 M :=
  pi_ite (fun _ => h) (fun _ => pi_withB h h (fun _ _ _ => pi_ite (fun _ => h) (fun _ => pi_room (pi_bal h) (by decide) (Or.inl (by decide)))))
theorem p_payOut {b : Int32} {x : Int64} (h : pi D M) : pi (sp_payOut D b x).2.1 M :=
  pi_ite (fun _ => h) (fun _ => pi_withB h h (fun _ _ _ => pi_ite (fun _ => h) (fun _ => pi_room (pi_bal h) (by decide) (Or.inl (by decide)))))
theorem p_ask {a : Int32} (h : pi D M) : pi (sp_askA D a).2.1 M := pi_withL h h (fun _ _ _ => pi_open' h (fun _ => h))
theorem p_at {a i : Int32} {c : Nat} (h : pi D M) : pi (sp_at D a i c).2.1 M :=
  pi_withL h h (fun _ _ _ => pi_ite (fun _ => h) (fun _ => pi_ite (fun _ => h) (fun _ => pi_ite (fun _ => h) (fun _ => h))))

def plainW (w : Int32) : Prop := w = 1 ∨ w = 2 ∨ w = 3 ∨ w = 4 ∨ w = 5 ∨ w = 6 ∨ w = 7 ∨ w = 8 ∨ w = 11 ∨ w = 12 ∨ w = 13 ∨ w = 14 ∨ w = 15 ∨ w = 16 ∨ w = 17 ∨ w = 18 ∨ w = 19 ∨ w = 20 ∨ w = 21 ∨ w = 22
def bidW (w : Int32) : Prop := w = 9 ∨ w = 10
theorem do_1 {a : pk} (h : a.w = 1) : sp_do a D = sp_bidder D a.o a.x := by
  unfold sp_do
  rw [if_pos h]
theorem do_2 {a : pk} (h : a.w = 2) : sp_do a D = sp_lot D a.o a.x a.y := by
  unfold sp_do
  rw [if_neg (by rw [h]; decide), if_pos h]
theorem do_3 {a : pk} (h : a.w = 3) : sp_do a D = sp_seller D a.o a.t := by
  unfold sp_do
  rw [if_neg (by rw [h]; decide), if_neg (by rw [h]; decide), if_pos h]
theorem do_4 {a : pk} (h : a.w = 4) : sp_do a D = sp_cut D a.o a.t := by
  unfold sp_do
  rw [if_neg (by rw [h]; decide), if_neg (by rw [h]; decide), if_neg (by rw [h]; decide), if_pos h]
theorem do_5 {a : pk} (h : a.w = 5) : sp_do a D = sp_step D a.x a.y := by
  unfold sp_do
  rw [if_neg (by rw [h]; decide), if_neg (by rw [h]; decide), if_neg (by rw [h]; decide), if_neg (by rw [h]; decide), if_pos h]
theorem do_6 {a : pk} (h : a.w = 6) : sp_do a D = sp_prem D a.x a.o := by
  unfold sp_do
  rw [if_neg (by rw [h]; decide), if_neg (by rw [h]; decide), if_neg (by rw [h]; decide), if_neg (by rw [h]; decide), if_neg (by rw [h]; decide), if_pos h]
theorem do_7 {a : pk} (h : a.w = 7) : sp_do a D = sp_taxA D a.o a.t := by
  unfold sp_do
  rw [if_neg (by rw [h]; decide), if_neg (by rw [h]; decide), if_neg (by rw [h]; decide), if_neg (by rw [h]; decide), if_neg (by rw [h]; decide), if_neg (by rw [h]; decide), if_pos h]
theorem do_8 {a : pk} (h : a.w = 8) : sp_do a D = sp_call D a.o := by
  unfold sp_do
  rw [if_neg (by rw [h]; decide), if_neg (by rw [h]; decide), if_neg (by rw [h]; decide), if_neg (by rw [h]; decide), if_neg (by rw [h]; decide), if_neg (by rw [h]; decide), if_neg (by rw [h]; decide), if_pos h]
theorem do_9 {a : pk} (h : a.w = 9) : sp_do a D = sp_bid D a.n a.o a.t a.x := by
  unfold sp_do
  rw [if_neg (by rw [h]; decide), if_neg (by rw [h]; decide), if_neg (by rw [h]; decide), if_neg (by rw [h]; decide), if_neg (by rw [h]; decide), if_neg (by rw [h]; decide), if_neg (by rw [h]; decide), if_neg (by rw [h]; decide), if_pos h]
theorem do_10 {a : pk} (h : a.w = 10) : sp_do a D = sp_limit D a.n a.o a.t a.x := by
  unfold sp_do
  rw [if_neg (by rw [h]; decide), if_neg (by rw [h]; decide), if_neg (by rw [h]; decide), if_neg (by rw [h]; decide), if_neg (by rw [h]; decide), if_neg (by rw [h]; decide), if_neg (by rw [h]; decide), if_neg (by rw [h]; decide), if_neg (by rw [h]; decide), if_pos h]
theorem do_11 {a : pk} (h : a.w = 11) : sp_do a D = sp_openA D a.o := by
  unfold sp_do
  rw [if_neg (by rw [h]; decide), if_neg (by rw [h]; decide), if_neg (by rw [h]; decide), if_neg (by rw [h]; decide), if_neg (by rw [h]; decide), if_neg (by rw [h]; decide), if_neg (by rw [h]; decide), if_neg (by rw [h]; decide), if_neg (by rw [h]; decide), if_neg (by rw [h]; decide), if_pos h]
theorem do_12 {a : pk} (h : a.w = 12) : sp_do a D = sp_tick D a.o a.x := by
  unfold sp_do
  rw [if_neg (by rw [h]; decide), if_neg (by rw [h]; decide), if_neg (by rw [h]; decide), if_neg (by rw [h]; decide), if_neg (by rw [h]; decide), if_neg (by rw [h]; decide), if_neg (by rw [h]; decide), if_neg (by rw [h]; decide), if_neg (by rw [h]; decide), if_neg (by rw [h]; decide), if_neg (by rw [h]; decide), if_pos h]
theorem do_13 {a : pk} (h : a.w = 13) : sp_do a D = sp_take D a.o a.t := by
  unfold sp_do
  rw [if_neg (by rw [h]; decide), if_neg (by rw [h]; decide), if_neg (by rw [h]; decide), if_neg (by rw [h]; decide), if_neg (by rw [h]; decide), if_neg (by rw [h]; decide), if_neg (by rw [h]; decide), if_neg (by rw [h]; decide), if_neg (by rw [h]; decide), if_neg (by rw [h]; decide), if_neg (by rw [h]; decide), if_neg (by rw [h]; decide), if_pos h]
theorem do_14 {a : pk} (h : a.w = 14) : sp_do a D = sp_hammer D a.o := by
  unfold sp_do
  rw [if_neg (by rw [h]; decide), if_neg (by rw [h]; decide), if_neg (by rw [h]; decide), if_neg (by rw [h]; decide), if_neg (by rw [h]; decide), if_neg (by rw [h]; decide), if_neg (by rw [h]; decide), if_neg (by rw [h]; decide), if_neg (by rw [h]; decide), if_neg (by rw [h]; decide), if_neg (by rw [h]; decide), if_neg (by rw [h]; decide), if_neg (by rw [h]; decide), if_pos h]
theorem do_15 {a : pk} (h : a.w = 15) : sp_do a D = sp_join D a.o a.t a.h := by
  unfold sp_do
  rw [if_neg (by rw [h]; decide), if_neg (by rw [h]; decide), if_neg (by rw [h]; decide), if_neg (by rw [h]; decide), if_neg (by rw [h]; decide), if_neg (by rw [h]; decide), if_neg (by rw [h]; decide), if_neg (by rw [h]; decide), if_neg (by rw [h]; decide), if_neg (by rw [h]; decide), if_neg (by rw [h]; decide), if_neg (by rw [h]; decide), if_neg (by rw [h]; decide), if_neg (by rw [h]; decide), if_pos h]
theorem do_16 {a : pk} (h : a.w = 16) : sp_do a D = sp_settle D a.o := by
  unfold sp_do
  rw [if_neg (by rw [h]; decide), if_neg (by rw [h]; decide), if_neg (by rw [h]; decide), if_neg (by rw [h]; decide), if_neg (by rw [h]; decide), if_neg (by rw [h]; decide), if_neg (by rw [h]; decide), if_neg (by rw [h]; decide), if_neg (by rw [h]; decide), if_neg (by rw [h]; decide), if_neg (by rw [h]; decide), if_neg (by rw [h]; decide), if_neg (by rw [h]; decide), if_neg (by rw [h]; decide), if_neg (by rw [h]; decide), if_pos h]
theorem do_17 {a : pk} (h : a.w = 17) : sp_do a D = sp_reoffer D a.o a.x := by
  unfold sp_do
  rw [if_neg (by rw [h]; decide), if_neg (by rw [h]; decide), if_neg (by rw [h]; decide), if_neg (by rw [h]; decide), if_neg (by rw [h]; decide), if_neg (by rw [h]; decide), if_neg (by rw [h]; decide), if_neg (by rw [h]; decide), if_neg (by rw [h]; decide), if_neg (by rw [h]; decide), if_neg (by rw [h]; decide), if_neg (by rw [h]; decide), if_neg (by rw [h]; decide), if_neg (by rw [h]; decide), if_neg (by rw [h]; decide), if_neg (by rw [h]; decide), if_pos h]
theorem do_18 {a : pk} (h : a.w = 18) : sp_do a D = sp_pay D a.o a.x := by
  unfold sp_do
  rw [if_neg (by rw [h]; decide), if_neg (by rw [h]; decide), if_neg (by rw [h]; decide), if_neg (by rw [h]; decide), if_neg (by rw [h]; decide), if_neg (by rw [h]; decide), if_neg (by rw [h]; decide), if_neg (by rw [h]; decide), if_neg (by rw [h]; decide), if_neg (by rw [h]; decide), if_neg (by rw [h]; decide), if_neg (by rw [h]; decide), if_neg (by rw [h]; decide), if_neg (by rw [h]; decide), if_neg (by rw [h]; decide), if_neg (by rw [h]; decide), if_neg (by rw [h]; decide), if_pos h]
theorem do_19 {a : pk} (h : a.w = 19) : sp_do a D = sp_payOut D a.o a.x := by
  unfold sp_do
  rw [if_neg (by rw [h]; decide), if_neg (by rw [h]; decide), if_neg (by rw [h]; decide), if_neg (by rw [h]; decide), if_neg (by rw [h]; decide), if_neg (by rw [h]; decide), if_neg (by rw [h]; decide), if_neg (by rw [h]; decide), if_neg (by rw [h]; decide), if_neg (by rw [h]; decide), if_neg (by rw [h]; decide), if_neg (by rw [h]; decide), if_neg (by rw [h]; decide), if_neg (by rw [h]; decide), if_neg (by rw [h]; decide), if_neg (by rw [h]; decide), if_neg (by rw [h]; decide), if_neg (by rw [h]; decide), if_pos h]
theorem do_20 {a : pk} (h : a.w = 20) : sp_do a D = sp_askA D a.o := by
  unfold sp_do
  rw [if_neg (by rw [h]; decide), if_neg (by rw [h]; decide), if_neg (by rw [h]; decide), if_neg (by rw [h]; decide), if_neg (by rw [h]; decide), if_neg (by rw [h]; decide), if_neg (by rw [h]; decide), if_neg (by rw [h]; decide), if_neg (by rw [h]; decide), if_neg (by rw [h]; decide), if_neg (by rw [h]; decide), if_neg (by rw [h]; decide), if_neg (by rw [h]; decide), if_neg (by rw [h]; decide), if_neg (by rw [h]; decide), if_neg (by rw [h]; decide), if_neg (by rw [h]; decide), if_neg (by rw [h]; decide), if_neg (by rw [h]; decide), if_pos h]
theorem do_21 {a : pk} (h : a.w = 21) : sp_do a D = sp_at D a.o a.t 0 := by
  unfold sp_do
  rw [if_neg (by rw [h]; decide), if_neg (by rw [h]; decide), if_neg (by rw [h]; decide), if_neg (by rw [h]; decide), if_neg (by rw [h]; decide), if_neg (by rw [h]; decide), if_neg (by rw [h]; decide), if_neg (by rw [h]; decide), if_neg (by rw [h]; decide), if_neg (by rw [h]; decide), if_neg (by rw [h]; decide), if_neg (by rw [h]; decide), if_neg (by rw [h]; decide), if_neg (by rw [h]; decide), if_neg (by rw [h]; decide), if_neg (by rw [h]; decide), if_neg (by rw [h]; decide), if_neg (by rw [h]; decide), if_neg (by rw [h]; decide), if_neg (by rw [h]; decide), if_pos h]
theorem do_22 {a : pk} (h : a.w = 22) : sp_do a D = sp_at D a.o a.t 1 := by
  unfold sp_do
  rw [if_neg (by rw [h]; decide), if_neg (by rw [h]; decide), if_neg (by rw [h]; decide), if_neg (by rw [h]; decide), if_neg (by rw [h]; decide), if_neg (by rw [h]; decide), if_neg (by rw [h]; decide), if_neg (by rw [h]; decide), if_neg (by rw [h]; decide), if_neg (by rw [h]; decide), if_neg (by rw [h]; decide), if_neg (by rw [h]; decide), if_neg (by rw [h]; decide), if_neg (by rw [h]; decide), if_neg (by rw [h]; decide), if_neg (by rw [h]; decide), if_neg (by rw [h]; decide), if_neg (by rw [h]; decide), if_neg (by rw [h]; decide), if_neg (by rw [h]; decide), if_neg (by rw [h]; decide)]
theorem pi_doN {a : pk} (h : pi D M) (hM : M < 2 ^ 31) (hw : plainW a.w) : pi (sp_do a D).2.1 M := by
  unfold plainW at hw
  rcases hw with w | w | w | w | w | w | w | w | w | w | w | w | w | w | w | w | w | w | w | w
  · rw [do_1 w]; exact p_bidder h
  · rw [do_2 w]; exact p_lot h
  · rw [do_3 w]; exact p_seller h
  · rw [do_4 w]; exact p_cut h
  · rw [do_5 w]; exact p_step h
  · rw [do_6 w]; exact p_prem h
  · rw [do_7 w]; exact p_tax h
  · rw [do_8 w]; exact p_call h hM
  · rw [do_11 w]; exact p_open h
  · rw [do_12 w]; exact p_tick h
  · rw [do_13 w]; exact p_take h
  · rw [do_14 w]; exact p_hammer h
  · rw [do_15 w]; exact p_join h
  · rw [do_16 w]; exact p_settle h
  · rw [do_17 w]; exact p_reoffer h
  · rw [do_18 w]; exact p_pay h
  · rw [do_19 w]; exact p_payOut h
  · rw [do_20 w]; exact p_ask h
  · rw [do_21 w]; exact p_at h
  · rw [do_22 w]; exact p_at h
theorem pi_doB {a : pk} {n : Nat} (h : pi D M) (hw : bidW a.w) (hn : a.n = nI n) (h1 : M < n) (h2 : n < 2 ^ 31) : pi (sp_do a D).2.1 n := by
  rcases hw with w | w
  · rw [do_9 w, hn]; exact p_bid h h1 h2
  · rw [do_10 w, hn]; exact p_limit h h1 h2
end PD
section WD
variable {N : Nat} {s0 s : mt_S} {D : pd} {e M : Nat} {ag : Bool} {cs : List Int32} {Kg : Int32 → mt_S → Option (Unit × mt_S)} {o t i : Int32} {x y : Int64}
theorem gd_1 : gm_X8_done Kg N 1 o t i x y s = gm_X8_newBidder N o x s := by
  unfold gm_X8_done
  rw [if_pos rfl]
  exact bind_eta
theorem gd_2 : gm_X8_done Kg N 2 o t i x y s = gm_X8_newLot N o x y s := by
  unfold gm_X8_done
  rw [if_neg (by decide), if_pos rfl]
  exact bind_eta
theorem gd_3 : gm_X8_done Kg N 3 o t i x y s = gm_X8_newSeller N o t s := by
  unfold gm_X8_done
  rw [if_neg (by decide), if_neg (by decide), if_pos rfl]
  exact bind_eta
theorem gd_4 : gm_X8_done Kg N 4 o t i x y s = gm_X8_newCut N o t s := by
  unfold gm_X8_done
  rw [if_neg (by decide), if_neg (by decide), if_neg (by decide), if_pos rfl]
  exact bind_eta
theorem gd_5 : gm_X8_done Kg N 5 o t i x y s = gm_X8_newStep N x y s := by
  unfold gm_X8_done
  rw [if_neg (by decide), if_neg (by decide), if_neg (by decide), if_neg (by decide), if_pos rfl]
  exact bind_eta
theorem gd_6 : gm_X8_done Kg N 6 o t i x y s = gm_X8_newBracket N x o s := by
  unfold gm_X8_done
  rw [if_neg (by decide), if_neg (by decide), if_neg (by decide), if_neg (by decide), if_neg (by decide), if_pos rfl]
  exact bind_eta
theorem gd_7 : gm_X8_done Kg N 7 o t i x y s = gm_X8_newTax N o t s := by
  unfold gm_X8_done
  rw [if_neg (by decide), if_neg (by decide), if_neg (by decide), if_neg (by decide), if_neg (by decide), if_neg (by decide), if_pos rfl]
  exact bind_eta
theorem gd_8 : gm_X8_done Kg N 8 o t i x y s = gm_X8_called N o s := by
  unfold gm_X8_done
  rw [if_neg (by decide), if_neg (by decide), if_neg (by decide), if_neg (by decide), if_neg (by decide), if_neg (by decide), if_neg (by decide), if_pos rfl]
  exact bind_eta
theorem gd_9 : gm_X8_done Kg N 9 o t i x y s = gm_X8_bidden N o t x s := by
  unfold gm_X8_done
  rw [if_neg (by decide), if_neg (by decide), if_neg (by decide), if_neg (by decide), if_neg (by decide), if_neg (by decide), if_neg (by decide), if_neg (by decide), if_pos rfl]
  exact bind_eta
theorem gd_10 : gm_X8_done Kg N 10 o t i x y s = gm_X8_written N o t x s := by
  unfold gm_X8_done
  rw [if_neg (by decide), if_neg (by decide), if_neg (by decide), if_neg (by decide), if_neg (by decide), if_neg (by decide), if_neg (by decide), if_neg (by decide), if_neg (by decide), if_pos rfl]
  exact bind_eta
theorem gd_11 : gm_X8_done Kg N 11 o t i x y s = gm_X8_opened N o s := by
  unfold gm_X8_done
  rw [if_neg (by decide), if_neg (by decide), if_neg (by decide), if_neg (by decide), if_neg (by decide), if_neg (by decide), if_neg (by decide), if_neg (by decide), if_neg (by decide), if_neg (by decide), if_pos rfl]
  exact bind_eta
theorem gd_12 : gm_X8_done Kg N 12 o t i x y s = gm_X8_ticked N o x s := by
  unfold gm_X8_done
  rw [if_neg (by decide), if_neg (by decide), if_neg (by decide), if_neg (by decide), if_neg (by decide), if_neg (by decide), if_neg (by decide), if_neg (by decide), if_neg (by decide), if_neg (by decide), if_neg (by decide), if_pos rfl]
  exact bind_eta
theorem gd_13 : gm_X8_done Kg N 13 o t i x y s = gm_X8_took N o t s := by
  unfold gm_X8_done
  rw [if_neg (by decide), if_neg (by decide), if_neg (by decide), if_neg (by decide), if_neg (by decide), if_neg (by decide), if_neg (by decide), if_neg (by decide), if_neg (by decide), if_neg (by decide), if_neg (by decide), if_neg (by decide), if_pos rfl]
  exact bind_eta
theorem gd_14 : gm_X8_done Kg N 14 o t i x y s = gm_X8_hammered N o s := by
  unfold gm_X8_done
  rw [if_neg (by decide), if_neg (by decide), if_neg (by decide), if_neg (by decide), if_neg (by decide), if_neg (by decide), if_neg (by decide), if_neg (by decide), if_neg (by decide), if_neg (by decide), if_neg (by decide), if_neg (by decide), if_neg (by decide), bind_eta]
  unfold gm_X8_doneElse
  rw [if_pos rfl]
  exact bind_eta
theorem gd_15 : gm_X8_done Kg N 15 o t i x y s = gm_X8_joined N o t i s := by
  unfold gm_X8_done
  rw [if_neg (by decide), if_neg (by decide), if_neg (by decide), if_neg (by decide), if_neg (by decide), if_neg (by decide), if_neg (by decide), if_neg (by decide), if_neg (by decide), if_neg (by decide), if_neg (by decide), if_neg (by decide), if_neg (by decide), bind_eta]
  unfold gm_X8_doneElse
  rw [if_neg (by decide), if_pos rfl]
  exact bind_eta
theorem gd_16 : gm_X8_done Kg N 16 o t i x y s = gm_X8_settled N o s := by
  unfold gm_X8_done
  rw [if_neg (by decide), if_neg (by decide), if_neg (by decide), if_neg (by decide), if_neg (by decide), if_neg (by decide), if_neg (by decide), if_neg (by decide), if_neg (by decide), if_neg (by decide), if_neg (by decide), if_neg (by decide), if_neg (by decide), bind_eta]
  unfold gm_X8_doneElse
  rw [if_neg (by decide), if_neg (by decide), if_pos rfl]
  exact bind_eta
theorem gd_17 : gm_X8_done Kg N 17 o t i x y s = gm_X8_offered N o x s := by
  unfold gm_X8_done
  rw [if_neg (by decide), if_neg (by decide), if_neg (by decide), if_neg (by decide), if_neg (by decide), if_neg (by decide), if_neg (by decide), if_neg (by decide), if_neg (by decide), if_neg (by decide), if_neg (by decide), if_neg (by decide), if_neg (by decide), bind_eta]
  unfold gm_X8_doneElse
  rw [if_neg (by decide), if_neg (by decide), if_neg (by decide), if_pos rfl]
  exact bind_eta
theorem gd_18 : gm_X8_done Kg N 18 o t i x y s = gm_X8_paid N o x s := by
  unfold gm_X8_done
  rw [if_neg (by decide), if_neg (by decide), if_neg (by decide), if_neg (by decide), if_neg (by decide), if_neg (by decide), if_neg (by decide), if_neg (by decide), if_neg (by decide), if_neg (by decide), if_neg (by decide), if_neg (by decide), if_neg (by decide), bind_eta]
  unfold gm_X8_doneElse
  rw [if_neg (by decide), if_neg (by decide), if_neg (by decide), if_neg (by decide), if_pos rfl]
  exact bind_eta
theorem gd_19 : gm_X8_done Kg N 19 o t i x y s = gm_X8_paidOut N o x s := by
  unfold gm_X8_done
  rw [if_neg (by decide), if_neg (by decide), if_neg (by decide), if_neg (by decide), if_neg (by decide), if_neg (by decide), if_neg (by decide), if_neg (by decide), if_neg (by decide), if_neg (by decide), if_neg (by decide), if_neg (by decide), if_neg (by decide), bind_eta]
  unfold gm_X8_doneElse
  rw [if_neg (by decide), if_neg (by decide), if_neg (by decide), if_neg (by decide), if_neg (by decide), if_pos rfl]
  exact bind_eta
theorem gd_20 : gm_X8_done Kg N 20 o t i x y s = gm_X8_asked N o s := by
  unfold gm_X8_done
  rw [if_neg (by decide), if_neg (by decide), if_neg (by decide), if_neg (by decide), if_neg (by decide), if_neg (by decide), if_neg (by decide), if_neg (by decide), if_neg (by decide), if_neg (by decide), if_neg (by decide), if_neg (by decide), if_neg (by decide), bind_eta]
  unfold gm_X8_doneElse
  rw [if_neg (by decide), if_neg (by decide), if_neg (by decide), if_neg (by decide), if_neg (by decide), if_neg (by decide), if_pos rfl]
  exact bind_eta
theorem gd_21 : gm_X8_done Kg N 21 o t i x y s = gm_X8_entryAt N 21 o t s := by
  unfold gm_X8_done
  rw [if_neg (by decide), if_neg (by decide), if_neg (by decide), if_neg (by decide), if_neg (by decide), if_neg (by decide), if_neg (by decide), if_neg (by decide), if_neg (by decide), if_neg (by decide), if_neg (by decide), if_neg (by decide), if_neg (by decide), bind_eta]
  unfold gm_X8_doneElse
  rw [if_neg (by decide), if_neg (by decide), if_neg (by decide), if_neg (by decide), if_neg (by decide), if_neg (by decide), if_neg (by decide), if_pos rfl]
  exact bind_eta
theorem gd_22 : gm_X8_done Kg N 22 o t i x y s = gm_X8_entryAt N 22 o t s := by
  unfold gm_X8_done
  rw [if_neg (by decide), if_neg (by decide), if_neg (by decide), if_neg (by decide), if_neg (by decide), if_neg (by decide), if_neg (by decide), if_neg (by decide), if_neg (by decide), if_neg (by decide), if_neg (by decide), if_neg (by decide), if_neg (by decide), bind_eta]
  unfold gm_X8_doneElse
  rw [if_neg (by decide), if_neg (by decide), if_neg (by decide), if_neg (by decide), if_neg (by decide), if_neg (by decide), if_neg (by decide), if_neg (by decide), if_pos rfl]
  exact bind_eta
theorem gd_23 : gm_X8_done Kg N 23 o t i x y s = gm_X8_opensBatch N s := by
  unfold gm_X8_done
  rw [if_neg (by decide), if_neg (by decide), if_neg (by decide), if_neg (by decide), if_neg (by decide), if_neg (by decide), if_neg (by decide), if_neg (by decide), if_neg (by decide), if_neg (by decide), if_neg (by decide), if_neg (by decide), if_neg (by decide), bind_eta]
  unfold gm_X8_doneElse
  rw [if_neg (by decide), if_neg (by decide), if_neg (by decide), if_neg (by decide), if_neg (by decide), if_neg (by decide), if_neg (by decide), if_neg (by decide), if_neg (by decide), if_pos rfl]
  exact bind_eta
theorem gd_24 : gm_X8_done Kg N 24 o t i x y s = gm_X8_endsBatch N s := by
  unfold gm_X8_done
  rw [if_neg (by decide), if_neg (by decide), if_neg (by decide), if_neg (by decide), if_neg (by decide), if_neg (by decide), if_neg (by decide), if_neg (by decide), if_neg (by decide), if_neg (by decide), if_neg (by decide), if_neg (by decide), if_neg (by decide), bind_eta]
  unfold gm_X8_doneElse
  rw [if_neg (by decide), if_neg (by decide), if_neg (by decide), if_neg (by decide), if_neg (by decide), if_neg (by decide), if_neg (by decide), if_neg (by decide), if_neg (by decide), if_neg (by decide), if_pos rfl]
  exact bind_eta
theorem gd_25 : gm_X8_done Kg N 25 o t i x y s = gm_X8_undoes Kg N s := by
  unfold gm_X8_done
  rw [if_neg (by decide), if_neg (by decide), if_neg (by decide), if_neg (by decide), if_neg (by decide), if_neg (by decide), if_neg (by decide), if_neg (by decide), if_neg (by decide), if_neg (by decide), if_neg (by decide), if_neg (by decide), if_neg (by decide), bind_eta]
  unfold gm_X8_doneElse
  rw [if_neg (by decide), if_neg (by decide), if_neg (by decide), if_neg (by decide), if_neg (by decide), if_neg (by decide), if_neg (by decide), if_neg (by decide), if_neg (by decide), if_neg (by decide), if_neg (by decide)]
  exact bind_eta
theorem w_doN {a : pk} (h : rs s0 s D e ag cs) (hp : pi D M) (he : e < 1900) (hM : M < 2 ^ 31) (hN : 5000 ≤ N) (hw : plainW a.w) : wk s0 ag cs e (gm_X8_done Kg N a.w a.o a.t a.h a.x a.y s) (sp_do a D) := by
  unfold plainW at hw
  rcases hw with w | w | w | w | w | w | w | w | w | w | w | w | w | w | w | w | w | w | w | w
  · rw [do_1 w, w, gd_1]; exact w_newB h hp
  · rw [do_2 w, w, gd_2]; exact w_newL h hp
  · rw [do_3 w, w, gd_3]; exact w_seller h hp hN
  · rw [do_4 w, w, gd_4]; exact w_cut h hp
  · rw [do_5 w, w, gd_5]; exact w_step h hp
  · rw [do_6 w, w, gd_6]; exact w_prem h hp
  · rw [do_7 w, w, gd_7]; exact w_tax h
  · rw [do_8 w, w, gd_8]; exact w_called h hp he hM hN
  · rw [do_11 w, w, gd_11]; exact w_opened h hp hN
  · rw [do_12 w, w, gd_12]; exact w_tick h hp (by omega)
  · rw [do_13 w, w, gd_13]; exact w_take h hp (by omega) hN
  · rw [do_14 w, w, gd_14]; exact w_hammer h hp (by omega) hN
  · rw [do_15 w, w, gd_15]; exact w_join h hp
  · rw [do_16 w, w, gd_16]; exact w_settle h hp (by omega) hN
  · rw [do_17 w, w, gd_17]; exact w_offer h hp
  · rw [do_18 w, w, gd_18]; exact w_pay h hp
  · rw [do_19 w, w, gd_19]; exact w_payOut h hp
  · rw [do_20 w, w, gd_20]; exact w_asked h hp (by omega) hN
  · rw [do_21 w, w, gd_21]; exact w_at (Or.inl ⟨rfl, rfl⟩) h hp hN
  · rw [do_22 w, w, gd_22]; exact w_at (Or.inr ⟨rfl, rfl⟩) h hp hN
theorem w_doB {a : pk} {n : Nat} (h : rs s0 s D e ag cs) (hp : pi D M) (he : e < 1900) (hn : nxtN s0 ag = nI n) (hn1 : M < n) (hn2 : n < 2 ^ 31) (hN : 5000 ≤ N) (hw : bidW a.w) (ha : a.n = nI n) : wkn s0 ag cs e (gm_X8_done Kg N a.w a.o a.t a.h a.x a.y s) (sp_do a D) := by
  rcases hw with w | w
  · rw [do_9 w, w, gd_9, ha]; exact w_bid h hp he hn hn1 hn2 hN
  · rw [do_10 w, w, gd_10, ha]; exact w_limit h hp he hn hn1 hn2 hN
end WD
