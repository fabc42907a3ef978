/-! bodies of the class -/
def cm {α : Type} (k0 : mt_S) (D : pd) (J0 E : List je) (cs : List Int32) (g n : Nat) (o : Option (α × mt_S)) (r : α) : Prop := ∃ k1, o = some (r, k1) ∧ cw k0 k1 D J0 E cs g n
theorem aft_ext {T : Nat → Int64} {x : Int64} {i : Nat} : ∀ m, i ≤ m → (∀ j, i ≤ j → j < m → x < T (1 + 2 * j)) → aft T x m = aft T x i := by
  intro m
  induction m with
  | zero => intro hi _; rw [show i = 0 from by omega]
  | succ m ih =>
    intro hi hj
    by_cases c : i = m + 1
    · rw [c]
    · show (if T (1 + 2 * m) ≤ x then T (2 + 2 * m) else aft T x m) = _
      rw [if_neg (fun z => absurd (hj m (by omega) (by omega)) (nle64.mpr z))]
      exact ih (by omega) (fun j a b => hj j a (by omega))
theorem ti_up {T : Nat → Int64} (h : ti T) {i : Nat} : ∀ d, i + d < cn (T 0) → (T (1 + 2 * i)).toInt ≤ (T (1 + 2 * (i + d))).toInt := by
  intro d
  induction d with
  | zero => intro _; exact Int.le_refl _
  | succ d ih =>
    intro hd
    have a := ih (by omega)
    have b := lt_i.mp (h.up (i + d) (by omega))
    rw [show i + (d + 1) = i + d + 1 from by omega]
    omega
section BO
variable {N : Nat} {k0 k : mt_S} {D : pd} {J0 E : List je} {cs : List Int32} {g n M l b : Nat}
theorem cm_ret {α : Type} {r : α} (h : cw k0 k D J0 E cs g n) : cm k0 D J0 E cs g n (some (r, k)) r := ⟨k, rfl, h⟩
theorem c_aftL {x : Int64} (h : cw k0 k D J0 E cs g n) (ht : ti D.st) : ∀ (d i f : Nat), i + d = cn (D.st 0) → d < f → gkp_X6_after_14 N f 1 x (aft D.st x i) (nI (cn (D.st 0))) (nI i) k = some (aft D.st x (cn (D.st 0)), k) := by
  have h20 := ht.t0.2
  intro d
  induction d with
  | zero =>
    intro i f hi hf
    obtain ⟨f, rfl⟩ : ∃ m, f = m + 1 := ⟨f - 1, by omega⟩
    unfold gkp_X6_after_14 gkl_X6_after_14
    rw [if_pos (by rw [cz_le (by omega) (by omega)]; omega), show i = cn (D.st 0) from by omega]
  | succ d ih =>
    intro i f hi hf
    obtain ⟨f, rfl⟩ : ∃ m, f = m + 1 := ⟨f - 1, by omega⟩
    unfold gkp_X6_after_14 gkl_X6_after_14
    rw [if_neg (by rw [cz_le (by omega) (by omega)]; omega), c_tab (Or.inl rfl), Option.bind_some, c_sheT (Or.inl rfl), Option.bind_some, c_atT (q := 0) (j := 0) h (Or.inl rfl) rfl (by omega) (by omega), Option.bind_some]
    dsimp only
    rw [show rdD D 1 (1 + 0 + 2 * i) = D.st (1 + 2 * i) from rfl]
    by_cases c : x < D.st (1 + 2 * i)
    · rw [if_pos c, aft_ext (i := i) (cn (D.st 0)) (by omega)]
      intro j a b
      rw [lt_i] at c ⊢
      have := ti_up ht (i := i) (j - i) (by omega)
      rw [show i + (j - i) = j from by omega] at this
      omega
    · rw [if_neg c, c_tab (Or.inl rfl), Option.bind_some, c_sheT (Or.inl rfl), Option.bind_some, c_atT (q := 1) (j := 1) h (Or.inl rfl) rfl (by omega) (by omega), Option.bind_some]
      dsimp only
      have q := ih (i + 1) f (by omega) (by omega)
      rw [show aft D.st x (i + 1) = D.st (2 + 2 * i) from if_pos (nle64.mp c)] at q
      rw [show (1 : Int32) = nI 1 from rfl, cz_add]
      exact q
theorem c_after {x : Int64} (h : cw k0 k D J0 E cs g n) (hp : pi D M) (hN : 5000 ≤ N) : gk_X6_after N 1 x k = some (sp_after D.st x, k) := by
  unfold gk_X6_after
  have h20 := hp.st.t0.2
  rw [c_tab (Or.inl rfl), Option.bind_some, c_sheT (Or.inl rfl), Option.bind_some, c_rowT h (Or.inl rfl) hp.st.t0.1 hp.st.t0.2, Option.bind_some]
  dsimp only
  have q := c_aftL (N := N) (x := x) h hp.st (cn (D.st 0)) 0 N (by omega) (by omega)
  rw [show aft D.st x 0 = 1 from rfl] at q
  rw [show (0 : Int32) = nI 0 from rfl, show cn (rdD D 1 0) = cn (D.st 0) from rfl, q, Option.bind_some]
  rfl
theorem prm_ext {T : Nat → Int64} {x : Int64} {i m : Nat} : ∀ j, i ≤ j → j ≤ m → (∀ q, i ≤ q → q < m → x ≤ T (1 + 2 * q)) → prm T x m j = prm T x m i := by
  intro j
  induction j with
  | zero => intro hi _ _; rw [show i = 0 from by omega]
  | succ j ih =>
    intro hi hj hq
    by_cases c : i = j + 1
    · rw [c]
    · have t : prT T x m j = x := by
        unfold prT
        rw [if_neg]
        rintro ⟨z1, z2⟩
        exact absurd z2 (nle64.mpr (hq (j + 1) (by omega) z1))
      show (if T (1 + 2 * j) < prT T x m j then _ else prm T x m j) = _
      rw [t, if_neg (nle64.mpr (hq j (by omega) (by omega)))]
      exact ih (by omega) (by omega) hq
theorem c_prmL {x : Int64} (h : cw k0 k D J0 E cs g n) (ht : ti D.br) : ∀ (d i f : Nat), i + d = cn (D.br 0) → d < f → gkp_X6_premiumTimesRate_14 N f 2 x (prm D.br x (cn (D.br 0)) i) (nI (cn (D.br 0))) (nI i) k = some (prm D.br x (cn (D.br 0)) (cn (D.br 0)), k) := by
  have h20 := ht.t0.2
  intro d
  induction d with
  | zero =>
    intro i f hi hf
    obtain ⟨f, rfl⟩ : ∃ m, f = m + 1 := ⟨f - 1, by omega⟩
    unfold gkp_X6_premiumTimesRate_14 gkl_X6_premiumTimesRate_14
    rw [if_pos (by rw [cz_le (by omega) (by omega)]; omega), show i = cn (D.br 0) from by omega]
  | succ d ih =>
    intro i f hi hf
    obtain ⟨f, rfl⟩ : ∃ m, f = m + 1 := ⟨f - 1, by omega⟩
    unfold gkp_X6_premiumTimesRate_14 gkl_X6_premiumTimesRate_14
    rw [if_neg (by rw [cz_le (by omega) (by omega)]; omega), c_tab (Or.inr rfl), Option.bind_some, c_sheT (Or.inr rfl), Option.bind_some, c_atT (q := 0) (j := 0) h (Or.inr rfl) rfl (by omega) (by omega), Option.bind_some]
    dsimp only
    rw [show rdD D 2 (1 + 0 + 2 * i) = D.br (1 + 2 * i) from rfl]
    by_cases c : x ≤ D.br (1 + 2 * i)
    · rw [if_pos c, prm_ext (i := i) (cn (D.br 0)) (by omega) (by omega)]
      intro j a b
      rw [le_i] at c ⊢
      have := ti_up ht (i := i) (j - i) (by omega)
      rw [show i + (j - i) = j from by omega] at this
      omega
    · rw [if_neg c]
      have c' : D.br (1 + 2 * i) < x := Int64.not_le.mp c
      have fin : ∀ t, t = prT D.br x (cn (D.br 0)) i → D.br (1 + 2 * i) < t → gkb_X6_premiumTimesRate_65_14 (gkp_X6_premiumTimesRate_14 N f) N 2 x (prm D.br x (cn (D.br 0)) i) (nI (cn (D.br 0))) (nI i) t k = some (prm D.br x (cn (D.br 0)) (cn (D.br 0)), k) := by
        intro t t1 t2
        unfold gkb_X6_premiumTimesRate_65_14
        rw [c_tab (Or.inr rfl), Option.bind_some, c_sheT (Or.inr rfl), Option.bind_some, c_atT (q := 0) (j := 0) h (Or.inr rfl) rfl (by omega) (by omega), Option.bind_some]
        dsimp only
        rw [c_tab (Or.inr rfl), Option.bind_some, c_sheT (Or.inr rfl), Option.bind_some, c_atT (q := 1) (j := 1) h (Or.inr rfl) rfl (by omega) (by omega), Option.bind_some]
        dsimp only
        have q := ih (i + 1) f (by omega) (by omega)
        rw [show prm D.br x (cn (D.br 0)) (i + 1) = prm D.br x (cn (D.br 0)) i + (t - D.br (1 + 2 * i)) * D.br (2 + 2 * i) from by rw [t1] at t2 ⊢; exact if_pos t2] at q
        rw [show (1 : Int32) = nI 1 from rfl, cz_add]
        exact q
      rw [show nI i + 1 = nI (i + 1) from cz_add i 1]
      by_cases c2 : i + 1 < cn (D.br 0)
      · rw [if_neg (by rw [cz_le (by omega) (by omega)]; omega), c_tab (Or.inr rfl), Option.bind_some, c_sheT (Or.inr rfl), Option.bind_some, c_atT (q := 0) (j := 0) h (Or.inr rfl) rfl (by omega) (by omega), Option.bind_some]
        dsimp only
        rw [show rdD D 2 (1 + 0 + 2 * (i + 1)) = D.br (1 + 2 * (i + 1)) from rfl]
        by_cases c3 : D.br (1 + 2 * (i + 1)) < x
        · rw [if_pos c3]
          exact fin _ (by unfold prT; rw [if_pos ⟨c2, c3⟩]) (ht.up i c2)
        · rw [if_neg c3]
          exact fin _ (by unfold prT; rw [if_neg (fun z => c3 z.2)]) c'
      · rw [if_pos (by rw [cz_le (by omega) (by omega)]; omega)]
        exact fin _ (by unfold prT; rw [if_neg (fun z => c2 z.1)]) c'
theorem c_prem {x : Int64} (h : cw k0 k D J0 E cs g n) (hp : pi D M) (hN : 5000 ≤ N) : gk_X6_premiumTimesRate N 2 x k = some (prm D.br x (cn (D.br 0)) (cn (D.br 0)), k) := by
  unfold gk_X6_premiumTimesRate
  have h20 := hp.br.t0.2
  rw [c_tab (Or.inr rfl), Option.bind_some, c_sheT (Or.inr rfl), Option.bind_some, c_rowT h (Or.inr rfl) hp.br.t0.1 hp.br.t0.2, Option.bind_some]
  dsimp only
  have q := c_prmL (N := N) (x := x) h hp.br (cn (D.br 0)) 0 N (by omega) (by omega)
  rw [show prm D.br x (cn (D.br 0)) 0 = 0 from rfl] at q
  rw [show (0 : Int32) = nI 0 from rfl, show cn (rdD D 2 0) = cn (D.br 0) from rfl, q, Option.bind_some]
theorem div_n {x y : Int64} {c : Int} (hy : y.toInt = c) (hc : 2 ≤ c) (hx : 0 ≤ x.toInt) : (x / y).toInt = x.toInt / c := by
  have h1 := x.toInt_lt
  have b1 : 0 ≤ x.toInt / c := Int.ediv_nonneg hx (by omega)
  have b2 : x.toInt / c ≤ x.toInt := Int.ediv_le_self _ hx
  rw [Int64.toInt_div, hy, Int.tdiv_eq_ediv_of_nonneg hx, Int.bmod_eq_of_le] <;> omega
theorem div_m {x y : Int64} {c : Int} (hy : y.toInt = c) (hc : 2 ≤ c) (hx : x.toInt < 0) : (x / y).toInt = -((-x.toInt) / c) := by
  have h1 := x.le_toInt
  have e : x.toInt.tdiv c = -((-x.toInt) / c) := by
    have := Int.neg_tdiv (-x.toInt) c
    rw [Int.neg_neg] at this
    rw [this, Int.tdiv_eq_ediv_of_nonneg (by omega)]
  have b1 : 0 ≤ (-x.toInt) / c := Int.ediv_nonneg (by omega) (by omega)
  have b2 : 2 * ((-x.toInt) / c) ≤ -x.toInt := by
    have p1 := Int.mul_ediv_self_le (x := -x.toInt) (k := c) (by omega)
    have p2 : 2 * ((-x.toInt) / c) ≤ c * ((-x.toInt) / c) := Int.mul_le_mul_of_nonneg_right hc b1
    omega
  rw [Int64.toInt_div, hy, e, Int.bmod_eq_of_le] <;> omega
theorem mul_j {x y : Int64} (h : -9223372036854775808 ≤ x.toInt * y.toInt ∧ x.toInt * y.toInt < 9223372036854775808) : (x * y).toInt = x.toInt * y.toInt := by
  rw [Int64.toInt_mul, Int.bmod_eq_of_le] <;> omega
theorem even_2 {x : Int64} (h : 2 * (x - x / 10000 * 10000) = 10000) : x / 10000 - x / 10000 / 2 * 2 = 0 ∨ x / 10000 - x / 10000 / 2 * 2 = 1 := by
  have i4 : (10000 : Int64).toInt = 10000 := rfl
  have i2 : (2 : Int64).toInt = 2 := rfl
  have h1 := x.toInt_lt
  have h2 := x.le_toInt
  rcases Int.lt_or_le x.toInt 0 with c | c
  · exfalso
    have q := div_m (x := x) i4 (by decide) c
    have m : (x / 10000 * 10000).toInt = -((-x.toInt) / 10000) * 10000 := by rw [mul_j (by rw [q, i4]; omega), q, i4]
    have r : (x - x / 10000 * 10000).toInt = x.toInt - -((-x.toInt) / 10000) * 10000 := by rw [sub_i (by rw [m]; omega), m]
    have t : (2 * (x - x / 10000 * 10000)).toInt = 2 * (x.toInt - -((-x.toInt) / 10000) * 10000) := by rw [mul_i (by rw [r, i2]; omega), r, i2]
    rw [h, i4] at t
    omega
  · have q := div_n (x := x) i4 (by decide) c
    have q0 : 0 ≤ (x / 10000).toInt := by rw [q]; omega
    have u := div_n (x := x / 10000) i2 (by decide) q0
    have m : (x / 10000 / 2 * 2).toInt = (x / 10000).toInt / 2 * 2 := by rw [mul_i (by rw [u, i2]; omega), u, i2]
    have r : (x / 10000 - x / 10000 / 2 * 2).toInt = (x / 10000).toInt - (x / 10000).toInt / 2 * 2 := by rw [sub_i (by rw [m]; omega), m]
    rcases (show (x / 10000).toInt - (x / 10000).toInt / 2 * 2 = 0 ∨ (x / 10000).toInt - (x / 10000).toInt / 2 * 2 = 1 by omega) with z | z
    · exact Or.inl (by rw [← Int64.toInt_inj, r, z]; rfl)
    · exact Or.inr (by rw [← Int64.toInt_inj, r, z]; rfl)
theorem c_even {x : Int64} : gk_X7_evenCents N x k = some (sp_even x, k) := by
  unfold gk_X7_evenCents sp_even gkb_X7_evenCents_49 gkb_X7_evenCents_53 gkb_X7_evenCents_54
  rw [if_neg (show ¬ (1 : Int32) = 0 by decide), if_pos (show (0 : Int32) = 0 from rfl)]
  by_cases a : 10000 < 2 * (x - x / 10000 * 10000)
  · rw [if_pos a, if_pos a]
  · rw [if_neg a, if_neg a]
    by_cases b : 2 * (x - x / 10000 * 10000) = 10000
    · rw [if_pos b]
      rcases even_2 b with c | c
      · rw [if_pos c, if_neg (fun z => by rw [z.2] at c; exact absurd c (by decide))]
      · rw [if_neg (by rw [c]; decide), if_pos ⟨b, c⟩]
    · rw [if_neg b, if_neg (fun z => b z.1)]
theorem c_pieces (h : cw k0 k D J0 E cs g n) (hl : l < D.nl) : cm k0 D J0 E (addC false cs (sp_pcC D l)) g n (gk_X1_piecesOf N l k) (sp_pc D l) := by
  unfold gk_X1_piecesOf sp_pcC sp_pc
  rw [c_lot h hl, Option.bind_some, Option.bind_some, (h.kd.l l hl).1]
  by_cases c3 : D.kind l = 3
  · rw [if_pos c3, if_pos c3, if_pos c3]
    obtain ⟨k1, g1, h1⟩ := k_run (N := N) (c := 6) h
    rw [g1, Option.bind_some]
    obtain ⟨k2, g2, h2⟩ := k_run (N := N) (c := 5) h1
    dsimp only
    rw [g2, Option.bind_some]
    rw [addC_add] at h2
    exact cm_ret h2
  · rw [if_neg c3, if_neg c3, if_neg c3]
    by_cases c2 : D.kind l = 2
    · rw [if_pos c2, if_pos c2, if_pos c2]
      obtain ⟨k1, g1, h1⟩ := k_run (N := N) (c := 5) h
      rw [g1, Option.bind_some]
      exact cm_ret h1
    · rw [if_neg c2, if_neg c2, if_neg c2]
      obtain ⟨k1, g1, h1⟩ := k_run (N := N) (c := 4) h
      rw [g1, Option.bind_some]
      exact cm_ret h1
theorem c_ask (h : cw k0 k D J0 E cs g n) (hp : pi D M) (hl : l < D.nl) (hN : 5000 ≤ N) : cm k0 D J0 E (addC false cs (sp_askC D l)) g n (gk_X1_askFor N l k) (sp_ask D l) := by
  unfold gk_X1_askFor sp_askC sp_ask
  rw [c_lot h hl, Option.bind_some, Option.bind_some, (h.kd.l l hl).1]
  by_cases c5 : D.kind l = 5
  · rw [if_pos c5, if_pos c5, if_pos c5]
    obtain ⟨k1, g1, h1⟩ := k_run (N := N) (c := 3) h
    rw [g1, Option.bind_some]
    dsimp only
    rw [c_lot h1 hl, Option.bind_some, h1.cel (dmF hl), Option.bind_some, c_F (q := 3) (p := 3) h1 hl rfl (by omega), Option.bind_some]
    exact cm_ret h1
  · rw [if_neg c5, if_neg c5, if_neg c5]
    have fin : ∀ (k : mt_S) (cs : List Int32), cw k0 k D J0 E cs g n → cm k0 D J0 E (addC false cs [1]) g n (gkb_X1_askFor_35 N l k) (if D.kind l = 4 then D.facts l 0 else if sp_stand D l = -1 then D.facts l 0 else sp_after D.st (sp_ssum D l)) := by
      intro k cs h
      unfold gkb_X1_askFor_35
      obtain ⟨k1, g1, h1⟩ := k_run (N := N) (c := 1) h
      rw [g1, Option.bind_some]
      dsimp only
      rw [c_lot h1 hl, Option.bind_some, Option.bind_some, (h1.kd.l l hl).1, c_stand h1 hp hl, Option.bind_some]
      dsimp only
      unfold gkb_X1_askFor_56 gkb_X1_askFor_61
      rw [if_neg (show ¬ (1 : Int32) = 0 by decide), if_pos (show (0 : Int32) = 0 from rfl), c_lot h1 hl, Option.bind_some, Option.bind_some, c_start h1 hl, Option.bind_some, c_ssum h1 hp hl, Option.bind_some]
      dsimp only
      rw [c_tab (Or.inl rfl), Option.bind_some, c_after h1 hp hN, Option.bind_some]
      by_cases c4 : D.kind l = 4
      · rw [if_pos c4, if_pos c4]; exact cm_ret h1
      · rw [if_neg c4, if_neg c4]
        by_cases c6 : sp_stand D l = -1
        · rw [if_pos c6, if_pos c6]; exact cm_ret h1
        · rw [if_neg c6, if_neg c6]; exact cm_ret h1
    by_cases c4 : D.kind l = 4
    · rw [if_pos c4, if_pos c4]
      obtain ⟨k1, g1, h1⟩ := k_run (N := N) (c := 2) h
      rw [g1, Option.bind_some]
      have q := fin k1 _ h1
      rw [addC_add] at q
      exact q
    · rw [if_neg c4, if_neg c4]
      exact fin k cs h
theorem c_sold (h : cw k0 k D J0 E cs g n) (hp : pi D M) (hl : l < D.nl) : cm k0 D J0 E (addC false cs (sp_soldC D l)) g n (gk_X1_isSold N l k) (if sp_sold D l then 1 else 0) := by
  unfold gk_X1_isSold
  rw [c_lot h hl, Option.bind_some, c_stand h hp hl, Option.bind_some]
  dsimp only
  have key : ∀ (s0 : Int32), s0 = (if sp_stand D l = -1 then 0 else 1) → cm k0 D J0 E (addC false cs (sp_soldC D l)) g n (gkb_X1_isSold_13 N l s0 k) (if sp_sold D l then 1 else 0) := by
    intro s0 hs0
    unfold gkb_X1_isSold_13 sp_soldC
    rw [c_lot h hl, Option.bind_some, Option.bind_some, (h.kd.l l hl).1]
    have se : s0 = 0 ↔ sp_stand D l = -1 := by
      rw [hs0]
      split
      · exact ⟨fun _ => by assumption, fun _ => rfl⟩
      · exact ⟨fun z => absurd z (by decide), fun z => absurd z (by assumption)⟩
    have s01 : s0 = 0 ∨ s0 = 1 := by
      rw [hs0]
      split
      · exact Or.inl rfl
      · exact Or.inr rfl
    by_cases c5 : D.kind l = 5
    · rw [if_pos c5, if_pos c5]
      obtain ⟨k1, g1, h1⟩ := k_run (N := N) (c := 13) h
      rw [g1, Option.bind_some, if_pos s01]
      have e : s0 = if sp_sold D l then 1 else 0 := by
        have sd : sp_sold D l ↔ sp_stand D l ≠ -1 := by unfold sp_sold; rw [if_pos c5]
        rw [hs0]
        by_cases z : sp_stand D l = -1
        · rw [if_pos z, if_neg (fun y => sd.mp y z)]
        · rw [if_neg z, if_pos (sd.mpr z)]
      rw [← e]
      exact cm_ret h1
    · rw [if_neg c5, if_neg c5]
      have fin : ∀ (k : mt_S) (cs : List Int32), cw k0 k D J0 E cs g n → cm k0 D J0 E (addC false cs [11]) g n (gkb_X1_isSold_44 N l s0 k) (if sp_sold D l then 1 else 0) := by
        intro k cs h
        unfold gkb_X1_isSold_44
        obtain ⟨k1, g1, h1⟩ := k_run (N := N) (c := 11) h
        rw [g1, Option.bind_some]
        dsimp only
        rw [c_lot h1 hl, Option.bind_some, c_ssum h1 hp hl, Option.bind_some]
        dsimp only
        rw [c_lot h1 hl, Option.bind_some, (h1.kd.l l hl).2]
        have sd : sp_sold D l ↔ (sp_stand D l ≠ -1 ∧ ¬ sp_ssum D l < D.res l) := by unfold sp_sold; rw [if_neg c5]
        by_cases z : sp_stand D l = -1
        · rw [if_pos (se.mpr z), if_neg (fun y => (sd.mp y).1 z)]; exact cm_ret h1
        · rw [if_neg (fun y => z (se.mp y))]
          by_cases y : sp_ssum D l < D.res l
          · rw [if_pos y, if_neg (fun w => (sd.mp w).2 y)]; exact cm_ret h1
          · rw [if_neg y, if_pos (sd.mpr ⟨z, y⟩)]; exact cm_ret h1
      by_cases c4 : D.kind l = 4
      · rw [if_pos c4, if_pos c4]
        obtain ⟨k1, g1, h1⟩ := k_run (N := N) (c := 12) h
        rw [g1, Option.bind_some]
        have q := fin k1 _ h1
        rw [addC_add] at q
        exact q
      · rw [if_neg c4, if_neg c4]
        exact fin k cs h
  by_cases z : sp_stand D l = -1
  · rw [if_pos z]; exact key 0 (by rw [if_pos z])
  · rw [if_neg z]; exact key 1 (by rw [if_neg z])
theorem c_brings (h : cw k0 k D J0 E cs g n) (hp : pi D M) (hl : l < D.nl) : cm k0 D J0 E (addC false cs (sp_bringsC D l)) g n (gk_X1_bringsIfSold N l k) (sp_brings D l) := by
  unfold gk_X1_bringsIfSold sp_bringsC sp_brings
  obtain ⟨k1, g1, h1⟩ := c_sold (N := N) h hp hl
  rw [g1, Option.bind_some]
  dsimp only
  by_cases c : sp_sold D l
  · rw [if_neg (show ¬ (if sp_sold D l then (1 : Int32) else 0) = 0 by rw [if_pos c]; decide), if_pos c, if_pos c, c_lot h1 hl, Option.bind_some, c_ssum h1 hp hl, Option.bind_some]
    dsimp only
    obtain ⟨k2, g2, h2⟩ := c_pieces (N := N) h1 hl
    rw [g2, Option.bind_some]
    rw [addC_add] at h2
    exact cm_ret h2
  · rw [if_pos (show (if sp_sold D l then (1 : Int32) else 0) = 0 by rw [if_neg c]), if_neg c, if_neg c]
    exact cm_ret h1
theorem c_wrL {bI : Int32} (hp : pi D M) (hN : 5000 ≤ N) : ∀ (d i f : Nat) (k : mt_S), i + d = D.nl → d < f → cw k0 k D J0 E (addC false cs (sp_wr D bI i).2) g n → cm k0 D J0 E (addC false cs (sp_wr D bI D.nl).2) g n (gkp_X1_written_6 N f bI (nI D.nl) (sp_wr D bI i).1 (nI i) k) (sp_wr D bI D.nl).1 := by
  have h4 := hp.l0.2
  intro d
  induction d with
  | zero =>
    intro i f k hi hf h
    obtain ⟨f, rfl⟩ : ∃ m, f = m + 1 := ⟨f - 1, by omega⟩
    unfold gkp_X1_written_6 gkl_X1_written_6
    rw [if_pos (by rw [cz_le (by omega) (by omega)]; omega)]
    rw [show i = D.nl from by omega] at h ⊢
    exact cm_ret h
  | succ d ih =>
    intro i f k hi hf h
    obtain ⟨f, rfl⟩ : ∃ m, f = m + 1 := ⟨f - 1, by omega⟩
    have hl : i < D.nl := by omega
    have I := hp.lot i hl
    have hL4 := I.l0.2
    unfold gkp_X1_written_6 gkl_X1_written_6
    rw [if_neg (by rw [cz_le (by omega) (by omega)]; omega), if_neg (show ¬ Int32.ofNat 400 ≤ nI i from fun z => by have := (cz_le (a := 400) (by omega) (by omega)).mp z; omega)]
    have lt : gk_lots k (nI i) = some (some i) := by
      unfold gk_lots
      rw [cz_nat (by omega), if_neg (by rintro (z | z); exact cz_nn (by omega) z; omega), if_pos (by have := h.dim; omega)]
    rw [lt, Option.bind_some]
    dsimp only
    unfold gkb_X1_written_81_6
    rw [c_lot h hl, Option.bind_some, c_newCal h hp hl, Option.bind_some, show nI i + 1 = nI (i + 1) from cz_add i 1]
    dsimp only
    have q := fun (k : mt_S) => ih (i + 1) f k (by omega) (by omega)
    have ew : sp_wr D bI (i + 1) = if D.facts i 2 = 0 ∨ D.facts i 2 = 1 then (match sp_limRow D i bI with | some r => ((sp_wr D bI i).1 + D.lims i (2 + 3 * r) * sp_pc D i, (sp_wr D bI i).2 ++ sp_pcC D i) | none => sp_wr D bI i) else sp_wr D bI i := rfl
    by_cases c : D.facts i 2 = 0 ∨ D.facts i 2 = 1
    · rw [if_pos c] at ew
      rw [if_pos c, if_neg (by decide), c_lot h hl, Option.bind_some, c_sheL h hl (by omega), Option.bind_some]
      have ro := c_rowOf (N := N) (a := bI) (T := fun j => D.lims i (1 + 3 * j)) (m := D.nL i) (c := 205 + 4 * i) (k := k) (fun j hj => c_atL (q := 0) (j := 0) h hl rfl (by omega) (by omega)) (c_rowL h hp hl) (c_sheL h hl (by omega)) (by omega) hN
      rw [ro, Option.bind_some]
      dsimp only
      rw [show fr (fun j => D.lims i (1 + 3 * j)) bI.toInt64 (D.nL i) 0 = sp_limRow D i bI from rfl]
      cases hr : sp_limRow D i bI with
      | none =>
        rw [hr] at ew
        rw [if_pos (show rowI none = -1 from rfl)]
        rw [ew] at q
        exact q k h
      | some r =>
        rw [hr] at ew
        obtain ⟨r1, r2, r3⟩ := fr_some _ _ _ hr
        rw [if_neg (show ¬ rowI (some r) = -1 from fun z => by have := (rowI_m1 (r := some r) (fun x hx => by injection hx; omega)).mp z; exact absurd this (by simp))]
        rw [c_lot h hl, Option.bind_some, c_sheL h hl (by omega), Option.bind_some, show rowI (some r) = nI r from rfl, c_atL (q := 1) (j := 1) h hl rfl (by omega) (by omega), Option.bind_some]
        dsimp only
        obtain ⟨k2, g2, h2⟩ := c_pieces (N := N) h hl
        rw [g2, Option.bind_some]
        rw [addC_add] at h2
        rw [ew] at q
        exact q k2 h2
    · rw [if_neg c] at ew
      rw [if_neg c, if_pos rfl]
      rw [ew] at q
      exact q k h
theorem c_may {x : Int64} (h : cw k0 k D J0 E cs g n) (hp : pi D M) (hl : l < D.nl) (hb : b < D.nb) (hN : 5000 ≤ N) : cm k0 D J0 E (addC false cs (sp_mayC D b l)) g n (gk_X1_mayBid N b l x (nI D.nl) k) (if sp_may D b l x then 1 else 0) := by
  have h4 := hp.l0.2
  unfold gk_X1_mayBid
  rw [c_bid h hb, Option.bind_some, Option.bind_some, Option.bind_some, (h.kd.b b hb).1]
  have hk := hp.bk b hb
  unfold sp_mayC
  by_cases c4 : D.bkind b = 4
  · have sd : sp_may D b l x ↔ x < D.res l := by unfold sp_may; rw [if_pos c4]
    rw [if_pos c4, if_pos c4]
    obtain ⟨k1, g1, h1⟩ := k_run (N := N) (c := 8) h
    rw [g1, Option.bind_some]
    dsimp only
    rw [c_lot h1 hl, Option.bind_some, (h1.kd.l l hl).2]
    by_cases z : x < D.res l
    · rw [if_neg (fun y => absurd z (nle64.mpr y)), if_pos (sd.mpr z)]; exact cm_ret h1
    · rw [if_pos (nle64.mp z), if_neg (fun y => z (sd.mp y))]; exact cm_ret h1
  · rw [if_neg c4, if_neg c4]
    by_cases c3 : D.bkind b = 3
    · have sd : sp_may D b l x ↔ x * sp_pc D l + (sp_wr D (nI b) D.nl).1 ≤ D.purse b := by unfold sp_may; rw [if_neg c4, if_pos c3]
      rw [if_pos c3, if_pos c3]
      obtain ⟨k1, g1, h1⟩ := k_run (N := N) (c := 10) h
      rw [g1, Option.bind_some]
      dsimp only
      obtain ⟨k2, g2, h2⟩ := k_run (N := N) (c := 9) h1
      rw [g2, Option.bind_some]
      dsimp only
      obtain ⟨k3, g3, h3⟩ := c_pieces (N := N) h2 hl
      rw [g3, Option.bind_some]
      dsimp only
      rw [c_bid h3 hb, Option.bind_some]
      rw [addC_add, addC_add] at h3
      unfold gk_X1_written
      obtain ⟨k4, g4, h4'⟩ := c_wrL (N := N) (bI := nI b) hp hN D.nl 0 N k3 (by omega) (by omega) (by rw [show (sp_wr D (nI b) 0).2 = [] from rfl, addC_nil h3.tr.2.1]; exact h3)
      rw [show (sp_wr D (nI b) 0).1 = 0 from rfl] at g4
      rw [show (0 : Int32) = nI 0 from rfl, g4, Option.bind_some, Option.bind_some]
      dsimp only
      rw [addC_add] at h4'
      rw [c_bid h4' hb, Option.bind_some, (h4'.kd.b b hb).2]
      rw [show [10, 9] ++ sp_pcC D l ++ (sp_wr D (nI b) D.nl).2 = [10] ++ ([9] ++ sp_pcC D l) ++ (sp_wr D (nI b) D.nl).2 from rfl]
      by_cases z : D.purse b < x * sp_pc D l + (sp_wr D (nI b) D.nl).1
      · rw [if_pos z, if_neg (fun y => absurd z (nle64.mpr (sd.mp y)))]; exact cm_ret h4'
      · rw [if_neg z, if_pos (sd.mpr (nle64.mp z))]; exact cm_ret h4'
    · have sd : sp_may D b l x := by unfold sp_may; rw [if_neg c4, if_neg c3]; trivial
      rw [if_neg c3, if_neg c3, if_pos sd]
      unfold gkb_X1_mayBid_103
      by_cases c2 : D.bkind b = 2
      · rw [if_pos c2, if_pos c2]
        obtain ⟨k1, g1, h1⟩ := k_run (N := N) (c := 9) h
        rw [g1, Option.bind_some]
        exact cm_ret h1
      · rw [if_neg c2, if_neg c2]
        obtain ⟨k1, g1, h1⟩ := k_run (N := N) (c := 7) h
        rw [g1, Option.bind_some]
        exact cm_ret h1
end BO
