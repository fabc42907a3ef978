/-! the greatest rival, and the next -/
def top (S : Nat → Prop) (A : Nat → Nat → Prop) : Option Nat → Prop
  | none => ∀ r, ¬ S r
  | some t => S t ∧ ∀ r, S r → r ≠ t → A t r
theorem top_uniq {S : Nat → Prop} {A : Nat → Nat → Prop} (as : ∀ a b, A a b → A b a → False) {a b : Option Nat} (ha : top S A a) (hb : top S A b) : a = b := by
  cases a with
  | none =>
    cases b with
    | none => rfl
    | some b => exact absurd hb.1 (ha b)
  | some a =>
    cases b with
    | none => exact absurd ha.1 (hb a)
    | some b =>
      by_cases c : a = b
      · rw [c]
      · exact absurd (hb.2 a ha.1 c) (fun z => as _ _ (ha.2 b hb.1 (Ne.symm c)) z)
def rvS (D : pd) (l r : Nat) : Int64 := if r < D.nL l then D.lims l (2 + 3 * r) else D.facts l 7
def rvN (D : pd) (l r : Nat) : Int64 := if r < D.nL l then D.lims l (3 + 3 * r) else D.facts l 8
abbrev rvP (D : pd) (l r : Nat) : Prop := if r < D.nL l then ¬ D.lims l (2 + 3 * r) < D.facts l 0 else D.facts l 8 ≠ 0
abbrev rvA (D : pd) (l a b : Nat) : Prop := sp_ahead (rvS D l a) (rvN D l a) (rvS D l b) (rvN D l b)
def rvNum (D : pd) (l : Nat) : Option Nat → Int64
  | none => 0
  | some r => rvN D l r
section RVL
variable {D : pd} {M l : Nat}
theorem ah_i {a b c d : Int64} : sp_ahead a b c d ↔ c.toInt < a.toInt ∨ (a.toInt = c.toInt ∧ b.toInt < d.toInt) := by
  unfold sp_ahead
  rw [lt_i, lt_i, ← Int64.toInt_inj]
theorem rvA_as {a b : Nat} (h1 : rvA D l a b) (h2 : rvA D l b a) : False := by
  unfold rvA at h1 h2
  rw [ah_i] at h1 h2
  omega
theorem rvA_tr {a b c : Nat} (h1 : rvA D l a b) (h2 : rvA D l b c) : rvA D l a c := by
  unfold rvA at h1 h2 ⊢
  rw [ah_i] at h1 h2 ⊢
  omega
theorem rvN_ne (hp : pi D M) (hl : l < D.nl) {r : Nat} (hr : r ≤ D.nL l) (hM : M < 2 ^ 31) (h : rvP D l r) : rvN D l r ≠ 0 := by
  unfold rvP at h
  unfold rvN
  by_cases c : r < D.nL l
  · rw [if_pos c]
    obtain ⟨_, _, n, n1, n2, n3⟩ := (hp.lot l hl).lb r c
    rw [n3, show (0 : Int64) = Int64.ofNat 0 from rfl]
    intro z
    have := (cl_eq (by omega) (by omega)).mp z
    omega
  · rw [if_neg c] at h ⊢
    exact h
theorem rvN_inj (hp : pi D M) (hl : l < D.nl) {a b : Nat} (ha : a ≤ D.nL l) (hb : b ≤ D.nL l) (hab : a ≠ b) : rvN D l a ≠ rvN D l b := by
  have I := hp.lot l hl
  unfold rvN
  by_cases ca : a < D.nL l
  · rw [if_pos ca]
    by_cases cb : b < D.nL l
    · rw [if_pos cb]; exact I.ld a b ca cb hab
    · rw [if_neg cb]; exact I.lx a ca
  · rw [if_neg ca, if_pos (by omega)]
    exact fun z => I.lx b (by omega) z.symm
theorem rvA_tot (hp : pi D M) (hl : l < D.nl) {a b : Nat} (ha : a ≤ D.nL l) (hb : b ≤ D.nL l) (hab : a ≠ b) (h : ¬ rvA D l a b) : rvA D l b a := by
  have ni := rvN_inj hp hl ha hb hab
  unfold rvA at h ⊢
  rw [ah_i] at h ⊢
  have : (rvN D l a).toInt ≠ (rvN D l b).toInt := fun z => ni (Int64.toInt_inj.mp z)
  omega
/-- who stands first and second among the bid and the first k limits -/
def ppI (D : pd) (l k : Nat) (q : pp) : Prop := ∃ t u : Option Nat, top (fun r => (r < k ∨ r = D.nL l) ∧ rvP D l r) (rvA D l) t ∧ (t = none → u = none) ∧ (∀ x, t = some x → top (fun r => ((r < k ∨ r = D.nL l) ∧ rvP D l r) ∧ r ≠ x) (rvA D l) u) ∧ q.first = rvNum D l t ∧ q.second = rvNum D l u ∧ (∀ x, t = some x → q.best = rvS D l x ∧ q.at_ = if x = D.nL l then none else some x) ∧ (t = none → q.at_ = none) ∧ (∀ x, u = some x → q.next = rvS D l x)
theorem pp_I (hp : pi D M) (hl : l < D.nl) (hM : M < 2 ^ 31) : ∀ k, k ≤ D.nL l → ppI D l k (ppAll (D.lims l) (D.facts l 0) (D.facts l 8) (D.facts l 7) k) := by
  intro k
  induction k with
  | zero =>
    intro _
    show ppI D l 0 ⟨none, D.facts l 8, if D.facts l 8 = 0 then 0 else D.facts l 7, 0, 0⟩
    have rp : rvP D l (D.nL l) ↔ D.facts l 8 ≠ 0 := by unfold rvP; rw [if_neg (Nat.lt_irrefl _)]
    have rn : rvN D l (D.nL l) = D.facts l 8 := by unfold rvN; rw [if_neg (Nat.lt_irrefl _)]
    have rs' : rvS D l (D.nL l) = D.facts l 7 := by unfold rvS; rw [if_neg (Nat.lt_irrefl _)]
    by_cases c : D.facts l 8 = 0
    · refine ⟨none, none, ?_, fun _ => rfl, fun x hx => Option.noConfusion rfl (heq_of_eq hx), c, rfl, fun x hx => Option.noConfusion rfl (heq_of_eq hx), fun _ => rfl, fun x hx => Option.noConfusion rfl (heq_of_eq hx)⟩
      rintro r ⟨z1 | z1, z2⟩
      · exact Nat.not_lt_zero _ z1
      · rw [z1] at z2; exact rp.mp z2 c
    · refine ⟨some (D.nL l), none, ⟨⟨Or.inr rfl, rp.mpr c⟩, ?_⟩, fun z => rfl, fun x hx => ?_, rn.symm, rfl, fun x hx => ?_, fun z => Option.noConfusion rfl (heq_of_eq z), fun x hx => Option.noConfusion rfl (heq_of_eq hx)⟩
      · rintro r ⟨z1 | z1, z2⟩ hr
        · exact absurd z1 (Nat.not_lt_zero _)
        · exact absurd z1 hr
      · injection hx with hx
        subst hx
        rintro r ⟨⟨z1 | z1, z2⟩, z3⟩
        · exact Nat.not_lt_zero _ z1
        · exact z3 z1
      · injection hx with hx
        subst hx
        show (if D.facts l 8 = 0 then (0 : Int64) else D.facts l 7) = rvS D l (D.nL l) ∧ (none : Option Nat) = if D.nL l = D.nL l then none else some (D.nL l)
        rw [if_neg c, if_pos rfl, rs']
        exact ⟨rfl, rfl⟩
  | succ k ih =>
    intro hk
    have IH := ih (by omega)
    show ppI D l (k + 1) (ppStep (D.lims l) (D.facts l 0) k (ppAll (D.lims l) (D.facts l 0) (D.facts l 8) (D.facts l 7) k))
    generalize ppAll (D.lims l) (D.facts l 0) (D.facts l 8) (D.facts l 7) k = q at IH
    obtain ⟨t, u, ht, htn, hu, e1, e2, e3, e4, e5⟩ := IH
    have kl : k < D.nL l := by omega
    have sk : rvS D l k = D.lims l (2 + 3 * k) := by unfold rvS; rw [if_pos kl]
    have nk : rvN D l k = D.lims l (3 + 3 * k) := by unfold rvN; rw [if_pos kl]
    have pk' : rvP D l k ↔ ¬ D.lims l (2 + 3 * k) < D.facts l 0 := by unfold rvP; rw [if_pos kl]
    have mem : ∀ r, (r < k + 1 ∨ r = D.nL l) ∧ rvP D l r → r ≠ k → (r < k ∨ r = D.nL l) ∧ rvP D l r := by
      rintro r ⟨z1, z2⟩ z3
      exact ⟨by omega, z2⟩
    have memb : ∀ r, (r < k ∨ r = D.nL l) ∧ rvP D l r → (r < k + 1 ∨ r = D.nL l) ∧ rvP D l r := by
      rintro r ⟨z1, z2⟩
      exact ⟨by omega, z2⟩
    have nek : ∀ r, (r < k ∨ r = D.nL l) → r ≠ k := by intro r z; omega
    unfold ppStep
    by_cases c1 : D.lims l (2 + 3 * k) < D.facts l 0
    · rw [if_pos c1]
      have nP : ¬ rvP D l k := fun z => pk'.mp z c1
      have same : ∀ r, ((r < k + 1 ∨ r = D.nL l) ∧ rvP D l r) ↔ ((r < k ∨ r = D.nL l) ∧ rvP D l r) := by
        intro r
        refine ⟨fun z => mem r z (fun y => nP (by rw [← y]; exact z.2)), memb r⟩
      have e : (fun r => (r < k + 1 ∨ r = D.nL l) ∧ rvP D l r) = fun r => (r < k ∨ r = D.nL l) ∧ rvP D l r := funext fun r => propext (same r)
      unfold ppI
      rw [e]
      refine ⟨t, u, ht, htn, fun x hx => ?_, e1, e2, e3, e4, e5⟩
      have e' : (fun r => ((r < k + 1 ∨ r = D.nL l) ∧ rvP D l r) ∧ r ≠ x) = fun r => ((r < k ∨ r = D.nL l) ∧ rvP D l r) ∧ r ≠ x := funext fun r => by rw [show ((r < k + 1 ∨ r = D.nL l) ∧ rvP D l r) = ((r < k ∨ r = D.nL l) ∧ rvP D l r) from propext (same r)]
      rw [e']
      exact hu x hx
    · rw [if_neg c1]
      have P := pk'.mpr c1
      have Sk : (k < k + 1 ∨ k = D.nL l) ∧ rvP D l k := ⟨Or.inl (Nat.lt_succ_self k), P⟩
      cases t with
      | none =>
        have un : u = none := htn rfl
        subst un
        rw [if_pos (Or.inl (show q.first = 0 from e1))]
        refine ⟨some k, none, ⟨Sk, fun r hr hrk => absurd (mem r hr hrk) (ht r)⟩, fun _ => rfl, fun x hx => ?_, nk.symm, e1, fun x hx => ?_, fun z => Option.noConfusion rfl (heq_of_eq z), fun x hx => Option.noConfusion rfl (heq_of_eq hx)⟩
        · injection hx with hx
          subst hx
          rintro r ⟨z1, z2⟩
          exact ht r (mem r z1 z2)
        · injection hx with hx
          subst hx
          show D.lims l (2 + 3 * k) = rvS D l k ∧ some k = if k = D.nL l then none else some k
          rw [if_neg (show ¬ k = D.nL l by omega), sk]
          exact ⟨rfl, rfl⟩
      | some t =>
        obtain ⟨f1, f2⟩ := e3 t rfl
        have htl : t ≤ D.nL l := by
          have := ht.1.1
          omega
        have tk : t ≠ k := nek t ht.1.1
        have fne : q.first ≠ 0 := by rw [e1]; exact rvN_ne hp hl htl hM ht.1.2
        have ahE : sp_ahead (D.lims l (2 + 3 * k)) (D.lims l (3 + 3 * k)) q.best q.first ↔ rvA D l k t := by
          unfold rvA
          rw [sk, nk, f1, e1]
          exact Iff.rfl
        have U := hu t rfl
        by_cases c2 : rvA D l k t
        · rw [if_pos (Or.inr (ahE.mpr c2))]
          refine ⟨some k, some t, ⟨Sk, fun r hr hrk => ?_⟩, fun z => Option.noConfusion rfl (heq_of_eq z), fun x hx => ?_, nk.symm, e1, fun x hx => ?_, fun z => Option.noConfusion rfl (heq_of_eq z), fun x hx => ?_⟩
          · by_cases rt : r = t
            · rw [rt]; exact c2
            · exact rvA_tr c2 (ht.2 r (mem r hr hrk) rt)
          · injection hx with hx
            subst hx
            exact ⟨⟨memb t ht.1, tk⟩, fun r hr hrt => ht.2 r (mem r hr.1 hr.2) hrt⟩
          · injection hx with hx
            subst hx
            show D.lims l (2 + 3 * k) = rvS D l k ∧ some k = if k = D.nL l then none else some k
            rw [if_neg (show ¬ k = D.nL l by omega), sk]
            exact ⟨rfl, rfl⟩
          · injection hx with hx
            subst hx
            exact f1
        · have c2' := rvA_tot hp hl (by omega) htl (Ne.symm tk) c2
          rw [if_neg (by rintro (z | z); exact fne z; exact c2 (ahE.mp z))]
          have T' : top (fun r => (r < k + 1 ∨ r = D.nL l) ∧ rvP D l r) (rvA D l) (some t) := by
            refine ⟨memb t ht.1, fun r hr hrt => ?_⟩
            by_cases rk : r = k
            · rw [rk]; exact c2'
            · exact ht.2 r (mem r hr rk) hrt
          cases u with
          | none =>
            rw [if_pos (Or.inl (show q.second = 0 from e2))]
            refine ⟨some t, some k, T', fun z => Option.noConfusion rfl (heq_of_eq z), fun x hx => ?_, e1, nk.symm, fun x hx => ?_, fun z => Option.noConfusion rfl (heq_of_eq z), fun x hx => ?_⟩
            · injection hx with hx
              subst hx
              refine ⟨⟨Sk, Ne.symm tk⟩, fun r hr hrk => absurd ⟨mem r hr.1 hrk, hr.2⟩ (U r)⟩
            · injection hx with hx
              subst hx
              exact ⟨f1, f2⟩
            · injection hx with hx
              subst hx
              exact sk.symm
          | some u =>
            have une : q.second ≠ 0 := by
              rw [e2]
              exact rvN_ne hp hl (by have := U.1.1.1; omega) hM U.1.1.2
            have ahU : sp_ahead (D.lims l (2 + 3 * k)) (D.lims l (3 + 3 * k)) q.next q.second ↔ rvA D l k u := by
              unfold rvA
              rw [sk, nk, e5 u rfl, e2]
              exact Iff.rfl
            have uk : u ≠ k := nek u U.1.1.1
            by_cases c3 : rvA D l k u
            · rw [if_pos (Or.inr (ahU.mpr c3))]
              refine ⟨some t, some k, T', fun z => Option.noConfusion rfl (heq_of_eq z), fun x hx => ?_, e1, nk.symm, fun x hx => ?_, fun z => Option.noConfusion rfl (heq_of_eq z), fun x hx => ?_⟩
              · injection hx with hx
                subst hx
                refine ⟨⟨Sk, Ne.symm tk⟩, fun r hr hrk => ?_⟩
                by_cases ru : r = u
                · rw [ru]; exact c3
                · exact rvA_tr c3 (U.2 r ⟨mem r hr.1 hrk, hr.2⟩ ru)
              · injection hx with hx
                subst hx
                exact ⟨f1, f2⟩
              · injection hx with hx
                subst hx
                exact sk.symm
            · have c3' := rvA_tot hp hl (by omega) (by have := U.1.1.1; omega) (Ne.symm uk) c3
              rw [if_neg (by rintro (z | z); exact une z; exact c3 (ahU.mp z))]
              refine ⟨some t, some u, T', fun z => Option.noConfusion rfl (heq_of_eq z), fun x hx => ?_, e1, e2, e3, fun z => Option.noConfusion rfl (heq_of_eq z), e5⟩
              injection hx with hx
              subst hx
              refine ⟨⟨memb u U.1.1, U.1.2⟩, fun r hr hru => ?_⟩
              by_cases rk : r = k
              · rw [rk]; exact c3'
              · exact U.2 r ⟨mem r hr.1 rk, hr.2⟩ hru
end RVL
section GR
variable {N : Nat} {k0 k : mt_S} {D : pd} {J0 E : List je} {cs : List Int32} {g n M l : Nat}
theorem c_isLimit (h : cw k0 k D J0 E cs g n) (hp : pi D M) (hl : l < D.nl) {r : Nat} (hr : r < 1000) : gk_X4_isLimit N l (nI r) k = some (if r < D.nL l then 1 else 0, k) := by
  have := (hp.lot l hl).l0.2
  unfold gk_X4_isLimit
  rw [c_lot h hl, Option.bind_some, c_sheL h hl (by omega), Option.bind_some, c_rowL h hp hl, Option.bind_some]
  dsimp only
  by_cases c : r < D.nL l
  · rw [if_neg (by rw [cz_le (by omega) (by omega)]; omega), if_pos c]
  · rw [if_pos (by rw [cz_le (by omega) (by omega)]; omega), if_neg c]
theorem c_rvS (h : cw k0 k D J0 E cs g n) (hp : pi D M) (hl : l < D.nl) {r : Nat} (hr : r ≤ D.nL l) : gk_X4_rivalSum N l (nI r) k = some (rvS D l r, k) := by
  have := (hp.lot l hl).l0.2
  unfold gk_X4_rivalSum rvS
  rw [c_lot h hl, Option.bind_some, c_isLimit h hp hl (by omega), Option.bind_some]
  dsimp only
  rw [c_lot h hl, Option.bind_some, Option.bind_some, h.cel (dmF hl), Option.bind_some, c_F (q := 7) (p := 7) h hl rfl (by omega), Option.bind_some, c_sheL h hl (by omega), Option.bind_some, c_atL (q := 1) (j := 1) h hl rfl (by omega) (by omega), Option.bind_some]
  by_cases c : r < D.nL l
  · rw [if_pos c, if_neg (by decide), if_pos c]
  · rw [if_neg c, if_pos rfl, if_neg c]
theorem c_rvN (h : cw k0 k D J0 E cs g n) (hp : pi D M) (hl : l < D.nl) {r : Option Nat} (hr : ∀ x, r = some x → x ≤ D.nL l) : gk_X4_rivalNumber N l (rowI r) k = some (rvNum D l r, k) := by
  have := (hp.lot l hl).l0.2
  unfold gk_X4_rivalNumber
  cases r with
  | none => rw [if_pos (show rowI none = -1 from rfl)]; rfl
  | some r =>
    have hr' := hr r rfl
    rw [if_neg (show ¬ rowI (some r) = -1 from fun z => by have := (rowI_m1 (r := some r) (fun x hx => by injection hx; omega)).mp z; exact absurd this (by simp)), show rowI (some r) = nI r from rfl]
    rw [c_lot h hl, Option.bind_some, c_isLimit h hp hl (by omega), Option.bind_some]
    dsimp only
    rw [c_lot h hl, Option.bind_some, Option.bind_some, h.cel (dmF hl), Option.bind_some, c_F (q := 8) (p := 8) h hl rfl (by omega), Option.bind_some, c_sheL h hl (by omega), Option.bind_some, c_atL (q := 2) (j := 2) h hl rfl (by omega) (by omega), Option.bind_some]
    show _ = some (rvN D l r, k)
    unfold rvN
    by_cases c : r < D.nL l
    · rw [if_pos c, if_neg (by decide), if_pos c]
    · rw [if_neg c, if_pos rfl, if_neg c]
theorem c_rvP (h : cw k0 k D J0 E cs g n) (hp : pi D M) (hl : l < D.nl) {r : Nat} (hr : r ≤ D.nL l) : gk_X4_isRival N l (nI r) k = some (if rvP D l r then 1 else 0, k) := by
  have := (hp.lot l hl).l0.2
  unfold gk_X4_isRival
  rw [c_lot h hl, Option.bind_some, c_isLimit h hp hl (by omega), Option.bind_some]
  dsimp only
  rw [c_lot h hl, Option.bind_some, Option.bind_some, h.cel (dmF hl), Option.bind_some, c_F (q := 8) (p := 8) h hl rfl (by omega), Option.bind_some, c_sheL h hl (by omega), Option.bind_some, c_atL (q := 1) (j := 1) h hl rfl (by omega) (by omega), Option.bind_some]
  dsimp only
  rw [c_lot h hl, Option.bind_some, c_start h hl, Option.bind_some]
  dsimp only
  by_cases c : r < D.nL l
  · have e : rvP D l r ↔ ¬ D.lims l (2 + 3 * r) < D.facts l 0 := by unfold rvP; rw [if_pos c]
    rw [if_pos c, if_neg (by decide)]
    by_cases d : D.lims l (2 + 3 * r) < D.facts l 0
    · rw [if_pos d, if_neg (fun z => e.mp z d)]
    · rw [if_neg d, if_pos (e.mpr d)]
  · have e : rvP D l r ↔ D.facts l 8 ≠ 0 := by unfold rvP; rw [if_neg c]
    rw [if_neg c, if_pos rfl]
    by_cases d : D.facts l 8 = 0
    · rw [if_pos d, if_neg (fun z => e.mp z d)]
    · rw [if_neg d, if_pos (e.mpr d)]
theorem c_ahead (h : cw k0 k D J0 E cs g n) (hp : pi D M) (hl : l < D.nl) {a b : Nat} (ha : a ≤ D.nL l) (hb : b ≤ D.nL l) : gk_X4_goesAhead N l (nI a) (nI b) k = some (if rvA D l a b then 1 else 0, k) := by
  unfold gk_X4_goesAhead
  have nA := c_rvN (N := N) (r := some a) h hp hl (fun x hx => by injection hx; omega)
  have nB := c_rvN (N := N) (r := some b) h hp hl (fun x hx => by injection hx; omega)
  rw [c_lot h hl, Option.bind_some, c_rvS h hp hl ha, Option.bind_some]
  dsimp only
  rw [c_lot h hl, Option.bind_some, c_rvS h hp hl hb, Option.bind_some]
  dsimp only
  rw [c_lot h hl, Option.bind_some, Option.bind_some, c_rvS h hp hl ha, Option.bind_some]
  dsimp only
  rw [c_lot h hl, Option.bind_some, c_rvS h hp hl hb, Option.bind_some, show nI a = rowI (some a) from rfl, nA, Option.bind_some]
  dsimp only
  rw [c_lot h hl, Option.bind_some, show nI b = rowI (some b) from rfl, nB, Option.bind_some]
  dsimp only
  rw [show rvNum D l (some a) = rvN D l a from rfl, show rvNum D l (some b) = rvN D l b from rfl]
  have e : rvA D l a b ↔ (rvS D l b < rvS D l a ∨ (rvS D l a = rvS D l b ∧ rvN D l a < rvN D l b)) := Iff.rfl
  by_cases c : rvS D l a = rvS D l b
  · rw [if_pos c]
    by_cases d : rvN D l a < rvN D l b
    · rw [if_neg (fun z => absurd d (nle64.mpr z)), if_pos (e.mpr (Or.inr ⟨c, d⟩))]
    · rw [if_pos (nle64.mp d), if_neg (fun z => by
        rcases e.mp z with y | y
        · rw [c, lt_i] at y; omega
        · exact d y.2)]
  · rw [if_neg c]
    by_cases d : rvS D l b < rvS D l a
    · rw [if_neg (fun z => absurd d (nle64.mpr z)), if_pos (e.mpr (Or.inl d))]
    · rw [if_pos (nle64.mp d), if_neg (fun z => by
        rcases e.mp z with y | y
        · exact d y
        · exact c y.1)]
theorem c_grL {bt : Option Nat} (h : cw k0 k D J0 E cs g n) (hp : pi D M) (hl : l < D.nl) (hbt : ∀ x, bt = some x → x ≤ D.nL l) : ∀ (d i f : Nat) (t : Option Nat), i + d = D.nL l + 1 → d < f → top (fun r => (r < i ∧ rvP D l r) ∧ some r ≠ bt) (rvA D l) t → ∃ t', gkp_X4_greatestRival_13 N f l (rowI bt) (rowI t) (nI (D.nL l)) (nI i) k = some (rowI t', k) ∧ top (fun r => (r < D.nL l + 1 ∧ rvP D l r) ∧ some r ≠ bt) (rvA D l) t' := by
  have h40 := (hp.lot l hl).l0.2
  intro d
  induction d with
  | zero =>
    intro i f t hi hf ht
    obtain ⟨f, rfl⟩ : ∃ m, f = m + 1 := ⟨f - 1, by omega⟩
    unfold gkp_X4_greatestRival_13 gkl_X4_greatestRival_13
    rw [if_pos (by rw [cz_lt (by omega) (by omega)]; omega)]
    rw [show i = D.nL l + 1 from by omega] at ht
    exact ⟨t, rfl, ht⟩
  | succ d ih =>
    intro i f t hi hf ht
    obtain ⟨f, rfl⟩ : ∃ m, f = m + 1 := ⟨f - 1, by omega⟩
    unfold gkp_X4_greatestRival_13 gkl_X4_greatestRival_13
    rw [if_neg (by rw [cz_lt (by omega) (by omega)]; omega)]
    unfold gkb_X4_greatestRival_52_13 gkb_X4_greatestRival_55_13
    rw [show nI i + 1 = nI (i + 1) from cz_add i 1]
    have keep : ¬ (rvP D l i ∧ some i ≠ bt) → top (fun r => (r < i + 1 ∧ rvP D l r) ∧ some r ≠ bt) (rvA D l) t := by
      intro hn
      have e : (fun r => (r < i + 1 ∧ rvP D l r) ∧ some r ≠ bt) = fun r => (r < i ∧ rvP D l r) ∧ some r ≠ bt := by
        funext r
        apply propext
        refine ⟨fun ⟨⟨z1, z2⟩, z3⟩ => ?_, fun ⟨⟨z1, z2⟩, z3⟩ => ⟨⟨by omega, z2⟩, z3⟩⟩
        by_cases y : r = i
        · rw [y] at z2 z3; exact absurd ⟨z2, z3⟩ hn
        · exact ⟨⟨by omega, z2⟩, z3⟩
      rw [e]; exact ht
    have eb : nI i = rowI bt ↔ some i = bt := by
      cases bt with
      | none =>
        refine ⟨fun z => ?_, fun z => Option.noConfusion rfl (heq_of_eq z)⟩
        have z : nI i = -1 := z
        have q := cz_nn (n := i) (by omega)
        rw [z] at q
        exact absurd (by decide) q
      | some x =>
        have := hbt x rfl
        show nI i = nI x ↔ _
        rw [cz_eq (by omega) (by omega)]
        exact ⟨fun z => by rw [z], fun z => by injection z⟩
    by_cases c1 : some i = bt
    · rw [if_pos (eb.mpr c1)]
      exact ih (i + 1) f t (by omega) (by omega) (keep (fun z => z.2 c1))
    · rw [if_neg (fun z => c1 (eb.mp z)), c_lot h hl, Option.bind_some, c_rvP h hp hl (by omega), Option.bind_some]
      dsimp only
      by_cases c2 : rvP D l i
      · rw [if_pos c2, if_neg (by decide)]
        have Si : (i < i + 1 ∧ rvP D l i) ∧ some i ≠ bt := ⟨⟨Nat.lt_succ_self i, c2⟩, c1⟩
        cases t with
        | none =>
          rw [if_pos (show rowI none = -1 from rfl)]
          refine ih (i + 1) f (some i) (by omega) (by omega) ⟨Si, fun r hr hri => absurd ⟨⟨?_, hr.1.2⟩, hr.2⟩ (ht r)⟩
          have := hr.1.1
          omega
        | some t =>
          have tl : t < i := ht.1.1.1
          rw [if_neg (show ¬ rowI (some t) = -1 from fun z => by have := (rowI_m1 (r := some t) (fun x hx => by injection hx; omega)).mp z; exact absurd this (by simp)), c_lot h hl, Option.bind_some, show rowI (some t) = nI t from rfl, c_ahead h hp hl (by omega) (by omega), Option.bind_some]
          dsimp only
          by_cases c3 : rvA D l i t
          · rw [if_pos c3, if_neg (by decide)]
            refine ih (i + 1) f (some i) (by omega) (by omega) ⟨Si, fun r hr hri => ?_⟩
            by_cases rt : r = t
            · rw [rt]; exact c3
            · exact rvA_tr c3 (ht.2 r ⟨⟨by have := hr.1.1; omega, hr.1.2⟩, hr.2⟩ rt)
          · rw [if_neg c3, if_pos rfl]
            have c3' := rvA_tot hp hl (by omega) (by omega) (show i ≠ t by omega) c3
            refine ih (i + 1) f (some t) (by omega) (by omega) ⟨⟨⟨by omega, ht.1.1.2⟩, ht.1.2⟩, fun r hr hrt => ?_⟩
            by_cases ri : r = i
            · rw [ri]; exact c3'
            · exact ht.2 r ⟨⟨by have := hr.1.1; omega, hr.1.2⟩, hr.2⟩ hrt
      · rw [if_neg c2, if_pos rfl]
        exact ih (i + 1) f t (by omega) (by omega) (keep (fun z => c2 z.1))
theorem c_great {bt : Option Nat} (h : cw k0 k D J0 E cs g n) (hp : pi D M) (hl : l < D.nl) (hbt : ∀ x, bt = some x → x ≤ D.nL l) (hN : 5000 ≤ N) : ∃ t', gk_X4_greatestRival N l (rowI bt) k = some (rowI t', k) ∧ top (fun r => (r < D.nL l + 1 ∧ rvP D l r) ∧ some r ≠ bt) (rvA D l) t' := by
  have h40 := (hp.lot l hl).l0.2
  unfold gk_X4_greatestRival
  rw [c_lot h hl, Option.bind_some, c_sheL h hl (by omega), Option.bind_some, c_rowL h hp hl, Option.bind_some]
  dsimp only
  obtain ⟨t', g1, h1⟩ := c_grL (N := N) h hp hl hbt (D.nL l + 1) 0 N none (by omega) (by omega) (by rintro r ⟨⟨z, _⟩, _⟩; exact Nat.not_lt_zero _ z)
  rw [show rowI none = -1 from rfl] at g1
  rw [show (0 : Int32) = nI 0 from rfl, g1, Option.bind_some]
  exact ⟨t', rfl, h1⟩
end GR
