/-! the papers, in the reference -/
def atI (l : Nat) : Option Nat → Int32
  | none => -1
  | some k => nI (40 * l + k)
theorem w_ahead {N : Nat} {s : mt_S} {a b : Int64} {n m : Int32} : gm_X8_isAhead N a n b m s = some (if sp_ahead a n.toInt64 b m.toInt64 then 1 else 0, s) := by
  unfold gm_X8_isAhead
  by_cases c : b < a
  · rw [if_pos c, if_pos (show sp_ahead a n.toInt64 b m.toInt64 from Or.inl c)]
  · rw [if_neg c]
    by_cases d : a = b
    · rw [if_pos d]
      by_cases f : n < m
      · rw [if_neg (by rw [← nle32]; exact fun z => z f), if_pos (show sp_ahead a n.toInt64 b m.toInt64 from Or.inr ⟨d, cl_lt.mpr f⟩)]
      · rw [if_pos (nle32.mp f), if_neg (show ¬ sp_ahead a n.toInt64 b m.toInt64 from fun z => by
          rcases z with z | z
          · exact c z
          · exact f (cl_lt.mp z.2))]
    · rw [if_neg d, if_neg (show ¬ sp_ahead a n.toInt64 b m.toInt64 from fun z => by
        rcases z with z | z
        · exact c z
        · exact d z.1)]
theorem b10 {p : Prop} [Decidable p] : ((if p then (1 : Int32) else 0) = 0) ↔ ¬ p := by
  by_cases h : p
  · rw [if_pos h]; exact ⟨fun z => absurd z (by decide), fun z => absurd h z⟩
  · rw [if_neg h]; exact ⟨fun _ => h, fun _ => rfl⟩
theorem z32 {x : Int32} {y : Int64} (h : x.toInt64 = y) : x = 0 ↔ y = 0 := by
  rw [← h, cl_0, cl_inj]
theorem w_ppL {N : Nat} {s : mt_S} {D : pd} {e l : Nat} {bn bs : Int64} (h : rv s D e) (hl : l < D.nl) (h4 : D.nl ≤ 400) : ∀ (d k n : Nat) (f g : Int32), k + d = D.nL l → d < n → f.toInt64 = (ppAll (D.lims l) (D.facts l 0) bn bs k).first → g.toInt64 = (ppAll (D.lims l) (D.facts l 0) bn bs k).second → ∃ f' g' : Int32, gp_X8_askPapers_46 N n (nI l) (atI l (ppAll (D.lims l) (D.facts l 0) bn bs k).at_) f (ppAll (D.lims l) (D.facts l 0) bn bs k).best g (ppAll (D.lims l) (D.facts l 0) bn bs k).next (nI (40 * l + k)) s = some ((atI l (ppAll (D.lims l) (D.facts l 0) bn bs (D.nL l)).at_, f', (ppAll (D.lims l) (D.facts l 0) bn bs (D.nL l)).best, g', (ppAll (D.lims l) (D.facts l 0) bn bs (D.nL l)).next), s) ∧ f'.toInt64 = (ppAll (D.lims l) (D.facts l 0) bn bs (D.nL l)).first ∧ g'.toInt64 = (ppAll (D.lims l) (D.facts l 0) bn bs (D.nL l)).second := by
  have hb := (h.lot l hl).bd.2.1
  intro d
  induction d with
  | zero =>
    intro k n f g hk hn hf hg
    obtain ⟨n, rfl⟩ : ∃ m, n = m + 1 := ⟨n - 1, by omega⟩
    unfold gp_X8_askPapers_46 gl_X8_askPapers_46
    rw [rd19 h hl h4, Option.bind_some, cz_lit 40, cz_mul, cz_add, if_pos (by rw [cz_le (by omega) (by omega)]; omega)]
    rw [show k = D.nL l from by omega] at hf hg ⊢
    exact ⟨f, g, rfl, hf, hg⟩
  | succ d ih =>
    intro k n f g hk hn hf hg
    obtain ⟨n, rfl⟩ : ∃ m, n = m + 1 := ⟨n - 1, by omega⟩
    have kL : k < D.nL l := by omega
    have e3 : ((D.lims l (3 + 3 * k)).toInt32).toInt64 = D.lims l (3 + 3 * k) := by rw [← ((h.lot l hl).lim k kL).2.2, Int32.toInt32_toInt64]
    unfold gp_X8_askPapers_46 gl_X8_askPapers_46
    rw [rd19 h hl h4, Option.bind_some, cz_lit 40, cz_mul, cz_add, if_neg (by rw [cz_le (by omega) (by omega)]; omega), rd21 h hl h4 kL, Option.bind_some, rd6 h hl h4, Option.bind_some]
    have q := fun f' g' => ih (k + 1) n f' g' (by omega) (by omega)
    have stp : ppAll (D.lims l) (D.facts l 0) bn bs (k + 1) = ppStep (D.lims l) (D.facts l 0) k (ppAll (D.lims l) (D.facts l 0) bn bs k) := rfl
    generalize hQ : ppAll (D.lims l) (D.facts l 0) bn bs k = Q at hf hg stp ⊢
    have k186 : ∀ (at2 : Option Nat) (f2 g2 : Int32) (b2 x2 : Int64), ppStep (D.lims l) (D.facts l 0) k Q = ⟨at2, f2.toInt64, b2, g2.toInt64, x2⟩ → ∃ f' g' : Int32, gb_X8_askPapers_186_46 (gp_X8_askPapers_46 N n) N (nI l) (atI l at2) f2 b2 g2 x2 (nI (40 * l + k)) s = some ((atI l (ppAll (D.lims l) (D.facts l 0) bn bs (D.nL l)).at_, f', (ppAll (D.lims l) (D.facts l 0) bn bs (D.nL l)).best, g', (ppAll (D.lims l) (D.facts l 0) bn bs (D.nL l)).next), s) ∧ f'.toInt64 = (ppAll (D.lims l) (D.facts l 0) bn bs (D.nL l)).first ∧ g'.toInt64 = (ppAll (D.lims l) (D.facts l 0) bn bs (D.nL l)).second := by
      intro at2 f2 g2 b2 x2 he
      unfold gb_X8_askPapers_186_46
      have q2 := q f2 g2
      rw [stp, he] at q2
      rw [cz_lit 1, cz_add, show 40 * l + k + 1 = 40 * l + (k + 1) from by omega]
      exact q2 rfl rfl
    by_cases c1 : D.lims l (2 + 3 * k) < D.facts l 0
    · rw [if_neg (by rw [← nle64]; exact fun z => z c1)]
      refine k186 Q.at_ f g Q.best Q.next ?_
      unfold ppStep
      rw [if_pos c1, hf, hg]
      rfl
    · rw [if_pos (nle64.mp c1)]
      have k109 : (Q.first = 0 ∨ sp_ahead (D.lims l (2 + 3 * k)) (D.lims l (3 + 3 * k)) Q.best Q.first) → ∃ f' g' : Int32, gb_X8_askPapers_109_46 (gp_X8_askPapers_46 N n) N (nI l) f Q.best (nI (40 * l + k)) s = some ((atI l (ppAll (D.lims l) (D.facts l 0) bn bs (D.nL l)).at_, f', (ppAll (D.lims l) (D.facts l 0) bn bs (D.nL l)).best, g', (ppAll (D.lims l) (D.facts l 0) bn bs (D.nL l)).next), s) ∧ f'.toInt64 = (ppAll (D.lims l) (D.facts l 0) bn bs (D.nL l)).first ∧ g'.toInt64 = (ppAll (D.lims l) (D.facts l 0) bn bs (D.nL l)).second := by
        intro hc
        unfold gb_X8_askPapers_109_46
        rw [rd22 h hl h4 kL, Option.bind_some, rd21 h hl h4 kL, Option.bind_some]
        refine k186 (some k) _ f _ Q.best ?_
        unfold ppStep
        rw [if_neg c1, if_pos hc, e3, hf]
      have k168 : ¬ (Q.first = 0 ∨ sp_ahead (D.lims l (2 + 3 * k)) (D.lims l (3 + 3 * k)) Q.best Q.first) → (Q.second = 0 ∨ sp_ahead (D.lims l (2 + 3 * k)) (D.lims l (3 + 3 * k)) Q.next Q.second) → ∃ f' g' : Int32, gb_X8_askPapers_168_46 (gp_X8_askPapers_46 N n) N (nI l) (atI l Q.at_) f Q.best (nI (40 * l + k)) s = some ((atI l (ppAll (D.lims l) (D.facts l 0) bn bs (D.nL l)).at_, f', (ppAll (D.lims l) (D.facts l 0) bn bs (D.nL l)).best, g', (ppAll (D.lims l) (D.facts l 0) bn bs (D.nL l)).next), s) ∧ f'.toInt64 = (ppAll (D.lims l) (D.facts l 0) bn bs (D.nL l)).first ∧ g'.toInt64 = (ppAll (D.lims l) (D.facts l 0) bn bs (D.nL l)).second := by
        intro hc hd
        unfold gb_X8_askPapers_168_46
        rw [rd22 h hl h4 kL, Option.bind_some, rd21 h hl h4 kL, Option.bind_some]
        refine k186 Q.at_ f _ Q.best _ ?_
        unfold ppStep
        rw [if_neg c1, if_neg hc, if_pos hd, e3, hf]
      by_cases f0 : Q.first = 0
      · rw [if_pos ((z32 hf).mpr f0)]
        exact k109 (Or.inl f0)
      · rw [if_neg (fun z => f0 ((z32 hf).mp z)), Option.bind_some, rd22 h hl h4 kL, Option.bind_some, w_ahead, Option.bind_some, e3, hf]
        dsimp only
        by_cases a1 : sp_ahead (D.lims l (2 + 3 * k)) (D.lims l (3 + 3 * k)) Q.best Q.first
        · rw [if_neg (fun z => (b10.mp z) a1)]
          exact k109 (Or.inr a1)
        · rw [if_pos (b10.mpr a1)]
          have hc : ¬ (Q.first = 0 ∨ sp_ahead (D.lims l (2 + 3 * k)) (D.lims l (3 + 3 * k)) Q.best Q.first) := by
            rintro (z | z)
            · exact f0 z
            · exact a1 z
          by_cases g0 : Q.second = 0
          · rw [if_pos ((z32 hg).mpr g0)]
            exact k168 hc (Or.inl g0)
          · rw [if_neg (fun z => g0 ((z32 hg).mp z)), rd21 h hl h4 kL, Option.bind_some, rd22 h hl h4 kL, Option.bind_some, w_ahead, Option.bind_some, e3, hg]
            dsimp only
            by_cases a2 : sp_ahead (D.lims l (2 + 3 * k)) (D.lims l (3 + 3 * k)) Q.next Q.second
            · rw [if_neg (fun z => (b10.mp z) a2)]
              exact k168 hc (Or.inr a2)
            · rw [if_pos (b10.mpr a2)]
              refine k186 Q.at_ f g Q.best Q.next ?_
              unfold ppStep
              rw [if_neg c1, if_neg hc, if_neg (by rintro (z | z); exact g0 z; exact a2 z), hf, hg]
              rfl
/-! what the two foremost are -/
def ppi (D : pd) (l M k : Nat) (q : pp) : Prop := (∃ n : Nat, n ≤ M ∧ q.first = Int64.ofNat n) ∧ (∃ n : Nat, n ≤ M ∧ q.second = Int64.ofNat n) ∧ (q.first ≠ 0 → sp_sumOk q.best) ∧ (q.second ≠ 0 → sp_sumOk q.next) ∧ (∀ j, q.at_ = some j → j < k ∧ q.first = D.lims l (3 + 3 * j) ∧ q.best = D.lims l (2 + 3 * j)) ∧ (q.first = 0 → q.second = 0)
theorem ppi.f {D : pd} {l M k : Nat} {q : pp} (z : ppi D l M k q) : ∃ n : Nat, n ≤ M ∧ q.first = Int64.ofNat n := z.1
theorem ppi.g {D : pd} {l M k : Nat} {q : pp} (z : ppi D l M k q) : ∃ n : Nat, n ≤ M ∧ q.second = Int64.ofNat n := z.2.1
theorem ppi.fb {D : pd} {l M k : Nat} {q : pp} (z : ppi D l M k q) : q.first ≠ 0 → sp_sumOk q.best := z.2.2.1
theorem ppi.gb {D : pd} {l M k : Nat} {q : pp} (z : ppi D l M k q) : q.second ≠ 0 → sp_sumOk q.next := z.2.2.2.1
theorem ppi.a {D : pd} {l M k : Nat} {q : pp} (z : ppi D l M k q) : ∀ j, q.at_ = some j → j < k ∧ q.first = D.lims l (3 + 3 * j) ∧ q.best = D.lims l (2 + 3 * j) := z.2.2.2.2.1
theorem ppi.z {D : pd} {l M k : Nat} {q : pp} (z : ppi D l M k q) : q.first = 0 → q.second = 0 := z.2.2.2.2.2
theorem pp_inv {D : pd} {l M : Nat} (hp : pi D M) (hl : l < D.nl) (hM : M < 2 ^ 31) : ∀ k, k ≤ D.nL l → ppi D l M k (ppAll (D.lims l) (D.facts l 0) (D.facts l 8) (D.facts l 7) k) := by
  have I := hp.lot l hl
  intro k
  induction k with
  | zero =>
    intro _
    refine ⟨I.bn, ⟨0, by omega, rfl⟩, ?_, fun z => absurd rfl z, fun j z => (by cases z), fun _ => rfl⟩
    intro z
    have z' : D.facts l 8 ≠ 0 := z
    show sp_sumOk (if D.facts l 8 = 0 then 0 else D.facts l 7)
    rw [if_neg z']
    exact I.bs z'
  | succ k ih =>
    intro hk
    have Q := ih (by omega)
    obtain ⟨b1, b2, n, n1, n2, n3⟩ := I.lb k (by omega)
    show ppi D l M (k + 1) (ppStep _ _ k _)
    generalize ppAll (D.lims l) (D.facts l 0) (D.facts l 8) (D.facts l 7) k = q at Q ⊢
    unfold ppStep
    split
    · exact ⟨Q.f, Q.g, Q.fb, Q.gb, fun j z => by obtain ⟨x, y⟩ := Q.a j z; exact ⟨by omega, y⟩, Q.z⟩
    · split
      · refine ⟨⟨n, n2, n3⟩, Q.f, fun _ => b2, Q.fb, fun j z => ?_, fun z => ?_⟩
        · cases z
          exact ⟨by omega, rfl, rfl⟩
        · exfalso
          have z : D.lims l (3 + 3 * k) = 0 := z
          rw [n3, cl_lit 0, cl_eq (by omega) (by omega)] at z
          omega
      · split
        · rename_i c _
          refine ⟨Q.f, ⟨n, n2, n3⟩, Q.fb, fun _ => b2, fun j z => by obtain ⟨x, y⟩ := Q.a j z; exact ⟨by omega, y⟩, fun z => absurd (Or.inl z) c⟩
        · exact ⟨Q.f, Q.g, Q.fb, Q.gb, fun j z => by obtain ⟨x, y⟩ := Q.a j z; exact ⟨by omega, y⟩, Q.z⟩
