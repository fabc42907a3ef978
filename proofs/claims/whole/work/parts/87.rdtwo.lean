/-! what stands, steps, premiums, marks: the reference -/
theorem nle64 {x y : Int64} : ¬ x < y ↔ y ≤ x := Int64.not_lt
theorem nle32 {x y : Int32} : ¬ x < y ↔ y ≤ x := Int32.not_lt
theorem nI_ge0 {n : Nat} (h : n < 2 ^ 31) : (0 : Int32) ≤ nI n := by
  rw [show (0 : Int32) = nI 0 from rfl, cz_le (by omega) h]
  omega
theorem w_stand {N : Nat} {s : mt_S} {D : pd} {e l M : Nat} (h : rv s D e) (hp : pi D M) (hl : l < D.nl) (he : e < 2 ^ 31) : gm_X8_standing N (nI l) s = some (sp_stand D l, s) := by
  have L := h.lot l hl
  have I := hp.lot l hl
  have h4 := hp.l0.2
  unfold gm_X8_standing sp_stand
  rw [rd5 h hl h4, Option.bind_some]
  by_cases k4 : D.kind l = 4
  · rw [if_pos k4, if_pos k4, rd25 h hl h4, Option.bind_some]
    by_cases o : D.facts l 4 = 0
    · rw [if_pos o, o]; rfl
    · rw [if_neg o, if_neg (fun z => o (by rw [t32i L.k25] at z; exact z)), rd26 h hl h4 o, Option.bind_some]
  · rw [if_neg k4, if_neg k4, rd13 h hl h4, Option.bind_some]
    by_cases n0 : D.nE l = 0
    · rw [if_pos n0, if_neg]
      rw [n0]
      split <;> decide
    · have f2 : D.facts l 2 ≠ 0 := fun z => n0 (I.en z)
      have nb := I.e0.2
      rw [if_neg n0, if_neg f2, if_pos (by rw [show (0 : Int32) = nI 0 from rfl, cz_lt (by omega) (by omega)]; omega)]
      obtain ⟨c, c1, c2, c3⟩ := L.ch
      rw [if_neg n0] at c3
      obtain ⟨y1, y2, y3, y4⟩ := c1 (D.nE l - 1) (by omega)
      obtain ⟨p1, p2, p3, p4, p5⟩ := h.pl
      rw [rd14 h hl h4, Option.bind_some, c3, gm_rdI (by omega) (by omega), Option.bind_some, t32 y2]
theorem stand_nE {D : pd} {M l : Nat} (hp : pi D M) (hl : l < D.nl) (hk : D.kind l ≠ 4) (hn : D.nE l ≠ 0) : ∃ b, b < D.nb ∧ sp_stand D l = nI b := by
  obtain ⟨⟨b, b1, b2⟩, _⟩ := (hp.lot l hl).eb (D.nE l - 1) (by omega)
  refine ⟨b, b1, ?_⟩
  have := hp.b0.2
  unfold sp_stand
  rw [if_neg hk, if_neg hn, b2, cl_32 (by omega)]
theorem stand_or {D : pd} {M l : Nat} (hp : pi D M) (hl : l < D.nl) : sp_stand D l = -1 ∨ ∃ b, b < D.nb ∧ sp_stand D l = nI b := by
  by_cases k4 : D.kind l = 4
  · by_cases o : D.facts l 4 = 0
    · left; unfold sp_stand; rw [if_pos k4, if_pos o]
    · obtain ⟨_, _, (z | z)⟩ := (hp.lot l hl).op o
      · left; unfold sp_stand; rw [if_pos k4, if_neg o, z.1]; decide
      · right
        obtain ⟨⟨b, b1, b2⟩, _⟩ := z
        have := hp.b0.2
        exact ⟨b, b1, by unfold sp_stand; rw [if_pos k4, if_neg o, b2, cl_32 (by omega)]⟩
  · by_cases n0 : D.nE l = 0
    · left; unfold sp_stand; rw [if_neg k4, if_pos n0]
    · right; exact stand_nE hp hl k4 n0
theorem stand_neg {D : pd} {M l : Nat} (hp : pi D M) (hl : l < D.nl) : sp_stand D l < 0 ↔ sp_stand D l = -1 := by
  have := hp.b0.2
  rcases stand_or hp hl with z | ⟨b, b1, z⟩
  · rw [z]; decide
  · rw [z]
    refine ⟨fun q => absurd q (cz_nn (by omega)), fun q => ?_⟩
    exfalso
    have q2 := cz_nn (n := b) (by omega)
    rw [q] at q2
    exact q2 (by decide)
theorem stand_ge {D : pd} {M l : Nat} (hp : pi D M) (hl : l < D.nl) : 0 ≤ sp_stand D l ↔ sp_stand D l ≠ -1 := by
  rw [← nle32, stand_neg hp hl]
theorem ssum_none {D : pd} {M l : Nat} (hp : pi D M) (hl : l < D.nl) (h : sp_stand D l = -1) : sp_ssum D l = 0 := by
  have hb := hp.b0.2
  unfold sp_ssum
  by_cases k4 : D.kind l = 4
  · rw [if_pos k4]
    by_cases o : D.facts l 4 = 0
    · rw [if_pos o]
    · rw [if_neg o]
      obtain ⟨_, _, (z | z)⟩ := (hp.lot l hl).op o
      · exact z.2
      · obtain ⟨⟨b, b1, b2⟩, _⟩ := z
        exfalso
        unfold sp_stand at h
        rw [if_pos k4, if_neg o, b2, cl_32 (by omega)] at h
        have q2 := cz_nn (n := b) (by omega)
        rw [h] at q2
        exact q2 (by decide)
  · rw [if_neg k4]
    by_cases n0 : D.nE l = 0
    · rw [if_pos n0]
    · obtain ⟨b, b1, b2⟩ := stand_nE hp hl k4 n0
      exfalso
      rw [b2] at h
      have q2 := cz_nn (n := b) (by omega)
      rw [h] at q2
      exact q2 (by decide)
theorem w_ssum {N : Nat} {s : mt_S} {D : pd} {e l M : Nat} (h : rv s D e) (hp : pi D M) (hl : l < D.nl) (he : e < 2 ^ 31) : gm_X8_standingSum N (nI l) s = some (sp_ssum D l, s) := by
  have L := h.lot l hl
  have I := hp.lot l hl
  have h4 := hp.l0.2
  unfold gm_X8_standingSum
  rw [w_stand h hp hl he, Option.bind_some]
  dsimp only
  by_cases c : sp_stand D l = -1
  · rw [if_neg (by rw [stand_ge hp hl]; exact fun z => z c), ssum_none hp hl c]
  · rw [if_pos ((stand_ge hp hl).mpr c), rd5 h hl h4, Option.bind_some]
    unfold sp_ssum
    unfold sp_stand at c
    by_cases k4 : D.kind l = 4
    · rw [if_pos k4] at c
      rw [if_pos k4, if_pos k4]
      by_cases o : D.facts l 4 = 0
      · rw [if_pos o] at c
        exact absurd rfl c
      · rw [if_neg o, rd27 h hl h4 o, Option.bind_some]
    · rw [if_neg k4] at c
      rw [if_neg k4, if_neg k4]
      by_cases n0 : D.nE l = 0
      · rw [if_pos n0] at c
        exact absurd rfl c
      · have nb := I.e0.2
        obtain ⟨c0, c1, c2, c3⟩ := L.ch
        rw [if_neg n0] at c3
        obtain ⟨y1, y2, y3, y4⟩ := c1 (D.nE l - 1) (by omega)
        obtain ⟨p1, p2, p3, p4, p5⟩ := h.pl
        rw [if_neg n0, rd14 h hl h4, Option.bind_some, c3, gm_rdL (by omega) (by omega), Option.bind_some, y3]
/-! steps -/
theorem w_aftL {N : Nat} {s : mt_S} {D : pd} {e : Nat} {x : Int64} (h : rv s D e) (h4 : cn (D.st 0) ≤ 20) : ∀ (d k n : Nat), k + d = cn (D.st 0) → d < n → gp_X8_after_5 N n x (aft D.st x k) (nI k) s = some (aft D.st x (cn (D.st 0)), s) := by
  intro d
  induction d with
  | zero =>
    intro k n hk hn
    obtain ⟨n, rfl⟩ : ∃ m, n = m + 1 := ⟨n - 1, by omega⟩
    unfold gp_X8_after_5 gl_X8_after_5
    rw [h.st.1, if_pos (by rw [cz_le (by omega) (by omega)]; omega), show k = cn (D.st 0) from by omega]
  | succ d ih =>
    intro k n hk hn
    obtain ⟨n, rfl⟩ : ∃ m, n = m + 1 := ⟨n - 1, by omega⟩
    unfold gp_X8_after_5 gl_X8_after_5
    rw [h.st.1, if_neg (by rw [cz_le (by omega) (by omega)]; omega), rd34 h (by omega) h4, Option.bind_some]
    have q := ih (k + 1) n (by omega) (by omega)
    unfold gb_X8_after_34_5
    rw [cz_lit 1, cz_add]
    by_cases c : x < D.st (1 + 2 * k)
    · rw [if_pos c]
      rw [show aft D.st x (k + 1) = aft D.st x k from if_neg (by rw [← nle64]; exact fun z => z c)] at q
      exact q
    · rw [if_neg c, rd35 h (by omega) h4, Option.bind_some]
      rw [show aft D.st x (k + 1) = D.st (2 + 2 * k) from if_pos (nle64.mp c)] at q
      exact q
theorem w_after {N : Nat} {s : mt_S} {D : pd} {e : Nat} {x : Int64} (h : rv s D e) (h4 : cn (D.st 0) ≤ 20) (hN : 5000 ≤ N) : gm_X8_after N x s = some (sp_after D.st x, s) := by
  unfold gm_X8_after
  have q := w_aftL (N := N) (x := x) h h4 (cn (D.st 0)) 0 N (by omega) (by omega)
  rw [show aft D.st x 0 = 1 from rfl] at q
  rw [show (0 : Int32) = nI 0 from rfl, q, Option.bind_some]
  rfl
theorem w_even {N : Nat} {s : mt_S} {x : Int64} : gm_X8_even N x s = some (sp_even x, s) := by
  unfold gm_X8_even sp_even
  by_cases a : 10000 < 2 * (x - x / 10000 * 10000)
  · rw [if_pos a, if_pos a]
  · rw [if_neg a, if_neg a]
    by_cases b : 2 * (x - x / 10000 * 10000) = 10000
    · rw [if_pos b]
      by_cases c : x / 10000 - x / 10000 / 2 * 2 = 1
      · rw [if_pos c, if_pos ⟨b, c⟩]
      · rw [if_neg c, if_neg (fun z => c z.2)]
    · rw [if_neg b, if_neg (fun z => b z.1)]
theorem w_prmL {N : Nat} {s : mt_S} {D : pd} {e : Nat} {x : Int64} (h : rv s D e) (h4 : cn (D.br 0) ≤ 20) : ∀ (d k n : Nat), k + d = cn (D.br 0) → d < n → gp_X8_premiumOf_5 N n x (prm D.br x (cn (D.br 0)) k) (nI k) s = some (prm D.br x (cn (D.br 0)) (cn (D.br 0)), s) := by
  intro d
  induction d with
  | zero =>
    intro k n hk hn
    obtain ⟨n, rfl⟩ : ∃ m, n = m + 1 := ⟨n - 1, by omega⟩
    unfold gp_X8_premiumOf_5 gl_X8_premiumOf_5
    rw [h.br.1, if_pos (by rw [cz_le (by omega) (by omega)]; omega), show k = cn (D.br 0) from by omega]
  | succ d ih =>
    intro k n hk hn
    obtain ⟨n, rfl⟩ : ∃ m, n = m + 1 := ⟨n - 1, by omega⟩
    unfold gp_X8_premiumOf_5 gl_X8_premiumOf_5
    have q := ih (k + 1) n (by omega) (by omega)
    have key : ∀ t : Int64, t = prT D.br x (cn (D.br 0)) k → gb_X8_premiumOf_52_5 (gp_X8_premiumOf_5 N n) N x (prm D.br x (cn (D.br 0)) k) (nI k) t s = some (prm D.br x (cn (D.br 0)) (cn (D.br 0)), s) := by
      intro t ht
      unfold gb_X8_premiumOf_52_5 gb_X8_premiumOf_89_5
      rw [rd37 h (by omega) h4, Option.bind_some, cz_lit 1, cz_add]
      by_cases c : D.br (1 + 2 * k) < t
      · rw [if_neg (by rw [← nle64]; exact fun z => z c), Option.bind_some, rd38 h (by omega) h4, Option.bind_some]
        rw [show prm D.br x (cn (D.br 0)) (k + 1) = prm D.br x (cn (D.br 0)) k + (prT D.br x (cn (D.br 0)) k - D.br (1 + 2 * k)) * D.br (2 + 2 * k) from if_pos (by rw [← ht]; exact c)] at q
        rw [ht, show ((D.br (2 + 2 * k)).toInt32).toInt64 = D.br (2 + 2 * k) from by rw [← (h.br.2 k (by omega)).2, Int32.toInt32_toInt64]]
        exact q
      · rw [if_pos (nle64.mp c)]
        rw [show prm D.br x (cn (D.br 0)) (k + 1) = prm D.br x (cn (D.br 0)) k from if_neg (by rw [← ht]; exact c)] at q
        exact q
    rw [h.br.1, if_neg (by rw [cz_le (by omega) (by omega)]; omega), cz_lit 1, cz_add]
    by_cases c : k + 1 < cn (D.br 0)
    · rw [if_neg (by rw [cz_le (by omega) (by omega)]; omega), rd37 h (by omega) h4, Option.bind_some]
      by_cases d2 : D.br (1 + 2 * (k + 1)) < x
      · rw [if_neg (by rw [← nle64]; exact fun z => z d2), Option.bind_some]
        exact key _ (by unfold prT; rw [if_pos ⟨c, d2⟩])
      · rw [if_pos (nle64.mp d2)]
        exact key _ (by unfold prT; rw [if_neg (fun z => d2 z.2)])
    · rw [if_pos (by rw [cz_le (by omega) (by omega)]; omega)]
      exact key _ (by unfold prT; rw [if_neg (fun z => c z.1)])
theorem w_premium {N : Nat} {s : mt_S} {D : pd} {e : Nat} {x : Int64} (h : rv s D e) (h4 : cn (D.br 0) ≤ 20) (hN : 5000 ≤ N) : gm_X8_premiumOf N x s = some (sp_premium D x, s) := by
  unfold gm_X8_premiumOf
  have q := w_prmL (N := N) (x := x) h h4 (cn (D.br 0)) 0 N (by omega) (by omega)
  rw [show prm D.br x (cn (D.br 0)) 0 = 0 from rfl] at q
  rw [show (0 : Int32) = nI 0 from rfl, q, Option.bind_some, w_even, Option.bind_some]
  rfl
/-! marks -/
def wm {α : Type} (s0 : mt_S) (D : pd) (e : Nat) (ag : Bool) (cs : List Int32) (g : Option (α × mt_S)) (r : α) : Prop := ∃ s', g = some (r, s') ∧ rs s0 s' D e ag cs
theorem rv_54 {s : mt_S} {D : pd} {e i : Nat} {c v : Int32} (h : rv s D e) : rv (gm_setI (gm_setI s 54 i c) 55 0 v) D e :=
  ⟨h.len, h.pl, h.en, h.nb, h.bid, h.nl, h.st, h.br, h.tx, h.ac, rv_lots h (fun k hk _ _ _ _ _ _ _ _ _ _ _ _ => ⟨(fne_I (by omega)).trans (fne_I (by omega)), rfl⟩) rfl ⟨rfl, rfl, rfl, rfl, rfl, rfl⟩⟩
theorem w_mark {N : Nat} {s0 s : mt_S} {D : pd} {e : Nat} {ag : Bool} {cs : List Int32} {c : Int32} (h : rs s0 s D e ag cs) : wm s0 D e ag (addC ag cs [c]) (gm_X8_mark N c s) () := by
  unfold gm_X8_mark
  obtain ⟨c1, c2, c3, c4⟩ := h.c
  cases ag with
  | true =>
    rw [if_neg (by rw [h.ag]; decide)]
    exact ⟨s, rfl, h⟩
  | false =>
    rw [if_pos (by rw [h.ag]; rfl), c1, c2]
    by_cases c0 : cs.length = 200
    · rw [if_pos (by rw [c0]; rfl)]
      refine ⟨s, rfl, ?_⟩
      rw [show addC false cs [c] = cs from by
        show (cs ++ [c]).take 200 = cs
        rw [List.take_append_of_le_length (by omega), List.take_of_length_le (by omega)]]
      exact h
    · rw [if_neg (show ¬ nI cs.length = Int32.ofNat 200 from fun z => c0 ((cz_eq (by omega) (by omega)).mp z)), gm_wrI (by omega) (by omega), Option.bind_some]
      unfold gm_pI
      rw [Option.bind_some, show (gm_setI s 54 cs.length c).1 55 0 = nI cs.length from c2, cz_lit 1, cz_add]
      refine ⟨_, rfl, rv_54 h.v, ?_, h.ag, ?_⟩
      · rw [show addC false cs [c] = cs ++ [c] from by
          show (cs ++ [c]).take 200 = cs ++ [c]
          rw [List.take_of_length_le (by rw [List.length_append, List.length_singleton]; omega)]]
        refine ⟨c1, ?_, ?_, ?_⟩
        · rw [List.length_append, List.length_singleton]
          rfl
        · rw [List.length_append, List.length_singleton]
          omega
        · intro i hi
          dsimp only [gm_setI]
          rw [if_neg (by omega)]
          rw [List.length_append, List.length_singleton] at hi
          by_cases e1 : i = cs.length
          · subst e1
            rw [if_pos ⟨rfl, rfl⟩]
            simp
          · rw [if_neg (by omega), List.getElem_append_left (by omega)]
            exact c4 i (by omega)
      · intro k hk
        obtain ⟨x, y, z⟩ := h.fr k hk
        refine ⟨?_, y, z⟩
        rw [← x]
        exact (fne_I (fun q => hk.2.2.2 q)).trans (fne_I (fun q => hk.2.2.1 q))
