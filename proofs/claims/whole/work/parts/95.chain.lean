/-! the reference's books are chains -/
def lk (c : Nat → Nat) (i : Nat) : Int32 := if i = 0 then -1 else nI (c (i - 1))
theorem lk_s {c : Nat → Nat} {i : Nat} : lk c (i + 1) = nI (c i) := by
  unfold lk
  rw [if_neg (by omega)]
  rfl
theorem chn {s : mt_S} {D : pd} {e l : Nat} (h : rv s D e) (hl : l < D.nl) : ∃ c : Nat → Nat, (∀ i, i < D.nE l → c i < 4096 ∧ gm_ldI s 16 (nI (c i)) = some (D.book l (1 + 2 * i)).toInt32 ∧ gm_ldL s 17 (nI (c i)) = some (D.book l (2 + 2 * i)) ∧ gm_ldI s 18 (nI (c i)) = some (lk c i) ∧ ((D.book l (1 + 2 * i)).toInt32).toInt64 = D.book l (1 + 2 * i)) ∧ (∀ i j, i < j → j < D.nE l → c i < c j) ∧ s.1 14 l = lk c (D.nE l) := by
  obtain ⟨c, c1, c2, c3⟩ := (h.lot l hl).ch
  obtain ⟨p1, p2, p3, p4, p5⟩ := h.pl
  refine ⟨c, fun i hi => ?_, c2, c3⟩
  obtain ⟨y1, y2, y3, y4⟩ := c1 i hi
  refine ⟨by omega, ?_, ?_, ?_, ?_⟩
  · rw [gm_rdI (by omega) (by omega), t32 y2]
  · rw [gm_rdL (by omega) (by omega), y3]
  · rw [gm_rdI (by omega) (by omega), y4]
    rfl
  · rw [← y2, Int32.toInt32_toInt64]
section CH
variable {N : Nat} {s0 s : mt_S} {D : pd} {e M l : Nat} {ag : Bool} {cs : List Int32}
theorem w_hasL {b : Int32} {c : Nat → Nat} {g : Nat → Int64} {n0 : Nat} (hc : ∀ i, i < n0 → c i < 4096 ∧ gm_ldI s 16 (nI (c i)) = some (g i).toInt32 ∧ gm_ldI s 18 (nI (c i)) = some (lk c i) ∧ ((g i).toInt32).toInt64 = g i) : ∀ (i n : Nat), i ≤ n0 → i < n → gp_X8_hasEntry_7 N n b (lk c i) s = some (match fr g b.toInt64 i 0 with | none => .inl () | some _ => .inr 1, s) := by
  intro i
  induction i with
  | zero =>
    intro n hi hn
    obtain ⟨n, rfl⟩ : ∃ m, n = m + 1 := ⟨n - 1, by omega⟩
    unfold gp_X8_hasEntry_7 gl_X8_hasEntry_7
    rw [show lk c 0 = -1 from rfl, if_pos (by decide)]
    rfl
  | succ i ih =>
    intro n hi hn
    obtain ⟨n, rfl⟩ : ∃ m, n = m + 1 := ⟨n - 1, by omega⟩
    obtain ⟨a1, a2, a3, a4⟩ := hc i (by omega)
    unfold gp_X8_hasEntry_7 gl_X8_hasEntry_7
    rw [lk_s, if_neg (cz_nn (by omega)), a2, Option.bind_some]
    by_cases z : g i = b.toInt64
    · rw [if_pos (by rw [t32i a4]; exact z)]
      cases hr : fr g b.toInt64 (i + 1) 0 with
      | some r => rfl
      | none => exact absurd z ((fr_none _ _).mp hr i (by omega) (by omega))
    · rw [if_neg (fun q => z (by rw [t32i a4] at q; exact q)), a3, Option.bind_some, ih n (by omega) (by omega)]
      have : (fr g b.toInt64 (i + 1) 0 = none) ↔ (fr g b.toInt64 i 0 = none) := by
        rw [fr_none, fr_none]
        refine ⟨fun q j a d => q j a (by omega), fun q j a d => ?_⟩
        by_cases e1 : j = i
        · rw [e1]; exact z
        · exact q j a (by omega)
      cases h1 : fr g b.toInt64 (i + 1) 0 with
      | none =>
        rw [this.mp h1]
      | some r =>
        cases h2 : fr g b.toInt64 i 0 with
        | none => exact absurd (this.mpr h2) (by rw [h1]; simp)
        | some r2 => rfl
theorem w_has {b : Int32} (h : rv s D e) (hp : pi D M) (hl : l < D.nl) (hN : 5000 ≤ N) : gm_X8_hasEntry N (nI l) b s = some (if fr (fun k => D.book l (1 + 2 * k)) b.toInt64 (D.nE l) 0 ≠ none then 1 else 0, s) := by
  obtain ⟨c, c1, c2, c3⟩ := chn h hl
  have nb := (hp.lot l hl).e0.2
  unfold gm_X8_hasEntry
  rw [rd14 h hl hp.l0.2, Option.bind_some, c3, w_hasL (g := fun k => D.book l (1 + 2 * k)) (n0 := D.nE l) (fun i hi => by
    obtain ⟨a1, a2, a3, a4, a5⟩ := c1 i hi
    exact ⟨a1, a2, a4, a5⟩) (D.nE l) N (by omega) (by omega), Option.bind_some]
  dsimp only
  cases fr (fun k => D.book l (1 + 2 * k)) b.toInt64 (D.nE l) 0 with
  | none => rfl
  | some r => rfl
theorem w_atL {w1 : Int32} {c : Nat → Nat} {n0 i : Nat} (h0 : n0 ≤ 300) (hc : ∀ i, i < n0 → gm_ldI s 18 (nI (c i)) = some (lk c i)) : ∀ (d j n : Nat), j = i + d → j < n0 → d < n → gp_X8_entryAt_98 N n w1 (nI i) (nI (c j)) (nI j) s = some (nI (c i), s) := by
  intro d
  induction d with
  | zero =>
    intro j n hj hn hd
    obtain ⟨n, rfl⟩ : ∃ m, n = m + 1 := ⟨n - 1, by omega⟩
    unfold gp_X8_entryAt_98 gl_X8_entryAt_98
    rw [if_pos (by rw [cz_le (by omega) (by omega)]; omega), show j = i from by omega]
  | succ d ih =>
    intro j n hj hn hd
    obtain ⟨n, rfl⟩ : ∃ m, n = m + 1 := ⟨n - 1, by omega⟩
    obtain ⟨j, rfl⟩ : ∃ m, j = m + 1 := ⟨j - 1, by omega⟩
    unfold gp_X8_entryAt_98 gl_X8_entryAt_98
    rw [if_neg (by rw [cz_le (by omega) (by omega)]; omega), hc (j + 1) hn, Option.bind_some, lk_s]
    rw [show nI (j + 1) + -1 = nI j from by rw [← Int32.sub_eq_add_neg, cz_lit 1, cz_sub (by omega) (by omega)]; rfl]
    exact ih j n (by omega) (by omega) (by omega)
theorem w_at {a i : Int32} {w1 : Int32} {col : Nat} (hw : (w1 = 21 ∧ col = 0) ∨ (w1 = 22 ∧ col = 1)) (h : rs s0 s D e ag cs) (hp : pi D M) (hN : 5000 ≤ N) : wk s0 ag cs e (gm_X8_entryAt N w1 a i s) (sp_at D a i col) := by
  unfold gm_X8_entryAt sp_at
  rw [w_noLot h.v, Option.bind_some]
  dsimp only
  refine wk_L h hp (fun l hl1 hl => ?_)
  subst hl1
  have h4 := hp.l0.2
  have I := hp.lot l hl
  have nb := I.e0.2
  rw [rd13 h.v hl h4, Option.bind_some]
  by_cases f2 : D.facts l 2 = 0
  · rw [if_pos f2, if_pos f2, if_neg (by decide)]
    exact wk_no h
  rw [if_neg f2, if_neg f2, if_pos (nI_ge0 (by omega)), rd5 h.v hl h4, Option.bind_some]
  have k62 : wk s0 ag cs e (gb_X8_entryAt_62 N w1 (nI l) i s) (if i < 0 ∨ nI (D.nE l) ≤ i then (-3, D, []) else (D.book l (1 + 2 * ix i + col), D, [])) := by
    unfold gb_X8_entryAt_62
    by_cases i0 : i < 0
    · rw [if_pos i0, if_pos (Or.inl i0)]; exact wk_no h
    rw [if_neg i0, rd13 h.v hl h4, Option.bind_some, if_neg f2]
    by_cases i1 : i < nI (D.nE l)
    rotate_left
    · rw [if_neg i1, if_pos (Or.inr (nle32.mp i1))]; exact wk_no h
    rw [if_pos i1, if_neg (by rintro (z | z); exact i0 z; exact (nle32.mpr z) i1)]
    obtain ⟨x, y⟩ := cz_of i0
    have ii : ix i < D.nE l := by rw [x] at i1; exact (cz_lt y (by omega)).mp i1
    obtain ⟨c, c1, c2, c3⟩ := chn h.v hl
    rw [rd14 h.v hl h4, Option.bind_some, Option.bind_some, c3, show lk c (D.nE l) = nI (c (D.nE l - 1)) from by rw [← lk_s (i := D.nE l - 1), show D.nE l - 1 + 1 = D.nE l from by omega], cz_lit 1, cz_sub (by omega) (by omega)]
    rw [show gp_X8_entryAt_98 N N w1 i (nI (c (D.nE l - 1))) (nI (D.nE l - 1)) s = some (nI (c (ix i)), s) from by
      rw [x, cz_ix y]
      exact w_atL nb (fun j hj => (c1 j hj).2.2.2.1) (D.nE l - 1 - ix i) (D.nE l - 1) N (by omega) (by omega) (by omega), Option.bind_some]
    dsimp only
    obtain ⟨a1, a2, a3, a4, a5⟩ := c1 (ix i) ii
    rcases hw with ⟨w, q⟩ | ⟨w, q⟩
    · rw [if_pos w, a2, Option.bind_some, a5, q]
      exact wk_no h
    · rw [if_neg (by rw [w]; decide), a3, Option.bind_some, q, show 1 + 2 * ix i + 1 = 2 + 2 * ix i from by omega]
      exact wk_no h
  by_cases k4 : D.kind l = 4
  · rw [if_pos k4, rd9 h.v hl h4, Option.bind_some]
    by_cases s1 : D.facts l 2 = 1
    · rw [if_pos (by rw [s1]; decide), rd25 h.v hl h4, Option.bind_some]
      by_cases o : D.facts l 4 = 0
      · rw [if_pos (by rw [o]; decide), if_pos ⟨k4, s1, o⟩]
        exact wk_no h
      · rw [if_neg (fun z => o (by rw [fct_4 h.v hl, ← cl_0] at z; exact z)), if_neg (fun z => o z.2.2)]
        exact k62
    · rw [if_neg (fun z => s1 (by rw [fct_0 h.v hl, ← cl_1] at z; exact z)), if_neg (fun z => s1 z.2.1)]
      exact k62
  · rw [if_neg k4, if_neg (fun z => k4 z.1)]
    exact k62
/-! opening -/
def opF (g : Nat → Int64) (b : Nat) : Nat → Nat
  | 0 => b
  | j + 1 => if g j < g b then opF g b j else opF g j j
def opG (g : Nat → Int64) (B : Nat) (m : Int64) : Nat → Int64
  | 0 => m
  | j + 1 => if j = B then opG g B m j else if g j ≤ m then opG g B m j else opG g B (g j) j
theorem opF_p {g : Nat → Int64} : ∀ (j b n : Nat), j ≤ b → b < n → (∀ i, j ≤ i → i < n → g i ≤ g b) → (∀ i, j ≤ i → i < b → g i < g b) → opF g b j < n ∧ (∀ i, i < n → g i ≤ g (opF g b j)) ∧ (∀ i, i < opF g b j → g i < g (opF g b j)) := by
  intro j
  induction j with
  | zero => intro b n _ h1 h2 h3; exact ⟨h1, fun i hi => h2 i (by omega) hi, fun i hi => h3 i (by omega) hi⟩
  | succ j ih =>
    intro b n hb h1 h2 h3
    unfold opF
    by_cases c : g j < g b
    · rw [if_pos c]
      refine ih b n (by omega) h1 (fun i a d => ?_) (fun i a d => ?_)
      · by_cases e1 : i = j
        · rw [e1]; exact Int64.le_of_lt c
        · exact h2 i (by omega) d
      · by_cases e1 : i = j
        · rw [e1]; exact c
        · exact h3 i (by omega) d
    · rw [if_neg c]
      have c2 := nle64.mp c
      refine ih j n (by omega) (by omega) (fun i a d => ?_) (fun i a d => by omega)
      by_cases e1 : i = j
      · rw [e1]; exact Int64.le_refl _
      · exact Int64.le_trans (h2 i (by omega) d) c2
theorem opG_p {g : Nat → Int64} {B : Nat} : ∀ (j : Nat) (m : Int64), m ≤ opG g B m j ∧ (∀ i, i < j → i ≠ B → g i ≤ opG g B m j) ∧ (opG g B m j = m ∨ ∃ i, i < j ∧ i ≠ B ∧ opG g B m j = g i) := by
  intro j
  induction j with
  | zero => intro m; exact ⟨Int64.le_refl _, fun i hi => by omega, Or.inl rfl⟩
  | succ j ih =>
    intro m
    unfold opG
    by_cases c : j = B
    · rw [if_pos c]
      obtain ⟨a1, a2, a3⟩ := ih m
      refine ⟨a1, fun i hi hB => a2 i (by omega) hB, ?_⟩
      rcases a3 with z | ⟨i, i1, i2, i3⟩
      · exact Or.inl z
      · exact Or.inr ⟨i, by omega, i2, i3⟩
    · rw [if_neg c]
      by_cases d : g j ≤ m
      · rw [if_pos d]
        obtain ⟨a1, a2, a3⟩ := ih m
        refine ⟨a1, fun i hi hB => ?_, ?_⟩
        · by_cases e1 : i = j
          · rw [e1]; exact Int64.le_trans d a1
          · exact a2 i (by omega) hB
        · rcases a3 with z | ⟨i, i1, i2, i3⟩
          · exact Or.inl z
          · exact Or.inr ⟨i, by omega, i2, i3⟩
      · rw [if_neg d]
        obtain ⟨a1, a2, a3⟩ := ih (g j)
        have dm : m ≤ g j := Int64.le_of_lt (by rw [← nle64] at d; exact Classical.byContradiction d)
        refine ⟨Int64.le_trans dm a1, fun i hi hB => ?_, ?_⟩
        · by_cases e1 : i = j
          · rw [e1]; exact a1
          · exact a2 i (by omega) hB
        · rcases a3 with z | ⟨i, i1, i2, i3⟩
          · exact Or.inr ⟨j, by omega, c, z⟩
          · exact Or.inr ⟨i, by omega, i2, i3⟩
theorem best_p {g : Nat → Int64} : ∀ k, (sp_best g k).1 ≤ k ∧ (∀ i, i ≤ k → g i ≤ g (sp_best g k).1) ∧ (∀ i, i < (sp_best g k).1 → g i < g (sp_best g k).1) ∧ 0 ≤ (sp_best g k).2 ∧ (∀ i, i ≤ k → i ≠ (sp_best g k).1 → g i ≤ (sp_best g k).2) ∧ ((sp_best g k).2 = 0 ∨ ∃ i, i ≤ k ∧ i ≠ (sp_best g k).1 ∧ (sp_best g k).2 = g i) := by
  intro k
  induction k with
  | zero => exact ⟨Nat.le_refl _, fun i hi => by rw [show i = 0 from by omega]; exact Int64.le_refl _, fun i hi => absurd hi (Nat.not_lt_zero _), Int64.le_refl _, fun i hi hn => absurd (show i = 0 from by omega) hn, Or.inl rfl⟩
  | succ k ih =>
    obtain ⟨a1, a2, a3, a4, a5, a6⟩ := ih
    unfold sp_best
    generalize sp_best g k = q at a1 a2 a3 a4 a5 a6 ⊢
    dsimp only
    by_cases c : g q.1 < g (k + 1)
    · rw [if_pos c]
      dsimp only
      have m1 : q.2 ≤ (if g q.1 < q.2 then q.2 else g q.1) := by
        split
        · exact Int64.le_refl _
        · rename_i z; exact nle64.mp z
      have m2 : g q.1 ≤ (if g q.1 < q.2 then q.2 else g q.1) := by
        split
        · rename_i z; exact Int64.le_of_lt z
        · exact Int64.le_refl _
      refine ⟨Nat.le_refl _, fun i hi => ?_, fun i hi => ?_, Int64.le_trans a4 m1, fun i hi hn => ?_, ?_⟩
      · by_cases e1 : i = k + 1
        · rw [e1]; exact Int64.le_refl _
        · exact Int64.le_of_lt (Int64.lt_of_le_of_lt (a2 i (by omega)) c)
      · exact Int64.lt_of_le_of_lt (a2 i (by omega)) c
      · by_cases e1 : i = q.1
        · rw [e1]; exact m2
        · exact Int64.le_trans (a5 i (by omega) e1) m1
      · split
        · rcases a6 with z | ⟨i, i1, i2, i3⟩
          · exact Or.inl z
          · exact Or.inr ⟨i, by omega, by omega, i3⟩
        · exact Or.inr ⟨q.1, by omega, by omega, rfl⟩
    · rw [if_neg c]
      dsimp only
      have c2 := nle64.mp c
      have m1 : q.2 ≤ (if g (k + 1) < q.2 then q.2 else g (k + 1)) := by
        split
        · exact Int64.le_refl _
        · rename_i z; exact nle64.mp z
      have m2 : g (k + 1) ≤ (if g (k + 1) < q.2 then q.2 else g (k + 1)) := by
        split
        · rename_i z; exact Int64.le_of_lt z
        · exact Int64.le_refl _
      refine ⟨by omega, fun i hi => ?_, a3, Int64.le_trans a4 m1, fun i hi hn => ?_, ?_⟩
      · by_cases e1 : i = k + 1
        · rw [e1]; exact c2
        · exact a2 i (by omega)
      · by_cases e1 : i = k + 1
        · rw [e1]; exact m2
        · exact Int64.le_trans (a5 i (by omega) hn) m1
      · split
        · rcases a6 with z | ⟨i, i1, i2, i3⟩
          · exact Or.inl z
          · exact Or.inr ⟨i, by omega, i2, i3⟩
        · exact Or.inr ⟨k + 1, by omega, by omega, rfl⟩
theorem op_eqB {g : Nat → Int64} {n : Nat} (hn : 0 < n) : opF g (n - 1) n = (sp_best g (n - 1)).1 := by
  obtain ⟨n, rfl⟩ : ∃ m, n = m + 1 := ⟨n - 1, by omega⟩
  have e0 : opF g (n + 1 - 1) (n + 1) = opF g n n := by
    show (if g n < g n then opF g n n else opF g n n) = _
    split <;> rfl
  rw [e0]
  obtain ⟨x1, x2, x3⟩ := opF_p (g := g) n n (n + 1) (Nat.le_refl _) (by omega) (fun i a b => by rw [show i = n from by omega]; exact Int64.le_refl _) (fun i a b => by omega)
  obtain ⟨y1, y2, y3, _⟩ := best_p (g := g) n
  show opF g n n = (sp_best g n).1
  rcases Nat.lt_trichotomy (opF g n n) (sp_best g n).1 with z | z | z
  · exact absurd (y3 _ z) (nle64.mpr (x2 _ (by omega)))
  · exact z
  · exact absurd (x3 _ z) (nle64.mpr (y2 _ (by omega)))
theorem op_eqS {g : Nat → Int64} {n : Nat} {m : Int64} (hn : 0 < n) (hm : 0 ≤ m) : opG g (sp_best g (n - 1)).1 m n = mx m (sp_best g (n - 1)).2 := by
  obtain ⟨n, rfl⟩ : ∃ m, n = m + 1 := ⟨n - 1, by omega⟩
  show opG g (sp_best g n).1 m (n + 1) = mx m (sp_best g n).2
  obtain ⟨x1, x2, x3⟩ := opG_p (g := g) (B := (sp_best g n).1) (n + 1) m
  obtain ⟨_, _, _, y4, y5, y6⟩ := best_p (g := g) n
  generalize (sp_best g n).1 = B at x1 x2 x3 y5 y6 ⊢
  generalize (sp_best g n).2 = t at y4 y5 y6 ⊢
  generalize opG g B m (n + 1) = r at x1 x2 x3 ⊢
  refine Int64.le_antisymm ?_ ?_
  · have t1 : m ≤ mx m t := by
      unfold mx
      split
      · rename_i z; exact Int64.le_of_lt z
      · exact Int64.le_refl _
    have t2 : t ≤ mx m t := by
      unfold mx
      split
      · exact Int64.le_refl _
      · rename_i z; exact nle64.mp z
    rcases x3 with z | ⟨i, i1, i2, i3⟩
    · rw [z]; exact t1
    · rw [i3]; exact Int64.le_trans (y5 i (by omega) i2) t2
  · unfold mx
    split
    · rename_i z
      rcases y6 with w | ⟨i, i1, i2, i3⟩
      · rw [w] at z; exact absurd z (nle64.mpr hm)
      · rw [i3]; exact x2 i (by omega) i2
    · exact x1
end CH
