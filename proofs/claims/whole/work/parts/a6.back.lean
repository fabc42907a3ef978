/-! the kept acts, and going back over them -/
def okA : List pk → Nat → Prop
  | [], _ => True
  | a :: A, M => 0 ≤ (sp_do a (sp_run A)).1 ∧ ((plainW a.w ∧ okA A M) ∨ (bidW a.w ∧ ∃ n M0, a.n = nI n ∧ M0 < n ∧ n ≤ M ∧ okA A M0))
theorem okA_mono : ∀ {A : List pk} {M M' : Nat}, okA A M → M ≤ M' → okA A M' := by
  intro A
  induction A with
  | nil => intro M M' _ _; trivial
  | cons a A ih =>
    intro M M' h hM
    obtain ⟨h0, h1 | ⟨h1, n, M0, h2, h3, h4, h5⟩⟩ := h
    · exact ⟨h0, Or.inl ⟨h1.1, ih h1.2 hM⟩⟩
    · exact ⟨h0, Or.inr ⟨h1, n, M0, h2, h3, by omega, h5⟩⟩
theorem okA_tl {a : pk} {A : List pk} {M : Nat} (h : okA (a :: A) M) : okA A M := by
  obtain ⟨h0, h1 | ⟨h1, n, M0, h2, h3, h4, h5⟩⟩ := h
  · exact h1.2
  · exact okA_mono h5 (by omega)
theorem okA_drop : ∀ (k : Nat) {A : List pk} {M : Nat}, okA A M → okA (A.drop k) M := by
  intro k
  induction k with
  | zero => intro A M h; exact h
  | succ k ih =>
    intro A M h
    cases A with
    | nil => exact h
    | cons a A => exact ih (okA_tl h)
theorem pi_zero {M : Nat} : pi pd.zero M := by
  refine ⟨⟨rfl, by decide⟩, ⟨rfl, by decide⟩, ⟨⟨rfl, by decide⟩, ?_, ?_⟩, ⟨⟨rfl, by decide⟩, ?_, ?_⟩, ?_, ?_, ?_, ?_, ?_⟩
  · intro i hi; exact absurd hi (Nat.not_lt_zero i)
  · intro i hi; exact absurd hi (Nat.not_lt_zero _)
  · intro i hi; exact absurd hi (Nat.not_lt_zero i)
  · intro i hi; exact absurd hi (Nat.not_lt_zero _)
  · intro i hi; exact absurd hi (Nat.not_lt_zero i)
  · intro k _ _; exact ⟨0, by decide, rfl⟩
  · intro i hi; exact absurd hi (Nat.not_lt_zero i)
  · intro i hi; exact absurd hi (Nat.not_lt_zero i)
  · intro i hi; exact absurd hi (Nat.not_lt_zero i)
theorem pi_run : ∀ {A : List pk} {M : Nat}, okA A M → M < 2 ^ 31 → pi (sp_run A) M := by
  intro A
  induction A with
  | nil => intro M _ _; exact pi_zero
  | cons a A ih =>
    intro M h hM
    obtain ⟨h0, h1 | ⟨h1, n, M0, h2, h3, h4, h5⟩⟩ := h
    · exact pi_doN (ih h1.2 hM) hM h1.1
    · exact pi_mono (pi_doB (ih h5 (by omega)) h1 h2 h3 (by omega)) h4
abbrev ab : Type := (List pk) × Nat × (Nat → Nat) × Nat × Nat × Int32 × (List Int32)
def ab.A (z : ab) : List pk := z.1
def ab.dp (z : ab) : Nat := z.2.1
def ab.mq (z : ab) : Nat → Nat := z.2.2.1
def ab.num (z : ab) : Nat := z.2.2.2.1
def ab.tr (z : ab) : Nat := z.2.2.2.2.1
def ab.why (z : ab) : Int32 := z.2.2.2.2.2.1
def ab.cs (z : ab) : List Int32 := z.2.2.2.2.2.2
def RH (s : mt_S) (a : ab) : Prop := (∃ c, 1 ≤ c ∧ c ≤ 1024 ∧ a.A.length ≤ c ∧ ∀ k, 42 ≤ k → k ≤ 48 → s.2.2 k = c) ∧ (s.1 41 0 = nI a.A.length) ∧ (∀ b B, (b :: B) <:+ a.A → s.1 42 B.length = b.w ∧ s.1 43 B.length = b.o ∧ s.1 44 B.length = b.t ∧ s.1 45 B.length = b.h ∧ s.2.1 46 B.length = b.x ∧ s.2.1 47 B.length = b.y ∧ s.1 48 B.length = b.n) ∧ (s.1 49 0 = nI a.dp) ∧ (s.2.2 50 = 8) ∧ (∀ i, i < a.dp → s.1 50 i = nI (a.mq i)) ∧ (s.1 51 0 = nI a.num) ∧ (s.1 52 0 = nI a.tr) ∧ (s.1 53 0 = a.why)
theorem RH.cap {s : mt_S} {a : ab} (z : RH s a) : ∃ c, 1 ≤ c ∧ c ≤ 1024 ∧ a.A.length ≤ c ∧ ∀ k, 42 ≤ k → k ≤ 48 → s.2.2 k = c := z.1
theorem RH.n {s : mt_S} {a : ab} (z : RH s a) : s.1 41 0 = nI a.A.length := z.2.1
theorem RH.acts {s : mt_S} {a : ab} (z : RH s a) : ∀ b B, (b :: B) <:+ a.A → s.1 42 B.length = b.w ∧ s.1 43 B.length = b.o ∧ s.1 44 B.length = b.t ∧ s.1 45 B.length = b.h ∧ s.2.1 46 B.length = b.x ∧ s.2.1 47 B.length = b.y ∧ s.1 48 B.length = b.n := z.2.2.1
theorem RH.dp {s : mt_S} {a : ab} (z : RH s a) : s.1 49 0 = nI a.dp := z.2.2.2.1
theorem RH.l50 {s : mt_S} {a : ab} (z : RH s a) : s.2.2 50 = 8 := z.2.2.2.2.1
theorem RH.mq {s : mt_S} {a : ab} (z : RH s a) : ∀ i, i < a.dp → s.1 50 i = nI (a.mq i) := z.2.2.2.2.2.1
theorem RH.num {s : mt_S} {a : ab} (z : RH s a) : s.1 51 0 = nI a.num := z.2.2.2.2.2.2.1
theorem RH.tr {s : mt_S} {a : ab} (z : RH s a) : s.1 52 0 = nI a.tr := z.2.2.2.2.2.2.2.1
theorem RH.why {s : mt_S} {a : ab} (z : RH s a) : s.1 53 0 = a.why := z.2.2.2.2.2.2.2.2
theorem RH_congr {s s' : mt_S} {a : ab} (h : RH s a) (e : ∀ k, 41 ≤ k → k ≤ 53 → s'.1 k = s.1 k ∧ s'.2.1 k = s.2.1 k ∧ s'.2.2 k = s.2.2 k) : RH s' a := by
  obtain ⟨c, c1, c2, c3, c4⟩ := h.cap
  refine ⟨⟨c, c1, c2, c3, fun k a b => by rw [(e k (by omega) (by omega)).2.2]; exact c4 k a b⟩, by rw [(e 41 (by omega) (by omega)).1]; exact h.n, ?_, by rw [(e 49 (by omega) (by omega)).1]; exact h.dp, by rw [(e 50 (by omega) (by omega)).2.2]; exact h.l50, by rw [(e 50 (by omega) (by omega)).1]; exact h.mq, by rw [(e 51 (by omega) (by omega)).1]; exact h.num, by rw [(e 52 (by omega) (by omega)).1]; exact h.tr, by rw [(e 53 (by omega) (by omega)).1]; exact h.why⟩
  intro b B hB
  rw [(e 42 (by omega) (by omega)).1, (e 43 (by omega) (by omega)).1, (e 44 (by omega) (by omega)).1, (e 45 (by omega) (by omega)).1, (e 46 (by omega) (by omega)).2.1, (e 47 (by omega) (by omega)).2.1, (e 48 (by omega) (by omega)).1]
  exact h.acts b B hB
theorem rv_hi {s s' : mt_S} {D : pd} {e : Nat} (h : rv s D e) (q : ∀ k, k ≤ 40 → s'.1 k = s.1 k ∧ s'.2.1 k = s.2.1 k ∧ s'.2.2 k = s.2.2 k) : rv s' D e := by
  refine ⟨?_, ?_, ?_, ?_, ?_, ?_, ?_, ?_, ?_, ?_, ?_⟩
  · intro k hk; rw [(q k hk.1).2.2]; exact h.len k hk
  · rw [(q 16 (by decide)).2.2, (q 17 (by decide)).2.2, (q 18 (by decide)).2.2]; exact h.pl
  · rw [(q 15 (by decide)).1]; exact h.en
  · rw [(q 0 (by decide)).1]; exact h.nb
  · intro b hb
    rw [(q 1 (by decide)).1, (q 2 (by decide)).2.1, (q 3 (by decide)).2.1]; exact h.bid b hb
  · rw [(q 4 (by decide)).1]; exact h.nl
  · rw [(q 33 (by decide)).1, (q 34 (by decide)).2.1, (q 35 (by decide)).2.1]; exact h.st
  · rw [(q 36 (by decide)).1, (q 37 (by decide)).2.1, (q 38 (by decide)).1]; exact h.br
  · rw [(q 39 (by decide)).1]; exact h.tx
  · rw [(q 40 (by decide)).2.1]; exact h.ac
  · exact rv_lots h (fun k hk _ _ _ _ _ _ _ _ _ _ _ _ => ⟨(q k hk).1, (q k hk).2.1⟩) rfl ⟨rfl, rfl, rfl, rfl, rfl, rfl⟩
theorem rs_self {s0 s : mt_S} {D : pd} {e : Nat} {ag : Bool} {cs : List Int32} (h : rs s0 s D e ag cs) : rs s s D e ag cs := ⟨h.v, h.c, h.ag, fun _ _ => ⟨rfl, rfl, rfl⟩⟩
section BK
variable {N : Nat} {D : pd} {e M : Nat} {cs : List Int32}
theorem bk27 {w : Int32} : ∀ (d k n : Nat) (s : mt_S), k + d = 6 → d < n → s.2.2 39 = 6 → ∃ s', gp_X8_back_27 N n w (nI k) s = some ((), s') ∧ s'.2 = s.2 ∧ (∀ q, q ≠ 39 → s'.1 q = s.1 q) ∧ ∀ j, (j < k → s'.1 39 j = s.1 39 j) ∧ (k ≤ j → j < 6 → s'.1 39 j = 0) := by
  intro d
  induction d with
  | zero =>
    intro k n s hk hn h6
    obtain ⟨n, rfl⟩ : ∃ m, n = m + 1 := ⟨n - 1, by omega⟩
    unfold gp_X8_back_27 gl_X8_back_27
    rw [if_pos (by rw [show (6 : Int32) = nI 6 from rfl, cz_le (by omega) (by omega)]; omega)]
    exact ⟨s, rfl, rfl, fun _ _ => rfl, fun j => ⟨fun _ => rfl, fun a b => by omega⟩⟩
  | succ d ih =>
    intro k n s hk hn h6
    obtain ⟨n, rfl⟩ : ∃ m, n = m + 1 := ⟨n - 1, by omega⟩
    unfold gp_X8_back_27 gl_X8_back_27
    rw [if_neg (by rw [show (6 : Int32) = nI 6 from rfl, cz_le (by omega) (by omega)]; omega), gm_wrI (by omega) (by omega), Option.bind_some, show (1 : Int32) = nI 1 from rfl, cz_add]
    obtain ⟨s', g, a1, a2, a3⟩ := ih (k + 1) n (gm_setI s 39 k 0) (by omega) (by omega) h6
    refine ⟨s', g, a1, fun q hq => (a2 q hq).trans (fne_I hq), fun j => ⟨fun hj => ?_, fun b1 b2 => ?_⟩⟩
    · rw [(a3 j).1 (by omega)]
      dsimp only [gm_setI]
      rw [if_neg (by omega)]
    · by_cases c : j = k
      · rw [(a3 j).1 (by omega), c]
        exact sI_same
      · exact (a3 j).2 (by omega) b2
theorem bk48 {w : Int32} : ∀ (d k n : Nat) (s : mt_S), k + d = 3 → d < n → s.2.2 40 = 3 → ∃ s', gp_X8_back_48 N n w (nI k) s = some ((), s') ∧ s'.1 = s.1 ∧ s'.2.2 = s.2.2 ∧ (∀ q, q ≠ 40 → s'.2.1 q = s.2.1 q) ∧ ∀ j, (j < k → s'.2.1 40 j = s.2.1 40 j) ∧ (k ≤ j → j < 3 → s'.2.1 40 j = 0) := by
  intro d
  induction d with
  | zero =>
    intro k n s hk hn h6
    obtain ⟨n, rfl⟩ : ∃ m, n = m + 1 := ⟨n - 1, by omega⟩
    unfold gp_X8_back_48 gl_X8_back_48
    rw [if_pos (by rw [show (3 : Int32) = nI 3 from rfl, cz_le (by omega) (by omega)]; omega)]
    exact ⟨s, rfl, rfl, rfl, fun _ _ => rfl, fun j => ⟨fun _ => rfl, fun a b => by omega⟩⟩
  | succ d ih =>
    intro k n s hk hn h6
    obtain ⟨n, rfl⟩ : ∃ m, n = m + 1 := ⟨n - 1, by omega⟩
    unfold gp_X8_back_48 gl_X8_back_48
    rw [if_neg (by rw [show (3 : Int32) = nI 3 from rfl, cz_le (by omega) (by omega)]; omega), gm_wrL (by omega) (by omega), Option.bind_some, show (1 : Int32) = nI 1 from rfl, cz_add]
    obtain ⟨s', g, a1, a0, a2, a3⟩ := ih (k + 1) n (gm_setL s 40 k 0) (by omega) (by omega) h6
    refine ⟨s', g, a1, a0, fun q hq => (a2 q hq).trans (fne_L hq), fun j => ⟨fun hj => ?_, fun b1 b2 => ?_⟩⟩
    · rw [(a3 j).1 (by omega)]
      dsimp only [gm_setL]
      rw [if_neg (by omega)]
    · by_cases c : j = k
      · rw [(a3 j).1 (by omega), c]
        exact sL_same
      · exact (a3 j).2 (by omega) b2
theorem drop_k {A : List pk} {k : Nat} (h : k < A.length) : ∃ b, A.drop (A.length - (k + 1)) = b :: A.drop (A.length - k) := by
  refine ⟨A[A.length - (k + 1)], ?_⟩
  rw [List.drop_eq_getElem_cons (by omega)]
  congr 1
  congr 1
  omega
theorem drop_len {A : List pk} {k : Nat} (h : k ≤ A.length) : (A.drop (A.length - k)).length = k := by
  rw [List.length_drop]; omega
theorem rs_57 {s0 s : mt_S} {ag : Bool} {v : Int32} (h : rs s0 s D e ag cs) : rs (gm_setI s0 57 0 v) (gm_setI s 57 0 v) D e ag cs := by
  refine ⟨rv_hi h.v (fun k hk => ⟨fne_I (by omega), rfl, rfl⟩), h.c, h.ag, ?_⟩
  intro k hk
  obtain ⟨x, y, z⟩ := h.fr k hk
  refine ⟨?_, y, z⟩
  funext j
  dsimp only [gm_setI]
  rw [x]
theorem bk78 {A : List pk} {m : Nat} (hA : okA A M) (hM : M < 2 ^ 31) (h5 : A.length ≤ 600) (hN : 5000 ≤ N) (hm : m ≤ A.length) : ∀ (d k n : Nat) (s0 s : mt_S) (e : Nat), k + d = m → d < n → (∀ b B, (b :: B) <:+ A → s0.1 42 B.length = b.w ∧ s0.1 43 B.length = b.o ∧ s0.1 44 B.length = b.t ∧ s0.1 45 B.length = b.h ∧ s0.2.1 46 B.length = b.x ∧ s0.2.1 47 B.length = b.y ∧ s0.1 48 B.length = b.n) → (∀ q, 42 ≤ q → q ≤ 48 → A.length ≤ s0.2.2 q) → rs s0 s (sp_run (A.drop (A.length - k))) e true cs → e ≤ 2 * k →
    ∃ s' s0' e', gp_X8_back_78 N n (nI m) (nI k) s = some ((), s') ∧ rs s0' s' (sp_run (A.drop (A.length - m))) e' true cs ∧ e' ≤ 2 * m ∧ (∀ q, rest q → q ≠ 57 → s0'.1 q = s0.1 q ∧ s0'.2.1 q = s0.2.1 q ∧ s0'.2.2 q = s0.2.2 q) := by
  intro d
  induction d with
  | zero =>
    intro k n s0 s e hk hn _ _ h he
    obtain ⟨n, rfl⟩ : ∃ m, n = m + 1 := ⟨n - 1, by omega⟩
    unfold gp_X8_back_78 gl_X8_back_78
    rw [if_pos (by rw [cz_le (by omega) (by omega)]; omega)]
    rw [show k = m from by omega] at h he
    exact ⟨s, s0, e, rfl, h, he, fun _ _ _ => ⟨rfl, rfl, rfl⟩⟩
  | succ d ih =>
    intro k n s0 s e hk hn ha hq h he
    obtain ⟨n, rfl⟩ : ∃ m, n = m + 1 := ⟨n - 1, by omega⟩
    obtain ⟨b, hb⟩ := drop_k (A := A) (k := k) (by omega)
    have suf : (b :: A.drop (A.length - k)) <:+ A := by rw [← hb]; exact List.drop_suffix _ _
    obtain ⟨a1, a2, a3, a4, a5, a6, a7⟩ := ha b _ suf
    rw [drop_len (by omega)] at a1 a2 a3 a4 a5 a6 a7
    have ok := okA_drop (A.length - (k + 1)) hA
    rw [hb] at ok
    unfold gp_X8_back_78 gl_X8_back_78
    rw [if_neg (by rw [cz_le (by omega) (by omega)]; omega)]
    have ld : ∀ q, rest q → 42 ≤ q → q ≤ 48 → k < s.2.2 q := fun q r x y => by
      rw [(h.fr q r).2.2]; have := hq q x y; omega
    rw [gm_rdI (ld 48 (by decide) (by decide) (by decide)) (by omega), Option.bind_some]
    unfold gm_pI
    rw [Option.bind_some, (h.fr 48 (by decide)).1, a7]
    have h' := rs_57 (v := b.n) h
    rw [gm_rdI (s := gm_setI s 57 0 b.n) (ld 42 (by decide) (by decide) (by decide)) (by omega), Option.bind_some, gm_rdI (s := gm_setI s 57 0 b.n) (ld 43 (by decide) (by decide) (by decide)) (by omega), Option.bind_some, gm_rdI (s := gm_setI s 57 0 b.n) (ld 44 (by decide) (by decide) (by decide)) (by omega), Option.bind_some, gm_rdI (s := gm_setI s 57 0 b.n) (ld 45 (by decide) (by decide) (by decide)) (by omega), Option.bind_some, gm_rdL (s := gm_setI s 57 0 b.n) (ld 46 (by decide) (by decide) (by decide)) (by omega), Option.bind_some, gm_rdL (s := gm_setI s 57 0 b.n) (ld 47 (by decide) (by decide) (by decide)) (by omega), Option.bind_some]
    rw [show (gm_setI s 57 0 b.n).1 42 k = b.w from by rw [← a1, ← (h.fr 42 (by decide)).1]; rfl, show (gm_setI s 57 0 b.n).1 43 k = b.o from by rw [← a2, ← (h.fr 43 (by decide)).1]; rfl, show (gm_setI s 57 0 b.n).1 44 k = b.t from by rw [← a3, ← (h.fr 44 (by decide)).1]; rfl, show (gm_setI s 57 0 b.n).1 45 k = b.h from by rw [← a4, ← (h.fr 45 (by decide)).1]; rfl, show (gm_setI s 57 0 b.n).2.1 46 k = b.x from by rw [← a5, ← (h.fr 46 (by decide)).2.1]; rfl, show (gm_setI s 57 0 b.n).2.1 47 k = b.y from by rw [← a6, ← (h.fr 47 (by decide)).2.1]; rfl]
    have st : ∃ s2 e2, gm_X8_done (fun _ _ => none) N b.w b.o b.t b.h b.x b.y (gm_setI s 57 0 b.n) = some ((sp_do b (sp_run (A.drop (A.length - k)))).1, s2) ∧ rs (gm_setI s0 57 0 b.n) s2 (sp_run (A.drop (A.length - (k + 1)))) e2 true cs ∧ e2 ≤ e + 2 := by
      rw [hb]
      show ∃ s2 e2, _ ∧ rs _ s2 (sp_do b (sp_run (A.drop (A.length - k)))).2.1 e2 true cs ∧ _
      obtain ⟨h0, ⟨w1, w2⟩ | ⟨w1, n', M0, w2, w3, w4, w5⟩⟩ := ok
      · exact w_doN (a := b) h' (pi_run w2 hM) (by omega) hM hN w1
      · have n57 : nxtN (gm_setI s0 57 0 b.n) true = nI n' := by
          show (gm_setI s0 57 0 b.n).1 57 0 = nI n'
          rw [← w2]; exact sI_same
        obtain ⟨s2, e2, x1, x2, x3⟩ := w_doB (a := b) (N := N) (Kg := fun _ _ => none) h' (pi_run w5 (by omega)) (by omega) n57 w3 (by omega) hN w1 w2
        refine ⟨s2, e2, x1, ?_, x3⟩
        have t : (if (sp_do b (sp_run (A.drop (A.length - k)))).1 < 0 then gm_setI s0 57 0 b.n else numS (gm_setI s0 57 0 b.n) true) = gm_setI s0 57 0 b.n := by
          split <;> rfl
        rw [t] at x2
        exact x2
    obtain ⟨s2, e2, g2, h2, k2⟩ := st
    rw [g2, Option.bind_some, show (1 : Int32) = nI 1 from rfl, cz_add]
    obtain ⟨s', s0', e', z1, z2, z3, z4⟩ := ih (k + 1) n (gm_setI s0 57 0 b.n) s2 e2 (by omega) (by omega) ha hq h2 (by omega)
    exact ⟨s', s0', e', z1, z2, z3, fun q r c => by
      obtain ⟨y1, y2, y3⟩ := z4 q r c
      exact ⟨y1.trans (fne_I c), y2, y3⟩⟩
theorem rv_zero {s : mt_S} {c : Nat} (h : rv s D e) {s' : mt_S} (hl : s'.2.2 = s.2.2) (h0 : s'.1 0 0 = 0) (h4 : s'.1 4 0 = 0) (h15 : s'.1 15 0 = 0) (h33 : s'.1 33 0 = 0) (h36 : s'.1 36 0 = 0) (h39 : ∀ j, j < 6 → s'.1 39 j = 0) (h40 : ∀ j, j < 3 → s'.2.1 40 j = 0) : rv s' pd.zero 0 := by
  refine ⟨by rw [hl]; exact h.len, ?_, h15, h0, ?_, h4, ⟨h33, ?_⟩, ⟨h36, ?_⟩, ?_, ?_, ?_⟩
  · rw [hl]; exact ⟨h.pl.1, h.pl.2.1, Nat.zero_le _, h.pl.2.2.2.1, h.pl.2.2.2.2⟩
  · intro i hi; exact absurd hi (Nat.not_lt_zero i)
  · intro i hi; exact absurd hi (Nat.not_lt_zero i)
  · intro i hi; exact absurd hi (Nat.not_lt_zero i)
  · intro k _ hk; rw [h39 k (by omega)]; rfl
  · intro k hk; rw [h40 k hk]; rfl
  · intro i hi; exact absurd hi (Nat.not_lt_zero i)
theorem w_back {s : mt_S} {a : ab} {m : Nat} (h : rs s s D e false cs) (hR : RH s a) (hA : okA a.A M) (hM : M < 2 ^ 31) (h5 : a.A.length ≤ 600) (hN : 5000 ≤ N) (hm : m ≤ a.A.length) : ∃ s' e', gm_X8_back N (nI m) s = some ((), s') ∧ rs s' s' (sp_run (a.A.drop (a.A.length - m))) e' false cs ∧ e' ≤ 2 * m ∧ RH s' (((a.A.drop (a.A.length - m)), a.dp, a.mq, a.num, a.tr, a.why, a.cs) : ab) := by
  obtain ⟨c, c1, c2, c3, c4⟩ := hR.cap
  unfold gm_X8_back
  unfold gm_pI
  rw [Option.bind_some, Option.bind_some, Option.bind_some, Option.bind_some, Option.bind_some]
  generalize ht : gm_setI (gm_setI (gm_setI (gm_setI (gm_setI s 0 0 0) 4 0 0) 15 0 0) 33 0 0) 36 0 0 = t
  have t2 : t.2 = s.2 := by rw [← ht]; rfl
  have tq : ∀ q, 36 < q → t.1 q = s.1 q := by
    intro q hq
    rw [← ht]
    exact (fne_I (by omega)).trans ((fne_I (by omega)).trans ((fne_I (by omega)).trans ((fne_I (by omega)).trans (fne_I (by omega)))))
  have t0 : t.1 0 0 = 0 ∧ t.1 4 0 = 0 ∧ t.1 15 0 = 0 ∧ t.1 33 0 = 0 ∧ t.1 36 0 = 0 := by rw [← ht]; exact ⟨rfl, rfl, rfl, rfl, rfl⟩
  obtain ⟨s1, g1, x1, x2, x3⟩ := bk27 (N := N) (w := nI m) 6 0 N t (by omega) (by omega) (by rw [t2]; exact h.v.len 39 (by decide))
  rw [show (0 : Int32) = nI 0 from rfl, g1, Option.bind_some]
  obtain ⟨s2, g2, y1, y2, y3, y4⟩ := bk48 (N := N) (w := nI m) 3 0 N s1 (by omega) (by omega) (by rw [x1, t2]; exact h.v.len 40 (by decide))
  dsimp only
  rw [g2, Option.bind_some]
  dsimp only
  rw [Option.bind_some, Option.bind_some]
  have v2 : rv s2 pd.zero 0 := by
    refine rv_zero (c := c) h.v (by rw [y2, x1, t2]) ?_ ?_ ?_ ?_ ?_ ?_ ?_
    · rw [y1, x2 0 (by decide)]; exact t0.1
    · rw [y1, x2 4 (by decide)]; exact t0.2.1
    · rw [y1, x2 15 (by decide)]; exact t0.2.2.1
    · rw [y1, x2 33 (by decide)]; exact t0.2.2.2.1
    · rw [y1, x2 36 (by decide)]; exact t0.2.2.2.2
    · intro j hj; rw [y1]; exact (x3 j).2 (by omega) hj
    · intro j hj; exact (y4 j).2 (by omega) hj
  have hi2 : ∀ q, 40 < q → s2.1 q = s.1 q ∧ s2.2.1 q = s.2.1 q ∧ s2.2.2 q = s.2.2 q := by
    intro q hq
    refine ⟨by rw [y1, x2 q (by omega), tq q (by omega)], by rw [y3 q (by omega), x1, t2], by rw [y2, x1, t2]⟩
  generalize hu : gm_setI (gm_setI s2 41 0 (nI m)) 56 0 1 = u
  have hiu : ∀ q, 40 < q → q ≠ 41 → q ≠ 56 → u.1 q = s.1 q ∧ u.2.1 q = s.2.1 q ∧ u.2.2 q = s.2.2 q := by
    intro q a b c
    rw [← hu]
    exact ⟨((fne_I c).trans (fne_I b)).trans (hi2 q a).1, (hi2 q a).2.1, (hi2 q a).2.2⟩
  have hu2 : rs u u (sp_run (a.A.drop (a.A.length - 0))) 0 true cs := by
    rw [Nat.sub_zero, List.drop_length]
    refine ⟨rv_hi v2 (fun k hk => by rw [← hu]; exact ⟨(fne_I (by omega)).trans (fne_I (by omega)), rfl, rfl⟩), ?_, by rw [← hu]; rfl, fun _ _ => ⟨rfl, rfl, rfl⟩⟩
    obtain ⟨r1, r2, r3, r4⟩ := h.c
    refine ⟨by rw [(hiu 54 (by decide) (by decide) (by decide)).2.2]; exact r1, by rw [(hiu 55 (by decide) (by decide) (by decide)).1]; exact r2, r3, by rw [(hiu 54 (by decide) (by decide) (by decide)).1]; exact r4⟩
  obtain ⟨s3, s03, e3, g3, h3, k3, f3⟩ := bk78 (N := N) (cs := cs) hA hM h5 hN hm m 0 N u u 0 (by omega) (by omega) (fun b B hB => by
      rw [(hiu 42 (by decide) (by decide) (by decide)).1, (hiu 43 (by decide) (by decide) (by decide)).1, (hiu 44 (by decide) (by decide) (by decide)).1, (hiu 45 (by decide) (by decide) (by decide)).1, (hiu 46 (by decide) (by decide) (by decide)).2.1, (hiu 47 (by decide) (by decide) (by decide)).2.1, (hiu 48 (by decide) (by decide) (by decide)).1]
      exact hR.acts b B hB) (fun q a b => by rw [(hiu q (by omega) (by omega) (by omega)).2.2, c4 q a b]; exact c3) hu2 (by omega)
  rw [g3, Option.bind_some]
  dsimp only
  rw [Option.bind_some]
  refine ⟨_, e3, rfl, ?_, k3, ?_⟩
  · refine ⟨rv_hi h3.v (fun k hk => ⟨fne_I (by omega), rfl, rfl⟩), h3.c, rfl, fun _ _ => ⟨rfl, rfl, rfl⟩⟩
  · have hf : ∀ q, 41 < q → q ≤ 53 → (gm_setI s3 56 0 (nI 0)).1 q = s.1 q ∧ (gm_setI s3 56 0 (nI 0)).2.1 q = s.2.1 q ∧ (gm_setI s3 56 0 (nI 0)).2.2 q = s.2.2 q := by
      intro q a b
      have r : rest q := ⟨by omega, by omega, by omega, by omega⟩
      obtain ⟨p1, p2, p3⟩ := h3.fr q r
      obtain ⟨q1, q2, q3⟩ := f3 q r (by omega)
      obtain ⟨o1, o2, o3⟩ := hiu q (by omega) (by omega) (by omega)
      exact ⟨(fne_I (by omega)).trans (p1.trans (q1.trans o1)), p2.trans (q2.trans o2), p3.trans (q3.trans o3)⟩
    have n41 : (gm_setI s3 56 0 (nI 0)).1 41 0 = nI m := by
      have r : rest 41 := by decide
      have e1 : (gm_setI s3 56 0 (nI 0)).1 41 = s3.1 41 := fne_I (by decide)
      rw [e1, (h3.fr 41 r).1, (f3 41 r (by decide)).1, ← hu]
      rfl
    refine ⟨⟨c, c1, c2, by show (a.A.drop (a.A.length - m)).length ≤ c; rw [drop_len hm]; omega, fun k x y => by rw [(hf k (by omega) (by omega)).2.2]; exact c4 k x y⟩, by show _ = nI (a.A.drop (a.A.length - m)).length; rw [drop_len hm]; exact n41, ?_, by rw [(hf 49 (by omega) (by omega)).1]; exact hR.dp, by rw [(hf 50 (by omega) (by omega)).2.2]; exact hR.l50, by rw [(hf 50 (by omega) (by omega)).1]; exact hR.mq, by rw [(hf 51 (by omega) (by omega)).1]; exact hR.num, by rw [(hf 52 (by omega) (by omega)).1]; exact hR.tr, by rw [(hf 53 (by omega) (by omega)).1]; exact hR.why⟩
    intro b B hB
    rw [(hf 42 (by omega) (by omega)).1, (hf 43 (by omega) (by omega)).1, (hf 44 (by omega) (by omega)).1, (hf 45 (by omega) (by omega)).1, (hf 46 (by omega) (by omega)).2.1, (hf 47 (by omega) (by omega)).2.1, (hf 48 (by omega) (by omega)).1]
    exact hR.acts b B (hB.trans (List.drop_suffix _ _))
end BK
