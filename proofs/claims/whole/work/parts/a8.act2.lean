/-! the reference keeps an act; an act from its start to its end -/
def RR (s : mt_S) (a : ab) : Prop := ∃ e, e ≤ 2 * a.tr ∧ rs s s (sp_run a.A) e false a.cs ∧ RH s a
def gr7 (s : mt_S) : mt_S := gm_grow (gm_grow (gm_grow (gm_grow (gm_grow (gm_grow (gm_grow s 42) 43) 44) 45) 46) 47) 48
section NT
variable {N : Nat} {s : mt_S} {D : pd} {e : Nat} {cs : List Int32} {a : ab} {b : pk}
theorem gr_fne {k k0 : Nat} (h : k ≠ k0) : (gm_grow s k0).1 k = s.1 k ∧ (gm_grow s k0).2.1 k = s.2.1 k ∧ (gm_grow s k0).2.2 k = s.2.2 k := by
  refine ⟨?_, ?_, ?_⟩
  · funext q; dsimp only [gm_grow]; rw [if_neg (by omega)]
  · funext q; dsimp only [gm_grow]; rw [if_neg (by omega)]
  · dsimp only [gm_grow]; rw [if_neg h]
theorem gr7_o {k : Nat} (h : k < 42 ∨ 48 < k) : (gr7 s).1 k = s.1 k ∧ (gr7 s).2.1 k = s.2.1 k ∧ (gr7 s).2.2 k = s.2.2 k := by
  unfold gr7
  have g := fun (t : mt_S) (k0 : Nat) (z : k ≠ k0) => gr_fne (s := t) z
  refine ⟨?_, ?_, ?_⟩
  · rw [(g _ 48 (by omega)).1, (g _ 47 (by omega)).1, (g _ 46 (by omega)).1, (g _ 45 (by omega)).1, (g _ 44 (by omega)).1, (g _ 43 (by omega)).1, (g _ 42 (by omega)).1]
  · rw [(g _ 48 (by omega)).2.1, (g _ 47 (by omega)).2.1, (g _ 46 (by omega)).2.1, (g _ 45 (by omega)).2.1, (g _ 44 (by omega)).2.1, (g _ 43 (by omega)).2.1, (g _ 42 (by omega)).2.1]
  · rw [(g _ 48 (by omega)).2.2, (g _ 47 (by omega)).2.2, (g _ 46 (by omega)).2.2, (g _ 45 (by omega)).2.2, (g _ 44 (by omega)).2.2, (g _ 43 (by omega)).2.2, (g _ 42 (by omega)).2.2]
theorem gr7_i {c k j : Nat} (hc : ∀ k, 42 ≤ k → k ≤ 48 → s.2.2 k = c) (h1 : 42 ≤ k) (h2 : k ≤ 48) (hj : j < c) : (gr7 s).1 k j = s.1 k j ∧ (gr7 s).2.1 k j = s.2.1 k j ∧ (gr7 s).2.2 k = 2 * c := by
  have c42 := hc 42 (by omega) (by omega)
  have c43 := hc 43 (by omega) (by omega)
  have c44 := hc 44 (by omega) (by omega)
  have c45 := hc 45 (by omega) (by omega)
  have c46 := hc 46 (by omega) (by omega)
  have c47 := hc 47 (by omega) (by omega)
  have c48 := hc 48 (by omega) (by omega)
  have g := fun (t : mt_S) (k0 : Nat) (z : k ≠ k0 ∨ j < t.2.2 k0) => grow_eq (s := t) (k0 := k0) (k := k) (j := j) z
  unfold gr7
  have l1 : ∀ (t : mt_S) (k0 k : Nat), k ≠ k0 → (gm_grow t k0).2.2 k = t.2.2 k := fun t k0 k z => (gr_fne (s := t) z).2.2
  have e43 : (gm_grow s 42).2.2 43 = c := by rw [l1 _ _ _ (by decide)]; exact c43
  have e44 : (gm_grow (gm_grow s 42) 43).2.2 44 = c := by rw [l1 _ _ _ (by decide), l1 _ _ _ (by decide)]; exact c44
  have e45 : (gm_grow (gm_grow (gm_grow s 42) 43) 44).2.2 45 = c := by rw [l1 _ _ _ (by decide), l1 _ _ _ (by decide), l1 _ _ _ (by decide)]; exact c45
  have e46 : (gm_grow (gm_grow (gm_grow (gm_grow s 42) 43) 44) 45).2.2 46 = c := by rw [l1 _ _ _ (by decide), l1 _ _ _ (by decide), l1 _ _ _ (by decide), l1 _ _ _ (by decide)]; exact c46
  have e47 : (gm_grow (gm_grow (gm_grow (gm_grow (gm_grow s 42) 43) 44) 45) 46).2.2 47 = c := by rw [l1 _ _ _ (by decide), l1 _ _ _ (by decide), l1 _ _ _ (by decide), l1 _ _ _ (by decide), l1 _ _ _ (by decide)]; exact c47
  have e48 : (gm_grow (gm_grow (gm_grow (gm_grow (gm_grow (gm_grow s 42) 43) 44) 45) 46) 47).2.2 48 = c := by rw [l1 _ _ _ (by decide), l1 _ _ _ (by decide), l1 _ _ _ (by decide), l1 _ _ _ (by decide), l1 _ _ _ (by decide), l1 _ _ _ (by decide)]; exact c48
  refine ⟨?_, ?_, ?_⟩
  · rw [(g _ 48 (by omega)).1, (g _ 47 (by omega)).1, (g _ 46 (by omega)).1, (g _ 45 (by omega)).1, (g _ 44 (by omega)).1, (g _ 43 (by omega)).1, (g _ 42 (by omega)).1]
  · rw [(g _ 48 (by omega)).2, (g _ 47 (by omega)).2, (g _ 46 (by omega)).2, (g _ 45 (by omega)).2, (g _ 44 (by omega)).2, (g _ 43 (by omega)).2, (g _ 42 (by omega)).2]
  · have dd : ∀ (t : mt_S) (k0 : Nat), (gm_grow t k0).2.2 k0 = 2 * t.2.2 k0 := fun t k0 => by dsimp only [gm_grow]; rw [if_pos rfl]
    obtain rfl | rfl | rfl | rfl | rfl | rfl | rfl : k = 42 ∨ k = 43 ∨ k = 44 ∨ k = 45 ∨ k = 46 ∨ k = 47 ∨ k = 48 := by omega
    · rw [l1 _ _ _ (by decide), l1 _ _ _ (by decide), l1 _ _ _ (by decide), l1 _ _ _ (by decide), l1 _ _ _ (by decide), l1 _ _ _ (by decide), dd, c42]
    · rw [l1 _ _ _ (by decide), l1 _ _ _ (by decide), l1 _ _ _ (by decide), l1 _ _ _ (by decide), l1 _ _ _ (by decide), dd, e43]
    · rw [l1 _ _ _ (by decide), l1 _ _ _ (by decide), l1 _ _ _ (by decide), l1 _ _ _ (by decide), dd, e44]
    · rw [l1 _ _ _ (by decide), l1 _ _ _ (by decide), l1 _ _ _ (by decide), dd, e45]
    · rw [l1 _ _ _ (by decide), l1 _ _ _ (by decide), dd, e46]
    · rw [l1 _ _ _ (by decide), dd, e47]
    · rw [dd, e48]
def ntS (s : mt_S) (n : Nat) (b : pk) : mt_S := gm_setI (gm_setI (gm_setL (gm_setL (gm_setI (gm_setI (gm_setI (gm_setI s 42 n b.w) 43 n b.o) 44 n b.t) 45 n b.h) 46 n b.x) 47 n b.y) 48 n b.n) 41 0 (nI (n + 1))
theorem w_nt89 {n : Nat} (hn : s.1 41 0 = nI n) (h5 : n < 600) (hc : ∀ k, 42 ≤ k → k ≤ 48 → n < s.2.2 k) (h57 : s.1 57 0 = b.n) : gb_X8_note_89 N b.w b.o b.t b.h b.x b.y s = some ((), ntS s n b) := by
  unfold gb_X8_note_89
  rw [hn, gm_wrI (by exact hc 42 (by omega) (by omega)) (by omega), Option.bind_some]
  rw [show (gm_setI s 42 n b.w).1 41 0 = nI n from hn, gm_wrI (by exact hc 43 (by omega) (by omega)) (by omega), Option.bind_some]
  rw [show (gm_setI (gm_setI s 42 n b.w) 43 n b.o).1 41 0 = nI n from hn, gm_wrI (by exact hc 44 (by omega) (by omega)) (by omega), Option.bind_some]
  rw [show (gm_setI (gm_setI (gm_setI s 42 n b.w) 43 n b.o) 44 n b.t).1 41 0 = nI n from hn, gm_wrI (by exact hc 45 (by omega) (by omega)) (by omega), Option.bind_some]
  rw [show (gm_setI (gm_setI (gm_setI (gm_setI s 42 n b.w) 43 n b.o) 44 n b.t) 45 n b.h).1 41 0 = nI n from hn, gm_wrL (by exact hc 46 (by omega) (by omega)) (by omega), Option.bind_some]
  rw [show (gm_setL (gm_setI (gm_setI (gm_setI (gm_setI s 42 n b.w) 43 n b.o) 44 n b.t) 45 n b.h) 46 n b.x).1 41 0 = nI n from hn, gm_wrL (by exact hc 47 (by omega) (by omega)) (by omega), Option.bind_some]
  rw [show (gm_setL (gm_setL (gm_setI (gm_setI (gm_setI (gm_setI s 42 n b.w) 43 n b.o) 44 n b.t) 45 n b.h) 46 n b.x) 47 n b.y).1 41 0 = nI n from hn, show (gm_setL (gm_setL (gm_setI (gm_setI (gm_setI (gm_setI s 42 n b.w) 43 n b.o) 44 n b.t) 45 n b.h) 46 n b.x) 47 n b.y).1 57 0 = b.n from h57, gm_wrI (by exact hc 48 (by omega) (by omega)) (by omega), Option.bind_some]
  unfold gm_pI
  rw [Option.bind_some, show (gm_setI (gm_setL (gm_setL (gm_setI (gm_setI (gm_setI (gm_setI s 42 n b.w) 43 n b.o) 44 n b.t) 45 n b.h) 46 n b.x) 47 n b.y) 48 n b.n).1 41 0 = nI n from hn, show (1 : Int32) = nI 1 from rfl, cz_add]
  rfl
theorem nt_fin {n c : Nat} (h : rs s s D e false cs) (hn : a.A.length = n) (hc : ∀ k, 42 ≤ k → k ≤ 48 → s.2.2 k = c) (hnc : n < c) (c4 : c ≤ 1024) (hR : RH s a) : rs (ntS s n b) (ntS s n b) D e false cs ∧ RH (ntS s n b) (((b :: a.A), a.dp, a.mq, a.num, a.tr, a.why, a.cs) : ab) := by
  have o : ∀ k, k < 41 ∨ 48 < k → (ntS s n b).1 k = s.1 k ∧ (ntS s n b).2.1 k = s.2.1 k := by
    intro k hk
    unfold ntS
    refine ⟨?_, ?_⟩
    · rw [fne_I (by omega), fne_I (by omega)]
      show (gm_setI (gm_setI (gm_setI (gm_setI s 42 n b.w) 43 n b.o) 44 n b.t) 45 n b.h).1 k = s.1 k
      rw [fne_I (by omega), fne_I (by omega), fne_I (by omega), fne_I (by omega)]
    · show (gm_setL (gm_setL s 46 n b.x) 47 n b.y).2.1 k = s.2.1 k
      rw [fne_L (by omega), fne_L (by omega)]
  have i1 : ∀ k j, j ≠ n → k ≠ 41 → (ntS s n b).1 k j = s.1 k j ∧ (ntS s n b).2.1 k j = s.2.1 k j := by
    intro k j hj hk
    dsimp only [ntS, gm_setI, gm_setL]
    refine ⟨?_, ?_⟩
    · rw [if_neg (by omega), if_neg (by omega), if_neg (by omega), if_neg (by omega), if_neg (by omega), if_neg (by omega)]
    · rw [if_neg (by omega), if_neg (by omega)]
  constructor
  · refine ⟨rv_hi h.v (fun k hk => ⟨(o k (by omega)).1, (o k (by omega)).2, rfl⟩), ?_, by rw [(o 56 (by omega)).1]; exact h.ag, fun _ _ => ⟨rfl, rfl, rfl⟩⟩
    obtain ⟨r1, r2, r3, r4⟩ := h.c
    exact ⟨r1, by rw [(o 55 (by omega)).1]; exact r2, r3, by rw [(o 54 (by omega)).1]; exact r4⟩
  · refine ⟨⟨c, by omega, c4, by show a.A.length + 1 ≤ c; omega, hc⟩, ?_, ?_, by rw [(o 49 (by omega)).1]; exact hR.dp, hR.l50, by rw [(o 50 (by omega)).1]; exact hR.mq, by rw [(o 51 (by omega)).1]; exact hR.num, by rw [(o 52 (by omega)).1]; exact hR.tr, by rw [(o 53 (by omega)).1]; exact hR.why⟩
    · show (ntS s n b).1 41 0 = nI (a.A.length + 1)
      rw [hn]
      exact sI_same
    · intro b' B hB
      have hB' : (b' :: B) <:+ (b :: a.A) := hB
      rw [List.suffix_cons_iff] at hB'
      rcases hB' with z | z
      · injection z with z1 z2
        subst z1 z2
        rw [hn]
        refine ⟨?_, ?_, ?_, ?_, ?_, ?_, ?_⟩
        all_goals simp [ntS, gm_setI, gm_setL]
      · have lt : B.length ≠ n := by
          have := z.length_le
          rw [List.length_cons] at this
          omega
        rw [(i1 42 _ lt (by decide)).1, (i1 43 _ lt (by decide)).1, (i1 44 _ lt (by decide)).1, (i1 45 _ lt (by decide)).1, (i1 46 _ lt (by decide)).2, (i1 47 _ lt (by decide)).2, (i1 48 _ lt (by decide)).1]
        exact hR.acts b' B z
theorem w_note (h : rs s s D e false cs) (hR : RH s a) (h5 : a.A.length < 512) (hN : 5000 ≤ N) (h57 : s.1 57 0 = b.n) : ∃ s', gm_X8_note N b.w b.o b.t b.h b.x b.y s = some ((), s') ∧ rs s' s' D e false cs ∧ RH s' (((b :: a.A), a.dp, a.mq, a.num, a.tr, a.why, a.cs) : ab) := by
  obtain ⟨c, c1, c2, c3, c4⟩ := hR.cap
  unfold gm_X8_note
  rw [hR.n, c4 42 (by omega) (by omega)]
  by_cases z : nI a.A.length = Int32.ofNat c
  · rw [if_pos z]
    have ec : a.A.length = c := (cz_eq (by omega) (by omega)).mp z
    have l1 : ∀ (t : mt_S) (k0 k : Nat), k ≠ k0 → (gm_grow t k0).2.2 k = t.2.2 k := fun t k0 k z => (gr_fne (s := t) z).2.2
    have gg : ∀ (t : mt_S) (k : Nat), t.2.2 k = c → gm_gr N t k = some (gm_grow t k) := fun t k hk => if_pos ⟨by omega, by omega, by omega⟩
    rw [gg s 42 (c4 42 (by omega) (by omega)), Option.bind_some, gg _ 43 (by rw [l1 _ _ _ (by decide)]; exact c4 43 (by omega) (by omega)), Option.bind_some]
    rw [gg _ 44 (by rw [l1 _ _ _ (by decide), l1 _ _ _ (by decide)]; exact c4 44 (by omega) (by omega)), Option.bind_some]
    rw [gg _ 45 (by rw [l1 _ _ _ (by decide), l1 _ _ _ (by decide), l1 _ _ _ (by decide)]; exact c4 45 (by omega) (by omega)), Option.bind_some]
    rw [gg _ 46 (by rw [l1 _ _ _ (by decide), l1 _ _ _ (by decide), l1 _ _ _ (by decide), l1 _ _ _ (by decide)]; exact c4 46 (by omega) (by omega)), Option.bind_some]
    rw [gg _ 47 (by rw [l1 _ _ _ (by decide), l1 _ _ _ (by decide), l1 _ _ _ (by decide), l1 _ _ _ (by decide), l1 _ _ _ (by decide)]; exact c4 47 (by omega) (by omega)), Option.bind_some]
    rw [gg _ 48 (by rw [l1 _ _ _ (by decide), l1 _ _ _ (by decide), l1 _ _ _ (by decide), l1 _ _ _ (by decide), l1 _ _ _ (by decide), l1 _ _ _ (by decide)]; exact c4 48 (by omega) (by omega)), Option.bind_some]
    show ∃ s', gb_X8_note_89 N b.w b.o b.t b.h b.x b.y (gr7 s) = some ((), s') ∧ _
    have hc' : ∀ k, 42 ≤ k → k ≤ 48 → (gr7 s).2.2 k = 2 * c := fun k x y => (gr7_i (j := 0) c4 x y (by omega)).2.2
    have hrs : rs (gr7 s) (gr7 s) D e false cs := by
      refine ⟨rv_hi h.v (fun k hk => gr7_o (by omega)), ?_, by rw [(gr7_o (s := s) (k := 56) (by omega)).1]; exact h.ag, fun _ _ => ⟨rfl, rfl, rfl⟩⟩
      obtain ⟨r1, r2, r3, r4⟩ := h.c
      exact ⟨by rw [(gr7_o (s := s) (k := 54) (by omega)).2.2]; exact r1, by rw [(gr7_o (s := s) (k := 55) (by omega)).1]; exact r2, r3, by rw [(gr7_o (s := s) (k := 54) (by omega)).1]; exact r4⟩
    have hRH : RH (gr7 s) a := by
      have o := fun k (hk : k < 42 ∨ 48 < k) => gr7_o (s := s) (k := k) hk
      refine ⟨⟨2 * c, by omega, by omega, by omega, hc'⟩, by rw [(o 41 (by omega)).1]; exact hR.n, ?_, by rw [(o 49 (by omega)).1]; exact hR.dp, by rw [(o 50 (by omega)).2.2]; exact hR.l50, by rw [(o 50 (by omega)).1]; exact hR.mq, by rw [(o 51 (by omega)).1]; exact hR.num, by rw [(o 52 (by omega)).1]; exact hR.tr, by rw [(o 53 (by omega)).1]; exact hR.why⟩
      intro b' B hB
      have lt : B.length < c := by
        have := hB.length_le
        rw [List.length_cons] at this
        omega
      have i := fun k (x : 42 ≤ k) (y : k ≤ 48) => gr7_i (s := s) c4 x y lt
      rw [(i 42 (by omega) (by omega)).1, (i 43 (by omega) (by omega)).1, (i 44 (by omega) (by omega)).1, (i 45 (by omega) (by omega)).1, (i 46 (by omega) (by omega)).2.1, (i 47 (by omega) (by omega)).2.1, (i 48 (by omega) (by omega)).1]
      exact hR.acts b' B hB
    rw [w_nt89 (n := a.A.length) (s := gr7 s) hRH.n (by omega) (fun k x y => by rw [hc' k x y]; omega) (by rw [(gr7_o (s := s) (k := 57) (by omega)).1]; exact h57)]
    obtain ⟨f1, f2⟩ := nt_fin (b := b) hrs rfl hc' (by omega) (by omega) hRH
    exact ⟨_, rfl, f1, f2⟩
  · rw [if_neg z]
    have lt : a.A.length < c := by
      rcases Nat.lt_or_ge a.A.length c with y | y
      · exact y
      · exact absurd (by rw [show a.A.length = c from by omega]; rfl) z
    rw [w_nt89 (n := a.A.length) hR.n (by omega) (fun k x y => by rw [c4 k x y]; exact lt) h57]
    obtain ⟨f1, f2⟩ := nt_fin (b := b) h rfl c4 lt c2 hR
    exact ⟨_, rfl, f1, f2⟩
end NT
