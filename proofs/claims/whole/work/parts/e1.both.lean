/-! both in one heap -/
def Xc (ad : Nat → Nat) (w : Nat → Value) (k : mt_S) (h : ym_H) (x : Nat) : Prop := x < h.1 ∧ ∀ key, kx ad w k key ≠ none → x ≠ ad key
def Xr (M : Nat) (ad : Nat → Nat) (h : ym_H) (x : Nat) : Prop := x < h.1 ∧ x ≠ M ∧ ∀ q, q < 58 → mt_tag q ≠ 100 → x ≠ ad q
def scr (b L : Nat) (xs : Nat → Int32) (h : ym_H) : Prop := h.2.2 b = .inl (99, L, fun j => .int (xs j))
def LI (b L : Nat) (xs : Nat → Int32) (M1 M2 B0 S0 : Nat) (h : ym_H) (T : Nat) : Prop := ∃ (ad : Nat → Nat) (w : Nat → Value) (k : mt_S) (ad8 : Nat → Nat) (s : mt_S) (a : ab) (J : List je) (jm : Nat → Nat) (g n : Nat), kt_I ad w k h ∧ ad 0 = M1 ∧ mt_MI M2 ad8 s h ∧ (∀ key, kx ad w k key ≠ none → ad key ≠ M2 ∧ ad key ≠ b ∧ ∀ q, q < 58 → mt_tag q ≠ 100 → ad key ≠ ad8 q) ∧ scr b L xs h ∧ b < h.1 ∧ CR k a J jm g n ∧ RR s a ∧ wfT a T ∧ g ≤ 8 * T ∧ n ≤ 40 * T ∧ h.1 ≤ B0 + k.2.2 4 + mt_P s ∧ h.2.1 ≤ S0 + k.2.2 1 + mt_P s
theorem tag_99 : ∀ q, q < 58 → mt_tag q ≠ 99 := by decide
section TW
variable {b L M1 M2 B0 S0 T : Nat} {xs : Nat → Int32} {h : ym_H}
theorem LI_ob (I : LI b L xs M1 M2 B0 S0 h T) : ∃ fs, ym_ob h (some M1) 7 = some fs := by
  obtain ⟨ad, w, k, ad8, s, a, J, jm, g, n, i1, i2, _⟩ := I
  have t := (i1.1 0 _ (kx_lt (by decide))).1
  rw [i2] at t
  have F : kt_F (fun _ => False) M1 h k ad w h k := ⟨i2, i1, fun x hx => absurd hx id, fun _ hx => absurd hx id, ⟨Nat.le_refl _, Nat.le_refl _, rfl, rfl⟩⟩
  exact F_ob F
theorem LI_scr (I : LI b L xs M1 M2 B0 S0 h T) : scr b L xs h := by
  obtain ⟨ad, w, k, ad8, s, a, J, jm, g, n, i1, i2, i3, i4, i5, _⟩ := I
  exact i5
theorem LI_up (I : LI b L xs M1 M2 B0 S0 h T) : LI b L xs M1 M2 B0 S0 h (T + 1) := by
  obtain ⟨ad, w, k, ad8, s, a, J, jm, g, n, i1, i2, i3, i4, i5, i6, c1, c2, c3, c4, c5, m1, m2⟩ := I
  exact ⟨ad, w, k, ad8, s, a, J, jm, g, n, i1, i2, i3, i4, i5, i6, c1, c2, wf_up c3, by omega, by omega, m1, m2⟩
theorem LI_two {α : Type} {fx fr : ym_H → Option (α × ym_H)} (I : LI b L xs M1 M2 B0 S0 h T) (hT : T < 512) (hc : okC M1 M2 T fx fr) : ∃ (r : α) (h1 h2 : ym_H), fx h = some (r, h1) ∧ fr h1 = some (r, h2) ∧ (∃ fs, ym_ob h1 (some M2) 8 = some fs) ∧ scr b L xs h1 ∧ LI b L xs M1 M2 B0 S0 h2 (T + 1) := by
  obtain ⟨ad, w, k, ad8, s, a, J, jm, g, n, i1, i2, i3, i4, i5, i6, c1, c2, c3, c4, c5, m1, m2⟩ := I
  obtain ⟨r, a', wf', hC, hR⟩ := hc a c3
  have i5' : h.2.2 b = .inl (99, L, fun j => .int (xs j)) := i5
  have bM : b ≠ M2 := by
    intro z
    rw [z, i3.1] at i5'
    cases i5'
  have b8 : ∀ q, q < 58 → mt_tag q ≠ 100 → b ≠ ad8 q := by
    intro q hq ht z
    rw [z, i3.2.1 q hq ht] at i5'
    injection i5' with t
    injection t with t
    exact tag_99 q hq t
  have F : kt_F (Xc ad w k h) M1 h k ad w h k := ⟨i2, i1, fun x hx => hx, fun _ _ => rfl, ⟨Nat.le_refl _, Nat.le_refl _, rfl, rfl⟩⟩
  obtain ⟨ad', w1, h1, k', J', jm', g', n', e1, F', C', l1, l2⟩ := hC (Xc ad w k h) h k ad w h k J jm g n c1 (by omega) F
  obtain ⟨f1, f2, f3, f4, f5⟩ := F'
  have xM : Xc ad w k h M2 := ⟨i3.2.2.2.2, fun key hk z => (i4 key hk).1 z.symm⟩
  have x8 : ∀ q, q < 58 → mt_tag q ≠ 100 → Xc ad w k h (ad8 q) := fun q hq ht => ⟨(i3.2.2.2.1 q hq ht).2, fun key hk z => (i4 key hk).2.2 q hq ht z.symm⟩
  have xb : Xc ad w k h b := ⟨i6, fun key hk z => (i4 key hk).2.1 z.symm⟩
  have j3 : mt_MI M2 ad8 s h1 := ⟨by rw [f4 M2 xM]; exact i3.1, fun q hq ht => by rw [f4 _ (x8 q hq ht)]; exact i3.2.1 q hq ht, i3.2.2.1, fun q hq ht => ⟨(i3.2.2.2.1 q hq ht).1, (f3 _ (x8 q hq ht)).1⟩, (f3 M2 xM).1⟩
  have j5 : scr b L xs h1 := by unfold scr; rw [f4 b xb]; exact i5
  have B : mt_B M2 (Xr M2 ad8 h1) ad8 h1 s h1 s := ⟨j3, fun x hx => hx, fun _ _ => rfl, Nat.le_refl _, Nat.le_refl _, Nat.le_refl _, Nat.le_refl _⟩
  obtain ⟨ad9, h2, s', e2, ⟨b1, b2, b3, b4⟩, R'⟩ := hR (Xr M2 ad8 h1) ad8 h1 s c2 B
  have y : ∀ key, kx ad' w1 k' key ≠ none → Xr M2 ad8 h1 (ad' key) := by
    intro key hk
    obtain ⟨e, he⟩ := Option.ne_none_iff_exists'.mp hk
    exact ⟨(f2.1 key e he).2, fun z => (f3 M2 xM).2 key hk z.symm, fun q hq ht z => (f3 _ (x8 q hq ht)).2 key hk z.symm⟩
  have yb : Xr M2 ad8 h1 b := ⟨(f3 b xb).1, bM, b8⟩
  have k2 : kt_I ad' w1 k' h2 := by
    obtain ⟨p1, p2, q1, q2, q3, q4⟩ := f2
    refine ⟨fun key e he => ?_, p2, q1, q2, fun j hj => ?_, q4⟩
    · have t := y key (by rw [he]; exact Option.some_ne_none _)
      rw [b3 _ t]
      exact ⟨(p1 key e he).1, (b2 _ t).1⟩
    · rcases q3 j hj with z | ⟨x, fs, z1, z2, z3⟩
      · exact Or.inl z
      · have hx : Xr M2 ad8 h1 x := by
          refine ⟨z2, fun t => ?_, fun q hq ht t => ?_⟩
          · rw [t, j3.1] at z3
            injection z3 with z3
            injection z3 with z3
            exact absurd z3 (by decide)
          · rw [t, j3.2.1 q hq ht] at z3
            cases z3
        exact Or.inr ⟨x, fs, z1, (b2 x hx).1, by rw [b3 x hx]; exact z3⟩
  refine ⟨r, h1, h2, e1, e2, ⟨_, mt_ob_eq j3⟩, j5, ad', w1, k', ad9, s', a', J', jm', g', n', k2, f1, b1, ?_, by unfold scr; rw [b3 b yb]; exact j5, (b2 b yb).1, C', R', wf', by omega, by omega, ?_, ?_⟩
  · intro key hk
    have t := b2 _ (y key hk)
    exact ⟨t.2.1, fun z => (f3 b xb).2 key hk z.symm, t.2.2⟩
  · unfold kt_A at f5
    unfold mt_A at b4
    omega
  · unfold kt_A at f5
    unfold mt_A at b4
    omega
theorem sc_ld {j : Nat} (e : scr b L xs h) (hj : j < L) (hL : L ≤ 3072) : ym_ldI h (some b) (nI j) = some (xs j) := by
  unfold scr at e
  unfold ym_ldI ym_ld ym_ar
  dsimp only
  rw [e]
  dsimp only
  rw [Option.bind_some, cz_nat (by omega), if_pos ⟨Or.inr ⟨rfl, rfl⟩, by rintro (z | z); exact cz_nn (by omega) z; exact absurd (show L ≤ j from z) (by omega)⟩]
  rfl
theorem sc_len (e : scr b L xs h) : ym_len h (some b) = some (nI L) := by
  unfold scr at e
  unfold ym_len ym_ar
  dsimp only
  rw [e]
  rfl
theorem sc_5 {i : Nat} (e : scr b L xs h) (hi : 6 * i + 6 ≤ L) (hL : L ≤ 3072) : ym_ldI h (some b) (nI (6 * i) + 1) = some (xs (6 * i + 1)) ∧ ym_ldI h (some b) (nI (6 * i) + 2) = some (xs (6 * i + 2)) ∧ ym_ldI h (some b) (nI (6 * i) + 3) = some (xs (6 * i + 3)) ∧ ym_ldI h (some b) (nI (6 * i) + 4) = some (xs (6 * i + 4)) ∧ ym_ldI h (some b) (nI (6 * i) + 5) = some (xs (6 * i + 5)) := by
  rw [show nI (6 * i) + 1 = nI (6 * i + 1) from cz_add _ 1, show nI (6 * i) + 2 = nI (6 * i + 2) from cz_add _ 2, show nI (6 * i) + 3 = nI (6 * i + 3) from cz_add _ 3, show nI (6 * i) + 4 = nI (6 * i + 4) from cz_add _ 4, show nI (6 * i) + 5 = nI (6 * i + 5) from cz_add _ 5]
  exact ⟨sc_ld e (by omega) hL, sc_ld e (by omega) hL, sc_ld e (by omega) hL, sc_ld e (by omega) hL, sc_ld e (by omega) hL⟩
end TW
