/-! the class's journal: its row of cells -/
section KT5
variable {α : Type} {X : Nat → Prop} {ad0 ad : Nat → Nat} {w : Nat → Value} {h0 h : ym_H} {s0 s : mt_S}
theorem kt_fbw (hB : kt_B X ad0 ad w h0 s0 h s) {h1 : ym_H} (r4 : ∀ q, q ≠ h.1 → h1.2.2 q = h.2.2 q) {j : Nat} (hj : j < s.2.2 0) : ym_fb h1 3 (w j) = true := by
  rcases hB.1.2.2.2.2.1 j hj with q | ⟨a, fs, p1, p2, p3⟩
  · rw [q]; rfl
  · rw [p1]
    simp [ym_fb, r4 a (by omega), p3]
theorem kt_growH (hB : kt_B X ad0 ad w h0 s0 h s) {f : ym_H → Option (α × ym_H)} {g : mt_S → Option (α × mt_S)} (kk : ∀ ad1 w1 h1 s1, kt_B X ad0 ad1 w1 h0 s0 h1 s1 → kt_ok X ad0 h0 s0 (f h1) (g s1)) :
    kt_ok X ad0 h0 s0 (Option.bind (ym_na h 3 .null (2 * (s.1 4 0))) fun h35 => Option.bind (ym_gR h35 (some (ad0 1)) 3 0) fun v41 => Option.bind (ym_gI h35 (some (ad0 1)) 3 3) fun v49 => Option.bind (ym_cp h35 3 v41 0 (some h.1) 0 v49) fun h52 => Option.bind (ym_pf h52 (some (ad0 1)) 3 0 (va_rf (some h.1))) f) (Option.bind (gk_growH s) g) := by
  by_cases hc : s.1 4 0 = nI (s.2.2 0) ∧ 1 ≤ s.2.2 0 ∧ s.2.2 0 ≤ 65536 ∧ s.2.2 5 ≤ s.2.2 0
  · rw [gk_growH, if_pos hc]
    obtain ⟨c1, c2, c3, c4⟩ := hc
    have hxv : kx ad w s 8 = some (.inl (3, s.2.2 0, w)) := kx_lt (by decide)
    have hxc : kx ad w s 1 = some (.inr (3, [.ref (ad 8), .ref (ad 9), .ref (ad 10), .int (s.1 4 0), .ref (ad 11), .int (s.1 5 0)])) := kx_lt (by decide)
    obtain ⟨v1, v2⟩ := hB.1.1 _ _ hxv
    obtain ⟨v3, v4⟩ := hB.1.1 _ _ hxc
    have eo : ad0 1 = ad 1 := (hB.2.2.2.2 1 (Or.inl (by decide))).symm
    have e2 : (2 : Int32) * (s.1 4 0) = nI (2 * s.2.2 0) := by rw [c1]; exact lg_2
    rw [e2, na_eq (by omega)]
    have hn1 : ∀ q, q ≠ h.1 → (ym_new h (2 * s.2.2 0) (.inl (3, 2 * s.2.2 0, fun _ => Value.null))).2.2 q = h.2.2 q := fun q hq => if_neg hq
    have e3 : ym_ob (ym_new h (2 * s.2.2 0) (.inl (3, 2 * s.2.2 0, fun _ => Value.null))) (some (ad0 1)) 3 = some [.ref (ad 8), .ref (ad 9), .ref (ad 10), .int (s.1 4 0), .ref (ad 11), .int (s.1 5 0)] := by
      rw [eo]
      simp [ym_ob, hn1 (ad 1) (by omega), v3]
    have e4 : ym_gR (ym_new h (2 * s.2.2 0) (.inl (3, 2 * s.2.2 0, fun _ => Value.null))) (some (ad0 1)) 3 0 = some (some (ad 8)) := by simp [ym_gR, ym_gf, e3, ym_toR]
    have e5 : ym_gI (ym_new h (2 * s.2.2 0) (.inl (3, 2 * s.2.2 0, fun _ => Value.null))) (some (ad0 1)) 3 3 = some (nI (s.2.2 0)) := by simp [ym_gI, ym_gf, e3, ym_toI, c1]
    simp only [Option.bind_some, e4, e5]
    rw [cp_eq (n := s.2.2 0) (m := 2 * s.2.2 0) (f := w) (g := fun _ => .null) (by rw [hn1 (ad 8) (by omega)]; exact v1) (if_pos rfl) (by omega) (Nat.le_refl _) (by omega) (fun i hi => kt_fbw hB hn1 hi)]
    obtain ⟨r1, r2, r3, r4⟩ := kt_newrow (h := h) (a := 0) (k := 2 * s.2.2 0) (e0 := .inl (3, 2 * s.2.2 0, fun _ => Value.null)) (e1 := .inl (3, 2 * s.2.2 0, fun j => if j < s.2.2 0 then w j else .null))
    generalize ym_set (ym_new h (2 * s.2.2 0) (.inl (3, 2 * s.2.2 0, fun _ => Value.null))) h.1 (.inl (3, 2 * s.2.2 0, fun j => if j < s.2.2 0 then w j else .null)) = h1 at r1 r2 r3 r4 ⊢
    have e1 : ym_pf h1 (some (ad0 1)) 3 0 (va_rf (some h.1)) = some (ym_set h1 (ad 1) (.inr (3, [.ref h.1, .ref (ad 9), .ref (ad 10), .int (s.1 4 0), .ref (ad 11), .int (s.1 5 0)]))) := by
      have e0 : ym_ob h1 (some (ad0 1)) 3 = some [.ref (ad 8), .ref (ad 9), .ref (ad 10), .int (s.1 4 0), .ref (ad 11), .int (s.1 5 0)] := by
        rw [eo]
        simp [ym_ob, r4 (ad 1) (by omega), v3]
      simp only [ym_pf, e0, Option.bind_some]
      rw [eo]
      rfl
    obtain ⟨s1, hs1, f1, fL, fN, fNc, fN1, fN4⟩ : ∃ s1 : mt_S, s1 = (s.1, s.2.1, fun q => if q = 0 then 2 * s.2.2 0 else if q = 1 then s.2.2 1 + 2 * s.2.2 0 else if q = 4 then s.2.2 4 + 1 else s.2.2 q) ∧ s1.1 = s.1 ∧ s1.2.1 = s.2.1 ∧ (∀ q, q ≠ 0 → q ≠ 1 → q ≠ 4 → s1.2.2 q = s.2.2 q) ∧ s1.2.2 0 = 2 * s.2.2 0 ∧ s1.2.2 1 = s.2.2 1 + 2 * s.2.2 0 ∧ s1.2.2 4 = s.2.2 4 + 1 := by
      refine ⟨_, rfl, rfl, rfl, fun q q1 q2 q3 => ?_, rfl, rfl, rfl⟩
      dsimp only
      rw [if_neg q1, if_neg q2, if_neg q3]
    rw [← hs1]
    show kt_ok X ad0 h0 s0 (Option.bind (ym_pf h1 (some (ad0 1)) 3 0 (va_rf (some h.1))) f) (g s1)
    rw [e1]
    have hn2 := fN 2 (by decide) (by decide) (by decide)
    have hn3 := fN 3 (by decide) (by decide) (by decide)
    obtain ⟨w1, hw1, hw2⟩ : ∃ w1 : Nat → Value, w1 = (fun j => if j < s.2.2 0 then w j else .null) ∧ ∀ j, w1 j = if j < s.2.2 0 then w j else .null := ⟨_, rfl, fun _ => rfl⟩
    rw [← hw1] at r3
    obtain ⟨ad1, had, a1, a2⟩ : ∃ ad1 : Nat → Nat, ad1 = (fun q => if q = 8 then h.1 else ad q) ∧ (∀ q, q ≠ 8 → ad1 q = ad q) ∧ ad1 8 = h.1 := ⟨_, rfl, fun q hq => if_neg hq, if_pos rfl⟩
    have hagr : ∀ q, kt_st q → ad1 q = ad q := fun q hq => a1 q (fun z => by unfold kt_st at hq; omega)
    have ho : ∀ q, q ≠ 8 → q ≠ 1 → kx ad1 w1 s1 q = kx ad w s q := by
      intro q hq1 hq2
      exact kx_gen hB.1.2.2.2.1 hB.1.2.2.1 hagr f1 hn2 hn3 (by rw [fL]) (by rw [fL]) (fun z => absurd z hq2) (fun z => absurd z hq1) (fun _ => fN 6 (by decide) (by decide) (by decide)) (fun _ => ⟨fN 7 (by decide) (by decide) (by decide), by rw [fL]⟩) (fun z1 z2 => a1 _ (by omega)) (fun z1 z2 => ⟨fN _ (by omega) (by omega) (by omega), by rw [fL]⟩)
    have hx1 : kx ad1 w1 s1 8 = some (.inl (3, 2 * s.2.2 0, w1)) := by
      rw [kx_lt (by decide)]
      simp only [kx0, fNc]
    have hxo1 : kx ad1 w1 s1 1 = some (.inr (3, [.ref h.1, .ref (ad 9), .ref (ad 10), .int (s.1 4 0), .ref (ad 11), .int (s.1 5 0)])) := by
      rw [kx_lt (by decide)]
      simp only [kx0, a1 9 (by decide), a1 10 (by decide), a1 11 (by decide), a2, f1]
    rw [had] at hx1 hxo1 ho
    exact kk _ _ _ _ (kt_mv hB (key := 8) (own := 1) (n := 2 * s.2.2 0) (by decide) (by unfold kt_st; omega) hxv hxc hx1 hxo1 ho r1 r2 r3 r4 fN1 fN4 (kt_wf_mv hB (by unfold kt_st; omega) hxc (Or.inl (fun fs q => by cases q)) r1 r4 hn3 hn2 (fN 5 (by decide) (by decide) (by decide)) (fun i hi => ⟨fN _ (by omega) (by omega) (by omega), by rw [hw2 i, if_pos (by omega)]⟩) (fun j hj => by
      by_cases z : j < s.2.2 0
      · exact Or.inl ⟨z, by rw [hw2 j, if_pos z]⟩
      · exact Or.inr (by rw [hw2 j, if_neg z]))))
  · rw [gk_growH, if_neg hc]
    exact kt_no
theorem kt_whoW (hB : kt_B X ad0 ad w h0 s0 h s) {i : Int32} {c : Nat} {f : ym_H → Option (α × ym_H)} {g : mt_S → Option (α × mt_S)} (kk : ∀ w1 h1 s1, kt_B X ad0 ad w1 h0 s0 h1 s1 → kt_ok X ad0 h0 s0 (f h1) (g s1)) :
    kt_ok X ad0 h0 s0 (Option.bind (ym_as h (some (ad 8)) 3 i (va_rf (some (ad0 (1000 + c))))) f) (Option.bind (gk_whoW s i c) g) := by
  by_cases hc : i < 0 ∨ s.2.2 0 ≤ i.toNatClampNeg ∨ s.2.2 5 < i.toNatClampNeg ∨ ¬ (kt_cl s c = true ∧ c < 3000)
  · rw [gk_whoW, if_pos hc]
    exact kt_no
  · rw [gk_whoW, if_neg hc]
    have hi : ¬ (i < 0 ∨ s.2.2 0 ≤ i.toNatClampNeg) := fun q => hc (q.elim Or.inl (fun z => Or.inr (Or.inl z)))
    have h5 : i.toNatClampNeg ≤ s.2.2 5 := Nat.not_lt.mp fun q => hc (Or.inr (Or.inr (Or.inl q)))
    have hcl : kt_cl s c = true ∧ c < 3000 := Classical.byContradiction fun q => hc (Or.inr (Or.inr (Or.inr q)))
    have hxv : kx ad w s 8 = some (.inl (3, s.2.2 0, w)) := kx_lt (by decide)
    have hxc := kx_cel (ad := ad) (w := w) (s := s) hcl.1 hcl.2
    obtain ⟨v3, v4⟩ := hB.1.1 _ _ hxc
    have eo : ad0 (1000 + c) = ad (1000 + c) := (hB.2.2.2.2 _ (kt_st4 hcl.2)).symm
    have e1 : ym_as h (some (ad 8)) 3 i (va_rf (some (ad0 (1000 + c)))) = some (ym_set h (ad 8) (.inl (3, s.2.2 0, updV w i.toNatClampNeg (.ref (ad (1000 + c)))))) := by
      simp only [ym_as, kt_arT hB hxv, Option.bind_some]
      rw [if_pos ⟨trivial, by decide, hi⟩, eo]
      rfl
    rw [e1]
    obtain ⟨s1, hs1, f1, fL, fN, fNc, fN5⟩ : ∃ s1 : mt_S, s1 = (s.1, s.2.1, fun q => if q = 5000 + i.toNatClampNeg then c else if q = 5 then (if s.2.2 5 = i.toNatClampNeg then i.toNatClampNeg + 1 else s.2.2 5) else s.2.2 q) ∧ s1.1 = s.1 ∧ s1.2.1 = s.2.1 ∧ (∀ q, q ≠ 5000 + i.toNatClampNeg → q ≠ 5 → s1.2.2 q = s.2.2 q) ∧ s1.2.2 (5000 + i.toNatClampNeg) = c ∧ s1.2.2 5 = (if s.2.2 5 = i.toNatClampNeg then i.toNatClampNeg + 1 else s.2.2 5) := by
      refine ⟨_, rfl, rfl, rfl, fun q q1 q2 => ?_, if_pos rfl, ?_⟩
      · dsimp only
        rw [if_neg q1, if_neg q2]
      · dsimp only
        rw [if_neg (by omega), if_pos rfl]
    rw [← hs1]
    show kt_ok X ad0 h0 s0 (f _) (g s1)
    have hn2 := fN 2 (by omega) (by decide)
    have hn3 := fN 3 (by omega) (by decide)
    have hn0 := fN 0 (by omega) (by decide)
    refine kk (updV w i.toNatClampNeg (.ref (ad (1000 + c)))) _ _ (kt_wr hB hxv (show kx ad (updV w i.toNatClampNeg (.ref (ad (1000 + c)))) s1 8 = some (.inl (3, s.2.2 0, updV w i.toNatClampNeg (.ref (ad (1000 + c))))) by rw [kx_lt (by decide)]; simp only [kx0, hn0]) (fun q hq => kx_gen hB.1.2.2.2.1 hB.1.2.2.1 (fun _ _ => rfl) f1 hn2 hn3 (by rw [fL]) (by rw [fL]) (fun _ => ⟨rfl, rfl, rfl⟩) (fun z => absurd z hq) (fun _ => fN 6 (by omega) (by decide)) (fun _ => ⟨fN 7 (by omega) (by decide), by rw [fL]⟩) (fun _ _ => rfl) (fun z1 z2 => ⟨fN _ (by omega) (by omega), by rw [fL]⟩)) (fN 1 (by omega) (by decide)) (fN 4 (by omega) (by decide)) ⟨by rw [hn3]; exact hB.1.2.2.1, by rw [hn2]; exact hB.1.2.2.2.1, fun j hj => ?_, fun j hj => ?_⟩)
    · rw [hn0] at hj
      have keep : ∀ (a : Nat) (fs : List Value), h.2.2 a = .inr (2, fs) → (ym_set h (ad 8) (.inl (3, s.2.2 0, updV w i.toNatClampNeg (.ref (ad (1000 + c)))))).2.2 a = .inr (2, fs) := by
        intro a fs ha
        show (if a = ad 8 then _ else h.2.2 a) = _
        rw [if_neg (kt_tag2 hB.1 hxv (fun fs q => by cases q) ha)]
        exact ha
      by_cases z : j = i.toNatClampNeg
      · refine Or.inr ⟨ad (1000 + c), _, ?_, v4, keep _ _ v3⟩
        simp [updV, z]
      · have ew : updV w i.toNatClampNeg (.ref (ad (1000 + c))) j = w j := by simp [updV, z]
        rw [ew]
        rcases hB.1.2.2.2.2.1 j hj with q | ⟨a, fs, p1, p2, p3⟩
        · exact Or.inl q
        · exact Or.inr ⟨a, fs, p1, p2, keep _ _ p3⟩
    · by_cases z : j = i.toNatClampNeg
      · subst z
        rw [fNc, kt_clE hn2 hn3]
        refine ⟨?_, hcl.1⟩
        simp [updV]
      · have hj5 : j < s.2.2 5 := by
          rw [fN5] at hj
          by_cases y : s.2.2 5 = i.toNatClampNeg
          · rw [if_pos y] at hj; omega
          · rw [if_neg y] at hj; exact hj
        obtain ⟨p1, p2⟩ := hB.1.2.2.2.2.2 j hj5
        rw [fN (5000 + j) (by omega) (by omega), kt_clE hn2 hn3]
        refine ⟨?_, p2⟩
        simp only [updV, if_neg z]
        exact p1
end KT5
