/-! the class's cells: the rows that grow, one by one -/
def gk_growV (s : mt_S) (c : Nat) (n : Int32) : Option mt_S := if kt_cl s c = true ∧ c < 3000 ∧ ¬ n < 0 ∧ s.2.2 (100 + c) < n.toNatClampNeg ∧ n.toNatClampNeg ≤ 67108864 then some (s.1, fun r j => if r = 100 + c ∧ s.2.2 (100 + c) ≤ j then 0 else s.2.1 r j, fun q => if q = 100 + c then n.toNatClampNeg else if q = 1 then s.2.2 1 + n.toNatClampNeg else if q = 4 then s.2.2 4 + 1 else s.2.2 q) else none
def gk_growW (s : mt_S) (n : Int32) : Option mt_S := if ¬ n < 0 ∧ s.2.2 6 < n.toNatClampNeg ∧ n.toNatClampNeg ≤ 67108864 then some (fun r j => if r = 10 ∧ s.2.2 6 ≤ j then 0 else s.1 r j, s.2.1, fun q => if q = 6 then n.toNatClampNeg else if q = 1 then s.2.2 1 + n.toNatClampNeg else if q = 4 then s.2.2 4 + 1 else s.2.2 q) else none
def gk_growB (s : mt_S) (n : Int32) : Option mt_S := if ¬ n < 0 ∧ s.2.2 7 < n.toNatClampNeg ∧ n.toNatClampNeg ≤ 67108864 then some (s.1, fun r j => if r = 22 ∧ s.2.2 7 ≤ j then 0 else s.2.1 r j, fun q => if q = 7 then n.toNatClampNeg else if q = 1 then s.2.2 1 + n.toNatClampNeg else if q = 4 then s.2.2 4 + 1 else s.2.2 q) else none
def gk_growH (s : mt_S) : Option mt_S := if s.1 4 0 = nI (s.2.2 0) ∧ 1 ≤ s.2.2 0 ∧ s.2.2 0 ≤ 65536 ∧ s.2.2 5 ≤ s.2.2 0 then some (s.1, s.2.1, fun q => if q = 0 then 2 * s.2.2 0 else if q = 1 then s.2.2 1 + 2 * s.2.2 0 else if q = 4 then s.2.2 4 + 1 else s.2.2 q) else none
def gk_whoW (s : mt_S) (i : Int32) (c : Nat) : Option mt_S := if i < 0 ∨ s.2.2 0 ≤ i.toNatClampNeg ∨ s.2.2 5 < i.toNatClampNeg ∨ ¬ (kt_cl s c = true ∧ c < 3000) then none else some (s.1, s.2.1, fun q => if q = 5000 + i.toNatClampNeg then c else if q = 5 then (if s.2.2 5 = i.toNatClampNeg then i.toNatClampNeg + 1 else s.2.2 5) else s.2.2 q)
section KT4
variable {α : Type} {X : Nat → Prop} {ad0 ad : Nat → Nat} {w : Nat → Value} {h0 h : ym_H} {s0 s : mt_S}
theorem kt_wf_mv (hB : kt_B X ad0 ad w h0 s0 h s) {key own : Nat} {w1 : Nat → Value} {s1 : mt_S} {eo eo1 : ym_E} {h1 : ym_H} (hnst : ¬ kt_st key) (hxo : kx ad w s own = some eo) (heo : (∀ fs, eo ≠ .inr (2, fs)) ∨ ∃ fs, eo1 = .inr (2, fs)) (r1 : h1.1 = h.1 + 1) (r4 : ∀ q, q ≠ h.1 → h1.2.2 q = h.2.2 q) (g3 : s1.2.2 3 = s.2.2 3) (g2 : s1.2.2 2 = s.2.2 2) (g5 : s1.2.2 5 = s.2.2 5) (gw : ∀ i, i < s.2.2 5 → s1.2.2 (5000 + i) = s.2.2 (5000 + i) ∧ w1 i = w i) (gn : ∀ j, j < s1.2.2 0 → (j < s.2.2 0 ∧ w1 j = w j) ∨ w1 j = .null) : kt_wf (fun q => if q = key then h.1 else ad q) w1 s1 (ym_set h1 (ad own) eo1) := by
  obtain ⟨f1, f2, f3, f4⟩ := hB.1.2.2
  have lo : ad own < h.1 := (hB.1.1 own eo hxo).2
  refine ⟨by rw [g3]; exact f1, by rw [g2]; exact f2, fun j hj => ?_, fun i hi => ?_⟩
  · rcases gn j hj with ⟨q1, q2⟩ | q
    · rw [q2]
      rcases f3 j q1 with q | ⟨a, fs, p1, p2, p3⟩
      · exact Or.inl q
      · have hkeep : h1.2.2 a = h.2.2 a := r4 a (by omega)
        by_cases z : a = ad own
        · rcases heo with y | ⟨fs1, y⟩
          · exact absurd z (kt_tag2 hB.1 hxo y p3)
          · refine Or.inr ⟨a, fs1, p1, by show a < h1.1; omega, ?_⟩
            show (if a = ad own then eo1 else h1.2.2 a) = _
            rw [if_pos z, y]
        · refine Or.inr ⟨a, fs, p1, by show a < h1.1; omega, ?_⟩
          show (if a = ad own then eo1 else h1.2.2 a) = _
          rw [if_neg z, hkeep]
          exact p3
    · exact Or.inl q
  · rw [g5] at hi
    obtain ⟨p1, p2⟩ := f4 i hi
    obtain ⟨p3, p4⟩ := gw i hi
    have hlt := kt_cl_lt hB p2
    rw [p3, p4]
    refine ⟨?_, ?_⟩
    · show w i = .ref (if 1000 + s.2.2 (5000 + i) = key then h.1 else ad (1000 + s.2.2 (5000 + i)))
      rw [if_neg (fun z => hnst (by rw [← z]; exact kt_st4 hlt))]
      exact p1
    · unfold kt_cl at p2 ⊢
      rw [g3, g2]
      exact p2
theorem kt_clE {s1 : mt_S} (h2 : s1.2.2 2 = s.2.2 2) (h3 : s1.2.2 3 = s.2.2 3) (c : Nat) : kt_cl s1 c = kt_cl s c := by unfold kt_cl; rw [h2, h3]
theorem kt_newrow {a k : Nat} {e0 e1 : ym_E} : (ym_set (ym_new h k e0) h.1 e1).1 = h.1 + 1 ∧ (ym_set (ym_new h k e0) h.1 e1).2.1 = h.2.1 + k ∧ (ym_set (ym_new h k e0) h.1 e1).2.2 h.1 = e1 ∧ ∀ q, q ≠ h.1 → (ym_set (ym_new h k e0) h.1 e1).2.2 q = h.2.2 q := by
  refine ⟨rfl, rfl, if_pos rfl, fun q hq => ?_⟩
  show (if q = h.1 then _ else if q = h.1 then _ else h.2.2 q) = _
  rw [if_neg hq, if_neg hq]
theorem kt_growV (hB : kt_B X ad0 ad w h0 s0 h s) {N c : Nat} {n : Int32} {f : ym_H → Option (α × ym_H)} {g : mt_S → Option (α × mt_S)} (kk : ∀ ad1 h1 s1, kt_B X ad0 ad1 w h0 s0 h1 s1 → kt_ok X ad0 h0 s0 (f h1) (g s1)) :
    kt_ok X ad0 h0 s0 (Option.bind (fn_J7_copyOf_c38d5 N (some (ad (4000 + c))) n h) fun q => Option.bind (ym_pf q.2 (some (ad0 (1000 + c))) 2 1 (va_rf q.1)) f) (Option.bind (gk_growV s c n) g) := by
  by_cases hc : kt_cl s c = true ∧ c < 3000 ∧ ¬ n < 0 ∧ s.2.2 (100 + c) < n.toNatClampNeg ∧ n.toNatClampNeg ≤ 67108864
  · rw [gk_growV, if_pos hc]
    obtain ⟨c1, c2, c3, c4, c5⟩ := hc
    obtain ⟨k, hk, rfl⟩ := nI_of c3
    have ck : (nI k).toNatClampNeg = k := nI_clamp hk
    rw [ck] at c4 c5 ⊢
    have hxv := kx_val (ad := ad) (w := w) (s := s) c1 c2
    have hxc := kx_cel (ad := ad) (w := w) (s := s) c1 c2
    obtain ⟨v1, v2⟩ := hB.1.1 _ _ hxv
    obtain ⟨v3, v4⟩ := hB.1.1 _ _ hxc
    have eo : ad0 (1000 + c) = ad (1000 + c) := (hB.2.2.2.2 _ (kt_st4 c2)).symm
    rw [cpL_eq v1 v2 c4 c5]
    obtain ⟨r1, r2, r3, r4⟩ := kt_newrow (h := h) (a := 0) (k := k) (e0 := .inl (1, k, fun _ => Value.long 0)) (e1 := .inl (1, k, fun j => if j < s.2.2 (100 + c) then .long (s.2.1 (100 + c) j) else .long 0))
    generalize ym_set (ym_new h k (.inl (1, k, fun _ => Value.long 0))) h.1 (.inl (1, k, fun j => if j < s.2.2 (100 + c) then .long (s.2.1 (100 + c) j) else .long 0)) = h1 at r1 r2 r3 r4 ⊢
    have e1 : ym_pf h1 (some (ad0 (1000 + c))) 2 1 (va_rf (some h.1)) = some (ym_set h1 (ad (1000 + c)) (.inr (2, [.ref (ad 1), .ref h.1]))) := by
      have e0 : ym_ob h1 (some (ad0 (1000 + c))) 2 = some [.ref (ad 1), .ref (ad (4000 + c))] := by
        rw [eo]
        simp [ym_ob, r4 (ad (1000 + c)) (by omega), v3]
      simp only [ym_pf, e0, Option.bind_some]
      rw [eo]
      rfl
    obtain ⟨s1, hs1, f1, fL, fLc, fN, fNc, fN1, fN4⟩ : ∃ s1 : mt_S, s1 = (s.1, fun r j => if r = 100 + c ∧ s.2.2 (100 + c) ≤ j then 0 else s.2.1 r j, fun q => if q = 100 + c then k else if q = 1 then s.2.2 1 + k else if q = 4 then s.2.2 4 + 1 else s.2.2 q) ∧ s1.1 = s.1 ∧ (∀ r, r ≠ 100 + c → s1.2.1 r = s.2.1 r) ∧ (∀ j, s1.2.1 (100 + c) j = if j < s.2.2 (100 + c) then s.2.1 (100 + c) j else 0) ∧ (∀ q, q ≠ 100 + c → q ≠ 1 → q ≠ 4 → s1.2.2 q = s.2.2 q) ∧ s1.2.2 (100 + c) = k ∧ s1.2.2 1 = s.2.2 1 + k ∧ s1.2.2 4 = s.2.2 4 + 1 := by
      refine ⟨_, rfl, rfl, fun r hr => funext fun j => if_neg (fun z => hr z.1), fun j => ?_, fun q q1 q2 q3 => ?_, if_pos rfl, ?_, ?_⟩
      · dsimp only
        by_cases z : j < s.2.2 (100 + c)
        · rw [if_neg (fun y => by omega), if_pos z]
        · rw [if_pos ⟨rfl, by omega⟩, if_neg z]
      · dsimp only
        rw [if_neg q1, if_neg q2, if_neg q3]
      · dsimp only
        rw [if_neg (by omega), if_pos rfl]
      · dsimp only
        rw [if_neg (by omega), if_neg (by decide), if_pos rfl]
    rw [← hs1]
    show kt_ok X ad0 h0 s0 (Option.bind (ym_pf h1 (some (ad0 (1000 + c))) 2 1 (va_rf (some h.1))) f) (g s1)
    rw [e1]
    have hn2 := fN 2 (by omega) (by decide) (by decide)
    have hn3 := fN 3 (by omega) (by decide) (by decide)
    have hcl1 : kt_cl s1 c = true := by rw [kt_clE hn2 hn3]; exact c1
    obtain ⟨ad1, had, a1, a2⟩ : ∃ ad1 : Nat → Nat, ad1 = (fun q => if q = 4000 + c then h.1 else ad q) ∧ (∀ q, q ≠ 4000 + c → ad1 q = ad q) ∧ ad1 (4000 + c) = h.1 := ⟨_, rfl, fun q hq => if_neg hq, if_pos rfl⟩
    have hagr : ∀ q, kt_st q → ad1 q = ad q := fun q hq => a1 q (fun z => by unfold kt_st at hq; omega)
    have ho : ∀ q, q ≠ 4000 + c → q ≠ 1000 + c → kx ad1 w s1 q = kx ad w s q := by
      intro q hq1 hq2
      exact kx_gen hB.1.2.2.2.1 hB.1.2.2.1 hagr f1 hn2 hn3 (fL 20 (by omega)) (fL 21 (by omega)) (fun _ => ⟨a1 8 (by omega), a1 9 (by omega), a1 10 (by omega)⟩) (fun _ => ⟨fN 0 (by omega) (by decide) (by decide), rfl⟩) (fun _ => fN 6 (by omega) (by decide) (by decide)) (fun _ => ⟨fN 7 (by omega) (by decide) (by decide), fL 22 (by omega)⟩) (fun z1 z2 => a1 _ (by omega)) (fun z1 z2 => ⟨fN _ (by omega) (by omega) (by omega), fL _ (by omega)⟩)
    have hx1 : kx ad1 w s1 (4000 + c) = some (.inl (1, k, fun j => if j < s.2.2 (100 + c) then .long (s.2.1 (100 + c) j) else .long 0)) := by
      rw [kx_val hcl1 c2, fNc]
      have ef : (fun j => Value.long (s1.2.1 (100 + c) j)) = fun j => if j < s.2.2 (100 + c) then .long (s.2.1 (100 + c) j) else .long 0 := by
        funext j
        rw [fLc j]
        by_cases z : j < s.2.2 (100 + c)
        · rw [if_pos z, if_pos z]
        · rw [if_neg z, if_neg z]
      rw [ef]
    have hxo1 : kx ad1 w s1 (1000 + c) = some (.inr (2, [.ref (ad 1), .ref h.1])) := by
      rw [kx_cel hcl1 c2, a1 1 (by omega), a2]
    rw [had] at hx1 hxo1 ho
    exact kk _ _ _ (kt_mv hB (key := 4000 + c) (own := 1000 + c) (n := k) (by omega) (by unfold kt_st; omega) hxv hxc hx1 hxo1 ho r1 r2 r3 r4 fN1 fN4 (kt_wf_mv hB (by unfold kt_st; omega) hxc (Or.inr ⟨_, rfl⟩) r1 r4 hn3 hn2 (fN 5 (by omega) (by decide) (by decide)) (fun i _ => ⟨fN _ (by omega) (by omega) (by omega), rfl⟩) (fun j hj => Or.inl ⟨by rw [fN 0 (by omega) (by decide) (by decide)] at hj; exact hj, rfl⟩)))
  · rw [gk_growV, if_neg hc]
    exact kt_no
theorem kt_growW (hB : kt_B X ad0 ad w h0 s0 h s) {N : Nat} {n : Int32} {f : ym_H → Option (α × ym_H)} {g : mt_S → Option (α × mt_S)} (kk : ∀ ad1 h1 s1, kt_B X ad0 ad1 w h0 s0 h1 s1 → kt_ok X ad0 h0 s0 (f h1) (g s1)) :
    kt_ok X ad0 h0 s0 (Option.bind (fn_J7_copyOf_59c91 N (some (ad 9)) n h) fun q => Option.bind (ym_pf q.2 (some (ad0 1)) 3 1 (va_rf q.1)) f) (Option.bind (gk_growW s n) g) := by
  by_cases hc : ¬ n < 0 ∧ s.2.2 6 < n.toNatClampNeg ∧ n.toNatClampNeg ≤ 67108864
  · rw [gk_growW, if_pos hc]
    obtain ⟨c3, c4, c5⟩ := hc
    obtain ⟨k, hk, rfl⟩ := nI_of c3
    have ck : (nI k).toNatClampNeg = k := nI_clamp hk
    rw [ck] at c4 c5 ⊢
    have hxv : kx ad w s 9 = some (.inl (0, s.2.2 6, fun j => .int (s.1 10 j))) := kx_lt (by decide)
    have hxc : kx ad w s 1 = some (.inr (3, [.ref (ad 8), .ref (ad 9), .ref (ad 10), .int (s.1 4 0), .ref (ad 11), .int (s.1 5 0)])) := kx_lt (by decide)
    obtain ⟨v1, v2⟩ := hB.1.1 _ _ hxv
    obtain ⟨v3, v4⟩ := hB.1.1 _ _ hxc
    have eo : ad0 1 = ad 1 := (hB.2.2.2.2 1 (Or.inl (by decide))).symm
    rw [cpI_eq v1 v2 c4 c5]
    obtain ⟨r1, r2, r3, r4⟩ := kt_newrow (h := h) (a := 0) (k := k) (e0 := .inl (0, k, fun _ => Value.int 0)) (e1 := .inl (0, k, fun j => if j < s.2.2 6 then .int (s.1 10 j) else .int 0))
    generalize ym_set (ym_new h k (.inl (0, k, fun _ => Value.int 0))) h.1 (.inl (0, k, fun j => if j < s.2.2 6 then .int (s.1 10 j) else .int 0)) = h1 at r1 r2 r3 r4 ⊢
    have e1 : ym_pf h1 (some (ad0 1)) 3 1 (va_rf (some h.1)) = some (ym_set h1 (ad 1) (.inr (3, [.ref (ad 8), .ref h.1, .ref (ad 10), .int (s.1 4 0), .ref (ad 11), .int (s.1 5 0)]))) := by
      have e0 : ym_ob h1 (some (ad0 1)) 3 = some [.ref (ad 8), .ref (ad 9), .ref (ad 10), .int (s.1 4 0), .ref (ad 11), .int (s.1 5 0)] := by
        rw [eo]
        simp [ym_ob, r4 (ad 1) (by omega), v3]
      simp only [ym_pf, e0, Option.bind_some]
      rw [eo]
      rfl
    obtain ⟨s1, hs1, f1, f1c, fL, fN, fNc, fN1, fN4⟩ : ∃ s1 : mt_S, s1 = (fun r j => if r = 10 ∧ s.2.2 6 ≤ j then 0 else s.1 r j, s.2.1, fun q => if q = 6 then k else if q = 1 then s.2.2 1 + k else if q = 4 then s.2.2 4 + 1 else s.2.2 q) ∧ (∀ r, r ≠ 10 → s1.1 r = s.1 r) ∧ (∀ j, s1.1 10 j = if j < s.2.2 6 then s.1 10 j else 0) ∧ s1.2.1 = s.2.1 ∧ (∀ q, q ≠ 6 → q ≠ 1 → q ≠ 4 → s1.2.2 q = s.2.2 q) ∧ s1.2.2 6 = k ∧ s1.2.2 1 = s.2.2 1 + k ∧ s1.2.2 4 = s.2.2 4 + 1 := by
      refine ⟨_, rfl, fun r hr => funext fun j => if_neg (fun z => hr z.1), fun j => ?_, rfl, fun q q1 q2 q3 => ?_, rfl, ?_, ?_⟩
      · dsimp only
        by_cases z : j < s.2.2 6
        · rw [if_neg (fun y => by omega), if_pos z]
        · rw [if_pos ⟨rfl, by omega⟩, if_neg z]
      · dsimp only
        rw [if_neg q1, if_neg q2, if_neg q3]
      · rfl
      · rfl
    rw [← hs1]
    show kt_ok X ad0 h0 s0 (Option.bind (ym_pf h1 (some (ad0 1)) 3 1 (va_rf (some h.1))) f) (g s1)
    rw [e1]
    have hn2 := fN 2 (by decide) (by decide) (by decide)
    have hn3 := fN 3 (by decide) (by decide) (by decide)
    obtain ⟨ad1, had, a1, a2⟩ : ∃ ad1 : Nat → Nat, ad1 = (fun q => if q = 9 then h.1 else ad q) ∧ (∀ q, q ≠ 9 → ad1 q = ad q) ∧ ad1 9 = h.1 := ⟨_, rfl, fun q hq => if_neg hq, if_pos rfl⟩
    have hagr : ∀ q, kt_st q → ad1 q = ad q := fun q hq => a1 q (fun z => by unfold kt_st at hq; omega)
    -- the ints are the same but for where's own row: by the rows that each key reads
    have ho : ∀ q, q ≠ 9 → q ≠ 1 → kx ad1 w s1 q = kx ad w s q := by
      intro q hq1 hq2
      have e2 : kx ad1 w s1 q = kx ad1 w (s.1, s1.2.1, s1.2.2) q := by
        have eL : ∀ l, kxL ad1 s1 l = kxL ad1 (s.1, s1.2.1, s1.2.2) l := fun l => by simp only [kxL, f1 8 (by decide)]
        have eB : ∀ l, kxB ad1 s1 l = kxB ad1 (s.1, s1.2.1, s1.2.2) l := fun l => by simp only [kxB, f1 9 (by decide)]
        have e0 : q < 12 → kx0 ad1 w s1 q = kx0 ad1 w (s.1, s1.2.1, s1.2.2) q := by
          intro hk
          have hc : q = 0 ∨ q = 2 ∨ q = 3 ∨ q = 4 ∨ q = 5 ∨ q = 6 ∨ q = 7 ∨ q = 8 ∨ q = 10 ∨ q = 11 := by omega
          rcases hc with rfl | rfl | rfl | rfl | rfl | rfl | rfl | rfl | rfl | rfl
          · simp only [kx0, f1 0 (by decide), f1 1 (by decide), f1 2 (by decide)]
          · simp only [kx0, f1 3 (by decide)]
          · rfl
          · rfl
          · rfl
          · rfl
          · simp only [kx0, f1 6 (by decide)]
          · rfl
          · rfl
          · simp only [kx0, f1 7 (by decide)]
        unfold kx
        by_cases hk : q < 12
        · rw [if_pos hk, if_pos hk, e0 hk]
        · rw [if_neg hk, if_neg hk, eL, eB]
          rfl
      rw [e2]
      exact kx_gen hB.1.2.2.2.1 hB.1.2.2.1 hagr rfl hn2 hn3 (by rw [fL]) (by rw [fL]) (fun z => absurd z hq2) (fun _ => ⟨fN 0 (by decide) (by decide) (by decide), rfl⟩) (fun z => absurd z hq1) (fun _ => ⟨fN 7 (by decide) (by decide) (by decide), by rw [fL]⟩) (fun z1 z2 => a1 _ (by omega)) (fun z1 z2 => ⟨fN _ (by omega) (by omega) (by omega), by rw [fL]⟩)
    have hx1 : kx ad1 w s1 9 = some (.inl (0, k, fun j => if j < s.2.2 6 then .int (s.1 10 j) else .int 0)) := by
      rw [kx_lt (by decide)]
      simp only [kx0, fNc]
      have ef : (fun j => Value.int (s1.1 10 j)) = fun j => if j < s.2.2 6 then .int (s.1 10 j) else .int 0 := by
        funext j
        rw [f1c j]
        by_cases z : j < s.2.2 6
        · rw [if_pos z, if_pos z]
        · rw [if_neg z, if_neg z]
      rw [ef]
    have hxo1 : kx ad1 w s1 1 = some (.inr (3, [.ref (ad 8), .ref h.1, .ref (ad 10), .int (s.1 4 0), .ref (ad 11), .int (s.1 5 0)])) := by
      rw [kx_lt (by decide)]
      simp only [kx0, a1 8 (by decide), a1 10 (by decide), a1 11 (by decide), a2, f1 4 (by decide), f1 5 (by decide)]
    rw [had] at hx1 hxo1 ho
    exact kk _ _ _ (kt_mv hB (key := 9) (own := 1) (n := k) (by decide) (by unfold kt_st; omega) hxv hxc hx1 hxo1 ho r1 r2 r3 r4 fN1 fN4 (kt_wf_mv hB (by unfold kt_st; omega) hxc (Or.inl (fun fs q => by cases q)) r1 r4 hn3 hn2 (fN 5 (by decide) (by decide) (by decide)) (fun i _ => ⟨fN _ (by omega) (by omega) (by omega), rfl⟩) (fun j hj => Or.inl ⟨by rw [fN 0 (by decide) (by decide) (by decide)] at hj; exact hj, rfl⟩)))
  · rw [gk_growW, if_neg hc]
    exact kt_no
theorem kt_growB (hB : kt_B X ad0 ad w h0 s0 h s) {N : Nat} {n : Int32} {f : ym_H → Option (α × ym_H)} {g : mt_S → Option (α × mt_S)} (kk : ∀ ad1 h1 s1, kt_B X ad0 ad1 w h0 s0 h1 s1 → kt_ok X ad0 h0 s0 (f h1) (g s1)) :
    kt_ok X ad0 h0 s0 (Option.bind (fn_J7_copyOf_c38d5 N (some (ad 10)) n h) fun q => Option.bind (ym_pf q.2 (some (ad0 1)) 3 2 (va_rf q.1)) f) (Option.bind (gk_growB s n) g) := by
  by_cases hc : ¬ n < 0 ∧ s.2.2 7 < n.toNatClampNeg ∧ n.toNatClampNeg ≤ 67108864
  · rw [gk_growB, if_pos hc]
    obtain ⟨c3, c4, c5⟩ := hc
    obtain ⟨k, hk, rfl⟩ := nI_of c3
    have ck : (nI k).toNatClampNeg = k := nI_clamp hk
    rw [ck] at c4 c5 ⊢
    have hxv : kx ad w s 10 = some (.inl (1, s.2.2 7, fun j => .long (s.2.1 22 j))) := kx_lt (by decide)
    have hxc : kx ad w s 1 = some (.inr (3, [.ref (ad 8), .ref (ad 9), .ref (ad 10), .int (s.1 4 0), .ref (ad 11), .int (s.1 5 0)])) := kx_lt (by decide)
    obtain ⟨v1, v2⟩ := hB.1.1 _ _ hxv
    obtain ⟨v3, v4⟩ := hB.1.1 _ _ hxc
    have eo : ad0 1 = ad 1 := (hB.2.2.2.2 1 (Or.inl (by decide))).symm
    rw [cpL_eq v1 v2 c4 c5]
    obtain ⟨r1, r2, r3, r4⟩ := kt_newrow (h := h) (a := 0) (k := k) (e0 := .inl (1, k, fun _ => Value.long 0)) (e1 := .inl (1, k, fun j => if j < s.2.2 7 then .long (s.2.1 22 j) else .long 0))
    generalize ym_set (ym_new h k (.inl (1, k, fun _ => Value.long 0))) h.1 (.inl (1, k, fun j => if j < s.2.2 7 then .long (s.2.1 22 j) else .long 0)) = h1 at r1 r2 r3 r4 ⊢
    have e1 : ym_pf h1 (some (ad0 1)) 3 2 (va_rf (some h.1)) = some (ym_set h1 (ad 1) (.inr (3, [.ref (ad 8), .ref (ad 9), .ref h.1, .int (s.1 4 0), .ref (ad 11), .int (s.1 5 0)]))) := by
      have e0 : ym_ob h1 (some (ad0 1)) 3 = some [.ref (ad 8), .ref (ad 9), .ref (ad 10), .int (s.1 4 0), .ref (ad 11), .int (s.1 5 0)] := by
        rw [eo]
        simp [ym_ob, r4 (ad 1) (by omega), v3]
      simp only [ym_pf, e0, Option.bind_some]
      rw [eo]
      rfl
    obtain ⟨s1, hs1, f1, fL, fLc, fN, fNc, fN1, fN4⟩ : ∃ s1 : mt_S, s1 = (s.1, fun r j => if r = 22 ∧ s.2.2 7 ≤ j then 0 else s.2.1 r j, fun q => if q = 7 then k else if q = 1 then s.2.2 1 + k else if q = 4 then s.2.2 4 + 1 else s.2.2 q) ∧ s1.1 = s.1 ∧ (∀ r, r ≠ 22 → s1.2.1 r = s.2.1 r) ∧ (∀ j, s1.2.1 22 j = if j < s.2.2 7 then s.2.1 22 j else 0) ∧ (∀ q, q ≠ 7 → q ≠ 1 → q ≠ 4 → s1.2.2 q = s.2.2 q) ∧ s1.2.2 7 = k ∧ s1.2.2 1 = s.2.2 1 + k ∧ s1.2.2 4 = s.2.2 4 + 1 := by
      refine ⟨_, rfl, rfl, fun r hr => funext fun j => if_neg (fun z => hr z.1), fun j => ?_, fun q q1 q2 q3 => ?_, rfl, ?_, ?_⟩
      · dsimp only
        by_cases z : j < s.2.2 7
        · rw [if_neg (fun y => by omega), if_pos z]
        · rw [if_pos ⟨rfl, by omega⟩, if_neg z]
      · dsimp only
        rw [if_neg q1, if_neg q2, if_neg q3]
      · rfl
      · rfl
    rw [← hs1]
    show kt_ok X ad0 h0 s0 (Option.bind (ym_pf h1 (some (ad0 1)) 3 2 (va_rf (some h.1))) f) (g s1)
    rw [e1]
    have hn2 := fN 2 (by decide) (by decide) (by decide)
    have hn3 := fN 3 (by decide) (by decide) (by decide)
    obtain ⟨ad1, had, a1, a2⟩ : ∃ ad1 : Nat → Nat, ad1 = (fun q => if q = 10 then h.1 else ad q) ∧ (∀ q, q ≠ 10 → ad1 q = ad q) ∧ ad1 10 = h.1 := ⟨_, rfl, fun q hq => if_neg hq, if_pos rfl⟩
    have hagr : ∀ q, kt_st q → ad1 q = ad q := fun q hq => a1 q (fun z => by unfold kt_st at hq; omega)
    have ho : ∀ q, q ≠ 10 → q ≠ 1 → kx ad1 w s1 q = kx ad w s q := by
      intro q hq1 hq2
      exact kx_gen hB.1.2.2.2.1 hB.1.2.2.1 hagr f1 hn2 hn3 (fL 20 (by decide)) (fL 21 (by decide)) (fun z => absurd z hq2) (fun _ => ⟨fN 0 (by decide) (by decide) (by decide), rfl⟩) (fun _ => fN 6 (by decide) (by decide) (by decide)) (fun z => absurd z hq1) (fun z1 z2 => a1 _ (by omega)) (fun z1 z2 => ⟨fN _ (by omega) (by omega) (by omega), fL _ (by omega)⟩)
    have hx1 : kx ad1 w s1 10 = some (.inl (1, k, fun j => if j < s.2.2 7 then .long (s.2.1 22 j) else .long 0)) := by
      rw [kx_lt (by decide)]
      simp only [kx0, fNc]
      have ef : (fun j => Value.long (s1.2.1 22 j)) = fun j => if j < s.2.2 7 then .long (s.2.1 22 j) else .long 0 := by
        funext j
        rw [fLc j]
        by_cases z : j < s.2.2 7
        · rw [if_pos z, if_pos z]
        · rw [if_neg z, if_neg z]
      rw [ef]
    have hxo1 : kx ad1 w s1 1 = some (.inr (3, [.ref (ad 8), .ref (ad 9), .ref h.1, .int (s.1 4 0), .ref (ad 11), .int (s.1 5 0)])) := by
      rw [kx_lt (by decide)]
      simp only [kx0, a1 8 (by decide), a1 9 (by decide), a1 11 (by decide), a2, f1]
    rw [had] at hx1 hxo1 ho
    exact kk _ _ _ (kt_mv hB (key := 10) (own := 1) (n := k) (by decide) (by unfold kt_st; omega) hxv hxc hx1 hxo1 ho r1 r2 r3 r4 fN1 fN4 (kt_wf_mv hB (by unfold kt_st; omega) hxc (Or.inl (fun fs q => by cases q)) r1 r4 hn3 hn2 (fN 5 (by decide) (by decide) (by decide)) (fun i _ => ⟨fN _ (by omega) (by omega) (by omega), rfl⟩) (fun j hj => Or.inl ⟨by rw [fN 0 (by decide) (by decide) (by decide)] at hj; exact hj, rfl⟩)))
  · rw [gk_growB, if_neg hc]
    exact kt_no
end KT4
