/-! the class's cells: rows that grow, notes that are made -/
theorem cp_eq {h : ym_H} {t a b n m k : Nat} {f g : Nat → Value} (ha : h.2.2 a = .inl (t, n, f)) (hb : h.2.2 b = .inl (t, m, g)) (hk : k < 2 ^ 31) (h1 : k ≤ n) (h2 : k ≤ m) (hf : ∀ i, i < k → ym_fb h t (f i) = true) : ym_cp h t (some a) 0 (some b) 0 (nI k) = some (ym_set h b (.inl (t, m, fun j => if j < k then f j else g j))) := by
  have c0 : (0 : Int32).toNatClampNeg = 0 := by decide
  have ck : (nI k).toNatClampNeg = k := nI_clamp hk
  have e1 : ym_ar h (some a) = some (t, n, f) := by simp [ym_ar, ha]
  have e2 : ym_ar h (some b) = some (t, m, g) := by simp [ym_ar, hb]
  simp only [ym_cp, e1, e2, Option.bind_some, c0, ck, Nat.zero_add]
  have hall : (List.range k).all (fun i => ym_fb h t (f i)) = true := List.all_eq_true.mpr fun i hi => hf i (List.mem_range.mp hi)
  rw [if_pos ⟨trivial, trivial, by decide, by decide, nI_pos hk, h1, h2, hall⟩]
  have ef : va_cpy f g 0 0 k = fun j => if j < k then f j else g j := by
    funext j
    simp [va_cpy]
  rw [ef]
  rfl
theorem na_eq {h : ym_H} {t n : Nat} {v : Value} (hn : n ≤ 67108864) : ym_na h t v (nI n) = some (ym_new h n (.inl (t, n, fun _ => v))) := by
  have hk : (nI n).toNatClampNeg = n := nI_clamp (by omega)
  unfold ym_na
  rw [hk, if_neg]
  rintro (q | q)
  · exact nI_pos (by omega) q
  · omega
theorem cpL_eq {h : ym_H} {N a n k : Nat} {f : Nat → Int64} (ha : h.2.2 a = .inl (1, n, fun j => .long (f j))) (hl : a < h.1) (hnk : n < k) (hk : k ≤ 67108864) : fn_J7_copyOf_c38d5 N (some a) (nI k) h = some (some h.1, ym_set (ym_new h k (.inl (1, k, fun _ => .long 0))) h.1 (.inl (1, k, fun j => if j < n then .long (f j) else .long 0))) := by
  have hne : a ≠ h.1 := by omega
  have e1 : ym_len h (some a) = some (nI n) := by simp [ym_len, ym_ar, ha, nI]
  have ha2 : (ym_new h k (.inl (1, k, fun _ => Value.long 0))).2.2 a = .inl (1, n, fun j => .long (f j)) := by
    show (if a = h.1 then _ else h.2.2 a) = _
    rw [if_neg hne]
    exact ha
  have e2 : ym_len (ym_new h k (.inl (1, k, fun _ => Value.long 0))) (some a) = some (nI n) := by simp [ym_len, ym_ar, ha2, nI]
  have c1 : ¬ nI k = nI n := fun q => by
    have := (nI_eq (by omega) (by omega)).mp q
    omega
  have c2 : ¬ nI k < nI n := nI_nlt (by omega) (by omega)
  simp only [fn_J7_copyOf_c38d5, e1, Option.bind_some, if_neg c1, na_eq hk, e2, if_neg c2]
  rw [cp_eq ha2 (if_pos rfl) (by omega) (Nat.le_refl _) (by omega) (fun i _ => rfl)]
  rfl
theorem cpI_eq {h : ym_H} {N a n k : Nat} {f : Nat → Int32} (ha : h.2.2 a = .inl (0, n, fun j => .int (f j))) (hl : a < h.1) (hnk : n < k) (hk : k ≤ 67108864) : fn_J7_copyOf_59c91 N (some a) (nI k) h = some (some h.1, ym_set (ym_new h k (.inl (0, k, fun _ => .int 0))) h.1 (.inl (0, k, fun j => if j < n then .int (f j) else .int 0))) := by
  have hne : a ≠ h.1 := by omega
  have e1 : ym_len h (some a) = some (nI n) := by simp [ym_len, ym_ar, ha, nI]
  have ha2 : (ym_new h k (.inl (0, k, fun _ => Value.int 0))).2.2 a = .inl (0, n, fun j => .int (f j)) := by
    show (if a = h.1 then _ else h.2.2 a) = _
    rw [if_neg hne]
    exact ha
  have e2 : ym_len (ym_new h k (.inl (0, k, fun _ => Value.int 0))) (some a) = some (nI n) := by simp [ym_len, ym_ar, ha2, nI]
  have c1 : ¬ nI k = nI n := fun q => by
    have := (nI_eq (by omega) (by omega)).mp q
    omega
  have c2 : ¬ nI k < nI n := nI_nlt (by omega) (by omega)
  simp only [fn_J7_copyOf_59c91, e1, Option.bind_some, if_neg c1, na_eq hk, e2, if_neg c2]
  rw [cp_eq ha2 (if_pos rfl) (by omega) (Nat.le_refl _) (by omega) (fun i _ => rfl)]
  rfl
theorem kx_gen {ad ad1 : Nat → Nat} {w w1 : Nat → Value} {s s1 : mt_S} {key : Nat} (hb2 : s.2.2 2 ≤ 400) (hb3 : s.2.2 3 ≤ 200) (hst : ∀ q, kt_st q → ad1 q = ad q) (h1 : s1.1 = s.1) (hN2 : s1.2.2 2 = s.2.2 2) (hN3 : s1.2.2 3 = s.2.2 3) (h20 : s1.2.1 20 = s.2.1 20) (h21 : s1.2.1 21 = s.2.1 21) (k1 : key = 1 → ad1 8 = ad 8 ∧ ad1 9 = ad 9 ∧ ad1 10 = ad 10) (k8 : key = 8 → s1.2.2 0 = s.2.2 0 ∧ w1 = w) (k9 : key = 9 → s1.2.2 6 = s.2.2 6) (k10 : key = 10 → s1.2.2 7 = s.2.2 7 ∧ s1.2.1 22 = s.2.1 22) (kc : 1000 ≤ key → key < 4000 → ad1 (4000 + (key - 1000)) = ad (4000 + (key - 1000))) (kv : 4000 ≤ key → key < 7000 → s1.2.2 (100 + (key - 4000)) = s.2.2 (100 + (key - 4000)) ∧ s1.2.1 (100 + (key - 4000)) = s.2.1 (100 + (key - 4000))) : kx ad1 w1 s1 key = kx ad w s key := by
  have a1 : ad1 1 = ad 1 := hst 1 (Or.inl (by decide))
  have a2 : ad1 2 = ad 2 := hst 2 (Or.inl (by decide))
  have a3 : ad1 (2 + 1) = ad (2 + 1) := hst (2 + 1) (Or.inl (by decide))
  have a4 : ad1 (2 + 2) = ad (2 + 2) := hst (2 + 2) (Or.inl (by decide))
  have a5 : ad1 5 = ad 5 := hst 5 (Or.inl (by decide))
  have a6 : ad1 6 = ad 6 := hst 6 (Or.inl (by decide))
  have a7 : ad1 7 = ad 7 := hst 7 (Or.inl (by decide))
  have a11 : ad1 11 = ad 11 := hst 11 (Or.inr (Or.inl rfl))
  have ac : ∀ c, c < 3000 → ad1 (1000 + c) = ad (1000 + c) := fun c hc => hst _ (kt_st4 hc)
  have as_ : ∀ c, ad1 (7000 + c) = ad (7000 + c) := fun c => hst _ kt_st7
  have al : ∀ c, ad1 (10000 + c) = ad (10000 + c) := fun c => hst _ kt_stL
  have ab : ∀ c, ad1 (11000 + c) = ad (11000 + c) := fun c => hst _ kt_stB
  have eC : ∀ c, kt_cl s1 c = kt_cl s c := fun c => by unfold kt_cl; rw [hN2, hN3]
  have eS : ∀ c, kt_sh s1 c = kt_sh s c := fun c => by unfold kt_sh; rw [hN2]
  unfold kx
  by_cases hk : key < 12
  · rw [if_pos hk, if_pos hk]
    have hc : key = 0 ∨ key = 1 ∨ key = 2 ∨ key = 3 ∨ key = 4 ∨ key = 5 ∨ key = 6 ∨ key = 7 ∨ key = 8 ∨ key = 9 ∨ key = 10 ∨ key = 11 := by omega
    rcases hc with rfl | rfl | rfl | rfl | rfl | rfl | rfl | rfl | rfl | rfl | rfl | rfl
    · simp only [kx0, h1, a1, a2, a3, a4, a5, a6, ac 0 (by decide)]
    · obtain ⟨q1, q2, q3⟩ := k1 rfl
      simp only [kx0, h1, q1, q2, q3, a11]
    · simp only [kx0, h1, a3, a7]
    · simp only [kx0, as_]
    · simp only [kx0, as_]
    · simp only [kx0, hN3, ab]
    · simp only [kx0, hN2, al]
    · simp only [kx0, h1]
    · obtain ⟨q1, q2⟩ := k8 rfl
      simp only [kx0, q1, q2]
    · simp only [kx0, h1, k9 rfl]
    · obtain ⟨q1, q2⟩ := k10 rfl
      simp only [kx0, q1, q2]
    · simp only [kx0, h1]
  · rw [if_neg hk, if_neg hk]
    by_cases z1 : key < 1000
    · rw [if_pos z1, if_pos z1]
    · rw [if_neg z1, if_neg z1]
      by_cases z2 : key < 4000
      · rw [if_pos z2, if_pos z2, eC, a1, kc (by omega) z2]
      · rw [if_neg z2, if_neg z2]
        by_cases z3 : key < 7000
        · obtain ⟨q1, q2⟩ := kv (by omega) z3
          rw [if_pos z3, if_pos z3, eC, q1, q2]
        · rw [if_neg z3, if_neg z3]
          by_cases z4 : key < 10000
          · rw [if_pos z4, if_pos z4, eS, ac (key - 7000) (by omega)]
          · rw [if_neg z4, if_neg z4]
            by_cases z5 : key < 11000
            · rw [if_pos z5, if_pos z5, hN2]
              by_cases z6 : key - 10000 < s.2.2 2
              · rw [if_pos z6, if_pos z6]
                simp only [kxL, h1, h20, as_]
                rw [hst (1000 + (203 + 4 * (key - 10000))) (by unfold kt_st; omega)]
              · rw [if_neg z6, if_neg z6]
            · rw [if_neg z5, if_neg z5, hN3]
              by_cases z6 : key - 11000 < s.2.2 3
              · rw [if_pos z6, if_pos z6]
                simp only [kxB, h1, h21]
                rw [hst (1000 + (3 + (key - 11000))) (by unfold kt_st; omega)]
              · rw [if_neg z6, if_neg z6]
section KT3
variable {α : Type} {X : Nat → Prop} {ad0 ad : Nat → Nat} {w : Nat → Value} {h0 h : ym_H} {s0 s : mt_S}
/-- one row moves to a new place at the heap's end, its owner is written -/
theorem kt_mv (hB : kt_B X ad0 ad w h0 s0 h s) {key own n : Nat} {w1 : Nat → Value} {s1 : mt_S} {e e1 eo eo1 : ym_E} {h1 : ym_H} (hne : own ≠ key) (hnst : ¬ kt_st key) (hx : kx ad w s key = some e) (hxo : kx ad w s own = some eo)
    (hx1 : kx (fun q => if q = key then h.1 else ad q) w1 s1 key = some e1) (hxo1 : kx (fun q => if q = key then h.1 else ad q) w1 s1 own = some eo1) (ho : ∀ k, k ≠ key → k ≠ own → kx (fun q => if q = key then h.1 else ad q) w1 s1 k = kx ad w s k)
    (r1 : h1.1 = h.1 + 1) (r2 : h1.2.1 = h.2.1 + n) (r3 : h1.2.2 h.1 = e1) (r4 : ∀ q, q ≠ h.1 → h1.2.2 q = h.2.2 q) (hc1 : s1.2.2 1 = s.2.2 1 + n) (hc4 : s1.2.2 4 = s.2.2 4 + 1) (hwf : kt_wf (fun q => if q = key then h.1 else ad q) w1 s1 (ym_set h1 (ad own) eo1)) : kt_B X ad0 (fun q => if q = key then h.1 else ad q) w1 h0 s0 (ym_set h1 (ad own) eo1) s1 := by
  obtain ⟨⟨i1, i2, i3⟩, b2, b3, b4, b5⟩ := hB
  have hlt : ∀ k, kx ad w s k ≠ none → ad k < h.1 := by
    intro k hk
    cases hq : kx ad w s k with
    | none => exact absurd hq hk
    | some e' => exact (i1 k e' hq).2
  have lo : ad own < h.1 := hlt own (by rw [hxo]; exact Option.some_ne_none _)
  have hnn : ∀ k, kx (fun q => if q = key then h.1 else ad q) w1 s1 k ≠ none → kx ad w s k ≠ none := by
    intro k hk
    by_cases q : k = key
    · rw [q, hx]; exact Option.some_ne_none _
    · by_cases q2 : k = own
      · rw [q2, hxo]; exact Option.some_ne_none _
      · rw [← ho k q q2]; exact hk
  refine ⟨⟨fun k e' hk => ?_, fun k1 k2 g1 g2 g3 => ?_, hwf⟩, fun a ha => ⟨?_, fun k hk => ?_⟩, fun a ha => ?_, ?_, fun q hq => ?_⟩
  · by_cases q : k = key
    · subst q
      rw [hx1] at hk
      cases hk
      show (if (if k = k then h.1 else ad k) = ad own then eo1 else h1.2.2 (if k = k then h.1 else ad k)) = _ ∧ (if k = k then h.1 else ad k) < h1.1
      rw [if_pos rfl, if_neg (by omega), r3]
      exact ⟨rfl, by omega⟩
    · show (if (if k = key then h.1 else ad k) = ad own then eo1 else h1.2.2 (if k = key then h.1 else ad k)) = _ ∧ (if k = key then h.1 else ad k) < h1.1
      rw [if_neg q]
      by_cases q2 : k = own
      · subst q2
        rw [hxo1] at hk
        cases hk
        rw [if_pos rfl]
        exact ⟨rfl, by omega⟩
      · rw [ho k q q2] at hk
        obtain ⟨c1, c2⟩ := i1 k e' hk
        rw [if_neg (fun z => q2 (i2 k own (by rw [hk]; exact Option.some_ne_none _) (by rw [hxo]; exact Option.some_ne_none _) z)), r4 (ad k) (by omega)]
        exact ⟨c1, by omega⟩
  · have l1 := hlt k1 (hnn k1 g1)
    have l2 := hlt k2 (hnn k2 g2)
    dsimp only at g3
    by_cases q1 : k1 = key <;> by_cases q2 : k2 = key
    · rw [q1, q2]
    · rw [if_pos q1, if_neg q2] at g3; omega
    · rw [if_neg q1, if_pos q2] at g3; omega
    · rw [if_neg q1, if_neg q2] at g3
      exact i2 k1 k2 (hnn k1 g1) (hnn k2 g2) g3
  · have := (b2 a ha).1
    show a < h1.1
    omega
  · have l := (b2 a ha).1
    show a ≠ (if k = key then h.1 else ad k)
    by_cases q : k = key
    · rw [if_pos q]; omega
    · rw [if_neg q]; exact (b2 a ha).2 k (hnn k hk)
  · have l := (b2 a ha).1
    show (if a = ad own then eo1 else h1.2.2 a) = _
    rw [if_neg ((b2 a ha).2 own (by rw [hxo]; exact Option.some_ne_none _)), r4 a (by omega)]
    exact b3 a ha
  · unfold kt_A at b4 ⊢
    show h0.1 ≤ h1.1 ∧ h0.2.1 ≤ h1.2.1 ∧ h1.2.1 + _ = _ ∧ h1.1 + _ = _
    omega
  · show (if q = key then h.1 else ad q) = _
    rw [if_neg (fun z : q = key => hnst (by rw [← z]; exact hq))]
    exact b5 q hq
end KT3
