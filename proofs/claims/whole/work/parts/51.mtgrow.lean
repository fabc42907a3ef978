/-! rows that grow: the reference's 'longer' -/
theorem lg_I {N a b n m : Nat} {f : Nat → Int32} (hab : a ≠ b) (hn : n < 2 ^ 31) (hm : n ≤ m) : ∀ (fuel i : Nat) (h : ym_H) (g : Nat → Value), h.2.2 a = .inl (0, n, fun j => .int (f j)) → h.2.2 b = .inl (0, m, g) → i ≤ n → n < i + fuel → ∃ h1 : ym_H, lp_X8_longer_9 N fuel (some a) (some b) (nI i) h = some ((), h1) ∧ h1.1 = h.1 ∧ h1.2.1 = h.2.1 ∧ (∀ q, q ≠ b → h1.2.2 q = h.2.2 q) ∧ h1.2.2 b = .inl (0, m, fun j => if i ≤ j ∧ j < n then .int (f j) else g j) := by
  intro fuel
  induction fuel with
  | zero => intro i h g _ _ h1 h2; omega
  | succ fuel ih =>
    intro i h g ha hb hi hf
    have e1 : ym_len h (some a) = some (nI n) := by simp [ym_len, ym_ar, ha, nI]
    simp only [lp_X8_longer_9, lb_X8_longer_9, e1, Option.bind_some]
    by_cases hin : i = n
    · subst hin
      rw [if_pos (nI_le (Nat.le_refl _) hn)]
      refine ⟨h, rfl, rfl, rfl, fun _ _ => rfl, ?_⟩
      rw [hb]
      congr 3
      funext j
      rw [if_neg (by omega)]
    · have hlt : i < n := by omega
      have hc := nI_in hlt hn
      have hk : (nI i).toNatClampNeg = i := nI_clamp (by omega)
      rw [if_neg (nI_ge hlt hn)]
      have e2 : ym_ldI h (some a) (nI i) = some (f i) := by
        simp only [ym_ldI, ym_ld, ym_ar, ha, Option.bind_some]
        rw [if_pos ⟨Or.inl trivial, hc⟩, hk]
        rfl
      have hc2 : ¬ (nI i < 0 ∨ m ≤ (nI i).toNatClampNeg) := by
        rw [hk]
        intro q
        rcases q with q | q
        · exact hc (Or.inl q)
        · omega
      have e3 : ym_as h (some b) 0 (nI i) (.int (f i)) = some (ym_set h b (.inl (0, m, updV g i (.int (f i))))) := by
        simp only [ym_as, ym_ar, hb, Option.bind_some]
        rw [if_pos ⟨trivial, by decide, hc2⟩, hk]
        rfl
      simp only [e2, e3, Option.bind_some, nI_1]
      obtain ⟨h1, r1, r2, r3, r4, r5⟩ := ih (i + 1) (ym_set h b (.inl (0, m, updV g i (.int (f i))))) (updV g i (.int (f i))) (by show (if a = b then _ else h.2.2 a) = _; rw [if_neg hab]; exact ha) (if_pos rfl) (by omega) (by omega)
      refine ⟨h1, r1, r2, r3, fun q hq => ?_, ?_⟩
      · rw [r4 q hq]
        exact if_neg hq
      · rw [r5]
        congr 3
        funext j
        by_cases hj : j = i
        · subst hj
          rw [if_neg (by omega), if_pos (by omega)]
          simp [updV]
        · by_cases hj2 : i + 1 ≤ j ∧ j < n
          · rw [if_pos hj2, if_pos (by omega)]
          · rw [if_neg hj2, if_neg (by omega)]
            simp [updV, hj]
theorem lg_L {N a b n m : Nat} {f : Nat → Int64} (hab : a ≠ b) (hn : n < 2 ^ 31) (hm : n ≤ m) : ∀ (fuel i : Nat) (h : ym_H) (g : Nat → Value), h.2.2 a = .inl (1, n, fun j => .long (f j)) → h.2.2 b = .inl (1, m, g) → i ≤ n → n < i + fuel → ∃ h1 : ym_H, lp_X8_longer__9 N fuel (some a) (some b) (nI i) h = some ((), h1) ∧ h1.1 = h.1 ∧ h1.2.1 = h.2.1 ∧ (∀ q, q ≠ b → h1.2.2 q = h.2.2 q) ∧ h1.2.2 b = .inl (1, m, fun j => if i ≤ j ∧ j < n then .long (f j) else g j) := by
  intro fuel
  induction fuel with
  | zero => intro i h g _ _ h1 h2; omega
  | succ fuel ih =>
    intro i h g ha hb hi hf
    have e1 : ym_len h (some a) = some (nI n) := by simp [ym_len, ym_ar, ha, nI]
    simp only [lp_X8_longer__9, lb_X8_longer__9, e1, Option.bind_some]
    by_cases hin : i = n
    · subst hin
      rw [if_pos (nI_le (Nat.le_refl _) hn)]
      refine ⟨h, rfl, rfl, rfl, fun _ _ => rfl, ?_⟩
      rw [hb]
      congr 3
      funext j
      rw [if_neg (by omega)]
    · have hlt : i < n := by omega
      have hc := nI_in hlt hn
      have hk : (nI i).toNatClampNeg = i := nI_clamp (by omega)
      rw [if_neg (nI_ge hlt hn)]
      have e2 : ym_ldL h (some a) (nI i) = some (f i) := by
        simp only [ym_ldL, ym_ld, ym_ar, ha, Option.bind_some]
        rw [if_pos ⟨Or.inl trivial, hc⟩, hk]
        rfl
      have hc2 : ¬ (nI i < 0 ∨ m ≤ (nI i).toNatClampNeg) := by
        rw [hk]
        intro q
        rcases q with q | q
        · exact hc (Or.inl q)
        · omega
      have e3 : ym_as h (some b) 1 (nI i) (.long (f i)) = some (ym_set h b (.inl (1, m, updV g i (.long (f i))))) := by
        simp only [ym_as, ym_ar, hb, Option.bind_some]
        rw [if_pos ⟨trivial, by decide, hc2⟩, hk]
        rfl
      simp only [e2, e3, Option.bind_some, nI_1]
      obtain ⟨h1, r1, r2, r3, r4, r5⟩ := ih (i + 1) (ym_set h b (.inl (1, m, updV g i (.long (f i))))) (updV g i (.long (f i))) (by show (if a = b then _ else h.2.2 a) = _; rw [if_neg hab]; exact ha) (if_pos rfl) (by omega) (by omega)
      refine ⟨h1, r1, r2, r3, fun q hq => ?_, ?_⟩
      · rw [r4 q hq]
        exact if_neg hq
      · rw [r5]
        congr 3
        funext j
        by_cases hj : j = i
        · subst hj
          rw [if_neg (by omega), if_pos (by omega)]
          simp [updV]
        · by_cases hj2 : i + 1 ≤ j ∧ j < n
          · rw [if_pos hj2, if_pos (by omega)]
          · rw [if_neg hj2, if_neg (by omega)]
            simp [updV, hj]
theorem lg_2 {n : Nat} : (2 : Int32) * Int32.ofNat n = nI (2 * n) := by
  show nI 2 * nI n = _
  rw [pk_mul]
theorem lg_na {h : ym_H} {t n : Nat} {v : Value} (hn : n < 16777216) : ym_na h t v (nI (2 * n)) = some (ym_new h (2 * n) (.inl (t, 2 * n, fun _ => v))) := by
  have hk : (nI (2 * n)).toNatClampNeg = 2 * n := nI_clamp (by omega)
  have h0 : ¬ nI (2 * n) < 0 := nI_pos (by omega)
  unfold ym_na
  rw [hk, if_neg]
  rintro (q | q)
  · exact h0 q
  · omega
theorem lg_fnI {N a n : Nat} {f : Nat → Int32} {h : ym_H} (ha : h.2.2 a = .inl (0, n, fun j => .int (f j))) (hl : a < h.1) (hn : n < 16777216) (hN : n < N) : ∃ h1 : ym_H, fn_X8_longer N (some a) h = some (some h.1, h1) ∧ h1.1 = h.1 + 1 ∧ h1.2.1 = h.2.1 + 2 * n ∧ (∀ q, q ≠ h.1 → h1.2.2 q = h.2.2 q) ∧ h1.2.2 h.1 = .inl (0, 2 * n, fun j => if j < n then .int (f j) else .int 0) := by
  have e1 : ym_len h (some a) = some (Int32.ofNat n) := by simp [ym_len, ym_ar, ha]
  simp only [fn_X8_longer, e1, Option.bind_some, lg_2, lg_na hn]
  have hne : a ≠ h.1 := by omega
  obtain ⟨h1, r1, r2, r3, r4, r5⟩ := lg_I (N := N) (n := n) (f := f) (m := 2 * n) hne (by omega) (by omega) N 0 (ym_new h (2 * n) (.inl (0, 2 * n, fun _ => .int 0))) (fun _ => .int 0) (by show (if a = h.1 then _ else h.2.2 a) = _; rw [if_neg hne]; exact ha) (if_pos rfl) (Nat.zero_le _) (by omega)
  rw [nI_0] at r1
  rw [r1]
  refine ⟨h1, rfl, r2, r3, fun q hq => ?_, ?_⟩
  · rw [r4 q hq]
    exact if_neg hq
  · rw [r5]
    congr 3
    funext j
    simp
theorem lg_fnL {N a n : Nat} {f : Nat → Int64} {h : ym_H} (ha : h.2.2 a = .inl (1, n, fun j => .long (f j))) (hl : a < h.1) (hn : n < 16777216) (hN : n < N) : ∃ h1 : ym_H, fn_X8_longer_ N (some a) h = some (some h.1, h1) ∧ h1.1 = h.1 + 1 ∧ h1.2.1 = h.2.1 + 2 * n ∧ (∀ q, q ≠ h.1 → h1.2.2 q = h.2.2 q) ∧ h1.2.2 h.1 = .inl (1, 2 * n, fun j => if j < n then .long (f j) else .long 0) := by
  have e1 : ym_len h (some a) = some (Int32.ofNat n) := by simp [ym_len, ym_ar, ha]
  simp only [fn_X8_longer_, e1, Option.bind_some, lg_2, lg_na hn]
  have hne : a ≠ h.1 := by omega
  obtain ⟨h1, r1, r2, r3, r4, r5⟩ := lg_L (N := N) (n := n) (f := f) (m := 2 * n) hne (by omega) (by omega) N 0 (ym_new h (2 * n) (.inl (1, 2 * n, fun _ => .long 0))) (fun _ => .long 0) (by show (if a = h.1 then _ else h.2.2 a) = _; rw [if_neg hne]; exact ha) (if_pos rfl) (Nat.zero_le _) (by omega)
  rw [nI_0] at r1
  rw [r1]
  refine ⟨h1, rfl, r2, r3, fun q hq => ?_, ?_⟩
  · rw [r4 q hq]
    exact if_neg hq
  · rw [r5]
    congr 3
    funext j
    simp
def mt_gk (k : Nat) : Prop := k = 16 ∨ k = 17 ∨ k = 18 ∨ k = 42 ∨ k = 43 ∨ k = 44 ∨ k = 45 ∨ k = 46 ∨ k = 47 ∨ k = 48
theorem mt_P_grow {s : mt_S} {k : Nat} (hk : mt_gk k) : mt_P (gm_grow s k) = mt_P s + 2 * s.2.2 k := by
  unfold mt_gk at hk
  rcases hk with rfl | rfl | rfl | rfl | rfl | rfl | rfl | rfl | rfl | rfl <;> simp only [mt_P, gm_grow] <;> simp <;> omega
theorem mt_grown {M : Nat} {X : Nat → Prop} {ad : Nat → Nat} {h0 h h1 : ym_H} {s0 s : mt_S} (hB : mt_B M X ad h0 s0 h s) {k : Nat} (hk : k < 58) (ht : mt_tag k = 0 ∨ mt_tag k = 1) (hg : mt_gk k) (hpos : 1 ≤ s.2.2 k) (r2 : h1.1 = h.1 + 1) (r3 : h1.2.1 = h.2.1 + 2 * s.2.2 k) (r4 : ∀ q, q ≠ h.1 → h1.2.2 q = h.2.2 q) (r5 : h1.2.2 h.1 = .inl (mt_tag k, 2 * s.2.2 k, mt_v (gm_grow s k) k)) :
    ym_pf h1 (some M) 8 k (va_rf (some h.1)) = some (ym_set h1 M (.inr (8, mt_fs (fun j => if j = k then h.1 else ad j) (gm_grow s k)))) ∧ mt_B M X (fun j => if j = k then h.1 else ad j) h0 s0 (ym_set h1 M (.inr (8, mt_fs (fun j => if j = k then h.1 else ad j) (gm_grow s k)))) (gm_grow s k) := by
  have t1 : mt_tag k ≠ 100 := by rcases ht with q | q <;> rw [q] <;> decide
  obtain ⟨⟨m1, m2, m3, m4, m5⟩, b2, b3, b4⟩ := hB
  have hM1 : M ≠ h.1 := by omega
  have hfs : (mt_fs ad s).set k (va_rf (some h.1)) = mt_fs (fun j => if j = k then h.1 else ad j) (gm_grow s k) := by
    refine mt_fs_set hk ?_ ?_
    · simp [mt_f, t1, va_rf]
    · intro j hj hne
      by_cases q : mt_tag j = 100
      · simp [mt_f, q, gm_grow, hne]
      · simp [mt_f, q, hne]
  refine ⟨?_, ⟨if_pos rfl, fun j hj hjt => ?_, ?_, ?_, ?_⟩, ?_, ?_, ?_⟩
  · have e : ym_ob h1 (some M) 8 = some (mt_fs ad s) := by simp [ym_ob, r4 M hM1, m1]
    simp only [ym_pf, e, Option.bind_some, mt_fs_len, if_pos hk, hfs, Option.map_some]
  · show (if (if j = k then h.1 else ad j) = M then _ else h1.2.2 (if j = k then h.1 else ad j)) = _
    by_cases q : j = k
    · subst q
      rw [if_pos rfl, if_neg (fun z => hM1 z.symm), r5]
      simp [gm_grow]
    · rw [if_neg q, if_neg (m4 j hj hjt).1, r4 (ad j) (by have := (m4 j hj hjt).2; omega), m2 j hj hjt]
      have hv : mt_v (gm_grow s k) j = mt_v s j := by
        funext i
        simp [mt_v, gm_grow, q]
      rw [hv]
      simp [gm_grow, q]
  · intro j j' hj hj' hjt hjt' hjj
    have l1 := (m4 j hj hjt).2
    have l2 := (m4 j' hj' hjt').2
    by_cases q : j = k <;> by_cases q' : j' = k
    · rw [q, q']
    · simp only [if_pos q, if_neg q'] at hjj; omega
    · simp only [if_neg q, if_pos q'] at hjj; omega
    · simp only [if_neg q, if_neg q'] at hjj
      exact m3 j j' hj hj' hjt hjt' hjj
  · intro j hj hjt
    show (if j = k then h.1 else ad j) ≠ M ∧ (if j = k then h.1 else ad j) < h1.1
    by_cases q : j = k
    · rw [if_pos q]; exact ⟨fun z => hM1 z.symm, by omega⟩
    · rw [if_neg q]; exact ⟨(m4 j hj hjt).1, by have := (m4 j hj hjt).2; omega⟩
  · show M < h1.1
    omega
  · intro a ha
    obtain ⟨c1, c2, c3⟩ := b2 a ha
    refine ⟨by show a < h1.1; omega, c2, fun j hj hjt => ?_⟩
    show a ≠ (if j = k then h.1 else ad j)
    by_cases q : j = k
    · rw [if_pos q]; omega
    · rw [if_neg q]; exact c3 j hj hjt
  · intro a ha
    obtain ⟨c1, c2, c3⟩ := b2 a ha
    show (if a = M then _ else h1.2.2 a) = _
    rw [if_neg c2, r4 a (by omega)]
    exact b3 a ha
  · have hP := mt_P_grow (s := s) hg
    unfold mt_A at b4 ⊢
    show h0.1 ≤ h1.1 ∧ h0.2.1 ≤ h1.2.1 ∧ h1.2.1 + _ ≤ _ ∧ h1.1 + _ ≤ _
    omega
theorem mt_grI {α : Type} {M N : Nat} {X : Nat → Prop} {ad : Nat → Nat} {h0 h : ym_H} {s0 s : mt_S} (hB : mt_B M X ad h0 s0 h s) (k : Nat) (hk : k < 58) (ht : mt_tag k = 0) (hg : mt_gk k) {f : ym_H → Option (α × ym_H)} {g : mt_S → Option (α × mt_S)} (kk : ∀ ad1 h1 s1, mt_B M X ad1 h0 s0 h1 s1 → mt_ok M X h0 s0 (f h1) (g s1)) :
    mt_ok M X h0 s0 (Option.bind (ym_gR h (some M) 8 k) fun v => Option.bind (fn_X8_longer N v h) fun q => Option.bind (ym_pf q.2 (some M) 8 k (va_rf q.1)) f) (Option.bind (gm_gr N s k) g) := by
  have t1 : mt_tag k ≠ 100 := by rw [ht]; decide
  refine mt_gR hB k hk t1 ?_
  by_cases hc : s.2.2 k < N ∧ s.2.2 k < 16777216 ∧ 1 ≤ s.2.2 k
  · rw [gm_gr, if_pos hc]
    have ha : h.2.2 (ad k) = .inl (0, s.2.2 k, fun j => .int (s.1 k j)) := by
      rw [hB.1.2.1 k hk t1, ht]
      congr 3
      funext j
      simp [mt_v, ht]
    obtain ⟨h1, r1, r2, r3, r4, r5⟩ := lg_fnI (N := N) ha (hB.1.2.2.2.1 k hk t1).2 hc.2.1 hc.1
    rw [r1]
    obtain ⟨g1, g2⟩ := mt_grown hB hk (Or.inl ht) hg hc.2.2 r2 r3 r4 (by
      rw [r5, ht]
      congr 3
      funext j
      by_cases q : j < s.2.2 k
      · simp [mt_v, ht, gm_grow, q, Nat.not_le.mpr q]
      · simp [mt_v, ht, gm_grow, q, Nat.not_lt.mp q])
    show mt_ok M X h0 s0 (Option.bind (ym_pf h1 (some M) 8 k (va_rf (some h.1))) f) (g _)
    rw [g1]
    exact kk _ _ _ g2
  · rw [gm_gr, if_neg hc]
    exact mt_no
theorem mt_grL {α : Type} {M N : Nat} {X : Nat → Prop} {ad : Nat → Nat} {h0 h : ym_H} {s0 s : mt_S} (hB : mt_B M X ad h0 s0 h s) (k : Nat) (hk : k < 58) (ht : mt_tag k = 1) (hg : mt_gk k) {f : ym_H → Option (α × ym_H)} {g : mt_S → Option (α × mt_S)} (kk : ∀ ad1 h1 s1, mt_B M X ad1 h0 s0 h1 s1 → mt_ok M X h0 s0 (f h1) (g s1)) :
    mt_ok M X h0 s0 (Option.bind (ym_gR h (some M) 8 k) fun v => Option.bind (fn_X8_longer_ N v h) fun q => Option.bind (ym_pf q.2 (some M) 8 k (va_rf q.1)) f) (Option.bind (gm_gr N s k) g) := by
  have t1 : mt_tag k ≠ 100 := by rw [ht]; decide
  refine mt_gR hB k hk t1 ?_
  by_cases hc : s.2.2 k < N ∧ s.2.2 k < 16777216 ∧ 1 ≤ s.2.2 k
  · rw [gm_gr, if_pos hc]
    have ha : h.2.2 (ad k) = .inl (1, s.2.2 k, fun j => .long (s.2.1 k j)) := by
      rw [hB.1.2.1 k hk t1, ht]
      congr 3
      funext j
      simp [mt_v, ht]
    obtain ⟨h1, r1, r2, r3, r4, r5⟩ := lg_fnL (N := N) ha (hB.1.2.2.2.1 k hk t1).2 hc.2.1 hc.1
    rw [r1]
    obtain ⟨g1, g2⟩ := mt_grown hB hk (Or.inr ht) hg hc.2.2 r2 r3 r4 (by
      rw [r5, ht]
      congr 3
      funext j
      by_cases q : j < s.2.2 k
      · simp [mt_v, ht, gm_grow, q, Nat.not_le.mpr q]
      · simp [mt_v, ht, gm_grow, q, Nat.not_lt.mp q])
    show mt_ok M X h0 s0 (Option.bind (ym_pf h1 (some M) 8 k (va_rf (some h.1))) f) (g _)
    rw [g1]
    exact kk _ _ _ g2
  · rw [gm_gr, if_neg hc]
    exact mt_no
