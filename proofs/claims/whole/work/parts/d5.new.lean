/-! new things of the class, made at the heap's end -/
def fK : List Nat → Nat → Option Nat
  | [], _ => none
  | a :: K, q => if q = a then some 0 else (fK K q).map (fun i => i + 1)
def nK : List Nat → Nat → Prop
  | [], _ => True
  | a :: K, q => q ≠ a ∧ nK K q
theorem fK_s : ∀ {K : List Nat} {q i : Nat}, fK K q = some i → K[i]? = some q := by
  intro K
  induction K with
  | nil => intro q i h; cases h
  | cons a K ih =>
    intro q i h
    unfold fK at h
    by_cases c : q = a
    · rw [if_pos c] at h
      injection h with h
      rw [← h, c]
      rfl
    · rw [if_neg c] at h
      cases hq : fK K q with
      | none => rw [hq] at h; cases h
      | some j =>
        rw [hq] at h
        injection h with h
        rw [← h]
        exact ih hq
theorem fK_n : ∀ {K : List Nat} {q : Nat}, nK K q → fK K q = none := by
  intro K
  induction K with
  | nil => intro q _; rfl
  | cons a K ih =>
    intro q h
    unfold fK
    rw [if_neg h.1, ih h.2]
    rfl
theorem fK_m : ∀ {K : List Nat} {q : Nat}, fK K q = none → nK K q := by
  intro K
  induction K with
  | nil => intro q _; trivial
  | cons a K ih =>
    intro q h
    unfold fK at h
    by_cases c : q = a
    · rw [if_pos c] at h; cases h
    · rw [if_neg c] at h
      cases hq : fK K q with
      | none => exact ⟨c, ih hq⟩
      | some j => rw [hq] at h; cases h
def nad (K : List Nat) (ad : Nat → Nat) (h : ym_H) (q : Nat) : Nat := match fK K q with
  | some i => h.1 + i
  | none => ad q
theorem nad_s {K : List Nat} {ad : Nat → Nat} {h : ym_H} {q i : Nat} (hq : fK K q = some i) : nad K ad h q = h.1 + i := by unfold nad; rw [hq]
theorem nad_n {K : List Nat} {ad : Nat → Nat} {h : ym_H} {q : Nat} (hq : nK K q) : nad K ad h q = ad q := by unfold nad; rw [fK_n hq]
section NW
variable {ad ad1 : Nat → Nat} {w : Nat → Value} {s s1 : mt_S} {h : ym_H} {K : List Nat} {m c own : Nat} {E : List ym_E} {eo eo1 : ym_E}
theorem kt_new (hI : kt_I ad w s h) (hm : E.length = m) (hn : K.map (kx (nad K ad h) w s1) = E.map some) (fo : nK K own) (hxo : kx ad w s own = some eo) (hxo1 : kx (nad K ad h) w s1 own = some eo1) (hold : ∀ q, nK K q → q ≠ own → kx (nad K ad h) w s1 q = kx ad w s q) (hwf : kt_wf (nad K ad h) w s1 (ym_set (ext h m E c) (ad own) eo1)) :
    kt_I (nad K ad h) w s1 (ym_set (ext h m E c) (ad own) eo1) ∧ ∀ a, a < h.1 → (∀ key, kx ad w s key ≠ none → a ≠ ad key) → (ym_set (ext h m E c) (ad own) eo1).2.2 a = h.2.2 a ∧ ∀ key, kx (nad K ad h) w s1 key ≠ none → a ≠ nad K ad h key := by
  obtain ⟨i1, i2, i3⟩ := hI
  have lo : ad own < h.1 := (i1 own eo hxo).2
  have new : ∀ q i, fK K q = some i → i < m ∧ kx (nad K ad h) w s1 q = E[i]? := by
    intro q i hq
    have k1 := fK_s hq
    have k2 : (K.map (kx (nad K ad h) w s1))[i]? = some (kx (nad K ad h) w s1 q) := by rw [List.getElem?_map, k1]; rfl
    rw [hn, List.getElem?_map] at k2
    cases he : E[i]? with
    | none => rw [he] at k2; cases k2
    | some e =>
      rw [he] at k2
      injection k2 with k2
      refine ⟨?_, k2.symm⟩
      rcases Nat.lt_or_ge i m with z | z
      · exact z
      · rw [List.getElem?_eq_none (by omega)] at he; cases he
  have old : ∀ key, nK K key → kx (nad K ad h) w s1 key ≠ none → ad key < h.1 ∧ kx ad w s key ≠ none := by
    intro key hf hk
    by_cases z : key = own
    · rw [z]; exact ⟨lo, by rw [hxo]; exact Option.some_ne_none _⟩
    · rw [hold key hf z] at hk
      obtain ⟨e, he⟩ := Option.ne_none_iff_exists'.mp hk
      exact ⟨(i1 key e he).2, hk⟩
  refine ⟨⟨fun key e hk => ?_, fun k1 k2 g1 g2 g3 => ?_, hwf⟩, fun a ha hna => ⟨?_, fun key hk => ?_⟩⟩
  · cases hf : fK K key with
    | some i =>
      obtain ⟨li, ke⟩ := new key i hf
      rw [ke] at hk
      rw [nad_s hf]
      refine ⟨?_, by show h.1 + i < h.1 + m; omega⟩
      show (if h.1 + i = ad own then eo1 else (ext h m E c).2.2 (h.1 + i)) = e
      rw [if_neg (by omega)]
      exact ext_get hk
    | none =>
      have hf' := fK_m hf
      obtain ⟨l1, l2⟩ := old key hf' (by rw [hk]; exact Option.some_ne_none _)
      rw [nad_n hf']
      refine ⟨?_, by show ad key < h.1 + m; omega⟩
      show (if ad key = ad own then eo1 else (ext h m E c).2.2 (ad key)) = e
      by_cases z : key = own
      · rw [z] at hk ⊢
        rw [if_pos rfl]
        rw [hxo1] at hk
        injection hk
      · rw [if_neg (fun y => z (i2 key own l2 (by rw [hxo]; exact Option.some_ne_none _) y)), ext_old l1]
        rw [hold key hf' z] at hk
        exact (i1 key e hk).1
  · cases h1 : fK K k1 with
    | some i =>
      have a1 := nad_s (ad := ad) (h := h) h1
      cases h2 : fK K k2 with
      | some j =>
        rw [a1, nad_s h2] at g3
        have ij : i = j := by omega
        have x1 := fK_s h1
        have x2 := fK_s h2
        rw [ij, x2] at x1
        injection x1 with x1
        exact x1.symm
      | none =>
        have l := (old k2 (fK_m h2) g2).1
        rw [a1, nad_n (fK_m h2)] at g3
        omega
    | none =>
      have l := old k1 (fK_m h1) g1
      cases h2 : fK K k2 with
      | some j =>
        rw [nad_n (fK_m h1), nad_s h2] at g3
        omega
      | none =>
        have l' := old k2 (fK_m h2) g2
        rw [nad_n (fK_m h1), nad_n (fK_m h2)] at g3
        exact i2 k1 k2 l.2 l'.2 g3
  · show (if a = ad own then eo1 else (ext h m E c).2.2 a) = _
    rw [if_neg (hna own (by rw [hxo]; exact Option.some_ne_none _)), ext_old ha]
  · cases h1 : fK K key with
    | some i => rw [nad_s h1]; omega
    | none =>
      rw [nad_n (fK_m h1)]
      exact hna key (old key (fK_m h1) hk).2
/-- what stands at a key that is not new -/
theorem kx_old {q : Nat} (A : ∀ q, nK K q → ad1 q = ad q) (F1 : ∀ r, r ≠ 8 → r ≠ 9 → s1.1 r = s.1 r) (F22 : s1.2.1 22 = s.2.1 22) (N0 : s1.2.2 0 = s.2.2 0) (N6 : s1.2.2 6 = s.2.2 6) (N7 : s1.2.2 7 = s.2.2 7)
    (FL : ∀ l, nK K (10000 + l) → (l < s1.2.2 2 ↔ l < s.2.2 2) ∧ (l < s.2.2 2 → s1.1 8 l = s.1 8 l ∧ s1.2.1 20 l = s.2.1 20 l ∧ nK K (1000 + (203 + 4 * l)) ∧ nK K (7000 + (204 + 4 * l)) ∧ nK K (7000 + (205 + 4 * l)) ∧ nK K (7000 + (206 + 4 * l))))
    (FB : ∀ b, nK K (11000 + b) → (b < s1.2.2 3 ↔ b < s.2.2 3) ∧ (b < s.2.2 3 → s1.1 9 b = s.1 9 b ∧ s1.2.1 21 b = s.2.1 21 b ∧ nK K (1000 + (3 + b))))
    (FC : ∀ c, c < 3000 → nK K (1000 + c) → kt_cl s1 c = kt_cl s c ∧ nK K (4000 + c))
    (FV : ∀ c, c < 3000 → nK K (4000 + c) → kt_cl s1 c = kt_cl s c ∧ s1.2.2 (100 + c) = s.2.2 (100 + c) ∧ s1.2.1 (100 + c) = s.2.1 (100 + c))
    (FS : ∀ c, c < 3000 → nK K (7000 + c) → kt_sh s1 c = kt_sh s c ∧ (kt_sh s c = true → nK K (1000 + c)))
    (Z : ∀ q, q < 12 → nK K q) (Z0 : nK K (1000 + 0)) (Z1 : nK K (7000 + 1)) (Z2 : nK K (7000 + 2))
    (h5 : q = 5 → ∀ j, (if j < s1.2.2 3 then Value.ref (ad1 (11000 + j)) else .null) = if j < s.2.2 3 then Value.ref (ad (11000 + j)) else .null)
    (h6 : q = 6 → ∀ j, (if j < s1.2.2 2 then Value.ref (ad1 (10000 + j)) else .null) = if j < s.2.2 2 then Value.ref (ad (10000 + j)) else .null)
    (hq : nK K q) : kx ad1 w s1 q = kx ad w s q := by
  have z : ∀ q, q < 12 → ad1 q = ad q := fun q h => A q (Z q h)
  unfold kx
  by_cases c0 : q < 12
  · rw [if_pos c0, if_pos c0]
    congr 1
    obtain rfl | rfl | rfl | rfl | rfl | rfl | rfl | rfl | rfl | rfl | rfl | rfl : q = 0 ∨ q = 1 ∨ q = 2 ∨ q = 3 ∨ q = 4 ∨ q = 5 ∨ q = 6 ∨ q = 7 ∨ q = 8 ∨ q = 9 ∨ q = 10 ∨ q = 11 := by omega
    · simp only [kx0, z 1 (by decide), A _ Z0, z (2 + 1) (by decide), z (2 + 2) (by decide), z 2 (by decide), z 5 (by decide), z 6 (by decide), F1 0 (by decide) (by decide), F1 1 (by decide) (by decide), F1 2 (by decide) (by decide)]
    · simp only [kx0, z 8 (by decide), z 9 (by decide), z 10 (by decide), z 11 (by decide), F1 4 (by decide) (by decide), F1 5 (by decide) (by decide)]
    · simp only [kx0, z (2 + 1) (by decide), z 7 (by decide), F1 3 (by decide) (by decide)]
    · simp only [kx0, A _ Z1]
    · simp only [kx0, A _ Z2]
    · have e := funext (h5 rfl)
      simp only [kx0]
      rw [e]
    · have e := funext (h6 rfl)
      simp only [kx0]
      rw [e]
    · simp only [kx0, F1 6 (by decide) (by decide)]
    · simp only [kx0, N0]
    · simp only [kx0, N6, F1 10 (by decide) (by decide)]
    · simp only [kx0, N7, F22]
    · simp only [kx0, F1 7 (by decide) (by decide)]
  · rw [if_neg c0, if_neg c0]
    by_cases c1 : q < 1000
    · rw [if_pos c1, if_pos c1]
    · rw [if_neg c1, if_neg c1]
      by_cases c2 : q < 4000
      · rw [if_pos c2, if_pos c2]
        obtain ⟨x, rfl⟩ : ∃ x, q = 1000 + x := ⟨q - 1000, by omega⟩
        rw [show 1000 + x - 1000 = x from by omega]
        obtain ⟨e1, e2⟩ := FC x (by omega) hq
        rw [e1, A _ e2, z 1 (by decide)]
      · rw [if_neg c2, if_neg c2]
        by_cases c3 : q < 7000
        · rw [if_pos c3, if_pos c3]
          obtain ⟨x, rfl⟩ : ∃ x, q = 4000 + x := ⟨q - 4000, by omega⟩
          rw [show 4000 + x - 4000 = x from by omega]
          obtain ⟨e1, e2, e3⟩ := FV x (by omega) hq
          rw [e1, e2, e3]
        · rw [if_neg c3, if_neg c3]
          by_cases c4 : q < 10000
          · rw [if_pos c4, if_pos c4]
            obtain ⟨x, rfl⟩ : ∃ x, q = 7000 + x := ⟨q - 7000, by omega⟩
            rw [show 7000 + x - 7000 = x from by omega]
            obtain ⟨e1, e2⟩ := FS x (by omega) hq
            rw [e1]
            by_cases y : kt_sh s x = true
            · rw [if_pos y, if_pos y, A _ (e2 y)]
            · rw [if_neg y, if_neg y]
          · rw [if_neg c4, if_neg c4]
            by_cases c5 : q < 11000
            · rw [if_pos c5, if_pos c5]
              obtain ⟨x, rfl⟩ : ∃ x, q = 10000 + x := ⟨q - 10000, by omega⟩
              rw [show 10000 + x - 10000 = x from by omega]
              obtain ⟨e1, e2⟩ := FL x hq
              by_cases y : x < s.2.2 2
              · obtain ⟨y1, y2, y3, y4, y5, y6⟩ := e2 y
                rw [if_pos y, if_pos (e1.mpr y)]
                simp only [kxL, y1, y2, A _ y3, A _ y4, A _ y5, A _ y6]
              · rw [if_neg y, if_neg (fun t => y (e1.mp t))]
            · rw [if_neg c5, if_neg c5]
              obtain ⟨x, rfl⟩ : ∃ x, q = 11000 + x := ⟨q - 11000, by omega⟩
              rw [show 11000 + x - 11000 = x from by omega]
              obtain ⟨e1, e2⟩ := FB x hq
              by_cases y : x < s.2.2 3
              · obtain ⟨y1, y2, y3⟩ := e2 y
                rw [if_pos y, if_pos (e1.mpr y)]
                simp only [kxB, y1, y2, A _ y3]
              · rw [if_neg y, if_neg (fun t => y (e1.mp t))]
/-- the rows of notes after something is made -/
theorem wf_new (hI : kt_I ad w s h) (hxo : kx ad w s own = some eo) (he : ∀ fs, eo ≠ .inr (2, fs)) (g3 : s1.2.2 3 ≤ 200) (g2 : s1.2.2 2 ≤ 400) (g0 : s1.2.2 0 = s.2.2 0) (g5 : s1.2.2 5 ≤ s.2.2 5) (gw : ∀ i, i < s1.2.2 5 → s1.2.2 (5000 + i) = s.2.2 (5000 + i) ∧ nK K (1000 + s.2.2 (5000 + i))) (gc : ∀ c, kt_cl s c = true → kt_cl s1 c = true) : kt_wf (nad K ad h) w s1 (ym_set (ext h m E c) (ad own) eo1) := by
  obtain ⟨f1, f2, f3, f4⟩ := hI.2.2
  refine ⟨g3, g2, fun j hj => ?_, fun i hi => ?_⟩
  · rcases f3 j (by rw [← g0]; exact hj) with q | ⟨a, fs, q1, q2, q3⟩
    · exact Or.inl q
    · refine Or.inr ⟨a, fs, q1, by show a < h.1 + m; omega, ?_⟩
      show (if a = ad own then eo1 else (ext h m E c).2.2 a) = _
      rw [if_neg (kt_tag2 hI hxo he q3), ext_old q2]
      exact q3
  · obtain ⟨p1, p2⟩ := gw i hi
    obtain ⟨p3, p4⟩ := f4 i (by omega)
    rw [p1, nad_n p2]
    exact ⟨p3, gc _ p4⟩
end NW
/-- a walk of the class from a heap, its things elsewhere kept -/
def kt_F (X : Nat → Prop) (M : Nat) (h0 : ym_H) (s0 : mt_S) (ad : Nat → Nat) (w : Nat → Value) (h : ym_H) (s : mt_S) : Prop := ad 0 = M ∧ kt_I ad w s h ∧ kt_X ad w s X h ∧ mt_K X h0 h ∧ kt_A h0 s0 h s
section KF
variable {α : Type} {X : Nat → Prop} {M : Nat} {h0 h : ym_H} {s0 s s' : mt_S} {ad : Nat → Nat} {w : Nat → Value}
theorem kt_F.B (F : kt_F X M h0 s0 ad w h s) : kt_B X ad ad w h s h s := ⟨F.2.1, F.2.2.1, fun _ _ => rfl, ⟨Nat.le_refl _, Nat.le_refl _, rfl, rfl⟩, fun _ _ => rfl⟩
theorem kt_F.go (F : kt_F X M h0 s0 ad w h s) {o : Option (α × ym_H)} {g : Option (α × mt_S)} {r : α} (hk : kt_ok X ad h s o g) (hg : g = some (r, s')) : ∃ ad' w' h', o = some (r, h') ∧ kt_F X M h0 s0 ad' w' h' s' := by
  obtain ⟨ad', w', h', e, c1, c2, c3, c4, c5⟩ := hk r s' hg
  exact ⟨ad', w', h', e, (c5 0 (Or.inl (by decide))).trans F.1, c1, c2, fun a ha => (c3 a ha).trans (F.2.2.2.1 a ha), F.2.2.2.2.trans c4⟩
end KF
