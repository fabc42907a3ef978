/-! The reference's cells as three functions: ints (a scalar at place 0), longs, lengths, by the field's number. -/
abbrev mt_S : Type := (Nat → Nat → Int32) × (Nat → Nat → Int64) × (Nat → Nat)
/-- 0 ints, 1 longs, 2 booleans, 100 a number -/
def mt_tag (k : Nat) : Nat := match k with
  | 0 => 100
  | 1 => 0
  | 2 => 1
  | 3 => 1
  | 4 => 100
  | 5 => 0
  | 6 => 1
  | 7 => 1
  | 8 => 0
  | 9 => 0
  | 10 => 1
  | 11 => 0
  | 12 => 0
  | 13 => 0
  | 14 => 0
  | 15 => 100
  | 16 => 0
  | 17 => 1
  | 18 => 0
  | 19 => 0
  | 20 => 0
  | 21 => 1
  | 22 => 0
  | 23 => 0
  | 24 => 1
  | 25 => 2
  | 26 => 0
  | 27 => 1
  | 28 => 0
  | 29 => 0
  | 30 => 0
  | 31 => 0
  | 32 => 0
  | 33 => 100
  | 34 => 1
  | 35 => 1
  | 36 => 100
  | 37 => 1
  | 38 => 0
  | 39 => 0
  | 40 => 1
  | 41 => 100
  | 42 => 0
  | 43 => 0
  | 44 => 0
  | 45 => 0
  | 46 => 1
  | 47 => 1
  | 48 => 0
  | 49 => 100
  | 50 => 0
  | 51 => 100
  | 52 => 100
  | 53 => 100
  | 54 => 0
  | 55 => 100
  | 56 => 100
  | _ => 100
def mt_v (s : mt_S) (k j : Nat) : Value := if mt_tag k = 1 then .long (s.2.1 k j) else .int (s.1 k j)
def mt_f (ad : Nat → Nat) (s : mt_S) (k : Nat) : Value := if mt_tag k = 100 then .int (s.1 k 0) else .ref (ad k)
def mt_fs (ad : Nat → Nat) (s : mt_S) : List Value := (List.range 58).map (mt_f ad s)
def mt_MI (M : Nat) (ad : Nat → Nat) (s : mt_S) (h : ym_H) : Prop :=
  h.2.2 M = .inr (8, mt_fs ad s) ∧ (∀ k, k < 58 → mt_tag k ≠ 100 → h.2.2 (ad k) = .inl (mt_tag k, s.2.2 k, mt_v s k)) ∧ (∀ k k', k < 58 → k' < 58 → mt_tag k ≠ 100 → mt_tag k' ≠ 100 → ad k = ad k' → k = k') ∧ (∀ k, k < 58 → mt_tag k ≠ 100 → ad k ≠ M ∧ ad k < h.1) ∧ M < h.1
def mt_X (M : Nat) (ad : Nat → Nat) (X : Nat → Prop) (h : ym_H) : Prop := ∀ a, X a → a < h.1 ∧ a ≠ M ∧ ∀ k, k < 58 → mt_tag k ≠ 100 → a ≠ ad k
def mt_K (X : Nat → Prop) (h0 h : ym_H) : Prop := ∀ a, X a → h.2.2 a = h0.2.2 a
/-- what the rows that can grow have taken: twice their lengths -/
def mt_P (s : mt_S) : Nat := 2 * (s.2.2 16 + s.2.2 17 + s.2.2 18 + s.2.2 42 + s.2.2 43 + s.2.2 44 + s.2.2 45 + s.2.2 46 + s.2.2 47 + s.2.2 48)
def mt_A (h0 : ym_H) (s0 : mt_S) (h : ym_H) (s : mt_S) : Prop := h0.1 ≤ h.1 ∧ h0.2.1 ≤ h.2.1 ∧ h.2.1 + mt_P s0 ≤ h0.2.1 + mt_P s ∧ h.1 + mt_P s0 ≤ h0.1 + mt_P s
def mt_B (M : Nat) (X : Nat → Prop) (ad : Nat → Nat) (h0 : ym_H) (s0 : mt_S) (h : ym_H) (s : mt_S) : Prop := mt_MI M ad s h ∧ mt_X M ad X h ∧ mt_K X h0 h ∧ mt_A h0 s0 h s
def mt_ok {α : Type} (M : Nat) (X : Nat → Prop) (h0 : ym_H) (s0 : mt_S) (o : Option (α × ym_H)) (g : Option (α × mt_S)) : Prop := ∀ r s', g = some (r, s') → ∃ ad' h', o = some (r, h') ∧ mt_B M X ad' h0 s0 h' s'
def gm_ldI (s : mt_S) (k : Nat) (i : Int32) : Option Int32 := if i < 0 ∨ s.2.2 k ≤ i.toNatClampNeg then none else some (s.1 k i.toNatClampNeg)
def gm_ldL (s : mt_S) (k : Nat) (i : Int32) : Option Int64 := if i < 0 ∨ s.2.2 k ≤ i.toNatClampNeg then none else some (s.2.1 k i.toNatClampNeg)
def gm_setI (s : mt_S) (k j : Nat) (v : Int32) : mt_S := (fun k' j' => if k' = k ∧ j' = j then v else s.1 k' j', s.2.1, s.2.2)
def gm_setL (s : mt_S) (k j : Nat) (v : Int64) : mt_S := (s.1, fun k' j' => if k' = k ∧ j' = j then v else s.2.1 k' j', s.2.2)
def gm_pI (s : mt_S) (k : Nat) (v : Int32) : Option mt_S := some (gm_setI s k 0 v)
def gm_stI (s : mt_S) (k : Nat) (i : Int32) (v : Int32) : Option mt_S := if i < 0 ∨ s.2.2 k ≤ i.toNatClampNeg then none else some (gm_setI s k i.toNatClampNeg v)
def gm_stL (s : mt_S) (k : Nat) (i : Int32) (v : Int64) : Option mt_S := if i < 0 ∨ s.2.2 k ≤ i.toNatClampNeg then none else some (gm_setL s k i.toNatClampNeg v)
def gm_grow (s : mt_S) (k : Nat) : mt_S := (fun k' j => if k' = k ∧ s.2.2 k ≤ j then 0 else s.1 k' j, fun k' j => if k' = k ∧ s.2.2 k ≤ j then 0 else s.2.1 k' j, fun k' => if k' = k then 2 * s.2.2 k else s.2.2 k')
def gm_gr (N : Nat) (s : mt_S) (k : Nat) : Option mt_S := if s.2.2 k < N ∧ s.2.2 k < 16777216 ∧ 1 ≤ s.2.2 k then some (gm_grow s k) else none
theorem mt_fs_get {ad : Nat → Nat} {s : mt_S} {k : Nat} (hk : k < 58) : (mt_fs ad s)[k]? = some (mt_f ad s k) := by
  unfold mt_fs
  rw [List.getElem?_map, List.getElem?_range hk]
  rfl
theorem mt_fs_len {ad : Nat → Nat} {s : mt_S} : (mt_fs ad s).length = 58 := by
  unfold mt_fs
  rw [List.length_map, List.length_range]
theorem mt_fs_set {ad ad' : Nat → Nat} {s s' : mt_S} {k : Nat} {v : Value} (hk : k < 58) (h1 : mt_f ad' s' k = v) (h2 : ∀ j, j < 58 → j ≠ k → mt_f ad' s' j = mt_f ad s j) : (mt_fs ad s).set k v = mt_fs ad' s' := by
  apply List.ext_getElem?
  intro j
  by_cases hj : j < 58
  · rw [mt_fs_get hj]
    by_cases e : j = k
    · subst e
      rw [List.getElem?_set_self (by rw [mt_fs_len]; exact hj), h1]
    · rw [List.getElem?_set_ne (fun q => e q.symm), mt_fs_get hj, h2 j hj e]
  · rw [List.getElem?_eq_none (by rw [List.length_set, mt_fs_len]; omega), List.getElem?_eq_none (by rw [mt_fs_len]; omega)]
theorem mt_ob_eq {M : Nat} {ad : Nat → Nat} {s : mt_S} {h : ym_H} (hM : mt_MI M ad s h) : ym_ob h (some M) 8 = some (mt_fs ad s) := by
  simp [ym_ob, hM.1]
theorem mt_gf_eq {M : Nat} {ad : Nat → Nat} {s : mt_S} {h : ym_H} (hM : mt_MI M ad s h) {k : Nat} (hk : k < 58) : ym_gf h (some M) 8 k = some (mt_f ad s k) := by
  simp only [ym_gf, mt_ob_eq hM, Option.bind_some, mt_fs_get hk]
section MT
variable {α β : Type} {M : Nat} {X : Nat → Prop} {ad : Nat → Nat} {h0 h : ym_H} {s0 s : mt_S}
theorem mt_gR (hB : mt_B M X ad h0 s0 h s) (k : Nat) (hk : k < 58) (ht : mt_tag k ≠ 100) {f : Option Nat → Option (α × ym_H)} {g : Option (α × mt_S)} (kk : mt_ok M X h0 s0 (f (some (ad k))) g) : mt_ok M X h0 s0 (Option.bind (ym_gR h (some M) 8 k) f) g := by
  have e : ym_gR h (some M) 8 k = some (some (ad k)) := by
    simp only [ym_gR, mt_gf_eq hB.1 hk, mt_f, if_neg ht, Option.bind_some, ym_toR]
  rw [e]
  exact kk
theorem mt_gI (hB : mt_B M X ad h0 s0 h s) (k : Nat) (hk : k < 58) (ht : mt_tag k = 100) {f : Int32 → Option (α × ym_H)} {g : Option (α × mt_S)} (kk : mt_ok M X h0 s0 (f (s.1 k 0)) g) : mt_ok M X h0 s0 (Option.bind (ym_gI h (some M) 8 k) f) g := by
  have e : ym_gI h (some M) 8 k = some (s.1 k 0) := by
    simp only [ym_gI, mt_gf_eq hB.1 hk, mt_f, if_pos ht, Option.bind_some, ym_toI]
  rw [e]
  exact kk
theorem mt_ob (hB : mt_B M X ad h0 s0 h s) {f : List Value → Option (α × ym_H)} {g : Option (α × mt_S)} (kk : ∀ o, mt_ok M X h0 s0 (f o) g) : mt_ok M X h0 s0 (Option.bind (ym_ob h (some M) 8) f) g := by
  rw [mt_ob_eq hB.1]
  exact kk _
theorem mt_ar_eq (hM : mt_MI M ad s h) {k : Nat} (hk : k < 58) (ht : mt_tag k ≠ 100) : ym_ar h (some (ad k)) = some (mt_tag k, s.2.2 k, mt_v s k) := by
  simp [ym_ar, hM.2.1 k hk ht]
theorem mt_len (hB : mt_B M X ad h0 s0 h s) (k : Nat) (hk : k < 58) (ht : mt_tag k ≠ 100) {f : Int32 → Option (α × ym_H)} {g : Option (α × mt_S)} (kk : mt_ok M X h0 s0 (f (Int32.ofNat (s.2.2 k))) g) : mt_ok M X h0 s0 (Option.bind (ym_len h (some (ad k))) f) g := by
  have e : ym_len h (some (ad k)) = some (Int32.ofNat (s.2.2 k)) := by simp [ym_len, mt_ar_eq hB.1 hk ht]
  rw [e]
  exact kk
theorem mt_ld_eq (hM : mt_MI M ad s h) {k : Nat} (hk : k < 58) (ht : mt_tag k ≠ 100) {i : Int32} (hi : ¬ (i < 0 ∨ s.2.2 k ≤ i.toNatClampNeg)) : ym_ld h (some (ad k)) (mt_tag k) i = some (mt_v s k i.toNatClampNeg) := by
  simp only [ym_ld, mt_ar_eq hM hk ht, Option.bind_some]
  rw [if_pos ⟨Or.inl trivial, hi⟩]
theorem mt_ldI (hB : mt_B M X ad h0 s0 h s) (k : Nat) (hk : k < 58) (ht : mt_tag k = 0) {i : Int32} {f : Int32 → Option (α × ym_H)} {g : Int32 → Option (α × mt_S)} (kk : ∀ v, mt_ok M X h0 s0 (f v) (g v)) : mt_ok M X h0 s0 (Option.bind (ym_ldI h (some (ad k)) i) f) (Option.bind (gm_ldI s k i) g) := by
  by_cases hi : i < 0 ∨ s.2.2 k ≤ i.toNatClampNeg
  · intro r s' hg
    rw [gm_ldI, if_pos hi] at hg
    cases hg
  · have e : ym_ldI h (some (ad k)) i = some (s.1 k i.toNatClampNeg) := by
      have := mt_ld_eq hB.1 hk (by rw [ht]; decide) hi
      rw [ht] at this
      simp only [ym_ldI, this, Option.bind_some, mt_v, ht, ym_toI]
      rfl
    rw [e, gm_ldI, if_neg hi]
    exact kk _
theorem mt_ldZ (hB : mt_B M X ad h0 s0 h s) (k : Nat) (hk : k < 58) (ht : mt_tag k = 2) {i : Int32} {f : Int32 → Option (α × ym_H)} {g : Int32 → Option (α × mt_S)} (kk : ∀ v, mt_ok M X h0 s0 (f v) (g v)) : mt_ok M X h0 s0 (Option.bind (ym_ldZ h (some (ad k)) i) f) (Option.bind (gm_ldI s k i) g) := by
  by_cases hi : i < 0 ∨ s.2.2 k ≤ i.toNatClampNeg
  · intro r s' hg
    rw [gm_ldI, if_pos hi] at hg
    cases hg
  · have e : ym_ldZ h (some (ad k)) i = some (s.1 k i.toNatClampNeg) := by
      have := mt_ld_eq hB.1 hk (by rw [ht]; decide) hi
      rw [ht] at this
      simp only [ym_ldZ, this, Option.bind_some, mt_v, ht, ym_toI]
      rfl
    rw [e, gm_ldI, if_neg hi]
    exact kk _
theorem mt_ldL (hB : mt_B M X ad h0 s0 h s) (k : Nat) (hk : k < 58) (ht : mt_tag k = 1) {i : Int32} {f : Int64 → Option (α × ym_H)} {g : Int64 → Option (α × mt_S)} (kk : ∀ v, mt_ok M X h0 s0 (f v) (g v)) : mt_ok M X h0 s0 (Option.bind (ym_ldL h (some (ad k)) i) f) (Option.bind (gm_ldL s k i) g) := by
  by_cases hi : i < 0 ∨ s.2.2 k ≤ i.toNatClampNeg
  · intro r s' hg
    rw [gm_ldL, if_pos hi] at hg
    cases hg
  · have e : ym_ldL h (some (ad k)) i = some (s.2.1 k i.toNatClampNeg) := by
      have := mt_ld_eq hB.1 hk (by rw [ht]; decide) hi
      rw [ht] at this
      simp only [ym_ldL, this, Option.bind_some, mt_v, ht, ym_toL, if_true]
    rw [e, gm_ldL, if_neg hi]
    exact kk _
theorem mt_MI.write (hM : mt_MI M ad s h) {s1 : mt_S} {k : Nat} {e : ym_E} (hk : k < 58) (ht : mt_tag k ≠ 100) (he : e = .inl (mt_tag k, s1.2.2 k, mt_v s1 k)) (h1 : ∀ j, j < 58 → mt_f ad s1 j = mt_f ad s j) (h2 : ∀ j, j < 58 → mt_tag j ≠ 100 → j ≠ k → s1.2.2 j = s.2.2 j ∧ mt_v s1 j = mt_v s j) : mt_MI M ad s1 (ym_set h (ad k) e) := by
  obtain ⟨m1, m2, m3, m4, m5⟩ := hM
  have hfs : mt_fs ad s1 = mt_fs ad s := by
    unfold mt_fs
    exact List.map_congr_left fun j hj => h1 j (List.mem_range.mp hj)
  refine ⟨?_, fun j hj hjt => ?_, m3, m4, m5⟩
  · show (if M = ad k then e else h.2.2 M) = _
    rw [if_neg (fun q => (m4 k hk ht).1 q.symm), m1, hfs]
  · show (if ad j = ad k then e else h.2.2 (ad j)) = _
    by_cases q : j = k
    · subst q
      rw [if_pos rfl, he]
    · rw [if_neg (fun z => q (m3 j k hj hk hjt ht z)), m2 j hj hjt, (h2 j hj hjt q).1, (h2 j hj hjt q).2]
theorem mt_P_eq {s1 : mt_S} (h : s1.2.2 = s.2.2) : mt_P s1 = mt_P s := by unfold mt_P; rw [h]
theorem mt_B.set (hB : mt_B M X ad h0 s0 h s) {s1 : mt_S} {a : Nat} {e : ym_E} (ha : a = M ∨ ∃ k, k < 58 ∧ mt_tag k ≠ 100 ∧ a = ad k) (hM : mt_MI M ad s1 (ym_set h a e)) (hl : s1.2.2 = s.2.2) : mt_B M X ad h0 s0 (ym_set h a e) s1 := by
  obtain ⟨-, b2, b3, b4⟩ := hB
  refine ⟨hM, b2, fun q hq => ?_, ?_⟩
  · have hne : q ≠ a := by
      rcases ha with rfl | ⟨k, hk, ht, rfl⟩
      · exact (b2 q hq).2.1
      · exact (b2 q hq).2.2 k hk ht
    show (if q = a then e else h.2.2 q) = _
    rw [if_neg hne]
    exact b3 q hq
  · unfold mt_A at b4 ⊢
    rw [mt_P_eq hl]
    exact b4
theorem mt_pI (hB : mt_B M X ad h0 s0 h s) (k : Nat) (hk : k < 58) (ht : mt_tag k = 100) {v : Int32} {f : ym_H → Option (α × ym_H)} {g : mt_S → Option (α × mt_S)} (kk : ∀ h1 s1, mt_B M X ad h0 s0 h1 s1 → mt_ok M X h0 s0 (f h1) (g s1)) : mt_ok M X h0 s0 (Option.bind (ym_pf h (some M) 8 k (.int v)) f) (Option.bind (gm_pI s k v) g) := by
  have hfs : (mt_fs ad s).set k (.int v) = mt_fs ad (gm_setI s k 0 v) := by
    refine mt_fs_set hk ?_ ?_
    · simp [mt_f, ht, gm_setI]
    · intro j hj hne
      simp [mt_f, gm_setI, hne]
  have e : ym_pf h (some M) 8 k (.int v) = some (ym_set h M (.inr (8, mt_fs ad (gm_setI s k 0 v)))) := by
    simp only [ym_pf, mt_ob_eq hB.1, Option.bind_some, mt_fs_len, if_pos hk, hfs, Option.map_some]
  rw [e]
  show mt_ok M X h0 s0 (f _) (g _)
  refine kk _ _ (hB.set (Or.inl rfl) ?_ rfl)
  obtain ⟨m1, m2, m3, m4, m5⟩ := hB.1
  refine ⟨if_pos rfl, fun j hj hjt => ?_, m3, m4, m5⟩
  show (if ad j = M then _ else h.2.2 (ad j)) = _
  rw [if_neg (m4 j hj hjt).1, m2 j hj hjt]
  have hne : j ≠ k := fun q => hjt (by rw [q]; exact ht)
  have hv : mt_v (gm_setI s k 0 v) j = mt_v s j := by
    funext i
    simp [mt_v, gm_setI, hne]
  rw [hv]
  rfl
theorem mt_as_eq (hM : mt_MI M ad s h) {k : Nat} (hk : k < 58) (ht : mt_tag k ≠ 100) (h9 : mt_tag k ≠ 99) {i : Int32} {v : Value} (hi : ¬ (i < 0 ∨ s.2.2 k ≤ i.toNatClampNeg)) : ym_as h (some (ad k)) (mt_tag k) i v = some (ym_set h (ad k) (.inl (mt_tag k, s.2.2 k, updV (mt_v s k) i.toNatClampNeg v))) := by
  simp only [ym_as, mt_ar_eq hM hk ht, Option.bind_some]
  rw [if_pos ⟨trivial, h9, hi⟩]
  rfl
theorem mt_aW (hB : mt_B M X ad h0 s0 h s) (k : Nat) (hk : k < 58) (ht : mt_tag k = 0 ∨ mt_tag k = 2) {i v : Int32} {t : Nat} (htt : mt_tag k = t) {f : ym_H → Option (α × ym_H)} {g : mt_S → Option (α × mt_S)} (kk : ∀ h1 s1, mt_B M X ad h0 s0 h1 s1 → mt_ok M X h0 s0 (f h1) (g s1)) : mt_ok M X h0 s0 (Option.bind (ym_as h (some (ad k)) t i (.int v)) f) (Option.bind (gm_stI s k i v) g) := by
  have t1 : mt_tag k ≠ 100 := by rcases ht with q | q <;> rw [q] <;> decide
  have t2 : mt_tag k ≠ 99 := by rcases ht with q | q <;> rw [q] <;> decide
  have t3 : ¬ mt_tag k = 1 := by rcases ht with q | q <;> rw [q] <;> decide
  by_cases hi : i < 0 ∨ s.2.2 k ≤ i.toNatClampNeg
  · intro r s' hg
    rw [gm_stI, if_pos hi] at hg
    cases hg
  · rw [← htt, mt_as_eq hB.1 hk t1 t2 hi, gm_stI, if_neg hi]
    show mt_ok M X h0 s0 (f _) (g _)
    refine kk _ _ (hB.set (Or.inr ⟨k, hk, t1, rfl⟩) (hB.1.write hk t1 ?_ ?_ ?_) rfl)
    · congr 3
      funext j
      by_cases q : j = i.toNatClampNeg
      · simp [updV, mt_v, gm_setI, t3, q]
      · simp [updV, mt_v, gm_setI, t3, q]
    · intro j hj
      by_cases q : mt_tag j = 100
      · have hne : j ≠ k := fun z => t1 (by rw [← z]; exact q)
        simp [mt_f, gm_setI, hne]
      · simp [mt_f, q]
    · intro j hj hjt hne
      refine ⟨rfl, ?_⟩
      funext x
      simp [mt_v, gm_setI, hne]
theorem mt_aI (hB : mt_B M X ad h0 s0 h s) (k : Nat) (hk : k < 58) (ht : mt_tag k = 0) {i v : Int32} {f : ym_H → Option (α × ym_H)} {g : mt_S → Option (α × mt_S)} (kk : ∀ h1 s1, mt_B M X ad h0 s0 h1 s1 → mt_ok M X h0 s0 (f h1) (g s1)) : mt_ok M X h0 s0 (Option.bind (ym_as h (some (ad k)) 0 i (.int v)) f) (Option.bind (gm_stI s k i v) g) := mt_aW hB k hk (Or.inl ht) ht kk
theorem mt_aZ (hB : mt_B M X ad h0 s0 h s) (k : Nat) (hk : k < 58) (ht : mt_tag k = 2) {i v : Int32} {f : ym_H → Option (α × ym_H)} {g : mt_S → Option (α × mt_S)} (kk : ∀ h1 s1, mt_B M X ad h0 s0 h1 s1 → mt_ok M X h0 s0 (f h1) (g s1)) : mt_ok M X h0 s0 (Option.bind (ym_as h (some (ad k)) 2 i (.int v)) f) (Option.bind (gm_stI s k i v) g) := mt_aW hB k hk (Or.inr ht) ht kk
theorem mt_aL (hB : mt_B M X ad h0 s0 h s) (k : Nat) (hk : k < 58) (ht : mt_tag k = 1) {i : Int32} {v : Int64} {f : ym_H → Option (α × ym_H)} {g : mt_S → Option (α × mt_S)} (kk : ∀ h1 s1, mt_B M X ad h0 s0 h1 s1 → mt_ok M X h0 s0 (f h1) (g s1)) : mt_ok M X h0 s0 (Option.bind (ym_as h (some (ad k)) 1 i (.long v)) f) (Option.bind (gm_stL s k i v) g) := by
  have t1 : mt_tag k ≠ 100 := by rw [ht]; decide
  have t2 : mt_tag k ≠ 99 := by rw [ht]; decide
  by_cases hi : i < 0 ∨ s.2.2 k ≤ i.toNatClampNeg
  · intro r s' hg
    rw [gm_stL, if_pos hi] at hg
    cases hg
  · have e := mt_as_eq (v := .long v) hB.1 hk t1 t2 hi
    rw [ht] at e
    rw [e, gm_stL, if_neg hi]
    show mt_ok M X h0 s0 (f _) (g _)
    refine kk _ _ (hB.set (Or.inr ⟨k, hk, t1, rfl⟩) (hB.1.write hk t1 ?_ ?_ ?_) rfl)
    · rw [ht]
      congr 3
      funext j
      by_cases q : j = i.toNatClampNeg
      · simp [updV, mt_v, gm_setL, ht, q]
      · simp [updV, mt_v, gm_setL, ht, q]
    · intro j hj
      simp [mt_f, gm_setL]
    · intro j hj hjt hne
      refine ⟨rfl, ?_⟩
      funext x
      simp [mt_v, gm_setL, hne]
theorem mt_A.trans {h1 h2 : ym_H} {s1 s2 : mt_S} (a : mt_A h0 s0 h1 s1) (b : mt_A h1 s1 h2 s2) : mt_A h0 s0 h2 s2 := by
  unfold mt_A at *
  omega
theorem mt_call (hB : mt_B M X ad h0 s0 h s) {o : Option (β × ym_H)} {gc : Option (β × mt_S)} (hc : mt_ok M X h s o gc) {f : β × ym_H → Option (α × ym_H)} {g : β × mt_S → Option (α × mt_S)} (kk : ∀ (r : β) (ad1 : Nat → Nat) (h1 : ym_H) (s1 : mt_S), mt_B M X ad1 h0 s0 h1 s1 → mt_ok M X h0 s0 (f (r, h1)) (g (r, s1))) : mt_ok M X h0 s0 (Option.bind o f) (Option.bind gc g) := by
  cases hg : gc with
  | none => intro r s' z; cases z
  | some q =>
    obtain ⟨r1, s1⟩ := q
    obtain ⟨ad1, h1, e1, c1, c2, c3, c4⟩ := hc r1 s1 hg
    rw [e1]
    exact kk r1 ad1 h1 s1 ⟨c1, c2, fun a ha => (c3 a ha).trans (hB.2.2.1 a ha), hB.2.2.2.trans c4⟩
theorem mt_if {c : Prop} [Decidable c] {A B : Option (α × ym_H)} {A' B' : Option (α × mt_S)} (k1 : c → mt_ok M X h0 s0 A A') (k2 : ¬ c → mt_ok M X h0 s0 B B') : mt_ok M X h0 s0 (if c then A else B) (if c then A' else B') := by
  by_cases hc : c
  · rw [if_pos hc, if_pos hc]; exact k1 hc
  · rw [if_neg hc, if_neg hc]; exact k2 hc
theorem mt_ret {r : α} (hB : mt_B M X ad h0 s0 h s) : mt_ok M X h0 s0 (some (r, h)) (some (r, s)) := by
  intro r' s' hg
  cases hg
  exact ⟨ad, h, rfl, hB⟩
theorem mt_no {o : Option (α × ym_H)} : mt_ok M X h0 s0 o none := by
  intro r s' hg
  cases hg
theorem mt_B.start (hB : mt_B M X ad h0 s0 h s) : mt_B M X ad h s h s := ⟨hB.1, hB.2.1, fun _ _ => rfl, Nat.le_refl _, Nat.le_refl _, Nat.le_refl _, Nat.le_refl _⟩
end MT
