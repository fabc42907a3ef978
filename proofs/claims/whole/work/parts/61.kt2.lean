/-! the class's cells: writes -/
theorem kx_setI {ad : Nat → Nat} {w : Nat → Value} {s : mt_S} {r j key : Nat} {v : Int32} (h0 : key = 0 → r ≠ 0 ∧ r ≠ 1 ∧ r ≠ 2) (h1 : key = 1 → r ≠ 4 ∧ r ≠ 5) (h2 : key = 2 → r ≠ 3) (h7 : key = 7 → r ≠ 6) (h9 : key = 9 → r ≠ 10) (h11 : key = 11 → r ≠ 7) (h8 : r ≠ 8) (h10 : r ≠ 9) : kx ad w (gm_setI s r j v) key = kx ad w s key := by
  have eL : ∀ l, kxL ad (gm_setI s r j v) l = kxL ad s l := fun l => by simp [kxL, gm_setI, Ne.symm h8]
  have eB : ∀ l, kxB ad (gm_setI s r j v) l = kxB ad s l := fun l => by simp [kxB, gm_setI, Ne.symm h10]
  have e0 : key < 12 → kx0 ad w (gm_setI s r j v) key = kx0 ad w s key := by
    intro hk
    have hc : key = 0 ∨ key = 1 ∨ key = 2 ∨ key = 3 ∨ key = 4 ∨ key = 5 ∨ key = 6 ∨ key = 7 ∨ key = 8 ∨ key = 9 ∨ key = 10 ∨ key = 11 := by omega
    rcases hc with rfl | rfl | rfl | rfl | rfl | rfl | rfl | rfl | rfl | rfl | rfl | rfl
    · obtain ⟨a, b, c⟩ := h0 rfl
      simp [kx0, gm_setI, Ne.symm a, Ne.symm b, Ne.symm c]
    · obtain ⟨a, b⟩ := h1 rfl
      simp [kx0, gm_setI, Ne.symm a, Ne.symm b]
    · simp [kx0, gm_setI, Ne.symm (h2 rfl)]
    · rfl
    · rfl
    · rfl
    · rfl
    · simp [kx0, gm_setI, Ne.symm (h7 rfl)]
    · rfl
    · simp [kx0, gm_setI, Ne.symm (h9 rfl)]
    · rfl
    · simp [kx0, gm_setI, Ne.symm (h11 rfl)]
  unfold kx
  by_cases hk : key < 12
  · rw [if_pos hk, if_pos hk, e0 hk]
  · rw [if_neg hk, if_neg hk, eL, eB]
    rfl
theorem kx_setL {ad : Nat → Nat} {w : Nat → Value} {s : mt_S} {r j key : Nat} {v : Int64} (h10 : key = 10 → r ≠ 22) (hv : 4000 ≤ key → key < 7000 → r ≠ 100 + (key - 4000)) (hr : r ≠ 20) (hr2 : r ≠ 21) : kx ad w (gm_setL s r j v) key = kx ad w s key := by
  have eL : ∀ l, kxL ad (gm_setL s r j v) l = kxL ad s l := fun l => by simp [kxL, gm_setL, Ne.symm hr]
  have eB : ∀ l, kxB ad (gm_setL s r j v) l = kxB ad s l := fun l => by simp [kxB, gm_setL, Ne.symm hr2]
  have e0 : key < 12 → kx0 ad w (gm_setL s r j v) key = kx0 ad w s key := by
    intro hk
    have hc : key = 0 ∨ key = 1 ∨ key = 2 ∨ key = 3 ∨ key = 4 ∨ key = 5 ∨ key = 6 ∨ key = 7 ∨ key = 8 ∨ key = 9 ∨ key = 10 ∨ key = 11 := by omega
    rcases hc with rfl | rfl | rfl | rfl | rfl | rfl | rfl | rfl | rfl | rfl | rfl | rfl
    all_goals first | rfl | simp [kx0, gm_setL, Ne.symm (h10 rfl)]
  unfold kx
  by_cases hk : key < 12
  · rw [if_pos hk, if_pos hk, e0 hk]
  · rw [if_neg hk, if_neg hk, eL, eB]
    by_cases k1 : key < 1000
    · rw [if_pos k1, if_pos k1]
    · rw [if_neg k1, if_neg k1]
      by_cases k2 : key < 4000
      · rw [if_pos k2, if_pos k2]; rfl
      · rw [if_neg k2, if_neg k2]
        by_cases k3 : key < 7000
        · rw [if_pos k3, if_pos k3]
          have hne := hv (by omega) k3
          have ef : (fun j' => Value.long ((gm_setL s r j v).2.1 (100 + (key - 4000)) j')) = fun j' => Value.long (s.2.1 (100 + (key - 4000)) j') := by
            funext x
            simp [gm_setL, Ne.symm hne]
          rw [ef]
          rfl
        · rw [if_neg k3, if_neg k3]; rfl
theorem kt_tag2 {ad : Nat → Nat} {w : Nat → Value} {s : mt_S} {h : ym_H} (hI : kt_I ad w s h) {key a : Nat} {e : ym_E} {fs : List Value} (hx : kx ad w s key = some e) (he : ∀ fs, e ≠ .inr (2, fs)) (ha : h.2.2 a = .inr (2, fs)) : a ≠ ad key := by
  intro q
  subst q
  rw [(hI.1 key e hx).1] at ha
  exact he fs ha
section KT2
variable {α : Type} {X : Nat → Prop} {ad0 ad : Nat → Nat} {w w1 : Nat → Value} {h0 h : ym_H} {s0 s s1 : mt_S}
/-- one cell is written -/
theorem kt_wr (hB : kt_B X ad0 ad w h0 s0 h s) {key : Nat} {e e1 : ym_E} (hx : kx ad w s key = some e) (hx1 : kx ad w1 s1 key = some e1) (ho : ∀ k, k ≠ key → kx ad w1 s1 k = kx ad w s k) (hc1 : s1.2.2 1 = s.2.2 1) (hc4 : s1.2.2 4 = s.2.2 4) (hwf : kt_wf ad w1 s1 (ym_set h (ad key) e1)) : kt_B X ad0 ad w1 h0 s0 (ym_set h (ad key) e1) s1 := by
  obtain ⟨⟨i1, i2, i3⟩, b2, b3, b4, b5⟩ := hB
  have hnn : ∀ k, kx ad w1 s1 k ≠ none → kx ad w s k ≠ none := by
    intro k hk
    by_cases q : k = key
    · rw [q, hx]; exact Option.some_ne_none _
    · rw [← ho k q]; exact hk
  refine ⟨⟨fun k e' hk => ?_, fun k1 k2 g1 g2 g3 => i2 k1 k2 (hnn k1 g1) (hnn k2 g2) g3, hwf⟩, fun a ha => ⟨(b2 a ha).1, fun k hk => (b2 a ha).2 k (hnn k hk)⟩, fun a ha => ?_, ?_, b5⟩
  · by_cases q : k = key
    · subst q
      rw [hx1] at hk
      cases hk
      exact ⟨if_pos rfl, (i1 k e hx).2⟩
    · rw [ho k q] at hk
      obtain ⟨c1, c2⟩ := i1 k e' hk
      refine ⟨?_, c2⟩
      show (if ad k = ad key then e1 else h.2.2 (ad k)) = e'
      rw [if_neg (fun z => q (i2 k key (by rw [hk]; exact Option.some_ne_none _) (by rw [hx]; exact Option.some_ne_none _) z))]
      exact c1
  · show (if a = ad key then e1 else h.2.2 a) = _
    rw [if_neg ((b2 a ha).2 key (by rw [hx]; exact Option.some_ne_none _))]
    exact b3 a ha
  · unfold kt_A at b4 ⊢
    rw [hc1, hc4]
    exact b4
theorem kt_wf_wr (hB : kt_B X ad0 ad w h0 s0 h s) {key : Nat} {e e1 : ym_E} (hx : kx ad w s key = some e) (he : ∀ fs, e ≠ .inr (2, fs)) (g3 : s1.2.2 3 = s.2.2 3) (g2 : s1.2.2 2 = s.2.2 2) (g0 : s1.2.2 0 = s.2.2 0) (g5 : s1.2.2 5 = s.2.2 5) (gw : ∀ i, i < s.2.2 5 → s1.2.2 (5000 + i) = s.2.2 (5000 + i)) : kt_wf ad w s1 (ym_set h (ad key) e1) := by
  obtain ⟨f1, f2, f3, f4⟩ := hB.1.2.2
  refine ⟨by rw [g3]; exact f1, by rw [g2]; exact f2, fun j hj => ?_, fun i hi => ?_⟩
  · rcases f3 j (by rw [← g0]; exact hj) with q | ⟨a, fs, q1, q2, q3⟩
    · exact Or.inl q
    · refine Or.inr ⟨a, fs, q1, q2, ?_⟩
      show (if a = ad key then e1 else h.2.2 a) = _
      rw [if_neg (kt_tag2 hB.1 hx he q3)]
      exact q3
  · rw [g5] at hi
    rw [gw i hi]
    refine ⟨(f4 i hi).1, ?_⟩
    have := (f4 i hi).2
    unfold kt_cl at this ⊢
    rw [g3, g2]
    exact this
/-- an int field of the room, the journal, the bodies -/
theorem kt_pfI (hB : kt_B X ad0 ad w h0 s0 h s) {key ci k r : Nat} {fs fs1 : List Value} {v : Int32} (hk : key < 3) (hx : kx0 ad w s key = .inr (ci, fs)) (hx1 : kx0 ad w (gm_setI s r 0 v) key = .inr (ci, fs1)) (hset : fs.set k (.int v) = fs1) (hlen : k < fs.length) (hci : ci ≠ 2) (ho : ∀ q, q ≠ key → kx ad w (gm_setI s r 0 v) q = kx ad w s q)
    {f : ym_H → Option (α × ym_H)} {g : mt_S → Option (α × mt_S)} (kk : ∀ h1 s1, kt_B X ad0 ad w h0 s0 h1 s1 → kt_ok X ad0 h0 s0 (f h1) (g s1)) : kt_ok X ad0 h0 s0 (Option.bind (ym_pf h (some (ad0 key)) ci k (.int v)) f) (Option.bind (gm_pI s r v) g) := by
  have hX : kx ad w s key = some (.inr (ci, fs)) := by rw [kx_lt (by omega), hx]
  have hX1 : kx ad w (gm_setI s r 0 v) key = some (.inr (ci, fs1)) := by rw [kx_lt (by omega), hx1]
  have hst : kt_st key := Or.inl (by omega)
  have e1 : ym_pf h (some (ad0 key)) ci k (.int v) = some (ym_set h (ad key) (.inr (ci, fs1))) := by
    simp only [ym_pf, kt_rd hB hst hX, Option.bind_some, if_pos hlen, hset, Option.map_some, hB.2.2.2.2 key hst]
  rw [e1]
  exact kk _ _ (kt_wr hB hX hX1 ho rfl rfl (kt_wf_wr hB hX (fun fs' q => by cases q; exact hci rfl) rfl rfl rfl rfl (fun _ _ => rfl)))
theorem kt_room7W (hB : kt_B X ad0 ad w h0 s0 h s) {v : Int32} {f : ym_H → Option (α × ym_H)} {g : mt_S → Option (α × mt_S)} (kk : ∀ h1 s1, kt_B X ad0 ad w h0 s0 h1 s1 → kt_ok X ad0 h0 s0 (f h1) (g s1)) : kt_ok X ad0 h0 s0 (Option.bind (ym_pf h (some (ad0 0)) 7 7 (.int v)) f) (Option.bind (gm_pI s 0 v) g) :=
  kt_pfI hB (by decide) rfl rfl (by simp [gm_setI]) (Nat.le_of_ble_eq_true rfl) (by decide) (fun q hq => kx_setI (fun z => absurd z hq) (fun _ => by decide) (fun _ => by decide) (fun _ => by decide) (fun _ => by decide) (fun _ => by decide) (by decide) (by decide)) kk
theorem kt_room8W (hB : kt_B X ad0 ad w h0 s0 h s) {v : Int32} {f : ym_H → Option (α × ym_H)} {g : mt_S → Option (α × mt_S)} (kk : ∀ h1 s1, kt_B X ad0 ad w h0 s0 h1 s1 → kt_ok X ad0 h0 s0 (f h1) (g s1)) : kt_ok X ad0 h0 s0 (Option.bind (ym_pf h (some (ad0 0)) 7 8 (.int v)) f) (Option.bind (gm_pI s 1 v) g) :=
  kt_pfI hB (by decide) rfl rfl (by simp [gm_setI]) (Nat.le_of_ble_eq_true rfl) (by decide) (fun q hq => kx_setI (fun z => absurd z hq) (fun _ => by decide) (fun _ => by decide) (fun _ => by decide) (fun _ => by decide) (fun _ => by decide) (by decide) (by decide)) kk
theorem kt_room9W (hB : kt_B X ad0 ad w h0 s0 h s) {v : Int32} {f : ym_H → Option (α × ym_H)} {g : mt_S → Option (α × mt_S)} (kk : ∀ h1 s1, kt_B X ad0 ad w h0 s0 h1 s1 → kt_ok X ad0 h0 s0 (f h1) (g s1)) : kt_ok X ad0 h0 s0 (Option.bind (ym_pf h (some (ad0 0)) 7 9 (.int v)) f) (Option.bind (gm_pI s 2 v) g) :=
  kt_pfI hB (by decide) rfl rfl (by simp [gm_setI]) (Nat.le_of_ble_eq_true rfl) (by decide) (fun q hq => kx_setI (fun z => absurd z hq) (fun _ => by decide) (fun _ => by decide) (fun _ => by decide) (fun _ => by decide) (fun _ => by decide) (by decide) (by decide)) kk
theorem kt_jour3W (hB : kt_B X ad0 ad w h0 s0 h s) {v : Int32} {f : ym_H → Option (α × ym_H)} {g : mt_S → Option (α × mt_S)} (kk : ∀ h1 s1, kt_B X ad0 ad w h0 s0 h1 s1 → kt_ok X ad0 h0 s0 (f h1) (g s1)) : kt_ok X ad0 h0 s0 (Option.bind (ym_pf h (some (ad0 1)) 3 3 (.int v)) f) (Option.bind (gm_pI s 4 v) g) :=
  kt_pfI hB (by decide) rfl rfl (by simp [gm_setI]) (Nat.le_of_ble_eq_true rfl) (by decide) (fun q hq => kx_setI (fun _ => by decide) (fun z => absurd z hq) (fun _ => by decide) (fun _ => by decide) (fun _ => by decide) (fun _ => by decide) (by decide) (by decide)) kk
theorem kt_jour5W (hB : kt_B X ad0 ad w h0 s0 h s) {v : Int32} {f : ym_H → Option (α × ym_H)} {g : mt_S → Option (α × mt_S)} (kk : ∀ h1 s1, kt_B X ad0 ad w h0 s0 h1 s1 → kt_ok X ad0 h0 s0 (f h1) (g s1)) : kt_ok X ad0 h0 s0 (Option.bind (ym_pf h (some (ad0 1)) 3 5 (.int v)) f) (Option.bind (gm_pI s 5 v) g) :=
  kt_pfI hB (by decide) rfl rfl (by simp [gm_setI]) (Nat.le_of_ble_eq_true rfl) (by decide) (fun q hq => kx_setI (fun _ => by decide) (fun z => absurd z hq) (fun _ => by decide) (fun _ => by decide) (fun _ => by decide) (fun _ => by decide) (by decide) (by decide)) kk
theorem kt_bod2W (hB : kt_B X ad0 ad w h0 s0 h s) {v : Int32} {f : ym_H → Option (α × ym_H)} {g : mt_S → Option (α × mt_S)} (kk : ∀ h1 s1, kt_B X ad0 ad w h0 s0 h1 s1 → kt_ok X ad0 h0 s0 (f h1) (g s1)) : kt_ok X ad0 h0 s0 (Option.bind (ym_pf h (some (ad0 2)) 1 2 (.int v)) f) (Option.bind (gm_pI s 3 v) g) :=
  kt_pfI hB (by decide) rfl rfl (by simp [gm_setI]) (Nat.le_of_ble_eq_true rfl) (by decide) (fun q hq => kx_setI (fun _ => by decide) (fun _ => by decide) (fun z => absurd z hq) (fun _ => by decide) (fun _ => by decide) (fun _ => by decide) (by decide) (by decide)) kk
/-- a row of ints is written -/
theorem kt_stIg (hB : kt_B X ad0 ad w h0 s0 h s) {key r n : Nat} (hx : kx ad w s key = some (.inl (0, n, fun j => .int (s.1 r j)))) {i v : Int32} (hx1 : kx ad w (gm_setI s r i.toNatClampNeg v) key = some (.inl (0, n, fun j => .int ((gm_setI s r i.toNatClampNeg v).1 r j)))) (ho : ∀ q, q ≠ key → kx ad w (gm_setI s r i.toNatClampNeg v) q = kx ad w s q)
    {f : ym_H → Option (α × ym_H)} {g : mt_S → Option (α × mt_S)} (kk : ∀ h1 s1, kt_B X ad0 ad w h0 s0 h1 s1 → kt_ok X ad0 h0 s0 (f h1) (g s1)) : kt_ok X ad0 h0 s0 (Option.bind (ym_as h (some (ad key)) 0 i (.int v)) f) (Option.bind (gk_stI s r n i v) g) := by
  by_cases hi : i < 0 ∨ n ≤ i.toNatClampNeg
  · rw [show gk_stI s r n i v = none from if_pos hi]
    exact kt_no
  · rw [show gk_stI s r n i v = some (gm_setI s r i.toNatClampNeg v) from if_neg hi]
    have e1 : ym_as h (some (ad key)) 0 i (.int v) = some (ym_set h (ad key) (.inl (0, n, fun j => .int ((gm_setI s r i.toNatClampNeg v).1 r j)))) := by
      simp only [ym_as, kt_arT hB hx, Option.bind_some]
      rw [if_pos ⟨trivial, by decide, hi⟩]
      have ef : updV (fun j => Value.int (s.1 r j)) i.toNatClampNeg (.int v) = fun j => .int ((gm_setI s r i.toNatClampNeg v).1 r j) := by
        funext j
        by_cases q : j = i.toNatClampNeg
        · simp [updV, gm_setI, q]
        · simp [updV, gm_setI, q]
      rw [ef]
      rfl
    rw [e1]
    exact kk _ _ (kt_wr hB hx hx1 ho rfl rfl (kt_wf_wr hB hx (fun fs' q => by cases q) rfl rfl rfl rfl (fun _ _ => rfl)))
theorem kt_stLg (hB : kt_B X ad0 ad w h0 s0 h s) {key r n : Nat} (hx : kx ad w s key = some (.inl (1, n, fun j => .long (s.2.1 r j)))) {i : Int32} {v : Int64} (hx1 : kx ad w (gm_setL s r i.toNatClampNeg v) key = some (.inl (1, n, fun j => .long ((gm_setL s r i.toNatClampNeg v).2.1 r j)))) (ho : ∀ q, q ≠ key → kx ad w (gm_setL s r i.toNatClampNeg v) q = kx ad w s q)
    {f : ym_H → Option (α × ym_H)} {g : mt_S → Option (α × mt_S)} (kk : ∀ h1 s1, kt_B X ad0 ad w h0 s0 h1 s1 → kt_ok X ad0 h0 s0 (f h1) (g s1)) : kt_ok X ad0 h0 s0 (Option.bind (ym_as h (some (ad key)) 1 i (.long v)) f) (Option.bind (gk_stL s r n i v) g) := by
  by_cases hi : i < 0 ∨ n ≤ i.toNatClampNeg
  · rw [show gk_stL s r n i v = none from if_pos hi]
    exact kt_no
  · rw [show gk_stL s r n i v = some (gm_setL s r i.toNatClampNeg v) from if_neg hi]
    have e1 : ym_as h (some (ad key)) 1 i (.long v) = some (ym_set h (ad key) (.inl (1, n, fun j => .long ((gm_setL s r i.toNatClampNeg v).2.1 r j)))) := by
      simp only [ym_as, kt_arT hB hx, Option.bind_some]
      rw [if_pos ⟨trivial, by decide, hi⟩]
      have ef : updV (fun j => Value.long (s.2.1 r j)) i.toNatClampNeg (.long v) = fun j => .long ((gm_setL s r i.toNatClampNeg v).2.1 r j) := by
        funext j
        by_cases q : j = i.toNatClampNeg
        · simp [updV, gm_setL, q]
        · simp [updV, gm_setL, q]
      rw [ef]
      rfl
    rw [e1]
    exact kk _ _ (kt_wr hB hx hx1 ho rfl rfl (kt_wf_wr hB hx (fun fs' q => by cases q) rfl rfl rfl rfl (fun _ _ => rfl)))
theorem kt_ranW (hB : kt_B X ad0 ad w h0 s0 h s) {i v : Int32} {f : ym_H → Option (α × ym_H)} {g : mt_S → Option (α × mt_S)} (kk : ∀ h1 s1, kt_B X ad0 ad w h0 s0 h1 s1 → kt_ok X ad0 h0 s0 (f h1) (g s1)) : kt_ok X ad0 h0 s0 (Option.bind (ym_as h (some (ad0 7)) 0 i (.int v)) f) (Option.bind (gk_stI s 6 200 i v) g) := by
  rw [← hB.2.2.2.2 7 (Or.inl (by decide))]
  exact kt_stIg hB (kx_lt (by decide)) (kx_lt (by decide)) (fun q hq => kx_setI (fun _ => by decide) (fun _ => by decide) (fun _ => by decide) (fun z => absurd z hq) (fun _ => by decide) (fun _ => by decide) (by decide) (by decide)) kk
theorem kt_markW (hB : kt_B X ad0 ad w h0 s0 h s) {i v : Int32} {f : ym_H → Option (α × ym_H)} {g : mt_S → Option (α × mt_S)} (kk : ∀ h1 s1, kt_B X ad0 ad w h0 s0 h1 s1 → kt_ok X ad0 h0 s0 (f h1) (g s1)) : kt_ok X ad0 h0 s0 (Option.bind (ym_as h (some (ad0 11)) 0 i (.int v)) f) (Option.bind (gk_stI s 7 8 i v) g) := by
  rw [← hB.2.2.2.2 11 (Or.inr (Or.inl rfl))]
  exact kt_stIg hB (kx_lt (by decide)) (kx_lt (by decide)) (fun q hq => kx_setI (fun _ => by decide) (fun _ => by decide) (fun _ => by decide) (fun _ => by decide) (fun _ => by decide) (fun z => absurd z hq) (by decide) (by decide)) kk
theorem kt_whereW (hB : kt_B X ad0 ad w h0 s0 h s) {i v : Int32} {f : ym_H → Option (α × ym_H)} {g : mt_S → Option (α × mt_S)} (kk : ∀ h1 s1, kt_B X ad0 ad w h0 s0 h1 s1 → kt_ok X ad0 h0 s0 (f h1) (g s1)) : kt_ok X ad0 h0 s0 (Option.bind (ym_as h (some (ad 9)) 0 i (.int v)) f) (Option.bind (gk_stI s 10 (s.2.2 6) i v) g) :=
  kt_stIg hB (kx_lt (by decide)) (kx_lt (by decide)) (fun q hq => kx_setI (fun _ => by decide) (fun _ => by decide) (fun _ => by decide) (fun _ => by decide) (fun z => absurd z hq) (fun _ => by decide) (by decide) (by decide)) kk
theorem kt_beforeW (hB : kt_B X ad0 ad w h0 s0 h s) {i : Int32} {v : Int64} {f : ym_H → Option (α × ym_H)} {g : mt_S → Option (α × mt_S)} (kk : ∀ h1 s1, kt_B X ad0 ad w h0 s0 h1 s1 → kt_ok X ad0 h0 s0 (f h1) (g s1)) : kt_ok X ad0 h0 s0 (Option.bind (ym_as h (some (ad 10)) 1 i (.long v)) f) (Option.bind (gk_stL s 22 (s.2.2 7) i v) g) :=
  kt_stLg hB (kx_lt (by decide)) (kx_lt (by decide)) (fun q hq => kx_setL (fun z => absurd z hq) (fun _ _ => by omega) (by decide) (by decide)) kk
theorem kt_valW (hB : kt_B X ad0 ad w h0 s0 h s) {c : Nat} (hc : kt_cl s c = true ∧ c < 3000) {i : Int32} {v : Int64} {f : ym_H → Option (α × ym_H)} {g : mt_S → Option (α × mt_S)} (kk : ∀ h1 s1, kt_B X ad0 ad w h0 s0 h1 s1 → kt_ok X ad0 h0 s0 (f h1) (g s1)) : kt_ok X ad0 h0 s0 (Option.bind (ym_as h (some (ad (4000 + c))) 1 i (.long v)) f) (Option.bind (gk_stL s (100 + c) (s.2.2 (100 + c)) i v) g) :=
  kt_stLg hB (kx_val hc.1 hc.2) (kx_val (s := gm_setL s (100 + c) i.toNatClampNeg v) hc.1 hc.2) (fun q hq => kx_setL (fun z => by omega) (fun z1 z2 => by omega) (by omega) (by omega)) kk
end KT2
