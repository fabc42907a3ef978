/-! putting into a cell, with its note -/
section PU
variable {N : Nat} {k0 k : mt_S} {D : pd} {J0 E : List je} {cs : List Int32} {g n : Nat}
theorem cl_same {k k1 : mt_S} (h2 : k1.2.2 2 = k.2.2 2) (h3 : k1.2.2 3 = k.2.2 3) (c : Nat) : kt_cl k1 c = kt_cl k c := by unfold kt_cl; rw [h2, h3]
theorem cel_lt {c : Nat} (h : kt_cl k c = true) (h1 : k.2.2 3 ≤ 200) (h2 : k.2.2 2 ≤ 400) : c < 3000 := by
  unfold kt_cl at h
  simp only [Bool.or_eq_true, Bool.and_eq_true, decide_eq_true_eq] at h
  omega
/-- k1 is k but for the journal -/
def sj (k k1 : mt_S) : Prop := (∀ r, r ≠ 4 → r ≠ 10 → k1.1 r = k.1 r) ∧ (∀ r, r ≠ 22 → k1.2.1 r = k.2.1 r) ∧ (∀ q, q ≠ 0 → q ≠ 1 → q ≠ 4 → q ≠ 5 → q ≠ 6 → q ≠ 7 → q < 5000 → k1.2.2 q = k.2.2 q)
theorem sj.a {k k1 : mt_S} (z : sj k k1) : ∀ r, r ≠ 4 → r ≠ 10 → k1.1 r = k.1 r := z.1
theorem sj.b {k k1 : mt_S} (z : sj k k1) : ∀ r, r ≠ 22 → k1.2.1 r = k.2.1 r := z.2.1
theorem sj.c {k k1 : mt_S} (z : sj k k1) : ∀ q, q ≠ 0 → q ≠ 1 → q ≠ 4 → q ≠ 5 → q ≠ 6 → q ≠ 7 → q < 5000 → k1.2.2 q = k.2.2 q := z.2.2
theorem sj_V {k k1 : mt_S} (h : sj k k1) : Vk k1 = Vk k := by
  funext c p
  unfold Vk
  by_cases z : c < 3000
  · rw [h.b (100 + c) (by omega), h.c (100 + c) (by omega) (by omega) (by omega) (by omega) (by omega) (by omega) (by omega)]
  · rw [if_neg (fun y => z y.1), if_neg (fun y => z y.1)]
theorem sj_tr {k k1 k2 : mt_S} (h : sj k k1) (h' : sj k1 k2) : sj k k2 :=
  ⟨fun r a b => (h'.a r a b).trans (h.a r a b), fun r a => (h'.b r a).trans (h.b r a), fun q a b c d e f i => (h'.c q a b c d e f i).trans (h.c q a b c d e f i)⟩
def nteS (k : mt_S) (m c p : Nat) (v : Int64) : mt_S := gm_setI (gm_setL (gm_setI (k.1, k.2.1, fun q => if q = 5000 + m then c else if q = 5 then (if k.2.2 5 = m then m + 1 else k.2.2 5) else k.2.2 q) 10 m (nI p)) 22 m v) 4 0 (nI (m + 1))
theorem k_nt95 {J : List je} {c p : Nat} {v : Int64} (h : jr k J) (hJ : J.length < 60000) (hc : kt_cl k c = true ∧ c < 3000) (hcap : J.length < k.2.2 0) : gkb_X3_note_95 N c (nI p) v k = some ((), nteS k J.length c p v) := by
  obtain ⟨c1, c2, c3, c4, c5, c6⟩ := h.cap
  unfold gkb_X3_note_95
  rw [show gk_cel k c = some () from if_pos hc, Option.bind_some, h.ln]
  have w : gk_whoW k (nI J.length) c = some (k.1, k.2.1, fun q => if q = 5000 + J.length then c else if q = 5 then (if k.2.2 5 = J.length then J.length + 1 else k.2.2 5) else k.2.2 q) := by
    unfold gk_whoW
    rw [cz_nat (by omega), if_neg]
    rintro (z | z | z | z)
    · exact cz_nn (by omega) z
    · omega
    · omega
    · exact z hc
  rw [w, Option.bind_some]
  rw [show ((k.1, k.2.1, fun q => if q = 5000 + J.length then c else if q = 5 then (if k.2.2 5 = J.length then J.length + 1 else k.2.2 5) else k.2.2 q) : mt_S).1 4 0 = nI J.length from h.ln]
  rw [gk_wrI (by show J.length < (if 6 = 5000 + J.length then c else if 6 = 5 then _ else k.2.2 6); rw [if_neg (by omega), if_neg (by omega)]; omega) (by omega), Option.bind_some]
  rw [show (gm_setI ((k.1, k.2.1, fun q => if q = 5000 + J.length then c else if q = 5 then (if k.2.2 5 = J.length then J.length + 1 else k.2.2 5) else k.2.2 q) : mt_S) 10 J.length (nI p)).1 4 0 = nI J.length from h.ln]
  rw [gk_wrL (by show J.length < (if 7 = 5000 + J.length then c else if 7 = 5 then _ else k.2.2 7); rw [if_neg (by omega), if_neg (by omega)]; omega) (by omega), Option.bind_some, pI_e, Option.bind_some]
  rw [show (gm_setL (gm_setI ((k.1, k.2.1, fun q => if q = 5000 + J.length then c else if q = 5 then (if k.2.2 5 = J.length then J.length + 1 else k.2.2 5) else k.2.2 q) : mt_S) 10 J.length (nI p)) 22 J.length v).1 4 0 = nI J.length from h.ln, show (1 : Int32) = nI 1 from rfl, cz_add]
  rfl
theorem nte_sj {m c p : Nat} {v : Int64} : sj k (nteS k m c p v) := by
  refine ⟨?_, ?_, ?_⟩
  · intro r a b
    unfold nteS
    rw [fne_I a]
    show (gm_setI _ 10 m (nI p)).1 r = k.1 r
    rw [fne_I b]
  · intro r a
    unfold nteS
    exact fne_L a
  · intro q _ _ _ e _ _ i
    show (if q = 5000 + m then c else if q = 5 then _ else k.2.2 q) = _
    rw [if_neg (by omega), if_neg e]
theorem nte_jr {J : List je} {c p : Nat} {v : Int64} (h : jr k J) (hc : kt_cl k c = true ∧ c < 3000) (hp : p < k.2.2 (100 + c)) (hd : k.2.2 3 ≤ 200 ∧ k.2.2 2 ≤ 400) (hcap : J.length < k.2.2 0) : jr (nteS k J.length c p v) ((c, p, v) :: J) ∧ (nteS k J.length c p v).2.2 0 = k.2.2 0 ∧ (nteS k J.length c p v).2.2 1 = k.2.2 1 ∧ (nteS k J.length c p v).2.2 4 = k.2.2 4 := by
  obtain ⟨c1, c2, c3, c4, c5, c6⟩ := h.cap
  have L : ∀ q, q ≠ 5 → q < 5000 → (nteS k J.length c p v).2.2 q = k.2.2 q := by
    intro q a b
    show (if q = 5000 + J.length then c else if q = 5 then _ else k.2.2 q) = _
    rw [if_neg (by omega), if_neg a]
  have L5 : (nteS k J.length c p v).2.2 5 = if k.2.2 5 = J.length then J.length + 1 else k.2.2 5 := by
    show (if 5 = 5000 + J.length then c else if 5 = 5 then _ else k.2.2 5) = _
    rw [if_neg (by omega), if_pos rfl]
  have S := nte_sj (k := k) (m := J.length) (c := c) (p := p) (v := v)
  refine ⟨⟨sI_same, ?_, ?_, ?_⟩, L 0 (by omega) (by omega), L 1 (by omega) (by omega), L 4 (by omega) (by omega)⟩
  · rw [L 6 (by omega) (by omega), L 7 (by omega) (by omega), L 0 (by omega) (by omega), L5, List.length_cons]
    refine ⟨c1, c2, c3, by omega, ?_, ?_⟩
    · split <;> omega
    · split <;> omega
  · intro e J' hs
    rw [List.suffix_cons_iff] at hs
    rcases hs with z | z
    · injection z with z1 z2
      subst z1 z2
      refine ⟨?_, ?_, ?_⟩
      · show (if 5000 + J'.length = 5000 + J'.length then c else _) = c
        rw [if_pos rfl]
      · simp [nteS, gm_setI, gm_setL]
      · simp [nteS, gm_setI, gm_setL]
    · have lt : J'.length < J.length := by
        have := z.length_le
        rw [List.length_cons] at this
        omega
      obtain ⟨y1, y2, y3⟩ := h.en e J' z
      refine ⟨?_, ?_, ?_⟩
      · show (if 5000 + J'.length = 5000 + J.length then c else if 5000 + J'.length = 5 then _ else k.2.2 (5000 + J'.length)) = e.1
        rw [if_neg (by omega), if_neg (by omega)]; exact y1
      · rw [← y2]
        dsimp only [nteS, gm_setI, gm_setL]
        rw [if_neg (by omega), if_neg (by omega)]
      · rw [← y3]
        dsimp only [nteS, gm_setI, gm_setL]
        rw [if_neg (by omega)]
  · intro e he
    rw [cl_same (L 2 (by omega) (by omega)) (L 3 (by omega) (by omega))]
    rcases List.mem_cons.mp he with z | z
    · rw [z]
      refine ⟨hc.1, ?_⟩
      show p < (nteS k J.length c p v).2.2 (100 + c)
      rw [L (100 + c) (by omega) (by omega)]; exact hp
    · obtain ⟨y1, y2⟩ := h.ok e z
      have := cel_lt y1 hd.1 hd.2
      refine ⟨y1, ?_⟩
      rw [L (100 + e.1) (by omega) (by omega)]; exact y2
/-- the journal made wider -/
def gjS (k : mt_S) : mt_S := (fun r j => if r = 10 ∧ k.2.2 0 ≤ j then 0 else k.1 r j, fun r j => if r = 22 ∧ k.2.2 0 ≤ j then 0 else k.2.1 r j, fun q => if q = 0 ∨ q = 6 ∨ q = 7 then 2 * k.2.2 0 else if q = 1 then k.2.2 1 + 6 * k.2.2 0 else if q = 4 then k.2.2 4 + 3 else k.2.2 q)
theorem k_gj {J : List je} (h : jr k J) (hJ : J.length = k.2.2 0) (hs : J.length ≤ 60000) {β : Type} {f : mt_S → Option β} : (Option.bind (gk_growH k) fun t58 => Option.bind (gk_growW t58 (2 * (t58.1 4 0))) fun t75 => Option.bind (gk_growB t75 (2 * (t75.1 4 0))) f) = f (gjS k) := by
  obtain ⟨c1, c2, c3, c4, c5, c6⟩ := h.cap
  have g1 : gk_growH k = some (k.1, k.2.1, fun q => if q = 0 then 2 * k.2.2 0 else if q = 1 then k.2.2 1 + 2 * k.2.2 0 else if q = 4 then k.2.2 4 + 1 else k.2.2 q) := by
    unfold gk_growH
    rw [if_pos ⟨by rw [h.ln, hJ], by omega, by omega, c6⟩]
  rw [g1, Option.bind_some]
  have l2 : (2 : Int32) * nI J.length = nI (2 * k.2.2 0) := by rw [show (2 : Int32) = nI 2 from rfl, cz_mul, hJ]
  rw [show ((k.1, k.2.1, fun q => if q = 0 then 2 * k.2.2 0 else if q = 1 then k.2.2 1 + 2 * k.2.2 0 else if q = 4 then k.2.2 4 + 1 else k.2.2 q) : mt_S).1 4 0 = nI J.length from h.ln, l2]
  have g2 : gk_growW (k.1, k.2.1, fun q => if q = 0 then 2 * k.2.2 0 else if q = 1 then k.2.2 1 + 2 * k.2.2 0 else if q = 4 then k.2.2 4 + 1 else k.2.2 q) (nI (2 * k.2.2 0)) = some (fun r j => if r = 10 ∧ k.2.2 0 ≤ j then 0 else k.1 r j, k.2.1, fun q => if q = 0 ∨ q = 6 then 2 * k.2.2 0 else if q = 1 then k.2.2 1 + 4 * k.2.2 0 else if q = 4 then k.2.2 4 + 2 else k.2.2 q) := by
    unfold gk_growW
    rw [cz_nat (by omega), if_pos ⟨cz_nn (by omega), by dsimp only; rw [if_neg (by omega), if_neg (by omega), if_neg (by omega)]; omega, by omega⟩]
    congr 1
    refine Prod.ext ?_ (Prod.ext rfl ?_)
    · funext r j
      show (if r = 10 ∧ k.2.2 6 ≤ j then (0 : Int32) else k.1 r j) = _
      rw [c1]
    · funext q
      dsimp only
      (repeat' split) <;> omega
  rw [g2, Option.bind_some]
  have e4 : ((fun r j => if r = 10 ∧ k.2.2 0 ≤ j then 0 else k.1 r j, k.2.1, fun q => if q = 0 ∨ q = 6 then 2 * k.2.2 0 else if q = 1 then k.2.2 1 + 4 * k.2.2 0 else if q = 4 then k.2.2 4 + 2 else k.2.2 q) : mt_S).1 4 0 = nI J.length := by
    dsimp only
    rw [if_neg (by omega)]; exact h.ln
  rw [e4, l2]
  have g3 : gk_growB (fun r j => if r = 10 ∧ k.2.2 0 ≤ j then 0 else k.1 r j, k.2.1, fun q => if q = 0 ∨ q = 6 then 2 * k.2.2 0 else if q = 1 then k.2.2 1 + 4 * k.2.2 0 else if q = 4 then k.2.2 4 + 2 else k.2.2 q) (nI (2 * k.2.2 0)) = some (gjS k) := by
    unfold gk_growB
    rw [cz_nat (by omega), if_pos ⟨cz_nn (by omega), by dsimp only; rw [if_neg (by omega), if_neg (by omega), if_neg (by omega)]; omega, by omega⟩]
    congr 1
    refine Prod.ext rfl (Prod.ext ?_ ?_)
    · funext r j
      show (if r = 22 ∧ k.2.2 7 ≤ j then (0 : Int64) else k.2.1 r j) = _
      rw [c2]
      rfl
    · funext q
      dsimp only [gjS]
      (repeat' split) <;> omega
  rw [g3, Option.bind_some]
theorem gj_sj : sj k (gjS k) := by
  refine ⟨?_, ?_, ?_⟩
  · intro r a b
    funext j
    dsimp only [gjS]
    rw [if_neg (fun z => b z.1)]
  · intro r a
    funext j
    dsimp only [gjS]
    rw [if_neg (fun z => a z.1)]
  · intro q a b c d e f i
    dsimp only [gjS]
    rw [if_neg (by omega), if_neg b, if_neg c]
theorem gj_sj4 : (gjS k).1 4 0 = k.1 4 0 := rfl
theorem gj_jr {J : List je} (h : jr k J) (hd : k.2.2 3 ≤ 200 ∧ k.2.2 2 ≤ 400) : jr (gjS k) J ∧ (gjS k).2.2 0 = 2 * k.2.2 0 ∧ (gjS k).2.2 1 = k.2.2 1 + 6 * k.2.2 0 ∧ (gjS k).2.2 4 = k.2.2 4 + 3 := by
  obtain ⟨c1, c2, c3, c4, c5, c6⟩ := h.cap
  have S := gj_sj (k := k)
  have L0 : (gjS k).2.2 0 = 2 * k.2.2 0 := rfl
  have L6 : (gjS k).2.2 6 = 2 * k.2.2 0 := rfl
  have L7 : (gjS k).2.2 7 = 2 * k.2.2 0 := rfl
  have L5 : (gjS k).2.2 5 = k.2.2 5 := rfl
  refine ⟨⟨?_, ?_, ?_, ?_⟩, L0, rfl, rfl⟩
  · rw [gj_sj4]; exact h.ln
  · rw [L6, L7, L0, L5]
    exact ⟨rfl, rfl, by omega, by omega, c5, by omega⟩
  · intro e J' hs
    have lt : J'.length < J.length := by
      have := hs.length_le
      rw [List.length_cons] at this
      omega
    obtain ⟨y1, y2, y3⟩ := h.en e J' hs
    refine ⟨?_, ?_, ?_⟩
    · show (if 5000 + J'.length = 0 ∨ _ ∨ _ then _ else if 5000 + J'.length = 1 then _ else if 5000 + J'.length = 4 then _ else k.2.2 (5000 + J'.length)) = _
      rw [if_neg (by omega), if_neg (by omega), if_neg (by omega)]; exact y1
    · dsimp only [gjS]
      rw [if_neg (by omega)]; exact y2
    · dsimp only [gjS]
      rw [if_neg (by omega)]; exact y3
  · intro e he
    obtain ⟨y1, y2⟩ := h.ok e he
    have := cel_lt y1 hd.1 hd.2
    rw [cl_same (S.c 2 (by omega) (by omega) (by omega) (by omega) (by omega) (by omega) (by omega)) (S.c 3 (by omega) (by omega) (by omega) (by omega) (by omega) (by omega) (by omega)), S.c (100 + e.1) (by omega) (by omega) (by omega) (by omega) (by omega) (by omega) (by omega)]
    exact ⟨y1, y2⟩
/-- a note, while a batch is open -/
theorem k_note {J : List je} {c p : Nat} {v : Int64} (h : jr k J) (hJ : J.length < 60000) (hK : k.2.2 0 ≤ 100000) (hd : k.2.2 3 ≤ 200 ∧ k.2.2 2 ≤ 400) (hc : kt_cl k c = true ∧ c < 3000) (hp : p < k.2.2 (100 + c)) (hdp : k.1 5 0 ≠ 0) : ∃ k1, gk_X3_note N c (nI p) v k = some ((), k1) ∧ sj k k1 ∧ jr k1 ((c, p, v) :: J) ∧ ((k1.2.2 0 = k.2.2 0 ∧ k1.2.2 1 = k.2.2 1 ∧ k1.2.2 4 = k.2.2 4) ∨ (J.length = k.2.2 0 ∧ k1.2.2 0 = 2 * k.2.2 0 ∧ k1.2.2 1 = k.2.2 1 + 6 * k.2.2 0 ∧ k1.2.2 4 = k.2.2 4 + 3)) := by
  obtain ⟨c1, c2, c3, c4, c5, c6⟩ := h.cap
  unfold gk_X3_note
  rw [if_neg hdp, h.ln, if_pos (by rw [show (65536 : Int32) = nI 65536 from rfl, cz_lt (by omega) (by omega)]; omega)]
  by_cases z : J.length < k.2.2 0
  · rw [if_pos (show nI J.length < Int32.ofNat (k.2.2 0) from (cz_lt (by omega) (by omega)).mpr z), k_nt95 h (by omega) hc z]
    obtain ⟨n1, n2, n3, n4⟩ := nte_jr (v := v) h hc hp hd z
    exact ⟨_, rfl, nte_sj, n1, Or.inl ⟨n2, n3, n4⟩⟩
  · have ez : J.length = k.2.2 0 := by omega
    rw [if_neg (show ¬ nI J.length < Int32.ofNat (k.2.2 0) from fun y => z ((cz_lt (by omega) (by omega)).mp y)), k_gj h ez (by omega)]
    obtain ⟨g1, g2, g3, g4⟩ := gj_jr h hd
    have S := gj_sj (k := k)
    have s2 := S.c 2 (by omega) (by omega) (by omega) (by omega) (by omega) (by omega) (by omega)
    have s3 := S.c 3 (by omega) (by omega) (by omega) (by omega) (by omega) (by omega) (by omega)
    have hc' : kt_cl (gjS k) c = true ∧ c < 3000 := ⟨by rw [cl_same s2 s3]; exact hc.1, hc.2⟩
    have hp' : p < (gjS k).2.2 (100 + c) := by rw [S.c (100 + c) (by omega) (by omega) (by omega) (by omega) (by omega) (by omega) (by omega)]; exact hp
    rw [k_nt95 g1 (by omega) hc' (by omega)]
    obtain ⟨n1, n2, n3, n4⟩ := nte_jr (v := v) g1 hc' hp' (by rw [s2, s3]; exact hd) (by omega)
    exact ⟨_, rfl, sj_tr S nte_sj, n1, Or.inr ⟨ez, by omega, by omega, by omega⟩⟩
end PU
