/-! a lot is made -/
def KL (l : Nat) : List Nat := [10000 + l, 1000 + (203 + 4 * l), 4000 + (203 + 4 * l), 7000 + (204 + 4 * l), 1000 + (204 + 4 * l), 4000 + (204 + 4 * l), 7000 + (205 + 4 * l), 1000 + (205 + 4 * l), 4000 + (205 + 4 * l), 7000 + (206 + 4 * l), 1000 + (206 + 4 * l), 4000 + (206 + 4 * l)]
def nwL (s : mt_S) (l m : Nat) (kd : Int32) (x y : Int64) : mt_S := (fun r j => if r = 8 ∧ j = l then kd else s.1 r j, fun r j => if r = 20 ∧ j = l then y else if r = 100 + (203 + 4 * l) then (if j = 11 then -1 else if j = 0 then x else 0) else if r = 100 + (204 + 4 * l) ∨ r = 100 + (205 + 4 * l) ∨ r = 100 + (206 + 4 * l) then 0 else s.2.1 r j, fun q => if q = 2 then (if s.2.2 2 = l then l + 1 else s.2.2 2) else if q = 100 + (203 + 4 * l) then 14 else if q = 100 + (204 + 4 * l) then 5 else if q = 100 + (205 + 4 * l) then 7 else if q = 100 + (206 + 4 * l) then 3 else if q = 1 then s.2.2 1 + 49 else if q = 4 then s.2.2 4 + 12 else if q = 5 then m else s.2.2 q)
def eL (ad : Nat → Nat) (h : ym_H) (kd : Int32) (x y : Int64) : List ym_E := [.inr (4, [.int kd, .long y, .ref (h.1 + 1), .ref (h.1 + 3), .ref (h.1 + 6), .ref (h.1 + 9)]), .inr (2, [.ref (ad 1), .ref (h.1 + 2)]), .inl (1, 14, updV (updV (fun _ => .long 0) 0 (.long x)) 11 (.long (-1))), .inr (5, [.ref (h.1 + 4), .int 2]), .inr (2, [.ref (ad 1), .ref (h.1 + 5)]), .inl (1, 5, fun _ => .long 0), .inr (5, [.ref (h.1 + 7), .int 3]), .inr (2, [.ref (ad 1), .ref (h.1 + 8)]), .inl (1, 7, fun _ => .long 0), .inr (5, [.ref (h.1 + 10), .int 1]), .inr (2, [.ref (ad 1), .ref (h.1 + 11)]), .inl (1, 3, fun _ => .long 0)]
def hpL (ad : Nat → Nat) (h : ym_H) (s : mt_S) (l : Nat) (kd : Int32) (x y : Int64) : ym_H := ym_set (ext h 12 (eL ad h kd x y) 49) (ad 6) (.inl (4, 400, updV (fun j => if j < s.2.2 2 then .ref (ad (10000 + j)) else .null) l (.ref h.1)))
section NL
variable {X : Nat → Prop} {M N : Nat} {h0 h : ym_H} {s0 s s2 : mt_S} {ad : Nat → Nat} {w : Nat → Value} {l m q r j : Nat} {kd : Int32} {x y v : Int64}
theorem nKL (h0 : q ≠ 10000 + l) (h1 : q ≠ 1000 + (203 + 4 * l)) (h2 : q ≠ 4000 + (203 + 4 * l)) (h3 : q ≠ 7000 + (204 + 4 * l)) (h4 : q ≠ 1000 + (204 + 4 * l)) (h5 : q ≠ 4000 + (204 + 4 * l)) (h6 : q ≠ 7000 + (205 + 4 * l)) (h7 : q ≠ 1000 + (205 + 4 * l)) (h8 : q ≠ 4000 + (205 + 4 * l)) (h9 : q ≠ 7000 + (206 + 4 * l)) (h10 : q ≠ 1000 + (206 + 4 * l)) (h11 : q ≠ 4000 + (206 + 4 * l)) : nK (KL l) q := show q ≠ 10000 + l ∧ q ≠ 1000 + (203 + 4 * l) ∧ q ≠ 4000 + (203 + 4 * l) ∧ q ≠ 7000 + (204 + 4 * l) ∧ q ≠ 1000 + (204 + 4 * l) ∧ q ≠ 4000 + (204 + 4 * l) ∧ q ≠ 7000 + (205 + 4 * l) ∧ q ≠ 1000 + (205 + 4 * l) ∧ q ≠ 4000 + (205 + 4 * l) ∧ q ≠ 7000 + (206 + 4 * l) ∧ q ≠ 1000 + (206 + 4 * l) ∧ q ≠ 4000 + (206 + 4 * l) ∧ True from ⟨h0, h1, h2, h3, h4, h5, h6, h7, h8, h9, h10, h11, trivial⟩
theorem nKL' (hq : nK (KL l) q) : q ≠ 10000 + l ∧ q ≠ 1000 + (203 + 4 * l) ∧ q ≠ 4000 + (203 + 4 * l) ∧ q ≠ 7000 + (204 + 4 * l) ∧ q ≠ 1000 + (204 + 4 * l) ∧ q ≠ 4000 + (204 + 4 * l) ∧ q ≠ 7000 + (205 + 4 * l) ∧ q ≠ 1000 + (205 + 4 * l) ∧ q ≠ 4000 + (205 + 4 * l) ∧ q ≠ 7000 + (206 + 4 * l) ∧ q ≠ 1000 + (206 + 4 * l) ∧ q ≠ 4000 + (206 + 4 * l) := by
  have t : q ≠ 10000 + l ∧ q ≠ 1000 + (203 + 4 * l) ∧ q ≠ 4000 + (203 + 4 * l) ∧ q ≠ 7000 + (204 + 4 * l) ∧ q ≠ 1000 + (204 + 4 * l) ∧ q ≠ 4000 + (204 + 4 * l) ∧ q ≠ 7000 + (205 + 4 * l) ∧ q ≠ 1000 + (205 + 4 * l) ∧ q ≠ 4000 + (205 + 4 * l) ∧ q ≠ 7000 + (206 + 4 * l) ∧ q ≠ 1000 + (206 + 4 * l) ∧ q ≠ 4000 + (206 + 4 * l) ∧ True := hq
  obtain ⟨t0, t1, t2, t3, t4, t5, t6, t7, t8, t9, t10, t11, -⟩ := t
  exact ⟨t0, t1, t2, t3, t4, t5, t6, t7, t8, t9, t10, t11⟩
theorem fL0 (hl : l < 400) : fK (KL l) (10000 + l) = some 0 := fK_y
theorem fL1 (hl : l < 400) : fK (KL l) (1000 + (203 + 4 * l)) = some 1 := fK_x (by omega) fK_y
theorem fL2 (hl : l < 400) : fK (KL l) (4000 + (203 + 4 * l)) = some 2 := fK_x (by omega) (fK_x (by omega) fK_y)
theorem fL3 (hl : l < 400) : fK (KL l) (7000 + (204 + 4 * l)) = some 3 := fK_x (by omega) (fK_x (by omega) (fK_x (by omega) fK_y))
theorem fL4 (hl : l < 400) : fK (KL l) (1000 + (204 + 4 * l)) = some 4 := fK_x (by omega) (fK_x (by omega) (fK_x (by omega) (fK_x (by omega) fK_y)))
theorem fL5 (hl : l < 400) : fK (KL l) (4000 + (204 + 4 * l)) = some 5 := fK_x (by omega) (fK_x (by omega) (fK_x (by omega) (fK_x (by omega) (fK_x (by omega) fK_y))))
theorem fL6 (hl : l < 400) : fK (KL l) (7000 + (205 + 4 * l)) = some 6 := fK_x (by omega) (fK_x (by omega) (fK_x (by omega) (fK_x (by omega) (fK_x (by omega) (fK_x (by omega) fK_y)))))
theorem fL7 (hl : l < 400) : fK (KL l) (1000 + (205 + 4 * l)) = some 7 := fK_x (by omega) (fK_x (by omega) (fK_x (by omega) (fK_x (by omega) (fK_x (by omega) (fK_x (by omega) (fK_x (by omega) fK_y))))))
theorem fL8 (hl : l < 400) : fK (KL l) (4000 + (205 + 4 * l)) = some 8 := fK_x (by omega) (fK_x (by omega) (fK_x (by omega) (fK_x (by omega) (fK_x (by omega) (fK_x (by omega) (fK_x (by omega) (fK_x (by omega) fK_y)))))))
theorem fL9 (hl : l < 400) : fK (KL l) (7000 + (206 + 4 * l)) = some 9 := fK_x (by omega) (fK_x (by omega) (fK_x (by omega) (fK_x (by omega) (fK_x (by omega) (fK_x (by omega) (fK_x (by omega) (fK_x (by omega) (fK_x (by omega) fK_y))))))))
theorem fL10 (hl : l < 400) : fK (KL l) (1000 + (206 + 4 * l)) = some 10 := fK_x (by omega) (fK_x (by omega) (fK_x (by omega) (fK_x (by omega) (fK_x (by omega) (fK_x (by omega) (fK_x (by omega) (fK_x (by omega) (fK_x (by omega) (fK_x (by omega) fK_y)))))))))
theorem fL11 (hl : l < 400) : fK (KL l) (4000 + (206 + 4 * l)) = some 11 := fK_x (by omega) (fK_x (by omega) (fK_x (by omega) (fK_x (by omega) (fK_x (by omega) (fK_x (by omega) (fK_x (by omega) (fK_x (by omega) (fK_x (by omega) (fK_x (by omega) (fK_x (by omega) fK_y))))))))))
theorem nwL_i (hr : r ≠ 8) : (nwL s l m kd x y).1 r = s.1 r := by
  funext j
  exact if_neg (fun z => hr z.1)
theorem nwL_8 (hj : j ≠ l) : (nwL s l m kd x y).1 8 j = s.1 8 j := if_neg (fun z => hj z.2)
theorem nwL_8l : (nwL s l m kd x y).1 8 l = kd := if_pos ⟨rfl, rfl⟩
theorem nwL_l (h1 : r ≠ 20) (h2 : r < 100 + (203 + 4 * l) ∨ 100 + (206 + 4 * l) < r) : (nwL s l m kd x y).2.1 r = s.2.1 r := by
  funext j
  show (if r = 20 ∧ j = l then y else if r = 100 + (203 + 4 * l) then _ else if r = 100 + (204 + 4 * l) ∨ r = 100 + (205 + 4 * l) ∨ r = 100 + (206 + 4 * l) then 0 else s.2.1 r j) = _
  rw [if_neg (fun z => h1 z.1), if_neg (by omega), if_neg (by omega)]
theorem nwL_20 (hj : j ≠ l) : (nwL s l m kd x y).2.1 20 j = s.2.1 20 j := by
  show (if 20 = 20 ∧ j = l then y else if 20 = 100 + (203 + 4 * l) then _ else if 20 = 100 + (204 + 4 * l) ∨ 20 = 100 + (205 + 4 * l) ∨ 20 = 100 + (206 + 4 * l) then 0 else s.2.1 20 j) = _
  rw [if_neg (fun z => hj z.2), if_neg (by omega), if_neg (by omega)]
theorem nwL_20l : (nwL s l m kd x y).2.1 20 l = y := if_pos ⟨rfl, rfl⟩
theorem nwL_v0 : (nwL s l m kd x y).2.1 (100 + (203 + 4 * l)) j = if j = 11 then -1 else if j = 0 then x else 0 := by
  show (if 100 + (203 + 4 * l) = 20 ∧ j = l then y else if 100 + (203 + 4 * l) = 100 + (203 + 4 * l) then _ else _) = _
  rw [if_neg (by omega), if_pos rfl]
theorem nwL_v (hr : r = 100 + (204 + 4 * l) ∨ r = 100 + (205 + 4 * l) ∨ r = 100 + (206 + 4 * l)) : (nwL s l m kd x y).2.1 r = fun _ => 0 := by
  funext j
  show (if r = 20 ∧ j = l then y else if r = 100 + (203 + 4 * l) then _ else if r = 100 + (204 + 4 * l) ∨ r = 100 + (205 + 4 * l) ∨ r = 100 + (206 + 4 * l) then 0 else _) = _
  rw [if_neg (by omega), if_neg (by omega), if_pos hr]
theorem nwL_N : (nwL s l m kd x y).2.2 q = if q = 2 then (if s.2.2 2 = l then l + 1 else s.2.2 2) else if q = 100 + (203 + 4 * l) then 14 else if q = 100 + (204 + 4 * l) then 5 else if q = 100 + (205 + 4 * l) then 7 else if q = 100 + (206 + 4 * l) then 3 else if q = 1 then s.2.2 1 + 49 else if q = 4 then s.2.2 4 + 12 else if q = 5 then m else s.2.2 q := rfl
theorem nwL_n (h2 : q ≠ 2) (hc : q < 100 + (203 + 4 * l) ∨ 100 + (206 + 4 * l) < q) (h1 : q ≠ 1) (h4 : q ≠ 4) (h5 : q ≠ 5) : (nwL s l m kd x y).2.2 q = s.2.2 q := by
  rw [nwL_N, if_neg h2, if_neg (by omega), if_neg (by omega), if_neg (by omega), if_neg (by omega), if_neg h1, if_neg h4, if_neg h5]
theorem nwL_2 : (nwL s l m kd x y).2.2 2 = if s.2.2 2 = l then l + 1 else s.2.2 2 := rfl
theorem nwL_c203 : (nwL s l m kd x y).2.2 (100 + (203 + 4 * l)) = 14 := by
  rw [nwL_N, if_neg (by omega), if_pos rfl]
theorem nwL_c204 : (nwL s l m kd x y).2.2 (100 + (204 + 4 * l)) = 5 := by
  rw [nwL_N, if_neg (by omega), if_neg (by omega), if_pos rfl]
theorem nwL_c205 : (nwL s l m kd x y).2.2 (100 + (205 + 4 * l)) = 7 := by
  rw [nwL_N, if_neg (by omega), if_neg (by omega), if_neg (by omega), if_pos rfl]
theorem nwL_c206 : (nwL s l m kd x y).2.2 (100 + (206 + 4 * l)) = 3 := by
  rw [nwL_N, if_neg (by omega), if_neg (by omega), if_neg (by omega), if_neg (by omega), if_pos rfl]
theorem nwL_1 : (nwL s l m kd x y).2.2 1 = s.2.2 1 + 49 := by
  rw [nwL_N, if_neg (by omega), if_neg (by omega), if_neg (by omega), if_neg (by omega), if_neg (by omega), if_pos rfl]
theorem nwL_4 : (nwL s l m kd x y).2.2 4 = s.2.2 4 + 12 := by
  rw [nwL_N, if_neg (by omega), if_neg (by omega), if_neg (by omega), if_neg (by omega), if_neg (by omega), if_neg (by omega), if_pos rfl]
theorem nwL_5 : (nwL s l m kd x y).2.2 5 = m := by
  rw [nwL_N, if_neg (by omega), if_neg (by omega), if_neg (by omega), if_neg (by omega), if_neg (by omega), if_neg (by omega), if_neg (by omega), if_pos rfl]
theorem nwL_2c (hb : l ≤ s.2.2 2) : ((nwL s l m kd x y).2.2 2 = s.2.2 2 ∧ l < s.2.2 2) ∨ ((nwL s l m kd x y).2.2 2 = l + 1 ∧ s.2.2 2 = l) := by
  rw [nwL_2]
  by_cases z : s.2.2 2 = l
  · rw [if_pos z]; exact Or.inr ⟨rfl, z⟩
  · rw [if_neg z]; exact Or.inl ⟨rfl, by omega⟩
theorem nwL_3 : (nwL s l m kd x y).2.2 3 = s.2.2 3 := nwL_n (by omega) (by omega) (by omega) (by omega) (by omega)
theorem nwL_cl {c : Nat} (hb : l ≤ s.2.2 2) (hc : c < 203 + 4 * l ∨ 206 + 4 * l < c) : kt_cl (nwL s l m kd x y) c = kt_cl s c := by
  have e := nwL_2c (m := m) (kd := kd) (x := x) (y := y) hb
  rw [Bool.eq_iff_iff]
  unfold kt_cl
  rw [nwL_3]
  simp only [Bool.or_eq_true, Bool.and_eq_true, decide_eq_true_eq]
  omega
theorem nwL_cll {c : Nat} (hb : l ≤ s.2.2 2) (hc : 203 + 4 * l ≤ c ∧ c ≤ 206 + 4 * l) : kt_cl (nwL s l m kd x y) c = true := by
  have e := nwL_2c (m := m) (kd := kd) (x := x) (y := y) hb
  unfold kt_cl
  simp only [Bool.or_eq_true, Bool.and_eq_true, decide_eq_true_eq]
  omega
theorem nwL_sh {c : Nat} (hb : l ≤ s.2.2 2) (hc : c < 204 + 4 * l ∨ 206 + 4 * l < c) : kt_sh (nwL s l m kd x y) c = kt_sh s c := by
  have e := nwL_2c (m := m) (kd := kd) (x := x) (y := y) hb
  rw [Bool.eq_iff_iff]
  unfold kt_sh
  simp only [Bool.or_eq_true, Bool.and_eq_true, decide_eq_true_eq]
  omega
theorem nwL_shl {c : Nat} (hb : l ≤ s.2.2 2) (hc : 204 + 4 * l ≤ c ∧ c ≤ 206 + 4 * l) : kt_sh (nwL s l m kd x y) c = true := by
  have e := nwL_2c (m := m) (kd := kd) (x := x) (y := y) hb
  unfold kt_sh
  simp only [Bool.or_eq_true, Bool.and_eq_true, decide_eq_true_eq]
  omega
theorem sh_4 {c : Nat} (hc : kt_sh s c = true) : c = 1 ∨ c = 2 ∨ (203 ≤ c ∧ (c - 203) % 4 ≠ 0) := by
  unfold kt_sh at hc
  simp only [Bool.or_eq_true, Bool.and_eq_true, decide_eq_true_eq] at hc
  omega
theorem w_204 : kt_w (204 + 4 * l) = 2 := by unfold kt_w; rw [if_neg (by omega), if_pos (by omega)]
theorem w_205 : kt_w (205 + 4 * l) = 3 := by unfold kt_w; rw [if_neg (by omega), if_neg (by omega), if_pos (by omega)]
theorem w_206 : kt_w (206 + 4 * l) = 1 := by unfold kt_w; rw [if_neg (by omega), if_neg (by omega), if_neg (by omega)]
theorem row14 : (fun j => Value.long ((nwL s l m kd x y).2.1 (100 + (203 + 4 * l)) j)) = updV (updV (fun _ => .long 0) 0 (.long x)) 11 (.long (-1)) := by
  funext j
  rw [nwL_v0]
  unfold updV
  by_cases z : j = 11
  · rw [if_pos z, if_pos z]
  · rw [if_neg z, if_neg z]
    by_cases z2 : j = 0
    · rw [if_pos z2, if_pos z2]
    · rw [if_neg z2, if_neg z2]
theorem kt_newL (hI : kt_I ad w s h) (hl : l < 400) (hl2 : l ≤ s.2.2 2) (hm : m ≤ s.2.2 5) (hw : ∀ i, i < m → s.2.2 (5000 + i) < 203 + 4 * l ∨ 206 + 4 * l < s.2.2 (5000 + i)) :
    kt_I (nad (KL l) ad h) w (nwL s l m kd x y) (hpL ad h s l kd x y) ∧ ∀ a, a < h.1 → (∀ key, kx ad w s key ≠ none → a ≠ ad key) → (hpL ad h s l kd x y).2.2 a = h.2.2 a ∧ ∀ key, kx (nad (KL l) ad h) w (nwL s l m kd x y) key ≠ none → a ≠ nad (KL l) ad h key := by
  have d3 := hI.2.2.1
  have d2 := hI.2.2.2.1
  have e2 := nwL_2c (m := m) (kd := kd) (x := x) (y := y) hl2
  have v0 : nad (KL l) ad h (10000 + l) = h.1 := nad_s (fL0 hl)
  have v1 : nad (KL l) ad h (1000 + (203 + 4 * l)) = h.1 + 1 := nad_s (fL1 hl)
  have v2 : nad (KL l) ad h (4000 + (203 + 4 * l)) = h.1 + 2 := nad_s (fL2 hl)
  have v3 : nad (KL l) ad h (7000 + (204 + 4 * l)) = h.1 + 3 := nad_s (fL3 hl)
  have v4 : nad (KL l) ad h (1000 + (204 + 4 * l)) = h.1 + 4 := nad_s (fL4 hl)
  have v5 : nad (KL l) ad h (4000 + (204 + 4 * l)) = h.1 + 5 := nad_s (fL5 hl)
  have v6 : nad (KL l) ad h (7000 + (205 + 4 * l)) = h.1 + 6 := nad_s (fL6 hl)
  have v7 : nad (KL l) ad h (1000 + (205 + 4 * l)) = h.1 + 7 := nad_s (fL7 hl)
  have v8 : nad (KL l) ad h (4000 + (205 + 4 * l)) = h.1 + 8 := nad_s (fL8 hl)
  have v9 : nad (KL l) ad h (7000 + (206 + 4 * l)) = h.1 + 9 := nad_s (fL9 hl)
  have v10 : nad (KL l) ad h (1000 + (206 + 4 * l)) = h.1 + 10 := nad_s (fL10 hl)
  have v11 : nad (KL l) ad h (4000 + (206 + 4 * l)) = h.1 + 11 := nad_s (fL11 hl)
  have A : ∀ q, nK (KL l) q → nad (KL l) ad h q = ad q := fun q hq => nad_n hq
  refine kt_new (c := 49) (own := 6) (eo := .inl (4, 400, fun j => if j < s.2.2 2 then .ref (ad (10000 + j)) else .null)) hI rfl ?_ (nKL (by omega) (by omega) (by omega) (by omega) (by omega) (by omega) (by omega) (by omega) (by omega) (by omega) (by omega) (by omega)) (kx_lt (by decide)) ?_ ?_ (wf_new hI (kx_lt (by decide)) (fun fs z => by cases z) (by rw [nwL_3]; exact d3) (by omega) (nwL_n (by omega) (by omega) (by omega) (by omega) (by omega)) (by rw [nwL_5]; exact hm) ?_ ?_)
  · generalize nad (KL l) ad h = ad1 at v0 v1 v2 v3 v4 v5 v6 v7 v8 v9 v10 v11 A
    show [kx ad1 w (nwL s l m kd x y) (10000 + l), kx ad1 w (nwL s l m kd x y) (1000 + (203 + 4 * l)), kx ad1 w (nwL s l m kd x y) (4000 + (203 + 4 * l)), kx ad1 w (nwL s l m kd x y) (7000 + (204 + 4 * l)), kx ad1 w (nwL s l m kd x y) (1000 + (204 + 4 * l)), kx ad1 w (nwL s l m kd x y) (4000 + (204 + 4 * l)), kx ad1 w (nwL s l m kd x y) (7000 + (205 + 4 * l)), kx ad1 w (nwL s l m kd x y) (1000 + (205 + 4 * l)), kx ad1 w (nwL s l m kd x y) (4000 + (205 + 4 * l)), kx ad1 w (nwL s l m kd x y) (7000 + (206 + 4 * l)), kx ad1 w (nwL s l m kd x y) (1000 + (206 + 4 * l)), kx ad1 w (nwL s l m kd x y) (4000 + (206 + 4 * l))] = [some (.inr (4, [.int kd, .long y, .ref (h.1 + 1), .ref (h.1 + 3), .ref (h.1 + 6), .ref (h.1 + 9)])), some (.inr (2, [.ref (ad 1), .ref (h.1 + 2)])), some (.inl (1, 14, updV (updV (fun _ => .long 0) 0 (.long x)) 11 (.long (-1)))), some (.inr (5, [.ref (h.1 + 4), .int 2])), some (.inr (2, [.ref (ad 1), .ref (h.1 + 5)])), some (.inl (1, 5, fun _ => .long 0)), some (.inr (5, [.ref (h.1 + 7), .int 3])), some (.inr (2, [.ref (ad 1), .ref (h.1 + 8)])), some (.inl (1, 7, fun _ => .long 0)), some (.inr (5, [.ref (h.1 + 10), .int 1])), some (.inr (2, [.ref (ad 1), .ref (h.1 + 11)])), some (.inl (1, 3, fun _ => .long 0))]
    rw [kx_lot (by omega) (by omega), kx_cel (c := 203 + 4 * l) (nwL_cll hl2 (by omega)) (by omega), kx_val (c := 203 + 4 * l) (nwL_cll hl2 (by omega)) (by omega), kx_she (c := 204 + 4 * l) (nwL_shl hl2 (by omega)) (by omega), kx_cel (c := 204 + 4 * l) (nwL_cll hl2 (by omega)) (by omega), kx_val (c := 204 + 4 * l) (nwL_cll hl2 (by omega)) (by omega), kx_she (c := 205 + 4 * l) (nwL_shl hl2 (by omega)) (by omega), kx_cel (c := 205 + 4 * l) (nwL_cll hl2 (by omega)) (by omega), kx_val (c := 205 + 4 * l) (nwL_cll hl2 (by omega)) (by omega), kx_she (c := 206 + 4 * l) (nwL_shl hl2 (by omega)) (by omega), kx_cel (c := 206 + 4 * l) (nwL_cll hl2 (by omega)) (by omega), kx_val (c := 206 + 4 * l) (nwL_cll hl2 (by omega)) (by omega)]
    unfold kxL
    rw [nwL_8l, nwL_20l, v1, v2, v3, v4, v5, v6, v7, v8, v9, v10, v11, A 1 (nKL (by omega) (by omega) (by omega) (by omega) (by omega) (by omega) (by omega) (by omega) (by omega) (by omega) (by omega) (by omega)), nwL_c203, nwL_c204, nwL_c205, nwL_c206, row14, nwL_v (r := 100 + (204 + 4 * l)) (Or.inl rfl), nwL_v (r := 100 + (205 + 4 * l)) (Or.inr (Or.inl rfl)), nwL_v (r := 100 + (206 + 4 * l)) (Or.inr (Or.inr rfl)), w_204, w_205, w_206]
  · rw [kx_lt (by decide)]
    show some (Sum.inl (4, 400, fun j => if j < (nwL s l m kd x y).2.2 2 then Value.ref (nad (KL l) ad h (10000 + j)) else .null)) = _
    have ef : (fun j => if j < (nwL s l m kd x y).2.2 2 then Value.ref (nad (KL l) ad h (10000 + j)) else .null) = updV (fun j => if j < s.2.2 2 then .ref (ad (10000 + j)) else .null) l (.ref h.1) := by
      funext j
      unfold updV
      by_cases z : j = l
      · rw [if_pos z, if_pos (by omega), z, v0]
      · rw [if_neg z]
        dsimp only
        by_cases y : j < s.2.2 2
        · rw [if_pos y, if_pos (by omega), A _ (nKL (by omega) (by omega) (by omega) (by omega) (by omega) (by omega) (by omega) (by omega) (by omega) (by omega) (by omega) (by omega))]
        · rw [if_neg y, if_neg (by omega)]
    rw [ef]
  · intro q hq h6
    refine kx_old A (fun r h8 _ => nwL_i h8) (nwL_l (by omega) (by omega)) (nwL_n (by omega) (by omega) (by omega) (by omega) (by omega)) (nwL_n (by omega) (by omega) (by omega) (by omega) (by omega)) (nwL_n (by omega) (by omega) (by omega) (by omega) (by omega)) ?_ ?_ ?_ ?_ ?_ (fun q hq => (nKL (by omega) (by omega) (by omega) (by omega) (by omega) (by omega) (by omega) (by omega) (by omega) (by omega) (by omega) (by omega))) (nKL (by omega) (by omega) (by omega) (by omega) (by omega) (by omega) (by omega) (by omega) (by omega) (by omega) (by omega) (by omega)) (nKL (by omega) (by omega) (by omega) (by omega) (by omega) (by omega) (by omega) (by omega) (by omega) (by omega) (by omega) (by omega)) (nKL (by omega) (by omega) (by omega) (by omega) (by omega) (by omega) (by omega) (by omega) (by omega) (by omega) (by omega) (by omega)) ?_ (fun z => absurd z h6) hq
    · intro c hc
      have hc' := (nKL' hc).1
      refine ⟨by omega, fun hc2 => ⟨nwL_8 (by omega), nwL_20 (by omega), (nKL (by omega) (by omega) (by omega) (by omega) (by omega) (by omega) (by omega) (by omega) (by omega) (by omega) (by omega) (by omega)), (nKL (by omega) (by omega) (by omega) (by omega) (by omega) (by omega) (by omega) (by omega) (by omega) (by omega) (by omega) (by omega)), (nKL (by omega) (by omega) (by omega) (by omega) (by omega) (by omega) (by omega) (by omega) (by omega) (by omega) (by omega) (by omega)), (nKL (by omega) (by omega) (by omega) (by omega) (by omega) (by omega) (by omega) (by omega) (by omega) (by omega) (by omega) (by omega))⟩⟩
    · intro c _
      refine ⟨by rw [nwL_3], fun hb => ⟨by rw [nwL_i (by omega)], by rw [nwL_l (by omega) (by omega)], (nKL (by omega) (by omega) (by omega) (by omega) (by omega) (by omega) (by omega) (by omega) (by omega) (by omega) (by omega) (by omega))⟩⟩
    · intro c hc hn
      have hn' := nKL' hn
      have cc : c < 203 + 4 * l ∨ 206 + 4 * l < c := by omega
      exact ⟨nwL_cl hl2 cc, (nKL (by omega) (by omega) (by omega) (by omega) (by omega) (by omega) (by omega) (by omega) (by omega) (by omega) (by omega) (by omega))⟩
    · intro c hc hn
      have hn' := nKL' hn
      have cc : c < 203 + 4 * l ∨ 206 + 4 * l < c := by omega
      exact ⟨nwL_cl hl2 cc, nwL_n (by omega) (by omega) (by omega) (by omega) (by omega), nwL_l (by omega) (by omega)⟩
    · intro c hc hn
      have hn' := nKL' hn
      have cc : c < 204 + 4 * l ∨ 206 + 4 * l < c := by omega
      refine ⟨nwL_sh hl2 cc, fun hs => ?_⟩
      have := sh_4 hs
      exact nKL (by omega) (by omega) (by omega) (by omega) (by omega) (by omega) (by omega) (by omega) (by omega) (by omega) (by omega) (by omega)
    · intro _ j
      rw [nwL_3]
      by_cases y : j < s.2.2 3
      · rw [if_pos y, if_pos y, A _ (nKL (by omega) (by omega) (by omega) (by omega) (by omega) (by omega) (by omega) (by omega) (by omega) (by omega) (by omega) (by omega))]
      · rw [if_neg y, if_neg y]
  · intro i hi
    rw [nwL_5] at hi
    have := hw i hi
    have h4 := hI.2.2.2.2.2 i (by omega)
    have hc3 : s.2.2 (5000 + i) < 3000 := cel_lt h4.2 d3 d2
    exact ⟨nwL_n (by omega) (by omega) (by omega) (by omega) (by omega), nKL (by omega) (by omega) (by omega) (by omega) (by omega) (by omega) (by omega) (by omega) (by omega) (by omega) (by omega) (by omega)⟩
  · intro c hc
    by_cases z : c < 203 + 4 * l ∨ 206 + 4 * l < c
    · rw [nwL_cl hl2 z]; exact hc
    · exact nwL_cll hl2 (by omega)
theorem kt_F.newL (F : kt_F X M h0 s0 ad w h s) (hl : l < 400) (hl2 : l ≤ s.2.2 2) (hm : m ≤ s.2.2 5) (hw : ∀ i, i < m → s.2.2 (5000 + i) < 203 + 4 * l ∨ 206 + 4 * l < s.2.2 (5000 + i)) : kt_F X M h0 s0 (nad (KL l) ad h) w (hpL ad h s l kd x y) (nwL s l m kd x y) := by
  obtain ⟨f1, f2, f3, f4, f5⟩ := F
  obtain ⟨n1, n2⟩ := kt_newL (kd := kd) (x := x) (y := y) f2 hl hl2 hm hw
  refine ⟨(nad_n (nKL (by omega) (by omega) (by omega) (by omega) (by omega) (by omega) (by omega) (by omega) (by omega) (by omega) (by omega) (by omega))).trans f1, n1, fun a ha => ?_, fun a ha => ?_, ?_⟩
  · obtain ⟨a1, a2⟩ := f3 a ha
    exact ⟨by show a < h.1 + 12; omega, (n2 a a1 a2).2⟩
  · obtain ⟨a1, a2⟩ := f3 a ha
    exact (n2 a a1 a2).1.trans (f4 a ha)
  · unfold kt_A at f5 ⊢
    rw [nwL_1, nwL_4]
    have e1 : (hpL ad h s l kd x y).1 = h.1 + 12 := rfl
    have e2 : (hpL ad h s l kd x y).2.1 = h.2.1 + 49 := rfl
    rw [e1, e2]
    omega
theorem t_lot (F : kt_F X M h0 s0 ad w h s) (hl : l < 400) (hl2 : l ≤ s.2.2 2) (hm : m ≤ s.2.2 5) (hw : ∀ i, i < m → s.2.2 (5000 + i) < 203 + 4 * l ∨ 206 + 4 * l < s.2.2 (5000 + i)) (hg : gk_X2_put N 0 1 v (nwL s l m kd x y) = some ((), s2)) : ∃ ad' w' h', (Option.bind (ym_gR h (some M) 7 6) fun v88 => Option.bind (ym_nO h 6 (.inr (4, [.int 0, .long 0, .null, .null, .null, .null]))) fun h93 => Option.bind (ym_gR h93 (some M) 7 0) fun v98 => Option.bind (fn_X4_init N (some h.1) v98 kd x y h93) fun q105 => Option.bind (ym_ob q105.2 (some h.1) 4) fun _ => Option.bind (ym_as q105.2 v88 4 (nI l) (va_rf (some h.1))) fun h108 => Option.bind (ym_gR h108 (some M) 7 1) fun v110 => Option.bind (ym_ob h108 v110 2) fun _ => Option.bind (fn_X2_put N v110 1 v h108) fun q119 => some ((Int32.toInt64 (nI l)), q119.2)) = some ((nI l).toInt64, h') ∧ kt_F X M h0 s0 ad' w' h' s2 := by
  have F' := F.newL (kd := kd) (x := x) (y := y) hl hl2 hm hw
  have hM := F.1
  have e0 := kt_rd F.B (key := 0) (ci := 7) (Or.inl (by decide)) (kx_lt (by decide))
  have lM : ad 0 < h.1 := (F.2.1.1 0 _ (kx_lt (by decide))).2
  have e5 : ym_gR h (some M) 7 6 = some (some (ad 6)) := by rw [← hM]; simp [ym_gR, ym_gf, e0, ym_toR]
  rw [e5, Option.bind_some, nO1, Option.bind_some]
  have e1 : ym_gR (ext h 1 [.inr (4, [.int 0, .long 0, .null, .null, .null, .null])] 6) (some M) 7 0 = some (some (ad 1)) := by
    rw [← hM]
    unfold ym_gR ym_gf
    rw [ob_old lM, e0]
    rfl
  have eb : fn_X4_init N (some h.1) (some (ad 1)) kd x y (ext h 1 [.inr (4, [.int 0, .long 0, .null, .null, .null, .null])] 6) = some ((), ext h 12 (eL ad h kd x y) 49) := by
    have t := e_lot (N := N) (h := h) (m := 0) (k := 6) (L := []) (j := ad 1) (kd := kd) (x := x) (y := y) rfl
    simp only [Nat.zero_add, Nat.add_zero, List.nil_append] at t
    exact t
  have eo : ym_ob (ext h 12 (eL ad h kd x y) 49) (some h.1) 4 = some [.int kd, .long y, .ref (h.1 + 1), .ref (h.1 + 3), .ref (h.1 + 6), .ref (h.1 + 9)] := ext_ob (i := 0) rfl
  obtain ⟨x5, l5⟩ := F.2.1.1 6 _ (kx_lt (by decide))
  have ea : ym_as (ext h 12 (eL ad h kd x y) 49) (some (ad 6)) 4 (nI l) (va_rf (some h.1)) = some (hpL ad h s l kd x y) := by
    unfold ym_as ym_ar
    dsimp only
    rw [ext_old l5, x5]
    show Option.bind (some (4, 400, _)) _ = _
    rw [Option.bind_some, cz_nat (by omega), if_pos ⟨rfl, by decide, by rintro (z | z); exact cz_nn (by omega) z; exact absurd z (by show ¬ 400 ≤ l; omega)⟩]
    rfl
  rw [e1, Option.bind_some, eb, Option.bind_some]
  dsimp only
  rw [eo, Option.bind_some, ea, Option.bind_some]
  have hM' := F'.1
  have e0' := kt_rd F'.B (key := 0) (ci := 7) (Or.inl (by decide)) (kx_lt (by decide))
  have e6 : ym_gR (hpL ad h s l kd x y) (some M) 7 1 = some (some (nad (KL l) ad h (1000 + 0))) := by rw [← hM']; simp [ym_gR, ym_gf, e0', ym_toR]
  have e7 := kt_rd F'.B (key := 1000 + 0) (ci := 2) (kt_st4 (by decide)) (kx_cel (by unfold kt_cl; rfl) (by decide))
  rw [e6, Option.bind_some, e7, Option.bind_some]
  obtain ⟨ad', w', h', e9, F9⟩ := F'.go (mk_X2_put (a0 := 0) F'.B) hg
  rw [e9, Option.bind_some]
  exact ⟨ad', w', h', rfl, F9⟩
end NL
