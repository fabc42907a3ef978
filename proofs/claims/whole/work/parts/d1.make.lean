/-! making the parts of a room -/
section MK
variable {N : Nat} {h : ym_H} {m r k c j : Nat} {L R : List ym_E} {e : ym_E}
theorem r_get {i : Nat} (hm : L.length = m) : (L ++ R)[m + i]? = R[i]? := by
  rw [List.getElem?_append_right (by omega), show m + i - L.length = i from by omega]
theorem r_nO (hm : L.length = m) (hr : R.length = r) : ym_nO (ext h (m + r) (L ++ R) k) c e = some (ext h (m + (r + 1)) (L ++ (R ++ [e])) (k + c)) := by
  rw [ext_nO (by rw [List.length_append]; omega), List.append_assoc, Nat.add_assoc]
theorem r_na {t n : Nat} {v : Value} {z : Int32} (hz : z = nI n) (hn : n ≤ 67108864) (hm : L.length = m) (hr : R.length = r) : ym_na (ext h (m + r) (L ++ R) k) t v z = some (ext h (m + (r + 1)) (L ++ (R ++ [.inl (t, n, fun _ => v)])) (k + n)) := by
  rw [ext_na hz hn (by rw [List.length_append]; omega), List.append_assoc, Nat.add_assoc]
theorem r_ob {i ci : Nat} {fs : List Value} (hm : L.length = m) (hi : R[i]? = some (.inr (ci, fs))) : ym_ob (ext h (m + r) (L ++ R) k) (some (h.1 + (m + i))) ci = some fs :=
  ext_ob (by rw [r_get hm]; exact hi)
theorem r_pf {i ci f : Nat} {fs : List Value} {v : Value} (hm : L.length = m) (hi : R[i]? = some (.inr (ci, fs))) (hf : f < fs.length) : ym_pf (ext h (m + r) (L ++ R) k) (some (h.1 + (m + i))) ci f v = some (ext h (m + r) (L ++ R.set i (.inr (ci, fs.set f v))) k) := by
  rw [ext_pf (by rw [r_get hm]; exact hi) hf, List.set_append_right _ _ (by omega), show m + i - L.length = i from by omega]
theorem r_gR {i ci f a : Nat} {fs : List Value} (hm : L.length = m) (hi : R[i]? = some (.inr (ci, fs))) (hf : fs[f]? = some (.ref a)) : ym_gR (ext h (m + r) (L ++ R) k) (some (h.1 + (m + i))) ci f = some (some a) :=
  ext_gR (by rw [r_get hm]; exact hi) hf
theorem r_1 : (ext h (m + r) (L ++ R) k).1 = h.1 + (m + r) := rfl
theorem rfv {a : Nat} : va_rf (some a) = .ref a := rfl
/-- Cells at the block's place i of R, its row behind -/
theorem r_X2 {i n : Nat} {z : Int32} {u v : Value} (hm : L.length = m) (hr : R.length = r) (hi : R[i]? = some (.inr (2, [u, v]))) (hz : z = nI n) (h1 : 1 ≤ n) (hn : n ≤ 60000) : fn_X2_init N (some (h.1 + (m + i))) (some j) z (ext h (m + r) (L ++ R) k) = some ((), ext h (m + (r + 1)) (L ++ (R.set i (.inr (2, [.ref j, .ref (h.1 + (m + r))])) ++ [.inl (1, n, fun _ => .long 0)])) (k + n)) := by
  have il : i < R.length := by
    rcases Nat.lt_or_ge i R.length with q | q
    · exact q
    · rw [List.getElem?_eq_none q] at hi
      exact Option.noConfusion rfl (heq_of_eq hi)
  unfold fn_X2_init
  rw [r_ob hm hi, Option.bind_some, r_pf hm hi (by show 0 < 2; omega), Option.bind_some]
  have zz : (if z < 1 then 1 else z) = nI n := by
    rw [hz, if_neg (fun q => by have := (cz_lt (b := 1) (by omega) (by omega)).mp q; omega)]
  rw [r_na zz (by omega) hm (by rw [List.length_set]; exact hr), Option.bind_some, r_1, rfv]
  have hi2 : (R.set i (.inr (2, [u, v].set 0 (.ref j))) ++ [.inl (1, n, fun _ => Value.long 0)])[i]? = some (.inr (2, [.ref j, v])) := by
    rw [List.getElem?_append_left (by rw [List.length_set]; exact il), List.getElem?_set_self il]
    rfl
  rw [r_pf hm hi2 (by show 1 < 2; omega), Option.bind_some, List.set_append_left _ _ (by rw [List.length_set]; exact il), List.set_set]
  rfl
theorem e_sheet {z : Int32} {n : Nat} (hm : L.length = m) (hr : R.length = r) (hz : 1 + 2 * z = nI n) (h1 : 1 ≤ n) (hn : n ≤ 60000) : fn_X5_init N (some (h.1 + (m + r))) (some j) z (ext h (m + (r + 1)) (L ++ (R ++ [.inr (5, [.null, .int 0])])) k) = some ((), ext h (m + (r + 3)) (L ++ (R ++ [.inr (5, [.ref (h.1 + (m + (r + 1))), .int z]), .inr (2, [.ref j, .ref (h.1 + (m + (r + 2)))]), .inl (1, n, fun _ => .long 0)])) (k + 2 + n)) := by
  unfold fn_X5_init
  have hm' : (L ++ R).length = m + r := by rw [List.length_append]; omega
  rw [show L ++ (R ++ [.inr (5, [Value.null, .int 0])]) = (L ++ R) ++ [.inr (5, [Value.null, .int 0])] from (List.append_assoc _ _ _).symm]
  rw [show m + (r + 1) = (m + r) + 1 from by omega, show m + (r + 2) = (m + r) + 2 from by omega, show m + (r + 3) = (m + r) + 3 from by omega, show h.1 + (m + r) = h.1 + ((m + r) + 0) from rfl]
  rw [r_ob (i := 0) hm' rfl, Option.bind_some, r_nO (r := 1) hm' rfl, Option.bind_some, r_1]
  rw [r_X2 (i := 1) (r := 2) (n := n) (u := .null) (v := .null) hm' rfl rfl hz h1 hn, Option.bind_some]
  dsimp only
  rw [rfv, r_pf (i := 0) (fs := [.null, .int 0]) hm' rfl (by show 0 < 2; omega), Option.bind_some]
  rw [r_pf (i := 0) (fs := [.ref (h.1 + ((m + r) + 1)), .int 0]) hm' rfl (by show 1 < 2; omega), Option.bind_some, List.append_assoc]
  rfl
theorem r_as {i t n p : Nat} {f : Nat → Value} {v : Value} (hm : L.length = m) (hi : R[i]? = some (.inl (t, n, f))) (ht : t ≠ 99) (hp : p < n) (hp2 : p < 2 ^ 31) : ym_as (ext h (m + r) (L ++ R) k) (some (h.1 + (m + i))) t (nI p) v = some (ext h (m + r) (L ++ R.set i (.inl (t, n, updV f p v))) k) := by
  have il : i < R.length := by
    rcases Nat.lt_or_ge i R.length with q | q
    · exact q
    · rw [List.getElem?_eq_none q] at hi
      exact Option.noConfusion rfl (heq_of_eq hi)
  have g : (ext h (m + r) (L ++ R) k).2.2 (h.1 + (m + i)) = .inl (t, n, f) := ext_get (by rw [r_get hm]; exact hi)
  unfold ym_as ym_ar
  dsimp only
  rw [g]
  dsimp only
  rw [Option.bind_some, cz_nat hp2, if_pos ⟨rfl, ht, by rintro (q | q); exact cz_nn hp2 q; exact absurd hp (Nat.not_lt.mpr q)⟩]
  show some (ym_set (ext h (m + r) (L ++ R) k) (h.1 + (m + i)) _) = _
  rw [ext_set (by rw [List.length_append]; omega), List.set_append_right _ _ (by omega), show m + i - L.length = i from by omega]
theorem r_len {i t n : Nat} {f : Nat → Value} (hm : L.length = m) (hi : R[i]? = some (.inl (t, n, f))) : ym_len (ext h (m + r) (L ++ R) k) (some (h.1 + (m + i))) = some (Int32.ofNat n) := by
  have g : (ext h (m + r) (L ++ R) k).2.2 (h.1 + (m + i)) = .inl (t, n, f) := ext_get (by rw [r_get hm]; exact hi)
  unfold ym_len ym_ar
  dsimp only
  rw [g]
  rfl
theorem r_X2set {i q n p : Nat} {f : Nat → Value} {z : Int32} {x : Int64} {u : Value} (hm : L.length = m) (hi : R[i]? = some (.inr (2, [u, .ref (h.1 + (m + q))]))) (hq : R[q]? = some (.inl (1, n, f))) (hz : z = nI p) (hp : p < n) (hn : n < 60000) : fn_X2_set N (some (h.1 + (m + i))) z x (ext h (m + r) (L ++ R) k) = some ((), ext h (m + r) (L ++ R.set q (.inl (1, n, updV f p (.long x)))) k) := by
  unfold fn_X2_set
  rw [hz, if_neg (cz_nn (by omega)), r_gR hm hi rfl, Option.bind_some, r_len hm hq, Option.bind_some, if_neg (show ¬ Int32.ofNat n ≤ nI p from fun y => by have := (cz_le (by omega) (by omega)).mp y; omega), Option.bind_some, r_as hm hq (by decide) hp (by omega), Option.bind_some]
theorem e_lot {kd : Int32} {x y : Int64} (hm : L.length = m) : fn_X4_init N (some (h.1 + (m + 0))) (some j) kd x y (ext h (m + 1) (L ++ [.inr (4, [.int 0, .long 0, .null, .null, .null, .null])]) k) = some ((), ext h (m + 12) (L ++ [.inr (4, [.int kd, .long y, .ref (h.1 + (m + 1)), .ref (h.1 + (m + 3)), .ref (h.1 + (m + 6)), .ref (h.1 + (m + 9))]), .inr (2, [.ref j, .ref (h.1 + (m + 2))]), .inl (1, 14, updV (updV (fun _ => .long 0) 0 (.long x)) 11 (.long (-1))), .inr (5, [.ref (h.1 + (m + 4)), .int 2]), .inr (2, [.ref j, .ref (h.1 + (m + 5))]), .inl (1, 5, fun _ => .long 0), .inr (5, [.ref (h.1 + (m + 7)), .int 3]), .inr (2, [.ref j, .ref (h.1 + (m + 8))]), .inl (1, 7, fun _ => .long 0), .inr (5, [.ref (h.1 + (m + 10)), .int 1]), .inr (2, [.ref j, .ref (h.1 + (m + 11))]), .inl (1, 3, fun _ => .long 0)]) (k + 43)) := by
  unfold fn_X4_init
  rw [r_ob (i := 0) hm rfl, Option.bind_some, r_pf (i := 0) (fs := [.int 0, .long 0, .null, .null, .null, .null]) hm rfl (by show 0 < 6; omega), Option.bind_some]
  rw [r_pf (i := 0) (fs := [.int kd, .long 0, .null, .null, .null, .null]) hm rfl (by show 1 < 6; omega), Option.bind_some]
  rw [r_nO (r := 1) hm rfl, Option.bind_some, r_1, r_X2 (i := 1) (r := 2) (z := 14) (n := 14) (u := .null) (v := .null) hm rfl rfl rfl (by omega) (by omega), Option.bind_some]
  dsimp only
  rw [rfv, r_pf (i := 0) (fs := [.int kd, .long y, .null, .null, .null, .null]) hm rfl (by show 2 < 6; omega), Option.bind_some]
  rw [r_nO (r := 3) hm rfl, Option.bind_some, r_1, e_sheet (r := 3) (z := 2) (n := 5) hm rfl rfl (by omega) (by omega), Option.bind_some]
  dsimp only
  rw [rfv, r_pf (i := 0) (fs := [.int kd, .long y, .ref (h.1 + (m + 1)), .null, .null, .null]) hm rfl (by show 3 < 6; omega), Option.bind_some]
  rw [r_nO (r := 6) hm rfl, Option.bind_some, r_1, e_sheet (r := 6) (z := 3) (n := 7) hm rfl rfl (by omega) (by omega), Option.bind_some]
  dsimp only
  rw [rfv, r_pf (i := 0) (fs := [.int kd, .long y, .ref (h.1 + (m + 1)), .ref (h.1 + (m + 3)), .null, .null]) hm rfl (by show 4 < 6; omega), Option.bind_some]
  rw [r_nO (r := 9) hm rfl, Option.bind_some, r_1, e_sheet (r := 9) (z := 1) (n := 3) hm rfl rfl (by omega) (by omega), Option.bind_some]
  dsimp only
  rw [rfv, r_pf (i := 0) (fs := [.int kd, .long y, .ref (h.1 + (m + 1)), .ref (h.1 + (m + 3)), .ref (h.1 + (m + 6)), .null]) hm rfl (by show 5 < 6; omega), Option.bind_some]
  rw [r_gR (i := 0) (f := 2) (a := h.1 + (m + 1)) (fs := [.int kd, .long y, .ref (h.1 + (m + 1)), .ref (h.1 + (m + 3)), .ref (h.1 + (m + 6)), .ref (h.1 + (m + 9))]) hm rfl rfl, Option.bind_some, r_ob (i := 1) (fs := [.ref j, .ref (h.1 + (m + 2))]) hm rfl, Option.bind_some]
  rw [r_X2set (i := 1) (q := 2) (z := 0) (n := 14) (p := 0) (u := .ref j) (f := fun _ => .long 0) hm rfl rfl rfl (by omega) (by omega), Option.bind_some]
  dsimp only
  rw [r_gR (i := 0) (f := 2) (a := h.1 + (m + 1)) (fs := [.int kd, .long y, .ref (h.1 + (m + 1)), .ref (h.1 + (m + 3)), .ref (h.1 + (m + 6)), .ref (h.1 + (m + 9))]) hm rfl rfl, Option.bind_some, r_ob (i := 1) (fs := [.ref j, .ref (h.1 + (m + 2))]) hm rfl, Option.bind_some]
  rw [r_X2set (i := 1) (q := 2) (z := 11) (n := 14) (p := 11) (u := .ref j) (f := updV (fun _ => .long 0) 0 (.long x)) hm rfl rfl rfl (by omega) (by omega), Option.bind_some]
  rfl
theorem e_bidder {kd b : Int32} {x : Int64} (hm : L.length = m) : fn_X0_init N (some (h.1 + (m + 0))) (some j) kd b x (ext h (m + 1) (L ++ [.inr (0, [.int 0, .int 0, .long 0, .null])]) k) = some ((), ext h (m + 3) (L ++ [.inr (0, [.int kd, .int b, .long x, .ref (h.1 + (m + 1))]), .inr (2, [.ref j, .ref (h.1 + (m + 2))]), .inl (1, 1, fun _ => .long 0)]) (k + 3)) := by
  unfold fn_X0_init
  rw [r_ob (i := 0) hm rfl, Option.bind_some, r_pf (i := 0) (fs := [.int 0, .int 0, .long 0, .null]) hm rfl (by show 0 < 4; omega), Option.bind_some]
  rw [r_pf (i := 0) (fs := [.int kd, .int 0, .long 0, .null]) hm rfl (by show 1 < 4; omega), Option.bind_some]
  rw [r_pf (i := 0) (fs := [.int kd, .int b, .long 0, .null]) hm rfl (by show 2 < 4; omega), Option.bind_some]
  rw [r_nO (r := 1) hm rfl, Option.bind_some, r_1, r_X2 (i := 1) (r := 2) (z := 1) (n := 1) (u := .null) (v := .null) hm rfl rfl rfl (by omega) (by omega), Option.bind_some]
  dsimp only
  rw [rfv, r_pf (i := 0) (fs := [.int kd, .int b, .long x, .null]) hm rfl (by show 3 < 4; omega), Option.bind_some]
  rfl
end MK
