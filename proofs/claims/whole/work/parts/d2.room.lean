/-! making a room -/
section RM
variable {N : Nat} {h : ym_H} {m r k j : Nat} {L R : List ym_E}
theorem e_table (hm : L.length = m) (hr : R.length = r) : fn_X6_init N (some (h.1 + (m + r))) (some j) (ext h (m + (r + 1)) (L ++ (R ++ [.inr (6, [.null])])) k) = some ((), ext h (m + (r + 4)) (L ++ (R ++ [.inr (6, [.ref (h.1 + (m + (r + 1)))]), .inr (5, [.ref (h.1 + (m + (r + 2))), .int 2]), .inr (2, [.ref j, .ref (h.1 + (m + (r + 3)))]), .inl (1, 5, fun _ => .long 0)])) (k + 9)) := by
  unfold fn_X6_init
  have hm' : (L ++ R).length = m + r := by rw [List.length_append]; omega
  rw [show L ++ (R ++ [.inr (6, [Value.null])]) = (L ++ R) ++ [.inr (6, [Value.null])] from (List.append_assoc _ _ _).symm]
  rw [show m + (r + 1) = (m + r) + 1 from by omega, show m + (r + 2) = (m + r) + 2 from by omega, show m + (r + 3) = (m + r) + 3 from by omega, show m + (r + 4) = (m + r) + 4 from by omega, show h.1 + (m + r) = h.1 + ((m + r) + 0) from rfl]
  rw [r_ob (i := 0) hm' rfl, Option.bind_some, r_nO (r := 1) hm' rfl, Option.bind_some, r_1]
  rw [e_sheet (r := 1) (z := 2) (n := 5) hm' rfl rfl (by omega) (by omega), Option.bind_some]
  dsimp only
  rw [rfv, r_pf (i := 0) (fs := [.null]) hm' rfl (by show 0 < 1; omega), Option.bind_some, List.append_assoc]
  rfl
theorem e_bodies (hm : L.length = m) (hr : R.length = r) : fn_X1_init N (some (h.1 + (m + r))) (some j) (ext h (m + (r + 1)) (L ++ (R ++ [.inr (1, [.null, .null, .int 0])])) k) = some ((), ext h (m + (r + 2)) (L ++ (R ++ [.inr (1, [.ref j, .ref (h.1 + (m + (r + 1))), .int 0]), .inl (0, 200, fun _ => .int 0)])) (k + 200)) := by
  unfold fn_X1_init
  have hm' : (L ++ R).length = m + r := by rw [List.length_append]; omega
  rw [show L ++ (R ++ [.inr (1, [Value.null, .null, .int 0])]) = (L ++ R) ++ [.inr (1, [Value.null, .null, .int 0])] from (List.append_assoc _ _ _).symm]
  rw [show m + (r + 1) = (m + r) + 1 from by omega, show m + (r + 2) = (m + r) + 2 from by omega, show h.1 + (m + r) = h.1 + ((m + r) + 0) from rfl]
  rw [r_ob (i := 0) hm' rfl, Option.bind_some, r_na (r := 1) (z := 200) (n := 200) rfl (by omega) hm' rfl, Option.bind_some, r_1, rfv]
  rw [r_pf (i := 0) (fs := [.null, .null, .int 0]) hm' rfl (by show 1 < 3; omega), Option.bind_some, rfv, r_pf (i := 0) (fs := [.null, .ref (h.1 + ((m + r) + 1)), .int 0]) hm' rfl (by show 0 < 3; omega), Option.bind_some, List.append_assoc]
  rfl
theorem e_journal (hm : L.length = m) (hr : R.length = r) : fn_X3_init N (some (h.1 + (m + r))) (ext h (m + (r + 1)) (L ++ (R ++ [.inr (3, [.null, .null, .null, .int 0, .null, .int 0])])) k) = some ((), ext h (m + (r + 5)) (L ++ (R ++ [.inr (3, [.ref (h.1 + (m + (r + 1))), .ref (h.1 + (m + (r + 2))), .ref (h.1 + (m + (r + 3))), .int 0, .ref (h.1 + (m + (r + 4))), .int 0]), .inl (3, 64, fun _ => .null), .inl (0, 64, fun _ => .int 0), .inl (1, 64, fun _ => .long 0), .inl (0, 8, fun _ => .int 0)])) (k + 200)) := by
  unfold fn_X3_init
  have hm' : (L ++ R).length = m + r := by rw [List.length_append]; omega
  rw [show L ++ (R ++ [.inr (3, [Value.null, .null, .null, .int 0, .null, .int 0])]) = (L ++ R) ++ [.inr (3, [Value.null, .null, .null, .int 0, .null, .int 0])] from (List.append_assoc _ _ _).symm]
  rw [show m + (r + 1) = (m + r) + 1 from by omega, show m + (r + 2) = (m + r) + 2 from by omega, show m + (r + 3) = (m + r) + 3 from by omega, show m + (r + 4) = (m + r) + 4 from by omega, show m + (r + 5) = (m + r) + 5 from by omega, show h.1 + (m + r) = h.1 + ((m + r) + 0) from rfl]
  rw [r_ob (i := 0) hm' rfl, Option.bind_some, r_na (r := 1) (z := 64) (n := 64) rfl (by omega) hm' rfl, Option.bind_some, r_1, rfv]
  rw [r_pf (i := 0) (fs := [.null, .null, .null, .int 0, .null, .int 0]) hm' rfl (by show 0 < 6; omega), Option.bind_some]
  rw [r_na (r := 2) (z := 64) (n := 64) rfl (by omega) hm' rfl, Option.bind_some, r_1, rfv, r_pf (i := 0) (fs := [.ref (h.1 + ((m + r) + 1)), .null, .null, .int 0, .null, .int 0]) hm' rfl (by show 1 < 6; omega), Option.bind_some]
  rw [r_na (r := 3) (z := 64) (n := 64) rfl (by omega) hm' rfl, Option.bind_some, r_1, rfv, r_pf (i := 0) (fs := [.ref (h.1 + ((m + r) + 1)), .ref (h.1 + ((m + r) + 2)), .null, .int 0, .null, .int 0]) hm' rfl (by show 2 < 6; omega), Option.bind_some]
  rw [r_na (r := 4) (z := 8) (n := 8) rfl (by omega) hm' rfl, Option.bind_some, r_1, rfv, r_pf (i := 0) (fs := [.ref (h.1 + ((m + r) + 1)), .ref (h.1 + ((m + r) + 2)), .ref (h.1 + ((m + r) + 3)), .int 0, .null, .int 0]) hm' rfl (by show 4 < 6; omega), Option.bind_some, List.append_assoc]
  rfl
def roomL (h : ym_H) : List ym_E := [.inr (7, [.ref (h.1 + 1), .ref (h.1 + 6), .ref (h.1 + 8), .ref (h.1 + 12), .ref (h.1 + 16), .ref (h.1 + 18), .ref (h.1 + 19), .int 0, .int 0, .int 0]), .inr (3, [.ref (h.1 + 2), .ref (h.1 + 3), .ref (h.1 + 4), .int 0, .ref (h.1 + 5), .int 0]), .inl (3, 64, fun _ => .null), .inl (0, 64, fun _ => .int 0), .inl (1, 64, fun _ => .long 0), .inl (0, 8, fun _ => .int 0), .inr (2, [.ref (h.1 + 1), .ref (h.1 + 7)]), .inl (1, 11, fun _ => .long 0), .inr (6, [.ref (h.1 + 9)]), .inr (5, [.ref (h.1 + 10), .int 2]), .inr (2, [.ref (h.1 + 1), .ref (h.1 + 11)]), .inl (1, 5, fun _ => .long 0), .inr (6, [.ref (h.1 + 13)]), .inr (5, [.ref (h.1 + 14), .int 2]), .inr (2, [.ref (h.1 + 1), .ref (h.1 + 15)]), .inl (1, 5, fun _ => .long 0), .inr (1, [.ref (h.1 + 8), .ref (h.1 + 17), .int 0]), .inl (0, 200, fun _ => .int 0), .inl (5, 200, fun _ => .null), .inl (4, 400, fun _ => .null)]
theorem e_room : (Option.bind (ym_nO h 10 (.inr (7, [.null, .null, .null, .null, .null, .null, .null, .int 0, .int 0, .int 0]))) fun h0 => fn_X7_init N (some h.1) h0) = some ((), ext h 20 (roomL h) 1052) := by
  have e0 : h = ext h (0 + 0) ([] ++ []) 0 := ext_0.symm
  have hL : ([] : List ym_E).length = 0 := rfl
  rw [show ym_nO h 10 (.inr (7, [.null, .null, .null, .null, .null, .null, .null, .int 0, .int 0, .int 0])) = ym_nO (ext h (0 + 0) ([] ++ []) 0) 10 (.inr (7, [.null, .null, .null, .null, .null, .null, .null, .int 0, .int 0, .int 0])) from by rw [← e0]]
  rw [r_nO (r := 0) hL rfl, Option.bind_some, show some h.1 = some (h.1 + (0 + 0)) from rfl]
  unfold fn_X7_init
  rw [r_ob (i := 0) hL rfl, Option.bind_some, r_nO (r := 1) hL rfl, Option.bind_some, r_1, e_journal (r := 1) hL rfl, Option.bind_some]
  dsimp only
  rw [rfv, r_pf (i := 0) (fs := [.null, .null, .null, .null, .null, .null, .null, .int 0, .int 0, .int 0]) hL rfl (by show 0 < 10; omega), Option.bind_some]
  rw [r_nO (r := 6) hL rfl, Option.bind_some, r_1, r_gR (i := 0) (f := 0) (a := h.1 + (0 + 1)) (fs := [.ref (h.1 + (0 + 1)), .null, .null, .null, .null, .null, .null, .int 0, .int 0, .int 0]) hL rfl rfl, Option.bind_some]
  rw [r_X2 (i := 6) (r := 7) (z := 11) (n := 11) (u := .null) (v := .null) hL rfl rfl rfl (by omega) (by omega), Option.bind_some]
  dsimp only
  rw [rfv, r_pf (i := 0) (fs := [.ref (h.1 + (0 + 1)), .null, .null, .null, .null, .null, .null, .int 0, .int 0, .int 0]) hL rfl (by show 1 < 10; omega), Option.bind_some]
  rw [r_nO (r := 8) hL rfl, Option.bind_some, r_1, r_gR (i := 0) (f := 0) (a := h.1 + (0 + 1)) (fs := [.ref (h.1 + (0 + 1)), .ref (h.1 + (0 + 6)), .null, .null, .null, .null, .null, .int 0, .int 0, .int 0]) hL rfl rfl, Option.bind_some]
  rw [e_table (r := 8) hL rfl, Option.bind_some]
  dsimp only
  rw [rfv, r_pf (i := 0) (fs := [.ref (h.1 + (0 + 1)), .ref (h.1 + (0 + 6)), .null, .null, .null, .null, .null, .int 0, .int 0, .int 0]) hL rfl (by show 2 < 10; omega), Option.bind_some]
  rw [r_nO (r := 12) hL rfl, Option.bind_some, r_1, r_gR (i := 0) (f := 0) (a := h.1 + (0 + 1)) (fs := [.ref (h.1 + (0 + 1)), .ref (h.1 + (0 + 6)), .ref (h.1 + (0 + 8)), .null, .null, .null, .null, .int 0, .int 0, .int 0]) hL rfl rfl, Option.bind_some]
  rw [e_table (r := 12) hL rfl, Option.bind_some]
  dsimp only
  rw [rfv, r_pf (i := 0) (fs := [.ref (h.1 + (0 + 1)), .ref (h.1 + (0 + 6)), .ref (h.1 + (0 + 8)), .null, .null, .null, .null, .int 0, .int 0, .int 0]) hL rfl (by show 3 < 10; omega), Option.bind_some]
  rw [r_nO (r := 16) hL rfl, Option.bind_some, r_1, r_gR (i := 0) (f := 2) (a := h.1 + (0 + 8)) (fs := [.ref (h.1 + (0 + 1)), .ref (h.1 + (0 + 6)), .ref (h.1 + (0 + 8)), .ref (h.1 + (0 + 12)), .null, .null, .null, .int 0, .int 0, .int 0]) hL rfl rfl, Option.bind_some]
  rw [e_bodies (r := 16) hL rfl, Option.bind_some]
  dsimp only
  rw [rfv, r_pf (i := 0) (fs := [.ref (h.1 + (0 + 1)), .ref (h.1 + (0 + 6)), .ref (h.1 + (0 + 8)), .ref (h.1 + (0 + 12)), .null, .null, .null, .int 0, .int 0, .int 0]) hL rfl (by show 4 < 10; omega), Option.bind_some]
  rw [r_na (r := 18) (z := 200) (n := 200) rfl (by omega) hL rfl, Option.bind_some, r_1, rfv, r_pf (i := 0) (fs := [.ref (h.1 + (0 + 1)), .ref (h.1 + (0 + 6)), .ref (h.1 + (0 + 8)), .ref (h.1 + (0 + 12)), .ref (h.1 + (0 + 16)), .null, .null, .int 0, .int 0, .int 0]) hL rfl (by show 5 < 10; omega), Option.bind_some]
  rw [r_na (r := 19) (z := 400) (n := 400) rfl (by omega) hL rfl, Option.bind_some, r_1, rfv, r_pf (i := 0) (fs := [.ref (h.1 + (0 + 1)), .ref (h.1 + (0 + 6)), .ref (h.1 + (0 + 8)), .ref (h.1 + (0 + 12)), .ref (h.1 + (0 + 16)), .ref (h.1 + (0 + 18)), .null, .int 0, .int 0, .int 0]) hL rfl (by show 6 < 10; omega), Option.bind_some]
  have ea : ∀ a, h.1 + (0 + a) = h.1 + a := fun a => by omega
  simp only [ea]
  rfl
end RM
