/-! what stands at the start -/
def kr0 : List Nat := [0, 1, 8, 9, 10, 11, 1000, 4000, 3, 7001, 1001, 4001, 4, 7002, 1002, 4002, 2, 7, 5, 6]
def rix (key : Nat) : Nat := if key = 0 then 0 else if key = 1 then 1 else if key = 8 then 2 else if key = 9 then 3 else if key = 10 then 4 else if key = 11 then 5 else if key = 1000 then 6 else if key = 4000 then 7 else if key = 3 then 8 else if key = 7001 then 9 else if key = 1001 then 10 else if key = 4001 then 11 else if key = 4 then 12 else if key = 7002 then 13 else if key = 1002 then 14 else if key = 4002 then 15 else if key = 2 then 16 else if key = 7 then 17 else if key = 5 then 18 else if key = 6 then 19 else 99
def k00 : mt_S := (fun _ _ => 0, fun _ _ => 0, fun q => if q = 0 ∨ q = 6 ∨ q = 7 then 64 else if q = 100 then 11 else if q = 101 ∨ q = 102 then 5 else 0)
def ad00 (h : ym_H) (key : Nat) : Nat := h.1 + rix key
def kr8 : List Nat := [1, 2, 3, 5, 6, 7, 8, 9, 10, 11, 12, 13, 14, 16, 17, 18, 19, 20, 21, 22, 23, 24, 25, 26, 27, 28, 29, 30, 31, 32, 34, 35, 37, 38, 39, 40, 42, 43, 44, 45, 46, 47, 48, 50, 54]
def rix8 (k : Nat) : Nat := if k = 1 then 0 else if k = 2 then 1 else if k = 3 then 2 else if k = 5 then 3 else if k = 6 then 4 else if k = 7 then 5 else if k = 8 then 6 else if k = 9 then 7 else if k = 10 then 8 else if k = 11 then 9 else if k = 12 then 10 else if k = 13 then 11 else if k = 14 then 12 else if k = 16 then 13 else if k = 17 then 14 else if k = 18 then 15 else if k = 19 then 16 else if k = 20 then 17 else if k = 21 then 18 else if k = 22 then 19 else if k = 23 then 20 else if k = 24 then 21 else if k = 25 then 22 else if k = 26 then 23 else if k = 27 then 24 else if k = 28 then 25 else if k = 29 then 26 else if k = 30 then 27 else if k = 31 then 28 else if k = 32 then 29 else if k = 34 then 30 else if k = 35 then 31 else if k = 37 then 32 else if k = 38 then 33 else if k = 39 then 34 else if k = 40 then 35 else if k = 42 then 36 else if k = 43 then 37 else if k = 44 then 38 else if k = 45 then 39 else if k = 46 then 40 else if k = 47 then 41 else if k = 48 then 42 else if k = 50 then 43 else if k = 54 then 44 else 99
def len8 (k : Nat) : Nat := if k = 1 then 200 else if k = 2 then 200 else if k = 3 then 200 else if k = 5 then 400 else if k = 6 then 400 else if k = 7 then 400 else if k = 8 then 400 else if k = 9 then 400 else if k = 10 then 400 else if k = 11 then 1600 else if k = 12 then 400 else if k = 13 then 400 else if k = 14 then 400 else if k = 16 then 64 else if k = 17 then 64 else if k = 18 then 64 else if k = 19 then 400 else if k = 20 then 16000 else if k = 21 then 16000 else if k = 22 then 16000 else if k = 23 then 400 else if k = 24 then 400 else if k = 25 then 400 else if k = 26 then 400 else if k = 27 then 400 else if k = 28 then 400 else if k = 29 then 400 else if k = 30 then 400 else if k = 31 then 400 else if k = 32 then 400 else if k = 34 then 20 else if k = 35 then 20 else if k = 37 then 20 else if k = 38 then 20 else if k = 39 then 6 else if k = 40 then 3 else if k = 42 then 64 else if k = 43 then 64 else if k = 44 then 64 else if k = 45 then 64 else if k = 46 then 64 else if k = 47 then 64 else if k = 48 then 64 else if k = 50 then 8 else if k = 54 then 200 else 0
def s00 : mt_S := (fun _ _ => 0, fun _ _ => 0, len8)
def ad8 (h : ym_H) (k : Nat) : Nat := h.1 + (20 + (1 + rix8 k))
def bothH (h : ym_H) (k : Nat) : ym_H := st8 h 20 (roomL h) (refF h 20) 45 refA k
section ST
variable {h : ym_H} {k : Nat}
theorem both_1 : (bothH h k).1 = h.1 + 66 := rfl
theorem both_get {i : Nat} {e : ym_E} (hi : (roomL h ++ ([.inr (8, refF h 20)] ++ refA))[i]? = some e) : (bothH h k).2.2 (h.1 + i) = e := ext_get hi
theorem cl00 {c : Nat} : kt_cl k00 c = true ↔ c < 3 := by
  unfold kt_cl
  simp only [Bool.or_eq_true, Bool.and_eq_true, decide_eq_true_eq]
  have a : k00.2.2 3 = 0 := rfl
  have b : k00.2.2 2 = 0 := rfl
  rw [a, b]
  omega
theorem sh00 {c : Nat} : kt_sh k00 c = true ↔ c = 1 ∨ c = 2 := by
  unfold kt_sh
  simp only [Bool.or_eq_true, Bool.and_eq_true, decide_eq_true_eq]
  have b : k00.2.2 2 = 0 := rfl
  rw [b]
  omega
theorem kx_dom {ad : Nat → Nat} {w : Nat → Value} {key : Nat} (hk : kx ad w k00 key ≠ none) : key ∈ kr0 := by
  have a : k00.2.2 3 = 0 := rfl
  have b : k00.2.2 2 = 0 := rfl
  unfold kx at hk
  unfold kr0
  simp only [List.mem_cons, List.not_mem_nil, or_false]
  split at hk
  · omega
  · split at hk
    · exact absurd rfl hk
    · split at hk
      · split at hk
        · rename_i z
          rw [cl00] at z
          omega
        · exact absurd rfl hk
      · split at hk
        · split at hk
          · rename_i z
            rw [cl00] at z
            omega
          · exact absurd rfl hk
        · split at hk
          · split at hk
            · rename_i z
              rw [sh00] at z
              omega
            · exact absurd rfl hk
          · split at hk
            · split at hk
              · rename_i z
                rw [b] at z
                omega
              · exact absurd rfl hk
            · split at hk
              · rename_i z
                rw [a] at z
                omega
              · exact absurd rfl hk
theorem rix_inj : ∀ a, a ∈ kr0 → ∀ b, b ∈ kr0 → rix a = rix b → a = b := by decide
theorem rix_lt : ∀ a, a ∈ kr0 → rix a < 20 := by decide
theorem kx_at {key : Nat} {e : ym_E} (hk : key ∈ kr0) (he : kx (ad00 h) (fun _ => .null) k00 key = some e) : (bothH h k).2.2 (ad00 h key) = e := by
  unfold kr0 at hk
  simp only [List.mem_cons, List.not_mem_nil, or_false] at hk
  rcases hk with rfl | rfl | rfl | rfl | rfl | rfl | rfl | rfl | rfl | rfl | rfl | rfl | rfl | rfl | rfl | rfl | rfl | rfl | rfl | rfl
  · rw [kx_lt (by decide)] at he
    injection he with he
    rw [← he]
    exact both_get (i := 0) rfl
  · rw [kx_lt (by decide)] at he
    injection he with he
    rw [← he]
    exact both_get (i := 1) rfl
  · rw [kx_lt (by decide)] at he
    injection he with he
    rw [← he]
    exact both_get (i := 2) rfl
  · rw [kx_lt (by decide)] at he
    injection he with he
    rw [← he]
    exact both_get (i := 3) rfl
  · rw [kx_lt (by decide)] at he
    injection he with he
    rw [← he]
    exact both_get (i := 4) rfl
  · rw [kx_lt (by decide)] at he
    injection he with he
    rw [← he]
    exact both_get (i := 5) rfl
  · rw [show 1000 = 1000 + 0 from rfl, kx_cel (cl00.mpr (by decide)) (by decide)] at he
    injection he with he
    rw [← he]
    exact both_get (i := 6) rfl
  · rw [show 4000 = 4000 + 0 from rfl, kx_val (cl00.mpr (by decide)) (by decide)] at he
    injection he with he
    rw [← he]
    exact both_get (i := 7) rfl
  · rw [kx_lt (by decide)] at he
    injection he with he
    rw [← he]
    exact both_get (i := 8) rfl
  · rw [show 7001 = 7000 + 1 from rfl, kx_she (sh00.mpr (by decide)) (by decide)] at he
    injection he with he
    rw [← he]
    exact both_get (i := 9) rfl
  · rw [show 1001 = 1000 + 1 from rfl, kx_cel (cl00.mpr (by decide)) (by decide)] at he
    injection he with he
    rw [← he]
    exact both_get (i := 10) rfl
  · rw [show 4001 = 4000 + 1 from rfl, kx_val (cl00.mpr (by decide)) (by decide)] at he
    injection he with he
    rw [← he]
    exact both_get (i := 11) rfl
  · rw [kx_lt (by decide)] at he
    injection he with he
    rw [← he]
    exact both_get (i := 12) rfl
  · rw [show 7002 = 7000 + 2 from rfl, kx_she (sh00.mpr (by decide)) (by decide)] at he
    injection he with he
    rw [← he]
    exact both_get (i := 13) rfl
  · rw [show 1002 = 1000 + 2 from rfl, kx_cel (cl00.mpr (by decide)) (by decide)] at he
    injection he with he
    rw [← he]
    exact both_get (i := 14) rfl
  · rw [show 4002 = 4000 + 2 from rfl, kx_val (cl00.mpr (by decide)) (by decide)] at he
    injection he with he
    rw [← he]
    exact both_get (i := 15) rfl
  · rw [kx_lt (by decide)] at he
    injection he with he
    rw [← he]
    exact both_get (i := 16) rfl
  · rw [kx_lt (by decide)] at he
    injection he with he
    rw [← he]
    exact both_get (i := 17) rfl
  · have e1 : kx (ad00 h) (fun _ => .null) k00 5 = some (.inl (5, 200, fun _ => .null)) := by
      rw [kx_lt (by decide)]
      unfold kx0
      congr 3
    rw [e1] at he
    injection he with he
    rw [← he]
    exact both_get (i := 18) rfl
  · have e1 : kx (ad00 h) (fun _ => .null) k00 6 = some (.inl (4, 400, fun _ => .null)) := by
      rw [kx_lt (by decide)]
      unfold kx0
      congr 3
    rw [e1] at he
    injection he with he
    rw [← he]
    exact both_get (i := 19) rfl
theorem kt_I00 : kt_I (ad00 h) (fun _ => .null) k00 (bothH h k) := by
  refine ⟨fun key e he => ?_, fun a b ha hb hab => ?_, by decide, by decide, fun j _ => Or.inl rfl, fun i hi => absurd hi (Nat.not_lt_zero i)⟩
  · have hk := kx_dom (by rw [he]; simp)
    refine ⟨kx_at hk he, ?_⟩
    have := rix_lt key hk
    show h.1 + rix key < h.1 + 66
    omega
  · have h1 := kx_dom ha
    have h2 := kx_dom hb
    refine rix_inj a h1 b h2 ?_
    have : h.1 + rix a = h.1 + rix b := hab
    omega
theorem tag8 : ∀ k, k < 58 → mt_tag k ≠ 100 → k ∈ kr8 := by decide
theorem rix8_inj : ∀ a, a ∈ kr8 → ∀ b, b ∈ kr8 → rix8 a = rix8 b → a = b := by decide
theorem rix8_lt : ∀ a, a ∈ kr8 → rix8 a < 45 := by decide
theorem fs8 : refF h 20 = mt_fs (ad8 h) s00 := rfl
theorem ar8 {q : Nat} (hk : q ∈ kr8) : (bothH h k).2.2 (ad8 h q) = .inl (mt_tag q, s00.2.2 q, mt_v s00 q) := by
  unfold kr8 at hk
  simp only [List.mem_cons, List.not_mem_nil, or_false] at hk
  rcases hk with rfl | rfl | rfl | rfl | rfl | rfl | rfl | rfl | rfl | rfl | rfl | rfl | rfl | rfl | rfl | rfl | rfl | rfl | rfl | rfl | rfl | rfl | rfl | rfl | rfl | rfl | rfl | rfl | rfl | rfl | rfl | rfl | rfl | rfl | rfl | rfl | rfl | rfl | rfl | rfl | rfl | rfl | rfl | rfl | rfl
  · exact both_get (i := 21) rfl
  · exact both_get (i := 22) rfl
  · exact both_get (i := 23) rfl
  · exact both_get (i := 24) rfl
  · exact both_get (i := 25) rfl
  · exact both_get (i := 26) rfl
  · exact both_get (i := 27) rfl
  · exact both_get (i := 28) rfl
  · exact both_get (i := 29) rfl
  · exact both_get (i := 30) rfl
  · exact both_get (i := 31) rfl
  · exact both_get (i := 32) rfl
  · exact both_get (i := 33) rfl
  · exact both_get (i := 34) rfl
  · exact both_get (i := 35) rfl
  · exact both_get (i := 36) rfl
  · exact both_get (i := 37) rfl
  · exact both_get (i := 38) rfl
  · exact both_get (i := 39) rfl
  · exact both_get (i := 40) rfl
  · exact both_get (i := 41) rfl
  · exact both_get (i := 42) rfl
  · exact both_get (i := 43) rfl
  · exact both_get (i := 44) rfl
  · exact both_get (i := 45) rfl
  · exact both_get (i := 46) rfl
  · exact both_get (i := 47) rfl
  · exact both_get (i := 48) rfl
  · exact both_get (i := 49) rfl
  · exact both_get (i := 50) rfl
  · exact both_get (i := 51) rfl
  · exact both_get (i := 52) rfl
  · exact both_get (i := 53) rfl
  · exact both_get (i := 54) rfl
  · exact both_get (i := 55) rfl
  · exact both_get (i := 56) rfl
  · exact both_get (i := 57) rfl
  · exact both_get (i := 58) rfl
  · exact both_get (i := 59) rfl
  · exact both_get (i := 60) rfl
  · exact both_get (i := 61) rfl
  · exact both_get (i := 62) rfl
  · exact both_get (i := 63) rfl
  · exact both_get (i := 64) rfl
  · exact both_get (i := 65) rfl
theorem mt_MI00 : mt_MI (h.1 + (20 + 0)) (ad8 h) s00 (bothH h k) := by
  refine ⟨?_, fun q hq ht => ar8 (tag8 q hq ht), fun a b ha hb ta tb hab => ?_, fun q hq ht => ?_, by show h.1 + (20 + 0) < h.1 + 66; omega⟩
  · rw [← fs8]
    exact both_get (i := 20) rfl
  · refine rix8_inj a (tag8 a ha ta) b (tag8 b hb tb) ?_
    have : h.1 + (20 + (1 + rix8 a)) = h.1 + (20 + (1 + rix8 b)) := hab
    omega
  · have := rix8_lt q (tag8 q hq ht)
    refine ⟨?_, ?_⟩
    · show h.1 + (20 + (1 + rix8 q)) ≠ h.1 + (20 + 0)
      omega
    · show h.1 + (20 + (1 + rix8 q)) < h.1 + 66
      omega
end ST
