/-! small numbers in Int32 and Int64 -/
theorem cz_toI {n : Nat} (h : n < 2 ^ 31) : (nI n).toInt = n := Int32.toInt_ofNat_of_lt h
theorem cz_cl (a : Int32) : a.toNatClampNeg = a.toInt.toNat := rfl
theorem cz_cl64 (a : Int64) : a.toNatClampNeg = a.toInt.toNat := rfl
theorem cz_nat {n : Nat} (h : n < 2 ^ 31) : (nI n).toNatClampNeg = n := by
  rw [cz_cl, cz_toI h, Int.toNat_natCast]
theorem cz_nn {n : Nat} (h : n < 2 ^ 31) : ¬ nI n < 0 := by
  rw [Int32.lt_iff_toInt_lt, cz_toI h]
  simp
theorem cz_lt {a b : Nat} (ha : a < 2 ^ 31) (hb : b < 2 ^ 31) : nI a < nI b ↔ a < b := by
  rw [Int32.lt_iff_toInt_lt, cz_toI ha, cz_toI hb]
  omega
theorem cz_le {a b : Nat} (ha : a < 2 ^ 31) (hb : b < 2 ^ 31) : nI a ≤ nI b ↔ a ≤ b := by
  rw [Int32.le_iff_toInt_le, cz_toI ha, cz_toI hb]
  omega
theorem cz_eq {a b : Nat} (ha : a < 2 ^ 31) (hb : b < 2 ^ 31) : nI a = nI b ↔ a = b := by
  rw [← Int32.toInt_inj, cz_toI ha, cz_toI hb]
  omega
theorem cz_add (a b : Nat) : nI a + nI b = nI (a + b) := (Int32.ofNat_add a b).symm
theorem cz_mul (a b : Nat) : nI a * nI b = nI (a * b) := (Int32.ofNat_mul a b).symm
theorem cz_sub {a b : Nat} (h : b ≤ a) (ha : a < 2 ^ 31) : nI a - nI b = nI (a - b) := by
  have e := cz_add (a - b) b
  rw [show a - b + b = a from by omega] at e
  rw [← e]
  simp
theorem cz_lit (n : Nat) : (OfNat.ofNat n : Int32) = nI n := rfl
theorem cz_of {a : Int32} (h : ¬ a < 0) : a = nI (ix a) ∧ ix a < 2 ^ 31 := by
  have h1 : 0 ≤ a.toInt := by
    rw [Int32.lt_iff_toInt_lt] at h
    simpa using h
  have h2 : a.toInt < 2 ^ 31 := by have := a.toInt_lt; simpa using this
  have h3 : ix a < 2 ^ 31 := by
    unfold ix
    rw [cz_cl]
    omega
  refine ⟨?_, h3⟩
  rw [← Int32.toInt_inj, cz_toI h3]
  unfold ix
  rw [cz_cl]
  omega
theorem cz_ix {n : Nat} (h : n < 2 ^ 31) : ix (nI n) = n := cz_nat h
/-! Int64 -/
theorem cl_toI {n : Nat} (h : n < 2 ^ 31) : (Int64.ofNat n).toInt = n := Int64.toInt_ofNat_of_lt (by omega)
theorem cl_cn {n : Nat} (h : n < 2 ^ 31) : cn (Int64.ofNat n) = n := by
  unfold cn
  rw [cz_cl64, cl_toI h, Int.toNat_natCast]
theorem cl_32 {n : Nat} (h : n < 2 ^ 31) : (Int64.ofNat n).toInt32 = nI n := by
  rw [← Int32.toInt_inj, cz_toI h, Int64.toInt_toInt32, cl_toI h, Int.bmod_eq_of_le] <;> omega
theorem cl_64 {n : Nat} (h : n < 2 ^ 31) : (nI n).toInt64 = Int64.ofNat n := by
  rw [← Int64.toInt_inj, Int32.toInt_toInt64, cz_toI h, cl_toI h]
theorem cl_inj {a b : Int32} : a.toInt64 = b.toInt64 ↔ a = b := by
  rw [← Int64.toInt_inj, Int32.toInt_toInt64, Int32.toInt_toInt64, Int32.toInt_inj]
theorem cl_lt {a b : Int32} : a.toInt64 < b.toInt64 ↔ a < b := by
  rw [Int64.lt_iff_toInt_lt, Int32.lt_iff_toInt_lt, Int32.toInt_toInt64, Int32.toInt_toInt64]
theorem cl_le {a b : Int32} : a.toInt64 ≤ b.toInt64 ↔ a ≤ b := by
  rw [Int64.le_iff_toInt_le, Int32.le_iff_toInt_le, Int32.toInt_toInt64, Int32.toInt_toInt64]
theorem cl_eq {a b : Nat} (ha : a < 2 ^ 31) (hb : b < 2 ^ 31) : Int64.ofNat a = Int64.ofNat b ↔ a = b := by
  rw [← Int64.toInt_inj, cl_toI ha, cl_toI hb]
  omega
theorem cl_ltN {a b : Nat} (ha : a < 2 ^ 31) (hb : b < 2 ^ 31) : Int64.ofNat a < Int64.ofNat b ↔ a < b := by
  rw [Int64.lt_iff_toInt_lt, cl_toI ha, cl_toI hb]
  omega
theorem cl_leN {a b : Nat} (ha : a < 2 ^ 31) (hb : b < 2 ^ 31) : Int64.ofNat a ≤ Int64.ofNat b ↔ a ≤ b := by
  rw [Int64.le_iff_toInt_le, cl_toI ha, cl_toI hb]
  omega
theorem cl_lit (n : Nat) : (OfNat.ofNat n : Int64) = Int64.ofNat n := rfl
theorem cl_0 : (0 : Int64) = (0 : Int32).toInt64 := by decide
theorem cl_1 : (1 : Int64) = (1 : Int32).toInt64 := by decide
theorem cl_2 : (2 : Int64) = (2 : Int32).toInt64 := by decide
theorem cl_3 : (3 : Int64) = (3 : Int32).toInt64 := by decide
theorem cl_m1 : (-1 : Int64) = (-1 : Int32).toInt64 := by decide
theorem cl_add (a b : Nat) : Int64.ofNat a + Int64.ofNat b = Int64.ofNat (a + b) := (Int64.ofNat_add a b).symm
/-! reading and writing rows -/
theorem gm_rdI {s : mt_S} {k i : Nat} (h : i < s.2.2 k) (hi : i < 2 ^ 31) : gm_ldI s k (nI i) = some (s.1 k i) := by
  unfold gm_ldI
  rw [cz_nat hi, if_neg]
  rintro (h1 | h1)
  · exact cz_nn hi h1
  · omega
theorem gm_rdL {s : mt_S} {k i : Nat} (h : i < s.2.2 k) (hi : i < 2 ^ 31) : gm_ldL s k (nI i) = some (s.2.1 k i) := by
  unfold gm_ldL
  rw [cz_nat hi, if_neg]
  rintro (h1 | h1)
  · exact cz_nn hi h1
  · omega
theorem gm_wrI {s : mt_S} {k i : Nat} {v : Int32} (h : i < s.2.2 k) (hi : i < 2 ^ 31) : gm_stI s k (nI i) v = some (gm_setI s k i v) := by
  unfold gm_stI
  rw [cz_nat hi, if_neg]
  rintro (h1 | h1)
  · exact cz_nn hi h1
  · omega
theorem gm_wrL {s : mt_S} {k i : Nat} {v : Int64} (h : i < s.2.2 k) (hi : i < 2 ^ 31) : gm_stL s k (nI i) v = some (gm_setL s k i v) := by
  unfold gm_stL
  rw [cz_nat hi, if_neg]
  rintro (h1 | h1)
  · exact cz_nn hi h1
  · omega
theorem gk_rdI {s : mt_S} {k n i : Nat} (h : i < n) (hi : i < 2 ^ 31) : gk_ldI s k n (nI i) = some (s.1 k i) := by
  unfold gk_ldI
  rw [cz_nat hi, if_neg]
  rintro (h1 | h1)
  · exact cz_nn hi h1
  · omega
theorem gk_rdL {s : mt_S} {k n i : Nat} (h : i < n) (hi : i < 2 ^ 31) : gk_ldL s k n (nI i) = some (s.2.1 k i) := by
  unfold gk_ldL
  rw [cz_nat hi, if_neg]
  rintro (h1 | h1)
  · exact cz_nn hi h1
  · omega
theorem gk_wrI {s : mt_S} {k n i : Nat} {v : Int32} (h : i < n) (hi : i < 2 ^ 31) : gk_stI s k n (nI i) v = some (gm_setI s k i v) := by
  unfold gk_stI
  rw [cz_nat hi, if_neg]
  rintro (h1 | h1)
  · exact cz_nn hi h1
  · omega
theorem gk_wrL {s : mt_S} {k n i : Nat} {v : Int64} (h : i < n) (hi : i < 2 ^ 31) : gk_stL s k n (nI i) v = some (gm_setL s k i v) := by
  unfold gk_stL
  rw [cz_nat hi, if_neg]
  rintro (h1 | h1)
  · exact cz_nn hi h1
  · omega
