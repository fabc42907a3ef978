/-! what the reference reads -/
theorem t32 {x : Int32} {y : Int64} (h : x.toInt64 = y) : x = y.toInt32 := by rw [← h, Int32.toInt32_toInt64]
theorem t32i {x : Int32} {y : Int64} {z : Int32} (h : x.toInt64 = y) : y.toInt32 = z ↔ y = z.toInt64 := by
  rw [← h, Int32.toInt32_toInt64, cl_inj]
section RD
variable {N : Nat} {s : mt_S} {D : pd} {e l : Nat}
theorem rd5 (h : rv s D e) (hl : l < D.nl) (h4 : D.nl ≤ 400) : gm_ldI s 5 (nI l) = some (D.kind l) := by
  rw [gm_rdI (by rw [h.len 5 (by decide)]; show l < 400; omega) (by omega), (h.lot l hl).k5]
theorem rd6 (h : rv s D e) (hl : l < D.nl) (h4 : D.nl ≤ 400) : gm_ldL s 6 (nI l) = some (D.facts l 0) := by
  rw [gm_rdL (by rw [h.len 6 (by decide)]; show l < 400; omega) (by omega), (h.lot l hl).k6]
theorem rd7 (h : rv s D e) (hl : l < D.nl) (h4 : D.nl ≤ 400) : gm_ldL s 7 (nI l) = some (D.res l) := by
  rw [gm_rdL (by rw [h.len 7 (by decide)]; show l < 400; omega) (by omega), (h.lot l hl).k7]
theorem rd8 (h : rv s D e) (hl : l < D.nl) (h4 : D.nl ≤ 400) : gm_ldI s 8 (nI l) = some (D.facts l 1).toInt32 := by
  rw [gm_rdI (by rw [h.len 8 (by decide)]; show l < 400; omega) (by omega), t32 (h.lot l hl).k8]
theorem rd9 (h : rv s D e) (hl : l < D.nl) (h4 : D.nl ≤ 400) : gm_ldI s 9 (nI l) = some (D.facts l 2).toInt32 := by
  rw [gm_rdI (by rw [h.len 9 (by decide)]; show l < 400; omega) (by omega), t32 (h.lot l hl).k9]
theorem rd10 (h : rv s D e) (hl : l < D.nl) (h4 : D.nl ≤ 400) : gm_ldL s 10 (nI l) = some (D.facts l 3) := by
  rw [gm_rdL (by rw [h.len 10 (by decide)]; show l < 400; omega) (by omega), (h.lot l hl).k10]
theorem rd12 (h : rv s D e) (hl : l < D.nl) (h4 : D.nl ≤ 400) : gm_ldI s 12 (nI l) = some (nI (D.nS l)) := by
  rw [gm_rdI (by rw [h.len 12 (by decide)]; show l < 400; omega) (by omega), (h.lot l hl).k12]
theorem rd13 (h : rv s D e) (hl : l < D.nl) (h4 : D.nl ≤ 400) : gm_ldI s 13 (nI l) = some (if D.facts l 2 = 0 then -1 else nI (D.nE l)) := by
  rw [gm_rdI (by rw [h.len 13 (by decide)]; show l < 400; omega) (by omega), (h.lot l hl).k13]
theorem rd14 (h : rv s D e) (hl : l < D.nl) (h4 : D.nl ≤ 400) : gm_ldI s 14 (nI l) = some (s.1 14 l) := by
  rw [gm_rdI (by rw [h.len 14 (by decide)]; show l < 400; omega) (by omega)]
theorem rd19 (h : rv s D e) (hl : l < D.nl) (h4 : D.nl ≤ 400) : gm_ldI s 19 (nI l) = some (nI (D.nL l)) := by
  rw [gm_rdI (by rw [h.len 19 (by decide)]; show l < 400; omega) (by omega), (h.lot l hl).k19]
theorem rd23 (h : rv s D e) (hl : l < D.nl) (h4 : D.nl ≤ 400) : gm_ldI s 23 (nI l) = some (D.facts l 8).toInt32 := by
  rw [gm_rdI (by rw [h.len 23 (by decide)]; show l < 400; omega) (by omega), t32 (h.lot l hl).k23]
theorem rd24 (h : rv s D e) (hl : l < D.nl) (h4 : D.nl ≤ 400) (h8 : D.facts l 8 ≠ 0) : gm_ldL s 24 (nI l) = some (D.facts l 7) := by
  rw [gm_rdL (by rw [h.len 24 (by decide)]; show l < 400; omega) (by omega), (h.lot l hl).k24 h8]
theorem rd25 (h : rv s D e) (hl : l < D.nl) (h4 : D.nl ≤ 400) : gm_ldI s 25 (nI l) = some (D.facts l 4).toInt32 := by
  rw [gm_rdI (by rw [h.len 25 (by decide)]; show l < 400; omega) (by omega), t32 (h.lot l hl).k25]
theorem rd26 (h : rv s D e) (hl : l < D.nl) (h4 : D.nl ≤ 400) (h8 : D.facts l 4 ≠ 0) : gm_ldI s 26 (nI l) = some (D.facts l 5).toInt32 := by
  rw [gm_rdI (by rw [h.len 26 (by decide)]; show l < 400; omega) (by omega), t32 ((h.lot l hl).k26 h8).1]
theorem rd27 (h : rv s D e) (hl : l < D.nl) (h4 : D.nl ≤ 400) (h8 : D.facts l 4 ≠ 0) : gm_ldL s 27 (nI l) = some (D.facts l 6) := by
  rw [gm_rdL (by rw [h.len 27 (by decide)]; show l < 400; omega) (by omega), ((h.lot l hl).k26 h8).2]
theorem rd28 (h : rv s D e) (hl : l < D.nl) (h4 : D.nl ≤ 400) : gm_ldI s 28 (nI l) = some (D.facts l 9).toInt32 := by
  rw [gm_rdI (by rw [h.len 28 (by decide)]; show l < 400; omega) (by omega), t32 (h.lot l hl).k28]
theorem rd29 (h : rv s D e) (hl : l < D.nl) (h4 : D.nl ≤ 400) : gm_ldI s 29 (nI l) = some (D.facts l 10).toInt32 := by
  rw [gm_rdI (by rw [h.len 29 (by decide)]; show l < 400; omega) (by omega), t32 (h.lot l hl).k29]
theorem rd30 (h : rv s D e) (hl : l < D.nl) (h4 : D.nl ≤ 400) : gm_ldI s 30 (nI l) = some (D.facts l 11).toInt32 := by
  rw [gm_rdI (by rw [h.len 30 (by decide)]; show l < 400; omega) (by omega), t32 (h.lot l hl).k30]
theorem rd31 (h : rv s D e) (hl : l < D.nl) (h4 : D.nl ≤ 400) (h8 : D.facts l 11 = Int64.ofNat l) : gm_ldI s 31 (nI l) = some (D.facts l 12).toInt32 := by
  rw [gm_rdI (by rw [h.len 31 (by decide)]; show l < 400; omega) (by omega), t32 ((h.lot l hl).k31 h8).1]
theorem rd32 (h : rv s D e) (hl : l < D.nl) (h4 : D.nl ≤ 400) (h8 : D.facts l 11 = Int64.ofNat l) : gm_ldI s 32 (nI l) = some (D.facts l 13).toInt32 := by
  rw [gm_rdI (by rw [h.len 32 (by decide)]; show l < 400; omega) (by omega), t32 ((h.lot l hl).k31 h8).2]
theorem rd11 (h : rv s D e) (hl : l < D.nl) (h4 : D.nl ≤ 400) {k : Nat} (hk : k < D.nS l) : gm_ldI s 11 (4 * nI l + nI k) = some (D.sels l (1 + k)).toInt32 := by
  have := (h.lot l hl).bd.1
  rw [cz_lit 4, cz_mul, cz_add, gm_rdI (by rw [h.len 11 (by decide)]; show 4 * l + k < 1600; omega) (by omega), t32 ((h.lot l hl).k11 k hk)]
theorem rd20 (h : rv s D e) (hl : l < D.nl) (h4 : D.nl ≤ 400) {k : Nat} (hk : k < D.nL l) : gm_ldI s 20 (nI (40 * l + k)) = some (D.lims l (1 + 3 * k)).toInt32 := by
  have := (h.lot l hl).bd.2.1
  rw [gm_rdI (by rw [h.len 20 (by decide)]; show 40 * l + k < 16000; omega) (by omega), t32 ((h.lot l hl).lim k hk).1]
theorem rd21 (h : rv s D e) (hl : l < D.nl) (h4 : D.nl ≤ 400) {k : Nat} (hk : k < D.nL l) : gm_ldL s 21 (nI (40 * l + k)) = some (D.lims l (2 + 3 * k)) := by
  have := (h.lot l hl).bd.2.1
  rw [gm_rdL (by rw [h.len 21 (by decide)]; show 40 * l + k < 16000; omega) (by omega), ((h.lot l hl).lim k hk).2.1]
theorem rd22 (h : rv s D e) (hl : l < D.nl) (h4 : D.nl ≤ 400) {k : Nat} (hk : k < D.nL l) : gm_ldI s 22 (nI (40 * l + k)) = some (D.lims l (3 + 3 * k)).toInt32 := by
  have := (h.lot l hl).bd.2.1
  rw [gm_rdI (by rw [h.len 22 (by decide)]; show 40 * l + k < 16000; omega) (by omega), t32 ((h.lot l hl).lim k hk).2.2]
theorem rd1 (h : rv s D e) {b : Nat} (hb : b < D.nb) (h4 : D.nb ≤ 200) : gm_ldI s 1 (nI b) = some (D.bkind b) := by
  rw [gm_rdI (by rw [h.len 1 (by decide)]; show b < 200; omega) (by omega), (h.bid b hb).1]
theorem rd2 (h : rv s D e) {b : Nat} (hb : b < D.nb) (h4 : D.nb ≤ 200) : gm_ldL s 2 (nI b) = some (D.purse b) := by
  rw [gm_rdL (by rw [h.len 2 (by decide)]; show b < 200; omega) (by omega), (h.bid b hb).2.1]
theorem rd3 (h : rv s D e) {b : Nat} (hb : b < D.nb) (h4 : D.nb ≤ 200) : gm_ldL s 3 (nI b) = some (D.bal b 0) := by
  rw [gm_rdL (by rw [h.len 3 (by decide)]; show b < 200; omega) (by omega), (h.bid b hb).2.2]
theorem rd34 (h : rv s D e) {k : Nat} (hk : k < cn (D.st 0)) (h4 : cn (D.st 0) ≤ 20) : gm_ldL s 34 (nI k) = some (D.st (1 + 2 * k)) := by
  rw [gm_rdL (by rw [h.len 34 (by decide)]; show k < 20; omega) (by omega), (h.st.2 k hk).1]
theorem rd35 (h : rv s D e) {k : Nat} (hk : k < cn (D.st 0)) (h4 : cn (D.st 0) ≤ 20) : gm_ldL s 35 (nI k) = some (D.st (2 + 2 * k)) := by
  rw [gm_rdL (by rw [h.len 35 (by decide)]; show k < 20; omega) (by omega), (h.st.2 k hk).2]
theorem rd37 (h : rv s D e) {k : Nat} (hk : k < cn (D.br 0)) (h4 : cn (D.br 0) ≤ 20) : gm_ldL s 37 (nI k) = some (D.br (1 + 2 * k)) := by
  rw [gm_rdL (by rw [h.len 37 (by decide)]; show k < 20; omega) (by omega), (h.br.2 k hk).1]
theorem rd38 (h : rv s D e) {k : Nat} (hk : k < cn (D.br 0)) (h4 : cn (D.br 0) ≤ 20) : gm_ldI s 38 (nI k) = some (D.br (2 + 2 * k)).toInt32 := by
  rw [gm_rdI (by rw [h.len 38 (by decide)]; show k < 20; omega) (by omega), t32 (h.br.2 k hk).2]
theorem rd39 (h : rv s D e) {k : Nat} (hk : 1 ≤ k) (h4 : k ≤ 5) : gm_ldI s 39 (nI k) = some (D.room (5 + k)).toInt32 := by
  rw [gm_rdI (by rw [h.len 39 (by decide)]; show k < 6; omega) (by omega), t32 (h.tx k hk h4)]
theorem rd40 (h : rv s D e) {k : Nat} (hk : k < 3) : gm_ldL s 40 (nI k) = some (D.room (2 + k)) := by
  rw [gm_rdL (by rw [h.len 40 (by decide)]; exact hk) (by omega), h.ac k hk]
/-! small questions -/
theorem w_noLot (h : rv s D e) (a : Int32) : gm_X8_noLot N a s = some (sp_noLot D a, s) := by
  unfold gm_X8_noLot sp_noLot
  rw [h.nl]
  repeat' split
  all_goals rfl
theorem w_noBid (h : rv s D e) (a : Int32) : gm_X8_noBidder N a s = some (sp_noBid D a, s) := by
  unfold gm_X8_noBidder sp_noBid
  rw [h.nb]
  repeat' split
  all_goals rfl
theorem w_isSum (x : Int64) : gm_X8_isSum N x s = some (if sp_sumOk x then 1 else 0, s) := by
  unfold gm_X8_isSum
  by_cases a : x < 1
  · rw [if_pos a, if_neg (show ¬ sp_sumOk x from fun z => z.1 a)]
  · rw [if_neg a]
    by_cases b : 1000000000000 < x
    · rw [if_pos b, if_neg (show ¬ sp_sumOk x from fun z => z.2 b)]
    · rw [if_neg b, if_pos (show sp_sumOk x from ⟨a, b⟩)]
theorem w_isRate (x : Int32) : gm_X8_isRate N x s = some (if sp_rateOk x then 1 else 0, s) := by
  unfold gm_X8_isRate
  by_cases a : x < 0
  · rw [if_pos a, if_neg (show ¬ sp_rateOk x from fun z => z.1 a)]
  · rw [if_neg a]
    by_cases b : 10000 < x
    · rw [if_pos b, if_neg (show ¬ sp_rateOk x from fun z => z.2 b)]
    · rw [if_neg b, if_pos (show sp_rateOk x from ⟨a, b⟩)]
theorem noLot0 (h4 : D.nl ≤ 400) {a : Int32} (h : sp_noLot D a = 0) : a = nI (ix a) ∧ ix a < D.nl := by
  unfold sp_noLot at h
  split at h
  · exact absurd h (by decide)
  · rename_i c
    split at h
    · split at h
      · rename_i d
        obtain ⟨x, y⟩ := cz_of c
        refine ⟨x, ?_⟩
        rw [x] at d
        exact (cz_lt y (by omega)).mp d
      · exact absurd h (by decide)
    · exact absurd h (by decide)
theorem noBid0 (h4 : D.nb ≤ 200) {a : Int32} (h : sp_noBid D a = 0) : a = nI (ix a) ∧ ix a < D.nb := by
  unfold sp_noBid at h
  split at h
  · exact absurd h (by decide)
  · rename_i c
    split at h
    · split at h
      · rename_i d
        obtain ⟨x, y⟩ := cz_of c
        refine ⟨x, ?_⟩
        rw [x] at d
        exact (cz_lt y (by omega)).mp d
      · exact absurd h (by decide)
    · exact absurd h (by decide)
theorem noLotLe {a : Int32} : sp_noLot D a ≤ 0 ↔ sp_noLot D a = 0 := by
  unfold sp_noLot
  repeat' split
  all_goals decide
theorem noBidLe {a : Int32} : sp_noBid D a ≤ 0 ↔ sp_noBid D a = 0 := by
  unfold sp_noBid
  repeat' split
  all_goals decide
theorem notOpenLe {a : Nat} : sp_notOpen D a ≤ 0 ↔ sp_notOpen D a = 0 := by
  unfold sp_notOpen
  repeat' split
  all_goals decide
theorem w_isPlain {M : Nat} (h : rv s D e) (hp : pi D M) (hl : l < D.nl) : gm_X8_isPlain N (nI l) s = some (if D.kind l = 4 ∨ D.kind l = 5 then 0 else 1, s) := by
  unfold gm_X8_isPlain
  rw [rd5 h hl hp.l0.2, Option.bind_some]
  rcases (hp.lot l hl).kd with z | z | z | z | z <;> rw [z] <;> rfl
theorem w_notOpen {M : Nat} (h : rv s D e) (hp : pi D M) (hl : l < D.nl) : gm_X8_notOpen N (nI l) s = some (sp_notOpen D l, s) := by
  unfold gm_X8_notOpen sp_notOpen
  rw [rd13 h hl hp.l0.2, Option.bind_some, rd9 h hl hp.l0.2]
  by_cases c : D.facts l 2 = 0
  · rw [if_pos c, if_pos c]
    rfl
  · rw [if_neg c, if_neg c, if_pos (by rw [show (0 : Int32) = nI 0 from rfl, cz_le (by omega) (by have := (hp.lot l hl).e0.2; omega)]; omega), Option.bind_some]
    by_cases d : D.facts l 2 = 1
    · rw [if_pos d, d]; rfl
    · rw [if_neg d, if_neg]
      intro z
      rw [t32i ((h.lot l hl).k9)] at z
      exact d z
end RD
