/-! what holds of the room after any run of acts -/
def sp_whole (D : pd) (w p q : Nat) : Prop := w < D.nl ∧ p < D.nl ∧ q < D.nl ∧ w ≠ p ∧ w ≠ q ∧ p ≠ q ∧ D.facts w 11 = Int64.ofNat w ∧ D.facts w 12 = Int64.ofNat p ∧ D.facts w 13 = Int64.ofNat q ∧ D.facts p 11 = Int64.ofNat w ∧ D.facts q 11 = Int64.ofNat w
def li (D : pd) (M : Nat) (l : Nat) : Prop := (D.kind l = 1 ∨ D.kind l = 2 ∨ D.kind l = 3 ∨ D.kind l = 4 ∨ D.kind l = 5) ∧ (sp_sumOk (D.facts l 0)) ∧ (sp_monOk (D.res l)) ∧ (∃ r : Nat, r ≤ 10000 ∧ D.facts l 1 = Int64.ofNat r) ∧ (D.facts l 2 = 0 ∨ D.facts l 2 = 1 ∨ D.facts l 2 = 2 ∨ D.facts l 2 = 3) ∧ (D.kind l = 5 → D.facts l 2 ≠ 0 → sp_sumOk (D.facts l 3)) ∧ (D.facts l 4 ≠ 0 → D.facts l 4 = 1 ∧ D.kind l = 4 ∧ ((D.facts l 5 = -1 ∧ D.facts l 6 = 0) ∨ ((∃ b, b < D.nb ∧ D.facts l 5 = Int64.ofNat b) ∧ sp_sumOk (D.facts l 6)))) ∧ (∃ n : Nat, n ≤ M ∧ D.facts l 8 = Int64.ofNat n) ∧ (D.facts l 8 ≠ 0 → sp_sumOk (D.facts l 7)) ∧ (D.facts l 11 = -1 ∨ ∃ w p q, sp_whole D w p q ∧ D.facts l 11 = Int64.ofNat w ∧ (l = w ∨ l = p ∨ l = q)) ∧ (D.book l 0 = Int64.ofNat (D.nE l) ∧ D.nE l ≤ 300) ∧ (D.facts l 2 = 0 → D.nE l = 0) ∧ (∀ i, i < D.nE l → (∃ b, b < D.nb ∧ D.book l (1 + 2 * i) = Int64.ofNat b) ∧ sp_sumOk (D.book l (2 + 2 * i))) ∧ (D.lims l 0 = Int64.ofNat (D.nL l) ∧ D.nL l ≤ 40) ∧ (∀ i, i < D.nL l → (∃ b, b < D.nb ∧ D.lims l (1 + 3 * i) = Int64.ofNat b) ∧ sp_sumOk (D.lims l (2 + 3 * i)) ∧ ∃ n : Nat, 1 ≤ n ∧ n ≤ M ∧ D.lims l (3 + 3 * i) = Int64.ofNat n) ∧ (∀ i j, i < D.nL l → j < D.nL l → i ≠ j → D.lims l (3 + 3 * i) ≠ D.lims l (3 + 3 * j)) ∧ (∀ i, i < D.nL l → D.lims l (3 + 3 * i) ≠ D.facts l 8) ∧ (D.sels l 0 = Int64.ofNat (D.nS l) ∧ D.nS l ≤ 4) ∧ (∀ i, i < D.nS l → ∃ b, b < D.nb ∧ D.sels l (1 + i) = Int64.ofNat b)
theorem li.kd {D : pd} {M : Nat} {l : Nat} (z : li D M l) : D.kind l = 1 ∨ D.kind l = 2 ∨ D.kind l = 3 ∨ D.kind l = 4 ∨ D.kind l = 5 := z.1
theorem li.so {D : pd} {M : Nat} {l : Nat} (z : li D M l) : sp_sumOk (D.facts l 0) := z.2.1
theorem li.ro {D : pd} {M : Nat} {l : Nat} (z : li D M l) : sp_monOk (D.res l) := z.2.2.1
theorem li.co {D : pd} {M : Nat} {l : Nat} (z : li D M l) : ∃ r : Nat, r ≤ 10000 ∧ D.facts l 1 = Int64.ofNat r := z.2.2.2.1
theorem li.sts {D : pd} {M : Nat} {l : Nat} (z : li D M l) : D.facts l 2 = 0 ∨ D.facts l 2 = 1 ∨ D.facts l 2 = 2 ∨ D.facts l 2 = 3 := z.2.2.2.2.1
theorem li.pr {D : pd} {M : Nat} {l : Nat} (z : li D M l) : D.kind l = 5 → D.facts l 2 ≠ 0 → sp_sumOk (D.facts l 3) := z.2.2.2.2.2.1
theorem li.op {D : pd} {M : Nat} {l : Nat} (z : li D M l) : D.facts l 4 ≠ 0 → D.facts l 4 = 1 ∧ D.kind l = 4 ∧ ((D.facts l 5 = -1 ∧ D.facts l 6 = 0) ∨ ((∃ b, b < D.nb ∧ D.facts l 5 = Int64.ofNat b) ∧ sp_sumOk (D.facts l 6))) := z.2.2.2.2.2.2.1
theorem li.bn {D : pd} {M : Nat} {l : Nat} (z : li D M l) : ∃ n : Nat, n ≤ M ∧ D.facts l 8 = Int64.ofNat n := z.2.2.2.2.2.2.2.1
theorem li.bs {D : pd} {M : Nat} {l : Nat} (z : li D M l) : D.facts l 8 ≠ 0 → sp_sumOk (D.facts l 7) := z.2.2.2.2.2.2.2.2.1
theorem li.wh {D : pd} {M : Nat} {l : Nat} (z : li D M l) : D.facts l 11 = -1 ∨ ∃ w p q, sp_whole D w p q ∧ D.facts l 11 = Int64.ofNat w ∧ (l = w ∨ l = p ∨ l = q) := z.2.2.2.2.2.2.2.2.2.1
theorem li.e0 {D : pd} {M : Nat} {l : Nat} (z : li D M l) : D.book l 0 = Int64.ofNat (D.nE l) ∧ D.nE l ≤ 300 := z.2.2.2.2.2.2.2.2.2.2.1
theorem li.en {D : pd} {M : Nat} {l : Nat} (z : li D M l) : D.facts l 2 = 0 → D.nE l = 0 := z.2.2.2.2.2.2.2.2.2.2.2.1
theorem li.eb {D : pd} {M : Nat} {l : Nat} (z : li D M l) : ∀ i, i < D.nE l → (∃ b, b < D.nb ∧ D.book l (1 + 2 * i) = Int64.ofNat b) ∧ sp_sumOk (D.book l (2 + 2 * i)) := z.2.2.2.2.2.2.2.2.2.2.2.2.1
theorem li.l0 {D : pd} {M : Nat} {l : Nat} (z : li D M l) : D.lims l 0 = Int64.ofNat (D.nL l) ∧ D.nL l ≤ 40 := z.2.2.2.2.2.2.2.2.2.2.2.2.2.1
theorem li.lb {D : pd} {M : Nat} {l : Nat} (z : li D M l) : ∀ i, i < D.nL l → (∃ b, b < D.nb ∧ D.lims l (1 + 3 * i) = Int64.ofNat b) ∧ sp_sumOk (D.lims l (2 + 3 * i)) ∧ ∃ n : Nat, 1 ≤ n ∧ n ≤ M ∧ D.lims l (3 + 3 * i) = Int64.ofNat n := z.2.2.2.2.2.2.2.2.2.2.2.2.2.2.1
theorem li.ld {D : pd} {M : Nat} {l : Nat} (z : li D M l) : ∀ i j, i < D.nL l → j < D.nL l → i ≠ j → D.lims l (3 + 3 * i) ≠ D.lims l (3 + 3 * j) := z.2.2.2.2.2.2.2.2.2.2.2.2.2.2.2.1
theorem li.lx {D : pd} {M : Nat} {l : Nat} (z : li D M l) : ∀ i, i < D.nL l → D.lims l (3 + 3 * i) ≠ D.facts l 8 := z.2.2.2.2.2.2.2.2.2.2.2.2.2.2.2.2.1
theorem li.s0 {D : pd} {M : Nat} {l : Nat} (z : li D M l) : D.sels l 0 = Int64.ofNat (D.nS l) ∧ D.nS l ≤ 4 := z.2.2.2.2.2.2.2.2.2.2.2.2.2.2.2.2.2.1
theorem li.sb {D : pd} {M : Nat} {l : Nat} (z : li D M l) : ∀ i, i < D.nS l → ∃ b, b < D.nb ∧ D.sels l (1 + i) = Int64.ofNat b := z.2.2.2.2.2.2.2.2.2.2.2.2.2.2.2.2.2.2
def ti (T : Nat → Int64) : Prop := (T 0 = Int64.ofNat (cn (T 0)) ∧ cn (T 0) ≤ 20) ∧ (∀ i, i < cn (T 0) → sp_monOk (T (1 + 2 * i))) ∧ (∀ i, i + 1 < cn (T 0) → T (1 + 2 * i) < T (1 + 2 * (i + 1)))
theorem ti.t0 {T : Nat → Int64} (z : ti T) : T 0 = Int64.ofNat (cn (T 0)) ∧ cn (T 0) ≤ 20 := z.1
theorem ti.fo {T : Nat → Int64} (z : ti T) : ∀ i, i < cn (T 0) → sp_monOk (T (1 + 2 * i)) := z.2.1
theorem ti.up {T : Nat → Int64} (z : ti T) : ∀ i, i + 1 < cn (T 0) → T (1 + 2 * i) < T (1 + 2 * (i + 1)) := z.2.2
def pi (D : pd) (M : Nat) : Prop := (D.room 0 = Int64.ofNat D.nb ∧ D.nb ≤ 200) ∧ (D.room 1 = Int64.ofNat D.nl ∧ D.nl ≤ 400) ∧ (ti D.st) ∧ (ti D.br) ∧ (∀ i, i < cn (D.br 0) → ∃ r : Nat, r ≤ 10000 ∧ D.br (2 + 2 * i) = Int64.ofNat r) ∧ (∀ k, 1 ≤ k → k ≤ 5 → ∃ r : Nat, r ≤ 10000 ∧ D.room (5 + k) = Int64.ofNat r) ∧ (∀ b, b < D.nb → D.bkind b = 1 ∨ D.bkind b = 2 ∨ D.bkind b = 3 ∨ D.bkind b = 4) ∧ (∀ i, i < cn (D.st 0) → sp_sumOk (D.st (2 + 2 * i))) ∧ (∀ l, l < D.nl → li D M l)
theorem pi.b0 {D : pd} {M : Nat} (z : pi D M) : D.room 0 = Int64.ofNat D.nb ∧ D.nb ≤ 200 := z.1
theorem pi.l0 {D : pd} {M : Nat} (z : pi D M) : D.room 1 = Int64.ofNat D.nl ∧ D.nl ≤ 400 := z.2.1
theorem pi.st {D : pd} {M : Nat} (z : pi D M) : ti D.st := z.2.2.1
theorem pi.br {D : pd} {M : Nat} (z : pi D M) : ti D.br := z.2.2.2.1
theorem pi.rt {D : pd} {M : Nat} (z : pi D M) : ∀ i, i < cn (D.br 0) → ∃ r : Nat, r ≤ 10000 ∧ D.br (2 + 2 * i) = Int64.ofNat r := z.2.2.2.2.1
theorem pi.tx {D : pd} {M : Nat} (z : pi D M) : ∀ k, 1 ≤ k → k ≤ 5 → ∃ r : Nat, r ≤ 10000 ∧ D.room (5 + k) = Int64.ofNat r := z.2.2.2.2.2.1
theorem pi.bk {D : pd} {M : Nat} (z : pi D M) : ∀ b, b < D.nb → D.bkind b = 1 ∨ D.bkind b = 2 ∨ D.bkind b = 3 ∨ D.bkind b = 4 := z.2.2.2.2.2.2.1
theorem pi.sw {D : pd} {M : Nat} (z : pi D M) : ∀ i, i < cn (D.st 0) → sp_sumOk (D.st (2 + 2 * i)) := z.2.2.2.2.2.2.2.1
theorem pi.lot {D : pd} {M : Nat} (z : pi D M) : ∀ l, l < D.nl → li D M l := z.2.2.2.2.2.2.2.2
/-! the reference's arrays hold the room -/
def rl (s : mt_S) (D : pd) (e l : Nat) : Prop := (D.nS l ≤ 4 ∧ D.nL l ≤ 40 ∧ D.nE l ≤ 300) ∧ (s.1 5 l = D.kind l) ∧ (s.2.1 6 l = D.facts l 0) ∧ (s.2.1 7 l = D.res l) ∧ ((s.1 8 l).toInt64 = D.facts l 1) ∧ ((s.1 9 l).toInt64 = D.facts l 2) ∧ (s.2.1 10 l = D.facts l 3) ∧ (s.1 12 l = nI (D.nS l)) ∧ (∀ k, k < D.nS l → (s.1 11 (4 * l + k)).toInt64 = D.sels l (1 + k)) ∧ (s.1 13 l = if D.facts l 2 = 0 then -1 else nI (D.nE l)) ∧ (∃ c : Nat → Nat, (∀ i, i < D.nE l → c i < e ∧ (s.1 16 (c i)).toInt64 = D.book l (1 + 2 * i) ∧ s.2.1 17 (c i) = D.book l (2 + 2 * i) ∧ s.1 18 (c i) = (if i = 0 then -1 else nI (c (i - 1)))) ∧ (∀ i j, i < j → j < D.nE l → c i < c j) ∧ s.1 14 l = (if D.nE l = 0 then -1 else nI (c (D.nE l - 1)))) ∧ (s.1 19 l = nI (D.nL l)) ∧ (∀ k, k < D.nL l → (s.1 20 (40 * l + k)).toInt64 = D.lims l (1 + 3 * k) ∧ s.2.1 21 (40 * l + k) = D.lims l (2 + 3 * k) ∧ (s.1 22 (40 * l + k)).toInt64 = D.lims l (3 + 3 * k)) ∧ ((s.1 23 l).toInt64 = D.facts l 8) ∧ (D.facts l 8 ≠ 0 → s.2.1 24 l = D.facts l 7) ∧ ((s.1 25 l).toInt64 = D.facts l 4) ∧ (D.facts l 4 ≠ 0 → (s.1 26 l).toInt64 = D.facts l 5 ∧ s.2.1 27 l = D.facts l 6) ∧ ((s.1 28 l).toInt64 = D.facts l 9) ∧ ((s.1 29 l).toInt64 = D.facts l 10) ∧ ((s.1 30 l).toInt64 = D.facts l 11) ∧ (D.facts l 11 = Int64.ofNat l → (s.1 31 l).toInt64 = D.facts l 12 ∧ (s.1 32 l).toInt64 = D.facts l 13)
theorem rl.bd {s : mt_S} {D : pd} {e l : Nat} (z : rl s D e l) : D.nS l ≤ 4 ∧ D.nL l ≤ 40 ∧ D.nE l ≤ 300 := z.1
theorem rl.k5 {s : mt_S} {D : pd} {e l : Nat} (z : rl s D e l) : s.1 5 l = D.kind l := z.2.1
theorem rl.k6 {s : mt_S} {D : pd} {e l : Nat} (z : rl s D e l) : s.2.1 6 l = D.facts l 0 := z.2.2.1
theorem rl.k7 {s : mt_S} {D : pd} {e l : Nat} (z : rl s D e l) : s.2.1 7 l = D.res l := z.2.2.2.1
theorem rl.k8 {s : mt_S} {D : pd} {e l : Nat} (z : rl s D e l) : (s.1 8 l).toInt64 = D.facts l 1 := z.2.2.2.2.1
theorem rl.k9 {s : mt_S} {D : pd} {e l : Nat} (z : rl s D e l) : (s.1 9 l).toInt64 = D.facts l 2 := z.2.2.2.2.2.1
theorem rl.k10 {s : mt_S} {D : pd} {e l : Nat} (z : rl s D e l) : s.2.1 10 l = D.facts l 3 := z.2.2.2.2.2.2.1
theorem rl.k12 {s : mt_S} {D : pd} {e l : Nat} (z : rl s D e l) : s.1 12 l = nI (D.nS l) := z.2.2.2.2.2.2.2.1
theorem rl.k11 {s : mt_S} {D : pd} {e l : Nat} (z : rl s D e l) : ∀ k, k < D.nS l → (s.1 11 (4 * l + k)).toInt64 = D.sels l (1 + k) := z.2.2.2.2.2.2.2.2.1
theorem rl.k13 {s : mt_S} {D : pd} {e l : Nat} (z : rl s D e l) : s.1 13 l = if D.facts l 2 = 0 then -1 else nI (D.nE l) := z.2.2.2.2.2.2.2.2.2.1
theorem rl.ch {s : mt_S} {D : pd} {e l : Nat} (z : rl s D e l) : ∃ c : Nat → Nat, (∀ i, i < D.nE l → c i < e ∧ (s.1 16 (c i)).toInt64 = D.book l (1 + 2 * i) ∧ s.2.1 17 (c i) = D.book l (2 + 2 * i) ∧ s.1 18 (c i) = (if i = 0 then -1 else nI (c (i - 1)))) ∧ (∀ i j, i < j → j < D.nE l → c i < c j) ∧ s.1 14 l = (if D.nE l = 0 then -1 else nI (c (D.nE l - 1))) := z.2.2.2.2.2.2.2.2.2.2.1
theorem rl.k19 {s : mt_S} {D : pd} {e l : Nat} (z : rl s D e l) : s.1 19 l = nI (D.nL l) := z.2.2.2.2.2.2.2.2.2.2.2.1
theorem rl.lim {s : mt_S} {D : pd} {e l : Nat} (z : rl s D e l) : ∀ k, k < D.nL l → (s.1 20 (40 * l + k)).toInt64 = D.lims l (1 + 3 * k) ∧ s.2.1 21 (40 * l + k) = D.lims l (2 + 3 * k) ∧ (s.1 22 (40 * l + k)).toInt64 = D.lims l (3 + 3 * k) := z.2.2.2.2.2.2.2.2.2.2.2.2.1
theorem rl.k23 {s : mt_S} {D : pd} {e l : Nat} (z : rl s D e l) : (s.1 23 l).toInt64 = D.facts l 8 := z.2.2.2.2.2.2.2.2.2.2.2.2.2.1
theorem rl.k24 {s : mt_S} {D : pd} {e l : Nat} (z : rl s D e l) : D.facts l 8 ≠ 0 → s.2.1 24 l = D.facts l 7 := z.2.2.2.2.2.2.2.2.2.2.2.2.2.2.1
theorem rl.k25 {s : mt_S} {D : pd} {e l : Nat} (z : rl s D e l) : (s.1 25 l).toInt64 = D.facts l 4 := z.2.2.2.2.2.2.2.2.2.2.2.2.2.2.2.1
theorem rl.k26 {s : mt_S} {D : pd} {e l : Nat} (z : rl s D e l) : D.facts l 4 ≠ 0 → (s.1 26 l).toInt64 = D.facts l 5 ∧ s.2.1 27 l = D.facts l 6 := z.2.2.2.2.2.2.2.2.2.2.2.2.2.2.2.2.1
theorem rl.k28 {s : mt_S} {D : pd} {e l : Nat} (z : rl s D e l) : (s.1 28 l).toInt64 = D.facts l 9 := z.2.2.2.2.2.2.2.2.2.2.2.2.2.2.2.2.2.1
theorem rl.k29 {s : mt_S} {D : pd} {e l : Nat} (z : rl s D e l) : (s.1 29 l).toInt64 = D.facts l 10 := z.2.2.2.2.2.2.2.2.2.2.2.2.2.2.2.2.2.2.1
theorem rl.k30 {s : mt_S} {D : pd} {e l : Nat} (z : rl s D e l) : (s.1 30 l).toInt64 = D.facts l 11 := z.2.2.2.2.2.2.2.2.2.2.2.2.2.2.2.2.2.2.2.1
theorem rl.k31 {s : mt_S} {D : pd} {e l : Nat} (z : rl s D e l) : D.facts l 11 = Int64.ofNat l → (s.1 31 l).toInt64 = D.facts l 12 ∧ (s.1 32 l).toInt64 = D.facts l 13 := z.2.2.2.2.2.2.2.2.2.2.2.2.2.2.2.2.2.2.2.2
def rlen (k : Nat) : Nat := if k = 1 ∨ k = 2 ∨ k = 3 then 200 else if k = 11 then 1600 else if k = 20 ∨ k = 21 ∨ k = 22 then 16000 else if k = 34 ∨ k = 35 ∨ k = 37 ∨ k = 38 then 20 else if k = 39 then 6 else if k = 40 then 3 else 400
abbrev rfix (k : Nat) : Prop := k ≤ 40 ∧ k ≠ 0 ∧ k ≠ 4 ∧ k ≠ 15 ∧ k ≠ 16 ∧ k ≠ 17 ∧ k ≠ 18 ∧ k ≠ 33 ∧ k ≠ 36
def rv (s : mt_S) (D : pd) (e : Nat) : Prop := (∀ k, rfix k → s.2.2 k = rlen k) ∧ (s.2.2 17 = s.2.2 16 ∧ s.2.2 18 = s.2.2 16 ∧ e ≤ s.2.2 16 ∧ 1 ≤ s.2.2 16 ∧ s.2.2 16 ≤ 4096) ∧ (s.1 15 0 = nI e) ∧ (s.1 0 0 = nI D.nb) ∧ (∀ b, b < D.nb → s.1 1 b = D.bkind b ∧ s.2.1 2 b = D.purse b ∧ s.2.1 3 b = D.bal b 0) ∧ (s.1 4 0 = nI D.nl) ∧ (s.1 33 0 = nI (cn (D.st 0)) ∧ ∀ k, k < cn (D.st 0) → s.2.1 34 k = D.st (1 + 2 * k) ∧ s.2.1 35 k = D.st (2 + 2 * k)) ∧ (s.1 36 0 = nI (cn (D.br 0)) ∧ ∀ k, k < cn (D.br 0) → s.2.1 37 k = D.br (1 + 2 * k) ∧ (s.1 38 k).toInt64 = D.br (2 + 2 * k)) ∧ (∀ k, 1 ≤ k → k ≤ 5 → (s.1 39 k).toInt64 = D.room (5 + k)) ∧ (∀ k, k < 3 → s.2.1 40 k = D.room (2 + k)) ∧ (∀ l, l < D.nl → rl s D e l)
theorem rv.len {s : mt_S} {D : pd} {e : Nat} (z : rv s D e) : ∀ k, rfix k → s.2.2 k = rlen k := z.1
theorem rv.pl {s : mt_S} {D : pd} {e : Nat} (z : rv s D e) : s.2.2 17 = s.2.2 16 ∧ s.2.2 18 = s.2.2 16 ∧ e ≤ s.2.2 16 ∧ 1 ≤ s.2.2 16 ∧ s.2.2 16 ≤ 4096 := z.2.1
theorem rv.en {s : mt_S} {D : pd} {e : Nat} (z : rv s D e) : s.1 15 0 = nI e := z.2.2.1
theorem rv.nb {s : mt_S} {D : pd} {e : Nat} (z : rv s D e) : s.1 0 0 = nI D.nb := z.2.2.2.1
theorem rv.bid {s : mt_S} {D : pd} {e : Nat} (z : rv s D e) : ∀ b, b < D.nb → s.1 1 b = D.bkind b ∧ s.2.1 2 b = D.purse b ∧ s.2.1 3 b = D.bal b 0 := z.2.2.2.2.1
theorem rv.nl {s : mt_S} {D : pd} {e : Nat} (z : rv s D e) : s.1 4 0 = nI D.nl := z.2.2.2.2.2.1
theorem rv.st {s : mt_S} {D : pd} {e : Nat} (z : rv s D e) : s.1 33 0 = nI (cn (D.st 0)) ∧ ∀ k, k < cn (D.st 0) → s.2.1 34 k = D.st (1 + 2 * k) ∧ s.2.1 35 k = D.st (2 + 2 * k) := z.2.2.2.2.2.2.1
theorem rv.br {s : mt_S} {D : pd} {e : Nat} (z : rv s D e) : s.1 36 0 = nI (cn (D.br 0)) ∧ ∀ k, k < cn (D.br 0) → s.2.1 37 k = D.br (1 + 2 * k) ∧ (s.1 38 k).toInt64 = D.br (2 + 2 * k) := z.2.2.2.2.2.2.2.1
theorem rv.tx {s : mt_S} {D : pd} {e : Nat} (z : rv s D e) : ∀ k, 1 ≤ k → k ≤ 5 → (s.1 39 k).toInt64 = D.room (5 + k) := z.2.2.2.2.2.2.2.2.1
theorem rv.ac {s : mt_S} {D : pd} {e : Nat} (z : rv s D e) : ∀ k, k < 3 → s.2.1 40 k = D.room (2 + k) := z.2.2.2.2.2.2.2.2.2.1
theorem rv.lot {s : mt_S} {D : pd} {e : Nat} (z : rv s D e) : ∀ l, l < D.nl → rl s D e l := z.2.2.2.2.2.2.2.2.2.2
def rC (s : mt_S) (cs : List Int32) : Prop := s.2.2 54 = 200 ∧ s.1 55 0 = nI cs.length ∧ cs.length ≤ 200 ∧ ∀ i, (h : i < cs.length) → s.1 54 i = cs[i]
abbrev rest (k : Nat) : Prop := 41 ≤ k ∧ k ≤ 57 ∧ k ≠ 54 ∧ k ≠ 55
/-- the walk's state: the room, the trace, what stays as it was at s0 -/
def rs (s0 s : mt_S) (D : pd) (e : Nat) (ag : Bool) (cs : List Int32) : Prop := (rv s D e) ∧ (rC s cs) ∧ (s.1 56 0 = if ag then 1 else 0) ∧ (∀ k, rest k → s.1 k = s0.1 k ∧ s.2.1 k = s0.2.1 k ∧ s.2.2 k = s0.2.2 k)
theorem rs.v {s0 s : mt_S} {D : pd} {e : Nat} {ag : Bool} {cs : List Int32} (z : rs s0 s D e ag cs) : rv s D e := z.1
theorem rs.c {s0 s : mt_S} {D : pd} {e : Nat} {ag : Bool} {cs : List Int32} (z : rs s0 s D e ag cs) : rC s cs := z.2.1
theorem rs.ag {s0 s : mt_S} {D : pd} {e : Nat} {ag : Bool} {cs : List Int32} (z : rs s0 s D e ag cs) : s.1 56 0 = if ag then 1 else 0 := z.2.2.1
theorem rs.fr {s0 s : mt_S} {D : pd} {e : Nat} {ag : Bool} {cs : List Int32} (z : rs s0 s D e ag cs) : ∀ k, rest k → s.1 k = s0.1 k ∧ s.2.1 k = s0.2.1 k ∧ s.2.2 k = s0.2.2 k := z.2.2.2
def addC (ag : Bool) (cs L : List Int32) : List Int32 := if ag then cs else (cs ++ L).take 200
theorem addC_nil {ag : Bool} {cs : List Int32} (h : cs.length ≤ 200) : addC ag cs [] = cs := by
  unfold addC
  split
  · rfl
  · rw [List.append_nil, List.take_of_length_le h]
theorem addC_add {ag : Bool} {cs L L' : List Int32} : addC ag (addC ag cs L) L' = addC ag cs (L ++ L') := by
  unfold addC
  split
  · rfl
  · rw [← List.append_assoc, List.take_append (l₁ := (cs ++ L).take 200), List.take_append (l₁ := cs ++ L), List.take_take, List.length_take, Nat.min_self, show 200 - min 200 (cs ++ L).length = 200 - (cs ++ L).length from by omega]
/-! what hangs on which rows -/
theorem rl_congr {s s' : mt_S} {D D' : pd} {e e' l : Nat} (h : rl s D e l) (he : e ≤ e')
    (h1 : ∀ k, k ≤ 40 → k ≠ 4 → k ≠ 11 → k ≠ 15 → k ≠ 16 → k ≠ 17 → k ≠ 18 → k ≠ 20 → k ≠ 21 → k ≠ 22 → s'.1 k l = s.1 k l ∧ s'.2.1 k l = s.2.1 k l)
    (h2 : ∀ k, k < 4 → s'.1 11 (4 * l + k) = s.1 11 (4 * l + k))
    (h3 : ∀ k, k < 40 → s'.1 20 (40 * l + k) = s.1 20 (40 * l + k) ∧ s'.2.1 21 (40 * l + k) = s.2.1 21 (40 * l + k) ∧ s'.1 22 (40 * l + k) = s.1 22 (40 * l + k))
    (h4 : ∀ i, i < e → s'.1 16 i = s.1 16 i ∧ s'.2.1 17 i = s.2.1 17 i ∧ s'.1 18 i = s.1 18 i)
    (d1 : D'.kind l = D.kind l) (d2 : D'.res l = D.res l) (d3 : D'.facts l = D.facts l) (d4 : D'.book l = D.book l) (d5 : D'.lims l = D.lims l) (d6 : D'.sels l = D.sels l) : rl s' D' e' l := by
  have nE : D'.nE l = D.nE l := by unfold pd.nE; rw [d4]
  have nS : D'.nS l = D.nS l := by unfold pd.nS; rw [d6]
  have nL : D'.nL l = D.nL l := by unfold pd.nL; rw [d5]
  have hS := h.bd.1
  have hL := h.bd.2.1
  refine ⟨by rw [nS, nL, nE]; exact h.bd, ?_, ?_, ?_, ?_, ?_, ?_, ?_, ?_, ?_, ?_, ?_, ?_, ?_, ?_, ?_, ?_, ?_, ?_, ?_, ?_⟩
  · rw [(h1 5 (by decide) (by decide) (by decide) (by decide) (by decide) (by decide) (by decide) (by decide) (by decide) (by decide)).1, d1]; exact h.k5
  · rw [(h1 6 (by decide) (by decide) (by decide) (by decide) (by decide) (by decide) (by decide) (by decide) (by decide) (by decide)).2, d3]; exact h.k6
  · rw [(h1 7 (by decide) (by decide) (by decide) (by decide) (by decide) (by decide) (by decide) (by decide) (by decide) (by decide)).2, d2]; exact h.k7
  · rw [(h1 8 (by decide) (by decide) (by decide) (by decide) (by decide) (by decide) (by decide) (by decide) (by decide) (by decide)).1, d3]; exact h.k8
  · rw [(h1 9 (by decide) (by decide) (by decide) (by decide) (by decide) (by decide) (by decide) (by decide) (by decide) (by decide)).1, d3]; exact h.k9
  · rw [(h1 10 (by decide) (by decide) (by decide) (by decide) (by decide) (by decide) (by decide) (by decide) (by decide) (by decide)).2, d3]; exact h.k10
  · rw [(h1 12 (by decide) (by decide) (by decide) (by decide) (by decide) (by decide) (by decide) (by decide) (by decide) (by decide)).1, nS]; exact h.k12
  · intro k hk; rw [nS] at hk; rw [h2 k (by omega), d6]; exact h.k11 k hk
  · rw [(h1 13 (by decide) (by decide) (by decide) (by decide) (by decide) (by decide) (by decide) (by decide) (by decide) (by decide)).1, d3, nE]; exact h.k13
  · obtain ⟨c, c1, c2, c3⟩ := h.ch
    refine ⟨c, ?_, ?_, ?_⟩
    · intro i hi
      rw [nE] at hi
      obtain ⟨y1, y2, y3, y4⟩ := c1 i hi
      obtain ⟨z1, z2, z3⟩ := h4 (c i) y1
      rw [z1, z2, z3, d4]
      exact ⟨by omega, y2, y3, y4⟩
    · intro i j hij hj
      rw [nE] at hj
      exact c2 i j hij hj
    · rw [(h1 14 (by decide) (by decide) (by decide) (by decide) (by decide) (by decide) (by decide) (by decide) (by decide) (by decide)).1, nE]; exact c3
  · rw [(h1 19 (by decide) (by decide) (by decide) (by decide) (by decide) (by decide) (by decide) (by decide) (by decide) (by decide)).1, nL]; exact h.k19
  · intro k hk; rw [nL] at hk
    obtain ⟨z1, z2, z3⟩ := h3 k (by omega)
    rw [z1, z2, z3, d5]; exact h.lim k hk
  · rw [(h1 23 (by decide) (by decide) (by decide) (by decide) (by decide) (by decide) (by decide) (by decide) (by decide) (by decide)).1, d3]; exact h.k23
  · rw [(h1 24 (by decide) (by decide) (by decide) (by decide) (by decide) (by decide) (by decide) (by decide) (by decide) (by decide)).2, d3]; exact h.k24
  · rw [(h1 25 (by decide) (by decide) (by decide) (by decide) (by decide) (by decide) (by decide) (by decide) (by decide) (by decide)).1, d3]; exact h.k25
  · rw [(h1 26 (by decide) (by decide) (by decide) (by decide) (by decide) (by decide) (by decide) (by decide) (by decide) (by decide)).1, (h1 27 (by decide) (by decide) (by decide) (by decide) (by decide) (by decide) (by decide) (by decide) (by decide) (by decide)).2, d3]; exact h.k26
  · rw [(h1 28 (by decide) (by decide) (by decide) (by decide) (by decide) (by decide) (by decide) (by decide) (by decide) (by decide)).1, d3]; exact h.k28
  · rw [(h1 29 (by decide) (by decide) (by decide) (by decide) (by decide) (by decide) (by decide) (by decide) (by decide) (by decide)).1, d3]; exact h.k29
  · rw [(h1 30 (by decide) (by decide) (by decide) (by decide) (by decide) (by decide) (by decide) (by decide) (by decide) (by decide)).1, d3]; exact h.k30
  · rw [(h1 31 (by decide) (by decide) (by decide) (by decide) (by decide) (by decide) (by decide) (by decide) (by decide) (by decide)).1, (h1 32 (by decide) (by decide) (by decide) (by decide) (by decide) (by decide) (by decide) (by decide) (by decide) (by decide)).1, d3]; exact h.k31

/-- s' is s but for lot l's places -/
def so (l : Nat) (s s' : mt_S) : Prop := (s'.2.2 = s.2.2) ∧ (∀ k j, k ≤ 40 → j ≠ l → k ≠ 11 → k ≠ 20 → k ≠ 21 → k ≠ 22 → s'.1 k j = s.1 k j ∧ s'.2.1 k j = s.2.1 k j) ∧ (∀ j, (j < 4 * l ∨ 4 * l + 4 ≤ j) → s'.1 11 j = s.1 11 j) ∧ (∀ j, (j < 40 * l ∨ 40 * l + 40 ≤ j) → s'.1 20 j = s.1 20 j ∧ s'.2.1 21 j = s.2.1 21 j ∧ s'.1 22 j = s.1 22 j) ∧ (∀ k j, k = 0 ∨ k = 1 ∨ k = 2 ∨ k = 3 ∨ k = 4 ∨ k = 15 ∨ k = 16 ∨ k = 17 ∨ k = 18 ∨ k = 33 ∨ k = 34 ∨ k = 35 ∨ k = 36 ∨ k = 37 ∨ k = 38 ∨ k = 39 ∨ k = 40 → s'.1 k j = s.1 k j ∧ s'.2.1 k j = s.2.1 k j)
theorem so.len {l : Nat} {s s' : mt_S} (z : so l s s') : s'.2.2 = s.2.2 := z.1
theorem so.a {l : Nat} {s s' : mt_S} (z : so l s s') : ∀ k j, k ≤ 40 → j ≠ l → k ≠ 11 → k ≠ 20 → k ≠ 21 → k ≠ 22 → s'.1 k j = s.1 k j ∧ s'.2.1 k j = s.2.1 k j := z.2.1
theorem so.b {l : Nat} {s s' : mt_S} (z : so l s s') : ∀ j, (j < 4 * l ∨ 4 * l + 4 ≤ j) → s'.1 11 j = s.1 11 j := z.2.2.1
theorem so.c {l : Nat} {s s' : mt_S} (z : so l s s') : ∀ j, (j < 40 * l ∨ 40 * l + 40 ≤ j) → s'.1 20 j = s.1 20 j ∧ s'.2.1 21 j = s.2.1 21 j ∧ s'.1 22 j = s.1 22 j := z.2.2.2.1
theorem so.d {l : Nat} {s s' : mt_S} (z : so l s s') : ∀ k j, k = 0 ∨ k = 1 ∨ k = 2 ∨ k = 3 ∨ k = 4 ∨ k = 15 ∨ k = 16 ∨ k = 17 ∨ k = 18 ∨ k = 33 ∨ k = 34 ∨ k = 35 ∨ k = 36 ∨ k = 37 ∨ k = 38 ∨ k = 39 ∨ k = 40 → s'.1 k j = s.1 k j ∧ s'.2.1 k j = s.2.1 k j := z.2.2.2.2
def dou (l : Nat) (D D' : pd) : Prop := (D'.room = D.room) ∧ (D'.st = D.st) ∧ (D'.br = D.br) ∧ (D'.bal = D.bal) ∧ (D'.bkind = D.bkind) ∧ (D'.purse = D.purse) ∧ (∀ m, m ≠ l → D'.kind m = D.kind m ∧ D'.res m = D.res m ∧ D'.facts m = D.facts m ∧ D'.book m = D.book m ∧ D'.lims m = D.lims m ∧ D'.sels m = D.sels m)
theorem dou.room {l : Nat} {D D' : pd} (z : dou l D D') : D'.room = D.room := z.1
theorem dou.st {l : Nat} {D D' : pd} (z : dou l D D') : D'.st = D.st := z.2.1
theorem dou.br {l : Nat} {D D' : pd} (z : dou l D D') : D'.br = D.br := z.2.2.1
theorem dou.bal {l : Nat} {D D' : pd} (z : dou l D D') : D'.bal = D.bal := z.2.2.2.1
theorem dou.bk {l : Nat} {D D' : pd} (z : dou l D D') : D'.bkind = D.bkind := z.2.2.2.2.1
theorem dou.pu {l : Nat} {D D' : pd} (z : dou l D D') : D'.purse = D.purse := z.2.2.2.2.2.1
theorem dou.o {l : Nat} {D D' : pd} (z : dou l D D') : ∀ m, m ≠ l → D'.kind m = D.kind m ∧ D'.res m = D.res m ∧ D'.facts m = D.facts m ∧ D'.book m = D.book m ∧ D'.lims m = D.lims m ∧ D'.sels m = D.sels m := z.2.2.2.2.2.2

theorem rv_so {s s' : mt_S} {D D' : pd} {e l : Nat} (h : rv s D e) (hs : so l s s') (hd : dou l D D') (hl : rl s' D' e l) : rv s' D' e := by
  have nb : D'.nb = D.nb := by unfold pd.nb; rw [hd.room]
  have nl : D'.nl = D.nl := by unfold pd.nl; rw [hd.room]
  refine ⟨?_, ?_, ?_, ?_, ?_, ?_, ?_, ?_, ?_, ?_, ?_⟩
  · rw [hs.len]; exact h.len
  · rw [hs.len]; exact h.pl
  · rw [(hs.d 15 0 (by decide)).1]; exact h.en
  · rw [(hs.d 0 0 (by decide)).1, nb]; exact h.nb
  · intro b hb
    rw [nb] at hb
    rw [(hs.d 1 b (by decide)).1, (hs.d 2 b (by decide)).2, (hs.d 3 b (by decide)).2, hd.bk, hd.pu, hd.bal]; exact h.bid b hb
  · rw [(hs.d 4 0 (by decide)).1, nl]; exact h.nl
  · rw [(hs.d 33 0 (by decide)).1, hd.st]
    refine ⟨h.st.1, fun k hk => ?_⟩
    rw [(hs.d 34 k (by decide)).2, (hs.d 35 k (by decide)).2]; exact h.st.2 k hk
  · rw [(hs.d 36 0 (by decide)).1, hd.br]
    refine ⟨h.br.1, fun k hk => ?_⟩
    rw [(hs.d 37 k (by decide)).2, (hs.d 38 k (by decide)).1]; exact h.br.2 k hk
  · intro k a b
    rw [(hs.d 39 k (by decide)).1, hd.room]; exact h.tx k a b
  · intro k a
    rw [(hs.d 40 k (by decide)).2, hd.room]; exact h.ac k a
  · intro m hm
    rw [nl] at hm
    by_cases e1 : m = l
    · rw [e1]; exact hl
    · obtain ⟨d1, d2, d3, d4, d5, d6⟩ := hd.o m e1
      refine rl_congr (h.lot m hm) (Nat.le_refl e) ?_ ?_ ?_ ?_ d1 d2 d3 d4 d5 d6
      · intro k a _ b c d f g i j kk
        exact hs.a k m a e1 b i j kk
      · intro k hk
        exact hs.b _ (by omega)
      · intro k hk
        exact hs.c _ (by omega)
      · intro i hi
        exact ⟨(hs.d 16 i (by decide)).1, (hs.d 17 i (by decide)).2, (hs.d 18 i (by decide)).1⟩
abbrev lsc (k : Nat) : Prop := k = 5 ∨ k = 6 ∨ k = 7 ∨ k = 8 ∨ k = 9 ∨ k = 10 ∨ k = 12 ∨ k = 13 ∨ k = 14 ∨ k = 19 ∨ k = 23 ∨ k = 24 ∨ k = 25 ∨ k = 26 ∨ k = 27 ∨ k = 28 ∨ k = 29 ∨ k = 30 ∨ k = 31 ∨ k = 32
theorem so_refl {l : Nat} {s : mt_S} : so l s s := ⟨rfl, fun _ _ _ _ _ _ _ _ => ⟨rfl, rfl⟩, fun _ _ => rfl, fun _ _ => ⟨rfl, rfl, rfl⟩, fun _ _ _ => ⟨rfl, rfl⟩⟩
theorem so_I {l k : Nat} {s s' : mt_S} {v : Int32} (h : so l s s') (hk : lsc k) : so l s (gm_setI s' k l v) := by
  refine ⟨h.len, ?_, ?_, ?_, ?_⟩
  · intro k' j a b c d f g
    simp only [gm_setI]
    rw [if_neg (fun z => b z.2)]
    exact h.a k' j a b c d f g
  · intro j hj
    simp only [gm_setI]
    rw [if_neg (fun z => by unfold lsc at hk; omega)]
    exact h.b j hj
  · intro j hj
    simp only [gm_setI]
    rw [if_neg (fun z => by unfold lsc at hk; omega), if_neg (fun z => by unfold lsc at hk; omega)]
    exact h.c j hj
  · intro k' j hj
    simp only [gm_setI]
    rw [if_neg (fun z => by unfold lsc at hk; omega)]
    exact h.d k' j hj
theorem so_L {l k : Nat} {s s' : mt_S} {v : Int64} (h : so l s s') (hk : lsc k) : so l s (gm_setL s' k l v) := by
  refine ⟨h.len, ?_, ?_, ?_, ?_⟩
  · intro k' j a b c d f g
    simp only [gm_setL]
    rw [if_neg (fun z => b z.2)]
    exact h.a k' j a b c d f g
  · intro j hj
    exact h.b j hj
  · intro j hj
    simp only [gm_setL]
    rw [if_neg (fun z => by unfold lsc at hk; omega)]
    exact h.c j hj
  · intro k' j hj
    simp only [gm_setL]
    rw [if_neg (fun z => by unfold lsc at hk; omega)]
    exact h.d k' j hj
theorem do_refl {l : Nat} {D : pd} : dou l D D := ⟨rfl, rfl, rfl, rfl, rfl, rfl, fun _ _ => ⟨rfl, rfl, rfl, rfl, rfl, rfl⟩⟩
theorem up2_ne {f : Nat → Nat → Int64} {l p m : Nat} {v : Int64} (h : m ≠ l) : up2 f l p v m = f m := by
  funext q
  simp [up2, h]
theorem do_F {l p : Nat} {D D' : pd} {v : Int64} (h : dou l D D') : dou l D (D'.putF l p v) := ⟨h.room, h.st, h.br, h.bal, h.bk, h.pu, fun m hm => by
  obtain ⟨a, b, c, d, e, f⟩ := h.o m hm
  exact ⟨a, b, by simp only [pd.putF, pd.room, pd.st, pd.br, pd.bal, pd.facts, pd.book, pd.lims, pd.sels, pd.kind, pd.res, pd.bkind, pd.purse]; rw [up2_ne hm]; exact c, d, e, f⟩⟩
theorem do_E {l p : Nat} {D D' : pd} {v : Int64} (h : dou l D D') : dou l D (D'.putE l p v) := ⟨h.room, h.st, h.br, h.bal, h.bk, h.pu, fun m hm => by
  obtain ⟨a, b, c, d, e, f⟩ := h.o m hm
  exact ⟨a, b, c, by simp only [pd.putE, pd.room, pd.st, pd.br, pd.bal, pd.facts, pd.book, pd.lims, pd.sels, pd.kind, pd.res, pd.bkind, pd.purse]; rw [up2_ne hm]; exact d, e, f⟩⟩
theorem do_L {l p : Nat} {D D' : pd} {v : Int64} (h : dou l D D') : dou l D (D'.putL l p v) := ⟨h.room, h.st, h.br, h.bal, h.bk, h.pu, fun m hm => by
  obtain ⟨a, b, c, d, e, f⟩ := h.o m hm
  exact ⟨a, b, c, d, by simp only [pd.putL, pd.room, pd.st, pd.br, pd.bal, pd.facts, pd.book, pd.lims, pd.sels, pd.kind, pd.res, pd.bkind, pd.purse]; rw [up2_ne hm]; exact e, f⟩⟩
theorem do_Q {l p : Nat} {D D' : pd} {v : Int64} (h : dou l D D') : dou l D (D'.putQ l p v) := ⟨h.room, h.st, h.br, h.bal, h.bk, h.pu, fun m hm => by
  obtain ⟨a, b, c, d, e, f⟩ := h.o m hm
  exact ⟨a, b, c, d, e, by simp only [pd.putQ, pd.room, pd.st, pd.br, pd.bal, pd.facts, pd.book, pd.lims, pd.sels, pd.kind, pd.res, pd.bkind, pd.purse]; rw [up2_ne hm]; exact f⟩⟩
