/-! the class's cells, by number -/
def rdD (D : pd) (c p : Nat) : Int64 := if c = 0 then D.room p else if c = 1 then D.st p else if c = 2 then D.br p else if c < 203 then D.bal (c - 3) p else if (c - 203) % 4 = 0 then D.facts ((c - 203) / 4) p else if (c - 203) % 4 = 1 then D.book ((c - 203) / 4) p else if (c - 203) % 4 = 2 then D.lims ((c - 203) / 4) p else D.sels ((c - 203) / 4) p
def wrD (D : pd) (c p : Nat) (v : Int64) : pd := if c = 0 then D.putR p v else if c = 1 then D.putS p v else if c = 2 then D.putT p v else if c < 203 then D.putB (c - 3) p v else if (c - 203) % 4 = 0 then D.putF ((c - 203) / 4) p v else if (c - 203) % 4 = 1 then D.putE ((c - 203) / 4) p v else if (c - 203) % 4 = 2 then D.putL ((c - 203) / 4) p v else D.putQ ((c - 203) / 4) p v
theorem rd_wr {D : pd} {c p c' p' : Nat} {v : Int64} : rdD (wrD D c p v) c' p' = if c' = c ∧ p' = p then v else rdD D c' p' := by
  unfold rdD wrD
  by_cases c0 : c = 0
  · subst c0
    rw [if_pos rfl]
    by_cases d0 : c' = 0
    · subst d0; simp [pd.putR, up1, pd.room, pd.st, pd.br, pd.bal, pd.facts, pd.book, pd.lims, pd.sels, pd.kind, pd.res, pd.bkind, pd.purse]
    · simp [pd.putR, d0, pd.room, pd.st, pd.br, pd.bal, pd.facts, pd.book, pd.lims, pd.sels, pd.kind, pd.res, pd.bkind, pd.purse]
  rw [if_neg c0]
  by_cases c1 : c = 1
  · subst c1
    rw [if_pos rfl]
    by_cases d0 : c' = 0
    · subst d0; simp [pd.putS, pd.room, pd.st, pd.br, pd.bal, pd.facts, pd.book, pd.lims, pd.sels, pd.kind, pd.res, pd.bkind, pd.purse]
    · by_cases d1 : c' = 1
      · subst d1; simp [pd.putS, up1, pd.room, pd.st, pd.br, pd.bal, pd.facts, pd.book, pd.lims, pd.sels, pd.kind, pd.res, pd.bkind, pd.purse]
      · simp [pd.putS, d0, d1, pd.room, pd.st, pd.br, pd.bal, pd.facts, pd.book, pd.lims, pd.sels, pd.kind, pd.res, pd.bkind, pd.purse]
  rw [if_neg c1]
  by_cases c2 : c = 2
  · subst c2
    rw [if_pos rfl]
    by_cases d0 : c' = 0
    · subst d0; simp [pd.putT, pd.room, pd.st, pd.br, pd.bal, pd.facts, pd.book, pd.lims, pd.sels, pd.kind, pd.res, pd.bkind, pd.purse]
    · by_cases d1 : c' = 1
      · subst d1; simp [pd.putT, pd.room, pd.st, pd.br, pd.bal, pd.facts, pd.book, pd.lims, pd.sels, pd.kind, pd.res, pd.bkind, pd.purse]
      · by_cases d2 : c' = 2
        · subst d2; simp [pd.putT, up1, pd.room, pd.st, pd.br, pd.bal, pd.facts, pd.book, pd.lims, pd.sels, pd.kind, pd.res, pd.bkind, pd.purse]
        · simp [pd.putT, d0, d1, d2, pd.room, pd.st, pd.br, pd.bal, pd.facts, pd.book, pd.lims, pd.sels, pd.kind, pd.res, pd.bkind, pd.purse]
  rw [if_neg c2]
  by_cases c3 : c < 203
  · rw [if_pos c3]
    by_cases d0 : c' = 0
    · subst d0; rw [if_pos rfl, if_pos rfl, if_neg (by omega)]; rfl
    by_cases d1 : c' = 1
    · subst d1; simp only [if_neg (show ¬ (1 : Nat) = 0 by omega), if_pos]; rw [if_neg (by omega)]; rfl
    by_cases d2 : c' = 2
    · subst d2; simp only [if_neg (show ¬ (2 : Nat) = 0 by omega), if_neg (show ¬ (2 : Nat) = 1 by omega), if_pos]; rw [if_neg (by omega)]; rfl
    rw [if_neg d0, if_neg d1, if_neg d2, if_neg d0, if_neg d1, if_neg d2]
    by_cases d3 : c' < 203
    · rw [if_pos d3, if_pos d3]
      show up2 D.bal (c - 3) p v (c' - 3) p' = _
      unfold up2
      by_cases e : c' = c ∧ p' = p
      · rw [if_pos e, if_pos (by omega)]
      · rw [if_neg e, if_neg (by omega)]
    · rw [if_neg d3, if_neg d3, if_neg (show ¬ (c' = c ∧ p' = p) by omega)]; rfl
  rw [if_neg c3]
  have far : ∀ (D' : pd), D'.room = D.room → D'.st = D.st → D'.br = D.br → D'.bal = D.bal → c' < 203 → (if c' = 0 then D'.room p' else if c' = 1 then D'.st p' else if c' = 2 then D'.br p' else if c' < 203 then D'.bal (c' - 3) p' else if (c' - 203) % 4 = 0 then D'.facts ((c' - 203) / 4) p' else if (c' - 203) % 4 = 1 then D'.book ((c' - 203) / 4) p' else if (c' - 203) % 4 = 2 then D'.lims ((c' - 203) / 4) p' else D'.sels ((c' - 203) / 4) p') = if c' = c ∧ p' = p then v else if c' = 0 then D.room p' else if c' = 1 then D.st p' else if c' = 2 then D.br p' else if c' < 203 then D.bal (c' - 3) p' else if (c' - 203) % 4 = 0 then D.facts ((c' - 203) / 4) p' else if (c' - 203) % 4 = 1 then D.book ((c' - 203) / 4) p' else if (c' - 203) % 4 = 2 then D.lims ((c' - 203) / 4) p' else D.sels ((c' - 203) / 4) p' := by
    intro D' e1 e2 e3 e4 hc
    rw [if_neg (show ¬ (c' = c ∧ p' = p) by omega), if_pos hc, if_pos hc, e1, e2, e3, e4]
  by_cases d3 : c' < 203
  · by_cases m0 : (c - 203) % 4 = 0
    · rw [if_pos m0]; exact far _ rfl rfl rfl rfl d3
    rw [if_neg m0]
    by_cases m1 : (c - 203) % 4 = 1
    · rw [if_pos m1]; exact far _ rfl rfl rfl rfl d3
    rw [if_neg m1]
    by_cases m2 : (c - 203) % 4 = 2
    · rw [if_pos m2]; exact far _ rfl rfl rfl rfl d3
    rw [if_neg m2]; exact far _ rfl rfl rfl rfl d3
  · have n0 : ¬ c' = 0 := by omega
    have n1 : ¬ c' = 1 := by omega
    have n2 : ¬ c' = 2 := by omega
    have key : ∀ (f : Nat → Nat → Int64), (c' - 203) % 4 = (c - 203) % 4 → up2 f ((c - 203) / 4) p v ((c' - 203) / 4) p' = if c' = c ∧ p' = p then v else f ((c' - 203) / 4) p' := by
      intro f hm
      unfold up2
      by_cases e : c' = c ∧ p' = p
      · rw [if_pos e, if_pos (by omega)]
      · rw [if_neg e, if_neg (by omega)]
    have nn : (c' - 203) % 4 ≠ (c - 203) % 4 → ¬ (c' = c ∧ p' = p) := fun h z => h (by rw [z.1])
    rw [if_neg n0, if_neg n1, if_neg n2, if_neg d3, if_neg n0, if_neg n1, if_neg n2, if_neg d3]
    by_cases m0 : (c - 203) % 4 = 0
    · rw [if_pos m0]
      by_cases k0 : (c' - 203) % 4 = 0
      · rw [if_pos k0, if_pos k0]; exact key _ (by omega)
      · rw [if_neg k0, if_neg k0, if_neg (nn (by omega))]; rfl
    rw [if_neg m0]
    by_cases m1 : (c - 203) % 4 = 1
    · rw [if_pos m1]
      by_cases k1 : (c' - 203) % 4 = 1
      · rw [if_neg (show ¬ (c' - 203) % 4 = 0 by omega), if_pos k1, if_neg (show ¬ (c' - 203) % 4 = 0 by omega), if_pos k1]; exact key _ (by omega)
      · rw [if_neg k1, if_neg (nn (by omega)), if_neg k1]; rfl
    rw [if_neg m1]
    by_cases m2 : (c - 203) % 4 = 2
    · rw [if_pos m2]
      by_cases k1 : (c' - 203) % 4 = 2
      · rw [if_neg (show ¬ (c' - 203) % 4 = 0 by omega), if_neg (show ¬ (c' - 203) % 4 = 1 by omega), if_pos k1, if_neg (show ¬ (c' - 203) % 4 = 0 by omega), if_neg (show ¬ (c' - 203) % 4 = 1 by omega), if_pos k1]; exact key _ (by omega)
      · rw [if_neg k1, if_neg (nn (by omega)), if_neg k1]; rfl
    rw [if_neg m2]
    by_cases k1 : (c' - 203) % 4 = 3
    · rw [if_neg (show ¬ (c' - 203) % 4 = 0 by omega), if_neg (show ¬ (c' - 203) % 4 = 1 by omega), if_neg (show ¬ (c' - 203) % 4 = 2 by omega), if_neg (show ¬ (c' - 203) % 4 = 0 by omega), if_neg (show ¬ (c' - 203) % 4 = 1 by omega), if_neg (show ¬ (c' - 203) % 4 = 2 by omega)]; exact key _ (by omega)
    · rw [if_neg (nn (by omega))]
      by_cases k2 : (c' - 203) % 4 = 0
      · rw [if_pos k2, if_pos k2]; rfl
      · rw [if_neg k2, if_neg k2]
        by_cases k3 : (c' - 203) % 4 = 1
        · rw [if_pos k3, if_pos k3]; rfl
        · rw [if_neg k3, if_neg k3, if_pos (by omega), if_pos (by omega)]; rfl
section RW
variable {D : pd} {l p b : Nat} {v : Int64}
theorem rdB (hb : b < 200) : rdD D (3 + b) p = D.bal b p := by
  unfold rdD
  rw [if_neg (by omega), if_neg (by omega), if_neg (by omega), if_pos (by omega), show 3 + b - 3 = b from by omega]
theorem rdF : rdD D (203 + 4 * l) p = D.facts l p := by
  unfold rdD
  rw [if_neg (by omega), if_neg (by omega), if_neg (by omega), if_neg (by omega), if_pos (by omega), show (203 + 4 * l - 203) / 4 = l from by omega]
theorem rdE : rdD D (204 + 4 * l) p = D.book l p := by
  unfold rdD
  rw [if_neg (by omega), if_neg (by omega), if_neg (by omega), if_neg (by omega), if_neg (by omega), if_pos (by omega), show (204 + 4 * l - 203) / 4 = l from by omega]
theorem rdL : rdD D (205 + 4 * l) p = D.lims l p := by
  unfold rdD
  rw [if_neg (by omega), if_neg (by omega), if_neg (by omega), if_neg (by omega), if_neg (by omega), if_neg (by omega), if_pos (by omega), show (205 + 4 * l - 203) / 4 = l from by omega]
theorem rdQ : rdD D (206 + 4 * l) p = D.sels l p := by
  unfold rdD
  rw [if_neg (by omega), if_neg (by omega), if_neg (by omega), if_neg (by omega), if_neg (by omega), if_neg (by omega), if_neg (by omega), show (206 + 4 * l - 203) / 4 = l from by omega]
theorem wrB (hb : b < 200) : wrD D (3 + b) p v = D.putB b p v := by
  unfold wrD
  rw [if_neg (by omega), if_neg (by omega), if_neg (by omega), if_pos (by omega), show 3 + b - 3 = b from by omega]
theorem wrF : wrD D (203 + 4 * l) p v = D.putF l p v := by
  unfold wrD
  rw [if_neg (by omega), if_neg (by omega), if_neg (by omega), if_neg (by omega), if_pos (by omega), show (203 + 4 * l - 203) / 4 = l from by omega]
theorem wrE : wrD D (204 + 4 * l) p v = D.putE l p v := by
  unfold wrD
  rw [if_neg (by omega), if_neg (by omega), if_neg (by omega), if_neg (by omega), if_neg (by omega), if_pos (by omega), show (204 + 4 * l - 203) / 4 = l from by omega]
theorem wrL : wrD D (205 + 4 * l) p v = D.putL l p v := by
  unfold wrD
  rw [if_neg (by omega), if_neg (by omega), if_neg (by omega), if_neg (by omega), if_neg (by omega), if_neg (by omega), if_pos (by omega), show (205 + 4 * l - 203) / 4 = l from by omega]
theorem wrQ : wrD D (206 + 4 * l) p v = D.putQ l p v := by
  unfold wrD
  rw [if_neg (by omega), if_neg (by omega), if_neg (by omega), if_neg (by omega), if_neg (by omega), if_neg (by omega), if_neg (by omega), show (206 + 4 * l - 203) / 4 = l from by omega]
theorem wr_keep {c : Nat} : (wrD D c p v).kind = D.kind ∧ (wrD D c p v).res = D.res ∧ (wrD D c p v).bkind = D.bkind ∧ (wrD D c p v).purse = D.purse ∧ ((c = 0 → 2 ≤ p) → (wrD D c p v).nb = D.nb ∧ (wrD D c p v).nl = D.nl) := by
  unfold wrD
  by_cases c0 : c = 0
  · rw [if_pos c0]
    refine ⟨rfl, rfl, rfl, rfl, fun h => ?_⟩
    have := h c0
    have r : ∀ q, q < 2 → (D.putR p v).room q = D.room q := fun q hq => if_neg (by omega)
    unfold pd.nb pd.nl
    rw [r 0 (by omega), r 1 (by omega)]
    exact ⟨rfl, rfl⟩
  rw [if_neg c0]
  by_cases c1 : c = 1
  · rw [if_pos c1]; exact ⟨rfl, rfl, rfl, rfl, fun _ => ⟨rfl, rfl⟩⟩
  rw [if_neg c1]
  by_cases c2 : c = 2
  · rw [if_pos c2]; exact ⟨rfl, rfl, rfl, rfl, fun _ => ⟨rfl, rfl⟩⟩
  rw [if_neg c2]
  by_cases c3 : c < 203
  · rw [if_pos c3]; exact ⟨rfl, rfl, rfl, rfl, fun _ => ⟨rfl, rfl⟩⟩
  rw [if_neg c3]
  by_cases m0 : (c - 203) % 4 = 0
  · rw [if_pos m0]; exact ⟨rfl, rfl, rfl, rfl, fun _ => ⟨rfl, rfl⟩⟩
  rw [if_neg m0]
  by_cases m1 : (c - 203) % 4 = 1
  · rw [if_pos m1]; exact ⟨rfl, rfl, rfl, rfl, fun _ => ⟨rfl, rfl⟩⟩
  rw [if_neg m1]
  by_cases m2 : (c - 203) % 4 = 2
  · rw [if_pos m2]; exact ⟨rfl, rfl, rfl, rfl, fun _ => ⟨rfl, rfl⟩⟩
  rw [if_neg m2]; exact ⟨rfl, rfl, rfl, rfl, fun _ => ⟨rfl, rfl⟩⟩
end RW
/-! what a state of the class holds -/
def Vk (k : mt_S) (c p : Nat) : Int64 := if c < 3000 ∧ p < k.2.2 (100 + c) then k.2.1 (100 + c) p else 0
abbrev je : Type := Nat × Nat × Int64
def uW (W : Nat → Nat → Int64) (c p : Nat) (v : Int64) : Nat → Nat → Int64 := fun c' p' => if c' = c ∧ p' = p then v else W c' p'
def rvt : List je → (Nat → Nat → Int64) → (Nat → Nat → Int64)
  | [], W => W
  | e :: J, W => rvt J (uW W e.1 e.2.1 e.2.2)
theorem uW_back {W : Nat → Nat → Int64} {c p : Nat} {v : Int64} : uW (uW W c p v) c p (W c p) = W := by
  funext c' p'
  unfold uW
  by_cases e : c' = c ∧ p' = p
  · rw [if_pos e, e.1, e.2]
  · rw [if_neg e, if_neg e]
theorem rvt_app : ∀ {A B : List je} {W : Nat → Nat → Int64}, rvt (A ++ B) W = rvt B (rvt A W) := by
  intro A
  induction A with
  | nil => intro B W; rfl
  | cons a A ih => intro B W; exact ih
def dm (D : pd) (c : Nat) : Prop := c < 3 ∨ (3 ≤ c ∧ c < 3 + D.nb) ∨ (203 ≤ c ∧ c < 203 + 4 * D.nl)
def cvK (k : mt_S) (D : pd) : Prop := (∀ l, l < D.nl → k.1 8 l = D.kind l ∧ k.2.1 20 l = D.res l) ∧ (∀ b, b < D.nb → k.1 9 b = D.bkind b ∧ k.2.1 21 b = D.purse b)
theorem cvK.l {k : mt_S} {D : pd} (z : cvK k D) : ∀ l, l < D.nl → k.1 8 l = D.kind l ∧ k.2.1 20 l = D.res l := z.1
theorem cvK.b {k : mt_S} {D : pd} (z : cvK k D) : ∀ b, b < D.nb → k.1 9 b = D.bkind b ∧ k.2.1 21 b = D.purse b := z.2
def cvW (W : Nat → Nat → Int64) (D : pd) : Prop := ∀ c, dm D c → ∀ p, W c p = rdD D c p
def jr (k : mt_S) (J : List je) : Prop := (k.1 4 0 = nI J.length) ∧ (k.2.2 6 = k.2.2 0 ∧ k.2.2 7 = k.2.2 0 ∧ 64 ≤ k.2.2 0 ∧ J.length ≤ k.2.2 0 ∧ J.length ≤ k.2.2 5 ∧ k.2.2 5 ≤ k.2.2 0) ∧ (∀ e J', (e :: J') <:+ J → k.2.2 (5000 + J'.length) = e.1 ∧ k.1 10 J'.length = nI e.2.1 ∧ k.2.1 22 J'.length = e.2.2) ∧ (∀ e, e ∈ J → kt_cl k e.1 = true ∧ e.2.1 < k.2.2 (100 + e.1))
theorem jr.ln {k : mt_S} {J : List je} (z : jr k J) : k.1 4 0 = nI J.length := z.1
theorem jr.cap {k : mt_S} {J : List je} (z : jr k J) : k.2.2 6 = k.2.2 0 ∧ k.2.2 7 = k.2.2 0 ∧ 64 ≤ k.2.2 0 ∧ J.length ≤ k.2.2 0 ∧ J.length ≤ k.2.2 5 ∧ k.2.2 5 ≤ k.2.2 0 := z.2.1
theorem jr.en {k : mt_S} {J : List je} (z : jr k J) : ∀ e J', (e :: J') <:+ J → k.2.2 (5000 + J'.length) = e.1 ∧ k.1 10 J'.length = nI e.2.1 ∧ k.2.1 22 J'.length = e.2.2 := z.2.2.1
theorem jr.ok {k : mt_S} {J : List je} (z : jr k J) : ∀ e, e ∈ J → kt_cl k e.1 = true ∧ e.2.1 < k.2.2 (100 + e.1) := z.2.2.2
abbrev kfx (r : Nat) : Prop := r = 0 ∨ r = 1 ∨ r = 2 ∨ r = 5 ∨ r = 7 ∨ r = 8 ∨ r = 9
def cw (k0 k : mt_S) (D : pd) (J0 E : List je) (cs : List Int32) (g n : Nat) : Prop := (∀ r, kfx r → k.1 r = k0.1 r) ∧ (k.2.1 20 = k0.2.1 20 ∧ k.2.1 21 = k0.2.1 21) ∧ (k.2.2 2 = k0.2.2 2 ∧ k.2.2 3 = k0.2.2 3) ∧ (k.2.2 3 ≤ 200 ∧ k.2.2 2 ≤ 400 ∧ D.nb ≤ k.2.2 3 ∧ D.nl ≤ k.2.2 2) ∧ (cvK k D) ∧ (cvW (Vk k) D) ∧ (∀ c, kt_cl k c = true → 1 ≤ k.2.2 (100 + c) ∧ k.2.2 (100 + c) ≤ 1300) ∧ (11 ≤ k.2.2 100 ∧ ∀ l, l < k.2.2 2 → 14 ≤ k.2.2 (100 + (203 + 4 * l))) ∧ (jr k (E ++ J0)) ∧ (∃ d, d ≤ 8 ∧ k.1 5 0 = nI d ∧ (d = 0 → E = [])) ∧ (k.1 5 0 ≠ 0 → rvt E (Vk k) = Vk k0) ∧ (∀ e, e ∈ E → dm D e.1) ∧ (k.1 3 0 = nI cs.length ∧ cs.length ≤ 200 ∧ ∀ i, (h : i < cs.length) → k.1 6 i = cs[i]) ∧ ((E ++ J0).length ≤ n ∧ k.2.2 0 ≤ 64 + 2 * n ∧ n ≤ 30000 ∧ k.2.2 1 ≤ 1300 * g + 6 * k.2.2 0 ∧ k.2.2 4 ≤ 16 * g + k.2.2 0)
theorem cw.kf {k0 k : mt_S} {D : pd} {J0 E : List je} {cs : List Int32} {g n : Nat} (z : cw k0 k D J0 E cs g n) : ∀ r, kfx r → k.1 r = k0.1 r := z.1
theorem cw.k2 {k0 k : mt_S} {D : pd} {J0 E : List je} {cs : List Int32} {g n : Nat} (z : cw k0 k D J0 E cs g n) : k.2.1 20 = k0.2.1 20 ∧ k.2.1 21 = k0.2.1 21 := z.2.1
theorem cw.k3 {k0 k : mt_S} {D : pd} {J0 E : List je} {cs : List Int32} {g n : Nat} (z : cw k0 k D J0 E cs g n) : k.2.2 2 = k0.2.2 2 ∧ k.2.2 3 = k0.2.2 3 := z.2.2.1
theorem cw.dim {k0 k : mt_S} {D : pd} {J0 E : List je} {cs : List Int32} {g n : Nat} (z : cw k0 k D J0 E cs g n) : k.2.2 3 ≤ 200 ∧ k.2.2 2 ≤ 400 ∧ D.nb ≤ k.2.2 3 ∧ D.nl ≤ k.2.2 2 := z.2.2.2.1
theorem cw.kd {k0 k : mt_S} {D : pd} {J0 E : List je} {cs : List Int32} {g n : Nat} (z : cw k0 k D J0 E cs g n) : cvK k D := z.2.2.2.2.1
theorem cw.cv {k0 k : mt_S} {D : pd} {J0 E : List je} {cs : List Int32} {g n : Nat} (z : cw k0 k D J0 E cs g n) : cvW (Vk k) D := z.2.2.2.2.2.1
theorem cw.le {k0 k : mt_S} {D : pd} {J0 E : List je} {cs : List Int32} {g n : Nat} (z : cw k0 k D J0 E cs g n) : ∀ c, kt_cl k c = true → 1 ≤ k.2.2 (100 + c) ∧ k.2.2 (100 + c) ≤ 1300 := z.2.2.2.2.2.2.1
theorem cw.lf {k0 k : mt_S} {D : pd} {J0 E : List je} {cs : List Int32} {g n : Nat} (z : cw k0 k D J0 E cs g n) : 11 ≤ k.2.2 100 ∧ ∀ l, l < k.2.2 2 → 14 ≤ k.2.2 (100 + (203 + 4 * l)) := z.2.2.2.2.2.2.2.1
theorem cw.j {k0 k : mt_S} {D : pd} {J0 E : List je} {cs : List Int32} {g n : Nat} (z : cw k0 k D J0 E cs g n) : jr k (E ++ J0) := z.2.2.2.2.2.2.2.2.1
theorem cw.dp {k0 k : mt_S} {D : pd} {J0 E : List je} {cs : List Int32} {g n : Nat} (z : cw k0 k D J0 E cs g n) : ∃ d, d ≤ 8 ∧ k.1 5 0 = nI d ∧ (d = 0 → E = []) := z.2.2.2.2.2.2.2.2.2.1
theorem cw.ev {k0 k : mt_S} {D : pd} {J0 E : List je} {cs : List Int32} {g n : Nat} (z : cw k0 k D J0 E cs g n) : k.1 5 0 ≠ 0 → rvt E (Vk k) = Vk k0 := z.2.2.2.2.2.2.2.2.2.2.1
theorem cw.ed {k0 k : mt_S} {D : pd} {J0 E : List je} {cs : List Int32} {g n : Nat} (z : cw k0 k D J0 E cs g n) : ∀ e, e ∈ E → dm D e.1 := z.2.2.2.2.2.2.2.2.2.2.2.1
theorem cw.tr {k0 k : mt_S} {D : pd} {J0 E : List je} {cs : List Int32} {g n : Nat} (z : cw k0 k D J0 E cs g n) : k.1 3 0 = nI cs.length ∧ cs.length ≤ 200 ∧ ∀ i, (h : i < cs.length) → k.1 6 i = cs[i] := z.2.2.2.2.2.2.2.2.2.2.2.2.1
theorem cw.bu {k0 k : mt_S} {D : pd} {J0 E : List je} {cs : List Int32} {g n : Nat} (z : cw k0 k D J0 E cs g n) : (E ++ J0).length ≤ n ∧ k.2.2 0 ≤ 64 + 2 * n ∧ n ≤ 30000 ∧ k.2.2 1 ≤ 1300 * g + 6 * k.2.2 0 ∧ k.2.2 4 ≤ 16 * g + k.2.2 0 := z.2.2.2.2.2.2.2.2.2.2.2.2.2
section CL
variable {N : Nat} {k0 k : mt_S} {D : pd} {J0 E : List je} {cs : List Int32} {g n : Nat}
theorem cw.cl (h : cw k0 k D J0 E cs g n) {c : Nat} (hc : dm D c) : kt_cl k c = true ∧ c < 3000 := by
  obtain ⟨d1, d2, d3, d4⟩ := h.dim
  unfold kt_cl
  simp only [Bool.or_eq_true, Bool.and_eq_true, decide_eq_true_eq]
  rcases hc with z | z | z
  · exact ⟨Or.inl z, by omega⟩
  · exact ⟨Or.inr (Or.inl ⟨z.1, by omega⟩), by omega⟩
  · exact ⟨Or.inr (Or.inr ⟨z.1, by omega⟩), by omega⟩
theorem cw.cel (h : cw k0 k D J0 E cs g n) {c : Nat} (hc : dm D c) : gk_cel k c = some () := if_pos (h.cl hc)
theorem k_get (h : cw k0 k D J0 E cs g n) {c p : Nat} (hc : dm D c) (hp : p < 2 ^ 31) : gk_X2_get N c (nI p) k = some (rdD D c p, k) := by
  unfold gk_X2_get
  obtain ⟨l1, l2⟩ := h.le c (h.cl hc).1
  have v := h.cv c hc p
  unfold Vk at v
  rw [if_neg (cz_nn hp), h.cel hc, Option.bind_some]
  by_cases z : p < k.2.2 (100 + c)
  · rw [if_pos (show nI p < Int32.ofNat (k.2.2 (100 + c)) from (cz_lt hp (by omega)).mpr z), Option.bind_some, gk_rdL z hp, Option.bind_some]
    rw [if_pos ⟨(h.cl hc).2, z⟩] at v
    rw [v]
  · rw [if_neg (show ¬ nI p < Int32.ofNat (k.2.2 (100 + c)) from fun y => z ((cz_lt hp (by omega)).mp y))]
    rw [if_neg (fun y => z y.2)] at v
    rw [v]
theorem k_getN (h : cw k0 k D J0 E cs g n) {c : Nat} {p : Int32} (hc : dm D c) (hp : p < 0) : gk_X2_get N c p k = some (0, k) := by
  unfold gk_X2_get
  rw [if_pos hp]
end CL
