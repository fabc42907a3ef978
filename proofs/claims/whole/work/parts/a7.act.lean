/-! an act of the reference, whole -/
def abRef (n : Int32) (a : ab) (cs : List Int32) : ab := (((if a.dp = 0 then a.A else a.A.drop (a.A.length - a.mq 0)), 0, a.mq, a.num, (a.tr + 1), n, cs) : ab)
def abPk (w o t h : Int32) (x y : Int64) (a : ab) : pk := ⟨w, o, t, h, x, y, if w = 9 ∨ w = 10 then nI (a.num + 1) else 0⟩
def abAct (w o t h : Int32) (x y : Int64) (a : ab) : Int64 × ab :=
  let r := sp_do (abPk w o t h x y a) (sp_run a.A)
  if r.1 < 0 then (r.1, abRef (-r.1).toInt32 a (r.2.2.take 200))
  else (r.1, (((if 19 < w then a.A else abPk w o t h x y a :: a.A), a.dp, a.mq, (if w = 9 ∨ w = 10 then a.num + 1 else a.num), (a.tr + 1), 0, (r.2.2.take 200)) : ab))
def abBatch (a : ab) : Int64 × ab :=
  if a.dp = 8 then (-12, abRef 12 a [])
  else (Int64.ofNat (a.dp + 1), ((a.A, (a.dp + 1), (fun i => if i = a.dp then a.A.length else a.mq i), a.num, (a.tr + 1), 0, ([])) : ab))
def abEnd (a : ab) : Int64 × ab :=
  if a.dp = 0 then (-14, abRef 14 a [])
  else (Int64.ofNat (a.dp - 1), ((a.A, (a.dp - 1), a.mq, a.num, (a.tr + 1), 0, ([])) : ab))
def abUndo (a : ab) : Int64 × ab :=
  if a.dp = 0 then (-14, abRef 14 a [])
  else (Int64.ofNat (a.dp - 1), (((a.A.drop (a.A.length - a.mq (a.dp - 1))), (a.dp - 1), a.mq, a.num, (a.tr + 1), 0, ([])) : ab))
def wfT (a : ab) (T : Nat) : Prop := (okA a.A a.num) ∧ (a.A.length ≤ a.tr) ∧ (a.num ≤ a.tr) ∧ (a.tr ≤ T) ∧ (a.dp ≤ 8) ∧ (∀ i, i < a.dp → a.mq i ≤ a.A.length) ∧ (∀ i j, i ≤ j → j < a.dp → a.mq i ≤ a.mq j)
theorem wfT.ok {a : ab} {T : Nat} (z : wfT a T) : okA a.A a.num := z.1
theorem wfT.nA {a : ab} {T : Nat} (z : wfT a T) : a.A.length ≤ a.tr := z.2.1
theorem wfT.nn {a : ab} {T : Nat} (z : wfT a T) : a.num ≤ a.tr := z.2.2.1
theorem wfT.nt {a : ab} {T : Nat} (z : wfT a T) : a.tr ≤ T := z.2.2.2.1
theorem wfT.d8 {a : ab} {T : Nat} (z : wfT a T) : a.dp ≤ 8 := z.2.2.2.2.1
theorem wfT.m1 {a : ab} {T : Nat} (z : wfT a T) : ∀ i, i < a.dp → a.mq i ≤ a.A.length := z.2.2.2.2.2.1
theorem wfT.m2 {a : ab} {T : Nat} (z : wfT a T) : ∀ i j, i ≤ j → j < a.dp → a.mq i ≤ a.mq j := z.2.2.2.2.2.2
/-! what is refused changes nothing -/
def refD (D : pd) (r : sr) : Prop := r.2.1 = D ∨ 0 ≤ r.1
section RF
variable {D : pd} {M : Nat}
theorem rf_ite {c : Prop} [Decidable c] {a b : sr} (h1 : c → refD D a) (h2 : ¬ c → refD D b) : refD D (if c then a else b) := by
  by_cases z : c
  · rw [if_pos z]; exact h1 z
  · rw [if_neg z]; exact h2 z
theorem rf_no {x : Int64} {L : List Int32} : refD D (x, D, L) := Or.inl rfl
theorem rf_L {a : Int32} {f : Nat → sr} (h : pi D M) (k : ∀ l, a = nI l → l < D.nl → refD D (f l)) : refD D (sp_withL D a f) := by
  unfold sp_withL
  by_cases c : sp_noLot D a = 0
  · rw [if_pos c]
    obtain ⟨x, y⟩ := noLot0 h.l0.2 c
    exact k _ x y
  · rw [if_neg c]; exact rf_no
theorem rf_B {a : Int32} {f : Nat → sr} (h : pi D M) (k : ∀ l, a = nI l → l < D.nb → refD D (f l)) : refD D (sp_withB D a f) := by
  unfold sp_withB
  by_cases c : sp_noBid D a = 0
  · rw [if_pos c]
    obtain ⟨x, y⟩ := noBid0 h.b0.2 c
    exact k _ x y
  · rw [if_neg c]; exact rf_no
theorem rf_O {l : Nat} {f : sr} (k : sp_notOpen D l = 0 → refD D f) : refD D (sp_open' D l f) := by
  unfold sp_open'
  by_cases c : sp_notOpen D l = 0
  · rw [if_pos c]; exact k c
  · rw [if_neg c]; exact rf_no
theorem ofn_ge {n : Nat} (h : n < 2 ^ 31) : (0 : Int64) ≤ Int64.ofNat n := by
  rw [le_i, cl_toI h]; exact Int.natCast_nonneg n
theorem sum_ge {x : Int64} (h : sp_sumOk x) : (0 : Int64) ≤ x := by
  have := sum_i.mp h
  rw [le_i]; show (0 : Int) ≤ _; omega
theorem rf_do {a : pk} {n : Nat} (h : pi D M) (hM : M < 2 ^ 31) (hn : bidW a.w → a.n = nI n) (hn2 : n < 2 ^ 31) (hw : plainW a.w ∨ bidW a.w) : refD D (sp_do a D) := by
  have h4 := h.l0.2
  have h2 := h.b0.2
  rcases hw with hw | w | w
  · unfold plainW at hw
    rcases hw with w | w | w | w | w | w | w | w | w | w | w | w | w | w | w | w | w | w | w | w
    · rw [do_1 w]
      exact rf_ite (fun _ => rf_no) (fun _ => rf_ite (fun _ => rf_no) (fun _ => Or.inr (ofn_ge (by omega))))
    · rw [do_2 w]
      exact rf_ite (fun _ => rf_no) (fun _ => rf_ite (fun _ => rf_no) (fun _ => Or.inr (ofn_ge (by omega))))
    · rw [do_3 w]
      refine rf_L h (fun l _ hl => rf_B h (fun _ _ _ => rf_ite (fun _ => rf_no) (fun _ => rf_ite (fun _ => rf_no) (fun _ => rf_ite (fun _ => rf_no) (fun _ => Or.inr (ofn_ge ?_))))))
      have := (h.lot l hl).s0.2
      omega
    · rw [do_4 w]
      refine rf_ite (fun _ => rf_no) (fun _ => rf_L h (fun l _ hl => rf_ite (fun _ => rf_no) (fun _ => Or.inr ?_)))
      obtain ⟨r, r1, r2⟩ := (h.lot l hl).co
      show (0 : Int64) ≤ D.facts l 1
      rw [r2]; exact ofn_ge (by omega)
    · rw [do_5 w]
      refine rf_ite (fun _ => rf_no) (fun _ => rf_ite (fun _ => rf_no) (fun _ => rf_ite (fun _ => rf_no) (fun _ => Or.inr (ofn_ge ?_))))
      have := h.st.t0.2
      omega
    · rw [do_6 w]
      refine rf_ite (fun _ => rf_no) (fun _ => rf_ite (fun _ => rf_no) (fun _ => rf_ite (fun _ => rf_no) (fun _ => Or.inr (ofn_ge ?_))))
      have := h.br.t0.2
      omega
    · rw [do_7 w]
      refine rf_ite (fun _ => rf_no) (fun c => Or.inr ?_)
      obtain ⟨a, b1, b2⟩ := kd_ix (fun z => c (Or.inl z)) (fun z => c (Or.inr (Or.inl z)))
      obtain ⟨r, r1, r2⟩ := h.tx _ b1 b2
      dsimp only
      rw [r2]; exact ofn_ge (by omega)
    · rw [do_8 w]
      have P := p_call (a := a.o) h hM
      have nlE : ∀ (E : pd) (l : Nat), (sp_papers E l).nl = E.nl := by
        intro E l
        unfold sp_papers
        split
        · rfl
        · dsimp only
          split
          · rfl
          · split <;> rfl
      unfold sp_call sp_withL at P ⊢
      by_cases c : sp_noLot D a.o = 0
      · rw [if_pos c] at P ⊢
        obtain ⟨x, hl⟩ := noLot0 h4 c
        dsimp only at P ⊢
        by_cases c2 : D.facts (ix a.o) 2 ≠ 0
        · rw [if_pos c2]; exact rf_no
        · rw [if_neg c2] at P ⊢
          refine Or.inr ?_
          dsimp only at P ⊢
          have nl' : ix a.o < (sp_papers (if D.kind (ix a.o) = 5 then (D.putF (ix a.o) 2 1).putF (ix a.o) 3 (D.facts (ix a.o) 0) else D.putF (ix a.o) 2 1) (ix a.o)).nl := by
            rw [nlE]
            split <;> exact hl
          have J := (P.lot _ nl').e0
          rw [J.1]; exact ofn_ge (by have := J.2; omega)
      · rw [if_neg c]; exact rf_no
    · rw [do_11 w]
      refine rf_L h (fun l _ hl => rf_ite (fun _ => rf_no) (fun k => rf_O (fun _ => rf_ite (fun _ => rf_no) (fun _ => rf_ite (fun _ => rf_no) (fun n0 => Or.inr ?_)))))
      have W := win_ok h hl (Decidable.not_not.mp k) n0
      have nlE : (sp_win D l).nl = D.nl := by unfold sp_win; dsimp only; split <;> rfl
      have f4 : (sp_win D l).facts l 4 = 1 := by unfold sp_win; dsimp only; split <;> (dsimp only [pd.putF, up2, pd.room, pd.st, pd.br, pd.bal, pd.facts, pd.book, pd.lims, pd.sels, pd.kind, pd.res, pd.bkind, pd.purse]; rw [if_neg (by omega), if_neg (by omega), if_pos ⟨rfl, rfl⟩])
      obtain ⟨_, _, z | z⟩ := (W.lot l (by rw [nlE]; exact hl)).op (ne1 f4)
      · dsimp only; rw [z.2]; decide
      · exact sum_ge z.2
    · rw [do_12 w]
      exact rf_ite (fun _ => rf_no) (fun hx => rf_L h (fun l _ hl => rf_ite (fun _ => rf_no) (fun k => rf_O (fun ho => rf_ite (fun _ => rf_no) (fun _ => rf_ite (fun _ => rf_no) (fun _ => Or.inr (sum_ge (tick_ok h hl (Decidable.not_not.mp hx) ((h.lot l hl).pr (Decidable.not_not.mp k) (ne1 (notOpen_1 ho)))))))))))
    · rw [do_13 w]
      exact rf_L h (fun l _ hl => rf_ite (fun _ => rf_no) (fun k => rf_B h (fun _ _ _ => rf_ite (fun _ => rf_no) (fun _ => rf_O (fun ho => rf_ite (fun _ => rf_no) (fun _ => Or.inr (sum_ge ((h.lot l hl).pr (Decidable.not_not.mp k) (ne1 (notOpen_1 ho))))))))))
    · rw [do_14 w]
      refine rf_L h (fun l _ hl => rf_O (fun _ => rf_ite (fun _ => rf_no) (fun _ => rf_ite (fun _ => rf_no) (fun _ => Or.inr ?_))))
      dsimp only
      rcases br_i h hl with ⟨_, x, _⟩ | ⟨_, x⟩
      · rw [le_i]; show (0 : Int) ≤ _; omega
      · rw [x]; decide
    · rw [do_15 w]
      exact rf_L h (fun _ _ _ => rf_L h (fun _ _ _ => rf_L h (fun _ _ _ => rf_ite (fun _ => rf_no) (fun _ => rf_ite (fun _ => rf_no) (fun _ => rf_ite (fun _ => rf_no) (fun _ => rf_ite (fun _ => rf_no) (fun _ => Or.inr (by show (0 : Int64) ≤ 1; decide))))))))
    · rw [do_16 w]
      refine rf_L h (fun l l1 hl => rf_ite (fun _ => rf_no) (fun c => ?_))
      have c' := Decidable.not_not.mp c
      rw [l1, cl_64 (by omega)] at c'
      obtain ⟨p, q, hpp, hq, wp, wq, pq, e12, e13⟩ := settle_pq h hl c'
      dsimp only
      rw [e12, e13, cl_32 (by omega), cl_32 (by omega), cz_ix (by omega), cz_ix (by omega)]
      refine rf_O (fun _ => rf_O (fun _ => rf_O (fun _ => ?_)))
      have B : ∀ m, m < D.nl → 0 ≤ (sp_brings D m).toInt ∧ (sp_brings D m).toInt ≤ 12000000000000 := by
        intro m hm
        rcases br_i h hm with ⟨_, x, y⟩ | ⟨_, x⟩
        · omega
        · rw [x]; decide
      have b1 := B l hl
      have b2 := B p hpp
      have b3 := B q hq
      unfold sp_settleIn
      dsimp only
      refine rf_ite (fun _ => rf_ite (fun _ => rf_no) (fun _ => Or.inr ?_)) (fun _ => rf_ite (fun _ => rf_no) (fun _ => rf_ite (fun _ => rf_no) (fun _ => Or.inr ?_)))
      · dsimp only; rw [le_i]; show (0 : Int) ≤ _; omega
      · dsimp only; rw [le_i, add_i (by omega)]; show (0 : Int) ≤ _; omega
    · rw [do_17 w]
      exact rf_ite (fun _ => rf_no) (fun _ => rf_L h (fun _ _ _ => rf_ite (fun _ => rf_no) (fun _ => rf_ite (fun _ => rf_no) (fun _ => Or.inr (by show (0 : Int64) ≤ 1; decide)))))
    · rw [do_18 w]
      exact rf_ite (fun _ => rf_no) (fun hx => rf_B h (fun _ _ _ => rf_ite (fun _ => rf_no) (fun _ => Or.inr (sum_ge (Decidable.not_not.mp hx)))))
    · rw [do_19 w]
      exact rf_ite (fun _ => rf_no) (fun hx => rf_B h (fun _ _ _ => rf_ite (fun _ => rf_no) (fun _ => Or.inr (sum_ge (Decidable.not_not.mp hx)))))
    · rw [do_20 w]
      exact rf_L h (fun _ _ _ => rf_O (fun _ => rf_no))
    · rw [do_21 w]
      exact rf_L h (fun _ _ _ => rf_ite (fun _ => rf_no) (fun _ => rf_ite (fun _ => rf_no) (fun _ => rf_ite (fun _ => rf_no) (fun _ => rf_no))))
    · rw [do_22 w]
      exact rf_L h (fun _ _ _ => rf_ite (fun _ => rf_no) (fun _ => rf_ite (fun _ => rf_no) (fun _ => rf_ite (fun _ => rf_no) (fun _ => rf_no))))
  · rw [do_9 w, hn (Or.inl w)]
    have g : (0 : Int64) ≤ (nI n).toInt64 := nle64.mp (nn_ge hn2)
    exact rf_ite (fun _ => rf_no) (fun _ => rf_L h (fun _ _ _ => rf_ite (fun _ => rf_no) (fun _ => rf_B h (fun _ _ _ => rf_ite (fun _ => rf_no) (fun _ => rf_O (fun _ => rf_ite (fun _ => rf_no) (fun _ => rf_ite (fun _ => rf_no) (fun _ => rf_ite (fun _ => rf_no) (fun _ => rf_ite (fun _ => rf_no) (fun _ => rf_ite (fun _ => rf_no) (fun _ => Or.inr g)))))))))))
  · rw [do_10 w, hn (Or.inr w)]
    have g : (0 : Int64) ≤ (nI n).toInt64 := nle64.mp (nn_ge hn2)
    exact rf_ite (fun _ => rf_no) (fun _ => rf_L h (fun _ _ _ => rf_ite (fun _ => rf_no) (fun _ => rf_B h (fun _ _ _ => rf_ite (fun _ => rf_no) (fun _ => rf_ite (fun _ => rf_no) (fun _ => rf_ite (fun _ => rf_no) (fun _ => rf_ite (fun _ => rf_no) (fun _ => rf_ite (fun _ => rf_no) (fun _ => Or.inr g)))))))))
end RF
