/-! a bidder is made -/
theorem fK_y {a : Nat} {K : List Nat} : fK (a :: K) a = some 0 := if_pos rfl
theorem fK_x {a q i : Nat} {K : List Nat} (h : q ≠ a) (h2 : fK K q = some i) : fK (a :: K) q = some (i + 1) := by
  show (if q = a then some 0 else (fK K q).map (fun i => i + 1)) = _
  rw [if_neg h, h2]
  rfl
theorem nO1 {h : ym_H} {c : Nat} {e : ym_E} : ym_nO h c e = some (ext h 1 [e] c) := by
  have t := ext_nO (h := h) (m := 0) (k := 0) (L := []) (c := c) (e := e) rfl
  rw [ext_0, Nat.zero_add, Nat.zero_add] at t
  exact t
theorem ob_old {h : ym_H} {m c a ci : Nat} {L : List ym_E} (ha : a < h.1) : ym_ob (ext h m L c) (some a) ci = ym_ob h (some a) ci := by
  unfold ym_ob
  dsimp only
  rw [ext_old ha]
def KB (b : Nat) : List Nat := [11000 + b, 1000 + (3 + b), 4000 + (3 + b)]
def nwB (s : mt_S) (b m : Nat) (kd : Int32) (x : Int64) : mt_S := (fun r j => if r = 9 ∧ j = b then kd else s.1 r j, fun r j => if r = 21 ∧ j = b then x else if r = 100 + (3 + b) then 0 else s.2.1 r j, fun q => if q = 3 then (if s.2.2 3 = b then b + 1 else s.2.2 3) else if q = 100 + (3 + b) then 1 else if q = 1 then s.2.2 1 + 7 else if q = 4 then s.2.2 4 + 3 else if q = 5 then m else s.2.2 q)
def eB (ad : Nat → Nat) (h : ym_H) (b : Nat) (kd : Int32) (x : Int64) : List ym_E := [.inr (0, [.int kd, .int (nI b), .long x, .ref (h.1 + 1)]), .inr (2, [.ref (ad 1), .ref (h.1 + 2)]), .inl (1, 1, fun _ => .long 0)]
def hpB (ad : Nat → Nat) (h : ym_H) (s : mt_S) (b : Nat) (kd : Int32) (x : Int64) : ym_H := ym_set (ext h 3 (eB ad h b kd x) 7) (ad 5) (.inl (5, 200, updV (fun j => if j < s.2.2 3 then .ref (ad (11000 + j)) else .null) b (.ref h.1)))
section NB
variable {X : Nat → Prop} {M N : Nat} {h0 h : ym_H} {s0 s s2 : mt_S} {ad : Nat → Nat} {w : Nat → Value} {b m q r j : Nat} {kd : Int32} {x v : Int64}
theorem nKB (h1 : q ≠ 11000 + b) (h2 : q ≠ 1000 + (3 + b)) (h3 : q ≠ 4000 + (3 + b)) : nK (KB b) q := show q ≠ 11000 + b ∧ q ≠ 1000 + (3 + b) ∧ q ≠ 4000 + (3 + b) ∧ True from ⟨h1, h2, h3, trivial⟩
theorem nKB' (hq : nK (KB b) q) : q ≠ 11000 + b ∧ q ≠ 1000 + (3 + b) ∧ q ≠ 4000 + (3 + b) := by
  have t : q ≠ 11000 + b ∧ q ≠ 1000 + (3 + b) ∧ q ≠ 4000 + (3 + b) ∧ True := hq
  exact ⟨t.1, t.2.1, t.2.2.1⟩
theorem fB0 : fK (KB b) (11000 + b) = some 0 := fK_y
theorem fB1 : fK (KB b) (1000 + (3 + b)) = some 1 := fK_x (by omega) fK_y
theorem fB2 : fK (KB b) (4000 + (3 + b)) = some 2 := fK_x (by omega) (fK_x (by omega) fK_y)
theorem nwB_i (hr : r ≠ 9) : (nwB s b m kd x).1 r = s.1 r := by
  funext j
  exact if_neg (fun z => hr z.1)
theorem nwB_9 (hj : j ≠ b) : (nwB s b m kd x).1 9 j = s.1 9 j := if_neg (fun z => hj z.2)
theorem nwB_9b : (nwB s b m kd x).1 9 b = kd := if_pos ⟨rfl, rfl⟩
theorem nwB_l (h1 : r ≠ 21) (h2 : r ≠ 100 + (3 + b)) : (nwB s b m kd x).2.1 r = s.2.1 r := by
  funext j
  show (if r = 21 ∧ j = b then x else if r = 100 + (3 + b) then 0 else s.2.1 r j) = _
  rw [if_neg (fun z => h1 z.1), if_neg h2]
theorem nwB_21 (hj : j ≠ b) : (nwB s b m kd x).2.1 21 j = s.2.1 21 j := by
  show (if 21 = 21 ∧ j = b then x else if 21 = 100 + (3 + b) then 0 else s.2.1 21 j) = _
  rw [if_neg (fun z => hj z.2), if_neg (by omega)]
theorem nwB_21b : (nwB s b m kd x).2.1 21 b = x := if_pos ⟨rfl, rfl⟩
theorem nwB_v : (nwB s b m kd x).2.1 (100 + (3 + b)) = fun _ => 0 := by
  funext j
  show (if 100 + (3 + b) = 21 ∧ j = b then x else if 100 + (3 + b) = 100 + (3 + b) then 0 else s.2.1 _ j) = _
  rw [if_neg (by omega), if_pos rfl]
theorem nwB_N : (nwB s b m kd x).2.2 q = if q = 3 then (if s.2.2 3 = b then b + 1 else s.2.2 3) else if q = 100 + (3 + b) then 1 else if q = 1 then s.2.2 1 + 7 else if q = 4 then s.2.2 4 + 3 else if q = 5 then m else s.2.2 q := rfl
theorem nwB_n (h3 : q ≠ 3) (hc : q ≠ 100 + (3 + b)) (h1 : q ≠ 1) (h4 : q ≠ 4) (h5 : q ≠ 5) : (nwB s b m kd x).2.2 q = s.2.2 q := by
  rw [nwB_N, if_neg h3, if_neg hc, if_neg h1, if_neg h4, if_neg h5]
theorem nwB_3 : (nwB s b m kd x).2.2 3 = if s.2.2 3 = b then b + 1 else s.2.2 3 := rfl
theorem nwB_c : (nwB s b m kd x).2.2 (100 + (3 + b)) = 1 := by
  rw [nwB_N, if_neg (by omega), if_pos rfl]
theorem nwB_1 : (nwB s b m kd x).2.2 1 = s.2.2 1 + 7 := by
  rw [nwB_N, if_neg (by omega), if_neg (by omega), if_pos rfl]
theorem nwB_4 : (nwB s b m kd x).2.2 4 = s.2.2 4 + 3 := by
  rw [nwB_N, if_neg (by omega), if_neg (by omega), if_neg (by omega), if_pos rfl]
theorem nwB_5 : (nwB s b m kd x).2.2 5 = m := by
  rw [nwB_N, if_neg (by omega), if_neg (by omega), if_neg (by omega), if_neg (by omega), if_pos rfl]
theorem nwB_3c (hb : b ≤ s.2.2 3) : ((nwB s b m kd x).2.2 3 = s.2.2 3 ∧ b < s.2.2 3) ∨ ((nwB s b m kd x).2.2 3 = b + 1 ∧ s.2.2 3 = b) := by
  rw [nwB_3]
  by_cases z : s.2.2 3 = b
  · rw [if_pos z]; exact Or.inr ⟨rfl, z⟩
  · rw [if_neg z]; exact Or.inl ⟨rfl, by omega⟩
theorem nwB_2 : (nwB s b m kd x).2.2 2 = s.2.2 2 := nwB_n (by omega) (by omega) (by omega) (by omega) (by omega)
theorem nwB_cl {c : Nat} (hb : b ≤ s.2.2 3) (hc : c ≠ 3 + b) : kt_cl (nwB s b m kd x) c = kt_cl s c := by
  have e := nwB_3c (m := m) (kd := kd) (x := x) hb
  rw [Bool.eq_iff_iff]
  unfold kt_cl
  rw [nwB_2]
  simp only [Bool.or_eq_true, Bool.and_eq_true, decide_eq_true_eq]
  omega
theorem nwB_clb (hb : b ≤ s.2.2 3) : kt_cl (nwB s b m kd x) (3 + b) = true := by
  have e := nwB_3c (m := m) (kd := kd) (x := x) hb
  unfold kt_cl
  simp only [Bool.or_eq_true, Bool.and_eq_true, decide_eq_true_eq]
  omega
theorem nwB_sh {c : Nat} : kt_sh (nwB s b m kd x) c = kt_sh s c := by
  unfold kt_sh
  rw [nwB_2]
theorem sh_ne {c : Nat} (hb : b < 200) (hc : kt_sh s c = true) : c ≠ 3 + b := by
  unfold kt_sh at hc
  simp only [Bool.or_eq_true, Bool.and_eq_true, decide_eq_true_eq] at hc
  omega
theorem kt_newB (hI : kt_I ad w s h) (hb : b < 200) (hb3 : b ≤ s.2.2 3) (hm : m ≤ s.2.2 5) (hw : ∀ i, i < m → s.2.2 (5000 + i) ≠ 3 + b) :
    kt_I (nad (KB b) ad h) w (nwB s b m kd x) (hpB ad h s b kd x) ∧ ∀ a, a < h.1 → (∀ key, kx ad w s key ≠ none → a ≠ ad key) → (hpB ad h s b kd x).2.2 a = h.2.2 a ∧ ∀ key, kx (nad (KB b) ad h) w (nwB s b m kd x) key ≠ none → a ≠ nad (KB b) ad h key := by
  have d3 := hI.2.2.1
  have d2 := hI.2.2.2.1
  have e3 := nwB_3c (m := m) (kd := kd) (x := x) hb3
  have vB : nad (KB b) ad h (11000 + b) = h.1 := nad_s fB0
  have vC : nad (KB b) ad h (1000 + (3 + b)) = h.1 + 1 := nad_s fB1
  have vV : nad (KB b) ad h (4000 + (3 + b)) = h.1 + 2 := nad_s fB2
  have A : ∀ q, nK (KB b) q → nad (KB b) ad h q = ad q := fun q hq => nad_n hq
  refine kt_new (c := 7) (own := 5) (eo := .inl (5, 200, fun j => if j < s.2.2 3 then .ref (ad (11000 + j)) else .null)) hI rfl ?_ (nKB (by omega) (by omega) (by omega)) (kx_lt (by decide)) ?_ ?_ (wf_new hI (kx_lt (by decide)) (fun fs z => by cases z) (by omega) (by rw [nwB_2]; exact d2) (nwB_n (by omega) (by omega) (by omega) (by omega) (by omega)) (by rw [nwB_5]; exact hm) ?_ ?_)
  · generalize nad (KB b) ad h = ad1 at vB vC vV A
    show [kx ad1 w (nwB s b m kd x) (11000 + b), kx ad1 w (nwB s b m kd x) (1000 + (3 + b)), kx ad1 w (nwB s b m kd x) (4000 + (3 + b))] = [some (.inr (0, [.int kd, .int (nI b), .long x, .ref (h.1 + 1)])), some (.inr (2, [.ref (ad 1), .ref (h.1 + 2)])), some (.inl (1, 1, fun _ => .long 0))]
    rw [kx_bid (by omega), kx_cel (nwB_clb hb3) (by omega), kx_val (nwB_clb hb3) (by omega)]
    unfold kxB
    rw [nwB_9b, nwB_21b, vC, vV, A 1 (nKB (by omega) (by omega) (by omega)), nwB_c, nwB_v]
  · rw [kx_lt (by decide)]
    show some (Sum.inl (5, 200, fun j => if j < (nwB s b m kd x).2.2 3 then Value.ref (nad (KB b) ad h (11000 + j)) else .null)) = _
    have ef : (fun j => if j < (nwB s b m kd x).2.2 3 then Value.ref (nad (KB b) ad h (11000 + j)) else .null) = updV (fun j => if j < s.2.2 3 then .ref (ad (11000 + j)) else .null) b (.ref h.1) := by
      funext j
      unfold updV
      by_cases z : j = b
      · rw [if_pos z, if_pos (by omega), z, vB]
      · rw [if_neg z, A _ (nKB (by omega) (by omega) (by omega))]
        dsimp only
        by_cases y : j < s.2.2 3
        · rw [if_pos y, if_pos (by omega)]
        · rw [if_neg y, if_neg (by omega)]
    rw [ef]
  · intro q hq h5
    refine kx_old A (fun r _ h9 => nwB_i h9) (nwB_l (by omega) (by omega)) (nwB_n (by omega) (by omega) (by omega) (by omega) (by omega)) (nwB_n (by omega) (by omega) (by omega) (by omega) (by omega)) (nwB_n (by omega) (by omega) (by omega) (by omega) (by omega)) ?_ ?_ ?_ ?_ ?_ (fun q hq => nKB (by omega) (by omega) (by omega)) (nKB (by omega) (by omega) (by omega)) (nKB (by omega) (by omega) (by omega)) (nKB (by omega) (by omega) (by omega)) (fun z => absurd z h5) ?_ hq
    · intro l _
      refine ⟨by rw [nwB_2], fun hl => ⟨by rw [nwB_i (by omega)], by rw [nwB_l (by omega) (by omega)], nKB (by omega) (by omega) (by omega), nKB (by omega) (by omega) (by omega), nKB (by omega) (by omega) (by omega), nKB (by omega) (by omega) (by omega)⟩⟩
    · intro c hc
      have hc' := (nKB' hc).1
      refine ⟨by omega, fun hl => ⟨nwB_9 (by omega), nwB_21 (by omega), nKB (by omega) (by omega) (by omega)⟩⟩
    · intro c hc hn
      have hn' := (nKB' hn).2.1
      exact ⟨nwB_cl hb3 (by omega), nKB (by omega) (by omega) (by omega)⟩
    · intro c hc hn
      have hn' := (nKB' hn).2.2
      exact ⟨nwB_cl hb3 (by omega), nwB_n (by omega) (by omega) (by omega) (by omega) (by omega), nwB_l (by omega) (by omega)⟩
    · intro c hc _
      refine ⟨nwB_sh, fun hs => ?_⟩
      have := sh_ne (b := b) hb hs
      exact nKB (by omega) (by omega) (by omega)
    · intro _ j
      rw [nwB_2]
      by_cases y : j < s.2.2 2
      · rw [if_pos y, if_pos y, A _ (nKB (by omega) (by omega) (by omega))]
      · rw [if_neg y, if_neg y]
  · intro i hi
    rw [nwB_5] at hi
    have := hw i hi
    have h4 := hI.2.2.2.2.2 i (by omega)
    have hc3 : s.2.2 (5000 + i) < 3000 := cel_lt h4.2 d3 d2
    exact ⟨nwB_n (by omega) (by omega) (by omega) (by omega) (by omega), nKB (by omega) (by omega) (by omega)⟩
  · intro c hc
    by_cases z : c = 3 + b
    · rw [z]; exact nwB_clb hb3
    · rw [nwB_cl hb3 z]; exact hc
theorem kt_F.newB (F : kt_F X M h0 s0 ad w h s) (hb : b < 200) (hb3 : b ≤ s.2.2 3) (hm : m ≤ s.2.2 5) (hw : ∀ i, i < m → s.2.2 (5000 + i) ≠ 3 + b) : kt_F X M h0 s0 (nad (KB b) ad h) w (hpB ad h s b kd x) (nwB s b m kd x) := by
  obtain ⟨f1, f2, f3, f4, f5⟩ := F
  obtain ⟨n1, n2⟩ := kt_newB (kd := kd) (x := x) f2 hb hb3 hm hw
  refine ⟨(nad_n (nKB (by omega) (by omega) (by omega))).trans f1, n1, fun a ha => ?_, fun a ha => ?_, ?_⟩
  · obtain ⟨a1, a2⟩ := f3 a ha
    exact ⟨by show a < h.1 + 3; omega, (n2 a a1 a2).2⟩
  · obtain ⟨a1, a2⟩ := f3 a ha
    exact (n2 a a1 a2).1.trans (f4 a ha)
  · unfold kt_A at f5 ⊢
    rw [nwB_1, nwB_4]
    have e1 : (hpB ad h s b kd x).1 = h.1 + 3 := rfl
    have e2 : (hpB ad h s b kd x).2.1 = h.2.1 + 7 := rfl
    rw [e1, e2]
    omega
theorem t_bidder (F : kt_F X M h0 s0 ad w h s) (hb : b < 200) (hb3 : b ≤ s.2.2 3) (hm : m ≤ s.2.2 5) (hw : ∀ i, i < m → s.2.2 (5000 + i) ≠ 3 + b) (hg : gk_X2_put N 0 0 v (nwB s b m kd x) = some ((), s2)) : ∃ ad' w' h', (Option.bind (ym_gR h (some M) 7 5) fun v67 => Option.bind (ym_nO h 4 (.inr (0, [.int 0, .int 0, .long 0, .null]))) fun h72 => Option.bind (ym_gR h72 (some M) 7 0) fun v77 => Option.bind (fn_X0_init N (some h.1) v77 kd (nI b) x h72) fun q84 => Option.bind (ym_ob q84.2 (some h.1) 0) fun _ => Option.bind (ym_as q84.2 v67 5 (nI b) (va_rf (some h.1))) fun h87 => Option.bind (ym_gR h87 (some M) 7 1) fun v89 => Option.bind (ym_ob h87 v89 2) fun _ => Option.bind (fn_X2_put N v89 0 v h87) fun q98 => some ((Int32.toInt64 (nI b)), q98.2)) = some ((nI b).toInt64, h') ∧ kt_F X M h0 s0 ad' w' h' s2 := by
  have F' := F.newB (kd := kd) (x := x) hb hb3 hm hw
  have hM := F.1
  have e0 := kt_rd F.B (key := 0) (ci := 7) (Or.inl (by decide)) (kx_lt (by decide))
  have lM : ad 0 < h.1 := (F.2.1.1 0 _ (kx_lt (by decide))).2
  have e5 : ym_gR h (some M) 7 5 = some (some (ad 5)) := by rw [← hM]; simp [ym_gR, ym_gf, e0, ym_toR]
  rw [e5, Option.bind_some, nO1, Option.bind_some]
  have e1 : ym_gR (ext h 1 [.inr (0, [.int 0, .int 0, .long 0, .null])] 4) (some M) 7 0 = some (some (ad 1)) := by
    rw [← hM]
    unfold ym_gR ym_gf
    rw [ob_old lM, e0]
    rfl
  have eb : fn_X0_init N (some h.1) (some (ad 1)) kd (nI b) x (ext h 1 [.inr (0, [.int 0, .int 0, .long 0, .null])] 4) = some ((), ext h 3 (eB ad h b kd x) 7) := by
    have t := e_bidder (N := N) (h := h) (m := 0) (k := 4) (L := []) (j := ad 1) (kd := kd) (b := nI b) (x := x) rfl
    simp only [Nat.zero_add, Nat.add_zero, List.nil_append] at t
    exact t
  have eo : ym_ob (ext h 3 (eB ad h b kd x) 7) (some h.1) 0 = some [.int kd, .int (nI b), .long x, .ref (h.1 + 1)] := ext_ob (i := 0) rfl
  obtain ⟨x5, l5⟩ := F.2.1.1 5 _ (kx_lt (by decide))
  have ea : ym_as (ext h 3 (eB ad h b kd x) 7) (some (ad 5)) 5 (nI b) (va_rf (some h.1)) = some (hpB ad h s b kd x) := by
    unfold ym_as ym_ar
    dsimp only
    rw [ext_old l5, x5]
    show Option.bind (some (5, 200, _)) _ = _
    rw [Option.bind_some, cz_nat (by omega), if_pos ⟨rfl, by decide, by rintro (z | z); exact cz_nn (by omega) z; exact absurd z (by show ¬ 200 ≤ b; omega)⟩]
    rfl
  rw [e1, Option.bind_some, eb, Option.bind_some]
  dsimp only
  rw [eo, Option.bind_some, ea, Option.bind_some]
  have hM' := F'.1
  have e0' := kt_rd F'.B (key := 0) (ci := 7) (Or.inl (by decide)) (kx_lt (by decide))
  have e6 : ym_gR (hpB ad h s b kd x) (some M) 7 1 = some (some (nad (KB b) ad h (1000 + 0))) := by rw [← hM']; simp [ym_gR, ym_gf, e0', ym_toR]
  have e7 := kt_rd F'.B (key := 1000 + 0) (ci := 2) (kt_st4 (by decide)) (kx_cel (by unfold kt_cl; rfl) (by decide))
  rw [e6, Option.bind_some, e7, Option.bind_some]
  obtain ⟨ad', w', h', e9, F9⟩ := F'.go (mk_X2_put (a0 := 0) F'.B) hg
  rw [e9, Option.bind_some]
  exact ⟨ad', w', h', rfl, F9⟩
end NB
