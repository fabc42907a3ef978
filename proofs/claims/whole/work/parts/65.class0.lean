def gk_X2_get (N : Nat) (a0 : Nat) (a1 : Int32) (s : mt_S) : Option (Int64 × mt_S) :=
  if a1 < 0 then
    some (0, s)
  else
    Option.bind (gk_cel s a0) fun _ =>
    if a1 < (Int32.ofNat (s.2.2 (100 + a0))) then
      Option.bind (gk_cel s a0) fun _ =>
      Option.bind (gk_ldL s (100 + a0) (s.2.2 (100 + a0)) a1) fun v22 =>
      some (v22, s)
    else
      some (0, s)
set_option maxRecDepth 20000 in
set_option maxHeartbeats 4000000 in
theorem mk_X2_get {X : Nat → Prop} {ad0 ad : Nat → Nat} {w : Nat → Value} {h : ym_H} {s : mt_S} {N : Nat} {a0 : Nat} {a1 : Int32} (hB : kt_B X ad0 ad w h s h s) : kt_ok X ad0 h s (fn_X2_get N (some (ad0 (1000 + a0))) a1 h) (gk_X2_get N a0 a1 s) := by
  unfold fn_X2_get gk_X2_get
  refine kt_if (fun _ => ?_) (fun _ => ?_)
  · exact kt_ret hB
  · refine kt_cel1 hB (fun hc6 => ?_)
    refine kt_vlen hB hc6 ?_
    refine kt_if (fun _ => ?_) (fun _ => ?_)
    · refine kt_cel1 hB (fun hc18 => ?_)
      refine kt_val hB hc18 (fun v22 => ?_)
      exact kt_ret hB
    · exact kt_ret hB
def gk_X7_lotsMade (N : Nat)  (s : mt_S) : Option (Int32 × mt_S) :=
  Option.bind (gk_cel s 0) fun _ =>
  Option.bind (gk_X2_get N 0 1 s) fun q5 =>
  some ((Int64.toInt32 q5.1), q5.2)
set_option maxRecDepth 20000 in
set_option maxHeartbeats 4000000 in
theorem mk_X7_lotsMade {X : Nat → Prop} {ad0 ad : Nat → Nat} {w : Nat → Value} {h : ym_H} {s : mt_S} {N : Nat}  (hB : kt_B X ad0 ad w h s h s) : kt_ok X ad0 h s (fn_X7_lotsMade N (some (ad0 0)) h) (gk_X7_lotsMade N  s) := by
  unfold fn_X7_lotsMade gk_X7_lotsMade
  refine kt_room1 hB ?_
  refine kt_celO hB (fun _ _ => ?_)
  refine kt_call hB (mk_X2_get (a0 := 0) hB.start) (fun r5 ad w H5 S5 hB => ?_)
  dsimp only
  exact kt_ret hB
def gk_X7_biddersMade (N : Nat)  (s : mt_S) : Option (Int32 × mt_S) :=
  Option.bind (gk_cel s 0) fun _ =>
  Option.bind (gk_X2_get N 0 0 s) fun q5 =>
  some ((Int64.toInt32 q5.1), q5.2)
set_option maxRecDepth 20000 in
set_option maxHeartbeats 4000000 in
theorem mk_X7_biddersMade {X : Nat → Prop} {ad0 ad : Nat → Nat} {w : Nat → Value} {h : ym_H} {s : mt_S} {N : Nat}  (hB : kt_B X ad0 ad w h s h s) : kt_ok X ad0 h s (fn_X7_biddersMade N (some (ad0 0)) h) (gk_X7_biddersMade N  s) := by
  unfold fn_X7_biddersMade gk_X7_biddersMade
  refine kt_room1 hB ?_
  refine kt_celO hB (fun _ _ => ?_)
  refine kt_call hB (mk_X2_get (a0 := 0) hB.start) (fun r5 ad w H5 S5 hB => ?_)
  dsimp only
  exact kt_ret hB
/-! looking up a lot, a bidder: what comes back is a place -/
def kt_okm (K : Nat) (X : Nat → Prop) (ad0 : Nat → Nat) (h0 : ym_H) (s0 : mt_S) (o : Option (Option Nat × ym_H)) (g : Option (Option Nat × mt_S)) : Prop := ∀ r s', g = some (r, s') → ∃ ad' w' h', o = some (Option.map (fun l => ad0 (K + l)) r, h') ∧ kt_B X ad0 ad' w' h0 s0 h' s'
theorem kt_callm {α : Type} {K : Nat} {X : Nat → Prop} {ad0 ad : Nat → Nat} {w : Nat → Value} {h0 h : ym_H} {s0 s : mt_S} (hB : kt_B X ad0 ad w h0 s0 h s) {o : Option (Option Nat × ym_H)} {gc : Option (Option Nat × mt_S)} (hc : kt_okm K X ad0 h s o gc) {f : Option Nat × ym_H → Option (α × ym_H)} {g : Option Nat × mt_S → Option (α × mt_S)} (kk : ∀ (r : Option Nat) (ad1 : Nat → Nat) (w1 : Nat → Value) (h1 : ym_H) (s1 : mt_S), kt_B X ad0 ad1 w1 h0 s0 h1 s1 → kt_ok X ad0 h0 s0 (f (Option.map (fun l => ad0 (K + l)) r, h1)) (g (r, s1))) : kt_ok X ad0 h0 s0 (Option.bind o f) (Option.bind gc g) := by
  cases hg : gc with
  | none => intro r s' z; cases z
  | some q =>
    obtain ⟨r1, s1⟩ := q
    obtain ⟨ad1, w1, h1, e1, c1, c2, c3, c4, c5⟩ := hc r1 s1 hg
    rw [e1]
    exact kk r1 ad1 w1 h1 s1 ⟨c1, c2, fun a ha => (c3 a ha).trans (hB.2.2.1 a ha), hB.2.2.2.1.trans c4, c5⟩
def gk_X7_lotAt (N : Nat) (a1 : Int32) (s : mt_S) : Option (Option Nat × mt_S) := if a1 < 0 then some (none, s) else Option.bind (gk_X7_lotsMade N s) fun q => if q.1 ≤ a1 then some (none, q.2) else if a1 < (Int32.ofNat 400) then Option.bind (gk_lots q.2 a1) fun v => some (v, q.2) else some (none, q.2)
def gk_X7_bidderWith (N : Nat) (a1 : Int32) (s : mt_S) : Option (Option Nat × mt_S) := if a1 < 0 then some (none, s) else Option.bind (gk_X7_biddersMade N s) fun q => if q.1 ≤ a1 then some (none, q.2) else if a1 < (Int32.ofNat 200) then Option.bind (gk_bids q.2 a1) fun v => some (v, q.2) else some (none, q.2)
theorem mk_X7_lotAt {X : Nat → Prop} {ad0 ad : Nat → Nat} {w : Nat → Value} {h : ym_H} {s : mt_S} {N : Nat} {a1 : Int32} (hB : kt_B X ad0 ad w h s h s) : kt_okm 10000 X ad0 h s (fn_X7_lotAt N (some (ad0 0)) a1 h) (gk_X7_lotAt N a1 s) := by
  intro r s' hg
  unfold gk_X7_lotAt at hg
  unfold fn_X7_lotAt
  by_cases c1 : a1 < 0
  · rw [if_pos c1] at hg ⊢
    cases hg
    exact ⟨ad, w, h, rfl, hB⟩
  · rw [if_neg c1] at hg ⊢
    obtain ⟨⟨r1, s1⟩, e1, hg⟩ := Option.bind_eq_some_iff.mp hg
    obtain ⟨ad1, w1, h1, e2, hB1⟩ := mk_X7_lotsMade (N := N) hB r1 s1 e1
    have e0 := kt_rd hB (key := 0) (ci := 7) (Or.inl (by decide)) (kx_lt (by decide))
    rw [e0]
    simp only [Option.bind_some, e2]
    dsimp only at hg
    by_cases c2 : r1 ≤ a1
    · rw [if_pos c2] at hg ⊢
      cases hg
      exact ⟨ad1, w1, h1, rfl, hB1⟩
    · rw [if_neg c2] at hg ⊢
      have er := kt_rd hB1 (key := 0) (ci := 7) (Or.inl (by decide)) (kx_lt (by decide))
      have e3 : ym_gR h1 (some (ad0 0)) 7 6 = some (some (ad0 6)) := by
        rw [← hB1.2.2.2.2 6 (Or.inl (by decide))]
        simp [ym_gR, ym_gf, er, kx0, ym_toR]
      have e4 : ym_ar h1 (some (ad0 6)) = some (4, 400, fun j => if j < s1.2.2 2 then .ref (ad1 (10000 + j)) else .null) := by
        rw [← hB1.2.2.2.2 6 (Or.inl (by decide))]
        exact kt_arT hB1 (kx_lt (by decide))
      have e5 : ym_len h1 (some (ad0 6)) = some (Int32.ofNat 400) := by simp [ym_len, e4]
      simp only [e3, e5, Option.bind_some]
      by_cases c3 : a1 < Int32.ofNat 400
      · rw [if_pos c3] at hg ⊢
        obtain ⟨v, e6, hg⟩ := Option.bind_eq_some_iff.mp hg
        cases hg
        have hi : ¬ (a1 < 0 ∨ 400 ≤ a1.toNatClampNeg) := fun q => by
          rw [gk_lots, if_pos q] at e6
          cases e6
        rw [gk_lots, if_neg hi] at e6
        obtain rfl := Option.some.inj e6
        have e7 : ym_ldR h1 (some (ad0 6)) 4 a1 = some (Option.map (fun l => ad0 (10000 + l)) (if a1.toNatClampNeg < s'.2.2 2 then some a1.toNatClampNeg else none)) := by
          simp only [ym_ldR, ym_ld, e4, Option.bind_some]
          rw [if_pos ⟨Or.inl trivial, hi⟩]
          by_cases hl : a1.toNatClampNeg < s'.2.2 2
          · simp only [if_pos hl, Option.bind_some, ym_toR, Option.map_some, hB1.2.2.2.2 _ kt_stL]
          · simp only [if_neg hl, Option.bind_some, ym_toR, Option.map_none]
        rw [e7]
        exact ⟨ad1, w1, h1, rfl, hB1⟩
      · rw [if_neg c3] at hg ⊢
        cases hg
        exact ⟨ad1, w1, h1, rfl, hB1⟩
theorem mk_X7_bidderWith {X : Nat → Prop} {ad0 ad : Nat → Nat} {w : Nat → Value} {h : ym_H} {s : mt_S} {N : Nat} {a1 : Int32} (hB : kt_B X ad0 ad w h s h s) : kt_okm 11000 X ad0 h s (fn_X7_bidderWith N (some (ad0 0)) a1 h) (gk_X7_bidderWith N a1 s) := by
  intro r s' hg
  unfold gk_X7_bidderWith at hg
  unfold fn_X7_bidderWith
  by_cases c1 : a1 < 0
  · rw [if_pos c1] at hg ⊢
    cases hg
    exact ⟨ad, w, h, rfl, hB⟩
  · rw [if_neg c1] at hg ⊢
    obtain ⟨⟨r1, s1⟩, e1, hg⟩ := Option.bind_eq_some_iff.mp hg
    obtain ⟨ad1, w1, h1, e2, hB1⟩ := mk_X7_biddersMade (N := N) hB r1 s1 e1
    have e0 := kt_rd hB (key := 0) (ci := 7) (Or.inl (by decide)) (kx_lt (by decide))
    rw [e0]
    simp only [Option.bind_some, e2]
    dsimp only at hg
    by_cases c2 : r1 ≤ a1
    · rw [if_pos c2] at hg ⊢
      cases hg
      exact ⟨ad1, w1, h1, rfl, hB1⟩
    · rw [if_neg c2] at hg ⊢
      have er := kt_rd hB1 (key := 0) (ci := 7) (Or.inl (by decide)) (kx_lt (by decide))
      have e3 : ym_gR h1 (some (ad0 0)) 7 5 = some (some (ad0 5)) := by
        rw [← hB1.2.2.2.2 5 (Or.inl (by decide))]
        simp [ym_gR, ym_gf, er, kx0, ym_toR]
      have e4 : ym_ar h1 (some (ad0 5)) = some (5, 200, fun j => if j < s1.2.2 3 then .ref (ad1 (11000 + j)) else .null) := by
        rw [← hB1.2.2.2.2 5 (Or.inl (by decide))]
        exact kt_arT hB1 (kx_lt (by decide))
      have e5 : ym_len h1 (some (ad0 5)) = some (Int32.ofNat 200) := by simp [ym_len, e4]
      simp only [e3, e5, Option.bind_some]
      by_cases c3 : a1 < Int32.ofNat 200
      · rw [if_pos c3] at hg ⊢
        obtain ⟨v, e6, hg⟩ := Option.bind_eq_some_iff.mp hg
        cases hg
        have hi : ¬ (a1 < 0 ∨ 200 ≤ a1.toNatClampNeg) := fun q => by
          rw [gk_bids, if_pos q] at e6
          cases e6
        rw [gk_bids, if_neg hi] at e6
        obtain rfl := Option.some.inj e6
        have e7 : ym_ldR h1 (some (ad0 5)) 5 a1 = some (Option.map (fun l => ad0 (11000 + l)) (if a1.toNatClampNeg < s'.2.2 3 then some a1.toNatClampNeg else none)) := by
          simp only [ym_ldR, ym_ld, e4, Option.bind_some]
          rw [if_pos ⟨Or.inl trivial, hi⟩]
          by_cases hl : a1.toNatClampNeg < s'.2.2 3
          · simp only [if_pos hl, Option.bind_some, ym_toR, Option.map_some, hB1.2.2.2.2 _ kt_stB]
          · simp only [if_neg hl, Option.bind_some, ym_toR, Option.map_none]
        rw [e7]
        exact ⟨ad1, w1, h1, rfl, hB1⟩
      · rw [if_neg c3] at hg ⊢
        cases hg
        exact ⟨ad1, w1, h1, rfl, hB1⟩
