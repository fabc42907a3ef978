/-! The class's cells by keys: 0 the room, 1 the journal, 2 the bodies, 3 and 4 the tables, 5 bidders' row, 6 lots' row, 7 ran, 8 whose, 9 where, 10 before, 11 marks; 1000 + c the Cells c, 4000 + c its values, 7000 + c its sheet; 10000 + l a lot, 11000 + b a bidder. Cells: 0 the room's, 1 and 2 the tables', 3 + b a bidder's, 203 + 4 l + (0 facts, 1 book, 2 limits, 3 sellers) a lot's.
   ints: 0 bid numbers, 1 acts, 2 reason, 3 count, 4 the journal's length, 5 depth, 6 ran, 7 marks, 8 lots' kinds, 9 bidders' kinds, 10 where; longs: 20 reserves, 21 purses, 22 before, 100 + c the Cells c; numbers: 0, 6, 7 the rooms of whose, where, before, 1 slots taken, 2 lots ever, 3 bidders ever, 4 cells taken, 5 how many of whose are known, 100 + c lengths, 5000 + i whose. -/
def kt_w (c : Nat) : Int32 := if c < 3 then 2 else if (c - 203) % 4 = 1 then 2 else if (c - 203) % 4 = 2 then 3 else 1
def kt_cl (s : mt_S) (c : Nat) : Bool := decide (c < 3) || ((decide (3 ≤ c) && decide (c < 3 + s.2.2 3)) || (decide (203 ≤ c) && decide (c < 203 + 4 * s.2.2 2)))
def kt_sh (s : mt_S) (c : Nat) : Bool := decide (c = 1) || (decide (c = 2) || (decide (203 ≤ c) && (decide (c < 203 + 4 * s.2.2 2) && decide ((c - 203) % 4 ≠ 0))))
def kx0 (ad : Nat → Nat) (w : Nat → Value) (s : mt_S) (key : Nat) : ym_E := match key with
  | 0 => .inr (7, [.ref (ad 1), .ref (ad (1000 + 0)), .ref (ad (2 + 1)), .ref (ad (2 + 2)), .ref (ad 2), .ref (ad 5), .ref (ad 6), .int (s.1 0 0), .int (s.1 1 0), .int (s.1 2 0)])
  | 1 => .inr (3, [.ref (ad 8), .ref (ad 9), .ref (ad 10), .int (s.1 4 0), .ref (ad 11), .int (s.1 5 0)])
  | 2 => .inr (1, [.ref (ad (2 + 1)), .ref (ad 7), .int (s.1 3 0)])
  | 3 => .inr (6, [.ref (ad (7000 + 1))])
  | 4 => .inr (6, [.ref (ad (7000 + 2))])
  | 5 => .inl (5, 200, fun j => if j < s.2.2 3 then .ref (ad (11000 + j)) else .null)
  | 6 => .inl (4, 400, fun j => if j < s.2.2 2 then .ref (ad (10000 + j)) else .null)
  | 7 => .inl (0, 200, fun j => .int (s.1 6 j))
  | 8 => .inl (3, s.2.2 0, w)
  | 9 => .inl (0, s.2.2 6, fun j => .int (s.1 10 j))
  | 10 => .inl (1, s.2.2 7, fun j => .long (s.2.1 22 j))
  | _ => .inl (0, 8, fun j => .int (s.1 7 j))
def kxL (ad : Nat → Nat) (s : mt_S) (l : Nat) : ym_E := .inr (4, [.int (s.1 8 l), .long (s.2.1 20 l), .ref (ad (1000 + (203 + 4 * l))), .ref (ad (7000 + (204 + 4 * l))), .ref (ad (7000 + (205 + 4 * l))), .ref (ad (7000 + (206 + 4 * l)))])
def kxB (ad : Nat → Nat) (s : mt_S) (b : Nat) : ym_E := .inr (0, [.int (s.1 9 b), .int (nI b), .long (s.2.1 21 b), .ref (ad (1000 + (3 + b)))])
/-- what lies at a key; none where no such thing is made -/
def kx (ad : Nat → Nat) (w : Nat → Value) (s : mt_S) (key : Nat) : Option ym_E :=
  if key < 12 then some (kx0 ad w s key)
  else if key < 1000 then none
  else if key < 4000 then (if kt_cl s (key - 1000) = true then some (.inr (2, [.ref (ad 1), .ref (ad (4000 + (key - 1000)))])) else none)
  else if key < 7000 then (if kt_cl s (key - 4000) = true then some (.inl (1, s.2.2 (100 + (key - 4000)), fun j => .long (s.2.1 (100 + (key - 4000)) j))) else none)
  else if key < 10000 then (if kt_sh s (key - 7000) = true then some (.inr (5, [.ref (ad (1000 + (key - 7000))), .int (kt_w (key - 7000))])) else none)
  else if key < 11000 then (if key - 10000 < s.2.2 2 then some (kxL ad s (key - 10000)) else none)
  else if key - 11000 < s.2.2 3 then some (kxB ad s (key - 11000)) else none
/-- keys whose addresses stay while nothing is made anew -/
def kt_st (key : Nat) : Prop := key < 8 ∨ key = 11 ∨ (1000 ≤ key ∧ key < 4000) ∨ 7000 ≤ key
def kt_wf (ad : Nat → Nat) (w : Nat → Value) (s : mt_S) (h : ym_H) : Prop := s.2.2 3 ≤ 200 ∧ s.2.2 2 ≤ 400 ∧ (∀ j, j < s.2.2 0 → w j = .null ∨ ∃ (a : Nat) (fs : List Value), w j = .ref a ∧ a < h.1 ∧ h.2.2 a = .inr (2, fs)) ∧ (∀ i, i < s.2.2 5 → w i = .ref (ad (1000 + s.2.2 (5000 + i))) ∧ kt_cl s (s.2.2 (5000 + i)) = true)
def kt_I (ad : Nat → Nat) (w : Nat → Value) (s : mt_S) (h : ym_H) : Prop := (∀ key e, kx ad w s key = some e → h.2.2 (ad key) = e ∧ ad key < h.1) ∧ (∀ k1 k2, kx ad w s k1 ≠ none → kx ad w s k2 ≠ none → ad k1 = ad k2 → k1 = k2) ∧ kt_wf ad w s h
def kt_X (ad : Nat → Nat) (w : Nat → Value) (s : mt_S) (X : Nat → Prop) (h : ym_H) : Prop := ∀ a, X a → a < h.1 ∧ ∀ key, kx ad w s key ≠ none → a ≠ ad key
def kt_A (h0 : ym_H) (s0 : mt_S) (h : ym_H) (s : mt_S) : Prop := h0.1 ≤ h.1 ∧ h0.2.1 ≤ h.2.1 ∧ h.2.1 + s0.2.2 1 = h0.2.1 + s.2.2 1 ∧ h.1 + s0.2.2 4 = h0.1 + s.2.2 4
def kt_B (X : Nat → Prop) (ad0 ad : Nat → Nat) (w : Nat → Value) (h0 : ym_H) (s0 : mt_S) (h : ym_H) (s : mt_S) : Prop := kt_I ad w s h ∧ kt_X ad w s X h ∧ mt_K X h0 h ∧ kt_A h0 s0 h s ∧ ∀ key, kt_st key → ad key = ad0 key
def kt_ok {α : Type} (X : Nat → Prop) (ad0 : Nat → Nat) (h0 : ym_H) (s0 : mt_S) (o : Option (α × ym_H)) (g : Option (α × mt_S)) : Prop := ∀ r s', g = some (r, s') → ∃ ad' w' h', o = some (r, h') ∧ kt_B X ad0 ad' w' h0 s0 h' s'
def gk_lot (s : mt_S) (l : Nat) : Option Unit := if l < s.2.2 2 then some () else none
def gk_bid (s : mt_S) (b : Nat) : Option Unit := if b < s.2.2 3 then some () else none
def gk_cel (s : mt_S) (c : Nat) : Option Unit := if kt_cl s c = true ∧ c < 3000 then some () else none
def gk_she (s : mt_S) (c : Nat) : Option Unit := if kt_sh s c = true ∧ c < 3000 then some () else none
def gk_tab (_ : mt_S) (c : Nat) : Option Unit := if c = 1 ∨ c = 2 then some () else none
def gk_ldI (s : mt_S) (k n : Nat) (i : Int32) : Option Int32 := if i < 0 ∨ n ≤ i.toNatClampNeg then none else some (s.1 k i.toNatClampNeg)
def gk_ldL (s : mt_S) (k n : Nat) (i : Int32) : Option Int64 := if i < 0 ∨ n ≤ i.toNatClampNeg then none else some (s.2.1 k i.toNatClampNeg)
def gk_stI (s : mt_S) (k n : Nat) (i : Int32) (v : Int32) : Option mt_S := if i < 0 ∨ n ≤ i.toNatClampNeg then none else some (gm_setI s k i.toNatClampNeg v)
def gk_stL (s : mt_S) (k n : Nat) (i : Int32) (v : Int64) : Option mt_S := if i < 0 ∨ n ≤ i.toNatClampNeg then none else some (gm_setL s k i.toNatClampNeg v)
theorem kx_lt {ad : Nat → Nat} {w : Nat → Value} {s : mt_S} {key : Nat} (h : key < 12) : kx ad w s key = some (kx0 ad w s key) := if_pos h
theorem kx_cel {ad : Nat → Nat} {w : Nat → Value} {s : mt_S} {c : Nat} (h : kt_cl s c = true) (hc : c < 3000) : kx ad w s (1000 + c) = some (.inr (2, [.ref (ad 1), .ref (ad (4000 + c))])) := by
  have e : 1000 + c - 1000 = c := by omega
  unfold kx
  rw [if_neg (by omega), if_neg (by omega), if_pos (by omega), e, if_pos h]
theorem kx_val {ad : Nat → Nat} {w : Nat → Value} {s : mt_S} {c : Nat} (h : kt_cl s c = true) (hc : c < 3000) : kx ad w s (4000 + c) = some (.inl (1, s.2.2 (100 + c), fun j => .long (s.2.1 (100 + c) j))) := by
  have e : 4000 + c - 4000 = c := by omega
  unfold kx
  rw [if_neg (by omega), if_neg (by omega), if_neg (by omega), if_pos (by omega), e, if_pos h]
theorem kx_she {ad : Nat → Nat} {w : Nat → Value} {s : mt_S} {c : Nat} (h : kt_sh s c = true) (hc : c < 3000) : kx ad w s (7000 + c) = some (.inr (5, [.ref (ad (1000 + c)), .int (kt_w c)])) := by
  have e : 7000 + c - 7000 = c := by omega
  unfold kx
  rw [if_neg (by omega), if_neg (by omega), if_neg (by omega), if_neg (by omega), if_pos (by omega), e, if_pos h]
theorem kx_lot {ad : Nat → Nat} {w : Nat → Value} {s : mt_S} {l : Nat} (h : l < s.2.2 2) (hl : s.2.2 2 ≤ 400) : kx ad w s (10000 + l) = some (kxL ad s l) := by
  have e : 10000 + l - 10000 = l := by omega
  unfold kx
  rw [if_neg (by omega), if_neg (by omega), if_neg (by omega), if_neg (by omega), if_neg (by omega), if_pos (by omega), e, if_pos h]
theorem kx_bid {ad : Nat → Nat} {w : Nat → Value} {s : mt_S} {b : Nat} (h : b < s.2.2 3) : kx ad w s (11000 + b) = some (kxB ad s b) := by
  have e : 11000 + b - 11000 = b := by omega
  unfold kx
  rw [if_neg (by omega), if_neg (by omega), if_neg (by omega), if_neg (by omega), if_neg (by omega), if_neg (by omega), e, if_pos h]
section KT
variable {α β : Type} {X : Nat → Prop} {ad0 ad : Nat → Nat} {w : Nat → Value} {h0 h : ym_H} {s0 s : mt_S}
theorem kt_no {o : Option (α × ym_H)} : kt_ok X ad0 h0 s0 o none := by
  intro r s' hg
  cases hg
theorem kt_ret {r : α} (hB : kt_B X ad0 ad w h0 s0 h s) : kt_ok X ad0 h0 s0 (some (r, h)) (some (r, s)) := by
  intro r' s' hg
  cases hg
  exact ⟨ad, w, h, rfl, hB⟩
theorem kt_if {c : Prop} [Decidable c] {A B : Option (α × ym_H)} {A' B' : Option (α × mt_S)} (k1 : c → kt_ok X ad0 h0 s0 A A') (k2 : ¬ c → kt_ok X ad0 h0 s0 B B') : kt_ok X ad0 h0 s0 (if c then A else B) (if c then A' else B') := by
  by_cases hc : c
  · rw [if_pos hc, if_pos hc]; exact k1 hc
  · rw [if_neg hc, if_neg hc]; exact k2 hc
theorem kt_ifT {c : Prop} [Decidable c] {A B : Option (α × ym_H)} {g : Option (α × mt_S)} (hc : c) (k : kt_ok X ad0 h0 s0 A g) : kt_ok X ad0 h0 s0 (if c then A else B) g := by rw [if_pos hc]; exact k
theorem kt_ifF {c : Prop} [Decidable c] {A B : Option (α × ym_H)} {g : Option (α × mt_S)} (hc : ¬ c) (k : kt_ok X ad0 h0 s0 B g) : kt_ok X ad0 h0 s0 (if c then A else B) g := by rw [if_neg hc]; exact k
theorem kt_B.start (hB : kt_B X ad0 ad w h0 s0 h s) : kt_B X ad0 ad w h s h s := ⟨hB.1, hB.2.1, fun _ _ => rfl, ⟨Nat.le_refl _, Nat.le_refl _, rfl, rfl⟩, hB.2.2.2.2⟩
theorem kt_A.trans {h1 h2 : ym_H} {s1 s2 : mt_S} (a : kt_A h0 s0 h1 s1) (b : kt_A h1 s1 h2 s2) : kt_A h0 s0 h2 s2 := by
  unfold kt_A at *
  omega
theorem kt_call (hB : kt_B X ad0 ad w h0 s0 h s) {o : Option (β × ym_H)} {gc : Option (β × mt_S)} (hc : kt_ok X ad0 h s o gc) {f : β × ym_H → Option (α × ym_H)} {g : β × mt_S → Option (α × mt_S)} (kk : ∀ (r : β) (ad1 : Nat → Nat) (w1 : Nat → Value) (h1 : ym_H) (s1 : mt_S), kt_B X ad0 ad1 w1 h0 s0 h1 s1 → kt_ok X ad0 h0 s0 (f (r, h1)) (g (r, s1))) : kt_ok X ad0 h0 s0 (Option.bind o f) (Option.bind gc g) := by
  cases hg : gc with
  | none => intro r s' z; cases z
  | some q =>
    obtain ⟨r1, s1⟩ := q
    obtain ⟨ad1, w1, h1, e1, c1, c2, c3, c4, c5⟩ := hc r1 s1 hg
    rw [e1]
    exact kk r1 ad1 w1 h1 s1 ⟨c1, c2, fun a ha => (c3 a ha).trans (hB.2.2.1 a ha), hB.2.2.2.1.trans c4, c5⟩
theorem kt_rd (hB : kt_B X ad0 ad w h0 s0 h s) {key ci : Nat} {fs : List Value} (hst : kt_st key) (hx : kx ad w s key = some (.inr (ci, fs))) : ym_ob h (some (ad0 key)) ci = some fs := by
  rw [← hB.2.2.2.2 key hst]
  simp [ym_ob, (hB.1.1 key _ hx).1]
theorem kt_st4 {c : Nat} (hc : c < 3000) : kt_st (1000 + c) := Or.inr (Or.inr (Or.inl ⟨by omega, by omega⟩))
theorem kt_st7 {c : Nat} : kt_st (7000 + c) := Or.inr (Or.inr (Or.inr (by omega)))
theorem kt_stL {l : Nat} : kt_st (10000 + l) := Or.inr (Or.inr (Or.inr (by omega)))
theorem kt_stB {l : Nat} : kt_st (11000 + l) := Or.inr (Or.inr (Or.inr (by omega)))
theorem kt_roomO (hB : kt_B X ad0 ad w h0 s0 h s) {f : List Value → Option (α × ym_H)} {g : Option (α × mt_S)} (kk : ∀ o, kt_ok X ad0 h0 s0 (f o) g) : kt_ok X ad0 h0 s0 (Option.bind (ym_ob h (some (ad0 0)) 7) f) g := by
  have e0 := kt_rd hB (key := 0) (ci := 7) (Or.inl (by decide)) (kx_lt (by decide))
  rw [e0]
  exact kk _
theorem kt_room0 (hB : kt_B X ad0 ad w h0 s0 h s) {f : Option Nat → Option (α × ym_H)} {g : Option (α × mt_S)} (kk : kt_ok X ad0 h0 s0 (f (some (ad0 1))) g) : kt_ok X ad0 h0 s0 (Option.bind (ym_gR h (some (ad0 0)) 7 0) f) g := by
  have e0 := kt_rd hB (key := 0) (ci := 7) (Or.inl (by decide)) (kx_lt (by decide))
  have e1 : ym_gR h (some (ad0 0)) 7 0 = some (some (ad0 1)) := by rw [← hB.2.2.2.2 1 (Or.inl (by decide))]; simp [ym_gR, ym_gf, e0, ym_toR]
  rw [e1]
  exact kk
theorem kt_room1 (hB : kt_B X ad0 ad w h0 s0 h s) {f : Option Nat → Option (α × ym_H)} {g : Option (α × mt_S)} (kk : kt_ok X ad0 h0 s0 (f (some (ad0 (1000 + 0)))) g) : kt_ok X ad0 h0 s0 (Option.bind (ym_gR h (some (ad0 0)) 7 1) f) g := by
  have e0 := kt_rd hB (key := 0) (ci := 7) (Or.inl (by decide)) (kx_lt (by decide))
  have e1 : ym_gR h (some (ad0 0)) 7 1 = some (some (ad0 (1000 + 0))) := by rw [← hB.2.2.2.2 (1000 + 0) (Or.inr (Or.inr (Or.inl ⟨by omega, by omega⟩)))]; simp [ym_gR, ym_gf, e0, ym_toR]
  rw [e1]
  exact kk
theorem kt_room2 (hB : kt_B X ad0 ad w h0 s0 h s) {f : Option Nat → Option (α × ym_H)} {g : Option (α × mt_S)} (kk : kt_ok X ad0 h0 s0 (f (some (ad0 (2 + 1)))) g) : kt_ok X ad0 h0 s0 (Option.bind (ym_gR h (some (ad0 0)) 7 2) f) g := by
  have e0 := kt_rd hB (key := 0) (ci := 7) (Or.inl (by decide)) (kx_lt (by decide))
  have e1 : ym_gR h (some (ad0 0)) 7 2 = some (some (ad0 (2 + 1))) := by rw [← hB.2.2.2.2 (2 + 1) (Or.inl (by decide))]; simp [ym_gR, ym_gf, e0, ym_toR]
  rw [e1]
  exact kk
theorem kt_room3 (hB : kt_B X ad0 ad w h0 s0 h s) {f : Option Nat → Option (α × ym_H)} {g : Option (α × mt_S)} (kk : kt_ok X ad0 h0 s0 (f (some (ad0 (2 + 2)))) g) : kt_ok X ad0 h0 s0 (Option.bind (ym_gR h (some (ad0 0)) 7 3) f) g := by
  have e0 := kt_rd hB (key := 0) (ci := 7) (Or.inl (by decide)) (kx_lt (by decide))
  have e1 : ym_gR h (some (ad0 0)) 7 3 = some (some (ad0 (2 + 2))) := by rw [← hB.2.2.2.2 (2 + 2) (Or.inl (by decide))]; simp [ym_gR, ym_gf, e0, ym_toR]
  rw [e1]
  exact kk
theorem kt_room4 (hB : kt_B X ad0 ad w h0 s0 h s) {f : Option Nat → Option (α × ym_H)} {g : Option (α × mt_S)} (kk : kt_ok X ad0 h0 s0 (f (some (ad0 2))) g) : kt_ok X ad0 h0 s0 (Option.bind (ym_gR h (some (ad0 0)) 7 4) f) g := by
  have e0 := kt_rd hB (key := 0) (ci := 7) (Or.inl (by decide)) (kx_lt (by decide))
  have e1 : ym_gR h (some (ad0 0)) 7 4 = some (some (ad0 2)) := by rw [← hB.2.2.2.2 2 (Or.inl (by decide))]; simp [ym_gR, ym_gf, e0, ym_toR]
  rw [e1]
  exact kk
theorem kt_room5 (hB : kt_B X ad0 ad w h0 s0 h s) {f : Option Nat → Option (α × ym_H)} {g : Option (α × mt_S)} (kk : kt_ok X ad0 h0 s0 (f (some (ad0 5))) g) : kt_ok X ad0 h0 s0 (Option.bind (ym_gR h (some (ad0 0)) 7 5) f) g := by
  have e0 := kt_rd hB (key := 0) (ci := 7) (Or.inl (by decide)) (kx_lt (by decide))
  have e1 : ym_gR h (some (ad0 0)) 7 5 = some (some (ad0 5)) := by rw [← hB.2.2.2.2 5 (Or.inl (by decide))]; simp [ym_gR, ym_gf, e0, ym_toR]
  rw [e1]
  exact kk
theorem kt_room6 (hB : kt_B X ad0 ad w h0 s0 h s) {f : Option Nat → Option (α × ym_H)} {g : Option (α × mt_S)} (kk : kt_ok X ad0 h0 s0 (f (some (ad0 6))) g) : kt_ok X ad0 h0 s0 (Option.bind (ym_gR h (some (ad0 0)) 7 6) f) g := by
  have e0 := kt_rd hB (key := 0) (ci := 7) (Or.inl (by decide)) (kx_lt (by decide))
  have e1 : ym_gR h (some (ad0 0)) 7 6 = some (some (ad0 6)) := by rw [← hB.2.2.2.2 6 (Or.inl (by decide))]; simp [ym_gR, ym_gf, e0, ym_toR]
  rw [e1]
  exact kk
theorem kt_room7 (hB : kt_B X ad0 ad w h0 s0 h s) {f : Int32 → Option (α × ym_H)} {g : Option (α × mt_S)} (kk : kt_ok X ad0 h0 s0 (f (s.1 0 0)) g) : kt_ok X ad0 h0 s0 (Option.bind (ym_gI h (some (ad0 0)) 7 7) f) g := by
  have e0 := kt_rd hB (key := 0) (ci := 7) (Or.inl (by decide)) (kx_lt (by decide))
  have e1 : ym_gI h (some (ad0 0)) 7 7 = some (s.1 0 0) := by simp [ym_gI, ym_gf, e0, ym_toI]
  rw [e1]
  exact kk
theorem kt_room8 (hB : kt_B X ad0 ad w h0 s0 h s) {f : Int32 → Option (α × ym_H)} {g : Option (α × mt_S)} (kk : kt_ok X ad0 h0 s0 (f (s.1 1 0)) g) : kt_ok X ad0 h0 s0 (Option.bind (ym_gI h (some (ad0 0)) 7 8) f) g := by
  have e0 := kt_rd hB (key := 0) (ci := 7) (Or.inl (by decide)) (kx_lt (by decide))
  have e1 : ym_gI h (some (ad0 0)) 7 8 = some (s.1 1 0) := by simp [ym_gI, ym_gf, e0, ym_toI]
  rw [e1]
  exact kk
theorem kt_room9 (hB : kt_B X ad0 ad w h0 s0 h s) {f : Int32 → Option (α × ym_H)} {g : Option (α × mt_S)} (kk : kt_ok X ad0 h0 s0 (f (s.1 2 0)) g) : kt_ok X ad0 h0 s0 (Option.bind (ym_gI h (some (ad0 0)) 7 9) f) g := by
  have e0 := kt_rd hB (key := 0) (ci := 7) (Or.inl (by decide)) (kx_lt (by decide))
  have e1 : ym_gI h (some (ad0 0)) 7 9 = some (s.1 2 0) := by simp [ym_gI, ym_gf, e0, ym_toI]
  rw [e1]
  exact kk
theorem kt_jourO (hB : kt_B X ad0 ad w h0 s0 h s) {f : List Value → Option (α × ym_H)} {g : Option (α × mt_S)} (kk : ∀ o, kt_ok X ad0 h0 s0 (f o) g) : kt_ok X ad0 h0 s0 (Option.bind (ym_ob h (some (ad0 1)) 3) f) g := by
  have e0 := kt_rd hB (key := 1) (ci := 3) (Or.inl (by decide)) (kx_lt (by decide))
  rw [e0]
  exact kk _
theorem kt_jour0 (hB : kt_B X ad0 ad w h0 s0 h s) {f : Option Nat → Option (α × ym_H)} {g : Option (α × mt_S)} (kk : kt_ok X ad0 h0 s0 (f (some (ad 8))) g) : kt_ok X ad0 h0 s0 (Option.bind (ym_gR h (some (ad0 1)) 3 0) f) g := by
  have e0 := kt_rd hB (key := 1) (ci := 3) (Or.inl (by decide)) (kx_lt (by decide))
  have e1 : ym_gR h (some (ad0 1)) 3 0 = some (some (ad 8)) := by simp [ym_gR, ym_gf, e0, ym_toR]
  rw [e1]
  exact kk
theorem kt_jour1 (hB : kt_B X ad0 ad w h0 s0 h s) {f : Option Nat → Option (α × ym_H)} {g : Option (α × mt_S)} (kk : kt_ok X ad0 h0 s0 (f (some (ad 9))) g) : kt_ok X ad0 h0 s0 (Option.bind (ym_gR h (some (ad0 1)) 3 1) f) g := by
  have e0 := kt_rd hB (key := 1) (ci := 3) (Or.inl (by decide)) (kx_lt (by decide))
  have e1 : ym_gR h (some (ad0 1)) 3 1 = some (some (ad 9)) := by simp [ym_gR, ym_gf, e0, ym_toR]
  rw [e1]
  exact kk
theorem kt_jour2 (hB : kt_B X ad0 ad w h0 s0 h s) {f : Option Nat → Option (α × ym_H)} {g : Option (α × mt_S)} (kk : kt_ok X ad0 h0 s0 (f (some (ad 10))) g) : kt_ok X ad0 h0 s0 (Option.bind (ym_gR h (some (ad0 1)) 3 2) f) g := by
  have e0 := kt_rd hB (key := 1) (ci := 3) (Or.inl (by decide)) (kx_lt (by decide))
  have e1 : ym_gR h (some (ad0 1)) 3 2 = some (some (ad 10)) := by simp [ym_gR, ym_gf, e0, ym_toR]
  rw [e1]
  exact kk
theorem kt_jour3 (hB : kt_B X ad0 ad w h0 s0 h s) {f : Int32 → Option (α × ym_H)} {g : Option (α × mt_S)} (kk : kt_ok X ad0 h0 s0 (f (s.1 4 0)) g) : kt_ok X ad0 h0 s0 (Option.bind (ym_gI h (some (ad0 1)) 3 3) f) g := by
  have e0 := kt_rd hB (key := 1) (ci := 3) (Or.inl (by decide)) (kx_lt (by decide))
  have e1 : ym_gI h (some (ad0 1)) 3 3 = some (s.1 4 0) := by simp [ym_gI, ym_gf, e0, ym_toI]
  rw [e1]
  exact kk
theorem kt_jour4 (hB : kt_B X ad0 ad w h0 s0 h s) {f : Option Nat → Option (α × ym_H)} {g : Option (α × mt_S)} (kk : kt_ok X ad0 h0 s0 (f (some (ad0 11))) g) : kt_ok X ad0 h0 s0 (Option.bind (ym_gR h (some (ad0 1)) 3 4) f) g := by
  have e0 := kt_rd hB (key := 1) (ci := 3) (Or.inl (by decide)) (kx_lt (by decide))
  have e1 : ym_gR h (some (ad0 1)) 3 4 = some (some (ad0 11)) := by rw [← hB.2.2.2.2 11 (Or.inr (Or.inl rfl))]; simp [ym_gR, ym_gf, e0, ym_toR]
  rw [e1]
  exact kk
theorem kt_jour5 (hB : kt_B X ad0 ad w h0 s0 h s) {f : Int32 → Option (α × ym_H)} {g : Option (α × mt_S)} (kk : kt_ok X ad0 h0 s0 (f (s.1 5 0)) g) : kt_ok X ad0 h0 s0 (Option.bind (ym_gI h (some (ad0 1)) 3 5) f) g := by
  have e0 := kt_rd hB (key := 1) (ci := 3) (Or.inl (by decide)) (kx_lt (by decide))
  have e1 : ym_gI h (some (ad0 1)) 3 5 = some (s.1 5 0) := by simp [ym_gI, ym_gf, e0, ym_toI]
  rw [e1]
  exact kk
theorem kt_bodO (hB : kt_B X ad0 ad w h0 s0 h s) {f : List Value → Option (α × ym_H)} {g : Option (α × mt_S)} (kk : ∀ o, kt_ok X ad0 h0 s0 (f o) g) : kt_ok X ad0 h0 s0 (Option.bind (ym_ob h (some (ad0 2)) 1) f) g := by
  have e0 := kt_rd hB (key := 2) (ci := 1) (Or.inl (by decide)) (kx_lt (by decide))
  rw [e0]
  exact kk _
theorem kt_bod0 (hB : kt_B X ad0 ad w h0 s0 h s) {f : Option Nat → Option (α × ym_H)} {g : Option (α × mt_S)} (kk : kt_ok X ad0 h0 s0 (f (some (ad0 (2 + 1)))) g) : kt_ok X ad0 h0 s0 (Option.bind (ym_gR h (some (ad0 2)) 1 0) f) g := by
  have e0 := kt_rd hB (key := 2) (ci := 1) (Or.inl (by decide)) (kx_lt (by decide))
  have e1 : ym_gR h (some (ad0 2)) 1 0 = some (some (ad0 (2 + 1))) := by rw [← hB.2.2.2.2 (2 + 1) (Or.inl (by decide))]; simp [ym_gR, ym_gf, e0, ym_toR]
  rw [e1]
  exact kk
theorem kt_bod1 (hB : kt_B X ad0 ad w h0 s0 h s) {f : Option Nat → Option (α × ym_H)} {g : Option (α × mt_S)} (kk : kt_ok X ad0 h0 s0 (f (some (ad0 7))) g) : kt_ok X ad0 h0 s0 (Option.bind (ym_gR h (some (ad0 2)) 1 1) f) g := by
  have e0 := kt_rd hB (key := 2) (ci := 1) (Or.inl (by decide)) (kx_lt (by decide))
  have e1 : ym_gR h (some (ad0 2)) 1 1 = some (some (ad0 7)) := by rw [← hB.2.2.2.2 7 (Or.inl (by decide))]; simp [ym_gR, ym_gf, e0, ym_toR]
  rw [e1]
  exact kk
theorem kt_bod2 (hB : kt_B X ad0 ad w h0 s0 h s) {f : Int32 → Option (α × ym_H)} {g : Option (α × mt_S)} (kk : kt_ok X ad0 h0 s0 (f (s.1 3 0)) g) : kt_ok X ad0 h0 s0 (Option.bind (ym_gI h (some (ad0 2)) 1 2) f) g := by
  have e0 := kt_rd hB (key := 2) (ci := 1) (Or.inl (by decide)) (kx_lt (by decide))
  have e1 : ym_gI h (some (ad0 2)) 1 2 = some (s.1 3 0) := by simp [ym_gI, ym_gf, e0, ym_toI]
  rw [e1]
  exact kk
theorem kt_celO (hB : kt_B X ad0 ad w h0 s0 h s) {c : Nat} {f : List Value → Option (α × ym_H)} {g : Option (α × mt_S)} (kk : ∀ o, kt_cl s c = true ∧ c < 3000 → kt_ok X ad0 h0 s0 (f o) g) : kt_ok X ad0 h0 s0 (Option.bind (ym_ob h (some (ad0 (1000 + c))) 2) f) (Option.bind (gk_cel s c) fun _ => g) := by
  by_cases hc : kt_cl s c = true ∧ c < 3000
  · have e0 := kt_rd hB (kt_st4 hc.2) (kx_cel hc.1 hc.2)
    have e2 : gk_cel s c = some () := if_pos hc
    rw [e0, e2]
    exact kk _ hc
  · have e2 : gk_cel s c = none := if_neg hc
    rw [e2]
    exact kt_no
theorem kt_cel0 (hB : kt_B X ad0 ad w h0 s0 h s) {c : Nat} {f : Option Nat → Option (α × ym_H)} {g : Option (α × mt_S)} (kk : kt_cl s c = true ∧ c < 3000 → kt_ok X ad0 h0 s0 (f (some (ad0 1))) g) : kt_ok X ad0 h0 s0 (Option.bind (ym_gR h (some (ad0 (1000 + c))) 2 0) f) (Option.bind (gk_cel s c) fun _ => g) := by
  by_cases hc : kt_cl s c = true ∧ c < 3000
  · have e0 := kt_rd hB (kt_st4 hc.2) (kx_cel hc.1 hc.2)
    have e1 : ym_gR h (some (ad0 (1000 + c))) 2 0 = some (some (ad0 1)) := by rw [← hB.2.2.2.2 1 (Or.inl (by decide))]; simp [ym_gR, ym_gf, e0, ym_toR]
    have e2 : gk_cel s c = some () := if_pos hc
    rw [e1, e2]
    exact kk hc
  · have e2 : gk_cel s c = none := if_neg hc
    rw [e2]
    exact kt_no
theorem kt_cel1 (hB : kt_B X ad0 ad w h0 s0 h s) {c : Nat} {f : Option Nat → Option (α × ym_H)} {g : Option (α × mt_S)} (kk : kt_cl s c = true ∧ c < 3000 → kt_ok X ad0 h0 s0 (f (some (ad (4000 + c)))) g) : kt_ok X ad0 h0 s0 (Option.bind (ym_gR h (some (ad0 (1000 + c))) 2 1) f) (Option.bind (gk_cel s c) fun _ => g) := by
  by_cases hc : kt_cl s c = true ∧ c < 3000
  · have e0 := kt_rd hB (kt_st4 hc.2) (kx_cel hc.1 hc.2)
    have e1 : ym_gR h (some (ad0 (1000 + c))) 2 1 = some (some (ad (4000 + c))) := by simp [ym_gR, ym_gf, e0, ym_toR]
    have e2 : gk_cel s c = some () := if_pos hc
    rw [e1, e2]
    exact kk hc
  · have e2 : gk_cel s c = none := if_neg hc
    rw [e2]
    exact kt_no
theorem kt_sheO (hB : kt_B X ad0 ad w h0 s0 h s) {c : Nat} {f : List Value → Option (α × ym_H)} {g : Option (α × mt_S)} (kk : ∀ o, kt_sh s c = true ∧ c < 3000 → kt_ok X ad0 h0 s0 (f o) g) : kt_ok X ad0 h0 s0 (Option.bind (ym_ob h (some (ad0 (7000 + c))) 5) f) (Option.bind (gk_she s c) fun _ => g) := by
  by_cases hc : kt_sh s c = true ∧ c < 3000
  · have e0 := kt_rd hB (kt_st7) (kx_she hc.1 hc.2)
    have e2 : gk_she s c = some () := if_pos hc
    rw [e0, e2]
    exact kk _ hc
  · have e2 : gk_she s c = none := if_neg hc
    rw [e2]
    exact kt_no
theorem kt_she0 (hB : kt_B X ad0 ad w h0 s0 h s) {c : Nat} {f : Option Nat → Option (α × ym_H)} {g : Option (α × mt_S)} (kk : kt_sh s c = true ∧ c < 3000 → kt_ok X ad0 h0 s0 (f (some (ad0 (1000 + c)))) g) : kt_ok X ad0 h0 s0 (Option.bind (ym_gR h (some (ad0 (7000 + c))) 5 0) f) (Option.bind (gk_she s c) fun _ => g) := by
  by_cases hc : kt_sh s c = true ∧ c < 3000
  · have e0 := kt_rd hB (kt_st7) (kx_she hc.1 hc.2)
    have e1 : ym_gR h (some (ad0 (7000 + c))) 5 0 = some (some (ad0 (1000 + c))) := by rw [← hB.2.2.2.2 (1000 + c) (Or.inr (Or.inr (Or.inl ⟨by omega, by omega⟩)))]; simp [ym_gR, ym_gf, e0, ym_toR]
    have e2 : gk_she s c = some () := if_pos hc
    rw [e1, e2]
    exact kk hc
  · have e2 : gk_she s c = none := if_neg hc
    rw [e2]
    exact kt_no
theorem kt_she1 (hB : kt_B X ad0 ad w h0 s0 h s) {c : Nat} {f : Int32 → Option (α × ym_H)} {g : Option (α × mt_S)} (kk : kt_sh s c = true ∧ c < 3000 → kt_ok X ad0 h0 s0 (f (kt_w c)) g) : kt_ok X ad0 h0 s0 (Option.bind (ym_gI h (some (ad0 (7000 + c))) 5 1) f) (Option.bind (gk_she s c) fun _ => g) := by
  by_cases hc : kt_sh s c = true ∧ c < 3000
  · have e0 := kt_rd hB (kt_st7) (kx_she hc.1 hc.2)
    have e1 : ym_gI h (some (ad0 (7000 + c))) 5 1 = some (kt_w c) := by simp [ym_gI, ym_gf, e0, ym_toI]
    have e2 : gk_she s c = some () := if_pos hc
    rw [e1, e2]
    exact kk hc
  · have e2 : gk_she s c = none := if_neg hc
    rw [e2]
    exact kt_no
theorem kt_lotO (hB : kt_B X ad0 ad w h0 s0 h s) {c : Nat} {f : List Value → Option (α × ym_H)} {g : Option (α × mt_S)} (kk : ∀ o, c < s.2.2 2 → kt_ok X ad0 h0 s0 (f o) g) : kt_ok X ad0 h0 s0 (Option.bind (ym_ob h (some (ad0 (10000 + c))) 4) f) (Option.bind (gk_lot s c) fun _ => g) := by
  by_cases hc : c < s.2.2 2
  · have e0 := kt_rd hB (kt_stL) (kx_lot hc hB.1.2.2.2.1)
    have e2 : gk_lot s c = some () := if_pos hc
    rw [e0, e2]
    exact kk _ hc
  · have e2 : gk_lot s c = none := if_neg hc
    rw [e2]
    exact kt_no
theorem kt_lot0 (hB : kt_B X ad0 ad w h0 s0 h s) {c : Nat} {f : Int32 → Option (α × ym_H)} {g : Option (α × mt_S)} (kk : c < s.2.2 2 → kt_ok X ad0 h0 s0 (f (s.1 8 c)) g) : kt_ok X ad0 h0 s0 (Option.bind (ym_gI h (some (ad0 (10000 + c))) 4 0) f) (Option.bind (gk_lot s c) fun _ => g) := by
  by_cases hc : c < s.2.2 2
  · have e0 := kt_rd hB (kt_stL) (kx_lot hc hB.1.2.2.2.1)
    have e1 : ym_gI h (some (ad0 (10000 + c))) 4 0 = some (s.1 8 c) := by simp [ym_gI, ym_gf, e0, ym_toI]
    have e2 : gk_lot s c = some () := if_pos hc
    rw [e1, e2]
    exact kk hc
  · have e2 : gk_lot s c = none := if_neg hc
    rw [e2]
    exact kt_no
theorem kt_lot1 (hB : kt_B X ad0 ad w h0 s0 h s) {c : Nat} {f : Int64 → Option (α × ym_H)} {g : Option (α × mt_S)} (kk : c < s.2.2 2 → kt_ok X ad0 h0 s0 (f (s.2.1 20 c)) g) : kt_ok X ad0 h0 s0 (Option.bind (ym_gL h (some (ad0 (10000 + c))) 4 1) f) (Option.bind (gk_lot s c) fun _ => g) := by
  by_cases hc : c < s.2.2 2
  · have e0 := kt_rd hB (kt_stL) (kx_lot hc hB.1.2.2.2.1)
    have e1 : ym_gL h (some (ad0 (10000 + c))) 4 1 = some (s.2.1 20 c) := by simp [ym_gL, ym_gf, e0, ym_toL]
    have e2 : gk_lot s c = some () := if_pos hc
    rw [e1, e2]
    exact kk hc
  · have e2 : gk_lot s c = none := if_neg hc
    rw [e2]
    exact kt_no
theorem kt_lot2 (hB : kt_B X ad0 ad w h0 s0 h s) {c : Nat} {f : Option Nat → Option (α × ym_H)} {g : Option (α × mt_S)} (kk : c < s.2.2 2 → kt_ok X ad0 h0 s0 (f (some (ad0 (1000 + (203 + 4 * c))))) g) : kt_ok X ad0 h0 s0 (Option.bind (ym_gR h (some (ad0 (10000 + c))) 4 2) f) (Option.bind (gk_lot s c) fun _ => g) := by
  by_cases hc : c < s.2.2 2
  · have e0 := kt_rd hB (kt_stL) (kx_lot hc hB.1.2.2.2.1)
    have e1 : ym_gR h (some (ad0 (10000 + c))) 4 2 = some (some (ad0 (1000 + (203 + 4 * c)))) := by have hlb := hB.1.2.2.2.1; have hbb := hB.1.2.2.1; rw [← hB.2.2.2.2 (1000 + (203 + 4 * c)) (Or.inr (Or.inr (Or.inl ⟨by omega, by omega⟩)))]; simp [ym_gR, ym_gf, e0, ym_toR]
    have e2 : gk_lot s c = some () := if_pos hc
    rw [e1, e2]
    exact kk hc
  · have e2 : gk_lot s c = none := if_neg hc
    rw [e2]
    exact kt_no
theorem kt_lot3 (hB : kt_B X ad0 ad w h0 s0 h s) {c : Nat} {f : Option Nat → Option (α × ym_H)} {g : Option (α × mt_S)} (kk : c < s.2.2 2 → kt_ok X ad0 h0 s0 (f (some (ad0 (7000 + (204 + 4 * c))))) g) : kt_ok X ad0 h0 s0 (Option.bind (ym_gR h (some (ad0 (10000 + c))) 4 3) f) (Option.bind (gk_lot s c) fun _ => g) := by
  by_cases hc : c < s.2.2 2
  · have e0 := kt_rd hB (kt_stL) (kx_lot hc hB.1.2.2.2.1)
    have e1 : ym_gR h (some (ad0 (10000 + c))) 4 3 = some (some (ad0 (7000 + (204 + 4 * c)))) := by have hlb := hB.1.2.2.2.1; have hbb := hB.1.2.2.1; rw [← hB.2.2.2.2 (7000 + (204 + 4 * c)) (kt_st7)]; simp [ym_gR, ym_gf, e0, ym_toR]
    have e2 : gk_lot s c = some () := if_pos hc
    rw [e1, e2]
    exact kk hc
  · have e2 : gk_lot s c = none := if_neg hc
    rw [e2]
    exact kt_no
theorem kt_lot4 (hB : kt_B X ad0 ad w h0 s0 h s) {c : Nat} {f : Option Nat → Option (α × ym_H)} {g : Option (α × mt_S)} (kk : c < s.2.2 2 → kt_ok X ad0 h0 s0 (f (some (ad0 (7000 + (205 + 4 * c))))) g) : kt_ok X ad0 h0 s0 (Option.bind (ym_gR h (some (ad0 (10000 + c))) 4 4) f) (Option.bind (gk_lot s c) fun _ => g) := by
  by_cases hc : c < s.2.2 2
  · have e0 := kt_rd hB (kt_stL) (kx_lot hc hB.1.2.2.2.1)
    have e1 : ym_gR h (some (ad0 (10000 + c))) 4 4 = some (some (ad0 (7000 + (205 + 4 * c)))) := by have hlb := hB.1.2.2.2.1; have hbb := hB.1.2.2.1; rw [← hB.2.2.2.2 (7000 + (205 + 4 * c)) (kt_st7)]; simp [ym_gR, ym_gf, e0, ym_toR]
    have e2 : gk_lot s c = some () := if_pos hc
    rw [e1, e2]
    exact kk hc
  · have e2 : gk_lot s c = none := if_neg hc
    rw [e2]
    exact kt_no
theorem kt_lot5 (hB : kt_B X ad0 ad w h0 s0 h s) {c : Nat} {f : Option Nat → Option (α × ym_H)} {g : Option (α × mt_S)} (kk : c < s.2.2 2 → kt_ok X ad0 h0 s0 (f (some (ad0 (7000 + (206 + 4 * c))))) g) : kt_ok X ad0 h0 s0 (Option.bind (ym_gR h (some (ad0 (10000 + c))) 4 5) f) (Option.bind (gk_lot s c) fun _ => g) := by
  by_cases hc : c < s.2.2 2
  · have e0 := kt_rd hB (kt_stL) (kx_lot hc hB.1.2.2.2.1)
    have e1 : ym_gR h (some (ad0 (10000 + c))) 4 5 = some (some (ad0 (7000 + (206 + 4 * c)))) := by have hlb := hB.1.2.2.2.1; have hbb := hB.1.2.2.1; rw [← hB.2.2.2.2 (7000 + (206 + 4 * c)) (kt_st7)]; simp [ym_gR, ym_gf, e0, ym_toR]
    have e2 : gk_lot s c = some () := if_pos hc
    rw [e1, e2]
    exact kk hc
  · have e2 : gk_lot s c = none := if_neg hc
    rw [e2]
    exact kt_no
theorem kt_bidO (hB : kt_B X ad0 ad w h0 s0 h s) {c : Nat} {f : List Value → Option (α × ym_H)} {g : Option (α × mt_S)} (kk : ∀ o, c < s.2.2 3 → kt_ok X ad0 h0 s0 (f o) g) : kt_ok X ad0 h0 s0 (Option.bind (ym_ob h (some (ad0 (11000 + c))) 0) f) (Option.bind (gk_bid s c) fun _ => g) := by
  by_cases hc : c < s.2.2 3
  · have e0 := kt_rd hB (kt_stB) (kx_bid hc)
    have e2 : gk_bid s c = some () := if_pos hc
    rw [e0, e2]
    exact kk _ hc
  · have e2 : gk_bid s c = none := if_neg hc
    rw [e2]
    exact kt_no
theorem kt_bid0 (hB : kt_B X ad0 ad w h0 s0 h s) {c : Nat} {f : Int32 → Option (α × ym_H)} {g : Option (α × mt_S)} (kk : c < s.2.2 3 → kt_ok X ad0 h0 s0 (f (s.1 9 c)) g) : kt_ok X ad0 h0 s0 (Option.bind (ym_gI h (some (ad0 (11000 + c))) 0 0) f) (Option.bind (gk_bid s c) fun _ => g) := by
  by_cases hc : c < s.2.2 3
  · have e0 := kt_rd hB (kt_stB) (kx_bid hc)
    have e1 : ym_gI h (some (ad0 (11000 + c))) 0 0 = some (s.1 9 c) := by simp [ym_gI, ym_gf, e0, ym_toI]
    have e2 : gk_bid s c = some () := if_pos hc
    rw [e1, e2]
    exact kk hc
  · have e2 : gk_bid s c = none := if_neg hc
    rw [e2]
    exact kt_no
theorem kt_bid1 (hB : kt_B X ad0 ad w h0 s0 h s) {c : Nat} {f : Int32 → Option (α × ym_H)} {g : Option (α × mt_S)} (kk : c < s.2.2 3 → kt_ok X ad0 h0 s0 (f (nI c)) g) : kt_ok X ad0 h0 s0 (Option.bind (ym_gI h (some (ad0 (11000 + c))) 0 1) f) (Option.bind (gk_bid s c) fun _ => g) := by
  by_cases hc : c < s.2.2 3
  · have e0 := kt_rd hB (kt_stB) (kx_bid hc)
    have e1 : ym_gI h (some (ad0 (11000 + c))) 0 1 = some (nI c) := by simp [ym_gI, ym_gf, e0, ym_toI]
    have e2 : gk_bid s c = some () := if_pos hc
    rw [e1, e2]
    exact kk hc
  · have e2 : gk_bid s c = none := if_neg hc
    rw [e2]
    exact kt_no
theorem kt_bid2 (hB : kt_B X ad0 ad w h0 s0 h s) {c : Nat} {f : Int64 → Option (α × ym_H)} {g : Option (α × mt_S)} (kk : c < s.2.2 3 → kt_ok X ad0 h0 s0 (f (s.2.1 21 c)) g) : kt_ok X ad0 h0 s0 (Option.bind (ym_gL h (some (ad0 (11000 + c))) 0 2) f) (Option.bind (gk_bid s c) fun _ => g) := by
  by_cases hc : c < s.2.2 3
  · have e0 := kt_rd hB (kt_stB) (kx_bid hc)
    have e1 : ym_gL h (some (ad0 (11000 + c))) 0 2 = some (s.2.1 21 c) := by simp [ym_gL, ym_gf, e0, ym_toL]
    have e2 : gk_bid s c = some () := if_pos hc
    rw [e1, e2]
    exact kk hc
  · have e2 : gk_bid s c = none := if_neg hc
    rw [e2]
    exact kt_no
theorem kt_bid3 (hB : kt_B X ad0 ad w h0 s0 h s) {c : Nat} {f : Option Nat → Option (α × ym_H)} {g : Option (α × mt_S)} (kk : c < s.2.2 3 → kt_ok X ad0 h0 s0 (f (some (ad0 (1000 + (3 + c))))) g) : kt_ok X ad0 h0 s0 (Option.bind (ym_gR h (some (ad0 (11000 + c))) 0 3) f) (Option.bind (gk_bid s c) fun _ => g) := by
  by_cases hc : c < s.2.2 3
  · have e0 := kt_rd hB (kt_stB) (kx_bid hc)
    have e1 : ym_gR h (some (ad0 (11000 + c))) 0 3 = some (some (ad0 (1000 + (3 + c)))) := by have hlb := hB.1.2.2.2.1; have hbb := hB.1.2.2.1; rw [← hB.2.2.2.2 (1000 + (3 + c)) (Or.inr (Or.inr (Or.inl ⟨by omega, by omega⟩)))]; simp [ym_gR, ym_gf, e0, ym_toR]
    have e2 : gk_bid s c = some () := if_pos hc
    rw [e1, e2]
    exact kk hc
  · have e2 : gk_bid s c = none := if_neg hc
    rw [e2]
    exact kt_no
theorem kt_tabX (hB : kt_B X ad0 ad w h0 s0 h s) {c : Nat} (hc : c = 1 ∨ c = 2) : ym_ob h (some (ad0 (2 + c))) 6 = some [.ref (ad (7000 + c))] := by
  rcases hc with rfl | rfl
  · exact kt_rd hB (key := 3) (Or.inl (by decide)) (kx_lt (by decide))
  · exact kt_rd hB (key := 4) (Or.inl (by decide)) (kx_lt (by decide))
theorem kt_tabO (hB : kt_B X ad0 ad w h0 s0 h s) {c : Nat} {f : List Value → Option (α × ym_H)} {g : Option (α × mt_S)} (kk : ∀ o, (c = 1 ∨ c = 2) → kt_ok X ad0 h0 s0 (f o) g) : kt_ok X ad0 h0 s0 (Option.bind (ym_ob h (some (ad0 (2 + c))) 6) f) (Option.bind (gk_tab s c) fun _ => g) := by
  by_cases hc : c = 1 ∨ c = 2
  · rw [kt_tabX hB hc, show gk_tab s c = some () from if_pos hc]
    exact kk _ hc
  · rw [show gk_tab s c = none from if_neg hc]
    exact kt_no
theorem kt_tab0 (hB : kt_B X ad0 ad w h0 s0 h s) {c : Nat} {f : Option Nat → Option (α × ym_H)} {g : Option (α × mt_S)} (kk : (c = 1 ∨ c = 2) → kt_ok X ad0 h0 s0 (f (some (ad0 (7000 + c)))) g) : kt_ok X ad0 h0 s0 (Option.bind (ym_gR h (some (ad0 (2 + c))) 6 0) f) (Option.bind (gk_tab s c) fun _ => g) := by
  by_cases hc : c = 1 ∨ c = 2
  · have e1 : ym_gR h (some (ad0 (2 + c))) 6 0 = some (some (ad0 (7000 + c))) := by
      rw [← hB.2.2.2.2 (7000 + c) kt_st7]
      simp [ym_gR, ym_gf, kt_tabX hB hc, ym_toR]
    rw [e1, show gk_tab s c = some () from if_pos hc]
    exact kk hc
  · rw [show gk_tab s c = none from if_neg hc]
    exact kt_no
theorem kt_arT (hB : kt_B X ad0 ad w h0 s0 h s) {key : Nat} {x : Nat × Nat × (Nat → Value)} (hx : kx ad w s key = some (.inl x)) : ym_ar h (some (ad key)) = some x := by
  simp [ym_ar, (hB.1.1 key _ hx).1]
theorem kt_ldIg (hB : kt_B X ad0 ad w h0 s0 h s) {key k n : Nat} (hx : kx ad w s key = some (.inl (0, n, fun j => .int (s.1 k j)))) {i : Int32} {f : Int32 → Option (α × ym_H)} {g : Int32 → Option (α × mt_S)} (kk : ∀ v, kt_ok X ad0 h0 s0 (f v) (g v)) : kt_ok X ad0 h0 s0 (Option.bind (ym_ldI h (some (ad key)) i) f) (Option.bind (gk_ldI s k n i) g) := by
  by_cases hi : i < 0 ∨ n ≤ i.toNatClampNeg
  · rw [show gk_ldI s k n i = none from if_pos hi]
    exact kt_no
  · have e1 : ym_ldI h (some (ad key)) i = some (s.1 k i.toNatClampNeg) := by
      simp only [ym_ldI, ym_ld, kt_arT hB hx, Option.bind_some]
      rw [if_pos ⟨Or.inl trivial, hi⟩]
      rfl
    rw [e1, show gk_ldI s k n i = some (s.1 k i.toNatClampNeg) from if_neg hi]
    exact kk _
theorem kt_ldLg (hB : kt_B X ad0 ad w h0 s0 h s) {key k n : Nat} (hx : kx ad w s key = some (.inl (1, n, fun j => .long (s.2.1 k j)))) {i : Int32} {f : Int64 → Option (α × ym_H)} {g : Int64 → Option (α × mt_S)} (kk : ∀ v, kt_ok X ad0 h0 s0 (f v) (g v)) : kt_ok X ad0 h0 s0 (Option.bind (ym_ldL h (some (ad key)) i) f) (Option.bind (gk_ldL s k n i) g) := by
  by_cases hi : i < 0 ∨ n ≤ i.toNatClampNeg
  · rw [show gk_ldL s k n i = none from if_pos hi]
    exact kt_no
  · have e1 : ym_ldL h (some (ad key)) i = some (s.2.1 k i.toNatClampNeg) := by
      simp only [ym_ldL, ym_ld, kt_arT hB hx, Option.bind_some]
      rw [if_pos ⟨Or.inl trivial, hi⟩]
      rfl
    rw [e1, show gk_ldL s k n i = some (s.2.1 k i.toNatClampNeg) from if_neg hi]
    exact kk _
theorem kt_leng (hB : kt_B X ad0 ad w h0 s0 h s) {key : Nat} {x : Nat × Nat × (Nat → Value)} (hx : kx ad w s key = some (.inl x)) {f : Int32 → Option (α × ym_H)} {g : Option (α × mt_S)} (kk : kt_ok X ad0 h0 s0 (f (Int32.ofNat x.2.1)) g) : kt_ok X ad0 h0 s0 (Option.bind (ym_len h (some (ad key))) f) g := by
  have e1 : ym_len h (some (ad key)) = some (Int32.ofNat x.2.1) := by simp [ym_len, kt_arT hB hx]
  rw [e1]
  exact kk
theorem kt_ran (hB : kt_B X ad0 ad w h0 s0 h s) {i : Int32} {f : Int32 → Option (α × ym_H)} {g : Int32 → Option (α × mt_S)} (kk : ∀ v, kt_ok X ad0 h0 s0 (f v) (g v)) : kt_ok X ad0 h0 s0 (Option.bind (ym_ldI h (some (ad0 7)) i) f) (Option.bind (gk_ldI s 6 200 i) g) := by
  rw [← hB.2.2.2.2 7 (Or.inl (by decide))]
  exact kt_ldIg hB (kx_lt (by decide)) kk
theorem kt_mark (hB : kt_B X ad0 ad w h0 s0 h s) {i : Int32} {f : Int32 → Option (α × ym_H)} {g : Int32 → Option (α × mt_S)} (kk : ∀ v, kt_ok X ad0 h0 s0 (f v) (g v)) : kt_ok X ad0 h0 s0 (Option.bind (ym_ldI h (some (ad0 11)) i) f) (Option.bind (gk_ldI s 7 8 i) g) := by
  rw [← hB.2.2.2.2 11 (Or.inr (Or.inl rfl))]
  exact kt_ldIg hB (kx_lt (by decide)) kk
theorem kt_where (hB : kt_B X ad0 ad w h0 s0 h s) {i : Int32} {f : Int32 → Option (α × ym_H)} {g : Int32 → Option (α × mt_S)} (kk : ∀ v, kt_ok X ad0 h0 s0 (f v) (g v)) : kt_ok X ad0 h0 s0 (Option.bind (ym_ldI h (some (ad 9)) i) f) (Option.bind (gk_ldI s 10 (s.2.2 6) i) g) := kt_ldIg hB (kx_lt (by decide)) kk
theorem kt_before (hB : kt_B X ad0 ad w h0 s0 h s) {i : Int32} {f : Int64 → Option (α × ym_H)} {g : Int64 → Option (α × mt_S)} (kk : ∀ v, kt_ok X ad0 h0 s0 (f v) (g v)) : kt_ok X ad0 h0 s0 (Option.bind (ym_ldL h (some (ad 10)) i) f) (Option.bind (gk_ldL s 22 (s.2.2 7) i) g) := kt_ldLg hB (kx_lt (by decide)) kk
theorem kt_val (hB : kt_B X ad0 ad w h0 s0 h s) {c : Nat} (hc : kt_cl s c = true ∧ c < 3000) {i : Int32} {f : Int64 → Option (α × ym_H)} {g : Int64 → Option (α × mt_S)} (kk : ∀ v, kt_ok X ad0 h0 s0 (f v) (g v)) : kt_ok X ad0 h0 s0 (Option.bind (ym_ldL h (some (ad (4000 + c))) i) f) (Option.bind (gk_ldL s (100 + c) (s.2.2 (100 + c)) i) g) := kt_ldLg hB (kx_val hc.1 hc.2) kk
theorem kt_vlen (hB : kt_B X ad0 ad w h0 s0 h s) {c : Nat} (hc : kt_cl s c = true ∧ c < 3000) {f : Int32 → Option (α × ym_H)} {g : Option (α × mt_S)} (kk : kt_ok X ad0 h0 s0 (f (Int32.ofNat (s.2.2 (100 + c)))) g) : kt_ok X ad0 h0 s0 (Option.bind (ym_len h (some (ad (4000 + c)))) f) g := kt_leng hB (kx_val hc.1 hc.2) kk
theorem kt_wlen (hB : kt_B X ad0 ad w h0 s0 h s) {f : Int32 → Option (α × ym_H)} {g : Option (α × mt_S)} (kk : kt_ok X ad0 h0 s0 (f (Int32.ofNat (s.2.2 0))) g) : kt_ok X ad0 h0 s0 (Option.bind (ym_len h (some (ad 8))) f) g := kt_leng hB (x := (3, s.2.2 0, w)) (kx_lt (by decide)) kk
theorem kt_slen (hB : kt_B X ad0 ad w h0 s0 h s) {key n : Nat} (hk : (key = 5 ∧ n = 200) ∨ (key = 6 ∧ n = 400) ∨ (key = 7 ∧ n = 200) ∨ (key = 11 ∧ n = 8)) {f : Int32 → Option (α × ym_H)} {g : Option (α × mt_S)} (kk : kt_ok X ad0 h0 s0 (f (Int32.ofNat n)) g) : kt_ok X ad0 h0 s0 (Option.bind (ym_len h (some (ad0 key))) f) g := by
  rcases hk with ⟨rfl, rfl⟩ | ⟨rfl, rfl⟩ | ⟨rfl, rfl⟩ | ⟨rfl, rfl⟩
  · rw [← hB.2.2.2.2 5 (Or.inl (by decide))]
    exact kt_leng hB (x := (5, 200, fun j => if j < s.2.2 3 then .ref (ad (11000 + j)) else .null)) (kx_lt (by decide)) kk
  · rw [← hB.2.2.2.2 6 (Or.inl (by decide))]
    exact kt_leng hB (x := (4, 400, fun j => if j < s.2.2 2 then .ref (ad (10000 + j)) else .null)) (kx_lt (by decide)) kk
  · rw [← hB.2.2.2.2 7 (Or.inl (by decide))]
    exact kt_leng hB (x := (0, 200, fun j => .int (s.1 6 j))) (kx_lt (by decide)) kk
  · rw [← hB.2.2.2.2 11 (Or.inr (Or.inl rfl))]
    exact kt_leng hB (x := (0, 8, fun j => .int (s.1 7 j))) (kx_lt (by decide)) kk
def gk_lots (s : mt_S) (i : Int32) : Option (Option Nat) := if i < 0 ∨ 400 ≤ i.toNatClampNeg then none else some (if i.toNatClampNeg < s.2.2 2 then some i.toNatClampNeg else none)
def gk_bids (s : mt_S) (i : Int32) : Option (Option Nat) := if i < 0 ∨ 200 ≤ i.toNatClampNeg then none else some (if i.toNatClampNeg < s.2.2 3 then some i.toNatClampNeg else none)
def gk_who (s : mt_S) (i : Int32) : Option Nat := if i < 0 ∨ s.2.2 0 ≤ i.toNatClampNeg ∨ s.2.2 5 ≤ i.toNatClampNeg then none else some (s.2.2 (5000 + i.toNatClampNeg))
theorem kt_lots (hB : kt_B X ad0 ad w h0 s0 h s) {i : Int32} {f : Option Nat → Option (α × ym_H)} {g : Option Nat → Option (α × mt_S)} (kk : ∀ v : Option Nat, kt_ok X ad0 h0 s0 (f (v.map fun l => ad0 (10000 + l))) (g v)) : kt_ok X ad0 h0 s0 (Option.bind (ym_ldR h (some (ad0 6)) 4 i) f) (Option.bind (gk_lots s i) g) := by
  by_cases hi : i < 0 ∨ 400 ≤ i.toNatClampNeg
  · rw [show gk_lots s i = none from if_pos hi]
    exact kt_no
  · rw [show gk_lots s i = some (if i.toNatClampNeg < s.2.2 2 then some i.toNatClampNeg else none) from if_neg hi]
    have e1 : ym_ldR h (some (ad0 6)) 4 i = some ((if i.toNatClampNeg < s.2.2 2 then some i.toNatClampNeg else none : Option Nat).map fun l => ad0 (10000 + l)) := by
      rw [← hB.2.2.2.2 6 (Or.inl (by decide))]
      simp only [ym_ldR, ym_ld, kt_arT hB (key := 6) (x := (4, 400, fun j => if j < s.2.2 2 then .ref (ad (10000 + j)) else .null)) (kx_lt (by decide)), Option.bind_some]
      rw [if_pos ⟨Or.inl trivial, hi⟩]
      by_cases hl : i.toNatClampNeg < s.2.2 2
      · simp only [if_pos hl, Option.bind_some, ym_toR, Option.map_some, hB.2.2.2.2 _ kt_stL]
      · simp only [if_neg hl, Option.bind_some, ym_toR, Option.map_none]
    rw [e1]
    exact kk _
theorem kt_bids (hB : kt_B X ad0 ad w h0 s0 h s) {i : Int32} {f : Option Nat → Option (α × ym_H)} {g : Option Nat → Option (α × mt_S)} (kk : ∀ v : Option Nat, kt_ok X ad0 h0 s0 (f (v.map fun l => ad0 (11000 + l))) (g v)) : kt_ok X ad0 h0 s0 (Option.bind (ym_ldR h (some (ad0 5)) 5 i) f) (Option.bind (gk_bids s i) g) := by
  by_cases hi : i < 0 ∨ 200 ≤ i.toNatClampNeg
  · rw [show gk_bids s i = none from if_pos hi]
    exact kt_no
  · rw [show gk_bids s i = some (if i.toNatClampNeg < s.2.2 3 then some i.toNatClampNeg else none) from if_neg hi]
    have e1 : ym_ldR h (some (ad0 5)) 5 i = some ((if i.toNatClampNeg < s.2.2 3 then some i.toNatClampNeg else none : Option Nat).map fun l => ad0 (11000 + l)) := by
      rw [← hB.2.2.2.2 5 (Or.inl (by decide))]
      simp only [ym_ldR, ym_ld, kt_arT hB (key := 5) (x := (5, 200, fun j => if j < s.2.2 3 then .ref (ad (11000 + j)) else .null)) (kx_lt (by decide)), Option.bind_some]
      rw [if_pos ⟨Or.inl trivial, hi⟩]
      by_cases hl : i.toNatClampNeg < s.2.2 3
      · simp only [if_pos hl, Option.bind_some, ym_toR, Option.map_some, hB.2.2.2.2 _ kt_stB]
      · simp only [if_neg hl, Option.bind_some, ym_toR, Option.map_none]
    rw [e1]
    exact kk _
theorem kt_cl_lt (hB : kt_B X ad0 ad w h0 s0 h s) {c : Nat} (hc : kt_cl s c = true) : c < 3000 := by
  have h1 := hB.1.2.2.1
  have h2 := hB.1.2.2.2.1
  simp only [kt_cl, Bool.or_eq_true, Bool.and_eq_true, decide_eq_true_eq] at hc
  omega
theorem kt_who (hB : kt_B X ad0 ad w h0 s0 h s) {i : Int32} {f : Option Nat → Option (α × ym_H)} {g : Nat → Option (α × mt_S)} (kk : ∀ v : Nat, kt_ok X ad0 h0 s0 (f (some (ad0 (1000 + v)))) (g v)) : kt_ok X ad0 h0 s0 (Option.bind (ym_ldR h (some (ad 8)) 3 i) f) (Option.bind (gk_who s i) g) := by
  by_cases hi : i < 0 ∨ s.2.2 0 ≤ i.toNatClampNeg ∨ s.2.2 5 ≤ i.toNatClampNeg
  · rw [show gk_who s i = none from if_pos hi]
    exact kt_no
  · rw [show gk_who s i = some (s.2.2 (5000 + i.toNatClampNeg)) from if_neg hi]
    obtain ⟨q1, q2⟩ := hB.1.2.2.2.2.2 i.toNatClampNeg (by omega)
    have e1 : ym_ldR h (some (ad 8)) 3 i = some (some (ad0 (1000 + s.2.2 (5000 + i.toNatClampNeg)))) := by
      rw [← hB.2.2.2.2 _ (kt_st4 (kt_cl_lt hB q2))]
      simp only [ym_ldR, ym_ld, kt_arT hB (key := 8) (x := (3, s.2.2 0, w)) (kx_lt (by decide)), Option.bind_some]
      rw [if_pos ⟨Or.inl trivial, fun q => hi (q.elim Or.inl (fun z => Or.inr (Or.inl z)))⟩, q1]
      rfl
    rw [e1]
    exact kk _
end KT
