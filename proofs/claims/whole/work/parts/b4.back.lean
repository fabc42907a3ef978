/-! taking back -/
section TB
variable {N : Nat} {k0 k : mt_S} {D : pd} {J0 E : List je} {cs : List Int32} {g n : Nat}
theorem pred_lt {m : Nat} (h : m < 2 ^ 31) : nI m + (-1) < nI m := by
  cases m with
  | zero => decide
  | succ m =>
    rw [show nI (m + 1) + (-1) = nI m from by rw [← cz_add m 1]; show nI m + 1 + -1 = nI m; rw [Int32.add_assoc]; show nI m + (1 + -1) = nI m; rw [show (1 : Int32) + -1 = 0 from by decide, Int32.add_zero], cz_lt (by omega) (by omega)]
    omega
theorem pred_s {m : Nat} : nI (m + 1) + (-1) = nI m := by
  rw [← cz_add m 1]; show nI m + 1 + -1 = nI m; rw [Int32.add_assoc]; show nI m + (1 + -1) = nI m; rw [show (1 : Int32) + -1 = 0 from by decide, Int32.add_zero]
theorem tb_loop {J : List je} {a1 : Int32} (hJ : J.length ≤ 60000) : ∀ (F R : List je) (k : mt_S) (f : Nat), (F ++ R) <:+ J → F.length < f → k.2.2 3 ≤ 200 → k.2.2 2 ≤ 400 → (∀ c, kt_cl k c = true → k.2.2 (100 + c) ≤ 1300) → J.length ≤ k.2.2 0 → J.length ≤ k.2.2 5 → J.length ≤ k.2.2 6 → J.length ≤ k.2.2 7 → (∀ e J', (e :: J') <:+ J → k.2.2 (5000 + J'.length) = e.1 ∧ k.1 10 J'.length = nI e.2.1 ∧ k.2.1 22 J'.length = e.2.2) → (∀ e, e ∈ J → kt_cl k e.1 = true ∧ e.2.1 < k.2.2 (100 + e.1)) →
    ∃ k1, gkp_X3_takeBackTo_27 N f a1 (nI R.length) (nI (F.length + R.length) + (-1)) k = some ((), k1) ∧ k1.1 = k.1 ∧ k1.2.2 = k.2.2 ∧ (∀ r, r < 100 → k1.2.1 r = k.2.1 r) ∧ Vk k1 = rvt F (Vk k) := by
  intro F
  induction F with
  | nil =>
    intro R k f hs hf d1 d2 lc h0 h5 h6 h7 en ok
    obtain ⟨f, rfl⟩ : ∃ m, f = m + 1 := ⟨f - 1, by omega⟩
    have := hs.length_le
    rw [List.nil_append] at this
    unfold gkp_X3_takeBackTo_27 gkl_X3_takeBackTo_27
    rw [show ([] : List je).length + R.length = R.length from Nat.zero_add _, if_pos (pred_lt (by omega))]
    exact ⟨k, rfl, rfl, rfl, fun _ _ => rfl, rfl⟩
  | cons e F ih =>
    intro R k f hs hf d1 d2 lc h0 h5 h6 h7 en ok
    obtain ⟨f, rfl⟩ : ∃ m, f = m + 1 := ⟨f - 1, by omega⟩
    have hl := hs.length_le
    rw [List.cons_append, List.length_cons, List.length_append] at hl
    rw [List.length_cons] at hf
    obtain ⟨n1, n2, n3⟩ := en e (F ++ R) hs
    rw [List.length_append] at n1 n2 n3
    obtain ⟨o1, o2⟩ := ok e (hs.subset (by rw [List.cons_append]; exact List.mem_cons_self))
    have c3 := cel_lt o1 d1 d2
    have l3 := lc e.1 o1
    unfold gkp_X3_takeBackTo_27 gkl_X3_takeBackTo_27
    rw [show (e :: F).length + R.length = (F.length + R.length) + 1 from by rw [List.length_cons]; omega, pred_s, if_neg (by rw [cz_lt (by omega) (by omega)]; omega)]
    have w : gk_who k (nI (F.length + R.length)) = some e.1 := by
      unfold gk_who
      rw [cz_nat (by omega), if_neg, n1]
      rintro (z | z | z)
      · exact cz_nn (by omega) z
      · omega
      · omega
    rw [w, Option.bind_some, gk_rdI (by omega) (by omega), Option.bind_some, gk_rdL (by omega) (by omega), Option.bind_some, n2, n3, show gk_cel k e.1 = some () from if_pos ⟨o1, c3⟩, Option.bind_some]
    have st : gk_X2_set N e.1 (nI e.2.1) e.2.2 k = some ((), gm_setL k (100 + e.1) e.2.1 e.2.2) := by
      unfold gk_X2_set
      rw [if_neg (cz_nn (by omega)), show gk_cel k e.1 = some () from if_pos ⟨o1, c3⟩, Option.bind_some, if_neg (show ¬ Int32.ofNat (k.2.2 (100 + e.1)) ≤ nI e.2.1 from fun z => by have := (cz_le (by omega) (by omega)).mp z; omega), Option.bind_some, gk_wrL o2 (by omega), Option.bind_some]
    rw [st, Option.bind_some]
    unfold gkb_X3_takeBackTo_62_27
    obtain ⟨k1, g1, a1', a2, a3, a4⟩ := ih R (gm_setL k (100 + e.1) e.2.1 e.2.2) f ((List.suffix_cons e (F ++ R)).trans hs) (by omega) d1 d2 lc h0 h5 h6 h7 (fun e' J' h' => by
      obtain ⟨y1, y2, y3⟩ := en e' J' h'
      exact ⟨y1, y2, by rw [show (gm_setL k (100 + e.1) e.2.1 e.2.2).2.1 22 = k.2.1 22 from fne_L (by omega)]; exact y3⟩) ok
    refine ⟨k1, g1, a1', a2, fun r hr => (a3 r hr).trans (fne_L (by omega)), ?_⟩
    rw [a4, V_set c3 o2]
    rfl
def lvD (a : ab) (i : Nat) : pd := sp_run (a.A.drop (a.A.length - a.mq i))
/-- the class between two calls -/
def CR (k : mt_S) (a : ab) (J : List je) (jm : Nat → Nat) (g n : Nat) : Prop := (cw k k (sp_run a.A) J [] a.cs g n) ∧ (k.1 0 0 = nI a.num) ∧ (k.1 1 0 = nI a.tr) ∧ (k.1 2 0 = a.why) ∧ (k.1 5 0 = nI a.dp) ∧ (a.dp = 0 → J = []) ∧ (∀ i, i < a.dp → k.1 7 i = nI (jm i) ∧ jm i ≤ J.length) ∧ (0 < a.dp → jm 0 = 0) ∧ (∀ i j, i ≤ j → j < a.dp → jm i ≤ jm j) ∧ (∀ e, e ∈ J → dm (sp_run a.A) e.1) ∧ (∀ i, i < a.dp → (lvD a i).nl ≤ (sp_run a.A).nl ∧ (lvD a i).nb ≤ (sp_run a.A).nb ∧ cvK k (lvD a i) ∧ cvW (rvt (J.take (J.length - jm i)) (Vk k)) (lvD a i) ∧ ∀ e, e ∈ J.drop (J.length - jm i) → dm (lvD a i) e.1) ∧ (∀ i j, i ≤ j → j < a.dp → (lvD a i).nl ≤ (lvD a j).nl ∧ (lvD a i).nb ≤ (lvD a j).nb)
theorem CR.w {k : mt_S} {a : ab} {J : List je} {jm : Nat → Nat} {g n : Nat} (z : CR k a J jm g n) : cw k k (sp_run a.A) J [] a.cs g n := z.1
theorem CR.num {k : mt_S} {a : ab} {J : List je} {jm : Nat → Nat} {g n : Nat} (z : CR k a J jm g n) : k.1 0 0 = nI a.num := z.2.1
theorem CR.tr {k : mt_S} {a : ab} {J : List je} {jm : Nat → Nat} {g n : Nat} (z : CR k a J jm g n) : k.1 1 0 = nI a.tr := z.2.2.1
theorem CR.why {k : mt_S} {a : ab} {J : List je} {jm : Nat → Nat} {g n : Nat} (z : CR k a J jm g n) : k.1 2 0 = a.why := z.2.2.2.1
theorem CR.dp {k : mt_S} {a : ab} {J : List je} {jm : Nat → Nat} {g n : Nat} (z : CR k a J jm g n) : k.1 5 0 = nI a.dp := z.2.2.2.2.1
theorem CR.j0 {k : mt_S} {a : ab} {J : List je} {jm : Nat → Nat} {g n : Nat} (z : CR k a J jm g n) : a.dp = 0 → J = [] := z.2.2.2.2.2.1
theorem CR.mq {k : mt_S} {a : ab} {J : List je} {jm : Nat → Nat} {g n : Nat} (z : CR k a J jm g n) : ∀ i, i < a.dp → k.1 7 i = nI (jm i) ∧ jm i ≤ J.length := z.2.2.2.2.2.2.1
theorem CR.m0 {k : mt_S} {a : ab} {J : List je} {jm : Nat → Nat} {g n : Nat} (z : CR k a J jm g n) : 0 < a.dp → jm 0 = 0 := z.2.2.2.2.2.2.2.1
theorem CR.mm {k : mt_S} {a : ab} {J : List je} {jm : Nat → Nat} {g n : Nat} (z : CR k a J jm g n) : ∀ i j, i ≤ j → j < a.dp → jm i ≤ jm j := z.2.2.2.2.2.2.2.2.1
theorem CR.jd {k : mt_S} {a : ab} {J : List je} {jm : Nat → Nat} {g n : Nat} (z : CR k a J jm g n) : ∀ e, e ∈ J → dm (sp_run a.A) e.1 := z.2.2.2.2.2.2.2.2.2.1
theorem CR.lv {k : mt_S} {a : ab} {J : List je} {jm : Nat → Nat} {g n : Nat} (z : CR k a J jm g n) : ∀ i, i < a.dp → (lvD a i).nl ≤ (sp_run a.A).nl ∧ (lvD a i).nb ≤ (sp_run a.A).nb ∧ cvK k (lvD a i) ∧ cvW (rvt (J.take (J.length - jm i)) (Vk k)) (lvD a i) ∧ ∀ e, e ∈ J.drop (J.length - jm i) → dm (lvD a i) e.1 := z.2.2.2.2.2.2.2.2.2.2.1
theorem CR.ll {k : mt_S} {a : ab} {J : List je} {jm : Nat → Nat} {g n : Nat} (z : CR k a J jm g n) : ∀ i j, i ≤ j → j < a.dp → (lvD a i).nl ≤ (lvD a j).nl ∧ (lvD a i).nb ≤ (lvD a j).nb := z.2.2.2.2.2.2.2.2.2.2.2
theorem drop_drop' {J : List je} {a b : Nat} (h : a ≤ b) (hb : b ≤ J.length) : (J.drop (J.length - b)).drop ((J.drop (J.length - b)).length - a) = J.drop (J.length - a) ∧ (J.drop (J.length - b)).length = b := by
  have l : (J.drop (J.length - b)).length = b := by rw [List.length_drop]; omega
  refine ⟨?_, l⟩
  rw [l, List.drop_drop]
  congr 1
  omega
theorem take_split {J : List je} {a b : Nat} (h : a ≤ b) (hb : b ≤ J.length) : J.take (J.length - a) = J.take (J.length - b) ++ (J.drop (J.length - b)).take (b - a) := by
  rw [← List.take_add]
  congr 1
  omega
theorem lvD_drop {a : ab} {i x : Nat} (h1 : a.mq x ≤ a.mq i) (h2 : a.mq i ≤ a.A.length) {dp' num tr : Nat} {why : Int32} {cs : List Int32} : lvD (((a.A.drop (a.A.length - a.mq i)), dp', a.mq, num, tr, why, cs) : ab) x = lvD a x := by
  show sp_run ((a.A.drop (a.A.length - a.mq i)).drop ((a.A.drop (a.A.length - a.mq i)).length - a.mq x)) = sp_run (a.A.drop (a.A.length - a.mq x))
  rw [List.drop_drop, drop_len h2]
  congr 2
  omega
/-- going back to a batch that is open -/
theorem k_tb {k : mt_S} {a : ab} {J : List je} {jm : Nat → Nat} {i : Nat} (h : CR k a J jm g n) (hi : i < a.dp) (hd8 : a.dp ≤ 8) (hm : ∀ x, x < a.dp → a.mq x ≤ a.A.length) (hm2 : ∀ x y, x ≤ y → y < a.dp → a.mq x ≤ a.mq y) (hN : 40000 ≤ N) : ∃ k1, gk_X3_takeBackTo N (nI i) k = some ((), k1) ∧ CR k1 (((a.A.drop (a.A.length - a.mq i)), i, a.mq, a.num, a.tr, a.why, a.cs) : ab) (J.drop (J.length - jm i)) jm g n := by
  obtain ⟨q1, q2⟩ := h.mq i hi
  obtain ⟨b1, b2, b3, b4, b5⟩ := h.w.bu
  rw [List.nil_append] at b1
  obtain ⟨c1, c2, c3, c4, c5, c6⟩ := h.w.j.cap
  rw [List.nil_append] at c4 c5
  have ln := h.w.j.ln
  rw [List.nil_append] at ln
  unfold gk_X3_takeBackTo
  rw [if_neg (cz_nn (by omega)), h.dp, if_pos (show nI i < nI a.dp from (cz_lt (by omega) (by omega)).mpr hi), gk_rdI (by omega) (by omega), Option.bind_some, q1, ln, Int32.sub_eq_add_neg]
  have sp : J.take (J.length - jm i) ++ J.drop (J.length - jm i) = J := List.take_append_drop _ _
  have lR : (J.drop (J.length - jm i)).length = jm i := by rw [List.length_drop]; omega
  have lF : (J.take (J.length - jm i)).length = J.length - jm i := by rw [List.length_take]; omega
  obtain ⟨k1, g1, x1, x2, x3, x4⟩ := tb_loop (N := N) (J := J) (a1 := nI i) (by omega) (J.take (J.length - jm i)) (J.drop (J.length - jm i)) k N (by rw [sp]; exact List.suffix_refl _) (by omega) h.w.dim.1 h.w.dim.2.1 (fun c hc => (h.w.le c hc).2) (by omega) (by omega) (by omega) (by omega) (fun e J' hs => h.w.j.en e J' (by rw [List.nil_append]; exact hs)) (fun e he => h.w.j.ok e (by rw [List.nil_append]; exact he))
  rw [lF, lR, show J.length - jm i + jm i = J.length from by omega] at g1
  rw [g1, Option.bind_some, pI_e, Option.bind_some, pI_e, Option.bind_some]
  refine ⟨_, rfl, ?_⟩
  generalize hk2 : gm_setI (gm_setI k1 4 0 (nI (jm i))) 5 0 (nI i) = k2
  have y1 : ∀ r, r ≠ 4 → r ≠ 5 → k2.1 r = k.1 r := by
    intro r z1 z2
    rw [← hk2, fne_I z2, fne_I z1, x1]
  have y2 : k2.2.2 = k.2.2 := by rw [← hk2]; exact x2
  have y3 : ∀ r, r < 100 → k2.2.1 r = k.2.1 r := by
    intro r hr
    rw [← hk2]; exact x3 r hr
  have y4 : Vk k2 = rvt (J.take (J.length - jm i)) (Vk k) := by
    rw [← x4, ← hk2]; rfl
  have y5 : k2.1 5 0 = nI i := by rw [← hk2]; exact sI_same
  have y6 : k2.1 4 0 = nI (jm i) := by rw [← hk2]; rfl
  have clE : ∀ c, kt_cl k2 c = kt_cl k c := cl_same (by rw [y2]) (by rw [y2])
  obtain ⟨l1, l2, l3, l4, l5⟩ := h.lv i hi
  have D' : sp_run (a.A.drop (a.A.length - a.mq i)) = lvD a i := rfl
  have kK : ∀ {D : pd}, cvK k D → cvK k2 D := by
    intro D hD
    exact ⟨by rw [y1 8 (by omega) (by omega), y3 20 (by omega)]; exact hD.l, by rw [y1 9 (by omega) (by omega), y3 21 (by omega)]; exact hD.b⟩
  refine ⟨?_, by rw [y1 0 (by omega) (by omega)]; exact h.num, by rw [y1 1 (by omega) (by omega)]; exact h.tr, by rw [y1 2 (by omega) (by omega)]; exact h.why, y5, ?_, ?_, ?_, ?_, ?_, ?_, ?_⟩
  · obtain ⟨d1, d2, d3, d4⟩ := h.w.dim
    refine ⟨fun _ _ => rfl, ⟨rfl, rfl⟩, ⟨rfl, rfl⟩, ?_, kK l3, ?_, ?_, ?_, ?_, ⟨i, by omega, y5, fun _ => rfl⟩, fun _ => rfl, fun e he => absurd he (List.not_mem_nil), ?_, ?_⟩
    · rw [y2]
      exact ⟨d1, d2, by show (lvD a i).nb ≤ _; omega, by show (lvD a i).nl ≤ _; omega⟩
    · rw [y4]; exact l4
    · intro c hc
      rw [clE] at hc
      rw [y2]; exact h.w.le c hc
    · rw [y2]; exact h.w.lf
    · rw [List.nil_append]
      refine ⟨by rw [lR]; exact y6, by rw [y2, lR]; exact ⟨c1, c2, c3, by omega, by omega, c6⟩, ?_, ?_⟩
      · intro e J' hs
        rw [y1 10 (by omega) (by omega), y2, y3 22 (by omega)]
        exact h.w.j.en e J' (by rw [List.nil_append]; exact hs.trans (List.drop_suffix _ _))
      · intro e he
        rw [clE, y2]
        exact h.w.j.ok e (by rw [List.nil_append]; exact List.mem_of_mem_drop he)
    · rw [y1 3 (by omega) (by omega), y1 6 (by omega) (by omega)]; exact h.w.tr
    · rw [List.nil_append, lR, y2]
      exact ⟨by omega, b2, b3, b4, b5⟩
  · intro (z : i = 0)
    subst z
    rw [h.m0 hi, Nat.sub_zero, List.drop_length]
  · intro x (hx : x < i)
    have := h.mm x i (by omega) hi
    rw [y1 7 (by omega) (by omega), lR]
    exact ⟨(h.mq x (by omega)).1, this⟩
  · intro (z : 0 < i)
    exact h.m0 (by omega)
  · intro x y hx (hy : y < i)
    exact h.mm x y hx (by omega)
  · intro e he
    exact l5 e he
  · intro x (hx : x < i)
    obtain ⟨v1, v2, v3, v4, v5⟩ := h.lv x (by omega)
    have hxi := hm2 x i (by omega) hi
    have jx := h.mm x i (by omega) hi
    rw [lvD_drop hxi (hm i hi)]
    obtain ⟨w1, w2⟩ := h.ll x i (by omega) hi
    refine ⟨w1, w2, kK v3, ?_, ?_⟩
    · rw [y4, ← rvt_app, lR, ← take_split jx q2]; exact v4
    · rw [(drop_drop' jx q2).1]; exact v5
  · intro x y hx (hy : y < i)
    rw [lvD_drop (hm2 x i (by omega) hi) (hm i hi), lvD_drop (hm2 y i (by omega) hi) (hm i hi)]
    exact h.ll x y hx (by omega)
/-- a walk with its puts, from the start of an act -/
theorem CR_walk {k1 k2 : mt_S} {a a' : ab} {J E : List je} {jm : Nat → Nat} {g' n' : Nat} (h : CR k1 a J jm g n) (hw : cw k1 k2 (sp_run a'.A) J E a'.cs g' n') (hd : a'.dp = a.dp) (h1 : a'.num = a.num) (h2 : a'.tr = a.tr) (h3 : a'.why = a.why) (hl : (sp_run a'.A).nl = (sp_run a.A).nl) (hb : (sp_run a'.A).nb = (sp_run a.A).nb) (hv : ∀ i, i < a.dp → lvD a' i = lvD a i) (hd8 : a.dp ≤ 8) : CR k2 a' (E ++ J) jm g' n' := by
  have e5 : k2.1 5 0 = nI a.dp := by rw [hw.kf 5 (by decide)]; exact h.dp
  have dm' : ∀ c, dm (sp_run a'.A) c ↔ dm (sp_run a.A) c := by intro c; unfold dm; rw [hl, hb]
  have kK : ∀ {D : pd}, cvK k1 D → cvK k2 D := by
    intro D hD
    exact ⟨by rw [hw.kf 8 (by decide), hw.k2.1]; exact hD.l, by rw [hw.kf 9 (by decide), hw.k2.2]; exact hD.b⟩
  have len : ∀ i, i < a.dp → (E ++ J).take ((E ++ J).length - jm i) = E ++ J.take (J.length - jm i) ∧ (E ++ J).drop ((E ++ J).length - jm i) = J.drop (J.length - jm i) := by
    intro i hi
    have q := (h.mq i hi).2
    have e : (E ++ J).length - jm i = E.length + (J.length - jm i) := by rw [List.length_append]; omega
    rw [e]
    exact ⟨List.take_length_add_append _, List.drop_length_add_append _⟩
  have vb : a.dp ≠ 0 → rvt E (Vk k2) = Vk k1 := by
    intro z
    refine hw.ev ?_
    rw [e5, show (0 : Int32) = nI 0 from rfl]
    intro y
    exact z ((cz_eq (by omega) (by omega)).mp y)
  obtain ⟨d, d1, d2, d3⟩ := hw.dp
  have dd : d = a.dp := by
    rw [d2] at e5
    exact (cz_eq (by omega) (by omega)).mp e5
  refine ⟨⟨fun _ _ => rfl, ⟨rfl, rfl⟩, ⟨rfl, rfl⟩, hw.dim, hw.kd, hw.cv, hw.le, hw.lf, ?_, ⟨d, d1, d2, fun _ => rfl⟩, fun _ => rfl, fun e he => absurd he (List.not_mem_nil), hw.tr, ?_⟩, ?_, ?_, ?_, ?_, ?_, ?_, ?_, ?_, ?_, ?_, ?_⟩
  · rw [List.nil_append]; exact hw.j
  · rw [List.nil_append]; exact hw.bu
  · rw [hw.kf 0 (by decide), h1]; exact h.num
  · rw [hw.kf 1 (by decide), h2]; exact h.tr
  · rw [hw.kf 2 (by decide), h3]; exact h.why
  · rw [hd]; exact e5
  · intro z
    rw [hd] at z
    rw [d3 (by omega), h.j0 z]; rfl
  · intro i hi
    rw [hd] at hi
    obtain ⟨q1, q2⟩ := h.mq i hi
    rw [hw.kf 7 (by decide), List.length_append]
    exact ⟨q1, by omega⟩
  · intro z; rw [hd] at z; exact h.m0 z
  · intro i j x y; rw [hd] at y; exact h.mm i j x y
  · intro e he
    rcases List.mem_append.mp he with z | z
    · exact hw.ed e z
    · rw [dm']; exact h.jd e z
  · intro i hi
    rw [hd] at hi
    obtain ⟨v1, v2, v3, v4, v5⟩ := h.lv i hi
    rw [hv i hi, hl, hb, (len i hi).1, (len i hi).2]
    refine ⟨v1, v2, kK v3, ?_, v5⟩
    rw [rvt_app, vb (by omega)]; exact v4
  · intro i j x y
    rw [hd] at y
    rw [hv i (by omega), hv j y]; exact h.ll i j x y
end TB
