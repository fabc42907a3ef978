/-! the class from call to call -/
section KR
variable {N : Nat} {k k1 : mt_S} {D : pd} {J : List je} {jm : Nat → Nat} {cs : List Int32} {g n T : Nat} {a a' : ab}
theorem cw_set {cs' : List Int32} (h : cw k k D J [] cs g n) (hk : ∀ r, r ≠ 0 → r ≠ 1 → r ≠ 2 → r ≠ 3 → k1.1 r = k.1 r) (h2 : k1.2 = k.2) (e3 : k1.1 3 0 = nI cs'.length ∧ cs'.length ≤ 200 ∧ ∀ i, (h : i < cs'.length) → k1.1 6 i = cs'[i]) : cw k1 k1 D J [] cs' g n := by
  have V : Vk k1 = Vk k := by unfold Vk; rw [h2]
  have cl : ∀ c, kt_cl k1 c = kt_cl k c := by intro c; unfold kt_cl; rw [h2]
  refine ⟨fun _ _ => rfl, ⟨rfl, rfl⟩, ⟨rfl, rfl⟩, by rw [h2]; exact h.dim, ⟨by rw [hk 8 (by omega) (by omega) (by omega) (by omega), h2]; exact h.kd.l, by rw [hk 9 (by omega) (by omega) (by omega) (by omega), h2]; exact h.kd.b⟩, by rw [V]; exact h.cv, ?_, by rw [h2]; exact h.lf, ⟨by rw [hk 4 (by omega) (by omega) (by omega) (by omega)]; exact h.j.ln, by rw [h2]; exact h.j.cap, ?_, ?_⟩, by rw [hk 5 (by omega) (by omega) (by omega) (by omega)]; exact h.dp, fun _ => rfl, h.ed, e3, by rw [h2]; exact h.bu⟩
  · intro c hc
    rw [cl] at hc
    rw [h2]; exact h.le c hc
  · intro e J' hs
    rw [hk 10 (by omega) (by omega) (by omega) (by omega), h2]
    exact h.j.en e J' hs
  · intro e he
    rw [cl, h2]
    exact h.j.ok e he
theorem CR_set (h : CR k a J jm g n) (hk : ∀ r, r ≠ 0 → r ≠ 1 → r ≠ 2 → r ≠ 3 → k1.1 r = k.1 r) (h2 : k1.2 = k.2) (hA : a'.A = a.A) (hd : a'.dp = a.dp) (hm : a'.mq = a.mq) (e0 : k1.1 0 0 = nI a'.num) (e1 : k1.1 1 0 = nI a'.tr) (e2 : k1.1 2 0 = a'.why) (e3 : k1.1 3 0 = nI a'.cs.length ∧ a'.cs.length ≤ 200 ∧ ∀ i, (h : i < a'.cs.length) → k1.1 6 i = a'.cs[i]) : CR k1 a' J jm g n := by
  have V : Vk k1 = Vk k := by unfold Vk; rw [h2]
  have lv : ∀ i, lvD a' i = lvD a i := by intro i; unfold lvD; rw [hA, hm]
  have kK : ∀ {D : pd}, cvK k D → cvK k1 D := by
    intro D hD
    exact ⟨by rw [hk 8 (by omega) (by omega) (by omega) (by omega), h2]; exact hD.l, by rw [hk 9 (by omega) (by omega) (by omega) (by omega), h2]; exact hD.b⟩
  refine ⟨by rw [hA]; exact cw_set h.w hk h2 e3, e0, e1, e2, by rw [hk 5 (by omega) (by omega) (by omega) (by omega), hd]; exact h.dp, by rw [hd]; exact h.j0, ?_, by rw [hd]; exact h.m0, by rw [hd]; exact h.mm, by rw [hA]; exact h.jd, ?_, ?_⟩
  · intro i hi
    rw [hd] at hi
    rw [hk 7 (by omega) (by omega) (by omega) (by omega)]
    exact h.mq i hi
  · intro i hi
    rw [hd] at hi
    obtain ⟨v1, v2, v3, v4, v5⟩ := h.lv i hi
    rw [lv, hA, V]
    exact ⟨v1, v2, kK v3, v4, v5⟩
  · intro i j x y
    rw [hd] at y
    rw [lv, lv]
    exact h.ll i j x y
def abSt (a : ab) : ab := (a.A, a.dp, a.mq, a.num, a.tr + 1, 0, [])
theorem CR_start (h : CR k a J jm g n) : ∃ k1, gk_X7_startAct N k = some ((), k1) ∧ CR k1 (abSt a) J jm g n := by
  unfold gk_X7_startAct gk_X1_forgetTrace
  rw [pI_e, Option.bind_some, pI_e, Option.bind_some, pI_e, Option.bind_some, Option.bind_some]
  refine ⟨_, rfl, CR_set h ?_ rfl rfl rfl rfl ?_ ?_ rfl ⟨rfl, Nat.zero_le _, fun i hi => absurd hi (Nat.not_lt_zero i)⟩⟩
  · intro r _ r1 r2 r3
    exact (fne_I r3).trans ((fne_I r2).trans (fne_I r1))
  · exact h.num
  · show k.1 1 0 + 1 = nI (a.tr + 1)
    rw [h.tr, show nI a.tr + 1 = nI (a.tr + 1) from cz_add a.tr 1]
theorem CR_refuse {k0 : mt_S} {w : Int32} (h : CR k0 a J jm g n) (hw : cw k0 k (sp_run a.A) J [] cs g n) (hd8 : a.dp ≤ 8) (hm : ∀ x, x < a.dp → a.mq x ≤ a.A.length) (hm2 : ∀ x y, x ≤ y → y < a.dp → a.mq x ≤ a.mq y) (hN : 40000 ≤ N) : ∃ k2 J2, gk_X7_refuse N w k = some ((-w).toInt64, k2) ∧ CR k2 ((if a.dp = 0 then a.A else a.A.drop (a.A.length - a.mq 0), 0, a.mq, a.num, a.tr, w, cs) : ab) J2 jm g n := by
  have h1 : CR k ((a.A, a.dp, a.mq, a.num, a.tr, a.why, cs) : ab) ([] ++ J) jm g n := CR_walk (a' := ((a.A, a.dp, a.mq, a.num, a.tr, a.why, cs) : ab)) h hw rfl rfl rfl rfl rfl rfl (fun _ _ => rfl) hd8
  rw [List.nil_append] at h1
  have h2 : CR (gm_setI k 2 0 w) ((a.A, a.dp, a.mq, a.num, a.tr, w, cs) : ab) J jm g n := CR_set (a' := ((a.A, a.dp, a.mq, a.num, a.tr, w, cs) : ab)) h1 (fun r _ _ r2 _ => fne_I r2) rfl rfl rfl rfl h1.num h1.tr rfl h1.w.tr
  unfold gk_X7_refuse gk_X3_takeBackAll
  rw [pI_e, Option.bind_some]
  by_cases c : a.dp = 0
  · have e5 : (gm_setI k 2 0 w).1 5 0 = nI a.dp := h2.dp
    unfold gk_X3_takeBackTo
    rw [if_neg (by decide), e5, if_neg (by rw [c]; decide), Option.bind_some, Option.bind_some, if_pos c]
    refine ⟨_, J, rfl, ?_⟩
    have e : ((a.A, 0, a.mq, a.num, a.tr, w, cs) : ab) = ((a.A, a.dp, a.mq, a.num, a.tr, w, cs) : ab) := by rw [c]
    rw [e]
    exact h2
  · obtain ⟨k3, g3, h3⟩ := k_tb (N := N) (i := 0) h2 (by show 0 < a.dp; omega) hd8 hm hm2 hN
    rw [show (0 : Int32) = nI 0 from rfl, g3, Option.bind_some, Option.bind_some, if_neg c]
    exact ⟨k3, _, rfl, h3⟩
theorem neg_back {w : Int32} : (-((-w).toInt64)).toInt32 = w := by
  rw [Int64.toInt32_neg, Int32.toInt32_toInt64, Int32.neg_neg]
theorem okW_neg {w : Int32} (h : okW w) : (-w).toInt64 < 0 := by
  obtain ⟨h1, h2⟩ := h
  obtain ⟨x, y⟩ := cz_of (a := w) (fun z => absurd (Int32.lt_of_lt_of_le z (show (0 : Int32) ≤ 1 by decide)) (nle32.mpr h1))
  rw [x, show (1 : Int32) = nI 1 from rfl, cz_le (by omega) y] at h1
  rw [x, show (14 : Int32) = nI 14 from rfl, cz_le y (by omega)] at h2
  rw [x]
  obtain z | z | z | z | z | z | z | z | z | z | z | z | z | z : ix w = 1 ∨ ix w = 2 ∨ ix w = 3 ∨ ix w = 4 ∨ ix w = 5 ∨ ix w = 6 ∨ ix w = 7 ∨ ix w = 8 ∨ ix w = 9 ∨ ix w = 10 ∨ ix w = 11 ∨ ix w = 12 ∨ ix w = 13 ∨ ix w = 14 := by omega
  all_goals (rw [z]; decide)
theorem lvD_cons {b : pk} {i dp num tr : Nat} {why : Int32} {cs : List Int32} (h : a.mq i ≤ a.A.length) : lvD ((b :: a.A, dp, a.mq, num, tr, why, cs) : ab) i = lvD a i := by
  show sp_run ((b :: a.A).drop ((b :: a.A).length - a.mq i)) = sp_run (a.A.drop (a.A.length - a.mq i))
  rw [List.length_cons, show a.A.length + 1 - a.mq i = (a.A.length - a.mq i) + 1 from by omega, List.drop_succ_cons]
theorem CR_num {w : Nat} (h : CR k a J jm g n) (hw : w = a.num + 1) : CR (gm_setI k 0 0 (nI w)) ((a.A, a.dp, a.mq, w, a.tr, a.why, a.cs) : ab) J jm g n :=
  CR_set (a' := ((a.A, a.dp, a.mq, w, a.tr, a.why, a.cs) : ab)) h (fun r r0 _ _ _ => fne_I r0) rfl rfl rfl rfl rfl h.tr h.why h.w.tr
theorem CR_act {w o t i : Int32} {x y : Int64} {res : Option (Int64 × mt_S)} (h : CR k a J jm g n) (hf : wfT a T) (hT : T < 512) (hw : plainW w ∨ bidW w) (hn : n + 40 ≤ 30000) (hN : 40000 ≤ N)
    (hck : ∀ k0, gk_X7_startAct N k = some ((), k0) → cw k0 k0 (sp_run a.A) J [] [] g n → k0.1 0 0 = nI a.num → ck N k0 (if w = 9 ∨ w = 10 then gm_setI k0 0 0 (nI (a.num + 1)) else k0) (sp_run a.A) J [] g n res (sp_do (abPk w o t i x y a) (sp_run a.A))) :
    ∃ k' J' g' n', res = some ((abAct w o t i x y a).1, k') ∧ CR k' (abAct w o t i x y a).2 J' jm g' n' ∧ g' ≤ g + 8 ∧ n' ≤ n + 40 := by
  obtain ⟨k0, s0, h0⟩ := CR_start (N := N) h
  have nA := hf.nA
  have nt := hf.nt
  have nn := hf.nn
  have P := pi_run hf.ok (by omega)
  have F := rf_do (a := abPk w o t i x y a) (n := a.num + 1) P (by omega) (fun z => if_pos z) (by omega) hw
  have keepD : 19 < w → (sp_do (abPk w o t i x y a) (sp_run a.A)).2.1 = sp_run a.A := by
    intro hw9
    refine do_keep ?_
    show w = 20 ∨ w = 21 ∨ w = 22
    rcases hw with hw | hw
    · unfold plainW at hw
      rcases hw with h | h | h | h | h | h | h | h | h | h | h | h | h | h | h | h | h | h | h | h
      all_goals first | (exact Or.inl h) | (exact Or.inr (Or.inl h)) | (exact Or.inr (Or.inr h)) | (rw [h] at hw9; exact absurd hw9 (by decide))
    · rcases hw with h | h <;> (rw [h] at hw9; exact absurd hw9 (by decide))
  have C := hck k0 s0 h0.w h0.num
  have spr : sp_run (abPk w o t i x y a :: a.A) = (sp_do (abPk w o t i x y a) (sp_run a.A)).2.1 := rfl
  unfold abAct
  dsimp only
  generalize hb : abPk w o t i x y a = b at C F keepD spr ⊢
  generalize sp_do b (sp_run a.A) = r at C F spr keepD ⊢
  rcases C with ⟨k1, E1, c1, c2, c3, c4, c6⟩ | ⟨k1, v, c1, c2, c3, c4, c5⟩
  · by_cases neg : r.1 < 0
    · exact absurd neg (nle64.mpr c6)
    · rw [if_neg neg]
      rw [addC_f] at c2
      have base : CR (if w = 9 ∨ w = 10 then gm_setI k0 0 0 (nI (a.num + 1)) else k0) ((a.A, a.dp, a.mq, (if w = 9 ∨ w = 10 then a.num + 1 else a.num), a.tr + 1, 0, []) : ab) J jm g n := by
        by_cases z : w = 9 ∨ w = 10
        · rw [if_pos z, if_pos z]
          exact CR_num h0 rfl
        · rw [if_neg z, if_neg z]
          exact h0
      have DE : sp_run (if 19 < w then a.A else b :: a.A) = r.2.1 := by
        by_cases z : 19 < w
        · rw [if_pos z]; exact (keepD z).symm
        · rw [if_neg z]; exact spr
      refine ⟨k1, E1 ++ J, g + 8, n + 40, c1, CR_walk base (a' := ((if 19 < w then a.A else b :: a.A, a.dp, a.mq, (if w = 9 ∨ w = 10 then a.num + 1 else a.num), a.tr + 1, 0, r.2.2.take 200) : ab)) ?_ rfl rfl rfl rfl ?_ ?_ ?_ hf.d8, Nat.le_refl _, Nat.le_refl _⟩
      · show cw _ k1 (sp_run (if 19 < w then a.A else b :: a.A)) J E1 (r.2.2.take 200) _ _
        rw [DE]; exact c2
      · show (sp_run (if 19 < w then a.A else b :: a.A)).nl = _
        rw [DE]; exact c4
      · show (sp_run (if 19 < w then a.A else b :: a.A)).nb = _
        rw [DE]; exact c3
      · intro j hj
        have := hf.m1 j hj
        by_cases z : 19 < w
        · rw [if_pos z]; rfl
        · rw [if_neg z]
          exact lvD_cons (a := a) this
  · have neg : r.1 < 0 := by rw [c3]; exact okW_neg c5
    rw [if_pos neg]
    rw [addC_f] at c2
    obtain ⟨k2, J2, r1, r2⟩ := CR_refuse (N := N) (w := v) h0 c2 hf.d8 hf.m1 hf.m2 hN
    refine ⟨k2, J2, g, n, by rw [c1, r1, c3], ?_, by omega, by omega⟩
    unfold abRef
    rw [c3, neg_back]
    exact r2
theorem CR_batch (h : CR k a J jm g n) (hf : wfT a T) (hT : T < 512) (hN : 40000 ≤ N) : ∃ k' J' jm', gk_X7_batch N k = some ((abBatch a).1, k') ∧ CR k' (abBatch a).2 J' jm' g n := by
  obtain ⟨k0, s0, h0⟩ := CR_start (N := N) h
  have d8 := hf.d8
  unfold gk_X7_batch gk_X3_depth abBatch
  rw [s0, Option.bind_some, Option.bind_some]
  dsimp only
  have e5 : k0.1 5 0 = nI a.dp := h0.dp
  rw [e5]
  by_cases c : a.dp = 8
  · rw [if_neg (by rw [c]; decide), if_pos c, bind_eta]
    obtain ⟨k2, J2, r1, r2⟩ := CR_refuse (N := N) (w := 12) h0 h0.w d8 hf.m1 hf.m2 hN
    exact ⟨k2, J2, jm, by rw [r1]; rfl, r2⟩
  · rw [if_pos (show nI a.dp < 8 from (cz_lt (b := 8) (by omega) (by omega)).mpr (by omega)), if_neg c]
    unfold gk_X3_openBatch
    have ln : k0.1 4 0 = nI J.length := by have := h0.w.j.ln; rw [List.nil_append] at this; exact this
    rw [e5, if_pos (show nI a.dp < Int32.ofNat 8 from (cz_lt (b := 8) (by omega) (by omega)).mpr (by omega)), ln, gk_wrI (by omega) (by omega), Option.bind_some, pI_e, Option.bind_some, show (gm_setI k0 7 a.dp (nI J.length)).1 5 0 = nI a.dp from e5, show nI a.dp + 1 = nI (a.dp + 1) from cz_add a.dp 1, Option.bind_some, Option.bind_some]
    dsimp only
    rw [show (gm_setI (gm_setI k0 7 a.dp (nI J.length)) 5 0 (nI (a.dp + 1))).1 5 0 = nI (a.dp + 1) from rfl, cl_64 (by omega)]
    refine ⟨_, J, fun i => if i = a.dp then J.length else jm i, rfl, ?_⟩
    generalize hk1 : gm_setI (gm_setI k0 7 a.dp (nI J.length)) 5 0 (nI (a.dp + 1)) = k1
    have y1 : ∀ r, r ≠ 5 → r ≠ 7 → k1.1 r = k0.1 r := by intro r a b; rw [← hk1, fne_I a, fne_I b]
    have y2 : k1.2 = k0.2 := by rw [← hk1]; rfl
    have y5 : k1.1 5 0 = nI (a.dp + 1) := by rw [← hk1]; rfl
    have y7 : ∀ i, k1.1 7 i = if i = a.dp then nI J.length else k0.1 7 i := by
      intro i
      rw [← hk1, fne_I (by decide)]
      show (if 7 = 7 ∧ i = a.dp then nI J.length else k0.1 7 i) = _
      by_cases z : i = a.dp
      · rw [if_pos ⟨rfl, z⟩, if_pos z]
      · rw [if_neg (fun q => z q.2), if_neg z]
    have V : Vk k1 = Vk k0 := by unfold Vk; rw [y2]
    have cl : ∀ c, kt_cl k1 c = kt_cl k0 c := by intro c; unfold kt_cl; rw [y2]
    have kK : ∀ {D : pd}, cvK k0 D → cvK k1 D := by
      intro D hD
      exact ⟨by rw [y1 8 (by omega) (by omega), y2]; exact hD.l, by rw [y1 9 (by omega) (by omega), y2]; exact hD.b⟩
    have w := h0.w
    have lvE : ∀ i, i < a.dp + 1 → lvD ((a.A, a.dp + 1, (fun i => if i = a.dp then a.A.length else a.mq i), a.num, a.tr + 1, 0, []) : ab) i = if i = a.dp then sp_run a.A else lvD a i := by
      intro i hi
      show sp_run (a.A.drop (a.A.length - (if i = a.dp then a.A.length else a.mq i))) = _
      by_cases z : i = a.dp
      · rw [if_pos z, if_pos z, Nat.sub_self, List.drop_zero]
      · rw [if_neg z, if_neg z]; rfl
    refine ⟨⟨fun _ _ => rfl, ⟨rfl, rfl⟩, ⟨rfl, rfl⟩, by rw [y2]; exact w.dim, kK w.kd, by rw [V]; exact w.cv, ?_, by rw [y2]; exact w.lf, ⟨by rw [y1 4 (by omega) (by omega)]; exact w.j.ln, by rw [y2]; exact w.j.cap, ?_, ?_⟩, ⟨a.dp + 1, by omega, y5, fun _ => rfl⟩, fun _ => rfl, w.ed, by rw [y1 3 (by omega) (by omega), y1 6 (by omega) (by omega)]; exact w.tr, by rw [y2]; exact w.bu⟩, by rw [y1 0 (by omega) (by omega)]; exact h0.num, by rw [y1 1 (by omega) (by omega)]; exact h0.tr, by rw [y1 2 (by omega) (by omega)]; exact h0.why, y5, fun z => absurd z (Nat.succ_ne_zero a.dp), ?_, ?_, ?_, h0.jd, ?_, ?_⟩
    · intro c hc
      rw [cl] at hc
      rw [y2]; exact w.le c hc
    · intro e J' hs
      rw [y1 10 (by omega) (by omega), y2]
      exact w.j.en e J' hs
    · intro e he
      rw [cl, y2]
      exact w.j.ok e he
    · intro i (hi : i < a.dp + 1)
      rw [y7]
      dsimp only
      by_cases z : i = a.dp
      · rw [if_pos z, if_pos z]; exact ⟨rfl, Nat.le_refl _⟩
      · rw [if_neg z, if_neg z]
        exact h0.mq i (by show i < a.dp; omega)
    · intro _
      dsimp only
      by_cases z : 0 = a.dp
      · rw [if_pos z, h0.j0 z.symm]; rfl
      · rw [if_neg z]
        exact h0.m0 (by show 0 < a.dp; omega)
    · intro i j x (hj : j < a.dp + 1)
      dsimp only
      by_cases z : j = a.dp
      · rw [if_pos z]
        by_cases z2 : i = a.dp
        · rw [if_pos z2]; exact Nat.le_refl _
        · rw [if_neg z2]
          exact (h0.mq i (by show i < a.dp; omega)).2
      · rw [if_neg z, if_neg (show ¬ i = a.dp by omega)]
        exact h0.mm i j x (by show j < a.dp; omega)
    · intro i (hi : i < a.dp + 1)
      rw [lvE i hi, V]
      dsimp only
      by_cases z : i = a.dp
      · rw [if_pos z, if_pos z, Nat.sub_self, List.take_zero, List.drop_zero]
        exact ⟨Nat.le_refl _, Nat.le_refl _, kK w.kd, w.cv, h0.jd⟩
      · rw [if_neg z, if_neg z]
        obtain ⟨v1, v2, v3, v4, v5⟩ := h0.lv i (by show i < a.dp; omega)
        exact ⟨v1, v2, kK v3, v4, v5⟩
    · intro i j x (hj : j < a.dp + 1)
      rw [lvE i (by omega), lvE j hj]
      by_cases z : j = a.dp
      · rw [if_pos z]
        by_cases z2 : i = a.dp
        · rw [if_pos z2]; exact ⟨Nat.le_refl _, Nat.le_refl _⟩
        · rw [if_neg z2]
          obtain ⟨v1, v2, _⟩ := h0.lv i (by show i < a.dp; omega)
          exact ⟨v1, v2⟩
      · rw [if_neg z, if_neg (show ¬ i = a.dp by omega)]
        exact h0.ll i j x (by show j < a.dp; omega)
theorem CR_undo (h : CR k a J jm g n) (hf : wfT a T) (hT : T < 512) (hN : 40000 ≤ N) : ∃ k' J', gk_X7_undo N k = some ((abUndo a).1, k') ∧ CR k' (abUndo a).2 J' jm g n := by
  obtain ⟨k0, s0, h0⟩ := CR_start (N := N) h
  have d8 := hf.d8
  unfold gk_X7_undo gk_X3_depth abUndo
  rw [s0, Option.bind_some, Option.bind_some]
  dsimp only
  have e5 : k0.1 5 0 = nI a.dp := h0.dp
  rw [e5]
  by_cases c : a.dp = 0
  · rw [if_pos (by rw [c]; rfl), if_pos c, bind_eta]
    obtain ⟨k2, J2, r1, r2⟩ := CR_refuse (N := N) (w := 14) h0 h0.w d8 hf.m1 hf.m2 hN
    exact ⟨k2, J2, by rw [r1]; rfl, r2⟩
  · rw [if_neg (by rw [show (0 : Int32) = nI 0 from rfl, cz_eq (by omega) (by omega)]; exact c), if_neg c]
    unfold gk_X3_takeBackBatch
    rw [e5, show nI a.dp - 1 = nI (a.dp - 1) from cz_sub (b := 1) (by omega) (by omega)]
    obtain ⟨k3, g3, h3⟩ := k_tb (N := N) (i := a.dp - 1) h0 (by show a.dp - 1 < a.dp; omega) d8 hf.m1 hf.m2 hN
    rw [g3, Option.bind_some, Option.bind_some, Option.bind_some]
    dsimp only
    rw [show k3.1 5 0 = nI (a.dp - 1) from h3.dp, cl_64 (by omega)]
    exact ⟨k3, _, rfl, h3⟩
theorem CR_end (h : CR k a J jm g n) (hf : wfT a T) (hT : T < 512) (hN : 40000 ≤ N) : ∃ k' J', gk_X7_end N k = some ((abEnd a).1, k') ∧ CR k' (abEnd a).2 J' jm g n := by
  obtain ⟨k0, s0, h0⟩ := CR_start (N := N) h
  have d8 := hf.d8
  unfold gk_X7_end gk_X3_depth abEnd
  rw [s0, Option.bind_some, Option.bind_some]
  dsimp only
  have e5 : k0.1 5 0 = nI a.dp := h0.dp
  rw [e5]
  by_cases c : a.dp = 0
  · rw [if_pos (by rw [c]; rfl), if_pos c, bind_eta]
    obtain ⟨k2, J2, r1, r2⟩ := CR_refuse (N := N) (w := 14) h0 h0.w d8 hf.m1 hf.m2 hN
    exact ⟨k2, J2, by rw [r1]; rfl, r2⟩
  · rw [if_neg (by rw [show (0 : Int32) = nI 0 from rfl, cz_eq (by omega) (by omega)]; exact c), if_neg c]
    unfold gk_X3_keepBatch gkb_X3_keepBatch_17
    rw [e5, if_neg (by rw [show (0 : Int32) = nI 0 from rfl, cz_le (by omega) (by omega)]; omega), pI_e, Option.bind_some, show nI a.dp - 1 = nI (a.dp - 1) from cz_sub (b := 1) (by omega) (by omega), show (gm_setI k0 5 0 (nI (a.dp - 1))).1 5 0 = nI (a.dp - 1) from rfl, pI_e, Option.bind_some]
    have w := h0.w
    -- with a batch around it
    have one : ∀ (k1 : mt_S) (J1 : List je), (∀ r, r ≠ 4 → r ≠ 5 → k1.1 r = k0.1 r) → k1.2 = k0.2 → k1.1 5 0 = nI (a.dp - 1) → k1.1 4 0 = nI J1.length → ((J1 = J) ∨ (a.dp - 1 = 0 ∧ J1 = [])) → (a.dp - 1 = 0 → J1 = []) → CR k1 ((a.A, a.dp - 1, a.mq, a.num, a.tr + 1, 0, []) : ab) J1 jm g n := by
      intro k1 J1 y1 y2 y5 y4 hJ hJ0
      have V : Vk k1 = Vk k0 := by unfold Vk; rw [y2]
      have cl : ∀ c, kt_cl k1 c = kt_cl k0 c := by intro c; unfold kt_cl; rw [y2]
      have kK : ∀ {D : pd}, cvK k0 D → cvK k1 D := by
        intro D hD
        exact ⟨by rw [y1 8 (by omega) (by omega), y2]; exact hD.l, by rw [y1 9 (by omega) (by omega), y2]; exact hD.b⟩
      have suf : J1 <:+ J := by
        rcases hJ with z | z
        · rw [z]; exact List.suffix_refl _
        · rw [z.2]; exact List.nil_suffix
      have lenJ := suf.length_le
      obtain ⟨c1, c2, c3, c4, c5, c6⟩ := w.j.cap
      rw [List.nil_append] at c4 c5
      obtain ⟨b1, b2, b3, b4, b5⟩ := w.bu
      rw [List.nil_append] at b1
      refine ⟨⟨fun _ _ => rfl, ⟨rfl, rfl⟩, ⟨rfl, rfl⟩, by rw [y2]; exact w.dim, kK w.kd, by rw [V]; exact w.cv, ?_, by rw [y2]; exact w.lf, ⟨by rw [List.nil_append]; exact y4, by rw [y2, List.nil_append]; exact ⟨c1, c2, c3, by omega, by omega, c6⟩, ?_, ?_⟩, ⟨a.dp - 1, by omega, y5, fun _ => rfl⟩, fun _ => rfl, w.ed, by rw [y1 3 (by omega) (by omega), y1 6 (by omega) (by omega)]; exact w.tr, by rw [y2, List.nil_append]; exact ⟨by omega, b2, b3, b4, b5⟩⟩, by rw [y1 0 (by omega) (by omega)]; exact h0.num, by rw [y1 1 (by omega) (by omega)]; exact h0.tr, by rw [y1 2 (by omega) (by omega)]; exact h0.why, y5, hJ0, ?_, ?_, ?_, fun e he => h0.jd e (suf.subset he), ?_, ?_⟩
      · intro c hc
        rw [cl] at hc
        rw [y2]; exact w.le c hc
      · intro e J' hs
        rw [List.nil_append] at hs
        rw [y1 10 (by omega) (by omega), y2]
        exact w.j.en e J' (by rw [List.nil_append]; exact hs.trans suf)
      · intro e he
        rw [List.nil_append] at he
        rw [cl, y2]
        exact w.j.ok e (by rw [List.nil_append]; exact suf.subset he)
      · intro i (hi : i < a.dp - 1)
        have JJ : J1 = J := by rcases hJ with z | z; exact z; omega
        rw [y1 7 (by omega) (by omega), JJ]
        exact h0.mq i (by show i < a.dp; omega)
      · intro (z : 0 < a.dp - 1)
        exact h0.m0 (by show 0 < a.dp; omega)
      · intro i j x (hj : j < a.dp - 1)
        exact h0.mm i j x (by show j < a.dp; omega)
      · intro i (hi : i < a.dp - 1)
        have JJ : J1 = J := by rcases hJ with z | z; exact z; omega
        obtain ⟨v1, v2, v3, v4, v5⟩ := h0.lv i (by show i < a.dp; omega)
        rw [V, JJ]
        exact ⟨v1, v2, kK v3, v4, v5⟩
      · intro i j x (hj : j < a.dp - 1)
        exact h0.ll i j x (by show j < a.dp; omega)
    have ln : k0.1 4 0 = nI J.length := by have := w.j.ln; rw [List.nil_append] at this; exact this
    by_cases z : a.dp - 1 = 0
    · rw [if_pos (by rw [z]; rfl), Option.bind_some, Option.bind_some]
      dsimp only
      rw [show (gm_setI (gm_setI k0 5 0 (nI (a.dp - 1))) 4 0 0).1 5 0 = nI (a.dp - 1) from rfl, cl_64 (by omega)]
      exact ⟨_, [], rfl, one _ [] (fun r r4 r5 => (fne_I r4).trans (fne_I r5)) rfl rfl rfl (Or.inr ⟨z, rfl⟩) (fun _ => rfl)⟩
    · rw [if_neg (by rw [show (0 : Int32) = nI 0 from rfl, cz_eq (by omega) (by omega)]; exact z), Option.bind_some, Option.bind_some]
      dsimp only
      rw [show (gm_setI k0 5 0 (nI (a.dp - 1))).1 5 0 = nI (a.dp - 1) from rfl, cl_64 (by omega)]
      exact ⟨_, J, rfl, one _ J (fun r r4 r5 => fne_I r5) rfl rfl ln (Or.inl rfl) (fun q => absurd q z)⟩
end KR
