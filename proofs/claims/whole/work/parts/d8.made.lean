/-! the class after something is made -/
section MD
variable {N : Nat} {k k1 : mt_S} {J : List je} {jm : Nat → Nat} {g n T : Nat} {a a' : ab}
theorem rvt_c : ∀ {R : List je} {W W' : Nat → Nat → Int64} {c : Nat}, (∀ p, W c p = W' c p) → ∀ p, rvt R W c p = rvt R W' c p := by
  intro R
  induction R with
  | nil => intro W W' c h p; exact h p
  | cons e R ih =>
    intro W W' c h p
    refine ih (fun q => ?_) p
    show uW W e.1 e.2.1 e.2.2 c q = uW W' e.1 e.2.1 e.2.2 c q
    unfold uW
    by_cases z : c = e.1 ∧ q = e.2.1
    · rw [if_pos z, if_pos z]
    · rw [if_neg z, if_neg z, h q]
theorem dm_mono {D D' : pd} (h1 : D.nl ≤ D'.nl) (h2 : D.nb ≤ D'.nb) {c : Nat} (h : dm D c) : dm D' c := by
  unfold dm at h ⊢
  omega
theorem CR_reb (h : CR k a J jm g n) (f1 : ∀ r, r ≠ 8 → r ≠ 9 → k1.1 r = k.1 r) (fl : ∀ l, l < (sp_run a.A).nl → k1.1 8 l = k.1 8 l ∧ k1.2.1 20 l = k.2.1 20 l) (fb : ∀ b, b < (sp_run a.A).nb → k1.1 9 b = k.1 9 b ∧ k1.2.1 21 b = k.2.1 21 b) (f22 : k1.2.1 22 = k.2.1 22) (fc : ∀ c, dm (sp_run a.A) c → k1.2.1 (100 + c) = k.2.1 (100 + c) ∧ k1.2.2 (100 + c) = k.2.2 (100 + c)) (n0 : k1.2.2 0 = k.2.2 0) (n6 : k1.2.2 6 = k.2.2 6) (n7 : k1.2.2 7 = k.2.2 7) (n5 : k1.2.2 5 = J.length) (nw : ∀ i, k1.2.2 (5000 + i) = k.2.2 (5000 + i)) (d3 : k1.2.2 3 ≤ 200) (d2 : k1.2.2 2 ≤ 400) (e3 : k.2.2 3 ≤ k1.2.2 3) (e2 : k.2.2 2 ≤ k1.2.2 2) (le : ∀ c, kt_cl k1 c = true → 1 ≤ k1.2.2 (100 + c) ∧ k1.2.2 (100 + c) ≤ 1300) (lf : ∀ l, l < k1.2.2 2 → 14 ≤ k1.2.2 (100 + (203 + 4 * l))) (b1 : k1.2.2 1 ≤ k.2.2 1 + 1300) (b4 : k1.2.2 4 ≤ k.2.2 4 + 16) : CR k1 a J jm (g + 1) n := by
  have w := h.w
  obtain ⟨c1, c2, c3, c4, c5, c6⟩ := w.j.cap
  rw [List.nil_append] at c4 c5
  obtain ⟨u1, u2, u3, u4, u5⟩ := w.bu
  rw [List.nil_append] at u1
  obtain ⟨d, dd1, dd2, dd3⟩ := w.dp
  obtain ⟨z1, z2, z3, z4⟩ := w.dim
  have cl : ∀ c, dm (sp_run a.A) c → kt_cl k1 c = true := by
    intro c hc
    have := (w.cl hc).1
    unfold kt_cl at this ⊢
    simp only [Bool.or_eq_true, Bool.and_eq_true, decide_eq_true_eq] at this ⊢
    omega
  have V : ∀ c, dm (sp_run a.A) c → ∀ p, Vk k1 c p = Vk k c p := by
    intro c hc p
    obtain ⟨x, y⟩ := fc c hc
    unfold Vk
    rw [x, y]
  have kK : ∀ {D : pd}, D.nl ≤ (sp_run a.A).nl → D.nb ≤ (sp_run a.A).nb → cvK k D → cvK k1 D := by
    intro D x y hD
    refine ⟨fun l hl => ?_, fun b hb => ?_⟩
    · rw [(fl l (by omega)).1, (fl l (by omega)).2]; exact hD.l l hl
    · rw [(fb b (by omega)).1, (fb b (by omega)).2]; exact hD.b b hb
  have l0 : 11 ≤ k1.2.2 100 := by
    have t := (fc 0 (Or.inl (by decide))).2
    show 11 ≤ k1.2.2 (100 + 0)
    rw [t]; exact w.lf.1
  have jj : jr k1 J := by
    refine ⟨?_, by rw [n0, n6, n7, n5]; exact ⟨c1, c2, c3, c4, Nat.le_refl _, c4⟩, ?_, ?_⟩
    · rw [f1 4 (by omega) (by omega)]; exact w.j.ln
    · intro e J' hs
      rw [nw, f1 10 (by omega) (by omega), f22]
      exact w.j.en e J' hs
    · intro e he
      have hd := h.jd e he
      rw [(fc e.1 hd).2]
      exact ⟨cl e.1 hd, (w.j.ok e he).2⟩
  refine ⟨⟨fun _ _ => rfl, ⟨rfl, rfl⟩, ⟨rfl, rfl⟩, ⟨d3, d2, by omega, by omega⟩, kK (Nat.le_refl _) (Nat.le_refl _) w.kd, fun c hc p => by rw [V c hc]; exact w.cv c hc p, le, ⟨l0, lf⟩, jj, ⟨d, dd1, by rw [f1 5 (by omega) (by omega)]; exact dd2, fun _ => rfl⟩, fun _ => rfl, w.ed, by rw [f1 3 (by omega) (by omega), f1 6 (by omega) (by omega)]; exact w.tr, by rw [List.nil_append, n0]; exact ⟨u1, u2, u3, by omega, by omega⟩⟩, by rw [f1 0 (by omega) (by omega)]; exact h.num, by rw [f1 1 (by omega) (by omega)]; exact h.tr, by rw [f1 2 (by omega) (by omega)]; exact h.why, by rw [f1 5 (by omega) (by omega)]; exact h.dp, h.j0, by rw [f1 7 (by omega) (by omega)]; exact h.mq, h.m0, h.mm, h.jd, ?_, h.ll⟩
  intro i hi
  obtain ⟨v1, v2, v3, v4, v5⟩ := h.lv i hi
  exact ⟨v1, v2, kK v1 v2 v3, fun c hc p => by rw [rvt_c (V c (dm_mono v1 v2 hc))]; exact v4 c hc p, v5⟩
theorem CR_made {p : Nat} {v : Int64} (h : CR k a J jm g n) (hn : n + 40 ≤ 30000) (hp : p < 2) (hd : a'.dp = a.dp) (h1 : a'.num = a.num) (h2 : a'.tr = a.tr) (h3 : a'.why = a.why) (h4 : a'.cs = a.cs) (hv : ∀ i, i < a.dp → lvD a' i = lvD a i) (nl1 : (sp_run a.A).nl ≤ (sp_run a'.A).nl) (nl2 : (sp_run a'.A).nl ≤ k.2.2 2) (nb1 : (sp_run a.A).nb ≤ (sp_run a'.A).nb) (nb2 : (sp_run a'.A).nb ≤ k.2.2 3) (hk : cvK k (sp_run a'.A)) (hcv : ∀ c, dm (sp_run a'.A) c → ∀ q, (if c = 0 ∧ q = p then v else Vk k c q) = rdD (sp_run a'.A) c q) (hd8 : a.dp ≤ 8) : ∃ k2 J2, gk_X2_put N 0 (nI p) v k = some ((), k2) ∧ CR k2 a' J2 jm g (n + 1) := by
  have w := h.w
  have hc0 : dm (sp_run a.A) 0 := Or.inl (by decide)
  have l0 : 11 ≤ k.2.2 (100 + 0) := w.lf.1
  have c0 := w.cl hc0
  have lle := (w.le 0 c0.1).2
  obtain ⟨z1, z2, z3, z4⟩ := w.dim
  obtain ⟨c1, c2, c3, c4, c5, c6⟩ := w.j.cap
  rw [List.nil_append] at c4 c5
  obtain ⟨u1, u2, u3, u4, u5⟩ := w.bu
  rw [List.nil_append] at u1
  have jk : jr k J := w.j
  have fin : ∀ (k1 : mt_S) (J2 : List je), sj k k1 → jr k1 J2 → ((a.dp = 0 ∧ J2 = []) ∨ (a.dp ≠ 0 ∧ J2 = (0, p, k.2.1 (100 + 0) p) :: J)) → (J2.length ≤ n + 1 ∧ k1.2.2 0 ≤ 64 + 2 * (n + 1) ∧ k1.2.2 1 ≤ 1300 * g + 6 * k1.2.2 0 ∧ k1.2.2 4 ≤ 16 * g + k1.2.2 0) → CR (gm_setL k1 (100 + 0) p v) a' J2 jm g (n + 1) := by
    intro k1 J2 hs hj hJ hb
    have L : ∀ q, q ≠ 0 → q ≠ 1 → q ≠ 4 → q ≠ 5 → q ≠ 6 → q ≠ 7 → q < 5000 → (gm_setL k1 (100 + 0) p v).2.2 q = k.2.2 q := hs.c
    have L2 := L 2 (by omega) (by omega) (by omega) (by omega) (by omega) (by omega) (by omega)
    have L3 := L 3 (by omega) (by omega) (by omega) (by omega) (by omega) (by omega) (by omega)
    have clE : ∀ x, kt_cl (gm_setL k1 (100 + 0) p v) x = kt_cl k x := cl_same L2 L3
    have LC : ∀ x, x < 3000 → (gm_setL k1 (100 + 0) p v).2.2 (100 + x) = k.2.2 (100 + x) := fun x hx => L (100 + x) (by omega) (by omega) (by omega) (by omega) (by omega) (by omega) (by omega)
    have v1 : Vk (gm_setL k1 (100 + 0) p v) = uW (Vk k) 0 p v := by
      rw [V_set (by omega) (by rw [hs.c (100 + 0) (by omega) (by omega) (by omega) (by omega) (by omega) (by omega) (by omega)]; omega), sj_V hs]
    have y1 : ∀ r, r ≠ 4 → r ≠ 10 → (gm_setL k1 (100 + 0) p v).1 r = k.1 r := hs.a
    have y20 : (gm_setL k1 (100 + 0) p v).2.1 20 = k.2.1 20 := (fne_L (by omega)).trans (hs.b 20 (by omega))
    have y21 : (gm_setL k1 (100 + 0) p v).2.1 21 = k.2.1 21 := (fne_L (by omega)).trans (hs.b 21 (by omega))
    have kK : ∀ {D : pd}, cvK k D → cvK (gm_setL k1 (100 + 0) p v) D := by
      intro D hD
      exact ⟨by rw [y1 8 (by omega) (by omega), y20]; exact hD.l, by rw [y1 9 (by omega) (by omega), y21]; exact hD.b⟩
    have vp : k.2.1 (100 + 0) p = Vk k 0 p := by
      unfold Vk
      rw [if_pos ⟨by omega, by omega⟩]
    have e5 : (gm_setL k1 (100 + 0) p v).1 5 0 = nI a.dp := by rw [y1 5 (by omega) (by omega)]; exact h.dp
    have jj : jr (gm_setL k1 (100 + 0) p v) J2 := by
      refine ⟨hj.ln, hj.cap, ?_, hj.ok⟩
      intro e J' hs'
      obtain ⟨q1, q2, q3⟩ := hj.en e J' hs'
      exact ⟨q1, q2, by rw [show (gm_setL k1 (100 + 0) p v).2.1 22 = k1.2.1 22 from fne_L (by omega)]; exact q3⟩
    refine ⟨⟨fun _ _ => rfl, ⟨rfl, rfl⟩, ⟨rfl, rfl⟩, by rw [L2, L3]; exact ⟨z1, z2, nb2, nl2⟩, kK hk, ?_, ?_, ?_, jj, ⟨a.dp, hd8, e5, fun _ => rfl⟩, fun _ => rfl, fun e he => absurd he (List.not_mem_nil), ?_, ⟨hb.1, hb.2.1, by omega, hb.2.2.1, hb.2.2.2⟩⟩, ?_, ?_, ?_, ?_, ?_, ?_, ?_, ?_, ?_, ?_, ?_⟩
    · intro c hc q
      rw [v1]
      exact hcv c hc q
    · intro c hc
      rw [clE] at hc
      rw [LC c (cel_lt hc z1 z2)]
      exact w.le c hc
    · refine ⟨by rw [L 100 (by omega) (by omega) (by omega) (by omega) (by omega) (by omega) (by omega)]; exact w.lf.1, fun l hl => ?_⟩
      rw [L2] at hl
      rw [LC _ (by omega)]
      exact w.lf.2 l hl
    · rw [y1 3 (by omega) (by omega), y1 6 (by omega) (by omega), h4]; exact w.tr
    · rw [y1 0 (by omega) (by omega), h1]; exact h.num
    · rw [y1 1 (by omega) (by omega), h2]; exact h.tr
    · rw [y1 2 (by omega) (by omega), h3]; exact h.why
    · rw [hd]; exact e5
    · intro z
      rw [hd] at z
      rcases hJ with y | y
      · exact y.2
      · exact absurd z y.1
    · intro i hi
      rw [hd] at hi
      obtain ⟨q1, q2⟩ := h.mq i hi
      rw [y1 7 (by omega) (by omega)]
      refine ⟨q1, ?_⟩
      rcases hJ with y | y
      · omega
      · rw [y.2, List.length_cons]; omega
    · intro z; rw [hd] at z; exact h.m0 z
    · intro i j x y; rw [hd] at y; exact h.mm i j x y
    · intro e he
      rcases hJ with y | y
      · rw [y.2] at he; exact absurd he (List.not_mem_nil)
      · rw [y.2] at he
        rcases List.mem_cons.mp he with q | q
        · rw [q]; exact Or.inl (show (0 : Nat) < 3 by decide)
        · exact dm_mono nl1 nb1 (h.jd e q)
    · intro i hi
      rw [hd] at hi
      obtain ⟨v1', v2, v3, v4, v5⟩ := h.lv i hi
      have q2 := (h.mq i hi).2
      rcases hJ with y | y
      · omega
      · rw [hv i hi, y.2, List.length_cons, show J.length + 1 - jm i = (J.length - jm i) + 1 from by omega, List.take_succ_cons, List.drop_succ_cons]
        refine ⟨by omega, by omega, kK v3, ?_, v5⟩
        show cvW (rvt (J.take (J.length - jm i)) (uW (Vk (gm_setL k1 (100 + 0) p v)) 0 p (k.2.1 (100 + 0) p))) (lvD a i)
        rw [v1, vp, uW_back]
        exact v4
    · intro i j x y
      rw [hd] at y
      rw [hv i (by omega), hv j y]
      exact h.ll i j x y
  unfold gk_X2_put
  rw [if_neg (cz_nn (by omega)), if_pos (show nI p < 4096 from (cz_lt (b := 4096) (by omega) (by omega)).mpr (by omega)), w.cel hc0, Option.bind_some, if_pos (show nI p < Int32.ofNat (k.2.2 (100 + 0)) from (cz_lt (by omega) (by omega)).mpr (by omega))]
  unfold gkb_X2_put_45
  rw [w.cel hc0, Option.bind_some, Option.bind_some, gk_rdL (by omega) (by omega), Option.bind_some]
  by_cases z : a.dp = 0
  · have e5 : k.1 5 0 = 0 := by rw [h.dp, z]; rfl
    have J0 := h.j0 z
    unfold gk_X3_note
    rw [if_pos e5, Option.bind_some]
    dsimp only
    rw [w.cel hc0, Option.bind_some, gk_wrL (by omega) (by omega), Option.bind_some]
    exact ⟨_, [], rfl, fin k [] sj_refl (by rw [← J0]; exact jk) (Or.inl ⟨z, rfl⟩) ⟨Nat.zero_le _, by omega, u4, u5⟩⟩
  · have e5 : k.1 5 0 ≠ 0 := by
      rw [h.dp, show (0 : Int32) = nI 0 from rfl]
      intro y
      exact z ((cz_eq (by omega) (by omega)).mp y)
    obtain ⟨k1, g1, s1, j1, q1⟩ := k_note (N := N) (c := 0) (p := p) (v := k.2.1 (100 + 0) p) jk (by omega) (by omega) ⟨z1, z2⟩ c0 (by omega) e5
    rw [g1, Option.bind_some]
    dsimp only
    have lc := s1.c (100 + 0) (by omega) (by omega) (by omega) (by omega) (by omega) (by omega) (by omega)
    have s2 := s1.c 2 (by omega) (by omega) (by omega) (by omega) (by omega) (by omega) (by omega)
    have s3 := s1.c 3 (by omega) (by omega) (by omega) (by omega) (by omega) (by omega) (by omega)
    rw [show gk_cel k1 0 = some () from if_pos ⟨by rw [cl_same s2 s3]; exact c0.1, c0.2⟩, Option.bind_some, gk_wrL (by rw [lc]; omega) (by omega), Option.bind_some]
    refine ⟨_, _, rfl, fin k1 _ s1 j1 (Or.inr ⟨z, rfl⟩) ?_⟩
    rw [List.length_cons]
    rcases q1 with ⟨q2, q3, q4⟩ | ⟨q2, q3, q4, q5⟩
    · rw [q2, q3, q4]; exact ⟨by omega, by omega, u4, u5⟩
    · rw [q3, q4, q5]; exact ⟨by omega, by omega, by omega, by omega⟩
theorem suf_at : ∀ {L : List je} {i : Nat}, i < L.length → ∃ e J', (e :: J') <:+ L ∧ J'.length = i := by
  intro L
  induction L with
  | nil => intro i h; exact absurd h (Nat.not_lt_zero i)
  | cons e L ih =>
    intro i h
    by_cases c : i = L.length
    · exact ⟨e, L, List.suffix_refl _, c.symm⟩
    · rw [List.length_cons] at h
      obtain ⟨e', J', h1, h2⟩ := ih (i := i) (by omega)
      exact ⟨e', J', h1.trans (List.suffix_cons e L), h2⟩
theorem CR_who (h : CR k a J jm g n) {i : Nat} (hi : i < J.length) : dm (sp_run a.A) (k.2.2 (5000 + i)) := by
  obtain ⟨e, J', h1, h2⟩ := suf_at hi
  have t := (h.w.j.en e J' h1).1
  rw [h2] at t
  rw [t]
  exact h.jd e (h1.subset List.mem_cons_self)
theorem rd_newB {D : pd} {kd : Int32} {x : Int64} {c q : Nat} (hb : D.nb < 200) (hc : c ≠ 3 + D.nb) : rdD (sp_newB D kd x) c q = if c = 0 ∧ q = 0 then Int64.ofNat (D.nb + 1) else rdD D c q := by
  unfold rdD
  by_cases c0 : c = 0
  · subst c0
    rw [if_pos rfl, if_pos rfl]
    show (if q = 0 then Int64.ofNat (D.nb + 1) else D.room q) = _
    by_cases y : q = 0
    · rw [if_pos y, if_pos ⟨rfl, y⟩]
    · rw [if_neg y, if_neg (fun z => y z.2)]
  · rw [if_neg (fun z : c = 0 ∧ q = 0 => c0 z.1), if_neg c0, if_neg c0]
    by_cases c3 : c < 203 ∧ 3 ≤ c
    · rw [if_neg (by omega), if_neg (by omega), if_pos c3.1, if_neg (by omega), if_neg (by omega), if_pos c3.1]
      show (if c - 3 = D.nb then 0 else D.bal (c - 3) q) = _
      rw [if_neg (by omega)]
    · by_cases c4 : c < 203
      · rw [if_pos c4, if_pos c4]
        obtain z | z : c = 1 ∨ c = 2 := by omega
        · rw [if_pos z, if_pos z]; rfl
        · rw [if_neg (by omega), if_pos z, if_neg (by omega), if_pos z]; rfl
      · have e1 : ¬ c = 1 := by omega
        have e2 : ¬ c = 2 := by omega
        simp only [if_neg e1, if_neg e2, if_neg c4]
        rfl
theorem rd_newBb {D : pd} {kd : Int32} {x : Int64} {q : Nat} (hb : D.nb < 200) : rdD (sp_newB D kd x) (3 + D.nb) q = 0 := by
  rw [rdB hb]
  exact if_pos rfl
theorem rd_newL {D : pd} {kd : Int32} {x y : Int64} {c q : Nat} (hc : c < 203 + 4 * D.nl ∨ 206 + 4 * D.nl < c) : rdD (sp_newL D kd x y) c q = if c = 0 ∧ q = 1 then Int64.ofNat (D.nl + 1) else rdD D c q := by
  unfold rdD
  by_cases c0 : c = 0
  · subst c0
    rw [if_pos rfl, if_pos rfl]
    show (if q = 1 then Int64.ofNat (D.nl + 1) else D.room q) = _
    by_cases y : q = 1
    · rw [if_pos y, if_pos ⟨rfl, y⟩]
    · rw [if_neg y, if_neg (fun z => y z.2)]
  · rw [if_neg (fun z : c = 0 ∧ q = 1 => c0 z.1), if_neg c0, if_neg c0]
    by_cases c4 : c < 203
    · rw [if_pos c4, if_pos c4]; rfl
    · have e1 : ¬ c = 1 := by omega
      have e2 : ¬ c = 2 := by omega
      have z : ¬ (c - 203) / 4 = D.nl := by omega
      simp only [if_neg e1, if_neg e2, if_neg c4]
      by_cases m0 : (c - 203) % 4 = 0
      · simp only [if_pos m0]; exact if_neg z
      · simp only [if_neg m0]
        by_cases m1 : (c - 203) % 4 = 1
        · simp only [if_pos m1]; exact if_neg z
        · simp only [if_neg m1]
          by_cases m2 : (c - 203) % 4 = 2
          · simp only [if_pos m2]; exact if_neg z
          · simp only [if_neg m2]; exact if_neg z
theorem rd_newLl {D : pd} {kd : Int32} {x y : Int64} {q : Nat} : rdD (sp_newL D kd x y) (203 + 4 * D.nl) q = (if q = 11 then -1 else if q = 0 then x else 0) ∧ rdD (sp_newL D kd x y) (204 + 4 * D.nl) q = 0 ∧ rdD (sp_newL D kd x y) (205 + 4 * D.nl) q = 0 ∧ rdD (sp_newL D kd x y) (206 + 4 * D.nl) q = 0 := by
  rw [rdF, rdE, rdL, rdQ]
  refine ⟨?_, if_pos rfl, if_pos rfl, if_pos rfl⟩
  show (if D.nl = D.nl then (if q = 0 then x else if q = 11 then -1 else 0) else _) = _
  rw [if_pos rfl]
  by_cases z : q = 11
  · rw [if_pos z, if_neg (by omega), if_pos z]
  · rw [if_neg z, if_neg z]
theorem newB_n {D : pd} {kd : Int32} {x : Int64} (hb : D.nb < 200) : (sp_newB D kd x).nb = D.nb + 1 ∧ (sp_newB D kd x).nl = D.nl := by
  refine ⟨?_, rfl⟩
  show cn (Int64.ofNat (D.nb + 1)) = _
  exact cl_cn (by omega)
theorem newL_n {D : pd} {kd : Int32} {x y : Int64} (hb : D.nl < 400) : (sp_newL D kd x y).nl = D.nl + 1 ∧ (sp_newL D kd x y).nb = D.nb := by
  refine ⟨?_, rfl⟩
  show cn (Int64.ofNat (D.nl + 1)) = _
  exact cl_cn (by omega)
theorem CR_newB {kd : Int32} {x : Int64} (h : CR k a J jm g n) (hn : n + 40 ≤ 30000) (hb : (sp_run a.A).nb < 200) (hD : sp_run a'.A = sp_newB (sp_run a.A) kd x) (hd : a'.dp = a.dp) (h1 : a'.num = a.num) (h2 : a'.tr = a.tr) (h3 : a'.why = a.why) (h4 : a'.cs = a.cs) (hv : ∀ i, i < a.dp → lvD a' i = lvD a i) (hd8 : a.dp ≤ 8) : ∃ k2 J2, gk_X2_put N 0 0 (Int64.ofNat ((sp_run a.A).nb + 1)) (nwB k (sp_run a.A).nb J.length kd x) = some ((), k2) ∧ CR k2 a' J2 jm (g + 1) (n + 1) := by
  obtain ⟨n1, n2⟩ := newB_n (kd := kd) (x := x) hb
  have w := h.w
  obtain ⟨z1, z2, z3, z4⟩ := w.dim
  have e3 := nwB_3c (m := J.length) (kd := kd) (x := x) z3
  have hdm : ∀ c, dm (sp_run a.A) c → c ≠ 3 + (sp_run a.A).nb ∧ c < 3000 := by
    intro c hc
    refine ⟨?_, (w.cl hc).2⟩
    unfold dm at hc
    omega
  have R : CR (nwB k (sp_run a.A).nb J.length kd x) a J jm (g + 1) n := by
    refine CR_reb h (fun r _ h9 => nwB_i h9) (fun l hl => ⟨by rw [nwB_i (by omega)], by rw [nwB_l (by omega) (by omega)]⟩) (fun b hb => ⟨nwB_9 (by omega), nwB_21 (by omega)⟩) (nwB_l (by omega) (by omega)) (fun c hc => ?_) (nwB_n (by omega) (by omega) (by omega) (by omega) (by omega)) (nwB_n (by omega) (by omega) (by omega) (by omega) (by omega)) (nwB_n (by omega) (by omega) (by omega) (by omega) (by omega)) nwB_5 (fun i => nwB_n (by omega) (by omega) (by omega) (by omega) (by omega)) (by omega) (by rw [nwB_2]; exact z2) (by omega) (by rw [nwB_2]; exact Nat.le_refl _) (fun c hc => ?_) (fun l hl => ?_) (by rw [nwB_1]; omega) (by rw [nwB_4]; omega)
    · obtain ⟨y1, y2⟩ := hdm c hc
      exact ⟨nwB_l (by omega) (by omega), nwB_n (by omega) (by omega) (by omega) (by omega) (by omega)⟩
    · by_cases y : c = 3 + (sp_run a.A).nb
      · rw [y, nwB_c]; omega
      · rw [nwB_cl z3 y] at hc
        rw [nwB_n (by omega) (by omega) (by omega) (by omega) (by omega)]
        exact w.le c hc
    · rw [nwB_2] at hl
      rw [nwB_n (by omega) (by omega) (by omega) (by omega) (by omega)]
      exact w.lf.2 l hl
  refine CR_made (N := N) (p := 0) R hn (by omega) hd h1 h2 h3 h4 hv (by rw [hD, n2]; exact Nat.le_refl _) (by rw [hD, n2, nwB_2]; exact z4) (by rw [hD, n1]; omega) (by rw [hD, n1]; omega) ?_ ?_ hd8
  · rw [hD]
    refine ⟨fun l hl => ?_, fun b hb2 => ?_⟩
    · rw [n2] at hl
      rw [nwB_i (by omega), nwB_l (by omega) (by omega)]
      exact w.kd.l l hl
    · rw [n1] at hb2
      by_cases y : b = (sp_run a.A).nb
      · rw [y, nwB_9b, nwB_21b]
        exact ⟨(if_pos rfl).symm, (if_pos rfl).symm⟩
      · rw [nwB_9 y, nwB_21 y]
        show _ = (if b = (sp_run a.A).nb then kd else (sp_run a.A).bkind b) ∧ _ = (if b = (sp_run a.A).nb then x else (sp_run a.A).purse b)
        rw [if_neg y, if_neg y]
        exact w.kd.b b (by omega)
  · rw [hD]
    intro c hc q
    by_cases y : c = 3 + (sp_run a.A).nb
    · rw [y, rd_newBb hb, if_neg (by omega)]
      unfold Vk
      rw [nwB_v]
      split <;> rfl
    · have hc' : dm (sp_run a.A) c := by
        unfold dm at hc ⊢
        rw [n1, n2] at hc
        omega
      rw [rd_newB hb y]
      by_cases u : c = 0 ∧ q = 0
      · rw [if_pos u, if_pos u]
      · rw [if_neg u, if_neg u, ← w.cv c hc' q]
        obtain ⟨y1, y2⟩ := hdm c hc'
        unfold Vk
        rw [nwB_l (by omega) (by omega), nwB_n (by omega) (by omega) (by omega) (by omega) (by omega)]
theorem CR_newL {kd : Int32} {x y : Int64} (h : CR k a J jm g n) (hn : n + 40 ≤ 30000) (hb : (sp_run a.A).nl < 400) (hD : sp_run a'.A = sp_newL (sp_run a.A) kd x y) (hd : a'.dp = a.dp) (h1 : a'.num = a.num) (h2 : a'.tr = a.tr) (h3 : a'.why = a.why) (h4 : a'.cs = a.cs) (hv : ∀ i, i < a.dp → lvD a' i = lvD a i) (hd8 : a.dp ≤ 8) : ∃ k2 J2, gk_X2_put N 0 1 (Int64.ofNat ((sp_run a.A).nl + 1)) (nwL k (sp_run a.A).nl J.length kd x y) = some ((), k2) ∧ CR k2 a' J2 jm (g + 1) (n + 1) := by
  obtain ⟨n1, n2⟩ := newL_n (kd := kd) (x := x) (y := y) hb
  have w := h.w
  obtain ⟨z1, z2, z3, z4⟩ := w.dim
  have e3 := nwL_2c (m := J.length) (kd := kd) (x := x) (y := y) z4
  have hdm : ∀ c, dm (sp_run a.A) c → c < 203 + 4 * (sp_run a.A).nl ∧ c < 3000 := by
    intro c hc
    refine ⟨?_, (w.cl hc).2⟩
    unfold dm at hc
    omega
  have R : CR (nwL k (sp_run a.A).nl J.length kd x y) a J jm (g + 1) n := by
    refine CR_reb h (fun r h8 _ => nwL_i h8) (fun l hl => ⟨nwL_8 (by omega), nwL_20 (by omega)⟩) (fun b hb => ⟨by rw [nwL_i (by omega)], by rw [nwL_l (by omega) (by omega)]⟩) (nwL_l (by omega) (by omega)) (fun c hc => ?_) (nwL_n (by omega) (by omega) (by omega) (by omega) (by omega)) (nwL_n (by omega) (by omega) (by omega) (by omega) (by omega)) (nwL_n (by omega) (by omega) (by omega) (by omega) (by omega)) nwL_5 (fun i => nwL_n (by omega) (by omega) (by omega) (by omega) (by omega)) (by rw [nwL_3]; exact z1) (by omega) (by rw [nwL_3]; exact Nat.le_refl _) (by omega) (fun c hc => ?_) (fun l hl => ?_) (by rw [nwL_1]; omega) (by rw [nwL_4]; omega)
    · obtain ⟨y1, y2⟩ := hdm c hc
      exact ⟨nwL_l (by omega) (by omega), nwL_n (by omega) (by omega) (by omega) (by omega) (by omega)⟩
    · by_cases u : c < 203 + 4 * (sp_run a.A).nl ∨ 206 + 4 * (sp_run a.A).nl < c
      · rw [nwL_cl z4 u] at hc
        rw [nwL_n (by omega) (by omega) (by omega) (by omega) (by omega)]
        exact w.le c hc
      · obtain v | v | v | v : c = 203 + 4 * (sp_run a.A).nl ∨ c = 204 + 4 * (sp_run a.A).nl ∨ c = 205 + 4 * (sp_run a.A).nl ∨ c = 206 + 4 * (sp_run a.A).nl := by omega
        · rw [v, nwL_c203]; omega
        · rw [v, nwL_c204]; omega
        · rw [v, nwL_c205]; omega
        · rw [v, nwL_c206]; omega
    · by_cases u : l = (sp_run a.A).nl
      · rw [u, nwL_c203]; exact Nat.le_refl _
      · rw [nwL_n (by omega) (by omega) (by omega) (by omega) (by omega)]
        exact w.lf.2 l (by omega)
  refine CR_made (N := N) (p := 1) R hn (by omega) hd h1 h2 h3 h4 hv (by rw [hD, n1]; omega) (by rw [hD, n1]; omega) (by rw [hD, n2]; exact Nat.le_refl _) (by rw [hD, n2, nwL_3]; exact z3) ?_ ?_ hd8
  · rw [hD]
    refine ⟨fun l hl => ?_, fun b hb2 => ?_⟩
    · rw [n1] at hl
      by_cases u : l = (sp_run a.A).nl
      · rw [u, nwL_8l, nwL_20l]
        exact ⟨(if_pos rfl).symm, (if_pos rfl).symm⟩
      · rw [nwL_8 u, nwL_20 u]
        show _ = (if l = (sp_run a.A).nl then kd else (sp_run a.A).kind l) ∧ _ = (if l = (sp_run a.A).nl then y else (sp_run a.A).res l)
        rw [if_neg u, if_neg u]
        exact w.kd.l l (by omega)
    · rw [n2] at hb2
      rw [nwL_i (by omega), nwL_l (by omega) (by omega)]
      exact w.kd.b b hb2
  · rw [hD]
    intro c hc q
    by_cases u : c < 203 + 4 * (sp_run a.A).nl ∨ 206 + 4 * (sp_run a.A).nl < c
    · have hc' : dm (sp_run a.A) c := by
        unfold dm at hc ⊢
        rw [n1, n2] at hc
        omega
      rw [rd_newL u]
      by_cases t : c = 0 ∧ q = 1
      · rw [if_pos t, if_pos t]
      · rw [if_neg t, if_neg t, ← w.cv c hc' q]
        obtain ⟨y1, y2⟩ := hdm c hc'
        unfold Vk
        rw [nwL_l (by omega) (by omega), nwL_n (by omega) (by omega) (by omega) (by omega) (by omega)]
    · obtain ⟨r1, r2, r3, r4⟩ := rd_newLl (D := sp_run a.A) (kd := kd) (x := x) (y := y) (q := q)
      rw [if_neg (by omega)]
      unfold Vk
      obtain v | v | v | v : c = 203 + 4 * (sp_run a.A).nl ∨ c = 204 + 4 * (sp_run a.A).nl ∨ c = 205 + 4 * (sp_run a.A).nl ∨ c = 206 + 4 * (sp_run a.A).nl := by omega
      · rw [v, r1, nwL_c203, nwL_v0]
        by_cases t : q < 14
        · rw [if_pos ⟨by omega, t⟩]
        · rw [if_neg (fun z => t z.2), if_neg (by omega), if_neg (by omega)]
      · rw [v, r2, nwL_v (Or.inl rfl)]
        split <;> rfl
      · rw [v, r3, nwL_v (Or.inr (Or.inl rfl))]
        split <;> rfl
      · rw [v, r4, nwL_v (Or.inr (Or.inr rfl))]
        split <;> rfl
end MD
