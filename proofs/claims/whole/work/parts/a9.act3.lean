/-! acts of the reference and of the room's own story -/
section AC
variable {N : Nat} {s : mt_S} {a : ab} {T : Nat} {w o t i : Int32} {x y : Int64}
theorem rs_start {e : Nat} {D : pd} {cs : List Int32} {v : Int32} (h : rs s s D e false cs) : rs (gm_setI (gm_setI (gm_setI s 52 0 v) 55 0 0) 57 0 0) (gm_setI (gm_setI (gm_setI s 52 0 v) 55 0 0) 57 0 0) D e false [] := by
  refine ⟨rv_hi h.v (fun k hk => ⟨(fne_I (by omega)).trans ((fne_I (by omega)).trans (fne_I (by omega))), rfl, rfl⟩), ?_, h.ag, fun _ _ => ⟨rfl, rfl, rfl⟩⟩
  exact ⟨h.c.1, rfl, by decide, fun i hi => absurd hi (Nat.not_lt_zero i)⟩
theorem RH_start {v : Int32} (h : RH s a) (hv : v = nI (a.tr + 1)) : RH (gm_setI (gm_setI (gm_setI s 52 0 v) 55 0 0) 57 0 0) ((a.A, a.dp, a.mq, a.num, (a.tr + 1), a.why, a.cs) : ab) := by
  exact ⟨h.cap, h.n, h.acts, h.dp, h.l50, h.mq, h.num, hv, h.why⟩
theorem RH_53 {v : Int32} (h : RH s a) : RH (gm_setI s 53 0 v) ((a.A, a.dp, a.mq, a.num, a.tr, v, a.cs) : ab) := ⟨h.cap, h.n, h.acts, h.dp, h.l50, h.mq, h.num, h.tr, rfl⟩
theorem RH_49 {n : Nat} (h : RH s a) (hn : n ≤ a.dp) : RH (gm_setI s 49 0 (nI n)) ((a.A, n, a.mq, a.num, a.tr, a.why, a.cs) : ab) := ⟨h.cap, h.n, h.acts, rfl, h.l50, fun i (hi : i < n) => h.mq i (by omega), h.num, h.tr, h.why⟩
theorem rs_hi {s s' : mt_S} {e : Nat} {D : pd} {cs : List Int32} {k : Nat} {v : Int32} (h : rs s s D e false cs) (hk : 40 < k ∧ k ≠ 54 ∧ k ≠ 55 ∧ k ≠ 56) : rs (gm_setI s k 0 v) (gm_setI s k 0 v) D e false cs := by
  refine ⟨rv_hi h.v (fun q hq => ⟨fne_I (by omega), rfl, rfl⟩), ?_, ?_, fun _ _ => ⟨rfl, rfl, rfl⟩⟩
  · obtain ⟨r1, r2, r3, r4⟩ := h.c
    exact ⟨r1, by rw [fne_I (by omega)]; exact r2, r3, by rw [fne_I (by omega)]; exact r4⟩
  · rw [fne_I (by omega)]; exact h.ag
theorem RH_cs {c : List Int32} (h : RH s a) : RH s ((a.A, a.dp, a.mq, a.num, a.tr, a.why, c) : ab) := ⟨h.cap, h.n, h.acts, h.dp, h.l50, h.mq, h.num, h.tr, h.why⟩
/-- the end of an act that is refused -/
theorem w_refuse {e : Nat} {D : pd} {cs : List Int32} {r : Int64} {v : Int32} {a' : ab} (h : rs s s D e false cs) (hR : RH s ((a'.A, a'.dp, a'.mq, a'.num, (a'.tr + 1), a'.why, a'.cs) : ab)) (hf : wfT a' T) (hT : T < 512) (hN : 5000 ≤ N) (hD : a'.dp = 0 → D = sp_run a'.A) (he : e ≤ 2 * (a'.tr + 1)) : ∃ s', (Option.bind (gm_pI s 53 v) fun t47 => if (t47.1 49 0) ≤ 0 then gb_X8_act_67 N r t47 else Option.bind (gm_ldI t47 50 0) fun v63 => Option.bind (gm_X8_back N v63 t47) fun q64 => gb_X8_act_67 N r q64.2) = some (r, s') ∧ RR s' (abRef v a' cs) := by
  unfold gm_pI
  rw [Option.bind_some]
  have h1 := rs_hi (k := 53) (v := v) (s' := s) h (by decide)
  have R1 : RH (gm_setI s 53 0 v) ((a'.A, a'.dp, a'.mq, a'.num, (a'.tr + 1), v, a'.cs) : ab) := RH_53 hR
  rw [show (gm_setI s 53 0 v).1 49 0 = nI a'.dp from R1.dp]
  have d8 := hf.d8
  have nA := hf.nA
  have nt := hf.nt
  unfold gb_X8_act_67 gm_pI
  by_cases c : a'.dp = 0
  · rw [if_pos (by rw [c]; decide), Option.bind_some]
    refine ⟨_, rfl, e, he, ?_, ?_⟩
    · have : (abRef v a' cs).A = a'.A := if_pos c
      rw [this, ← hD c]
      exact rs_hi (k := 49) (v := 0) (s' := s) h1 (by decide)
    · have R2 := RH_49 (n := 0) R1 (Nat.zero_le _)
      unfold abRef
      rw [if_pos c]
      exact RH_cs R2
  · rw [if_neg (by rw [show (0 : Int32) = nI 0 from rfl, cz_le (by omega) (by omega)]; omega)]
    rw [show (0 : Int32) = nI 0 from rfl, gm_rdI (by show 0 < s.2.2 50; rw [hR.l50]; decide) (by decide), Option.bind_some, show (gm_setI s 53 0 v).1 50 0 = nI (a'.mq 0) from R1.mq 0 (by show 0 < a'.dp; omega)]
    obtain ⟨s2, e2, g2, h2, k2, R2⟩ := w_back (N := N) (m := a'.mq 0) h1 R1 hf.ok (by have := hf.nn; omega) (by show a'.A.length ≤ 600; omega) hN (hf.m1 0 (by omega))
    rw [g2, Option.bind_some, Option.bind_some]
    have m0 := hf.m1 0 (by omega)
    refine ⟨_, rfl, e2, ?_, ?_, ?_⟩
    · show e2 ≤ 2 * (a'.tr + 1); omega
    · have : (abRef v a' cs).A = a'.A.drop (a'.A.length - a'.mq 0) := if_neg c
      rw [this]
      exact rs_hi (k := 49) (v := 0) (s' := s) h2 (by decide)
    · have R3 := RH_49 (n := 0) R2 (Nat.zero_le _)
      unfold abRef
      rw [if_neg c]
      exact RH_cs R3
theorem pW_num (hw : plainW w) : ¬ (w = 9 ∨ w = 10) := by
  unfold plainW at hw
  rcases hw with h | h | h | h | h | h | h | h | h | h | h | h | h | h | h | h | h | h | h | h <;> rw [h] <;> decide
theorem pI_e {s : mt_S} {k : Nat} {v : Int32} : gm_pI s k v = some (gm_setI s k 0 v) := rfl
theorem RH_num {v : Int32} (h : RH s a) (hv : v = nI (a.num + 1)) : RH (gm_setI (gm_setI s 51 0 v) 57 0 v) ((a.A, a.dp, a.mq, (a.num + 1), a.tr, a.why, a.cs) : ab) := by
  exact ⟨h.cap, h.n, h.acts, h.dp, h.l50, h.mq, hv, h.tr, h.why⟩
theorem RH_fr {s0 s : mt_S} {D : pd} {e : Nat} {ag : Bool} {cs : List Int32} (h : RH s0 a) (hs : rs s0 s D e ag cs) : RH s a :=
  RH_congr h (fun k x y => hs.fr k ⟨by omega, by omega, by omega, by omega⟩)
theorem addC_f {L : List Int32} : addC false [] L = L.take 200 := by
  simp [addC]
theorem do_keep {b : pk} {D : pd} (h : b.w = 20 ∨ b.w = 21 ∨ b.w = 22) : (sp_do b D).2.1 = D := by
  rcases h with w | w | w
  · rw [do_20 w]
    unfold sp_askA sp_withL sp_open'
    split
    · dsimp only; split <;> rfl
    · rfl
  · rw [do_21 w]
    unfold sp_at sp_withL
    split
    · dsimp only; split
      · rfl
      · split
        · rfl
        · split <;> rfl
    · rfl
  · rw [do_22 w]
    unfold sp_at sp_withL
    split
    · dsimp only; split
      · rfl
      · split
        · rfl
        · split <;> rfl
    · rfl
theorem RR_act (h : RR s a) (hf : wfT a T) (hT : T < 512) (hN : 5000 ≤ N) (hw : plainW w ∨ bidW w) : ∃ s', gm_X8_act N w o t i x y s = some ((abAct w o t i x y a).1, s') ∧ RR s' (abAct w o t i x y a).2 := by
  obtain ⟨e, he, h, hR⟩ := h
  have nA := hf.nA
  have nt := hf.nt
  have nn := hf.nn
  unfold gm_X8_act
  rw [pI_e, Option.bind_some, pI_e, Option.bind_some, pI_e, Option.bind_some]
  have v1 : s.1 52 0 + 1 = nI (a.tr + 1) := by rw [hR.tr, show (1 : Int32) = nI 1 from rfl, cz_add]
  rw [v1]
  have hs1 := rs_start (v := nI (a.tr + 1)) h
  have R1 := RH_start hR (v := nI (a.tr + 1)) rfl
  have s57 : (gm_setI (gm_setI (gm_setI s 52 0 (nI (a.tr + 1))) 55 0 0) 57 0 0).1 57 0 = 0 := rfl
  generalize gm_setI (gm_setI (gm_setI s 52 0 (nI (a.tr + 1))) 55 0 0) 57 0 0 = s1 at hs1 R1 s57
  have P := pi_run hf.ok (by omega)
  have K : ∃ s2 e2, gm_X8_done (gm_X8_back N) N w o t i x y s1 = some ((sp_do (abPk w o t i x y a) (sp_run a.A)).1, s2) ∧ rs s2 s2 (sp_do (abPk w o t i x y a) (sp_run a.A)).2.1 e2 false ((sp_do (abPk w o t i x y a) (sp_run a.A)).2.2.take 200) ∧ e2 ≤ e + 2 ∧ RH s2 ((a.A, a.dp, a.mq, (if (sp_do (abPk w o t i x y a) (sp_run a.A)).1 < 0 then a.num else (if w = 9 ∨ w = 10 then a.num + 1 else a.num)), (a.tr + 1), a.why, a.cs) : ab) ∧ (¬ (sp_do (abPk w o t i x y a) (sp_run a.A)).1 < 0 → s2.1 57 0 = (abPk w o t i x y a).n) := by
    rcases hw with hw | hw
    · have n9 := pW_num hw
      have bn : (abPk w o t i x y a).n = 0 := if_neg n9
      obtain ⟨s2, e2, g, h2, k2⟩ := w_doN (N := N) (Kg := gm_X8_back N) (a := abPk w o t i x y a) hs1 P (by omega) (by omega) hN hw
      rw [addC_f] at h2
      refine ⟨s2, e2, g, rs_self h2, k2, ?_, fun _ => ?_⟩
      · rw [if_neg n9, ite_self]
        exact RH_fr R1 h2
      · rw [bn, (h2.fr 57 (by decide)).1]; exact s57
    · have bn : (abPk w o t i x y a).n = nI (a.num + 1) := if_pos hw
      have e51 : nxtN s1 false = nI (a.num + 1) := by
        show s1.1 51 0 + 1 = _
        rw [show s1.1 51 0 = nI a.num from R1.num, show (1 : Int32) = nI 1 from rfl, cz_add]
      obtain ⟨s2, e2, g, h2, k2⟩ := w_doB (N := N) (Kg := gm_X8_back N) (a := abPk w o t i x y a) hs1 P (by omega) e51 (Nat.lt_succ_self _) (by omega) hN hw bn
      rw [addC_f] at h2
      have r1 : s1.1 51 0 + 1 = nI (a.num + 1) := e51
      refine ⟨s2, e2, g, rs_self h2, k2, ?_, fun c => ?_⟩
      · by_cases c : (sp_do (abPk w o t i x y a) (sp_run a.A)).1 < 0
        · rw [if_pos c] at h2 ⊢
          exact RH_fr R1 h2
        · rw [if_neg c] at h2 ⊢
          rw [if_pos (show w = 9 ∨ w = 10 from hw)]
          exact RH_fr (RH_num R1 (v := s1.1 51 0 + 1) r1) h2
      · rw [if_neg c] at h2
        rw [(h2.fr 57 (by decide)).1, bn, ← r1]
        rfl
  have F := rf_do (a := abPk w o t i x y a) (n := a.num + 1) P (by omega) (fun z => if_pos z) (by omega) hw
  unfold abAct
  dsimp only
  have keepD : 19 < w → (sp_do (abPk w o t i x y a) (sp_run a.A)).2.1 = sp_run a.A := by
    intro hw9
    refine do_keep ?_
    show w = 20 ∨ w = 21 ∨ w = 22
    rcases hw with hw | hw
    · unfold plainW at hw
      rcases hw with h | h | h | h | h | h | h | h | h | h | h | h | h | h | h | h | h | h | h | h
      all_goals first | (exact Or.inl h) | (exact Or.inr (Or.inl h)) | (exact Or.inr (Or.inr h)) | (rw [h] at hw9; exact absurd hw9 (by decide))
    · rcases hw with h | h <;> (rw [h] at hw9; exact absurd hw9 (by decide))
  generalize hb : abPk w o t i x y a = b at K F keepD ⊢
  have bw : b.w = w ∧ b.o = o ∧ b.t = t ∧ b.h = i ∧ b.x = x ∧ b.y = y := by rw [← hb]; exact ⟨rfl, rfl, rfl, rfl, rfl, rfl⟩
  have spr : sp_run (b :: a.A) = (sp_do b (sp_run a.A)).2.1 := rfl
  generalize sp_do b (sp_run a.A) = r at K F spr keepD ⊢
  obtain ⟨s2, e2, g2, h2, k2, R2, n2⟩ := K
  rw [g2, Option.bind_some]
  dsimp only
  by_cases c : r.1 < 0
  · rw [if_neg (fun z => absurd c (nle64.mpr z)), if_pos c]
    rw [if_pos c] at R2
    have Dr : r.2.1 = sp_run a.A := by
      rcases F with z | z
      · exact z
      · exact absurd c (nle64.mpr z)
    exact w_refuse h2 R2 hf hT hN (fun _ => Dr) (by omega)
  · rw [if_pos (nle64.mp c), if_neg c, pI_e, Option.bind_some]
    rw [if_neg c] at R2
    have h3 := rs_hi (k := 53) (v := 0) (s' := s) h2 (by decide)
    have R3 : RH (gm_setI s2 53 0 0) _ := RH_53 (v := 0) R2
    have m57 : (gm_setI s2 53 0 0).1 57 0 = b.n := n2 c
    by_cases c9 : 19 < w
    · rw [if_pos c9, if_pos c9]
      exact ⟨_, rfl, e2, by show e2 ≤ 2 * (a.tr + 1); omega, by show rs _ _ (sp_run a.A) e2 false (r.2.2.take 200); rw [← keepD c9]; exact h3, RH_cs R3⟩
    · rw [if_neg c9, if_neg c9]
      obtain ⟨b1, b2, b3, b4, b5, b6⟩ := bw
      obtain ⟨s4, g4, h4, R4⟩ := w_note (N := N) (b := b) h3 R3 (by show a.A.length < 512; omega) hN m57
      rw [b1, b2, b3, b4, b5, b6] at g4
      rw [g4, Option.bind_some]
      exact ⟨_, rfl, e2, by show e2 ≤ 2 * (a.tr + 1); omega, by show rs _ _ (sp_run (b :: a.A)) e2 false (r.2.2.take 200); rw [spr]; exact h4, RH_cs R4⟩
theorem ofn32 {n : Nat} (h : n < 2 ^ 31) : (Int64.ofNat n) = (nI n).toInt64 := (cl_64 h).symm
theorem RR_batch (h : RR s a) (hf : wfT a T) (hT : T < 512) (hN : 5000 ≤ N) : ∃ s', gm_X8_act N 23 o t i x y s = some ((abBatch a).1, s') ∧ RR s' (abBatch a).2 := by
  obtain ⟨e, he, h, hR⟩ := h
  have nA := hf.nA
  have nt := hf.nt
  have d8 := hf.d8
  unfold gm_X8_act
  rw [pI_e, Option.bind_some, pI_e, Option.bind_some, pI_e, Option.bind_some]
  have v1 : s.1 52 0 + 1 = nI (a.tr + 1) := by rw [hR.tr, show (1 : Int32) = nI 1 from rfl, cz_add]
  rw [v1, gd_23]
  have hs1 := rs_start (v := nI (a.tr + 1)) h
  have R1 := RH_start hR (v := nI (a.tr + 1)) rfl
  generalize gm_setI (gm_setI (gm_setI s 52 0 (nI (a.tr + 1))) 55 0 0) 57 0 0 = s1 at hs1 R1
  unfold gm_X8_opensBatch abBatch
  rw [show s1.1 49 0 = nI a.dp from R1.dp, show s1.1 41 0 = nI a.A.length from R1.n]
  by_cases c : a.dp = 8
  · rw [if_pos (by rw [c]; rfl), Option.bind_some, if_neg (show ¬ (0 : Int64) ≤ -12 by decide), if_pos c]
    exact w_refuse hs1 R1 hf hT hN (fun _ => rfl) (by omega)
  · rw [if_neg (by rw [show (8 : Int32) = nI 8 from rfl, cz_eq (by omega) (by omega)]; exact c), if_neg c]
    rw [gm_wrI (by rw [R1.l50]; omega) (by omega), Option.bind_some, pI_e, Option.bind_some]
    rw [show (gm_setI s1 50 a.dp (nI a.A.length)).1 49 0 = nI a.dp from R1.dp, show (1 : Int32) = nI 1 from rfl, cz_add, Option.bind_some]
    dsimp only
    rw [show (gm_setI (gm_setI s1 50 a.dp (nI a.A.length)) 49 0 (nI (a.dp + 1))).1 49 0 = nI (a.dp + 1) from rfl, if_pos (nle64.mp (nn_ge (by omega))), pI_e, Option.bind_some, if_pos (by decide)]
    refine ⟨_, by rw [ofn32 (by omega)], e, by show e ≤ 2 * (a.tr + 1); omega, ?_, ?_⟩
    · refine rs_hi (k := 53) (v := 0) (s' := s) (rs_hi (k := 49) (s' := s) ?_ (by decide)) (by decide)
      refine ⟨rv_hi hs1.v (fun q hq => ⟨fne_I (by omega), rfl, rfl⟩), hs1.c, hs1.ag, fun _ _ => ⟨rfl, rfl, rfl⟩⟩
    · refine ⟨R1.cap, R1.n, R1.acts, rfl, R1.l50, ?_, R1.num, R1.tr, rfl⟩
      intro j (hj : j < a.dp + 1)
      show (if 50 = 50 ∧ j = a.dp then nI a.A.length else s1.1 50 j) = nI (if j = a.dp then a.A.length else a.mq j)
      by_cases z : j = a.dp
      · rw [if_pos ⟨rfl, z⟩, if_pos z]
      · rw [if_neg (fun k => z k.2), if_neg z]
        exact R1.mq j (by show j < a.dp; omega)
theorem RR_end (h : RR s a) (hf : wfT a T) (hT : T < 512) (hN : 5000 ≤ N) : ∃ s', gm_X8_act N 24 o t i x y s = some ((abEnd a).1, s') ∧ RR s' (abEnd a).2 := by
  obtain ⟨e, he, h, hR⟩ := h
  have nA := hf.nA
  have nt := hf.nt
  have d8 := hf.d8
  unfold gm_X8_act
  rw [pI_e, Option.bind_some, pI_e, Option.bind_some, pI_e, Option.bind_some]
  have v1 : s.1 52 0 + 1 = nI (a.tr + 1) := by rw [hR.tr, show (1 : Int32) = nI 1 from rfl, cz_add]
  rw [v1, gd_24]
  have hs1 := rs_start (v := nI (a.tr + 1)) h
  have R1 := RH_start hR (v := nI (a.tr + 1)) rfl
  generalize gm_setI (gm_setI (gm_setI s 52 0 (nI (a.tr + 1))) 55 0 0) 57 0 0 = s1 at hs1 R1
  unfold gm_X8_endsBatch abEnd
  rw [show s1.1 49 0 = nI a.dp from R1.dp]
  by_cases c : a.dp = 0
  · rw [if_pos (by rw [c]; rfl), Option.bind_some, if_neg (show ¬ (0 : Int64) ≤ -14 by decide), if_pos c]
    exact w_refuse hs1 R1 hf hT hN (fun _ => rfl) (by omega)
  · rw [if_neg (by rw [show (0 : Int32) = nI 0 from rfl, cz_eq (by omega) (by omega)]; exact c), if_neg c]
    rw [pI_e, Option.bind_some, show (1 : Int32) = nI 1 from rfl, cz_sub (by omega) (by omega), Option.bind_some]
    dsimp only
    rw [show (gm_setI s1 49 0 (nI (a.dp - 1))).1 49 0 = nI (a.dp - 1) from rfl, if_pos (nle64.mp (nn_ge (by omega))), pI_e, Option.bind_some, if_pos (by decide)]
    refine ⟨_, by rw [ofn32 (by omega)], e, by show e ≤ 2 * (a.tr + 1); omega, ?_, ?_⟩
    · exact rs_hi (k := 53) (v := 0) (s' := s) (rs_hi (k := 49) (s' := s) hs1 (by decide)) (by decide)
    · exact RH_cs (RH_53 (RH_49 (n := a.dp - 1) R1 (by show a.dp - 1 ≤ a.dp; omega)))
theorem RR_undo (h : RR s a) (hf : wfT a T) (hT : T < 512) (hN : 5000 ≤ N) : ∃ s', gm_X8_act N 25 o t i x y s = some ((abUndo a).1, s') ∧ RR s' (abUndo a).2 := by
  obtain ⟨e, he, h, hR⟩ := h
  have nA := hf.nA
  have nt := hf.nt
  have nn := hf.nn
  have d8 := hf.d8
  unfold gm_X8_act
  rw [pI_e, Option.bind_some, pI_e, Option.bind_some, pI_e, Option.bind_some]
  have v1 : s.1 52 0 + 1 = nI (a.tr + 1) := by rw [hR.tr, show (1 : Int32) = nI 1 from rfl, cz_add]
  rw [v1, gd_25]
  have hs1 := rs_start (v := nI (a.tr + 1)) h
  have R1 := RH_start hR (v := nI (a.tr + 1)) rfl
  generalize gm_setI (gm_setI (gm_setI s 52 0 (nI (a.tr + 1))) 55 0 0) 57 0 0 = s1 at hs1 R1
  unfold gm_X8_undoes abUndo
  rw [show s1.1 49 0 = nI a.dp from R1.dp]
  by_cases c : a.dp = 0
  · rw [if_pos (by rw [c]; rfl), Option.bind_some, if_neg (show ¬ (0 : Int64) ≤ -14 by decide), if_pos c]
    exact w_refuse hs1 R1 hf hT hN (fun _ => rfl) (by omega)
  · rw [if_neg (by rw [show (0 : Int32) = nI 0 from rfl, cz_eq (by omega) (by omega)]; exact c), if_neg c]
    rw [pI_e, Option.bind_some, show (1 : Int32) = nI 1 from rfl, cz_sub (by omega) (by omega)]
    have h2 := rs_hi (k := 49) (v := nI (a.dp - 1)) (s' := s) hs1 (by decide)
    have R2 := RH_49 (n := a.dp - 1) R1 (by show a.dp - 1 ≤ a.dp; omega)
    rw [show (gm_setI s1 49 0 (nI (a.dp - 1))).1 49 0 = nI (a.dp - 1) from rfl, gm_rdI (by show a.dp - 1 < s1.2.2 50; rw [R1.l50]; omega) (by omega), Option.bind_some, show (gm_setI s1 49 0 (nI (a.dp - 1))).1 50 (a.dp - 1) = nI (a.mq (a.dp - 1)) from R1.mq (a.dp - 1) (by show a.dp - 1 < a.dp; omega)]
    have mA := hf.m1 (a.dp - 1) (by omega)
    obtain ⟨s3, e3, g3, h3, k3, R3⟩ := w_back (N := N) (m := a.mq (a.dp - 1)) h2 R2 hf.ok (by omega) (by show a.A.length ≤ 600; omega) hN mA
    rw [g3, Option.bind_some]
    dsimp only
    rw [show s3.1 49 0 = nI (a.dp - 1) from R3.dp, Option.bind_some]
    dsimp only
    rw [if_pos (nle64.mp (nn_ge (by omega))), pI_e, Option.bind_some, if_pos (by decide)]
    refine ⟨_, by rw [ofn32 (by omega)], e3, by show e3 ≤ 2 * (a.tr + 1); omega, ?_, ?_⟩
    · exact rs_hi (k := 53) (v := 0) (s' := s) h3 (by decide)
    · exact RH_cs (RH_53 R3)
theorem wf_ref {v : Int32} {cs : List Int32} (h : wfT a T) : wfT (abRef v a cs) (T + 1) := by
  have nA := h.nA
  have nt := h.nt
  have nn := h.nn
  unfold abRef
  by_cases c : a.dp = 0
  · rw [if_pos c]
    exact ⟨h.ok, by show a.A.length ≤ a.tr + 1; omega, by show a.num ≤ a.tr + 1; omega, by show a.tr + 1 ≤ T + 1; omega, by show 0 ≤ 8; omega, fun i hi => absurd hi (Nat.not_lt_zero i), fun i j _ hj => absurd hj (Nat.not_lt_zero j)⟩
  · rw [if_neg c]
    refine ⟨okA_drop _ h.ok, ?_, by show a.num ≤ a.tr + 1; omega, by show a.tr + 1 ≤ T + 1; omega, by show 0 ≤ 8; omega, fun i hi => absurd hi (Nat.not_lt_zero i), fun i j _ hj => absurd hj (Nat.not_lt_zero j)⟩
    have := h.m1 0 (by omega)
    show (a.A.drop (a.A.length - a.mq 0)).length ≤ a.tr + 1
    rw [drop_len this]; omega
theorem wf_act (h : wfT a T) (hT : T < 512) (hw : plainW w ∨ bidW w) : wfT (abAct w o t i x y a).2 (T + 1) := by
  have nA := h.nA
  have nt := h.nt
  have nn := h.nn
  unfold abAct
  dsimp only
  by_cases c : (sp_do (abPk w o t i x y a) (sp_run a.A)).1 < 0
  · rw [if_pos c]; exact wf_ref h
  · rw [if_neg c]
    have c0 := nle64.mp c
    have m1 : ∀ j, j < a.dp → a.mq j ≤ (if 19 < w then a.A else abPk w o t i x y a :: a.A).length := by
      intro j hj
      have := h.m1 j hj
      split
      · exact this
      · rw [List.length_cons]; omega
    refine ⟨?_, ?_, ?_, by show a.tr + 1 ≤ T + 1; omega, h.d8, m1, h.m2⟩
    · dsimp only
      rcases hw with hw | hw
      · rw [if_neg (pW_num hw)]
        split
        · exact h.ok
        · exact ⟨c0, Or.inl ⟨hw, h.ok⟩⟩
      · rw [if_pos (show w = 9 ∨ w = 10 from hw), if_neg (show ¬ 19 < w from by rcases hw with z | z <;> rw [z] <;> decide)]
        exact ⟨c0, Or.inr ⟨hw, a.num + 1, a.num, if_pos hw, Nat.lt_succ_self _, Nat.le_refl _, h.ok⟩⟩
    · show (if 19 < w then a.A else abPk w o t i x y a :: a.A).length ≤ a.tr + 1
      split
      · omega
      · rw [List.length_cons]; omega
    · show (if w = 9 ∨ w = 10 then a.num + 1 else a.num) ≤ a.tr + 1
      split <;> omega
theorem wf_batch (h : wfT a T) : wfT (abBatch a).2 (T + 1) := by
  have nA := h.nA
  have nt := h.nt
  have nn := h.nn
  have d8 := h.d8
  unfold abBatch
  by_cases c : a.dp = 8
  · rw [if_pos c]; exact wf_ref h
  · rw [if_neg c]
    refine ⟨h.ok, by show a.A.length ≤ a.tr + 1; omega, by show a.num ≤ a.tr + 1; omega, by show a.tr + 1 ≤ T + 1; omega, by show a.dp + 1 ≤ 8; omega, ?_, ?_⟩
    · intro j (hj : j < a.dp + 1)
      show (if j = a.dp then a.A.length else a.mq j) ≤ a.A.length
      split
      · omega
      · exact h.m1 j (by omega)
    · intro i j hij (hj : j < a.dp + 1)
      show (if i = a.dp then a.A.length else a.mq i) ≤ (if j = a.dp then a.A.length else a.mq j)
      by_cases z : j = a.dp
      · rw [if_pos z]
        split
        · omega
        · exact h.m1 i (by omega)
      · rw [if_neg z, if_neg (by omega)]
        exact h.m2 i j hij (by omega)
theorem wf_end (h : wfT a T) : wfT (abEnd a).2 (T + 1) := by
  have nA := h.nA
  have nt := h.nt
  have nn := h.nn
  have d8 := h.d8
  unfold abEnd
  by_cases c : a.dp = 0
  · rw [if_pos c]; exact wf_ref h
  · rw [if_neg c]
    exact ⟨h.ok, by show a.A.length ≤ a.tr + 1; omega, by show a.num ≤ a.tr + 1; omega, by show a.tr + 1 ≤ T + 1; omega, by show a.dp - 1 ≤ 8; omega, fun j (hj : j < a.dp - 1) => h.m1 j (by omega), fun i j hij (hj : j < a.dp - 1) => h.m2 i j hij (by omega)⟩
theorem wf_undo (h : wfT a T) : wfT (abUndo a).2 (T + 1) := by
  have nA := h.nA
  have nt := h.nt
  have nn := h.nn
  have d8 := h.d8
  unfold abUndo
  by_cases c : a.dp = 0
  · rw [if_pos c]; exact wf_ref h
  · rw [if_neg c]
    have mA := h.m1 (a.dp - 1) (by omega)
    refine ⟨okA_drop _ h.ok, ?_, by show a.num ≤ a.tr + 1; omega, by show a.tr + 1 ≤ T + 1; omega, by show a.dp - 1 ≤ 8; omega, ?_, fun i j hij (hj : j < a.dp - 1) => h.m2 i j hij (by omega)⟩
    · show (a.A.drop (a.A.length - a.mq (a.dp - 1))).length ≤ a.tr + 1
      rw [drop_len mA]; omega
    · intro j (hj : j < a.dp - 1)
      show a.mq j ≤ (a.A.drop (a.A.length - a.mq (a.dp - 1))).length
      rw [drop_len mA]
      exact h.m2 j (a.dp - 1) (by omega) (by omega)
end AC
