/-! calls of the class, from the heap -/
def cS {α : Type} (X : Nat → Prop) (M : Nat) (h0 : ym_H) (s0 : mt_S) (o : Option (α × ym_H)) (r : α) (a' : ab) (g n : Nat) : Prop := ∃ (ad' : Nat → Nat) (w' : Nat → Value) (h' : ym_H) (k' : mt_S) (J' : List je) (jm' : Nat → Nat) (g' n' : Nat), o = some (r, h') ∧ kt_F X M h0 s0 ad' w' h' k' ∧ CR k' a' J' jm' g' n' ∧ g' ≤ g + 8 ∧ n' ≤ n + 40
section XS
variable {N M T : Nat} {X : Nat → Prop} {h0 h : ym_H} {s0 k k0 : mt_S} {ad : Nat → Nat} {w : Nat → Value} {J : List je} {jm : Nat → Nat} {g n : Nat} {a : ab}
theorem F_ob (F : kt_F X M h0 s0 ad w h k) : ∃ fs, ym_ob h (some M) 7 = some fs := by
  have e := kt_rd F.B (key := 0) (ci := 7) (Or.inl (by decide)) (kx_lt (by decide))
  rw [F.1] at e
  exact ⟨_, e⟩
theorem x_no {v : Int32} {r : Int64} (C : CR k (abSt a) J jm g n) (hf : wfT a T) (hN : 40000 ≤ N) (F : kt_F X M h0 s0 ad w h k) (hr : r = (-v).toInt64) : cS X M h0 s0 (Option.bind (ym_ob h (some M) 7) fun _ => Option.bind (fn_X7_refuse N (some M) v h) fun q => some (q.1, q.2)) r (abRef (-r).toInt32 a (([] : List Int32).take 200)) g n := by
  obtain ⟨k2, J2, r1, r2⟩ := CR_refuse (N := N) (w := v) C C.w hf.d8 hf.m1 hf.m2 hN
  obtain ⟨fs, o0⟩ := F_ob F
  obtain ⟨ad', w', h', e, F2⟩ := F.go (mk_X7_refuse F.B) r1
  rw [F.1] at e
  rw [o0, Option.bind_some, e, Option.bind_some]
  refine ⟨ad', w', h', k2, J2, jm, g, n, by rw [hr], F2, ?_, by omega, by omega⟩
  unfold abRef
  rw [hr, neg_back]
  exact r2
theorem x_bidder {o : Int32} {x : Int64} (C : CR k a J jm g n) (hf : wfT a T) (hT : T < 512) (hn : n + 40 ≤ 30000) (hN : 40000 ≤ N) (F : kt_F X M h0 s0 ad w h k) : cS X M h0 s0 (fn_X7_bidder N (some M) o x h) (abAct 1 o 0 0 x 0 a).1 (abAct 1 o 0 0 x 0 a).2 g n := by
  obtain ⟨k0, sa, C0⟩ := CR_start (N := N) C
  have P := pi_run hf.ok (by have := hf.nn; have := hf.nt; omega)
  obtain ⟨ad1, w1, h1, e1, F1⟩ := F.go (mk_X7_startAct F.B) sa
  rw [F.1] at e1
  obtain ⟨fs, o0⟩ := F_ob F
  unfold fn_X7_bidder
  rw [o0, Option.bind_some, e1, Option.bind_some]
  dsimp only
  have hb := P.b0.2
  have dd : sp_do (abPk 1 o 0 0 x 0 a) (sp_run a.A) = sp_bidder (sp_run a.A) o x := do_1 rfl
  unfold abAct
  dsimp only
  rw [dd]
  by_cases c : o < 1 ∨ 4 < o ∨ (o = 3 ∧ ¬ sp_monOk x)
  · have dB : sp_bidder (sp_run a.A) o x = (-1, sp_run a.A, []) := by unfold sp_bidder; rw [if_pos c]
    rw [dB]
    dsimp only
    rw [if_pos (show (-1 : Int64) < 0 by decide)]
    dsimp only
    by_cases c1 : o < 1
    · rw [if_pos c1]
      exact x_no (v := 1) C0 hf hN F1 (by decide)
    · rw [if_neg c1]
      by_cases c2 : o ≤ 4
      · rw [if_pos c2]
        have c3 : o = 3 ∧ ¬ sp_monOk x := by
          rcases c with z | z | z
          · exact absurd z c1
          · exact absurd z (nle32.mpr c2)
          · exact z
        obtain ⟨ad2, w2, h2, e2, F2⟩ := F1.go (mk_X7_isMoney F1.B) (c_isMoney (x := x))
        rw [if_neg c3.2] at e2
        rw [if_pos c3.1, e2, Option.bind_some]
        dsimp only
        rw [if_pos rfl]
        exact x_no (v := 1) C0 hf hN F2 (by decide)
      · rw [if_neg c2]
        exact x_no (v := 1) C0 hf hN F1 (by decide)
  · have c1 : ¬ o < 1 := fun z => c (Or.inl z)
    have c2 : o ≤ 4 := nle32.mp (fun z => c (Or.inr (Or.inl z)))
    rw [if_neg c1, if_pos c2]
    have main : ∀ {ad2 : Nat → Nat} {w2 : Nat → Value} {h2 : ym_H}, kt_F X M h0 s0 ad2 w2 h2 k0 → cS X M h0 s0 (bl_X7_bidder_38 N (some M) o x h2) (if (sp_bidder (sp_run a.A) o x).1 < 0 then ((sp_bidder (sp_run a.A) o x).1, abRef (-(sp_bidder (sp_run a.A) o x).1).toInt32 a ((sp_bidder (sp_run a.A) o x).2.2.take 200)) else ((sp_bidder (sp_run a.A) o x).1, (((if (19 : Int32) < 1 then a.A else abPk 1 o 0 0 x 0 a :: a.A), a.dp, a.mq, (if (1 : Int32) = 9 ∨ (1 : Int32) = 10 then a.num + 1 else a.num), (a.tr + 1), 0, ((sp_bidder (sp_run a.A) o x).2.2.take 200)) : ab))).1 (if (sp_bidder (sp_run a.A) o x).1 < 0 then ((sp_bidder (sp_run a.A) o x).1, abRef (-(sp_bidder (sp_run a.A) o x).1).toInt32 a ((sp_bidder (sp_run a.A) o x).2.2.take 200)) else ((sp_bidder (sp_run a.A) o x).1, (((if (19 : Int32) < 1 then a.A else abPk 1 o 0 0 x 0 a :: a.A), a.dp, a.mq, (if (1 : Int32) = 9 ∨ (1 : Int32) = 10 then a.num + 1 else a.num), (a.tr + 1), 0, ((sp_bidder (sp_run a.A) o x).2.2.take 200)) : ab))).2 g n := by
      intro ad2 w2 h2 F2
      obtain ⟨fs2, o2⟩ := F_ob F2
      obtain ⟨ad3, w3, h3, e3, F3⟩ := F2.go (mk_X7_biddersMade F2.B) (c_nb (N := N) C0.w P)
      rw [F2.1] at e3
      unfold bl_X7_bidder_38
      have e3' : fn_X7_biddersMade N (some M) h2 = some (nI (sp_run a.A).nb, h3) := e3
      rw [o2, Option.bind_some, e3', Option.bind_some]
      dsimp only
      rw [if_neg (cz_nn (by omega))]
      have r0 := kt_rd F3.B (key := 0) (ci := 7) (Or.inl (by decide)) (kx_lt (by decide))
      rw [F3.1] at r0
      have e5 : ym_gR h3 (some M) 7 5 = some (some (ad3 5)) := by simp [ym_gR, ym_gf, r0, ym_toR]
      have el : ym_len h3 (some (ad3 5)) = some (Int32.ofNat 200) := by simp [ym_len, kt_arT F3.B (key := 5) (x := (5, 200, fun j => if j < k0.2.2 3 then .ref (ad3 (11000 + j)) else .null)) (kx_lt (by decide))]
      by_cases cc : (sp_run a.A).nb = 200
      · have dB : sp_bidder (sp_run a.A) o x = (-12, sp_run a.A, []) := by unfold sp_bidder; rw [if_neg c, if_pos cc]
        rw [dB]
        dsimp only
        rw [if_pos (show (-12 : Int64) < 0 by decide), e5, Option.bind_some, el, Option.bind_some, if_neg (by rw [cc]; decide)]
        dsimp only
        exact x_no (v := 12) C0 hf hN F3 (by decide)
      · have dB : sp_bidder (sp_run a.A) o x = (Int64.ofNat (sp_run a.A).nb, sp_newB (sp_run a.A) o x, []) := by unfold sp_bidder; rw [if_neg c, if_neg cc]
        have hb' : (sp_run a.A).nb < 200 := by omega
        obtain ⟨k2, J2, p1, C2⟩ := CR_newB (N := N) (a' := ((abPk 1 o 0 0 x 0 a :: a.A, a.dp, a.mq, a.num, a.tr + 1, 0, []) : ab)) (kd := o) (x := x) C0 hn hb' (by show (sp_do (abPk 1 o 0 0 x 0 a) (sp_run a.A)).2.1 = _; rw [dd, dB]; rfl) rfl rfl rfl rfl rfl (fun i hi => lvD_cons (a := a) (hf.m1 i hi)) hf.d8
        have ev : Int32.toInt64 (nI (sp_run a.A).nb + 1) = Int64.ofNat ((sp_run a.A).nb + 1) := by
          rw [show nI (sp_run a.A).nb + 1 = nI ((sp_run a.A).nb + 1) from cz_add _ 1, cl_64 (by omega)]
        obtain ⟨ad', w', h', t, F'⟩ := t_bidder (N := N) (b := (sp_run a.A).nb) (m := J.length) (kd := o) (x := x) (v := Int32.toInt64 (nI (sp_run a.A).nb + 1)) (s2 := k2) F3 hb' C0.w.dim.2.2.1 C0.w.j.cap.2.2.2.2.1 (fun i hi => by
          have t := CR_who C0 hi
          have t' : dm (sp_run a.A) (k0.2.2 (5000 + i)) := t
          unfold dm at t'
          omega) (by rw [ev]; exact p1)
        rw [e5, Option.bind_some] at t
        rw [dB]
        dsimp only
        rw [if_neg (nle64.mpr (ofn_ge (by omega))), e5, Option.bind_some, el, Option.bind_some, if_pos (show nI (sp_run a.A).nb < Int32.ofNat 200 from (cz_lt (by omega) (by omega)).mpr hb'), Option.bind_some, t]
        rw [if_neg (show ¬ (19 : Int32) < 1 by decide), if_neg (show ¬ ((1 : Int32) = 9 ∨ (1 : Int32) = 10) by decide)]
        exact ⟨ad', w', h', k2, J2, jm, g + 1, n + 1, by rw [cl_64 (by omega)], F', C2, by omega, by omega⟩
    by_cases c4 : o = 3
    · have c5 : sp_monOk x := Classical.byContradiction fun z => c (Or.inr (Or.inr ⟨c4, z⟩))
      obtain ⟨ad2, w2, h2, e2, F2⟩ := F1.go (mk_X7_isMoney F1.B) (c_isMoney (x := x))
      rw [if_pos c5] at e2
      rw [if_pos c4, e2, Option.bind_some]
      dsimp only
      rw [if_neg (show ¬ (1 : Int32) = 0 by decide)]
      exact main F2
    · rw [if_neg c4]
      exact main F1
theorem x_lot {o : Int32} {x y : Int64} (C : CR k a J jm g n) (hf : wfT a T) (hT : T < 512) (hn : n + 40 ≤ 30000) (hN : 40000 ≤ N) (F : kt_F X M h0 s0 ad w h k) : cS X M h0 s0 (fn_X7_lot N (some M) o x y h) (abAct 2 o 0 0 x y a).1 (abAct 2 o 0 0 x y a).2 g n := by
  obtain ⟨k0, sa, C0⟩ := CR_start (N := N) C
  have P := pi_run hf.ok (by have := hf.nn; have := hf.nt; omega)
  obtain ⟨ad1, w1, h1, e1, F1⟩ := F.go (mk_X7_startAct F.B) sa
  rw [F.1] at e1
  obtain ⟨fs, o0⟩ := F_ob F
  unfold fn_X7_lot
  rw [o0, Option.bind_some, e1, Option.bind_some]
  dsimp only
  have hb := P.l0.2
  have dd : sp_do (abPk 2 o 0 0 x y a) (sp_run a.A) = sp_lot (sp_run a.A) o x y := do_2 rfl
  unfold abAct
  dsimp only
  rw [dd]
  by_cases c : o < 1 ∨ 5 < o ∨ ¬ sp_sumOk x ∨ ¬ sp_monOk y ∨ (o = 5 ∧ x < y)
  · have dB : sp_lot (sp_run a.A) o x y = (-1, sp_run a.A, []) := by unfold sp_lot; rw [if_pos c]
    rw [dB]
    dsimp only
    rw [if_pos (show (-1 : Int64) < 0 by decide)]
    dsimp only
    by_cases c1 : o < 1
    · rw [if_pos c1]
      exact x_no (v := 1) C0 hf hN F1 (by decide)
    · rw [if_neg c1]
      by_cases c2 : o ≤ 5
      · rw [if_pos c2]
        obtain ⟨ad2, w2, h2, e2, F2⟩ := F1.go (mk_X7_isSum F1.B) (c_isSum (x := x))
        rw [e2, Option.bind_some]
        dsimp only
        by_cases c3 : sp_sumOk x
        · rw [if_pos c3, if_neg (show ¬ (1 : Int32) = 0 by decide)]
          obtain ⟨ad3, w3, h3, e3, F3⟩ := F2.go (mk_X7_isMoney F2.B) (c_isMoney (x := y))
          rw [e3, Option.bind_some]
          dsimp only
          by_cases c4 : sp_monOk y
          · have c5 : o = 5 ∧ x < y := by
              rcases c with z | z | z | z | z
              · exact absurd z c1
              · exact absurd z (nle32.mpr c2)
              · exact absurd c3 z
              · exact absurd c4 z
              · exact z
            rw [if_pos c4, if_neg (show ¬ (1 : Int32) = 0 by decide), if_pos c5.1, if_neg (fun z => absurd c5.2 (nle64.mpr z))]
            exact x_no (v := 1) C0 hf hN F3 (by decide)
          · rw [if_neg c4, if_pos rfl]
            exact x_no (v := 1) C0 hf hN F3 (by decide)
        · rw [if_neg c3, if_pos rfl]
          exact x_no (v := 1) C0 hf hN F2 (by decide)
      · rw [if_neg c2]
        exact x_no (v := 1) C0 hf hN F1 (by decide)
  · have c1 : ¬ o < 1 := fun z => c (Or.inl z)
    have c2 : o ≤ 5 := nle32.mp (fun z => c (Or.inr (Or.inl z)))
    have c3 : sp_sumOk x := Classical.byContradiction fun z => c (Or.inr (Or.inr (Or.inl z)))
    have c4 : sp_monOk y := Classical.byContradiction fun z => c (Or.inr (Or.inr (Or.inr (Or.inl z))))
    obtain ⟨ad2, w2, h2, e2, F2⟩ := F1.go (mk_X7_isSum F1.B) (c_isSum (x := x))
    obtain ⟨ad3, w3, h3, e3, F3⟩ := F2.go (mk_X7_isMoney F2.B) (c_isMoney (x := y))
    rw [if_pos c3] at e2
    rw [if_pos c4] at e3
    rw [if_neg c1, if_pos c2, e2, Option.bind_some]
    dsimp only
    rw [if_neg (show ¬ (1 : Int32) = 0 by decide), e3, Option.bind_some]
    dsimp only
    rw [if_neg (show ¬ (1 : Int32) = 0 by decide)]
    have same : (if o = 5 then if y ≤ x then bl_X7_lot_59 N (some M) o x y h3 else Option.bind (ym_ob h3 (some M) 7) fun o55 => Option.bind (fn_X7_refuse N (some M) 1 h3) fun q55 => some (q55.1, q55.2) else bl_X7_lot_59 N (some M) o x y h3) = bl_X7_lot_59 N (some M) o x y h3 := by
      by_cases z : o = 5
      · rw [if_pos z, if_pos (nle64.mp (fun t => c (Or.inr (Or.inr (Or.inr (Or.inr ⟨z, t⟩))))))]
      · rw [if_neg z]
    rw [same]
    obtain ⟨fs2, o2⟩ := F_ob F3
    obtain ⟨ad4, w4, h4, e4, F4⟩ := F3.go (mk_X7_lotsMade F3.B) (c_nl (N := N) C0.w P)
    rw [F3.1] at e4
    unfold bl_X7_lot_59
    have e4' : fn_X7_lotsMade N (some M) h3 = some (nI (sp_run a.A).nl, h4) := e4
    rw [o2, Option.bind_some, e4', Option.bind_some]
    dsimp only
    rw [if_neg (cz_nn (by omega))]
    have r0 := kt_rd F4.B (key := 0) (ci := 7) (Or.inl (by decide)) (kx_lt (by decide))
    rw [F4.1] at r0
    have e5 : ym_gR h4 (some M) 7 6 = some (some (ad4 6)) := by simp [ym_gR, ym_gf, r0, ym_toR]
    have el : ym_len h4 (some (ad4 6)) = some (Int32.ofNat 400) := by simp [ym_len, kt_arT F4.B (key := 6) (x := (4, 400, fun j => if j < k0.2.2 2 then .ref (ad4 (10000 + j)) else .null)) (kx_lt (by decide))]
    by_cases cc : (sp_run a.A).nl = 400
    · have dB : sp_lot (sp_run a.A) o x y = (-12, sp_run a.A, []) := by unfold sp_lot; rw [if_neg c, if_pos cc]
      rw [dB]
      dsimp only
      rw [if_pos (show (-12 : Int64) < 0 by decide), e5, Option.bind_some, el, Option.bind_some, if_neg (by rw [cc]; decide)]
      dsimp only
      exact x_no (v := 12) C0 hf hN F4 (by decide)
    · have dB : sp_lot (sp_run a.A) o x y = (Int64.ofNat (sp_run a.A).nl, sp_newL (sp_run a.A) o x y, []) := by unfold sp_lot; rw [if_neg c, if_neg cc]
      have hb' : (sp_run a.A).nl < 400 := by omega
      obtain ⟨k2, J2, p1, C2⟩ := CR_newL (N := N) (a' := ((abPk 2 o 0 0 x y a :: a.A, a.dp, a.mq, a.num, a.tr + 1, 0, []) : ab)) (kd := o) (x := x) (y := y) C0 hn hb' (by show (sp_do (abPk 2 o 0 0 x y a) (sp_run a.A)).2.1 = _; rw [dd, dB]; rfl) rfl rfl rfl rfl rfl (fun i hi => lvD_cons (a := a) (hf.m1 i hi)) hf.d8
      have ev : Int32.toInt64 (nI (sp_run a.A).nl + 1) = Int64.ofNat ((sp_run a.A).nl + 1) := by
        rw [show nI (sp_run a.A).nl + 1 = nI ((sp_run a.A).nl + 1) from cz_add _ 1, cl_64 (by omega)]
      obtain ⟨ad', w', h', t, F'⟩ := t_lot (N := N) (l := (sp_run a.A).nl) (m := J.length) (kd := o) (x := x) (y := y) (v := Int32.toInt64 (nI (sp_run a.A).nl + 1)) (s2 := k2) F4 hb' C0.w.dim.2.2.2 C0.w.j.cap.2.2.2.2.1 (fun i hi => by
        have t := CR_who C0 hi
        have t' : dm (sp_run a.A) (k0.2.2 (5000 + i)) := t
        unfold dm at t'
        have := P.b0.2
        omega) (by rw [ev]; exact p1)
      rw [e5, Option.bind_some] at t
      rw [dB]
      dsimp only
      rw [if_neg (nle64.mpr (ofn_ge (by omega))), e5, Option.bind_some, el, Option.bind_some, if_pos (show nI (sp_run a.A).nl < Int32.ofNat 400 from (cz_lt (by omega) (by omega)).mpr hb'), Option.bind_some, t]
      rw [if_neg (show ¬ (19 : Int32) < 2 by decide), if_neg (show ¬ ((2 : Int32) = 9 ∨ (2 : Int32) = 10) by decide)]
      exact ⟨ad', w', h', k2, J2, jm, g + 1, n + 1, by rw [cl_64 (by omega)], F', C2, by omega, by omega⟩
theorem x_act {v o t i : Int32} {x y : Int64} {fr : Option (Int64 × ym_H)} {res : Option (Int64 × mt_S)} (C : CR k a J jm g n) (hf : wfT a T) (hT : T < 512) (hw : plainW v ∨ bidW v) (hn : n + 40 ≤ 30000) (hN : 40000 ≤ N) (F : kt_F X M h0 s0 ad w h k) (hk : kt_ok X ad h k fr res)
    (hck : ∀ k0, gk_X7_startAct N k = some ((), k0) → cw k0 k0 (sp_run a.A) J [] [] g n → k0.1 0 0 = nI a.num → ck N k0 (if v = 9 ∨ v = 10 then gm_setI k0 0 0 (nI (a.num + 1)) else k0) (sp_run a.A) J [] g n res (sp_do (abPk v o t i x y a) (sp_run a.A))) : cS X M h0 s0 fr (abAct v o t i x y a).1 (abAct v o t i x y a).2 g n := by
  obtain ⟨k', J', g', n', e, C', l1, l2⟩ := CR_act C hf hT hw hn hN hck
  obtain ⟨ad', w', h', e2, F'⟩ := F.go hk e
  exact ⟨ad', w', h', k', J', jm, g', n', e2, F', C', l1, l2⟩
theorem x_ask0 {α : Type} {fr : Option (α × ym_H)} {res : Option (α × mt_S)} {r : α} (C : CR k a J jm g n) (F : kt_F X M h0 s0 ad w h k) (hk : kt_ok X ad h k fr res) (e : res = some (r, k)) : cS X M h0 s0 fr r a g n := by
  obtain ⟨ad', w', h', e2, F'⟩ := F.go hk e
  exact ⟨ad', w', h', k, J, jm, g, n, e2, F', C, by omega, by omega⟩
end XS
/-- calls of the reference -/
def rS {α : Type} (M : Nat) (X : Nat → Prop) (h0 : ym_H) (s0 : mt_S) (o : Option (α × ym_H)) (r : α) (a' : ab) : Prop := ∃ (ad' : Nat → Nat) (h' : ym_H) (s' : mt_S), o = some (r, h') ∧ mt_B M X ad' h0 s0 h' s' ∧ RR s' a'
theorem y_go {α : Type} {M : Nat} {X : Nat → Prop} {h : ym_H} {s s' : mt_S} {o : Option (α × ym_H)} {g : Option (α × mt_S)} {r : α} {a' : ab} (hk : mt_ok M X h s o g) (e : g = some (r, s')) (R : RR s' a') : rS M X h s o r a' := by
  obtain ⟨ad', h', e1, B⟩ := hk r s' e
  exact ⟨ad', h', s', e1, B, R⟩
/-- a call that both answer alike -/
def okC {α : Type} (M1 M2 T : Nat) (fx fr : ym_H → Option (α × ym_H)) : Prop := ∀ a, wfT a T → ∃ (r : α) (a' : ab), wfT a' (T + 1) ∧ (∀ (X : Nat → Prop) (h0 : ym_H) (s0 : mt_S) (ad : Nat → Nat) (w : Nat → Value) (h : ym_H) (k : mt_S) (J : List je) (jm : Nat → Nat) (g n : Nat), CR k a J jm g n → n + 40 ≤ 30000 → kt_F X M1 h0 s0 ad w h k → cS X M1 h0 s0 (fx h) r a' g n) ∧ (∀ (X : Nat → Prop) (ad : Nat → Nat) (h : ym_H) (s : mt_S), RR s a → mt_B M2 X ad h s h s → rS M2 X h s (fr h) r a')
theorem wf_up {a : ab} {T : Nat} (h : wfT a T) : wfT a (T + 1) := ⟨h.ok, h.nA, h.nn, by have := h.nt; omega, h.d8, h.m1, h.m2⟩
