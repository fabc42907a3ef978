/-! the class writes; the papers -/
def cp {α : Type} (k0 : mt_S) (D : pd) (J0 : List je) (cs : List Int32) (g n : Nat) (o : Option (α × mt_S)) (r : α) : Prop := ∃ k1 E1, o = some (r, k1) ∧ cw k0 k1 D J0 E1 cs g n
section WR
variable {N : Nat} {k0 k : mt_S} {D : pd} {J0 E : List je} {cs : List Int32} {g n M l b : Nat} {v : Int64}
theorem c_pF (h : cw k0 k D J0 E cs g n) (hl : l < D.nl) {p : Nat} {q : Int32} (hq : q = nI p) (hp : p < 14) (hn : n < 30000) : cp k0 (D.putF l p v) J0 cs g (n + 1) (gk_X2_put N (203 + 4 * l) q v k) () := by
  obtain ⟨k1, E1, a, b⟩ := k_putN (N := N) (v := v) (p := p) h (dmF hl) (Nat.lt_of_lt_of_le hp (h.lf.2 l (by have := h.dim; omega))) (by omega) hn
  rw [wrF] at b
  exact ⟨k1, E1, by rw [hq]; exact a, b⟩
theorem c_pR (h : cw k0 k D J0 E cs g n) {p : Nat} {q : Int32} (hq : q = nI p) (hp : p < 11) (h2 : 2 ≤ p) (hn : n < 30000) : cp k0 (D.putR p v) J0 cs g (n + 1) (gk_X2_put N 0 q v k) () := by
  obtain ⟨k1, E1, a, b⟩ := k_putN (N := N) (v := v) (p := p) h (c := 0) (dmR (by omega)) (Nat.lt_of_lt_of_le hp h.lf.1) (fun _ => h2) hn
  exact ⟨k1, E1, by rw [hq]; exact a, b⟩
theorem c_pB (h : cw k0 k D J0 E cs g n) (hb : b < D.nb) (h2 : D.nb ≤ 200) (hn : n < 30000) : cp k0 (D.putB b 0 v) J0 cs g (n + 1) (gk_X2_put N (3 + b) 0 v k) () := by
  obtain ⟨k1, E1, a, c⟩ := k_putN (N := N) (v := v) (p := 0) h (dmB hb) (Nat.lt_of_lt_of_le Nat.zero_lt_one (h.le _ (h.cl (dmB hb)).1).1) (by omega) hn
  rw [wrB (by omega)] at c
  exact ⟨k1, E1, a, c⟩
theorem c_p0 (h : cw k0 k D J0 E cs g n) {c : Nat} (hc : dm D c) (h0 : c ≠ 0) (hn : n < 30000) : cp k0 (wrD D c 0 v) J0 cs g (n + 1) (gk_X2_put N c 0 v k) () := by
  obtain ⟨k1, E1, a, d⟩ := k_putN (N := N) (v := v) (p := 0) h hc (Nat.lt_of_lt_of_le Nat.zero_lt_one (h.le _ (h.cl hc).1).1) (by omega) hn
  exact ⟨k1, E1, a, d⟩
theorem c_addRow (h : cw k0 k D J0 E cs g n) {c m : Nat} (hc : dm D c) (h0 : c ≠ 0) (hs : gk_she k c = some ()) (hr : gk_X5_rows N c k = some (nI m, k)) (hm : m < 1000) (hn : n < 30000) : cp k0 (wrD D c 0 (Int64.ofNat (m + 1))) J0 cs g (n + 1) (gk_X5_addRow N c k) (nI m) := by
  unfold gk_X5_addRow
  rw [hs, Option.bind_some, hr, Option.bind_some]
  dsimp only
  rw [hs, Option.bind_some, h.cel hc, Option.bind_some, show nI m + 1 = nI (m + 1) from cz_add m 1, cl_64 (by omega)]
  obtain ⟨k1, E1, a, d⟩ := c_p0 (N := N) (v := Int64.ofNat (m + 1)) h hc h0 hn
  rw [a, Option.bind_some]
  exact ⟨k1, E1, rfl, d⟩
theorem c_putS (h : cw k0 k D J0 E cs g n) {c w i j p : Nat} {q : Int32} (hc : dm D c) (h0 : c ≠ 0) (hs : gk_she k c = some ()) (hw : kt_w c = nI w) (hq : q = nI j) (hp : p = 1 + i * w + j) (hb : p ≤ 600) (hn : n < 30000) : cp k0 (wrD D c p v) J0 cs (g + 1) (n + 1) (gk_X5_put N c (nI i) q v k) () := by
  unfold gk_X5_put
  rw [hs, Option.bind_some, Option.bind_some, h.cel hc, Option.bind_some, hw, hq, show (1 : Int32) = nI 1 from rfl, cz_mul, cz_add, cz_add, ← hp]
  obtain ⟨k1, E1, a, d⟩ := k_putG (N := N) (v := v) h hc hb (by omega) hn
  rw [a, Option.bind_some]
  exact ⟨k1, E1, rfl, d⟩
theorem c_enter {bI : Int32} (h : cw k0 k D J0 E cs g n) (hp : pi D M) (hl : l < D.nl) (hE : D.nE l < 300) (hn : n + 3 ≤ 30000) : cp k0 (sp_enter D l bI v) J0 cs (g + 2) (n + 3) (gk_X4_enter N l bI v k) () := by
  unfold gk_X4_enter
  rw [c_lot h hl, Option.bind_some, c_sheL h hl (by omega), Option.bind_some]
  obtain ⟨k1, E1, a1, h1⟩ := c_addRow (N := N) h (dmE hl) (by omega) (c_sheL h hl (by omega)) (c_rowE h hp hl) (by omega) (by omega)
  rw [wrE] at h1
  rw [a1, Option.bind_some]
  dsimp only
  rw [c_lot h1 (by exact hl), Option.bind_some, c_sheL h1 (by exact hl) (by omega), Option.bind_some]
  obtain ⟨k2, E2, a2, h2⟩ := c_putS (N := N) (v := bI.toInt64) (i := D.nE l) (q := 0) (j := 0) (w := 2) (p := 1 + 2 * D.nE l) h1 (dmE (by exact hl)) (by omega) (c_sheL h1 (by exact hl) (by omega)) w2E rfl (by omega) (by omega) (by omega)
  rw [wrE] at h2
  rw [a2, Option.bind_some]
  dsimp only
  rw [c_lot h2 (by exact hl), Option.bind_some, c_sheL h2 (by exact hl) (by omega), Option.bind_some]
  obtain ⟨k3, E3, a3, h3⟩ := c_putS (N := N) (v := v) (i := D.nE l) (q := 1) (j := 1) (w := 2) (p := 2 + 2 * D.nE l) h2 (dmE (by exact hl)) (by omega) (c_sheL h2 (by exact hl) (by omega)) w2E rfl (by omega) (by omega) (by omega)
  rw [wrE] at h3
  rw [a3, Option.bind_some]
  exact ⟨k3, E3, rfl, h3⟩
theorem c_writeL {bI nn : Int32} (h : cw k0 k D J0 E cs g n) (hp : pi D M) (hl : l < D.nl) (hE : D.nL l < 40) (hn : n + 4 ≤ 30000) : cp k0 (sp_limPut D nn l bI v) J0 cs (g + 3) (n + 4) (gk_X4_writeLimit N l bI v nn k) () := by
  unfold gk_X4_writeLimit
  rw [c_lot h hl, Option.bind_some, c_sheL h hl (by omega), Option.bind_some]
  obtain ⟨k1, E1, a1, h1⟩ := c_addRow (N := N) h (dmL hl) (by omega) (c_sheL h hl (by omega)) (c_rowL h hp hl) (by omega) (by omega)
  rw [wrL] at h1
  rw [a1, Option.bind_some]
  dsimp only
  rw [c_lot h1 (by exact hl), Option.bind_some, c_sheL h1 (by exact hl) (by omega), Option.bind_some]
  obtain ⟨k2, E2, a2, h2⟩ := c_putS (N := N) (v := bI.toInt64) (i := D.nL l) (q := 0) (j := 0) (w := 3) (p := 1 + 3 * D.nL l) h1 (dmL (by exact hl)) (by omega) (c_sheL h1 (by exact hl) (by omega)) w2L rfl (by omega) (by omega) (by omega)
  rw [wrL] at h2
  rw [a2, Option.bind_some]
  dsimp only
  rw [c_lot h2 (by exact hl), Option.bind_some, c_sheL h2 (by exact hl) (by omega), Option.bind_some]
  obtain ⟨k3, E3, a3, h3⟩ := c_putS (N := N) (v := v) (i := D.nL l) (q := 1) (j := 1) (w := 3) (p := 2 + 3 * D.nL l) h2 (dmL (by exact hl)) (by omega) (c_sheL h2 (by exact hl) (by omega)) w2L rfl (by omega) (by omega) (by omega)
  rw [wrL] at h3
  rw [a3, Option.bind_some]
  dsimp only
  rw [c_lot h3 (by exact hl), Option.bind_some, c_sheL h3 (by exact hl) (by omega), Option.bind_some]
  obtain ⟨k4, E4, a4, h4⟩ := c_putS (N := N) (v := nn.toInt64) (i := D.nL l) (q := 2) (j := 2) (w := 3) (p := 3 + 3 * D.nL l) h3 (dmL (by exact hl)) (by omega) (c_sheL h3 (by exact hl) (by omega)) w2L rfl (by omega) (by omega) (by omega)
  rw [wrL] at h4
  rw [a4, Option.bind_some]
  exact ⟨k4, E4, rfl, h4⟩
theorem cp_g {α : Type} {o : Option (α × mt_S)} {r : α} {g' n' : Nat} (h : cp k0 D J0 cs g n o r) (hg : g ≤ g') (hn : n ≤ n') (h3 : n' ≤ 30000) : cp k0 D J0 cs g' n' o r := by
  obtain ⟨k1, E1, a, b⟩ := h
  exact ⟨k1, E1, a, cw_g b hg hn h3⟩
theorem c_papers (h : cw k0 k D J0 E cs g n) (hp : pi D M) (hl : l < D.nl) (hM : M < 2 ^ 31) (hE : D.nE l < 300) (hN : 5000 ≤ N) (hn : n + 5 ≤ 30000) : cp k0 (sp_papers D l) J0 cs (g + 2) (n + 5) (gk_X7_askPapers N l k) () := by
  have h40 := (hp.lot l hl).l0.2
  unfold gk_X7_askPapers sp_papers
  rw [c_lot h hl, Option.bind_some, c_raised h hl, Option.bind_some]
  dsimp only
  by_cases c45 : D.kind l = 4 ∨ D.kind l = 5
  · rw [if_pos (show (if D.kind l = 4 ∨ D.kind l = 5 then (0 : Int32) else 1) = 0 from if_pos c45), if_pos c45]
    exact ⟨k, E, rfl, cw_g h (by omega) (by omega) hn⟩
  · rw [if_neg (show ¬ (if D.kind l = 4 ∨ D.kind l = 5 then (0 : Int32) else 1) = 0 by rw [if_neg c45]; decide), if_neg c45, c_lot h hl, Option.bind_some]
    obtain ⟨t, gt, ht⟩ := c_great (N := N) (bt := none) h hp hl (fun x hx => Option.noConfusion rfl (heq_of_eq hx)) hN
    obtain ⟨t0, u0, p1, p2, p3, p4, p5, p6, p7, p8⟩ := pp_I hp hl hM (D.nL l) (Nat.le_refl _)
    have set1 : (fun r => (r < D.nL l + 1 ∧ rvP D l r) ∧ some r ≠ none) = fun r => (r < D.nL l ∨ r = D.nL l) ∧ rvP D l r := by
      funext r
      apply propext
      exact ⟨fun ⟨⟨z1, z2⟩, _⟩ => ⟨by omega, z2⟩, fun ⟨z1, z2⟩ => ⟨⟨by omega, z2⟩, by simp⟩⟩
    rw [set1] at ht
    have tt : t = t0 := top_uniq (fun a b => rvA_as) ht p1
    subst tt
    rw [show (-1 : Int32) = rowI none from rfl, gt, Option.bind_some]
    dsimp only
    have tl : ∀ x, t = some x → x ≤ D.nL l := by
      intro x hx
      subst hx
      have := ht.1.1
      omega
    -- who is next
    have key : ∀ u : Option Nat, u = u0 → (∀ x, u = some x → x ≤ D.nL l) → cp k0 (match (sp_pp D l).at_ with
      | none => (D.putF l 9 (sp_pp D l).first).putF l 10 (sp_pp D l).second
      | some k =>
        if sp_stand ((D.putF l 9 (sp_pp D l).first).putF l 10 (sp_pp D l).second) l = (D.lims l (1 + 3 * k)).toInt32 ∧ ¬ sp_ssum ((D.putF l 9 (sp_pp D l).first).putF l 10 (sp_pp D l).second) l < sp_psum D l (sp_pp D l) then (D.putF l 9 (sp_pp D l).first).putF l 10 (sp_pp D l).second
        else sp_enter ((D.putF l 9 (sp_pp D l).first).putF l 10 (sp_pp D l).second) l (D.lims l (1 + 3 * k)).toInt32 (sp_psum D l (sp_pp D l))) J0 cs (g + 2) (n + 5) (gkb_X7_askPapers_28 N l (rowI t) (rowI u) k) () := by
      intro u hu hul
      subst hu
      have q1 : (sp_pp D l).first = rvNum D l t := p4
      have q2 : (sp_pp D l).second = rvNum D l u := p5
      unfold gkb_X7_askPapers_28
      rw [c_lot h hl, Option.bind_some, Option.bind_some, c_rvN h hp hl tl, Option.bind_some]
      dsimp only
      rw [h.cel (dmF hl), Option.bind_some, ← q1]
      obtain ⟨k1, E1, a1, h1⟩ := c_pF (N := N) (v := (sp_pp D l).first) (q := 9) (p := 9) h hl rfl (by omega) (by omega)
      have P1 : pi (D.putF l 9 (sp_pp D l).first) M := pi_9 hp hl
      rw [a1, Option.bind_some]
      dsimp only
      rw [c_lot h1 (by exact hl), Option.bind_some, Option.bind_some, c_rvN h1 P1 (by exact hl) (by exact hul), Option.bind_some]
      dsimp only
      rw [h1.cel (dmF (by exact hl)), Option.bind_some, show rvNum (D.putF l 9 (sp_pp D l).first) l u = (sp_pp D l).second from by rw [q2]; cases u <;> rfl]
      obtain ⟨k2, E2, a2, h2⟩ := c_pF (N := N) (v := (sp_pp D l).second) (q := 10) (p := 10) (l := l) h1 (by exact hl) rfl (by omega) (by omega)
      have P2 : pi ((D.putF l 9 (sp_pp D l).first).putF l 10 (sp_pp D l).second) M := pi_10 P1 (by exact hl)
      rw [a2, Option.bind_some]
      dsimp only
      have don : cp k0 ((D.putF l 9 (sp_pp D l).first).putF l 10 (sp_pp D l).second) J0 cs (g + 2) (n + 5) (some ((), k2)) () := ⟨k2, E2, rfl, cw_g h2 (by omega) (by omega) hn⟩
      have eS : ∀ x, rvS ((D.putF l 9 (sp_pp D l).first).putF l 10 (sp_pp D l).second) l x = rvS D l x := fun x => rfl
      cases t with
      | none =>
        have q3 : (sp_pp D l).at_ = none := p7 rfl
        rw [if_pos (show rowI none = -1 from rfl), q3]
        exact don
      | some t =>
        have tl' := tl t rfl
        rw [if_neg (show ¬ rowI (some t) = -1 from fun z => by have := (rowI_m1 (r := some t) (fun x hx => by injection hx; omega)).mp z; exact absurd this (by simp)), c_lot h2 (by exact hl), Option.bind_some, show rowI (some t) = nI t from rfl, c_isLimit h2 P2 (by exact hl) (by omega), Option.bind_some]
        dsimp only
        rw [show ((D.putF l 9 (sp_pp D l).first).putF l 10 (sp_pp D l).second).nL l = D.nL l from rfl]
        obtain ⟨q4, q5⟩ := p6 t rfl
        have q4 : (sp_pp D l).best = rvS D l t := q4
        have q5 : (sp_pp D l).at_ = if t = D.nL l then none else some t := q5
        by_cases c1 : t < D.nL l
        · rw [if_pos c1, if_neg (by decide), q5, if_neg (show ¬ t = D.nL l by omega)]
          dsimp only
          -- the sum it must stand at
          have fin : ∀ s0 : Int64, s0 = (if (sp_pp D l).second = 0 then D.facts l 0 else sp_after D.st (sp_pp D l).next) → cp k0 (if sp_stand ((D.putF l 9 (sp_pp D l).first).putF l 10 (sp_pp D l).second) l = (D.lims l (1 + 3 * t)).toInt32 ∧ ¬ sp_ssum ((D.putF l 9 (sp_pp D l).first).putF l 10 (sp_pp D l).second) l < sp_psum D l (sp_pp D l) then (D.putF l 9 (sp_pp D l).first).putF l 10 (sp_pp D l).second else sp_enter ((D.putF l 9 (sp_pp D l).first).putF l 10 (sp_pp D l).second) l (D.lims l (1 + 3 * t)).toInt32 (sp_psum D l (sp_pp D l))) J0 cs (g + 2) (n + 5) (gkb_X7_askPapers_95 N l (nI t) s0 k2) () := by
            intro s0 hs0
            unfold gkb_X7_askPapers_95
            rw [c_lot h2 (by exact hl), Option.bind_some, c_rvS h2 P2 (by exact hl) (by exact tl'), Option.bind_some, eS]
            dsimp only
            rw [c_lot h2 (by exact hl), Option.bind_some, Option.bind_some, c_sheL h2 (by exact hl) (by omega), Option.bind_some, c_atL (q := 0) (j := 0) h2 (by exact hl) rfl (by omega) (by omega), Option.bind_some]
            dsimp only
            rw [c_lot h2 (by exact hl), Option.bind_some, c_stand h2 P2 (by exact hl), Option.bind_some]
            dsimp only
            rw [c_lot h2 (by exact hl), Option.bind_some, c_ssum h2 P2 (by exact hl), Option.bind_some]
            dsimp only
            rw [(h2.kd.l l (by exact hl)).2]
            have ps : (if (if s0 < D.res l then D.res l else s0) < rvS D l t then (if s0 < D.res l then D.res l else s0) else rvS D l t) = sp_psum D l (sp_pp D l) := by
              unfold sp_psum
              dsimp only
              rw [← hs0, q4]
              generalize (if s0 < D.res l then D.res l else s0) = y
              by_cases z1 : y < rvS D l t
              · rw [if_pos z1, if_neg (fun z2 => by rw [lt_i] at z1 z2; omega)]
              · rw [if_neg z1]
                by_cases z2 : rvS D l t < y
                · rw [if_pos z2]
                · rw [if_neg z2, ← Int64.toInt_inj]
                  rw [lt_i] at z1 z2
                  omega
            rw [show ((D.putF l 9 (sp_pp D l).first).putF l 10 (sp_pp D l).second).res l = D.res l from rfl, ps]
            have ent : cp k0 (sp_enter ((D.putF l 9 (sp_pp D l).first).putF l 10 (sp_pp D l).second) l (D.lims l (1 + 3 * t)).toInt32 (sp_psum D l (sp_pp D l))) J0 cs (g + 2) (n + 5) (gkb_X7_askPapers_147 N l (sp_psum D l (sp_pp D l)) (D.lims l (1 + 3 * t)).toInt32 k2) () := by
              unfold gkb_X7_askPapers_147
              rw [c_lot h2 (by exact hl), Option.bind_some]
              obtain ⟨k3, E3, a3, h3⟩ := c_enter (N := N) (v := sp_psum D l (sp_pp D l)) (bI := (D.lims l (1 + 3 * t)).toInt32) h2 P2 (by exact hl) (by exact hE) (by omega)
              rw [a3, Option.bind_some]
              exact ⟨k3, E3, rfl, h3⟩
            rw [show ((D.putF l 9 (sp_pp D l).first).putF l 10 (sp_pp D l).second).lims l (1 + 0 + 3 * t) = D.lims l (1 + 3 * t) from rfl]
            by_cases z1 : sp_stand ((D.putF l 9 (sp_pp D l).first).putF l 10 (sp_pp D l).second) l = (D.lims l (1 + 3 * t)).toInt32
            · rw [if_pos z1]
              by_cases z2 : sp_ssum ((D.putF l 9 (sp_pp D l).first).putF l 10 (sp_pp D l).second) l < sp_psum D l (sp_pp D l)
              · rw [if_neg (fun z => absurd z2 (nle64.mpr z)), if_neg (fun z => z.2 z2)]
                exact ent
              · rw [if_pos (nle64.mp z2), if_pos ⟨z1, z2⟩]
                exact don
            · rw [if_neg z1, if_neg (fun z => z1 z.1)]
              exact ent
          cases u with
          | none =>
            rw [if_pos (show rowI none = -1 from rfl), c_lot h2 (by exact hl), Option.bind_some, c_start h2 (by exact hl), Option.bind_some]
            refine fin _ ?_
            rw [if_pos (show (sp_pp D l).second = 0 from q2)]
            rfl
          | some u =>
            have ul := hul u rfl
            have U := p3 t rfl
            rw [if_neg (show ¬ rowI (some u) = -1 from fun z => by have := (rowI_m1 (r := some u) (fun x hx => by injection hx; omega)).mp z; exact absurd this (by simp)), c_lot h2 (by exact hl), Option.bind_some, show rowI (some u) = nI u from rfl, c_rvS h2 P2 (by exact hl) (by exact ul), Option.bind_some, eS]
            dsimp only
            rw [c_tab (Or.inl rfl), Option.bind_some, c_after h2 P2 hN, Option.bind_some]
            refine fin _ ?_
            have sne : (sp_pp D l).second ≠ 0 := by
              rw [q2]
              exact rvN_ne hp hl ul hM U.1.1.2
            rw [if_neg sne, show (sp_pp D l).next = rvS D l u from p8 u rfl]
            rfl
        · rw [if_neg c1, if_pos rfl, q5, if_pos (show t = D.nL l by omega)]
          exact don
    cases t with
    | none =>
      rw [if_pos rfl]
      exact key none (p2 rfl).symm (fun x hx => Option.noConfusion rfl (heq_of_eq hx))
    | some t =>
      have tl' := tl t rfl
      rw [if_neg (show ¬ rowI (some t) = rowI none from fun z => by have := (rowI_m1 (r := some t) (fun x hx => by injection hx; omega)).mp z; exact absurd this (by simp)), c_lot h hl, Option.bind_some]
      obtain ⟨u, gu, hu⟩ := c_great (N := N) (bt := some t) h hp hl tl hN
      have set2 : (fun r => (r < D.nL l + 1 ∧ rvP D l r) ∧ some r ≠ some t) = fun r => ((r < D.nL l ∨ r = D.nL l) ∧ rvP D l r) ∧ r ≠ t := by
        funext r
        apply propext
        exact ⟨fun ⟨⟨z1, z2⟩, z3⟩ => ⟨⟨by omega, z2⟩, fun y => z3 (by rw [y])⟩, fun ⟨⟨z1, z2⟩, z3⟩ => ⟨⟨by omega, z2⟩, fun y => z3 (by injection y)⟩⟩
      rw [set2] at hu
      have uu : u = u0 := top_uniq (fun a b => rvA_as) hu (p3 t rfl)
      rw [gu, Option.bind_some]
      dsimp only
      refine key u uu (fun x hx => ?_)
      subst hx
      have := hu.1.1.1
      omega
end WR
