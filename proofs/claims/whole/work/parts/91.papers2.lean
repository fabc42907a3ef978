/-! the papers' entry -/
theorem sum_i {x : Int64} : sp_sumOk x ↔ 1 ≤ x.toInt ∧ x.toInt ≤ 1000000000000 := by
  unfold sp_sumOk
  rw [Int64.lt_iff_toInt_lt, Int64.lt_iff_toInt_lt]
  have a : (1 : Int64).toInt = 1 := by decide
  have b : (1000000000000 : Int64).toInt = 1000000000000 := by decide
  rw [a, b]
  omega
theorem mon_i {x : Int64} : sp_monOk x ↔ 0 ≤ x.toInt ∧ x.toInt ≤ 1000000000000 := by
  unfold sp_monOk
  rw [Int64.lt_iff_toInt_lt, Int64.lt_iff_toInt_lt]
  have a : (0 : Int64).toInt = 0 := by decide
  have b : (1000000000000 : Int64).toInt = 1000000000000 := by decide
  rw [a, b]
  omega
theorem add_i {x y : Int64} (h : -9000000000000000000 ≤ x.toInt + y.toInt ∧ x.toInt + y.toInt ≤ 9000000000000000000) : (x + y).toInt = x.toInt + y.toInt := by
  rw [Int64.toInt_add, Int.bmod_eq_of_le] <;> omega
theorem sub_i {x y : Int64} (h : -9000000000000000000 ≤ x.toInt - y.toInt ∧ x.toInt - y.toInt ≤ 9000000000000000000) : (x - y).toInt = x.toInt - y.toInt := by
  rw [Int64.toInt_sub, Int.bmod_eq_of_le] <;> omega
theorem aft_i {D : pd} {M : Nat} (hp : pi D M) (x : Int64) : ∀ k, k ≤ cn (D.st 0) → sp_sumOk (aft D.st x k) := by
  intro k
  induction k with
  | zero => intro _; show sp_sumOk 1; exact ⟨by decide, by decide⟩
  | succ k ih =>
    intro hk
    unfold aft
    split
    · exact hp.sw k (by omega)
    · exact ih (by omega)
theorem psum_ok {D : pd} {l M : Nat} (hp : pi D M) (hl : l < D.nl) (hM : M < 2 ^ 31) {k : Nat} (hk : (sp_pp D l).at_ = some k) : k < D.nL l ∧ sp_sumOk (sp_psum D l (sp_pp D l)) := by
  have P := pp_inv hp hl hM (D.nL l) (Nat.le_refl _)
  have I := hp.lot l hl
  change ppi D l M (D.nL l) (sp_pp D l) at P
  obtain ⟨k1, k2, k3⟩ := P.a k hk
  refine ⟨k1, ?_⟩
  obtain ⟨b1, b2, n, n1, n2, n3⟩ := I.lb k k1
  have hb : sp_sumOk (sp_pp D l).best := by rw [k3]; exact b2
  have s0 : 1 ≤ (if (sp_pp D l).second = 0 then D.facts l 0 else sp_after D.st (sp_pp D l).next).toInt := by
    split
    · exact (sum_i.mp I.so).1
    · rename_i c
      have x1 := sum_i.mp (P.gb c)
      have x2 := sum_i.mp (aft_i hp (sp_pp D l).next (cn (D.st 0)) (Nat.le_refl _))
      unfold sp_after
      rw [add_i (by omega)]
      omega
  unfold sp_psum
  dsimp only
  generalize (if (sp_pp D l).second = 0 then D.facts l 0 else sp_after D.st (sp_pp D l).next) = z0 at s0 ⊢
  by_cases c : (sp_pp D l).best < (if z0 < D.res l then D.res l else z0)
  · rw [if_pos c]; exact hb
  · rw [if_neg c]
    have hb2 := sum_i.mp hb
    rw [sum_i]
    rw [Int64.lt_iff_toInt_lt] at c
    refine ⟨?_, by omega⟩
    by_cases d : z0 < D.res l
    · rw [if_pos d]
      rw [Int64.lt_iff_toInt_lt] at d
      omega
    · rw [if_neg d]; exact s0
theorem pi_papers {D : pd} {l M : Nat} (hp : pi D M) (hl : l < D.nl) (hM : M < 2 ^ 31) (hn : D.nE l < 300) (hs : D.facts l 2 ≠ 0) : pi (sp_papers D l) M := by
  unfold sp_papers
  split
  · exact hp
  · dsimp only
    have p1 : pi ((D.putF l 9 (sp_pp D l).first).putF l 10 (sp_pp D l).second) M := pi_10 (pi_9 hp hl) hl
    cases hk : (sp_pp D l).at_ with
    | none => exact p1
    | some k =>
      dsimp only
      split
      · exact p1
      · obtain ⟨k1, k2⟩ := psum_ok hp hl hM hk
        obtain ⟨⟨b, b1, b2⟩, _⟩ := (hp.lot l hl).lb k k1
        have := hp.b0.2
        rw [b2, cl_32 (by omega)]
        exact pi_enter p1 hl b1 k2 hn hs
theorem w_papers {N : Nat} {s0 s : mt_S} {D : pd} {e l M : Nat} {ag : Bool} {cs : List Int32} (h : rs s0 s D e ag cs) (hp : pi D M) (hl : l < D.nl) (hM : M < 2 ^ 31) (he : e < 1990) (hn : D.nE l < 300) (hs : D.facts l 2 ≠ 0) (hN : 5000 ≤ N) : ∃ s' e', gm_X8_askPapers N (nI l) s = some ((), s') ∧ rs s0 s' (sp_papers D l) e' ag cs ∧ e' ≤ e + 1 := by
  have h4 := hp.l0.2
  have I := hp.lot l hl
  have P := pp_inv hp hl hM (D.nL l) (Nat.le_refl _)
  change ppi D l M (D.nL l) (sp_pp D l) at P
  unfold gm_X8_askPapers
  rw [w_isPlain h.v hp hl, Option.bind_some]
  dsimp only
  by_cases c : D.kind l = 4 ∨ D.kind l = 5
  · rw [if_pos c, if_pos rfl]
    refine ⟨s, e, rfl, ?_, by omega⟩
    unfold sp_papers
    rw [if_pos c]
    exact h
  · rw [if_neg c, if_neg (by decide), rd23 h.v hl h4, Option.bind_some]
    have body : ∃ s' e', gb_X8_askPapers_32 N (nI l) (-1) (D.facts l 8).toInt32 (if D.facts l 8 = 0 then 0 else D.facts l 7) s = some ((), s') ∧ rs s0 s' (sp_papers D l) e' ag cs ∧ e' ≤ e + 1 := by
      unfold gb_X8_askPapers_32
      have hL := (h.v.lot l hl).bd.2.1
      obtain ⟨f, g, q1, q2, q3⟩ := w_ppL (N := N) (bn := D.facts l 8) (bs := D.facts l 7) h.v hl h4 (D.nL l) 0 N (D.facts l 8).toInt32 0 (by omega) (by omega) (by rw [← (h.v.lot l hl).k23, Int32.toInt32_toInt64]; rfl) (by show Int32.toInt64 0 = (0 : Int64); decide)
      change f.toInt64 = (sp_pp D l).first at q2
      change g.toInt64 = (sp_pp D l).second at q3
      rw [cz_lit 40, cz_mul]
      rw [Nat.add_zero] at q1
      change gp_X8_askPapers_46 N N (nI l) (-1) (D.facts l 8).toInt32 (if D.facts l 8 = 0 then 0 else D.facts l 7) 0 0 (nI (40 * l)) s = some ((atI l (sp_pp D l).at_, f, (sp_pp D l).best, g, (sp_pp D l).next), s) at q1
      rw [q1, Option.bind_some]
      dsimp only
      have l28 : l < s.2.2 28 := by rw [h.v.len 28 (by decide)]; show l < 400; omega
      have l29 : l < s.2.2 29 := by rw [h.v.len 29 (by decide)]; show l < 400; omega
      rw [gm_wrI l28 (by omega), Option.bind_some, gm_wrI (by exact l29) (by omega), Option.bind_some]
      have h1 : rs s0 (gm_setI (gm_setI s 28 l f) 29 l g) ((D.putF l 9 (sp_pp D l).first).putF l 10 (sp_pp D l).second) e ag cs := by
        refine rs_of h (hi_I (hi_I hi_refl (by decide)) (by decide)) ?_
        rw [← q2, ← q3]
        exact rv_29 (rv_28 h.v hl) hl
      have p1 : pi ((D.putF l 9 (sp_pp D l).first).putF l 10 (sp_pp D l).second) M := pi_10 (pi_9 hp hl) hl
      unfold sp_papers
      rw [if_neg c]
      dsimp only
      generalize hD1 : (D.putF l 9 (sp_pp D l).first).putF l 10 (sp_pp D l).second = D1 at h1 p1 ⊢
      generalize gm_setI (gm_setI s 28 l f) 29 l g = t at h1 ⊢
      have hl1 : l < D1.nl := by rw [← hD1]; exact hl
      cases hk : (sp_pp D l).at_ with
      | none =>
        rw [show atI l none = -1 from rfl, if_neg (by decide)]
        exact ⟨t, e, rfl, h1, by omega⟩
      | some k =>
        obtain ⟨k1, k2⟩ := psum_ok hp hl hM hk
        rw [show atI l (some k) = nI (40 * l + k) from rfl, if_pos (nI_ge0 (by omega))]
        have k266 : ∀ x, x = sp_psum D l (sp_pp D l) → ∃ s' e', gb_X8_askPapers_266 N (nI l) (nI (40 * l + k)) x t = some ((), s') ∧ rs s0 s' (if sp_stand D1 l = (D.lims l (1 + 3 * k)).toInt32 ∧ ¬ sp_ssum D1 l < sp_psum D l (sp_pp D l) then D1 else sp_enter D1 l (D.lims l (1 + 3 * k)).toInt32 (sp_psum D l (sp_pp D l))) e' ag cs ∧ e' ≤ e + 1 := by
          intro x hx
          unfold gb_X8_askPapers_266
          have r20 := rd20 h1.v hl1 (by rw [← hD1]; exact h4) (k := k) (by rw [← hD1]; exact k1)
          rw [show D1.lims = D.lims from by rw [← hD1]; rfl] at r20
          rw [r20, Option.bind_some, w_stand h1.v p1 hl1 (by omega), Option.bind_some]
          dsimp only
          have ent : ∃ s' e', gb_X8_askPapers_295 N (nI l) x (D.lims l (1 + 3 * k)).toInt32 t = some ((), s') ∧ rs s0 s' (sp_enter D1 l (D.lims l (1 + 3 * k)).toInt32 (sp_psum D l (sp_pp D l))) e' ag cs ∧ e' ≤ e + 1 := by
            unfold gb_X8_askPapers_295
            obtain ⟨s', g1, g2⟩ := rs_enter (N := N) (b := (D.lims l (1 + 3 * k)).toInt32) (v := x) h1 hN hl1 (by rw [← hD1]; exact h4) (by omega) (by rw [← hD1]; exact hn) (by rw [← hD1]; exact hs)
            rw [g1, Option.bind_some]
            rw [hx] at g2
            exact ⟨s', e + 1, rfl, g2, by omega⟩
          by_cases a1 : sp_stand D1 l = (D.lims l (1 + 3 * k)).toInt32
          · rw [if_pos a1, w_ssum h1.v p1 hl1 (by omega), Option.bind_some]
            dsimp only
            by_cases a2 : sp_ssum D1 l < sp_psum D l (sp_pp D l)
            · rw [if_neg (by rw [hx, ← nle64]; exact fun z => z a2), if_neg (fun z => z.2 a2)]
              exact ent
            · rw [if_pos (by rw [hx]; exact nle64.mp a2), if_pos ⟨a1, a2⟩]
              exact ⟨t, e, rfl, h1, by omega⟩
          · rw [if_neg a1, if_neg (fun z => a1 z.1)]
            exact ent
        have k232 : ∀ x, x = (if (sp_pp D l).second = 0 then D.facts l 0 else sp_after D.st (sp_pp D l).next) → ∃ s' e', gb_X8_askPapers_232 N (nI l) (nI (40 * l + k)) (sp_pp D l).best x t = some ((), s') ∧ rs s0 s' (if sp_stand D1 l = (D.lims l (1 + 3 * k)).toInt32 ∧ ¬ sp_ssum D1 l < sp_psum D l (sp_pp D l) then D1 else sp_enter D1 l (D.lims l (1 + 3 * k)).toInt32 (sp_psum D l (sp_pp D l))) e' ag cs ∧ e' ≤ e + 1 := by
          intro x hx
          unfold gb_X8_askPapers_232
          have r7 := rd7 h1.v hl1 (by rw [← hD1]; exact h4)
          rw [show D1.res = D.res from by rw [← hD1]; rfl] at r7
          rw [r7, Option.bind_some]
          have k254 : ∀ y, y = (if x < D.res l then D.res l else x) → ∃ s' e', gb_X8_askPapers_254 N (nI l) (nI (40 * l + k)) (sp_pp D l).best y t = some ((), s') ∧ rs s0 s' (if sp_stand D1 l = (D.lims l (1 + 3 * k)).toInt32 ∧ ¬ sp_ssum D1 l < sp_psum D l (sp_pp D l) then D1 else sp_enter D1 l (D.lims l (1 + 3 * k)).toInt32 (sp_psum D l (sp_pp D l))) e' ag cs ∧ e' ≤ e + 1 := by
            intro y hy
            unfold gb_X8_askPapers_254
            by_cases b1 : (sp_pp D l).best < y
            · rw [if_neg (by rw [← nle64]; exact fun z => z b1)]
              refine k266 _ ?_
              unfold sp_psum
              dsimp only
              rw [← hx, ← hy, if_pos b1]
            · rw [if_pos (nle64.mp b1)]
              refine k266 _ ?_
              unfold sp_psum
              dsimp only
              rw [← hx, ← hy, if_neg b1]
          by_cases b0 : x < D.res l
          · rw [if_neg (by rw [← nle64]; exact fun z => z b0), Option.bind_some]
            exact k254 _ (by rw [if_pos b0])
          · rw [if_pos (nle64.mp b0)]
            exact k254 _ (by rw [if_neg b0])
        dsimp only
        by_cases g0 : (sp_pp D l).second = 0
        · have gz : g = 0 := (z32 q3).mpr g0
          have r6 := rd6 h1.v hl1 (by rw [← hD1]; exact h4)
          rw [show D1.facts l 0 = D.facts l 0 from by rw [← hD1]; rfl] at r6
          rw [gz, if_pos (by decide), r6, Option.bind_some]
          exact k232 _ (by rw [if_pos g0])
        · obtain ⟨n, n1, n2⟩ := P.g
          have gz : ¬ g ≤ 0 := by
            rw [← cl_le, q3, n2, show (0 : Int32).toInt64 = Int64.ofNat 0 from by decide, cl_leN (by omega) (by omega)]
            intro z
            apply g0
            rw [n2, show n = 0 from by omega]
            rfl
          have ra := w_after (N := N) (x := (sp_pp D l).next) h1.v p1.st.t0.2 hN
          rw [show D1.st = D.st from by rw [← hD1]; rfl] at ra
          rw [if_neg gz, ra, Option.bind_some]
          exact k232 _ (by rw [if_neg g0])
    obtain ⟨n, n1, n2⟩ := I.bn
    by_cases c8 : D.facts l 8 = 0
    · rw [if_pos c8] at body
      rw [if_pos (by rw [c8]; decide)]
      exact body
    · rw [if_neg c8] at body
      have nz : ¬ (D.facts l 8).toInt32 ≤ 0 := by
        rw [n2, cl_32 (by omega), show (0 : Int32) = nI 0 from rfl, cz_le (by omega) (by omega)]
        intro z
        apply c8
        rw [n2, show n = 0 from by omega]
        rfl
      rw [if_neg nz, rd24 h.v hl h4 c8, Option.bind_some]
      exact body
