/-! what bodies answer: the reference -/
theorem wm_bind {α β : Type} {s0 : mt_S} {D : pd} {e : Nat} {ag : Bool} {cs cs' : List Int32} {g : Option (α × mt_S)} {r : α} {f : α × mt_S → Option (β × mt_S)} {r' : β} (h : wm s0 D e ag cs g r) (k : ∀ s', rs s0 s' D e ag cs → wm s0 D e ag cs' (f (r, s')) r') : wm s0 D e ag cs' (Option.bind g f) r' := by
  obtain ⟨s', e1, h1⟩ := h
  rw [e1, Option.bind_some]
  exact k s' h1
theorem wm_ret {α : Type} {s0 s : mt_S} {D : pd} {e : Nat} {ag : Bool} {cs : List Int32} {r : α} (h : rs s0 s D e ag cs) : wm s0 D e ag cs (some (r, s)) r := ⟨s, rfl, h⟩
theorem wm_cs {α : Type} {s0 : mt_S} {D : pd} {e : Nat} {ag : Bool} {cs cs' : List Int32} {g : Option (α × mt_S)} {r : α} (h : wm s0 D e ag cs g r) (hc : cs = cs') : wm s0 D e ag cs' g r := hc ▸ h
section BD
variable {N : Nat} {s0 s : mt_S} {D : pd} {e l M : Nat} {ag : Bool} {cs : List Int32}
theorem w_pieces (h : rs s0 s D e ag cs) (hp : pi D M) (hl : l < D.nl) : wm s0 D e ag (addC ag cs (sp_pcC D l)) (gm_X8_piecesOf N (nI l) s) (sp_pc D l) := by
  have h4 := hp.l0.2
  unfold gm_X8_piecesOf
  rw [rd5 h.v hl h4, Option.bind_some]
  have k16 : ∀ (t : mt_S) (ct : List Int32), rs s0 t D e ag ct → wm s0 D e ag (addC ag ct (if D.kind l = 2 ∨ D.kind l = 3 then [5] else [4])) (gb_X8_piecesOf_16 N (nI l) t) (sp_pc D l) := by
    intro t ct ht
    unfold gb_X8_piecesOf_16 gb_X8_piecesOf_37
    rw [rd5 ht.v hl h4, Option.bind_some]
    have k42 : ∀ c, wm s0 D e ag (addC ag ct [c]) (gb_X8_piecesOf_42 N (nI l) c t) (sp_pc D l) := by
      intro c
      unfold gb_X8_piecesOf_42
      refine wm_bind (w_mark ht) (fun s' hs => ?_)
      dsimp only
      rw [rd5 hs.v hl h4, Option.bind_some]
      unfold sp_pc
      by_cases a : D.kind l = 2
      · rw [if_pos a, if_neg (by rw [a]; decide), if_pos a]
        exact wm_ret hs
      · rw [if_neg a, Option.bind_some]
        by_cases b : D.kind l = 3
        · rw [if_pos b, if_pos b]; exact wm_ret hs
        · rw [if_neg b, if_neg b, if_neg a]; exact wm_ret hs
    by_cases a : D.kind l = 2
    · rw [if_pos a, if_pos (Or.inl a)]; exact k42 5
    · rw [if_neg a, Option.bind_some]
      by_cases b : D.kind l = 3
      · rw [if_pos b, if_pos (Or.inr b)]; exact k42 5
      · rw [if_neg b, if_neg (by rintro (z | z); exact a z; exact b z)]; exact k42 4
  by_cases b : D.kind l = 3
  · rw [if_pos b]
    refine wm_bind (w_mark h) (fun s' hs => ?_)
    refine wm_cs (k16 s' _ hs) ?_
    rw [addC_add, if_pos (Or.inr b)]
    unfold sp_pcC
    rw [if_pos b]
    rfl
  · rw [if_neg b]
    refine wm_cs (k16 s _ h) ?_
    unfold sp_pcC
    rw [if_neg b]
    by_cases a : D.kind l = 2
    · rw [if_pos (Or.inl a), if_pos a]
    · rw [if_neg (by rintro (z | z); exact a z; exact b z), if_neg a]
theorem w_ask (h : rs s0 s D e ag cs) (hp : pi D M) (hl : l < D.nl) (he : e < 2 ^ 31) (hN : 5000 ≤ N) : wm s0 D e ag (addC ag cs (sp_askC D l)) (gm_X8_askOf N (nI l) s) (sp_ask D l) := by
  have h4 := hp.l0.2
  unfold gm_X8_askOf sp_ask sp_askC
  rw [rd5 h.v hl h4, Option.bind_some]
  by_cases k5 : D.kind l = 5
  · rw [if_pos k5, if_pos k5, if_pos k5]
    refine wm_bind (w_mark h) (fun s' hs => ?_)
    dsimp only
    rw [rd10 hs.v hl h4, Option.bind_some]
    exact wm_ret hs
  · rw [if_neg k5, if_neg k5, if_neg k5, Option.bind_some]
    by_cases k4 : D.kind l = 4
    · rw [if_pos k4, if_pos k4, if_pos k4]
      refine wm_bind (w_mark h) (fun s' hs => ?_)
      unfold gb_X8_askOf_37
      refine wm_bind (w_mark hs) (fun s' hs => ?_)
      rw [addC_add] at hs
      dsimp only
      rw [rd5 hs.v hl h4, Option.bind_some, if_pos k4, rd6 hs.v hl h4, Option.bind_some]
      exact wm_ret hs
    · rw [if_neg k4, if_neg k4, if_neg k4]
      unfold gb_X8_askOf_37
      refine wm_bind (w_mark h) (fun s' hs => ?_)
      dsimp only
      rw [rd5 hs.v hl h4, Option.bind_some, if_neg k4, w_stand hs.v hp hl he, Option.bind_some]
      dsimp only
      by_cases c : sp_stand D l = -1
      · rw [if_neg (by rw [stand_ge hp hl]; exact fun z => z c), if_pos c, rd6 hs.v hl h4, Option.bind_some]
        exact wm_ret hs
      · rw [if_pos ((stand_ge hp hl).mpr c), if_neg c, w_ssum hs.v hp hl he, Option.bind_some, w_after hs.v hp.st.t0.2 hN, Option.bind_some]
        exact wm_ret hs
theorem w_sold (h : rs s0 s D e ag cs) (hp : pi D M) (hl : l < D.nl) (he : e < 2 ^ 31) : wm s0 D e ag (addC ag cs (sp_soldC D l)) (gm_X8_soldOf N (nI l) s) (if sp_sold D l then 1 else 0) := by
  have h4 := hp.l0.2
  unfold gm_X8_soldOf sp_soldC
  rw [rd5 h.v hl h4, Option.bind_some]
  have k46 : ∀ (t : mt_S) (ct : List Int32), rs s0 t D e ag ct → D.kind l ≠ 5 → wm s0 D e ag (addC ag ct [11]) (gb_X8_soldOf_46 N (nI l) t) (if sp_sold D l then 1 else 0) := by
    intro t ct ht k5
    unfold gb_X8_soldOf_46
    refine wm_bind (w_mark ht) (fun s' hs => ?_)
    dsimp only
    rw [w_stand hs.v hp hl he, Option.bind_some]
    dsimp only
    by_cases c : sp_stand D l = -1
    · rw [if_pos ((stand_neg hp hl).mpr c), if_neg (show ¬ sp_sold D l from by unfold sp_sold; rw [if_neg k5]; exact fun z => z.1 c)]
      exact wm_ret hs
    · rw [if_neg (by rw [stand_neg hp hl]; exact c), w_ssum hs.v hp hl he, Option.bind_some, rd7 hs.v hl h4, Option.bind_some]
      dsimp only
      by_cases d : sp_ssum D l < D.res l
      · rw [if_pos d, if_neg (show ¬ sp_sold D l from by unfold sp_sold; rw [if_neg k5]; exact fun z => z.2 d)]
        exact wm_ret hs
      · rw [if_neg d, if_pos (show sp_sold D l from by unfold sp_sold; rw [if_neg k5]; exact ⟨c, d⟩)]
        exact wm_ret hs
  by_cases k5 : D.kind l = 5
  · rw [if_pos k5, if_pos k5]
    refine wm_bind (w_mark h) (fun s' hs => ?_)
    dsimp only
    rw [w_stand hs.v hp hl he, Option.bind_some]
    dsimp only
    by_cases c : sp_stand D l = -1
    · rw [if_pos ((stand_neg hp hl).mpr c), if_neg (show ¬ sp_sold D l from by unfold sp_sold; rw [if_pos k5]; exact fun z => z c)]
      exact wm_ret hs
    · rw [if_neg (by rw [stand_neg hp hl]; exact c), if_pos (show sp_sold D l from by unfold sp_sold; rw [if_pos k5]; exact c)]
      exact wm_ret hs
  · rw [if_neg k5, if_neg k5, Option.bind_some]
    by_cases k4 : D.kind l = 4
    · rw [if_pos k4, if_pos k4]
      refine wm_bind (w_mark h) (fun s' hs => ?_)
      refine wm_cs (k46 s' _ hs k5) ?_
      rw [addC_add]
      rfl
    · rw [if_neg k4, if_neg k4]
      exact k46 s _ h k5
/-! rows -/
theorem fr_none {g : Nat → Int64} {b : Int64} : ∀ (n i : Nat), fr g b n i = none ↔ ∀ j, i ≤ j → j < i + n → g j ≠ b := by
  intro n
  induction n with
  | zero => intro i; exact ⟨fun _ j a c => by omega, fun _ => rfl⟩
  | succ n ih =>
    intro i
    unfold fr
    by_cases c : g i = b
    · rw [if_pos c]
      exact ⟨fun z => (by cases z), fun z => absurd c (z i (by omega) (by omega))⟩
    · rw [if_neg c, ih]
      refine ⟨fun z j a d => ?_, fun z j a d => z j (by omega) (by omega)⟩
      by_cases e1 : j = i
      · rw [e1]; exact c
      · exact z j (by omega) (by omega)
theorem fr_some {g : Nat → Int64} {b : Int64} : ∀ (n i r : Nat), fr g b n i = some r → i ≤ r ∧ r < i + n ∧ g r = b := by
  intro n
  induction n with
  | zero => intro i r z; cases z
  | succ n ih =>
    intro i r z
    unfold fr at z
    by_cases c : g i = b
    · rw [if_pos c] at z
      cases z
      exact ⟨by omega, by omega, c⟩
    · rw [if_neg c] at z
      obtain ⟨x, y, w⟩ := ih (i + 1) r z
      exact ⟨by omega, by omega, w⟩
theorem w_limL {b : Int32} (h : rv s D e) (hl : l < D.nl) (h4 : D.nl ≤ 400) : ∀ (d i n : Nat), i + d = D.nL l → d < n → gp_X8_limitOf_2 N n (nI l) b (nI i) s = some (match fr (fun k => D.lims l (1 + 3 * k)) b.toInt64 d i with | none => .inl () | some r => .inr (nI (40 * l + r)), s) := by
  have hb := (h.lot l hl).bd.2.1
  intro d
  induction d with
  | zero =>
    intro i n hi hn
    obtain ⟨n, rfl⟩ : ∃ m, n = m + 1 := ⟨n - 1, by omega⟩
    unfold gp_X8_limitOf_2 gl_X8_limitOf_2
    rw [rd19 h hl h4, Option.bind_some, if_pos (by rw [cz_le (by omega) (by omega)]; omega)]
    rfl
  | succ d ih =>
    intro i n hi hn
    obtain ⟨n, rfl⟩ : ∃ m, n = m + 1 := ⟨n - 1, by omega⟩
    unfold gp_X8_limitOf_2 gl_X8_limitOf_2
    rw [rd19 h hl h4, Option.bind_some, if_neg (by rw [cz_le (by omega) (by omega)]; omega), cz_lit 40, cz_mul, cz_add, rd20 h hl h4 (by omega), Option.bind_some]
    unfold fr
    by_cases c : D.lims l (1 + 3 * i) = b.toInt64
    · rw [if_pos ((t32i ((h.lot l hl).lim i (by omega)).1).mpr c), if_pos c]
    · rw [if_neg (fun z => c ((t32i ((h.lot l hl).lim i (by omega)).1).mp z)), if_neg c, cz_lit 1, cz_add]
      exact ih (i + 1) n (by omega) (by omega)
theorem w_limitOf {b : Int32} (h : rv s D e) (hl : l < D.nl) (h4 : D.nl ≤ 400) (hN : 5000 ≤ N) : gm_X8_limitOf N (nI l) b s = some (match sp_limRow D l b with | none => -1 | some r => nI (40 * l + r), s) := by
  have hb := (h.lot l hl).bd.2.1
  unfold gm_X8_limitOf sp_limRow
  rw [show (0 : Int32) = nI 0 from rfl, w_limL h hl h4 (D.nL l) 0 N (by omega) (by omega), Option.bind_some]
  dsimp only
  cases fr (fun k => D.lims l (1 + 3 * k)) b.toInt64 (D.nL l) 0 <;> rfl
theorem w_agL {A : Int64} {b : Nat} (hp : pi D M) (hb : b < D.nb) (hN : 5000 ≤ N) : ∀ (d k n : Nat) (s : mt_S), k + d = D.nl → d < n → rs s0 s D e ag (addC ag cs (sp_wr D (nI b) k).2) → wm s0 D e ag (addC ag cs (sp_wr D (nI b) D.nl).2) (gp_X8_mayAgent_12 N n (nI b) (A + (sp_wr D (nI b) k).1) (nI k) s) (A + (sp_wr D (nI b) D.nl).1) := by
  have h4 := hp.l0.2
  intro d
  induction d with
  | zero =>
    intro k n s hk hn h
    obtain ⟨n, rfl⟩ : ∃ m, n = m + 1 := ⟨n - 1, by omega⟩
    unfold gp_X8_mayAgent_12 gl_X8_mayAgent_12
    rw [h.v.nl, if_pos (by rw [cz_le (by omega) (by omega)]; omega)]
    rw [show k = D.nl from by omega] at h ⊢
    exact wm_ret h
  | succ d ih =>
    intro k n s hk hn h
    obtain ⟨n, rfl⟩ : ∃ m, n = m + 1 := ⟨n - 1, by omega⟩
    have kl : k < D.nl := by omega
    unfold gp_X8_mayAgent_12 gl_X8_mayAgent_12
    rw [h.v.nl, if_neg (by rw [cz_le (by omega) (by omega)]; omega), rd9 h.v kl h4, Option.bind_some]
    have I := hp.lot k kl
    have skip : sp_wr D (nI b) (k + 1) = sp_wr D (nI b) k → wm s0 D e ag (addC ag cs (sp_wr D (nI b) D.nl).2) (gb_X8_mayAgent_43_12 (gp_X8_mayAgent_12 N n) N (nI b) (A + (sp_wr D (nI b) k).1) (nI k) (-1) s) (A + (sp_wr D (nI b) D.nl).1) := by
      intro z
      unfold gb_X8_mayAgent_43_12 gb_X8_mayAgent_69_12
      rw [if_pos (by decide), cz_lit 1, cz_add]
      have q := ih (k + 1) n s (by omega) (by omega)
      rw [z] at q
      exact q h
    by_cases c : D.facts k 2 = 0 ∨ D.facts k 2 = 1
    · rw [if_pos (by rcases c with z | z <;> rw [z] <;> decide), w_limitOf h.v kl h4 hN, Option.bind_some]
      dsimp only
      cases hr : sp_limRow D k (nI b) with
      | none =>
        dsimp only
        refine skip ?_
        rw [sp_wr, if_pos c, hr]
      | some r =>
        dsimp only
        have r1 : r < D.nL k := by
          have := (fr_some _ _ _ hr).2.1
          omega
        have r2 := (h.v.lot k kl).bd.2.1
        have e1 : sp_wr D (nI b) (k + 1) = ((sp_wr D (nI b) k).1 + D.lims k (2 + 3 * r) * sp_pc D k, (sp_wr D (nI b) k).2 ++ sp_pcC D k) := by
          rw [sp_wr, if_pos c, hr]
        unfold gb_X8_mayAgent_43_12 gb_X8_mayAgent_69_12
        rw [if_neg (cz_nn (by omega)), rd21 h.v kl h4 r1, Option.bind_some]
        refine wm_bind (w_pieces h hp kl) (fun s' hs => ?_)
        rw [cz_lit 1, cz_add]
        have q := ih (k + 1) n s' (by omega) (by omega)
        rw [e1] at q
        dsimp only at q ⊢
        rw [addC_add] at hs
        rw [Int64.add_assoc]
        exact q hs
    · rw [if_neg (by rcases I.sts with z | z | z | z <;> first | exact absurd (Or.inl z) c | exact absurd (Or.inr z) c | (rw [z]; decide))]
      refine skip ?_
      rw [sp_wr, if_neg c]
theorem w_may {b : Nat} {x : Int64} (h : rs s0 s D e ag cs) (hp : pi D M) (hl : l < D.nl) (hb : b < D.nb) (hk : D.bkind b = 1 ∨ D.bkind b = 2 ∨ D.bkind b = 3 ∨ D.bkind b = 4) (hN : 5000 ≤ N) : wm s0 D e ag (addC ag cs (sp_mayC D b l)) (gm_X8_may N (nI b) (nI l) x s) (if sp_may D b l x then 1 else 0) := by
  have h4 := hp.l0.2
  unfold gm_X8_may
  rw [rd1 h.v hb hp.b0.2, Option.bind_some]
  rcases hk with z | z | z | z
  · rw [if_pos z, if_pos (show sp_may D b l x from by unfold sp_may; rw [z]; trivial)]
    refine wm_bind (w_mark h) (fun s' hs => ?_)
    refine wm_cs (wm_ret hs) ?_
    unfold sp_mayC
    rw [z]
    rfl
  · rw [if_neg (by rw [z]; decide), if_pos z, if_pos (show sp_may D b l x from by unfold sp_may; rw [z]; trivial)]
    refine wm_bind (w_mark h) (fun s' hs => ?_)
    refine wm_cs (wm_ret hs) ?_
    unfold sp_mayC
    rw [z]
    rfl
  · rw [if_neg (by rw [z]; decide), if_neg (by rw [z]; decide), if_pos z]
    refine wm_bind (w_mark h) (fun s' hs => ?_)
    refine wm_bind (w_mark hs) (fun s' hs => ?_)
    unfold gm_X8_mayAgent
    obtain ⟨s1, g1, h1⟩ := w_pieces (N := N) (l := l) hs hp hl
    dsimp only
    rw [g1]
    dsimp only [Option.bind_some]
    have q := w_agL (A := x * sp_pc D l) (b := b) (N := N) (s0 := s0) (e := e) (cs := addC ag (addC ag (addC ag cs [10]) [9]) (sp_pcC D l)) (ag := ag) hp hb hN D.nl 0 N s1 (by omega) (by omega) (by
      rw [show (sp_wr D (nI b) 0).2 = [] from rfl, addC_nil h1.c.2.2.1]
      exact h1)
    rw [show (sp_wr D (nI b) 0).1 = 0 from rfl, Int64.add_zero] at q
    obtain ⟨s2, g2, h2⟩ := q
    rw [show (0 : Int32) = nI 0 from rfl, g2]
    dsimp only [Option.bind_some]
    rw [rd2 h2.v hb hp.b0.2]
    dsimp only [Option.bind_some]
    rw [addC_add, addC_add, addC_add] at h2
    have hc : sp_mayC D b l = [10] ++ ([9] ++ (sp_pcC D l ++ (sp_wr D (nI b) D.nl).2)) := by
      unfold sp_mayC
      rw [z]
      simp
    rw [hc]
    by_cases c : D.purse b < x * sp_pc D l + (sp_wr D (nI b) D.nl).1
    · rw [if_pos c, if_neg (show ¬ sp_may D b l x from by unfold sp_may; rw [z, if_neg (by decide), if_pos rfl]; exact fun y => (nle64.mpr y) c)]
      exact wm_ret h2
    · rw [if_neg c, if_pos (show sp_may D b l x from by unfold sp_may; rw [z, if_neg (by decide), if_pos rfl]; exact nle64.mp c)]
      exact wm_ret h2
  · rw [if_neg (by rw [z]; decide), if_neg (by rw [z]; decide), if_neg (by rw [z]; decide), if_pos z]
    refine wm_bind (w_mark h) (fun s' hs => ?_)
    dsimp only
    rw [rd7 hs.v hl h4, Option.bind_some]
    have hc : sp_mayC D b l = [8] := by
      unfold sp_mayC
      rw [z]
      rfl
    rw [hc]
    by_cases c : x < D.res l
    · rw [if_neg (by rw [← nle64]; exact fun y => y c), if_pos (show sp_may D b l x from by unfold sp_may; rw [z, if_pos rfl]; exact c)]
      exact wm_ret hs
    · rw [if_pos (nle64.mp c), if_neg (show ¬ sp_may D b l x from by unfold sp_may; rw [z, if_pos rfl]; exact c)]
      exact wm_ret hs
end BD
