/-! bookings of the class -/
section FI
variable {N : Nat} {k0 k : mt_S} {D : pd} {J0 E : List je} {cs : List Int32} {g n M l b : Nat} {v : Int64}
theorem c_bookB {bI : Int32} (h : cw k0 k D J0 E cs g n) (hp : pi D M) (hn : n < 30000) : cp k0 (sp_addB D bI v) J0 cs g (n + 1) (gk_X7_bookToBidder N bI v k) () := by
  unfold gk_X7_bookToBidder sp_addB
  rw [c_bidW h hp, Option.bind_some]
  dsimp only
  by_cases c : sp_noBid D bI = 0
  · obtain ⟨x, hb⟩ := noBid0 hp.b0.2 c
    rw [if_pos c, if_pos c]
    dsimp only
    rw [c_bid h hb, Option.bind_some]
    unfold gk_X0_add
    rw [c_bid h hb, Option.bind_some, Option.bind_some, h.cel (dmB hb), Option.bind_some, c_B h hb hp.b0.2, Option.bind_some]
    dsimp only
    rw [h.cel (dmB hb), Option.bind_some]
    obtain ⟨k1, E1, a, d⟩ := c_pB (N := N) (v := D.bal (ix bI) 0 + v) h hb hp.b0.2 hn
    rw [a, Option.bind_some, Option.bind_some]
    exact ⟨k1, E1, rfl, d⟩
  · rw [if_neg c, if_neg c]
    exact ⟨k, E, rfl, cw_g h (by omega) (by omega) (by omega)⟩
theorem c_bookTo {p : Nat} {q : Int32} (h : cw k0 k D J0 E cs g n) (hq : q = nI p) (hp : p < 11) (h2 : 2 ≤ p) (hn : n < 30000) : cp k0 (D.putR p (D.room p + v)) J0 cs g (n + 1) (gk_X7_bookTo N q v k) () := by
  unfold gk_X7_bookTo
  rw [h.cel (dmR (by omega)), Option.bind_some, c_R h hq (by omega), Option.bind_some]
  dsimp only
  rw [h.cel (dmR (by omega)), Option.bind_some]
  obtain ⟨k1, E1, a, d⟩ := c_pR (N := N) (v := D.room p + v) h hq hp h2 hn
  rw [a, Option.bind_some]
  exact ⟨k1, E1, rfl, d⟩
theorem c_shareL {x : Int64} {m : Nat} (hp : pi D M) (hl : l < D.nl) (hm : m = D.nS l) (hm4 : m ≤ 4) : ∀ (d i f : Nat) (k : mt_S) (E : List je), i + d = m → d < f → n + m ≤ 30000 → cw k0 k (sp_share D l m x i) J0 E cs g (n + i) → cp k0 (sp_share D l m x m) J0 cs g (n + m) (gkp_X7_shareOut_29 N f (206 + 4 * l) (nI m) (x / Int64.ofNat m) (x - x / Int64.ofNat m * Int64.ofNat m) (nI i) k) () := by
  intro d
  induction d with
  | zero =>
    intro i f k E hi hf hn h
    obtain ⟨f, rfl⟩ : ∃ m, f = m + 1 := ⟨f - 1, by omega⟩
    unfold gkp_X7_shareOut_29 gkl_X7_shareOut_29
    rw [if_pos (by rw [cz_le (by omega) (by omega)]; omega)]
    rw [show i = m from by omega] at h
    exact ⟨k, E, rfl, h⟩
  | succ d ih =>
    intro i f k E hi hf hn h
    obtain ⟨f, rfl⟩ : ∃ m, f = m + 1 := ⟨f - 1, by omega⟩
    obtain ⟨b', hb'⟩ := share_form (D := D) (l := l) (n := m) (x := x) i
    have nlE : (sp_share D l m x i).nl = D.nl := by rw [hb']; rfl
    have se : (sp_share D l m x i).sels = D.sels := by rw [hb']; rfl
    have P := pi_share (l := l) (n := m) (x := x) hp i
    unfold gkp_X7_shareOut_29 gkl_X7_shareOut_29
    rw [if_neg (by rw [cz_le (by omega) (by omega)]; omega), c_sheL h (by rw [nlE]; exact hl) (by omega), Option.bind_some, c_atQ h (by rw [nlE]; exact hl) (by omega), Option.bind_some, se]
    dsimp only
    rw [cl_64 (by omega)]
    unfold gkb_X7_shareOut_63_29
    rw [show nI i + 1 = nI (i + 1) from cz_add i 1]
    have go : ∀ v, v = (if Int64.ofNat i < x - x / Int64.ofNat m * Int64.ofNat m then x / Int64.ofNat m + 1 else x / Int64.ofNat m) → cp k0 (sp_share D l m x m) J0 cs g (n + m) (Option.bind (gk_X7_bookToBidder N (D.sels l (1 + i)).toInt32 v k) fun q63 => gkp_X7_shareOut_29 N f (206 + 4 * l) (nI m) (x / Int64.ofNat m) (x - x / Int64.ofNat m * Int64.ofNat m) (nI (i + 1)) q63.2) () := by
      intro v hv
      obtain ⟨k1, E1, a1, h1⟩ := c_bookB (N := N) (bI := (D.sels l (1 + i)).toInt32) (v := v) h P (by omega)
      rw [a1, Option.bind_some]
      have stp : sp_addB (sp_share D l m x i) (D.sels l (1 + i)).toInt32 v = sp_share D l m x (i + 1) := by rw [hv]; rfl
      rw [stp] at h1
      exact ih (i + 1) f k1 E1 (by omega) (by omega) hn h1
    by_cases c : Int64.ofNat i < x - x / Int64.ofNat m * Int64.ofNat m
    · rw [if_neg (fun z => absurd c (nle64.mpr z))]
      exact go _ (by rw [if_pos c])
    · rw [if_pos (nle64.mp c)]
      exact go _ (by rw [if_neg c])
theorem c_share {x : Int64} (h : cw k0 k D J0 E cs g n) (hp : pi D M) (hl : l < D.nl) (hN : 5000 ≤ N) (hn : n + 4 ≤ 30000) : cp k0 (sp_share D l (D.nS l) x (D.nS l)) J0 cs g (n + 4) (gk_X7_shareOut N (206 + 4 * l) x k) () := by
  have s4 := (hp.lot l hl).s0.2
  unfold gk_X7_shareOut
  rw [c_sheL h hl (by omega), Option.bind_some, c_rowQ h hp hl, Option.bind_some]
  dsimp only
  rw [cl_64 (by omega)]
  by_cases c : D.nS l = 0
  · rw [if_neg (show ¬ 0 < nI (D.nS l) by rw [c]; decide), c]
    exact ⟨k, E, rfl, cw_g h (by omega) (by omega) (by omega)⟩
  · rw [if_pos (show 0 < nI (D.nS l) from (cz_lt (a := 0) (by omega) (by omega)).mpr (by omega))]
    have ne : ¬ Int64.ofNat (D.nS l) = 0 := by
      rw [show (0 : Int64) = Int64.ofNat 0 from rfl, cl_eq (by omega) (by omega)]; exact c
    rw [if_neg ne, if_neg ne]
    obtain ⟨k1, E1, a1, h1⟩ := c_shareL (N := N) (x := x) hp hl rfl s4 (D.nS l) 0 N k E (by omega) (by omega) (by omega) (h : cw k0 k (sp_share D l (D.nS l) x 0) J0 E cs g (n + 0))
    rw [show (0 : Int32) = nI 0 from rfl, a1, Option.bind_some]
    exact ⟨k1, E1, rfl, cw_g h1 (by omega) (by omega) (by omega)⟩
theorem c_finish {x : Int64} (h : cw k0 k D J0 E cs g n) (hp : pi D M) (hl : l < D.nl) (hf : D.facts l 2 ≠ 0) (hN : 5000 ≤ N) (hn : n + 8 ≤ 30000) : cp k0 (sp_finish D l x) J0 cs g (n + 8) (gk_X7_finish N l x k) () := by
  unfold gk_X7_finish sp_finish
  rw [c_lot h hl, Option.bind_some]
  by_cases c : 0 < x
  · rw [if_neg (fun z => absurd c (nle64.mpr z)), if_pos c]
    unfold gkb_X7_finish_20
    rw [h.cel (dmF hl), Option.bind_some]
    obtain ⟨k1, E1, a1, h1⟩ := c_pF (N := N) (v := 2) (q := 2) (p := 2) h hl rfl (by omega) (by omega)
    rw [a1, Option.bind_some, if_pos c]
    have P1 := pi_2 (v := 2) hp hl (Or.inr (Or.inl rfl)) hf
    have nlE : (D.putF l 2 2).nl = D.nl := rfl
    generalize D.putF l 2 2 = D1 at h1 P1 nlE ⊢
    have hl1 : l < D1.nl := by omega
    obtain ⟨q1, q2, q3⟩ := kd_tax P1 hl1
    dsimp only
    rw [c_tab (Or.inr rfl), Option.bind_some, c_prem h1 P1 hN, Option.bind_some]
    dsimp only
    rw [c_even, Option.bind_some]
    dsimp only
    rw [show sp_even (prm D1.br x (cn (D1.br 0)) (cn (D1.br 0))) = sp_premium D1 x from rfl, c_lot h1 hl1, Option.bind_some, h1.cel (dmR (by omega)), Option.bind_some, (h1.kd.l l hl1).1]
    have e5 : 5 + D1.kind l = nI (5 + ix (D1.kind l)) := by
      have : (5 : Int32) + nI (ix (D1.kind l)) = nI (5 + ix (D1.kind l)) := cz_add 5 _
      rw [← q1] at this
      exact this
    rw [c_R (p := 5 + ix (D1.kind l)) h1 e5 (by omega), Option.bind_some]
    dsimp only
    rw [c_even, Option.bind_some]
    dsimp only
    rw [show sp_even ((x + sp_premium D1 x) * D1.room (5 + ix (D1.kind l))) = sp_tax D1 l x from rfl, c_lot h1 hl1, Option.bind_some, h1.cel (dmF hl1), Option.bind_some, c_F (q := 1) (p := 1) h1 hl1 rfl (by omega), Option.bind_some]
    dsimp only
    rw [c_even, Option.bind_some]
    dsimp only
    rw [show sp_even (x * D1.facts l 1) = sp_cutOf D1 l x from rfl, c_lot h1 hl1, Option.bind_some, c_stand h1 P1 hl1, Option.bind_some]
    dsimp only
    unfold sp_book
    dsimp only
    obtain ⟨k2, E2, a2, h2⟩ := c_bookB (N := N) (bI := sp_stand D1 l) (v := -(x + sp_premium D1 x + sp_tax D1 l x)) h1 P1 (by omega)
    have P2 : pi (sp_addB D1 (sp_stand D1 l) (-(x + sp_premium D1 x + sp_tax D1 l x))) M := pi_addB P1
    have nl2 : (sp_addB D1 (sp_stand D1 l) (-(x + sp_premium D1 x + sp_tax D1 l x))).nl = D1.nl := by unfold sp_addB; split <;> rfl
    have nS2 : (sp_addB D1 (sp_stand D1 l) (-(x + sp_premium D1 x + sp_tax D1 l x))).nS = D1.nS := by unfold sp_addB; split <;> rfl
    rw [a2, Option.bind_some]
    generalize sp_addB D1 (sp_stand D1 l) (-(x + sp_premium D1 x + sp_tax D1 l x)) = D2 at h2 P2 nl2 nS2 ⊢
    dsimp only
    obtain ⟨k3, E3, a3, h3⟩ := c_bookTo (N := N) (q := 2) (p := 2) (v := sp_premium D1 x + sp_cutOf D1 l x) h2 rfl (by omega) (by omega) (by omega)
    have P3 : pi (D2.putR 2 (D2.room 2 + (sp_premium D1 x + sp_cutOf D1 l x))) M := pi_room P2 (by decide) (Or.inl (by decide))
    rw [a3, Option.bind_some]
    dsimp only
    obtain ⟨k4, E4, a4, h4⟩ := c_bookTo (N := N) (q := 3) (p := 3) (v := sp_tax D1 l x) h3 rfl (by omega) (by omega) (by omega)
    have P4 := pi_room (k := 3) (v := (D2.putR 2 (D2.room 2 + (sp_premium D1 x + sp_cutOf D1 l x))).room 3 + sp_tax D1 l x) P3 (by decide) (Or.inl (by decide))
    rw [a4, Option.bind_some]
    dsimp only
    have nl4 : ((D2.putR 2 (D2.room 2 + (sp_premium D1 x + sp_cutOf D1 l x))).putR 3 ((D2.putR 2 (D2.room 2 + (sp_premium D1 x + sp_cutOf D1 l x))).room 3 + sp_tax D1 l x)).nl = D2.nl := rfl
    have nS4 : ((D2.putR 2 (D2.room 2 + (sp_premium D1 x + sp_cutOf D1 l x))).putR 3 ((D2.putR 2 (D2.room 2 + (sp_premium D1 x + sp_cutOf D1 l x))).room 3 + sp_tax D1 l x)).nS = D2.nS := rfl
    generalize (D2.putR 2 (D2.room 2 + (sp_premium D1 x + sp_cutOf D1 l x))).putR 3 ((D2.putR 2 (D2.room 2 + (sp_premium D1 x + sp_cutOf D1 l x))).room 3 + sp_tax D1 l x) = D4 at h4 P4 nl4 nS4 ⊢
    rw [c_lot h4 (by omega), Option.bind_some]
    obtain ⟨k5, E5, a5, h5⟩ := c_share (N := N) (l := l) (x := x - sp_cutOf D1 l x) h4 P4 (by omega) hN (by omega)
    rw [a5, Option.bind_some, show D1.nS l = D4.nS l from by rw [nS4, nS2]]
    exact ⟨k5, E5, rfl, cw_g h5 (by omega) (by omega) (by omega)⟩
  · rw [if_pos (nle64.mp c), if_neg c]
    unfold gkb_X7_finish_20
    rw [h.cel (dmF hl), Option.bind_some]
    obtain ⟨k1, E1, a1, h1⟩ := c_pF (N := N) (v := 3) (q := 2) (p := 2) h hl rfl (by omega) (by omega)
    rw [a1, Option.bind_some, if_neg c]
    exact ⟨k1, E1, rfl, cw_g h1 (by omega) (by omega) (by omega)⟩
end FI
