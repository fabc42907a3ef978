/-! join and reoffer in the class -/
section KD
variable {N : Nat} {k00 k0 k : mt_S} {D : pd} {J0 E : List je} {cs : List Int32} {g n M l b : Nat} {v : Int64}
theorem a_join {a b c : Int32} (hs : gk_X7_startAct N k00 = some ((), k0)) (h : cw k0 k0 D J0 [] cs g n) (hp : pi D M) (hn : n + 40 ≤ 30000) : ck N k0 k0 D J0 cs g n (gk_X7_join N a b c k00) (sp_join D a b c) := by
  have h4 := hp.l0.2
  unfold gk_X7_join sp_join gkb_X7_join_82 gkb_X7_join_113 gkb_X7_join_174 gkb_X7_join_143
  rw [hs, Option.bind_some]
  dsimp only
  rw [c_lotAt h hp, Option.bind_some]
  dsimp only
  refine ck_wl hp (fun w wa hw e => ?_) (fun c e => ?_) <;> rw [e] <;> dsimp only
  · rw [c_lotAt h hp, Option.bind_some]
    dsimp only
    refine ck_wl hp (fun p pa hpp e => ?_) (fun c e => ?_) <;> rw [e] <;> dsimp only
    · rw [c_lotAt h hp, Option.bind_some]
      dsimp only
      refine ck_wl hp (fun q qa hq e => ?_) (fun c e => ?_) <;> rw [e] <;> dsimp only
      · have e1 : a = b ↔ w = p := by rw [wa, pa, cz_eq (by omega) (by omega)]
        have e2 : a = c ↔ w = q := by rw [wa, qa, cz_eq (by omega) (by omega)]
        have e3 : b = c ↔ p = q := by rw [pa, qa, cz_eq (by omega) (by omega)]
        have or3 : ∀ {p1 p2 p3 P1 P2 P3 : Prop} [Decidable p1] [Decidable p2] [Decidable p3] [Decidable P1] [Decidable P2] [Decidable P3] {o1 o2 : Option (Int64 × mt_S)} {r1 r2 : sr}, (p1 ↔ P1) → (p2 ↔ P2) → (p3 ↔ P3) → ck N k0 k0 D J0 cs g n o1 r1 → (¬ (P1 ∨ P2 ∨ P3) → ck N k0 k0 D J0 cs g n o2 r2) → ck N k0 k0 D J0 cs g n (if p1 then o1 else if p2 then o1 else if p3 then o1 else o2) (if P1 ∨ P2 ∨ P3 then r1 else r2) := by
          intro p1 p2 p3 P1 P2 P3 _ _ _ _ _ _ o1 o2 r1 r2 i1 i2 i3 y1 y2
          by_cases c1 : P1
          · rw [if_pos (i1.mpr c1), if_pos (Or.inl c1)]; exact y1
          · by_cases c2 : P2
            · rw [if_neg (fun z => c1 (i1.mp z)), if_pos (i2.mpr c2), if_pos (Or.inr (Or.inl c2))]; exact y1
            · by_cases c3 : P3
              · rw [if_neg (fun z => c1 (i1.mp z)), if_neg (fun z => c2 (i2.mp z)), if_pos (i3.mpr c3), if_pos (Or.inr (Or.inr c3))]; exact y1
              · have nn : ¬ (P1 ∨ P2 ∨ P3) := by rintro (z | z | z); exact c1 z; exact c2 z; exact c3 z
                rw [if_neg (fun z => c1 (i1.mp z)), if_neg (fun z => c2 (i2.mp z)), if_neg (fun z => c3 (i3.mp z)), if_neg nn]
                exact y2 nn
        have an3 : ∀ {p1 p2 p3 P1 P2 P3 : Prop} [Decidable p1] [Decidable p2] [Decidable p3] [Decidable P1] [Decidable P2] [Decidable P3] {o1 o2 : Option (Int64 × mt_S)} {r1 r2 : sr}, (p1 ↔ ¬ P1) → (p2 ↔ ¬ P2) → (p3 ↔ ¬ P3) → ck N k0 k0 D J0 cs g n o1 r1 → (¬ (P1 ∨ P2 ∨ P3) → ck N k0 k0 D J0 cs g n o2 r2) → ck N k0 k0 D J0 cs g n (if p1 then if p2 then if p3 then o2 else o1 else o1 else o1) (if P1 ∨ P2 ∨ P3 then r1 else r2) := by
          intro p1 p2 p3 P1 P2 P3 _ _ _ _ _ _ o1 o2 r1 r2 i1 i2 i3 y1 y2
          by_cases c1 : P1
          · rw [if_neg (fun z => i1.mp z c1), if_pos (Or.inl c1)]; exact y1
          · by_cases c2 : P2
            · rw [if_pos (i1.mpr c1), if_neg (fun z => i2.mp z c2), if_pos (Or.inr (Or.inl c2))]; exact y1
            · by_cases c3 : P3
              · rw [if_pos (i1.mpr c1), if_pos (i2.mpr c2), if_neg (fun z => i3.mp z c3), if_pos (Or.inr (Or.inr c3))]; exact y1
              · have nn : ¬ (P1 ∨ P2 ∨ P3) := by rintro (z | z | z); exact c1 z; exact c2 z; exact c3 z
                rw [if_pos (i1.mpr c1), if_pos (i2.mpr c2), if_pos (i3.mpr c3), if_neg nn]
                exact y2 nn
        refine or3 e1 e2 e3 (ck_no h (by decide) (by decide)) (fun _ => ?_)
        rw [c_lot h hw, Option.bind_some, c_raised h hw, Option.bind_some]
        dsimp only
        rw [c_lot h hpp, Option.bind_some, c_raised h hpp, Option.bind_some]
        dsimp only
        rw [c_lot h hq, Option.bind_some, c_raised h hq, Option.bind_some]
        dsimp only
        refine or3 b01 b01 b01 (ck_no h (by decide) (by decide)) (fun _ => ?_)
        rw [c_lot h hw, Option.bind_some, c_state h hw, Option.bind_some]
        dsimp only
        rw [c_lot h hpp, Option.bind_some, c_state h hpp, Option.bind_some]
        dsimp only
        rw [c_lot h hq, Option.bind_some, c_state h hq, Option.bind_some]
        dsimp only
        refine an3 (by rw [sts32 hp hw (Or.inl rfl), ← cl_0]; exact Decidable.not_not.symm) (by rw [sts32 hp hpp (Or.inl rfl), ← cl_0]; exact Decidable.not_not.symm) (by rw [sts32 hp hq (Or.inl rfl), ← cl_0]; exact Decidable.not_not.symm) (ck_no h (by decide) (by decide)) (fun _ => ?_)
        rw [c_lot h hw, Option.bind_some, c_joined h hw, Option.bind_some]
        dsimp only
        rw [c_lot h hpp, Option.bind_some, c_joined h hpp, Option.bind_some]
        dsimp only
        rw [c_lot h hq, Option.bind_some, c_joined h hq, Option.bind_some]
        dsimp only
        refine an3 (by rw [b01]; exact Decidable.not_not.symm) (by rw [b01]; exact Decidable.not_not.symm) (by rw [b01]; exact Decidable.not_not.symm) (ck_no h (by decide) (by decide)) (fun _ => ?_)
        rw [c_lot h hw, Option.bind_some, h.cel (dmF hw), Option.bind_some]
        obtain ⟨k1, E1, a1, h1⟩ := c_pF (N := N) (v := a.toInt64) (q := 11) (p := 11) h hw rfl (by omega) (by omega)
        rw [a1, Option.bind_some]
        dsimp only
        rw [c_lot h1 (by exact hw), Option.bind_some, h1.cel (dmF (by exact hw)), Option.bind_some]
        obtain ⟨k2, E2, a2, h2⟩ := c_pF (N := N) (v := b.toInt64) (q := 12) (p := 12) (l := w) h1 (by exact hw) rfl (by omega) (by omega)
        rw [a2, Option.bind_some]
        dsimp only
        rw [c_lot h2 (by exact hw), Option.bind_some, h2.cel (dmF (by exact hw)), Option.bind_some]
        obtain ⟨k3, E3, a3, h3⟩ := c_pF (N := N) (v := c.toInt64) (q := 13) (p := 13) (l := w) h2 (by exact hw) rfl (by omega) (by omega)
        rw [a3, Option.bind_some]
        dsimp only
        rw [c_lot h3 (by exact hpp), Option.bind_some, h3.cel (dmF (by exact hpp)), Option.bind_some]
        obtain ⟨k4, E4, a4, h4'⟩ := c_pF (N := N) (v := a.toInt64) (q := 11) (p := 11) (l := p) h3 (by exact hpp) rfl (by omega) (by omega)
        rw [a4, Option.bind_some]
        dsimp only
        rw [c_lot h4' (by exact hq), Option.bind_some, h4'.cel (dmF (by exact hq)), Option.bind_some]
        obtain ⟨k5, E5, a5, h5⟩ := c_pF (N := N) (v := a.toInt64) (q := 11) (p := 11) (l := q) h4' (by exact hq) rfl (by omega) (by omega)
        rw [a5, Option.bind_some]
        exact ck_ret h5 (by omega) (by omega) hn rfl rfl (by decide)
      · rw [c_whyL c, Option.bind_some]
        exact ck_no h (okL c) rfl
    · rw [c_whyL c, Option.bind_some]
      exact ck_no h (okL c) rfl
  · rw [c_whyL c, Option.bind_some]
    exact ck_no h (okL c) rfl
theorem zero_s {i : Nat} : sp_zero D l (i + 1) = (sp_zero D l i).putF l (2 + i) 0 := rfl
theorem zero_0 : sp_zero D l 0 = D := rfl
theorem zero_nl : ∀ i, (sp_zero D l i).nl = D.nl := by
  intro i
  induction i with
  | zero => rw [zero_0]
  | succ i ih =>
    rw [zero_s]
    exact ih
theorem c_renL (hl : l < D.nl) : ∀ (d i f : Nat) (k : mt_S) (E : List je) (n : Nat), i + d = 9 → d < f → n + d ≤ 30000 → cw k0 k (sp_zero D l i) J0 E cs g n → cp k0 (sp_zero D l 9) J0 cs g (n + d) (gkp_X4_renew_11 N f l (nI (2 + i)) k) () := by
  generalize hZ : sp_zero D l 9 = Z
  intro d
  induction d with
  | zero =>
    intro i f k E n hi hf hn h
    obtain ⟨f, rfl⟩ : ∃ m, f = m + 1 := ⟨f - 1, by omega⟩
    unfold gkp_X4_renew_11 gkl_X4_renew_11
    rw [if_pos (show (10 : Int32) < nI (2 + i) from (cz_lt (a := 10) (by omega) (by omega)).mpr (by omega))]
    rw [show i = 9 from by omega, hZ] at h
    exact ⟨k, E, rfl, h⟩
  | succ d ih =>
    intro i f k E n hi hf hn h
    obtain ⟨f, rfl⟩ : ∃ m, f = m + 1 := ⟨f - 1, by omega⟩
    unfold gkp_X4_renew_11 gkl_X4_renew_11
    have hl' : l < (sp_zero D l i).nl := by rw [zero_nl]; exact hl
    rw [if_neg (show ¬ (10 : Int32) < nI (2 + i) from fun z => by have := (cz_lt (a := 10) (by omega) (by omega)).mp z; omega), c_lot h hl', Option.bind_some, h.cel (dmF hl'), Option.bind_some]
    obtain ⟨k1, E1, a1, h1⟩ := c_pF (N := N) (v := 0) (q := nI (2 + i)) (p := 2 + i) (l := l) h hl' rfl (by omega) (by omega)
    rw [a1, Option.bind_some, show nI (2 + i) + 1 = nI (2 + (i + 1)) from cz_add (2 + i) 1]
    rw [← zero_s] at h1
    have q := ih (i + 1) f k1 E1 (n + 1) (by omega) (by omega) (by omega) h1
    rw [show n + (d + 1) = n + 1 + d from by omega]
    exact q
theorem c_ren2 {Z : pd} (h2 : cw k0 k Z J0 E cs g n) (hl2 : l < Z.nl) (hn : n + 2 ≤ 30000) : cp k0 ((Z.putE l 0 0).putL l 0 0) J0 cs g (n + 2) (Option.bind (gk_lot k l) fun _ => Option.bind (gk_she k (204 + 4 * l)) fun _ => Option.bind (gk_X5_clear N (204 + 4 * l) k) fun q36 => Option.bind (gk_lot q36.2 l) fun _ => Option.bind (gk_she q36.2 (205 + 4 * l)) fun _ => Option.bind (gk_X5_clear N (205 + 4 * l) q36.2) fun q43 => some ((), q43.2)) () := by
  rw [c_lot h2 hl2, Option.bind_some, c_sheL h2 hl2 (by omega), Option.bind_some]
  unfold gk_X5_clear
  rw [c_sheL h2 hl2 (by omega), Option.bind_some, h2.cel (dmE hl2), Option.bind_some]
  obtain ⟨k3, E3, a3, h3⟩ := c_p0 (N := N) (v := 0) h2 (dmE hl2) (by omega) (by omega)
  rw [wrE] at h3
  rw [a3, Option.bind_some, Option.bind_some]
  dsimp only
  have hl3 : l < (Z.putE l 0 0).nl := hl2
  rw [c_lot h3 hl3, Option.bind_some, c_sheL h3 hl3 (by omega), Option.bind_some, Option.bind_some, h3.cel (dmL hl3), Option.bind_some]
  obtain ⟨k4, E4, a4, h4⟩ := c_p0 (N := N) (v := 0) h3 (dmL hl3) (by omega) (by omega)
  rw [wrL] at h4
  rw [a4, Option.bind_some, Option.bind_some]
  exact ⟨k4, E4, rfl, h4⟩
theorem ren_e {x : Int64} : sp_renew D l x = ((sp_zero (D.putF l 0 x) l 9).putE l 0 0).putL l 0 0 := rfl
theorem c_renew {x : Int64} (h : cw k0 k D J0 E cs g n) (hl : l < D.nl) (hN : 5000 ≤ N) (hn : n + 12 ≤ 30000) : cp k0 (sp_renew D l x) J0 cs g (n + 12) (gk_X4_renew N l x k) () := by
  unfold gk_X4_renew
  rw [ren_e, c_lot h hl, Option.bind_some, h.cel (dmF hl), Option.bind_some]
  obtain ⟨k1, E1, a1, h1⟩ := c_pF (N := N) (v := x) (q := 0) (p := 0) h hl rfl (by omega) (by omega)
  rw [a1, Option.bind_some]
  dsimp only
  have hl1 : l < (D.putF l 0 x).nl := hl
  generalize D.putF l 0 x = D1 at h1 hl1 ⊢
  obtain ⟨k2, E2, a2, h2⟩ := c_renL (N := N) hl1 9 0 N k1 E1 (n + 1) (by omega) (by omega) (by omega) (by rw [zero_0]; exact h1)
  rw [show nI (2 + 0) = 2 from rfl] at a2
  rw [a2, Option.bind_some]
  have hl2 : l < (sp_zero D1 l 9).nl := by rw [zero_nl]; exact hl1
  generalize sp_zero D1 l 9 = Z at h2 hl2 ⊢
  exact cp_g (c_ren2 h2 hl2 (by omega)) (by omega) (by omega) (by omega)
theorem a_reoffer {a : Int32} {x : Int64} (hs : gk_X7_startAct N k00 = some ((), k0)) (h : cw k0 k0 D J0 [] cs g n) (hp : pi D M) (hN : 5000 ≤ N) (hn : n + 40 ≤ 30000) : ck N k0 k0 D J0 cs g n (gk_X7_reoffer N a x k00) (sp_reoffer D a x) := by
  have h4 := hp.l0.2
  unfold gk_X7_reoffer sp_reoffer
  rw [hs, Option.bind_some]
  dsimp only
  rw [c_isSum, Option.bind_some]
  dsimp only
  refine ck_if b10 (fun _ => ck_no h (by decide) (by decide)) (fun hx => ?_)
  rw [c_lotAt h hp, Option.bind_some]
  dsimp only
  refine ck_wl hp (fun l la hl e => ?_) (fun c e => ?_) <;> rw [e] <;> dsimp only
  · rw [c_lot h hl, Option.bind_some, c_state h hl, Option.bind_some]
    dsimp only
    refine ck_ifn (by rw [sts32 hp hl (Or.inr (Or.inr (Or.inr rfl))), ← cl_3]; exact Decidable.not_not.symm) (fun _ => ck_no h (by decide) (by decide)) (fun _ => ?_)
    rw [c_lot h hl, Option.bind_some, Option.bind_some, (h.kd.l l hl).1, (h.kd.l l hl).2]
    have ren : ∀ (k : mt_S) (E : List je) (D1 : pd) (n1 : Nat), cw k0 k D1 J0 E cs g n1 → n1 ≤ n + 3 → D1.nl = D.nl → D1.nb = D.nb → ck N k0 k0 D J0 cs g n (Option.bind (gk_lot k l) fun _ => Option.bind (gk_X4_renew N l x k) fun q102 => some (1, q102.2)) (1, sp_renew D1 l x, []) := by
      intro k E D1 n1 h1 hn1 e1 e2
      rw [c_lot h1 (by omega), Option.bind_some]
      obtain ⟨k2, E2, a2, h2⟩ := c_renew (N := N) (l := l) (x := x) h1 (by omega) hN (by omega)
      rw [a2, Option.bind_some]
      have rr := ren_do (D := D1) (l := l) (x := x)
      exact ck_ret h2 (by omega) (by omega) hn (by show (sp_renew D1 l x).nb = D.nb; unfold pd.nb; rw [rr.room]; exact e2) (by show (sp_renew D1 l x).nl = D.nl; unfold pd.nl; rw [rr.room]; exact e1) (by decide)
    have fin : ck N k0 k0 D J0 cs g n (gkb_X7_reoffer_80 N x l k0) (1, sp_renew (sp_part D (D.facts l 11).toInt32) l x, []) := by
      unfold gkb_X7_reoffer_80
      rw [c_lot h hl, Option.bind_some, h.cel (dmF hl), Option.bind_some, c_F (q := 11) (p := 11) h hl rfl (by omega), Option.bind_some]
      dsimp only
      rw [c_lotAt h hp, Option.bind_some]
      dsimp only
      rcases part_eq hp hl with ⟨z, ez⟩ | ⟨w, p, q, ⟨z1, z2, z3, z4, z5, z6, z7, z8, z9, z10, z11⟩, _, z12, ez⟩
      · rw [ez, z, if_neg (show ¬ sp_noLot D (-1 : Int64).toInt32 = 0 by unfold sp_noLot; rw [if_pos (by decide)]; decide)]
        unfold gk_X7_part
        dsimp only
        rw [Option.bind_some]
        exact ren k0 [] D n h (by omega) rfl rfl
      · rw [ez, z12, cl_32 (by omega), if_pos (noLot_of z1 h4), cz_ix (by omega)]
        unfold gk_X7_part
        dsimp only
        rw [c_lot h z1, Option.bind_some, h.cel (dmF z1), Option.bind_some, c_F (q := 12) (p := 12) h z1 rfl (by omega), Option.bind_some]
        dsimp only
        rw [c_lotAt h hp, Option.bind_some, z8, cl_32 (by omega), if_pos (noLot_of z2 h4), cz_ix (by omega)]
        dsimp only
        rw [c_lot h z1, Option.bind_some, h.cel (dmF z1), Option.bind_some, c_F (q := 13) (p := 13) h z1 rfl (by omega), Option.bind_some]
        dsimp only
        rw [c_lotAt h hp, Option.bind_some, z9, cl_32 (by omega), if_pos (noLot_of z3 h4), cz_ix (by omega)]
        dsimp only
        rw [c_lot h z1, Option.bind_some, h.cel (dmF z1), Option.bind_some]
        obtain ⟨k1, E1, a1, h1⟩ := c_pF (N := N) (v := -1) (q := 11) (p := 11) h z1 rfl (by omega) (by omega)
        rw [a1, Option.bind_some]
        dsimp only
        rw [c_lot h1 (by exact z2), Option.bind_some, h1.cel (dmF (by exact z2)), Option.bind_some]
        obtain ⟨k2, E2, a2, h2⟩ := c_pF (N := N) (v := -1) (q := 11) (p := 11) (l := p) h1 (by exact z2) rfl (by omega) (by omega)
        rw [a2, Option.bind_some]
        unfold gkb_X7_part_63
        dsimp only
        rw [c_lot h2 (by exact z3), Option.bind_some, h2.cel (dmF (by exact z3)), Option.bind_some]
        obtain ⟨k3, E3, a3, h3⟩ := c_pF (N := N) (v := -1) (q := 11) (p := 11) (l := q) h2 (by exact z3) rfl (by omega) (by omega)
        rw [a3, Option.bind_some, Option.bind_some]
        exact ren k3 E3 _ (n + 1 + 1 + 1) h3 (by omega) rfl rfl
    by_cases c5 : D.kind l = 5
    · rw [if_pos c5]
      by_cases c1 : x < D.res l
      · rw [if_neg (fun z => absurd c1 (nle64.mpr z)), if_pos ⟨c5, c1⟩]
        exact ck_no h (by decide) (by decide)
      · rw [if_pos (nle64.mp c1), if_neg (fun z => c1 z.2)]
        exact fin
    · rw [if_neg c5, if_neg (fun z => c5 z.1)]
      exact fin
  · rw [c_whyL c, Option.bind_some]
    exact ck_no h (okL c) rfl
end KD
