/-! a put keeps the walk's state; codes; taking back -/
section P2
variable {N : Nat} {k0 k : mt_S} {D : pd} {J0 E : List je} {cs : List Int32} {g n : Nat}
theorem V_set {c p : Nat} {v : Int64} (hc : c < 3000) (hp : p < k.2.2 (100 + c)) : Vk (gm_setL k (100 + c) p v) = uW (Vk k) c p v := by
  funext c' p'
  show (if c' < 3000 ∧ p' < k.2.2 (100 + c') then (if 100 + c' = 100 + c ∧ p' = p then v else k.2.1 (100 + c') p') else 0) = (if c' = c ∧ p' = p then v else if c' < 3000 ∧ p' < k.2.2 (100 + c') then k.2.1 (100 + c') p' else 0)
  by_cases z : c' < 3000 ∧ p' < k.2.2 (100 + c')
  · rw [if_pos z, if_pos z]
    by_cases y : c' = c ∧ p' = p
    · rw [if_pos y, if_pos (by omega)]
    · rw [if_neg y, if_neg (by omega)]
  · rw [if_neg z, if_neg z, if_neg]
    rintro ⟨y1, y2⟩
    subst y1 y2
    exact z ⟨hc, hp⟩
theorem dm_wr {c p c' : Nat} {v : Int64} (h0 : c = 0 → 2 ≤ p) : dm (wrD D c p v) c' ↔ dm D c' := by
  obtain ⟨_, _, _, _, h⟩ := wr_keep (D := D) (c := c) (p := p) (v := v)
  unfold dm
  rw [(h h0).1, (h h0).2]
/-- the last step of a put -/
theorem put_fin {k1 : mt_S} {E1 : List je} {c p n1 : Nat} {v : Int64} (h : cw k0 k D J0 E cs g n) (hc : dm D c) (hp : p < k.2.2 (100 + c)) (h0 : c = 0 → 2 ≤ p) (hs : sj k k1) (hj : jr k1 (E1 ++ J0)) (hE : ∀ e, e ∈ E1 → dm D e.1) (hd : k.1 5 0 = 0 → E1 = []) (hv : k.1 5 0 ≠ 0 → rvt E1 (uW (Vk k) c p v) = Vk k0) (hb : (E1 ++ J0).length ≤ n1 ∧ k1.2.2 0 ≤ 64 + 2 * n1 ∧ n1 ≤ 30000 ∧ k1.2.2 1 ≤ 1300 * g + 6 * k1.2.2 0 ∧ k1.2.2 4 ≤ 16 * g + k1.2.2 0) : cw k0 (gm_setL k1 (100 + c) p v) (wrD D c p v) J0 E1 cs g n1 := by
  obtain ⟨w1, w2, w3, w4, w5⟩ := wr_keep (D := D) (c := c) (p := p) (v := v)
  obtain ⟨w6, w7⟩ := w5 h0
  obtain ⟨hcl, hc3⟩ := h.cl hc
  have L : ∀ q, q ≠ 0 → q ≠ 1 → q ≠ 4 → q ≠ 5 → q ≠ 6 → q ≠ 7 → q < 5000 → (gm_setL k1 (100 + c) p v).2.2 q = k.2.2 q := hs.c
  have L2 := L 2 (by omega) (by omega) (by omega) (by omega) (by omega) (by omega) (by omega)
  have L3 := L 3 (by omega) (by omega) (by omega) (by omega) (by omega) (by omega) (by omega)
  have cl1 : ∀ x, kt_cl (gm_setL k1 (100 + c) p v) x = kt_cl k x := cl_same L2 L3
  have LC : ∀ x, x < 3000 → (gm_setL k1 (100 + c) p v).2.2 (100 + x) = k.2.2 (100 + x) := fun x hx => L (100 + x) (by omega) (by omega) (by omega) (by omega) (by omega) (by omega) (by omega)
  have v1 : Vk (gm_setL k1 (100 + c) p v) = uW (Vk k) c p v := by
    rw [V_set hc3 (by rw [hs.c (100 + c) (by omega) (by omega) (by omega) (by omega) (by omega) (by omega) (by omega)]; exact hp), sj_V hs]
  have e5 : (gm_setL k1 (100 + c) p v).1 5 0 = k.1 5 0 := by rw [show (gm_setL k1 (100 + c) p v).1 5 = k.1 5 from hs.a 5 (by omega) (by omega)]
  obtain ⟨d, d1, d2, d3⟩ := h.dp
  refine ⟨?_, ?_, ?_, ?_, ?_, ?_, ?_, ?_, ?_, ⟨d, d1, by rw [e5]; exact d2, fun z => hd (by rw [d2, z]; rfl)⟩, ?_, ?_, ?_, hb⟩
  · intro r hr
    have : r ≠ 4 ∧ r ≠ 10 := by unfold kfx at hr; omega
    exact (hs.a r this.1 this.2).trans (h.kf r hr)
  · exact ⟨(fne_L (by omega)).trans ((hs.b 20 (by omega)).trans h.k2.1), (fne_L (by omega)).trans ((hs.b 21 (by omega)).trans h.k2.2)⟩
  · exact ⟨L2.trans h.k3.1, L3.trans h.k3.2⟩
  · rw [L2, L3, w6, w7]; exact h.dim
  · refine ⟨fun l hl => ?_, fun b hb => ?_⟩
    · rw [w7] at hl
      rw [w1, w2, show (gm_setL k1 (100 + c) p v).1 8 = k.1 8 from hs.a 8 (by omega) (by omega), show (gm_setL k1 (100 + c) p v).2.1 20 = k.2.1 20 from (fne_L (by omega)).trans (hs.b 20 (by omega))]
      exact h.kd.l l hl
    · rw [w6] at hb
      rw [w3, w4, show (gm_setL k1 (100 + c) p v).1 9 = k.1 9 from hs.a 9 (by omega) (by omega), show (gm_setL k1 (100 + c) p v).2.1 21 = k.2.1 21 from (fne_L (by omega)).trans (hs.b 21 (by omega))]
      exact h.kd.b b hb
  · intro c' hc' p'
    rw [dm_wr h0] at hc'
    rw [v1, rd_wr]
    unfold uW
    rw [h.cv c' hc' p']
  · intro x hx
    rw [cl1] at hx
    rw [LC x (cel_lt hx h.dim.1 h.dim.2.1)]
    exact h.le x hx
  · have := h.dim.2.1
    refine ⟨by rw [L 100 (by omega) (by omega) (by omega) (by omega) (by omega) (by omega) (by omega)]; exact h.lf.1, fun l hl => ?_⟩
    rw [L2] at hl
    rw [LC _ (by omega)]
    exact h.lf.2 l hl
  · refine ⟨hj.ln, hj.cap, ?_, hj.ok⟩
    intro e J' hs'
    obtain ⟨y1, y2, y3⟩ := hj.en e J' hs'
    exact ⟨y1, y2, by rw [show (gm_setL k1 (100 + c) p v).2.1 22 = k1.2.1 22 from fne_L (by omega)]; exact y3⟩
  · intro z
    rw [v1]
    exact hv (by rw [← e5]; exact z)
  · intro e he
    rw [dm_wr h0]
    exact hE e he
  · obtain ⟨t1, t2, t3⟩ := h.tr
    rw [show (gm_setL k1 (100 + c) p v).1 3 = k.1 3 from hs.a 3 (by omega) (by omega), show (gm_setL k1 (100 + c) p v).1 6 = k.1 6 from hs.a 6 (by omega) (by omega)]
    exact ⟨t1, t2, t3⟩
theorem sj_refl : sj k k := ⟨fun _ _ _ => rfl, fun _ _ => rfl, fun _ _ _ _ _ _ _ _ => rfl⟩
theorem k_put45 {c p : Nat} {v : Int64} (h : cw k0 k D J0 E cs g n) (hc : dm D c) (hp : p < k.2.2 (100 + c)) (h0 : c = 0 → 2 ≤ p) (hn : n < 30000) : ∃ k1 E1, gkb_X2_put_45 N c (nI p) v k = some ((), k1) ∧ cw k0 k1 (wrD D c p v) J0 E1 cs g (n + 1) ∧ k1.2.2 2 = k.2.2 2 ∧ ∀ x, x < 3000 → k1.2.2 (100 + x) = k.2.2 (100 + x) := by
  obtain ⟨l1, l2⟩ := h.le c (h.cl hc).1
  obtain ⟨d, d1, d2, d3⟩ := h.dp
  obtain ⟨b1, b2, b3, b4, b5⟩ := h.bu
  have hc' := h.cl hc
  unfold gkb_X2_put_45
  rw [h.cel hc, Option.bind_some, Option.bind_some, gk_rdL hp (by omega), Option.bind_some]
  by_cases z : d = 0
  · have e5 : k.1 5 0 = 0 := by rw [d2, z]; rfl
    unfold gk_X3_note
    rw [if_pos e5, Option.bind_some]
    dsimp only
    rw [h.cel hc, Option.bind_some, gk_wrL hp (by omega), Option.bind_some]
    refine ⟨_, E, rfl, put_fin h hc hp h0 sj_refl h.j h.ed (fun _ => d3 z) (fun y => absurd e5 y) ⟨by omega, by omega, by omega, b4, b5⟩, rfl, fun _ _ => rfl⟩
  · have e5 : k.1 5 0 ≠ 0 := by
      rw [d2, show (0 : Int32) = nI 0 from rfl]
      intro y
      exact z ((cz_eq (by omega) (by omega)).mp y)
    obtain ⟨k1, g1, s1, j1, q1⟩ := k_note (N := N) (v := k.2.1 (100 + c) p) h.j (by omega) (by omega) ⟨h.dim.1, h.dim.2.1⟩ hc' hp e5
    rw [g1, Option.bind_some]
    dsimp only
    have lc := s1.c (100 + c) (by omega) (by omega) (by omega) (by omega) (by omega) (by omega) (by omega)
    have s2 := s1.c 2 (by omega) (by omega) (by omega) (by omega) (by omega) (by omega) (by omega)
    have s3 := s1.c 3 (by omega) (by omega) (by omega) (by omega) (by omega) (by omega) (by omega)
    rw [show gk_cel k1 c = some () from if_pos ⟨by rw [cl_same s2 s3]; exact hc'.1, hc'.2⟩, Option.bind_some, gk_wrL (by rw [lc]; exact hp) (by omega), Option.bind_some]
    have vp : k.2.1 (100 + c) p = Vk k c p := by
      unfold Vk
      rw [if_pos ⟨hc'.2, hp⟩]
    have cap := h.j.cap
    refine ⟨_, (c, p, k.2.1 (100 + c) p) :: E, rfl, put_fin h hc hp h0 s1 j1 ?_ (fun y => absurd y e5) ?_ ?_, s2, fun x hx => s1.c (100 + x) (by omega) (by omega) (by omega) (by omega) (by omega) (by omega) (by omega)⟩
    · intro e he
      rcases List.mem_cons.mp he with y | y
      · rw [y]; exact hc
      · exact h.ed e y
    · intro _
      rw [← h.ev e5]
      show rvt E (uW (uW (Vk k) c p v) c p (k.2.1 (100 + c) p)) = _
      rw [vp, uW_back]
    · have len : ((c, p, k.2.1 (100 + c) p) :: E ++ J0).length = (E ++ J0).length + 1 := rfl
      rw [len]
      rcases q1 with ⟨q2, q3, q4⟩ | ⟨q2, q3, q4, q5⟩
      · rw [q2, q3, q4]; exact ⟨by omega, by omega, by omega, b4, b5⟩
      · rw [q3, q4, q5]; exact ⟨by omega, by omega, by omega, by omega, by omega⟩
/-- a cell's row made longer -/
theorem k_grow {c p m : Nat} (h : cw k0 k D J0 E cs g n) (hc : dm D c) (hm : k.2.2 (100 + c) < m) (hm2 : m ≤ 1300) (hp : p < m) : ∃ k1, gk_growV k c (nI m) = some k1 ∧ cw k0 k1 D J0 E cs (g + 1) n ∧ p < k1.2.2 (100 + c) := by
  have hc' := h.cl hc
  have hc3 := hc'.2
  obtain ⟨b1, b2, b3, b4, b5⟩ := h.bu
  unfold gk_growV
  rw [cz_nat (by omega), if_pos ⟨hc'.1, hc'.2, cz_nn (by omega), hm, by omega⟩]
  refine ⟨_, rfl, ?_, by dsimp only; rw [if_pos rfl]; exact hp⟩
  generalize hk1 : ((k.1, fun r j => if r = 100 + c ∧ k.2.2 (100 + c) ≤ j then 0 else k.2.1 r j, fun q => if q = 100 + c then m else if q = 1 then k.2.2 1 + m else if q = 4 then k.2.2 4 + 1 else k.2.2 q) : mt_S) = k1
  have a1 : k1.1 = k.1 := by rw [← hk1]
  have a2 : ∀ r, r ≠ 100 + c → k1.2.1 r = k.2.1 r := by
    intro r hr
    rw [← hk1]
    funext j
    dsimp only
    rw [if_neg (fun z => hr z.1)]
  have a3 : ∀ q, q ≠ 100 + c → q ≠ 1 → q ≠ 4 → k1.2.2 q = k.2.2 q := by
    intro q x y z
    rw [← hk1]
    dsimp only
    rw [if_neg x, if_neg y, if_neg z]
  have ac : k1.2.2 (100 + c) = m := by rw [← hk1]; dsimp only; rw [if_pos rfl]
  have ag : ∀ x, x < 3000 → k.2.2 (100 + x) ≤ k1.2.2 (100 + x) := by
    intro x hx
    by_cases y : x = c
    · rw [y, ac]; omega
    · rw [a3 (100 + x) (by omega) (by omega) (by omega)]; exact Nat.le_refl _
  have v1 : Vk k1 = Vk k := by
    funext c' p'
    unfold Vk
    by_cases y : c' = c
    · subst y
      rw [ac]
      by_cases w : p' < k.2.2 (100 + c')
      · rw [if_pos ⟨hc3, by omega⟩, if_pos ⟨hc3, w⟩, ← hk1]
        dsimp only
        rw [if_neg (by omega)]
      · rw [if_neg (show ¬ (c' < 3000 ∧ p' < k.2.2 (100 + c')) from fun z => w z.2)]
        by_cases u : p' < m
        · rw [if_pos (show c' < 3000 ∧ p' < m from ⟨hc3, u⟩), ← hk1]
          dsimp only
          rw [if_pos ⟨rfl, by omega⟩]
        · rw [if_neg (show ¬ (c' < 3000 ∧ p' < m) from fun z => u z.2)]
    · by_cases u : c' < 3000
      · rw [a2 (100 + c') (by omega), a3 (100 + c') (by omega) (by omega) (by omega)]
      · rw [if_neg (fun z => u z.1), if_neg (fun z => u z.1)]
  have l2 := a3 2 (by omega) (by omega) (by omega)
  have l3 := a3 3 (by omega) (by omega) (by omega)
  have l0 := a3 0 (by omega) (by omega) (by omega)
  have l1 : k1.2.2 1 = k.2.2 1 + m := by rw [← hk1]; dsimp only; rw [if_neg (by omega), if_pos rfl]
  have l4 : k1.2.2 4 = k.2.2 4 + 1 := by rw [← hk1]; dsimp only; rw [if_neg (by omega), if_neg (by omega), if_pos rfl]
  have cl1 := cl_same l2 l3
  obtain ⟨d1, d2, d3, d4⟩ := h.dim
  refine ⟨by rw [a1]; exact h.kf, by rw [a2 20 (by omega), a2 21 (by omega)]; exact h.k2, by rw [l2, l3]; exact h.k3, by rw [l2, l3]; exact h.dim, ⟨by rw [a1, a2 20 (by omega)]; exact h.kd.l, by rw [a1, a2 21 (by omega)]; exact h.kd.b⟩, by rw [v1]; exact h.cv, ?_, ?_, ?_, by rw [a1]; exact h.dp, by rw [a1, v1]; exact h.ev, h.ed, by rw [a1]; exact h.tr, ⟨b1, by rw [l0]; exact b2, b3, by rw [l0, l1]; omega, by rw [l0, l4]; omega⟩⟩
  · intro x hx
    rw [cl1] at hx
    have := h.le x hx
    have x3 := cel_lt hx d1 d2
    by_cases y : x = c
    · rw [y, ac]; omega
    · rw [a3 (100 + x) (by omega) (by omega) (by omega)]; exact this
  · refine ⟨Nat.le_trans h.lf.1 (ag 0 (by omega)), fun l hl => ?_⟩
    rw [l2] at hl
    exact Nat.le_trans (h.lf.2 l hl) (ag _ (by omega))
  · obtain ⟨c1, c2, c3, c4, c5, c6⟩ := h.j.cap
    refine ⟨by rw [a1]; exact h.j.ln, ?_, ?_, ?_⟩
    · rw [l0, a3 6 (by omega) (by omega) (by omega), a3 7 (by omega) (by omega) (by omega), a3 5 (by omega) (by omega) (by omega)]
      exact ⟨c1, c2, c3, c4, c5, c6⟩
    · intro e J' hs
      obtain ⟨y1, y2, y3⟩ := h.j.en e J' hs
      rw [a1, a2 22 (by omega), a3 (5000 + J'.length) (by omega) (by omega) (by omega)]
      exact ⟨y1, y2, y3⟩
    · intro e he
      obtain ⟨y1, y2⟩ := h.j.ok e he
      rw [cl1]
      exact ⟨y1, Nat.lt_of_lt_of_le y2 (ag _ (cel_lt y1 d1 d2))⟩
theorem k_putN {c p : Nat} {v : Int64} (h : cw k0 k D J0 E cs g n) (hc : dm D c) (hp : p < k.2.2 (100 + c)) (h0 : c = 0 → 2 ≤ p) (hn : n < 30000) : ∃ k1 E1, gk_X2_put N c (nI p) v k = some ((), k1) ∧ cw k0 k1 (wrD D c p v) J0 E1 cs g (n + 1) := by
  obtain ⟨l1, l2⟩ := h.le c (h.cl hc).1
  unfold gk_X2_put
  rw [if_neg (cz_nn (by omega)), if_pos (by rw [show (4096 : Int32) = nI 4096 from rfl, cz_lt (by omega) (by omega)]; omega), h.cel hc, Option.bind_some, if_pos (show nI p < Int32.ofNat (k.2.2 (100 + c)) from (cz_lt (by omega) (by omega)).mpr hp)]
  obtain ⟨k1, E1, a, b, _⟩ := k_put45 (N := N) (v := v) h hc hp h0 hn
  exact ⟨k1, E1, a, b⟩
theorem cw_g (h : cw k0 k D J0 E cs g n) {g' n' : Nat} (hg : g ≤ g') (hn : n ≤ n') (h3 : n' ≤ 30000) : cw k0 k D J0 E cs g' n' := by
  obtain ⟨b1, b2, b3, b4, b5⟩ := h.bu
  exact ⟨h.kf, h.k2, h.k3, h.dim, h.kd, h.cv, h.le, h.lf, h.j, h.dp, h.ev, h.ed, h.tr, ⟨by omega, by omega, h3, by omega, by omega⟩⟩
theorem k_putG {c p : Nat} {v : Int64} (h : cw k0 k D J0 E cs g n) (hc : dm D c) (hp : p ≤ 600) (h0 : c = 0 → 2 ≤ p) (hn : n < 30000) : ∃ k1 E1, gk_X2_put N c (nI p) v k = some ((), k1) ∧ cw k0 k1 (wrD D c p v) J0 E1 cs (g + 1) (n + 1) := by
  obtain ⟨l1, l2⟩ := h.le c (h.cl hc).1
  by_cases z : p < k.2.2 (100 + c)
  · obtain ⟨k1, E1, a, b⟩ := k_putN (N := N) (v := v) h hc z h0 hn
    exact ⟨k1, E1, a, cw_g b (by omega) (by omega) (by omega)⟩
  · unfold gk_X2_put
    rw [if_neg (cz_nn (by omega)), if_pos (by rw [show (4096 : Int32) = nI 4096 from rfl, cz_lt (by omega) (by omega)]; omega), h.cel hc, Option.bind_some, if_neg (show ¬ nI p < Int32.ofNat (k.2.2 (100 + c)) from fun y => z ((cz_lt (by omega) (by omega)).mp y)), Option.bind_some, Option.bind_some]
    have e : (if (nI p + 1) < (2 * (Int32.ofNat (k.2.2 (100 + c)))) then (2 * (Int32.ofNat (k.2.2 (100 + c)))) else (nI p + 1)) = nI (if p + 1 < 2 * k.2.2 (100 + c) then 2 * k.2.2 (100 + c) else p + 1) := by
      rw [show nI p + 1 = nI (p + 1) from cz_add p 1, show (2 : Int32) * Int32.ofNat (k.2.2 (100 + c)) = nI (2 * k.2.2 (100 + c)) from cz_mul 2 _]
      by_cases y : p + 1 < 2 * k.2.2 (100 + c)
      · rw [if_pos ((cz_lt (by omega) (by omega)).mpr y), if_pos y]
      · rw [if_neg (fun w => y ((cz_lt (by omega) (by omega)).mp w)), if_neg y]
    rw [e]
    obtain ⟨k1, g1, h1, p1⟩ := k_grow (p := p) (m := if p + 1 < 2 * k.2.2 (100 + c) then 2 * k.2.2 (100 + c) else p + 1) h hc (by split <;> omega) (by split <;> omega) (by split <;> omega)
    rw [g1, Option.bind_some]
    obtain ⟨k2, E2, a, b, _⟩ := k_put45 (N := N) (v := v) h1 hc p1 h0 hn
    exact ⟨k2, E2, a, b⟩
theorem k_run {c : Int32} (h : cw k0 k D J0 E cs g n) : ∃ k1, gk_X1_run N c k = some ((), k1) ∧ cw k0 k1 D J0 E (addC false cs [c]) g n := by
  obtain ⟨t1, t2, t3⟩ := h.tr
  unfold gk_X1_run
  rw [t1, if_neg (cz_nn (by omega))]
  by_cases z : cs.length < 200
  · rw [if_pos (show nI cs.length < Int32.ofNat 200 from (cz_lt (by omega) (by omega)).mpr z), gk_wrI z (by omega), Option.bind_some, pI_e, Option.bind_some]
    rw [show (gm_setI k 6 cs.length c).1 3 0 = nI cs.length from t1, show (1 : Int32) = nI 1 from rfl, cz_add]
    have ad : addC false cs [c] = cs ++ [c] := by
      show (cs ++ [c]).take 200 = _
      rw [List.take_of_length_le (by rw [List.length_append]; show cs.length + 1 ≤ 200; omega)]
    rw [ad]
    refine ⟨_, rfl, ⟨?_, h.k2, h.k3, h.dim, ⟨h.kd.l, h.kd.b⟩, h.cv, h.le, h.lf, ⟨h.j.ln, h.j.cap, h.j.en, h.j.ok⟩, h.dp, h.ev, h.ed, ?_, h.bu⟩⟩
    · intro r hr
      have : r ≠ 3 ∧ r ≠ 6 := by unfold kfx at hr; omega
      exact ((fne_I this.1).trans (fne_I this.2)).trans (h.kf r hr)
    · have len : (cs ++ [c]).length = cs.length + 1 := by rw [List.length_append]; rfl
      refine ⟨by rw [len]; rfl, by omega, fun i hi => ?_⟩
      have e6 : (gm_setI (gm_setI k 6 cs.length c) 3 0 (nI (cs.length + 1))).1 6 i = if 6 = 6 ∧ i = cs.length then c else k.1 6 i := by
        rw [fne_I (by decide)]; rfl
      rw [e6]
      by_cases y : i = cs.length
      · subst y
        rw [if_pos ⟨rfl, rfl⟩]
        simp
      · rw [if_neg (fun w => y w.2), t3 i (by omega), List.getElem_append_left]
  · rw [if_neg (show ¬ nI cs.length < Int32.ofNat 200 from fun y => z ((cz_lt (by omega) (by omega)).mp y))]
    have ad : addC false cs [c] = cs := by
      show (cs ++ [c]).take 200 = _
      rw [List.take_append_of_le_length (by omega), List.take_of_length_le (by omega)]
    rw [ad]
    exact ⟨k, rfl, h⟩
end P2
