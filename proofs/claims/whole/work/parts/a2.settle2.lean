/-! settling, on -/
section S2
variable {N : Nat} {s0 s : mt_S} {D : pd} {e M l : Nat} {ag : Bool} {cs : List Int32}
theorem w_thr {w p q : Nat} (h : rs s0 s D e ag cs) (hp : pi D M) (hw : w < D.nl) (hpp : p < D.nl) (hq : q < D.nl) (fw : D.facts w 2 ≠ 0) (fp : D.facts p 2 ≠ 0) (fq : D.facts q 2 ≠ 0) {β : Type} {f : mt_S → Option β} : ∃ s', (Option.bind (gm_stI s 9 (nI w) 3) fun t => Option.bind (gm_stI t 9 (nI p) 3) fun t => Option.bind (gm_stI t 9 (nI q) 3) f) = f s' ∧ rs s0 s' (((D.putF w 2 3).putF p 2 3).putF q 2 3) e ag cs := by
  have h4 := hp.l0.2
  rw [gm_wrI (lsc_len h.v (by omega) 9 (by decide)) (by omega), Option.bind_some]
  have r1 := rv_9 (v := 3) h.v hw (by decide) fw
  rw [← cl_3] at r1
  have h1 := rs_of h (hi_I hi_refl (by decide)) r1
  rw [gm_wrI (lsc_len h1.v (by omega) 9 (by decide)) (by omega), Option.bind_some]
  have g : ∀ (A : pd) (a b : Nat), A.facts b 2 ≠ 0 → (A.putF a 2 3).facts b 2 ≠ 0 := by
    intro A a b hb
    dsimp only [pd.putF, up2, pd.room, pd.st, pd.br, pd.bal, pd.facts, pd.book, pd.lims, pd.sels, pd.kind, pd.res, pd.bkind, pd.purse]
    split
    · decide
    · exact hb
  have r2 := rv_9 (v := 3) h1.v (l := p) hpp (by decide) (g _ _ _ fp)
  rw [← cl_3] at r2
  have h2 := rs_of h1 (hi_I hi_refl (by decide)) r2
  rw [gm_wrI (lsc_len h2.v (by omega) 9 (by decide)) (by omega), Option.bind_some]
  have r3 := rv_9 (v := 3) h2.v (l := q) hq (by decide) (g _ _ _ (g _ _ _ fq))
  rw [← cl_3] at r3
  exact ⟨_, rfl, rs_of h2 (hi_I hi_refl (by decide)) r3⟩
theorem pi_thr {w p q : Nat} (hp : pi D M) (hw : w < D.nl) (hpp : p < D.nl) (hq : q < D.nl) (fw : D.facts w 2 ≠ 0) (fp : D.facts p 2 ≠ 0) (fq : D.facts q 2 ≠ 0) : pi (((D.putF w 2 3).putF p 2 3).putF q 2 3) M := by
  have g : ∀ (A : pd) (a b : Nat), A.facts b 2 ≠ 0 → (A.putF a 2 3).facts b 2 ≠ 0 := by
    intro A a b hb
    dsimp only [pd.putF, up2, pd.room, pd.st, pd.br, pd.bal, pd.facts, pd.book, pd.lims, pd.sels, pd.kind, pd.res, pd.bkind, pd.purse]
    split
    · decide
    · exact hb
  exact pi_2 (pi_2 (pi_2 hp hw (Or.inr (Or.inr rfl)) fw) hpp (Or.inr (Or.inr rfl)) (g _ _ _ fp)) hq (Or.inr (Or.inr rfl)) (g _ _ _ (g _ _ _ fq))
theorem thr_ne {w p q m : Nat} (h : D.facts m 2 ≠ 0) : (((D.putF w 2 3).putF p 2 3).putF q 2 3).facts m 2 ≠ 0 := by
  dsimp only [pd.putF, up2, pd.room, pd.st, pd.br, pd.bal, pd.facts, pd.book, pd.lims, pd.sels, pd.kind, pd.res, pd.bkind, pd.purse]
  split
  · decide
  · split
    · decide
    · split
      · decide
      · exact h
theorem set_W {w p q : Nat} {x : Int64} (wp : w ≠ p) (wq : w ≠ q) (hx : 0 < x) : (sp_book (((D.putF w 2 3).putF p 2 3).putF q 2 3) w x).putF w 2 2 = ((sp_finish D w x).putF p 2 3).putF q 2 3 := by
  rw [fin_pos hx, book_F, book_F, book_F, putF_cm (l := q) (m := w) (by omega), putF_cm (l := p) (m := w) (by omega), putF_ov]
theorem set_1 {A : pd} {p q : Nat} {y : Int64} (pq : p ≠ q) : (if 0 < y then (sp_book ((A.putF p 2 3).putF q 2 3) p y).putF p 2 2 else (A.putF p 2 3).putF q 2 3) = (sp_finish A p y).putF q 2 3 := by
  by_cases hy : 0 < y
  · rw [if_pos hy, fin_pos hy, book_F, book_F, putF_cm (l := q) (m := p) (by omega), putF_ov]
  · rw [if_neg hy, fin_neg hy]
theorem set_2 {B : pd} {q : Nat} {z : Int64} : (if 0 < z then (sp_book (B.putF q 2 3) q z).putF q 2 2 else B.putF q 2 3) = sp_finish B q z := by
  by_cases hz : 0 < z
  · rw [if_pos hz, fin_pos hz, book_F, putF_ov]
  · rw [if_neg hz, fin_neg hz]
/-- selling where it is sold -/
theorem w_sellIf {E : pd} {b : Int32} {pc acc : Int64} {x : Int64} {f : Int64 → mt_S → Option (Int64 × mt_S)} (h : rs s0 s E e ag cs) (hp : pi E M) (hl : l < E.nl) (he : e < 1990) (hN : 5000 ≤ N) (fl : E.facts l 2 ≠ 0) (hb : (b = 1 ∧ sp_stand E l ≠ -1 ∧ E.nS l ≠ 0 ∧ x = sp_ssum E l * pc ∧ 0 < x) ∨ (b = 0 ∧ x = 0)) : ∃ s', (if b = 0 then f acc s else Option.bind (gm_X8_sell N (nI l) pc s) fun r => f (acc + r.1) r.2) = f (acc + x) s' ∧ rs s0 s' (if 0 < x then (sp_book E l x).putF l 2 2 else E) e ag cs := by
  rcases hb with ⟨b1, b2, b3, b4, b5⟩ | ⟨b1, b2⟩
  · rw [b1, if_neg (by decide)]
    obtain ⟨s3, g3, h3⟩ := w_sell (pc := pc) h hp hl (by omega) hN b2 b3 fl
    rw [g3, Option.bind_some, if_pos b5, b4]
    exact ⟨s3, rfl, h3⟩
  · rw [b1, if_pos rfl, b2, if_neg (by decide), Int64.add_zero]
    exact ⟨s, rfl, h⟩
theorem w_set196W {w p q : Nat} (h : rs s0 s D e ag cs) (hp : pi D M) (hw : w < D.nl) (hpp : p < D.nl) (hq : q < D.nl) (wp : w ≠ p) (wq : w ≠ q) (fw : D.facts w 2 ≠ 0) (fp : D.facts p 2 ≠ 0) (fq : D.facts q 2 ≠ 0) (he : e < 1990) (hN : 5000 ≤ N) (hs : sp_sold D w) : wk s0 ag cs e (gb_X8_settled_196 N (nI w) (nI p) (nI q) 1 0 0 s) (if D.nS w = 0 then (-5, D, sp_pcC D w) else (sp_brings D w, ((sp_finish D w (sp_brings D w)).putF p 2 3).putF q 2 3, sp_pcC D w)) := by
  have h4 := hp.l0.2
  have hs4 := (hp.lot w hw).s0.2
  have bV : sp_brings D w = sp_ssum D w * sp_pc D w := if_pos hs
  have bp : 0 < sp_brings D w := by rw [lt_i, bV]; exact (br_pos hp hw hs).1
  unfold gb_X8_settled_196
  rw [if_neg (by decide)]
  obtain ⟨s1, g1, h1⟩ := w_pieces (N := N) h hp hw
  rw [g1, Option.bind_some]
  unfold gb_X8_settled_212
  rw [if_neg (by decide), rd12 h1.v hw h4, Option.bind_some]
  by_cases n0 : D.nS w = 0
  · rw [if_pos (by rw [n0]; rfl), if_pos n0]
    exact wk_retC h1 (by omega)
  · rw [if_neg (by rw [show (0 : Int32) = nI 0 from rfl, cz_eq (by omega) (by omega)]; exact n0), if_neg n0]
    unfold gb_X8_settled_232 gb_X8_settled_246 gb_X8_settled_266 gb_X8_settled_280 gb_X8_settled_300
    rw [if_pos rfl, if_pos rfl, if_pos rfl, if_pos rfl]
    dsimp only
    obtain ⟨s2, g2, h2⟩ := w_thr h1 hp hw hpp hq fw fp fq (f := fun t320 => if (1 : Int32) = 0 then gb_X8_settled_341 N (nI p) (nI q) 0 0 0 0 0 t320 else Option.bind (gm_X8_sell N (nI w) (sp_pc D w) t320) fun q335 => gb_X8_settled_341 N (nI p) (nI q) 0 0 0 0 (0 + q335.1) q335.2)
    rw [g2]
    obtain ⟨s3, g3, h3⟩ := w_sellIf (l := w) (b := 1) (pc := sp_pc D w) (acc := 0) (x := sp_brings D w) (f := fun a t => gb_X8_settled_341 N (nI p) (nI q) 0 0 0 0 a t) h2 (pi_thr hp hw hpp hq fw fp fq) hw he hN (thr_ne fw) (Or.inl ⟨rfl, sold_st hs, n0, bV, bp⟩)
    rw [g3]
    rw [if_pos bp, set_W wp wq bp] at h3
    unfold gb_X8_settled_341 gb_X8_settled_358
    rw [if_pos rfl, if_pos rfl, Int64.zero_add]
    exact wk_retC h3 (by omega)
theorem w_pcIf {E : pd} {b : Int32} {c : Prop} [Decidable c] {f : Int64 → mt_S → Option (Int64 × mt_S)} (h : rs s0 s E e ag cs) (hp : pi E M) (hl : l < E.nl) (hb : (b = 1 ∧ c) ∨ (b = 0 ∧ ¬ c)) : ∃ s' pc, (if b = 0 then f 0 s else Option.bind (gm_X8_piecesOf N (nI l) s) fun r => f r.1 r.2) = f pc s' ∧ (c → pc = sp_pc E l) ∧ rs s0 s' E e ag (addC ag cs (if c then sp_pcC E l else [])) := by
  rcases hb with ⟨b1, b2⟩ | ⟨b1, b2⟩
  · rw [b1, if_neg (by decide), if_pos b2]
    obtain ⟨s2, g2, h2⟩ := w_pieces (N := N) h hp hl
    rw [g2, Option.bind_some]
    exact ⟨s2, _, rfl, fun _ => rfl, h2⟩
  · rw [b1, if_pos rfl, if_neg b2, addC_nil h.c.2.2.1]
    exact ⟨s, 0, rfl, fun z => absurd z b2, h⟩
theorem w_set196P {w p q : Nat} {b1 b2 : Int32} (h : rs s0 s D e ag cs) (hp : pi D M) (hw : w < D.nl) (hpp : p < D.nl) (hq : q < D.nl) (pq : p ≠ q) (fw : D.facts w 2 ≠ 0) (fp : D.facts p 2 ≠ 0) (fq : D.facts q 2 ≠ 0) (he : e < 1990) (hN : 5000 ≤ N) (hb1 : b1 = if sp_sold D p then 1 else 0) (hb2 : b2 = if sp_sold D q then 1 else 0) : wk s0 ag cs e (gb_X8_settled_196 N (nI w) (nI p) (nI q) 0 b1 b2 s)
    (if sp_brings D p ≠ 0 ∧ D.nS p = 0 then (-5, D, sp_pcC D p)
    else if sp_brings D q ≠ 0 ∧ D.nS q = 0 then (-5, D, (if sp_brings D p ≠ 0 then sp_pcC D p else []) ++ sp_pcC D q)
    else (sp_brings D p + sp_brings D q, sp_finish (sp_finish (D.putF w 2 3) p (sp_brings D p)) q (sp_brings D q), (if sp_brings D p ≠ 0 then sp_pcC D p else []) ++ (if sp_brings D q ≠ 0 then sp_pcC D q else []))) := by
  have h4 := hp.l0.2
  have sp4 := (hp.lot p hpp).s0.2
  have sq4 := (hp.lot q hq).s0.2
  have ne : ∀ m, m < D.nl → (sp_brings D m ≠ 0 ↔ sp_sold D m) ∧ (sp_sold D m → 0 < sp_brings D m) ∧ (¬ sp_sold D m → sp_brings D m = 0) := by
    intro m hm
    rcases br_i hp hm with ⟨a, b, c⟩ | ⟨a, b⟩
    · refine ⟨⟨fun _ => a, fun _ z => ?_⟩, fun _ => by rw [lt_i]; exact b, fun z => absurd a z⟩
      rw [z] at b
      exact absurd b (by decide)
    · exact ⟨⟨fun z => absurd b z, fun z => absurd z a⟩, fun z => absurd z a, fun _ => b⟩
  have hB1 : (b1 = 1 ∧ sp_brings D p ≠ 0) ∨ (b1 = 0 ∧ ¬ sp_brings D p ≠ 0) := by
    rw [(ne p hpp).1]
    by_cases c : sp_sold D p
    · rw [if_pos c] at hb1; exact Or.inl ⟨hb1, c⟩
    · rw [if_neg c] at hb1; exact Or.inr ⟨hb1, c⟩
  have hB2 : (b2 = 1 ∧ sp_brings D q ≠ 0) ∨ (b2 = 0 ∧ ¬ sp_brings D q ≠ 0) := by
    rw [(ne q hq).1]
    by_cases c : sp_sold D q
    · rw [if_pos c] at hb2; exact Or.inl ⟨hb2, c⟩
    · rw [if_neg c] at hb2; exact Or.inr ⟨hb2, c⟩
  unfold gb_X8_settled_196 gb_X8_settled_212 gb_X8_settled_232
  rw [if_pos rfl, if_pos rfl]
  obtain ⟨s1, pc1, g1, e1, h1⟩ := w_pcIf (N := N) (f := fun a t => gb_X8_settled_246 N (nI w) (nI p) (nI q) 0 b1 b2 0 a t) h hp hpp hB1
  rw [g1]
  unfold gb_X8_settled_246
  rw [rd12 h1.v hpp h4, Option.bind_some]
  by_cases c1 : sp_brings D p ≠ 0 ∧ D.nS p = 0
  · rw [if_pos c1, if_neg (show ¬ b1 = 0 from fun z => by rcases hB1 with k | k; (· rw [k.1] at z; exact absurd z (by decide)); (· exact k.2 c1.1)), if_pos (by rw [c1.2]; rfl)]
    rw [if_pos c1.1] at h1
    exact wk_retC h1 (by omega)
  · rw [if_neg c1]
    have G : ∀ X Y : Option (Int64 × mt_S), (if b1 = 0 then X else if nI (D.nS p) = 0 then Y else X) = X := by
      intro X Y
      by_cases z : b1 = 0
      · rw [if_pos z]
      · rw [if_neg z, if_neg]
        intro k
        rw [show (0 : Int32) = nI 0 from rfl, cz_eq (by omega) (by omega)] at k
        rcases hB1 with kk | kk
        · exact c1 ⟨kk.2, k⟩
        · exact z kk.1
    rw [G]
    unfold gb_X8_settled_266
    obtain ⟨s2, pc2, g2, e2, h2⟩ := w_pcIf (N := N) (f := fun a t => gb_X8_settled_280 N (nI w) (nI p) (nI q) 0 b1 b2 0 pc1 a t) h1 hp hq hB2
    rw [g2]
    rw [addC_add] at h2
    unfold gb_X8_settled_280
    rw [rd12 h2.v hq h4, Option.bind_some]
    by_cases c2 : sp_brings D q ≠ 0 ∧ D.nS q = 0
    · rw [if_pos c2, if_neg (show ¬ b2 = 0 from fun z => by rcases hB2 with k | k; (· rw [k.1] at z; exact absurd z (by decide)); (· exact k.2 c2.1)), if_pos (by rw [c2.2]; rfl)]
      rw [if_pos c2.1] at h2
      exact wk_retC h2 (by omega)
    · rw [if_neg c2]
      have G2 : ∀ X Y : Option (Int64 × mt_S), (if b2 = 0 then X else if nI (D.nS q) = 0 then Y else X) = X := by
        intro X Y
        by_cases z : b2 = 0
        · rw [if_pos z]
        · rw [if_neg z, if_neg]
          intro k
          rw [show (0 : Int32) = nI 0 from rfl, cz_eq (by omega) (by omega)] at k
          rcases hB2 with kk | kk
          · exact c2 ⟨kk.2, k⟩
          · exact z kk.1
      rw [G2]
      unfold gb_X8_settled_300
      obtain ⟨s3, g3, h3⟩ := w_thr h2 hp hw hpp hq fw fp fq (f := fun t320 => if (0 : Int32) = 0 then gb_X8_settled_341 N (nI p) (nI q) b1 b2 pc1 pc2 0 t320 else Option.bind (gm_X8_sell N (nI w) 0 t320) fun q335 => gb_X8_settled_341 N (nI p) (nI q) b1 b2 pc1 pc2 (0 + q335.1) q335.2)
      rw [g3]
      rw [if_pos rfl]
      unfold gb_X8_settled_341
      have P3 := pi_thr hp hw hpp hq fw fp fq
      have bV1 : sp_sold D p → sp_brings D p = sp_ssum D p * sp_pc D p := fun c => if_pos c
      have bV2 : sp_sold D q → sp_brings D q = sp_ssum D q * sp_pc D q := fun c => if_pos c
      obtain ⟨s4, g4, h4'⟩ := w_sellIf (l := p) (b := b1) (pc := pc1) (acc := 0) (x := sp_brings D p) (f := fun a t => gb_X8_settled_358 N (nI q) b2 pc2 a t) h3 P3 hpp he hN (thr_ne fp) (by
        rcases hB1 with k | k
        · have sd := (ne p hpp).1.mp k.2
          exact Or.inl ⟨k.1, sold_st sd, fun z => c1 ⟨k.2, z⟩, by rw [e1 k.2]; exact bV1 sd, (ne p hpp).2.1 sd⟩
        · exact Or.inr ⟨k.1, Decidable.not_not.mp k.2⟩)
      rw [g4]
      rw [set_1 pq] at h4'
      have L1 := fin_lot (D := D.putF w 2 3) (l := p) (m := q) (x := sp_brings D p)
      have P4 : pi ((sp_finish (D.putF w 2 3) p (sp_brings D p)).putF q 2 3) M := by
        refine pi_2 (pi_finish (pi_2 hp hw (Or.inr (Or.inr rfl)) fw) hpp ?_) (by rw [L1.2.2.1]; exact hq) (Or.inr (Or.inr rfl)) (L1.2.2.2.2.2 ?_)
        · dsimp only [pd.putF, up2, pd.room, pd.st, pd.br, pd.bal, pd.facts, pd.book, pd.lims, pd.sels, pd.kind, pd.res, pd.bkind, pd.purse]
          split
          · decide
          · exact fp
        · dsimp only [pd.putF, up2, pd.room, pd.st, pd.br, pd.bal, pd.facts, pd.book, pd.lims, pd.sels, pd.kind, pd.res, pd.bkind, pd.purse]
          split
          · decide
          · exact fq
      unfold gb_X8_settled_358
      have sE : sp_stand ((sp_finish (D.putF w 2 3) p (sp_brings D p)).putF q 2 3) q = sp_stand D q := L1.1
      have sS : sp_ssum ((sp_finish (D.putF w 2 3) p (sp_brings D p)).putF q 2 3) q = sp_ssum D q := L1.2.1
      have sN : ((sp_finish (D.putF w 2 3) p (sp_brings D p)).putF q 2 3).nS q = D.nS q := congrFun L1.2.2.2.2.1 q
      obtain ⟨s5, g5, h5⟩ := w_sellIf (l := q) (b := b2) (pc := pc2) (acc := 0 + sp_brings D p) (x := sp_brings D q) (f := fun a t => some (a, t)) h4' P4 (by show q < (sp_finish (D.putF w 2 3) p (sp_brings D p)).nl; rw [L1.2.2.1]; exact hq) he hN (by dsimp only [pd.putF, pd.room, pd.st, pd.br, pd.bal, pd.facts, pd.book, pd.lims, pd.sels, pd.kind, pd.res, pd.bkind, pd.purse]; rw [up2_s]; decide) (by
        rcases hB2 with k | k
        · have sd := (ne q hq).1.mp k.2
          exact Or.inl ⟨k.1, by rw [sE]; exact sold_st sd, by rw [sN]; exact fun z => c2 ⟨k.2, z⟩, by rw [sS, e2 k.2]; exact bV2 sd, (ne q hq).2.1 sd⟩
        · exact Or.inr ⟨k.1, Decidable.not_not.mp k.2⟩)
      rw [g5]
      rw [set_2] at h5
      rw [Int64.zero_add]
      exact wk_retC h5 (by omega)
theorem wk_pre {L : List Int32} {g : Option (Int64 × mt_S)} {x : Int64} {D' : pd} {L' : List Int32} (h : wk s0 ag (addC ag cs L) e g (x, D', L')) : wk s0 ag cs e g (x, D', L ++ L') := by
  obtain ⟨s', e', a, b, c⟩ := h
  dsimp only at b
  rw [addC_add] at b
  exact ⟨s', e', a, b, c⟩
theorem w_settle {a : Int32} (h : rs s0 s D e ag cs) (hp : pi D M) (he : e < 1990) (hN : 5000 ≤ N) : wk s0 ag cs e (gm_X8_settled N a s) (sp_settle D a) := by
  unfold gm_X8_settled sp_settle
  rw [w_noLot h.v, Option.bind_some]
  dsimp only
  refine wk_L h hp (fun w hl1 hw => ?_)
  subst hl1
  have h4 := hp.l0.2
  rw [rd30 h.v hw h4, Option.bind_some]
  have eq : ((D.facts w 11).toInt32 = nI w) ↔ D.facts w 11 = (nI w).toInt64 := t32i (h.v.lot w hw).k30
  refine wk_ifn (by rw [eq]; exact Decidable.not_not.symm) (fun _ => wk_no h) (fun c => ?_)
  have c' : D.facts w 11 = (nI w).toInt64 := Decidable.not_not.mp c
  rw [cl_64 (by omega)] at c'
  rw [rd31 h.v hw h4 c', Option.bind_some, rd32 h.v hw h4 c', Option.bind_some]
  obtain ⟨p, q, hpp, hq, wp, wq, pq, e12, e13⟩ : ∃ p q, p < D.nl ∧ q < D.nl ∧ w ≠ p ∧ w ≠ q ∧ p ≠ q ∧ D.facts w 12 = Int64.ofNat p ∧ D.facts w 13 = Int64.ofNat q := by
    rcases (hp.lot w hw).wh with z | ⟨w', p, q, ⟨z1, z2, z3, z4, z5, z6, z7, z8, z9, z10, z11⟩, z12, z13⟩
    · rw [z] at c'; exact absurd c'.symm (ofn_ne (by omega))
    · rw [c', cl_eq (by omega) (by omega)] at z12
      subst z12
      exact ⟨p, q, z2, z3, z4, z5, z6, z8, z9⟩
  rw [e12, e13, cl_32 (by omega), cl_32 (by omega), cz_ix (by omega), cz_ix (by omega)]
  rw [w_notOpen h.v hp hw, Option.bind_some]
  dsimp only
  refine wk_O h hp hw (fun ow => ?_)
  rw [w_notOpen h.v hp hpp, Option.bind_some]
  dsimp only
  refine wk_O h hp hpp (fun op => ?_)
  rw [w_notOpen h.v hp hq, Option.bind_some]
  dsimp only
  refine wk_O h hp hq (fun oq => ?_)
  have fw := ne1 (notOpen_1 ow)
  have fp := ne1 (notOpen_1 op)
  have fq := ne1 (notOpen_1 oq)
  obtain ⟨s1, g1, h1⟩ := w_bring (N := N) h hp hw he
  rw [g1, Option.bind_some]
  dsimp only
  obtain ⟨s2, g2, h2⟩ := w_bring (N := N) h1 hp hpp he
  rw [g2, Option.bind_some]
  dsimp only
  obtain ⟨s3, g3, h3⟩ := w_bring (N := N) h2 hp hq he
  rw [g3, Option.bind_some]
  dsimp only
  have br : ∀ m, m < D.nl → (sp_sold D m ∧ (if sp_sold D m then sp_brings D m else -1) = sp_brings D m ∧ 0 < (sp_brings D m).toInt ∧ (sp_brings D m).toInt ≤ 12000000000000) ∨ (¬ sp_sold D m ∧ (if sp_sold D m then sp_brings D m else -1) = -1 ∧ sp_brings D m = 0) := by
    intro m hm
    rcases br_i hp hm with ⟨a, b, c⟩ | ⟨a, b⟩
    · exact Or.inl ⟨a, if_pos a, b, c⟩
    · exact Or.inr ⟨a, if_neg a, b⟩
  rw [set_head (br w hw) (br p hpp) (br q hq)]
  rw [addC_add, addC_add, ← List.append_assoc] at h3
  unfold sp_settleIn
  dsimp only
  by_cases k : sp_brings D p + sp_brings D q < sp_brings D w
  · rw [if_pos k, if_pos k]
    have sw : sp_sold D w := by
      rcases br_i hp hw with ⟨a, b, c⟩ | ⟨a, b⟩
      · exact a
      · exfalso
        rw [b, lt_i, add_i] at k
        · rw [show (0 : Int64).toInt = 0 from rfl] at k
          rcases br_i hp hpp with ⟨_, _, _⟩ | ⟨_, k1⟩ <;> rcases br_i hp hq with ⟨_, _, _⟩ | ⟨_, k2⟩ <;> (try rw [k1] at k) <;> (try rw [k2] at k) <;> (try rw [show (0 : Int64).toInt = 0 from rfl] at k) <;> omega
        · rcases br_i hp hpp with ⟨_, _, _⟩ | ⟨_, k1⟩ <;> rcases br_i hp hq with ⟨_, _, _⟩ | ⟨_, k2⟩ <;> (try rw [k1]) <;> (try rw [k2]) <;> (try rw [show (0 : Int64).toInt = 0 from rfl]) <;> omega
    have W := w_set196W h3 hp hw hpp hq wp wq fw fp fq he hN sw
    by_cases n0 : D.nS w = 0
    · rw [if_pos n0] at W ⊢
      exact wk_pre W
    · rw [if_neg n0] at W ⊢
      exact wk_pre W
  · rw [if_neg k, if_neg k]
    have W := w_set196P h3 hp hw hpp hq pq fw fp fq he hN rfl rfl
    by_cases k1 : sp_brings D p ≠ 0 ∧ D.nS p = 0
    · rw [if_pos k1] at W ⊢
      exact wk_pre W
    · rw [if_neg k1] at W ⊢
      by_cases k2 : sp_brings D q ≠ 0 ∧ D.nS q = 0
      · rw [if_pos k2] at W ⊢
        rw [List.append_assoc]
        exact wk_pre W
      · rw [if_neg k2] at W ⊢
        rw [List.append_assoc]
        exact wk_pre W
end S2
