/-! each call is answered alike -/
section OK
variable {N M1 M2 T : Nat}
theorem okC_seller {a1 : Int32} {a2 : Int32} (hT : T < 512) (hN : 40000 ≤ N) : okC M1 M2 T (fun h => fn_X7_seller N (some M1) a1 a2 h) (fun h => fn_X8_seller N (some M2) a1 a2 h) := by
  intro a hf
  have P := pi_run hf.ok (by have := hf.nn; have := hf.nt; omega)
  have hw : plainW 3 ∨ bidW 3 := Or.inl (by unfold plainW; decide)
  refine ⟨(abAct 3 a1 a2 0 0 0 a).1, (abAct 3 a1 a2 0 0 0 a).2, wf_act hf hT hw, ?_, ?_⟩
  · intro X h0 s0 ad w h k J jm g n C hn F
    have hk := mk_X7_seller (N := N) (a1 := a1) (a2 := a2) F.B
    rw [F.1] at hk
    refine x_act C hf hT hw hn hN F hk (fun k0 hs hc hm => ?_)
    rw [if_neg (by decide), do_3 (a := abPk 3 a1 a2 0 0 0 a) rfl]
    exact a_seller hs hc P (by omega) hn
  · intro X ad h s R B
    obtain ⟨s', e, R'⟩ := RR_act (N := N) (w := 3) (o := a1) (t := a2) (i := 0) (x := 0) (y := 0) R hf hT (by omega) hw
    exact y_go (mm_X8_seller B) (by unfold gm_X8_seller; rw [e]; rfl) R'
theorem okC_cut {a1 : Int32} {a2 : Int32} (hT : T < 512) (hN : 40000 ≤ N) : okC M1 M2 T (fun h => fn_X7_cut N (some M1) a1 a2 h) (fun h => fn_X8_cut N (some M2) a1 a2 h) := by
  intro a hf
  have P := pi_run hf.ok (by have := hf.nn; have := hf.nt; omega)
  have hw : plainW 4 ∨ bidW 4 := Or.inl (by unfold plainW; decide)
  refine ⟨(abAct 4 a1 a2 0 0 0 a).1, (abAct 4 a1 a2 0 0 0 a).2, wf_act hf hT hw, ?_, ?_⟩
  · intro X h0 s0 ad w h k J jm g n C hn F
    have hk := mk_X7_cut (N := N) (a1 := a1) (a2 := a2) F.B
    rw [F.1] at hk
    refine x_act C hf hT hw hn hN F hk (fun k0 hs hc hm => ?_)
    rw [if_neg (by decide), do_4 (a := abPk 4 a1 a2 0 0 0 a) rfl]
    exact a_cut hs hc P hn
  · intro X ad h s R B
    obtain ⟨s', e, R'⟩ := RR_act (N := N) (w := 4) (o := a1) (t := a2) (i := 0) (x := 0) (y := 0) R hf hT (by omega) hw
    exact y_go (mm_X8_cut B) (by unfold gm_X8_cut; rw [e]; rfl) R'
theorem okC_step {a1 : Int64} {a3 : Int64} (hT : T < 512) (hN : 40000 ≤ N) : okC M1 M2 T (fun h => fn_X7_step N (some M1) a1 a3 h) (fun h => fn_X8_step N (some M2) a1 a3 h) := by
  intro a hf
  have P := pi_run hf.ok (by have := hf.nn; have := hf.nt; omega)
  have hw : plainW 5 ∨ bidW 5 := Or.inl (by unfold plainW; decide)
  refine ⟨(abAct 5 0 0 0 a1 a3 a).1, (abAct 5 0 0 0 a1 a3 a).2, wf_act hf hT hw, ?_, ?_⟩
  · intro X h0 s0 ad w h k J jm g n C hn F
    have hk := mk_X7_step (N := N) (a1 := a1) (a3 := a3) F.B
    rw [F.1] at hk
    refine x_act C hf hT hw hn hN F hk (fun k0 hs hc hm => ?_)
    rw [if_neg (by decide), do_5 (a := abPk 5 0 0 0 a1 a3 a) rfl]
    exact a_step hs hc P hn
  · intro X ad h s R B
    obtain ⟨s', e, R'⟩ := RR_act (N := N) (w := 5) (o := 0) (t := 0) (i := 0) (x := a1) (y := a3) R hf hT (by omega) hw
    exact y_go (mm_X8_step B) (by unfold gm_X8_step; rw [e]; rfl) R'
theorem okC_premium {a1 : Int64} {a3 : Int32} (hT : T < 512) (hN : 40000 ≤ N) : okC M1 M2 T (fun h => fn_X7_premium N (some M1) a1 a3 h) (fun h => fn_X8_premium N (some M2) a1 a3 h) := by
  intro a hf
  have P := pi_run hf.ok (by have := hf.nn; have := hf.nt; omega)
  have hw : plainW 6 ∨ bidW 6 := Or.inl (by unfold plainW; decide)
  refine ⟨(abAct 6 a3 0 0 a1 0 a).1, (abAct 6 a3 0 0 a1 0 a).2, wf_act hf hT hw, ?_, ?_⟩
  · intro X h0 s0 ad w h k J jm g n C hn F
    have hk := mk_X7_premium (N := N) (a1 := a1) (a3 := a3) F.B
    rw [F.1] at hk
    refine x_act C hf hT hw hn hN F hk (fun k0 hs hc hm => ?_)
    rw [if_neg (by decide), do_6 (a := abPk 6 a3 0 0 a1 0 a) rfl]
    exact a_prem hs hc P hn
  · intro X ad h s R B
    obtain ⟨s', e, R'⟩ := RR_act (N := N) (w := 6) (o := a3) (t := 0) (i := 0) (x := a1) (y := 0) R hf hT (by omega) hw
    exact y_go (mm_X8_premium B) (by unfold gm_X8_premium; rw [e]; rfl) R'
theorem okC_tax {a1 : Int32} {a2 : Int32} (hT : T < 512) (hN : 40000 ≤ N) : okC M1 M2 T (fun h => fn_X7_tax N (some M1) a1 a2 h) (fun h => fn_X8_tax N (some M2) a1 a2 h) := by
  intro a hf
  have P := pi_run hf.ok (by have := hf.nn; have := hf.nt; omega)
  have hw : plainW 7 ∨ bidW 7 := Or.inl (by unfold plainW; decide)
  refine ⟨(abAct 7 a1 a2 0 0 0 a).1, (abAct 7 a1 a2 0 0 0 a).2, wf_act hf hT hw, ?_, ?_⟩
  · intro X h0 s0 ad w h k J jm g n C hn F
    have hk := mk_X7_tax (N := N) (a1 := a1) (a2 := a2) F.B
    rw [F.1] at hk
    refine x_act C hf hT hw hn hN F hk (fun k0 hs hc hm => ?_)
    rw [if_neg (by decide), do_7 (a := abPk 7 a1 a2 0 0 0 a) rfl]
    exact a_tax hs hc P hn
  · intro X ad h s R B
    obtain ⟨s', e, R'⟩ := RR_act (N := N) (w := 7) (o := a1) (t := a2) (i := 0) (x := 0) (y := 0) R hf hT (by omega) hw
    exact y_go (mm_X8_tax B) (by unfold gm_X8_tax; rw [e]; rfl) R'
theorem okC_call {a1 : Int32} (hT : T < 512) (hN : 40000 ≤ N) : okC M1 M2 T (fun h => fn_X7_call N (some M1) a1 h) (fun h => fn_X8_call N (some M2) a1 h) := by
  intro a hf
  have P := pi_run hf.ok (by have := hf.nn; have := hf.nt; omega)
  have hw : plainW 8 ∨ bidW 8 := Or.inl (by unfold plainW; decide)
  refine ⟨(abAct 8 a1 0 0 0 0 a).1, (abAct 8 a1 0 0 0 0 a).2, wf_act hf hT hw, ?_, ?_⟩
  · intro X h0 s0 ad w h k J jm g n C hn F
    have hk := mk_X7_call (N := N) (a1 := a1) F.B
    rw [F.1] at hk
    refine x_act C hf hT hw hn hN F hk (fun k0 hs hc hm => ?_)
    rw [if_neg (by decide), do_8 (a := abPk 8 a1 0 0 0 0 a) rfl]
    exact a_call hs hc P (by have := hf.nn; have := hf.nt; omega) (by omega) hn
  · intro X ad h s R B
    obtain ⟨s', e, R'⟩ := RR_act (N := N) (w := 8) (o := a1) (t := 0) (i := 0) (x := 0) (y := 0) R hf hT (by omega) hw
    exact y_go (mm_X8_call B) (by unfold gm_X8_call; rw [e]; rfl) R'
theorem okC_bid {a1 : Int32} {a2 : Int32} {a3 : Int64} (hT : T < 512) (hN : 40000 ≤ N) : okC M1 M2 T (fun h => fn_X7_bid N (some M1) a1 a2 a3 h) (fun h => fn_X8_bid N (some M2) a1 a2 a3 h) := by
  intro a hf
  have P := pi_run hf.ok (by have := hf.nn; have := hf.nt; omega)
  have hw : plainW 9 ∨ bidW 9 := Or.inr (by unfold bidW; decide)
  refine ⟨(abAct 9 a1 a2 0 a3 0 a).1, (abAct 9 a1 a2 0 a3 0 a).2, wf_act hf hT hw, ?_, ?_⟩
  · intro X h0 s0 ad w h k J jm g n C hn F
    have hk := mk_X7_bid (N := N) (a1 := a1) (a2 := a2) (a3 := a3) F.B
    rw [F.1] at hk
    refine x_act C hf hT hw hn hN F hk (fun k0 hs hc hm => ?_)
    have en : (abPk 9 a1 a2 0 a3 0 a).n = nI (a.num + 1) := by
      show (if (9 : Int32) = 9 ∨ (9 : Int32) = 10 then nI (a.num + 1) else 0) = _
      rw [if_pos (by decide)]
    rw [if_pos (by decide), do_9 (a := abPk 9 a1 a2 0 a3 0 a) rfl, en]
    exact a_bid hs hc P hm (Nat.le_refl _) (by have := hf.nn; have := hf.nt; omega) (by omega) hn
  · intro X ad h s R B
    obtain ⟨s', e, R'⟩ := RR_act (N := N) (w := 9) (o := a1) (t := a2) (i := 0) (x := a3) (y := 0) R hf hT (by omega) hw
    exact y_go (mm_X8_bid B) (by unfold gm_X8_bid; rw [e]; rfl) R'
theorem okC_limit {a1 : Int32} {a2 : Int32} {a3 : Int64} (hT : T < 512) (hN : 40000 ≤ N) : okC M1 M2 T (fun h => fn_X7_limit N (some M1) a1 a2 a3 h) (fun h => fn_X8_limit N (some M2) a1 a2 a3 h) := by
  intro a hf
  have P := pi_run hf.ok (by have := hf.nn; have := hf.nt; omega)
  have hw : plainW 10 ∨ bidW 10 := Or.inr (by unfold bidW; decide)
  refine ⟨(abAct 10 a1 a2 0 a3 0 a).1, (abAct 10 a1 a2 0 a3 0 a).2, wf_act hf hT hw, ?_, ?_⟩
  · intro X h0 s0 ad w h k J jm g n C hn F
    have hk := mk_X7_limit (N := N) (a1 := a1) (a2 := a2) (a3 := a3) F.B
    rw [F.1] at hk
    refine x_act C hf hT hw hn hN F hk (fun k0 hs hc hm => ?_)
    have en : (abPk 10 a1 a2 0 a3 0 a).n = nI (a.num + 1) := by
      show (if (10 : Int32) = 9 ∨ (10 : Int32) = 10 then nI (a.num + 1) else 0) = _
      rw [if_pos (by decide)]
    rw [if_pos (by decide), do_10 (a := abPk 10 a1 a2 0 a3 0 a) rfl, en]
    exact a_limit hs hc P hm (Nat.le_refl _) (by have := hf.nn; have := hf.nt; omega) (by omega) hn
  · intro X ad h s R B
    obtain ⟨s', e, R'⟩ := RR_act (N := N) (w := 10) (o := a1) (t := a2) (i := 0) (x := a3) (y := 0) R hf hT (by omega) hw
    exact y_go (mm_X8_limit B) (by unfold gm_X8_limit; rw [e]; rfl) R'
theorem okC_ask {a1 : Int32} (hT : T < 512) (hN : 40000 ≤ N) : okC M1 M2 T (fun h => fn_X7_ask N (some M1) a1 h) (fun h => fn_X8_ask N (some M2) a1 h) := by
  intro a hf
  have P := pi_run hf.ok (by have := hf.nn; have := hf.nt; omega)
  have hw : plainW 20 ∨ bidW 20 := Or.inl (by unfold plainW; decide)
  refine ⟨(abAct 20 a1 0 0 0 0 a).1, (abAct 20 a1 0 0 0 0 a).2, wf_act hf hT hw, ?_, ?_⟩
  · intro X h0 s0 ad w h k J jm g n C hn F
    have hk := mk_X7_ask (N := N) (a1 := a1) F.B
    rw [F.1] at hk
    refine x_act C hf hT hw hn hN F hk (fun k0 hs hc hm => ?_)
    rw [if_neg (by decide), do_20 (a := abPk 20 a1 0 0 0 0 a) rfl]
    exact a_ask hs hc P (by omega) hn
  · intro X ad h s R B
    obtain ⟨s', e, R'⟩ := RR_act (N := N) (w := 20) (o := a1) (t := 0) (i := 0) (x := 0) (y := 0) R hf hT (by omega) hw
    exact y_go (mm_X8_ask B) (by unfold gm_X8_ask; rw [e]; rfl) R'
theorem okC_open {a1 : Int32} (hT : T < 512) (hN : 40000 ≤ N) : okC M1 M2 T (fun h => fn_X7_open N (some M1) a1 h) (fun h => fn_X8_open N (some M2) a1 h) := by
  intro a hf
  have P := pi_run hf.ok (by have := hf.nn; have := hf.nt; omega)
  have hw : plainW 11 ∨ bidW 11 := Or.inl (by unfold plainW; decide)
  refine ⟨(abAct 11 a1 0 0 0 0 a).1, (abAct 11 a1 0 0 0 0 a).2, wf_act hf hT hw, ?_, ?_⟩
  · intro X h0 s0 ad w h k J jm g n C hn F
    have hk := mk_X7_open (N := N) (a1 := a1) F.B
    rw [F.1] at hk
    refine x_act C hf hT hw hn hN F hk (fun k0 hs hc hm => ?_)
    rw [if_neg (by decide), do_11 (a := abPk 11 a1 0 0 0 0 a) rfl]
    exact a_open hs hc P (by omega) hn
  · intro X ad h s R B
    obtain ⟨s', e, R'⟩ := RR_act (N := N) (w := 11) (o := a1) (t := 0) (i := 0) (x := 0) (y := 0) R hf hT (by omega) hw
    exact y_go (mm_X8_open B) (by unfold gm_X8_open; rw [e]; rfl) R'
theorem okC_tick {a1 : Int32} {a2 : Int64} (hT : T < 512) (hN : 40000 ≤ N) : okC M1 M2 T (fun h => fn_X7_tick N (some M1) a1 a2 h) (fun h => fn_X8_tick N (some M2) a1 a2 h) := by
  intro a hf
  have P := pi_run hf.ok (by have := hf.nn; have := hf.nt; omega)
  have hw : plainW 12 ∨ bidW 12 := Or.inl (by unfold plainW; decide)
  refine ⟨(abAct 12 a1 0 0 a2 0 a).1, (abAct 12 a1 0 0 a2 0 a).2, wf_act hf hT hw, ?_, ?_⟩
  · intro X h0 s0 ad w h k J jm g n C hn F
    have hk := mk_X7_tick (N := N) (a1 := a1) (a2 := a2) F.B
    rw [F.1] at hk
    refine x_act C hf hT hw hn hN F hk (fun k0 hs hc hm => ?_)
    rw [if_neg (by decide), do_12 (a := abPk 12 a1 0 0 a2 0 a) rfl]
    exact a_tick hs hc P hn
  · intro X ad h s R B
    obtain ⟨s', e, R'⟩ := RR_act (N := N) (w := 12) (o := a1) (t := 0) (i := 0) (x := a2) (y := 0) R hf hT (by omega) hw
    exact y_go (mm_X8_tick B) (by unfold gm_X8_tick; rw [e]; rfl) R'
theorem okC_take {a1 : Int32} {a2 : Int32} (hT : T < 512) (hN : 40000 ≤ N) : okC M1 M2 T (fun h => fn_X7_take N (some M1) a1 a2 h) (fun h => fn_X8_take N (some M2) a1 a2 h) := by
  intro a hf
  have P := pi_run hf.ok (by have := hf.nn; have := hf.nt; omega)
  have hw : plainW 13 ∨ bidW 13 := Or.inl (by unfold plainW; decide)
  refine ⟨(abAct 13 a1 a2 0 0 0 a).1, (abAct 13 a1 a2 0 0 0 a).2, wf_act hf hT hw, ?_, ?_⟩
  · intro X h0 s0 ad w h k J jm g n C hn F
    have hk := mk_X7_take (N := N) (a1 := a1) (a2 := a2) F.B
    rw [F.1] at hk
    refine x_act C hf hT hw hn hN F hk (fun k0 hs hc hm => ?_)
    rw [if_neg (by decide), do_13 (a := abPk 13 a1 a2 0 0 0 a) rfl]
    exact a_take hs hc P hn
  · intro X ad h s R B
    obtain ⟨s', e, R'⟩ := RR_act (N := N) (w := 13) (o := a1) (t := a2) (i := 0) (x := 0) (y := 0) R hf hT (by omega) hw
    exact y_go (mm_X8_take B) (by unfold gm_X8_take; rw [e]; rfl) R'
theorem okC_bidderAt {a1 : Int32} {a2 : Int32} (hT : T < 512) (hN : 40000 ≤ N) : okC M1 M2 T (fun h => fn_X7_bidderAt N (some M1) a1 a2 h) (fun h => fn_X8_bidderAt N (some M2) a1 a2 h) := by
  intro a hf
  have P := pi_run hf.ok (by have := hf.nn; have := hf.nt; omega)
  have hw : plainW 21 ∨ bidW 21 := Or.inl (by unfold plainW; decide)
  refine ⟨(abAct 21 a1 a2 0 0 0 a).1, (abAct 21 a1 a2 0 0 0 a).2, wf_act hf hT hw, ?_, ?_⟩
  · intro X h0 s0 ad w h k J jm g n C hn F
    have hk := mk_X7_bidderAt (N := N) (a1 := a1) (a2 := a2) F.B
    rw [F.1] at hk
    refine x_act C hf hT hw hn hN F hk (fun k0 hs hc hm => ?_)
    rw [if_neg (by decide), do_21 (a := abPk 21 a1 a2 0 0 0 a) rfl]
    unfold gk_X7_bidderAt
    rw [bind_eta]
    exact a_at (q := 0) (col := 0) rfl (by omega) hs hc P hn
  · intro X ad h s R B
    obtain ⟨s', e, R'⟩ := RR_act (N := N) (w := 21) (o := a1) (t := a2) (i := 0) (x := 0) (y := 0) R hf hT (by omega) hw
    exact y_go (mm_X8_bidderAt B) (by unfold gm_X8_bidderAt; rw [e]; rfl) R'
theorem okC_sumAt {a1 : Int32} {a2 : Int32} (hT : T < 512) (hN : 40000 ≤ N) : okC M1 M2 T (fun h => fn_X7_sumAt N (some M1) a1 a2 h) (fun h => fn_X8_sumAt N (some M2) a1 a2 h) := by
  intro a hf
  have P := pi_run hf.ok (by have := hf.nn; have := hf.nt; omega)
  have hw : plainW 22 ∨ bidW 22 := Or.inl (by unfold plainW; decide)
  refine ⟨(abAct 22 a1 a2 0 0 0 a).1, (abAct 22 a1 a2 0 0 0 a).2, wf_act hf hT hw, ?_, ?_⟩
  · intro X h0 s0 ad w h k J jm g n C hn F
    have hk := mk_X7_sumAt (N := N) (a1 := a1) (a2 := a2) F.B
    rw [F.1] at hk
    refine x_act C hf hT hw hn hN F hk (fun k0 hs hc hm => ?_)
    rw [if_neg (by decide), do_22 (a := abPk 22 a1 a2 0 0 0 a) rfl]
    unfold gk_X7_sumAt
    rw [bind_eta]
    exact a_at (q := 1) (col := 1) rfl (by omega) hs hc P hn
  · intro X ad h s R B
    obtain ⟨s', e, R'⟩ := RR_act (N := N) (w := 22) (o := a1) (t := a2) (i := 0) (x := 0) (y := 0) R hf hT (by omega) hw
    exact y_go (mm_X8_sumAt B) (by unfold gm_X8_sumAt; rw [e]; rfl) R'
theorem okC_hammer {a1 : Int32} (hT : T < 512) (hN : 40000 ≤ N) : okC M1 M2 T (fun h => fn_X7_hammer N (some M1) a1 h) (fun h => fn_X8_hammer N (some M2) a1 h) := by
  intro a hf
  have P := pi_run hf.ok (by have := hf.nn; have := hf.nt; omega)
  have hw : plainW 14 ∨ bidW 14 := Or.inl (by unfold plainW; decide)
  refine ⟨(abAct 14 a1 0 0 0 0 a).1, (abAct 14 a1 0 0 0 0 a).2, wf_act hf hT hw, ?_, ?_⟩
  · intro X h0 s0 ad w h k J jm g n C hn F
    have hk := mk_X7_hammer (N := N) (a1 := a1) F.B
    rw [F.1] at hk
    refine x_act C hf hT hw hn hN F hk (fun k0 hs hc hm => ?_)
    rw [if_neg (by decide), do_14 (a := abPk 14 a1 0 0 0 0 a) rfl]
    exact a_hammer hs hc P (by omega) hn
  · intro X ad h s R B
    obtain ⟨s', e, R'⟩ := RR_act (N := N) (w := 14) (o := a1) (t := 0) (i := 0) (x := 0) (y := 0) R hf hT (by omega) hw
    exact y_go (mm_X8_hammer B) (by unfold gm_X8_hammer; rw [e]; rfl) R'
theorem okC_join {a1 : Int32} {a2 : Int32} {a3 : Int32} (hT : T < 512) (hN : 40000 ≤ N) : okC M1 M2 T (fun h => fn_X7_join N (some M1) a1 a2 a3 h) (fun h => fn_X8_join N (some M2) a1 a2 a3 h) := by
  intro a hf
  have P := pi_run hf.ok (by have := hf.nn; have := hf.nt; omega)
  have hw : plainW 15 ∨ bidW 15 := Or.inl (by unfold plainW; decide)
  refine ⟨(abAct 15 a1 a2 a3 0 0 a).1, (abAct 15 a1 a2 a3 0 0 a).2, wf_act hf hT hw, ?_, ?_⟩
  · intro X h0 s0 ad w h k J jm g n C hn F
    have hk := mk_X7_join (N := N) (a1 := a1) (a2 := a2) (a3 := a3) F.B
    rw [F.1] at hk
    refine x_act C hf hT hw hn hN F hk (fun k0 hs hc hm => ?_)
    rw [if_neg (by decide), do_15 (a := abPk 15 a1 a2 a3 0 0 a) rfl]
    exact a_join hs hc P hn
  · intro X ad h s R B
    obtain ⟨s', e, R'⟩ := RR_act (N := N) (w := 15) (o := a1) (t := a2) (i := a3) (x := 0) (y := 0) R hf hT (by omega) hw
    exact y_go (mm_X8_join B) (by unfold gm_X8_join; rw [e]; rfl) R'
theorem okC_settle {a1 : Int32} (hT : T < 512) (hN : 40000 ≤ N) : okC M1 M2 T (fun h => fn_X7_settle N (some M1) a1 h) (fun h => fn_X8_settle N (some M2) a1 h) := by
  intro a hf
  have P := pi_run hf.ok (by have := hf.nn; have := hf.nt; omega)
  have hw : plainW 16 ∨ bidW 16 := Or.inl (by unfold plainW; decide)
  refine ⟨(abAct 16 a1 0 0 0 0 a).1, (abAct 16 a1 0 0 0 0 a).2, wf_act hf hT hw, ?_, ?_⟩
  · intro X h0 s0 ad w h k J jm g n C hn F
    have hk := mk_X7_settle (N := N) (a1 := a1) F.B
    rw [F.1] at hk
    refine x_act C hf hT hw hn hN F hk (fun k0 hs hc hm => ?_)
    rw [if_neg (by decide), do_16 (a := abPk 16 a1 0 0 0 0 a) rfl]
    exact a_settle hs hc P (by omega) hn
  · intro X ad h s R B
    obtain ⟨s', e, R'⟩ := RR_act (N := N) (w := 16) (o := a1) (t := 0) (i := 0) (x := 0) (y := 0) R hf hT (by omega) hw
    exact y_go (mm_X8_settle B) (by unfold gm_X8_settle; rw [e]; rfl) R'
theorem okC_reoffer {a1 : Int32} {a2 : Int64} (hT : T < 512) (hN : 40000 ≤ N) : okC M1 M2 T (fun h => fn_X7_reoffer N (some M1) a1 a2 h) (fun h => fn_X8_reoffer N (some M2) a1 a2 h) := by
  intro a hf
  have P := pi_run hf.ok (by have := hf.nn; have := hf.nt; omega)
  have hw : plainW 17 ∨ bidW 17 := Or.inl (by unfold plainW; decide)
  refine ⟨(abAct 17 a1 0 0 a2 0 a).1, (abAct 17 a1 0 0 a2 0 a).2, wf_act hf hT hw, ?_, ?_⟩
  · intro X h0 s0 ad w h k J jm g n C hn F
    have hk := mk_X7_reoffer (N := N) (a1 := a1) (a2 := a2) F.B
    rw [F.1] at hk
    refine x_act C hf hT hw hn hN F hk (fun k0 hs hc hm => ?_)
    rw [if_neg (by decide), do_17 (a := abPk 17 a1 0 0 a2 0 a) rfl]
    exact a_reoffer hs hc P (by omega) hn
  · intro X ad h s R B
    obtain ⟨s', e, R'⟩ := RR_act (N := N) (w := 17) (o := a1) (t := 0) (i := 0) (x := a2) (y := 0) R hf hT (by omega) hw
    exact y_go (mm_X8_reoffer B) (by unfold gm_X8_reoffer; rw [e]; rfl) R'
theorem okC_pay {a1 : Int32} {a2 : Int64} (hT : T < 512) (hN : 40000 ≤ N) : okC M1 M2 T (fun h => fn_X7_pay N (some M1) a1 a2 h) (fun h => fn_X8_pay N (some M2) a1 a2 h) := by
  intro a hf
  have P := pi_run hf.ok (by have := hf.nn; have := hf.nt; omega)
  have hw : plainW 18 ∨ bidW 18 := Or.inl (by unfold plainW; decide)
  refine ⟨(abAct 18 a1 0 0 a2 0 a).1, (abAct 18 a1 0 0 a2 0 a).2, wf_act hf hT hw, ?_, ?_⟩
  · intro X h0 s0 ad w h k J jm g n C hn F
    have hk := mk_X7_pay (N := N) (a1 := a1) (a2 := a2) F.B
    rw [F.1] at hk
    refine x_act C hf hT hw hn hN F hk (fun k0 hs hc hm => ?_)
    rw [if_neg (by decide), do_18 (a := abPk 18 a1 0 0 a2 0 a) rfl]
    exact a_pay hs hc P hn
  · intro X ad h s R B
    obtain ⟨s', e, R'⟩ := RR_act (N := N) (w := 18) (o := a1) (t := 0) (i := 0) (x := a2) (y := 0) R hf hT (by omega) hw
    exact y_go (mm_X8_pay B) (by unfold gm_X8_pay; rw [e]; rfl) R'
theorem okC_payOut {a1 : Int32} {a2 : Int64} (hT : T < 512) (hN : 40000 ≤ N) : okC M1 M2 T (fun h => fn_X7_payOut N (some M1) a1 a2 h) (fun h => fn_X8_payOut N (some M2) a1 a2 h) := by
  intro a hf
  have P := pi_run hf.ok (by have := hf.nn; have := hf.nt; omega)
  have hw : plainW 19 ∨ bidW 19 := Or.inl (by unfold plainW; decide)
  refine ⟨(abAct 19 a1 0 0 a2 0 a).1, (abAct 19 a1 0 0 a2 0 a).2, wf_act hf hT hw, ?_, ?_⟩
  · intro X h0 s0 ad w h k J jm g n C hn F
    have hk := mk_X7_payOut (N := N) (a1 := a1) (a2 := a2) F.B
    rw [F.1] at hk
    refine x_act C hf hT hw hn hN F hk (fun k0 hs hc hm => ?_)
    rw [if_neg (by decide), do_19 (a := abPk 19 a1 0 0 a2 0 a) rfl]
    exact a_payOut hs hc P hn
  · intro X ad h s R B
    obtain ⟨s', e, R'⟩ := RR_act (N := N) (w := 19) (o := a1) (t := 0) (i := 0) (x := a2) (y := 0) R hf hT (by omega) hw
    exact y_go (mm_X8_payOut B) (by unfold gm_X8_payOut; rw [e]; rfl) R'
theorem okC_bidder {a1 : Int32} {a2 : Int64} (hT : T < 512) (hN : 40000 ≤ N) : okC M1 M2 T (fun h => fn_X7_bidder N (some M1) a1 a2 h) (fun h => fn_X8_bidder N (some M2) a1 a2 h) := by
  intro a hf
  have P := pi_run hf.ok (by have := hf.nn; have := hf.nt; omega)
  have hw : plainW 1 ∨ bidW 1 := Or.inl (by unfold plainW; decide)
  refine ⟨(abAct 1 a1 0 0 a2 0 a).1, (abAct 1 a1 0 0 a2 0 a).2, wf_act hf hT hw, ?_, ?_⟩
  · intro X h0 s0 ad w h k J jm g n C hn F
    exact x_bidder C hf hT hn hN F
  · intro X ad h s R B
    obtain ⟨s', e, R'⟩ := RR_act (N := N) (w := 1) (o := a1) (t := 0) (i := 0) (x := a2) (y := 0) R hf hT (by omega) hw
    exact y_go (mm_X8_bidder B) (by unfold gm_X8_bidder; rw [e]; rfl) R'
theorem okC_lot {a1 : Int32} {a2 : Int64} {a4 : Int64} (hT : T < 512) (hN : 40000 ≤ N) : okC M1 M2 T (fun h => fn_X7_lot N (some M1) a1 a2 a4 h) (fun h => fn_X8_lot N (some M2) a1 a2 a4 h) := by
  intro a hf
  have P := pi_run hf.ok (by have := hf.nn; have := hf.nt; omega)
  have hw : plainW 2 ∨ bidW 2 := Or.inl (by unfold plainW; decide)
  refine ⟨(abAct 2 a1 0 0 a2 a4 a).1, (abAct 2 a1 0 0 a2 a4 a).2, wf_act hf hT hw, ?_, ?_⟩
  · intro X h0 s0 ad w h k J jm g n C hn F
    exact x_lot C hf hT hn hN F
  · intro X ad h s R B
    obtain ⟨s', e, R'⟩ := RR_act (N := N) (w := 2) (o := a1) (t := 0) (i := 0) (x := a2) (y := a4) R hf hT (by omega) hw
    exact y_go (mm_X8_lot B) (by unfold gm_X8_lot; rw [e]; rfl) R'
theorem okC_batch (hT : T < 512) (hN : 40000 ≤ N) : okC M1 M2 T (fun h => fn_X7_batch N (some M1) h) (fun h => fn_X8_batch N (some M2) h) := by
  intro a hf
  have P := pi_run hf.ok (by have := hf.nn; have := hf.nt; omega)
  refine ⟨(abBatch a).1, (abBatch a).2, wf_batch hf, ?_, ?_⟩
  · intro X h0 s0 ad w h k J jm g n C hn F
    have hk := mk_X7_batch (N := N) F.B
    rw [F.1] at hk
    obtain ⟨k', J', jm', e, C'⟩ := CR_batch (N := N) C hf hT hN
    obtain ⟨ad', w', h', e2, F'⟩ := F.go hk e
    exact ⟨ad', w', h', k', J', jm', g, n, e2, F', C', by omega, by omega⟩
  · intro X ad h s R B
    obtain ⟨s', e, R'⟩ := RR_batch (N := N) (o := 0) (t := 0) (i := 0) (x := 0) (y := 0) R hf hT (by omega)
    exact y_go (mm_X8_batch B) (by unfold gm_X8_batch; rw [e]; rfl) R'
theorem okC_end (hT : T < 512) (hN : 40000 ≤ N) : okC M1 M2 T (fun h => fn_X7_end N (some M1) h) (fun h => fn_X8_end N (some M2) h) := by
  intro a hf
  have P := pi_run hf.ok (by have := hf.nn; have := hf.nt; omega)
  refine ⟨(abEnd a).1, (abEnd a).2, wf_end hf, ?_, ?_⟩
  · intro X h0 s0 ad w h k J jm g n C hn F
    have hk := mk_X7_end (N := N) F.B
    rw [F.1] at hk
    obtain ⟨k', J', e, C'⟩ := CR_end (N := N) C hf hT hN
    obtain ⟨ad', w', h', e2, F'⟩ := F.go hk e
    exact ⟨ad', w', h', k', J', jm, g, n, e2, F', C', by omega, by omega⟩
  · intro X ad h s R B
    obtain ⟨s', e, R'⟩ := RR_end (N := N) (o := 0) (t := 0) (i := 0) (x := 0) (y := 0) R hf hT (by omega)
    exact y_go (mm_X8_end B) (by unfold gm_X8_end; rw [e]; rfl) R'
theorem okC_undo (hT : T < 512) (hN : 40000 ≤ N) : okC M1 M2 T (fun h => fn_X7_undo N (some M1) h) (fun h => fn_X8_undo N (some M2) h) := by
  intro a hf
  have P := pi_run hf.ok (by have := hf.nn; have := hf.nt; omega)
  refine ⟨(abUndo a).1, (abUndo a).2, wf_undo hf, ?_, ?_⟩
  · intro X h0 s0 ad w h k J jm g n C hn F
    have hk := mk_X7_undo (N := N) F.B
    rw [F.1] at hk
    obtain ⟨k', J', e, C'⟩ := CR_undo (N := N) C hf hT hN
    obtain ⟨ad', w', h', e2, F'⟩ := F.go hk e
    exact ⟨ad', w', h', k', J', jm, g, n, e2, F', C', by omega, by omega⟩
  · intro X ad h s R B
    obtain ⟨s', e, R'⟩ := RR_undo (N := N) (o := 0) (t := 0) (i := 0) (x := 0) (y := 0) R hf hT (by omega)
    exact y_go (mm_X8_undo B) (by unfold gm_X8_undo; rw [e]; rfl) R'
theorem kq_num {k : mt_S} {a : ab} {J : List je} {jm : Nat → Nat} {g n : Nat} {v : Int32} (C : CR k a J jm g n) : gk_X7_numbers N v k = some (q_num a v, k) := by
  unfold gk_X7_numbers q_num
  rw [C.num]
  by_cases c : v = 0
  · rw [if_pos c, if_pos (Or.inl c)]
  · rw [if_neg c]
    by_cases d : v = 1
    · rw [if_pos d, if_pos (Or.inr d)]
    · rw [if_neg d, if_neg (by rintro (z | z); exact c z; exact d z)]
theorem rq_num {s : mt_S} {a : ab} {v : Int32} (R : RH s a) : gm_X8_numbers N v s = some (q_num a v, s) := by
  unfold gm_X8_numbers q_num
  rw [R.num]
  by_cases c : v = 0
  · rw [if_pos c, if_pos (Or.inl c)]
  · rw [if_neg c]
    by_cases d : v = 1
    · rw [if_pos d, if_pos (Or.inr d)]
    · rw [if_neg d, if_neg (by rintro (z | z); exact c z; exact d z)]
theorem okC_kindOf {a1 : Int32} (hT : T < 512) (hN : 40000 ≤ N) : okC M1 M2 T (fun h => fn_X7_kindOf N (some M1) a1 h) (fun h => fn_X8_kindOf N (some M2) a1 h) := by
  intro a hf
  have P := pi_run hf.ok (by have := hf.nn; have := hf.nt; omega)
  refine ⟨q_lot (sp_run a.A) a1 0 (sp_run a.A).kind, a, wf_up hf, ?_, ?_⟩
  · intro X h0 s0 ad w h k J jm g n C hn F
    have hk := mk_X7_kindOf (N := N) (a1 := a1) F.B
    rw [F.1] at hk
    exact x_ask0 C F hk (x_kindOf C.w P)
  · intro X ad h s R B
    obtain ⟨e, he, R1, R2⟩ := R
    exact y_go (mm_X8_kindOf B) (r_kindOf R1.v P) ⟨e, he, R1, R2⟩
theorem okC_bidderKind {a1 : Int32} (hT : T < 512) (hN : 40000 ≤ N) : okC M1 M2 T (fun h => fn_X7_bidderKind N (some M1) a1 h) (fun h => fn_X8_bidderKind N (some M2) a1 h) := by
  intro a hf
  have P := pi_run hf.ok (by have := hf.nn; have := hf.nt; omega)
  refine ⟨q_bid (sp_run a.A) a1 0 (sp_run a.A).bkind, a, wf_up hf, ?_, ?_⟩
  · intro X h0 s0 ad w h k J jm g n C hn F
    have hk := mk_X7_bidderKind (N := N) (a1 := a1) F.B
    rw [F.1] at hk
    exact x_ask0 C F hk (x_bidderKind C.w P)
  · intro X ad h s R B
    obtain ⟨e, he, R1, R2⟩ := R
    exact y_go (mm_X8_bidderKind B) (r_bidderKind R1.v P) ⟨e, he, R1, R2⟩
theorem okC_state {a1 : Int32} (hT : T < 512) (hN : 40000 ≤ N) : okC M1 M2 T (fun h => fn_X7_state N (some M1) a1 h) (fun h => fn_X8_state N (some M2) a1 h) := by
  intro a hf
  have P := pi_run hf.ok (by have := hf.nn; have := hf.nt; omega)
  refine ⟨q_lot (sp_run a.A) a1 (-1) (fun l => ((sp_run a.A).facts l 2).toInt32), a, wf_up hf, ?_, ?_⟩
  · intro X h0 s0 ad w h k J jm g n C hn F
    have hk := mk_X7_state (N := N) (a1 := a1) F.B
    rw [F.1] at hk
    exact x_ask0 C F hk (x_state C.w P)
  · intro X ad h s R B
    obtain ⟨e, he, R1, R2⟩ := R
    exact y_go (mm_X8_state B) (r_state R1.v P) ⟨e, he, R1, R2⟩
theorem okC_stands {a1 : Int32} (hT : T < 512) (hN : 40000 ≤ N) : okC M1 M2 T (fun h => fn_X7_stands N (some M1) a1 h) (fun h => fn_X8_stands N (some M2) a1 h) := by
  intro a hf
  have P := pi_run hf.ok (by have := hf.nn; have := hf.nt; omega)
  refine ⟨q_lot (sp_run a.A) a1 (-1) (sp_stand (sp_run a.A)), a, wf_up hf, ?_, ?_⟩
  · intro X h0 s0 ad w h k J jm g n C hn F
    have hk := mk_X7_stands (N := N) (a1 := a1) F.B
    rw [F.1] at hk
    exact x_ask0 C F hk (x_stands C.w P)
  · intro X ad h s R B
    obtain ⟨e, he, R1, R2⟩ := R
    exact y_go (mm_X8_stands B) (r_stands R1.v P (by have := hf.nt; omega)) ⟨e, he, R1, R2⟩
theorem okC_sum {a1 : Int32} (hT : T < 512) (hN : 40000 ≤ N) : okC M1 M2 T (fun h => fn_X7_sum N (some M1) a1 h) (fun h => fn_X8_sum N (some M2) a1 h) := by
  intro a hf
  have P := pi_run hf.ok (by have := hf.nn; have := hf.nt; omega)
  refine ⟨q_lot (sp_run a.A) a1 0 (sp_ssum (sp_run a.A)), a, wf_up hf, ?_, ?_⟩
  · intro X h0 s0 ad w h k J jm g n C hn F
    have hk := mk_X7_sum (N := N) (a1 := a1) F.B
    rw [F.1] at hk
    exact x_ask0 C F hk (x_sum C.w P)
  · intro X ad h s R B
    obtain ⟨e, he, R1, R2⟩ := R
    exact y_go (mm_X8_sum B) (r_sum R1.v P (by have := hf.nt; omega)) ⟨e, he, R1, R2⟩
theorem okC_entries {a1 : Int32} (hT : T < 512) (hN : 40000 ≤ N) : okC M1 M2 T (fun h => fn_X7_entries N (some M1) a1 h) (fun h => fn_X8_entries N (some M2) a1 h) := by
  intro a hf
  have P := pi_run hf.ok (by have := hf.nn; have := hf.nt; omega)
  refine ⟨q_lot (sp_run a.A) a1 (-1) (q_entries (sp_run a.A)), a, wf_up hf, ?_, ?_⟩
  · intro X h0 s0 ad w h k J jm g n C hn F
    have hk := mk_X7_entries (N := N) (a1 := a1) F.B
    rw [F.1] at hk
    exact x_ask0 C F hk (x_entries C.w P)
  · intro X ad h s R B
    obtain ⟨e, he, R1, R2⟩ := R
    exact y_go (mm_X8_entries B) (r_entries R1.v P) ⟨e, he, R1, R2⟩
theorem okC_cause {a1 : Int32} {a2 : Int32} (hT : T < 512) (hN : 40000 ≤ N) : okC M1 M2 T (fun h => fn_X7_cause N (some M1) a1 a2 h) (fun h => fn_X8_cause N (some M2) a1 a2 h) := by
  intro a hf
  have P := pi_run hf.ok (by have := hf.nn; have := hf.nt; omega)
  refine ⟨q_cause (sp_run a.A) a1 a2, a, wf_up hf, ?_, ?_⟩
  · intro X h0 s0 ad w h k J jm g n C hn F
    have hk := mk_X7_cause (N := N) (a1 := a1) (a2 := a2) F.B
    rw [F.1] at hk
    exact x_ask0 C F hk (x_cause C.w P)
  · intro X ad h s R B
    obtain ⟨e, he, R1, R2⟩ := R
    exact y_go (mm_X8_cause B) (r_cause R1.v P) ⟨e, he, R1, R2⟩
theorem okC_balance {a1 : Int32} (hT : T < 512) (hN : 40000 ≤ N) : okC M1 M2 T (fun h => fn_X7_balance N (some M1) a1 h) (fun h => fn_X8_balance N (some M2) a1 h) := by
  intro a hf
  have P := pi_run hf.ok (by have := hf.nn; have := hf.nt; omega)
  refine ⟨q_bid (sp_run a.A) a1 0 (fun b => (sp_run a.A).bal b 0), a, wf_up hf, ?_, ?_⟩
  · intro X h0 s0 ad w h k J jm g n C hn F
    have hk := mk_X7_balance (N := N) (a1 := a1) F.B
    rw [F.1] at hk
    exact x_ask0 C F hk (x_balance C.w P)
  · intro X ad h s R B
    obtain ⟨e, he, R1, R2⟩ := R
    exact y_go (mm_X8_balance B) (r_balance R1.v P) ⟨e, he, R1, R2⟩
theorem okC_account {a1 : Int32} (hT : T < 512) (hN : 40000 ≤ N) : okC M1 M2 T (fun h => fn_X7_account N (some M1) a1 h) (fun h => fn_X8_account N (some M2) a1 h) := by
  intro a hf
  have P := pi_run hf.ok (by have := hf.nn; have := hf.nt; omega)
  refine ⟨q_acc (sp_run a.A) a1, a, wf_up hf, ?_, ?_⟩
  · intro X h0 s0 ad w h k J jm g n C hn F
    have hk := mk_X7_account (N := N) (a1 := a1) F.B
    rw [F.1] at hk
    exact x_ask0 C F hk (x_acc C.w)
  · intro X ad h s R B
    obtain ⟨e, he, R1, R2⟩ := R
    exact y_go (mm_X8_account B) (r_acc R1.v) ⟨e, he, R1, R2⟩
theorem okC_total (hT : T < 512) (hN : 40000 ≤ N) : okC M1 M2 T (fun h => fn_X7_total N (some M1) h) (fun h => fn_X8_total N (some M2) h) := by
  intro a hf
  have P := pi_run hf.ok (by have := hf.nn; have := hf.nt; omega)
  refine ⟨q_tot (sp_run a.A) (sp_run a.A).nb, a, wf_up hf, ?_, ?_⟩
  · intro X h0 s0 ad w h k J jm g n C hn F
    have hk := mk_X7_total (N := N) F.B
    rw [F.1] at hk
    exact x_ask0 C F hk (x_total C.w P (by omega))
  · intro X ad h s R B
    obtain ⟨e, he, R1, R2⟩ := R
    exact y_go (mm_X8_total B) (r_total R1.v P.b0.2 (by omega)) ⟨e, he, R1, R2⟩
theorem okC_numbers {a1 : Int32} (hT : T < 512) (hN : 40000 ≤ N) : okC M1 M2 T (fun h => fn_X7_numbers N (some M1) a1 h) (fun h => fn_X8_numbers N (some M2) a1 h) := by
  intro a hf
  have P := pi_run hf.ok (by have := hf.nn; have := hf.nt; omega)
  refine ⟨q_num a a1, a, wf_up hf, ?_, ?_⟩
  · intro X h0 s0 ad w h k J jm g n C hn F
    have hk := mk_X7_numbers (N := N) (a1 := a1) F.B
    rw [F.1] at hk
    exact x_ask0 C F hk (kq_num C)
  · intro X ad h s R B
    obtain ⟨e, he, R1, R2⟩ := R
    exact y_go (mm_X8_numbers B) (rq_num R2) ⟨e, he, R1, R2⟩
theorem okC_tries (hT : T < 512) (hN : 40000 ≤ N) : okC M1 M2 T (fun h => fn_X7_tries N (some M1) h) (fun h => fn_X8_tries N (some M2) h) := by
  intro a hf
  have P := pi_run hf.ok (by have := hf.nn; have := hf.nt; omega)
  refine ⟨nI a.tr, a, wf_up hf, ?_, ?_⟩
  · intro X h0 s0 ad w h k J jm g n C hn F
    have hk := mk_X7_tries (N := N) F.B
    rw [F.1] at hk
    exact x_ask0 C F hk ((by unfold gk_X7_tries; rw [C.tr]))
  · intro X ad h s R B
    obtain ⟨e, he, R1, R2⟩ := R
    exact y_go (mm_X8_tries B) ((by unfold gm_X8_tries; rw [R2.tr])) ⟨e, he, R1, R2⟩
theorem okC_why (hT : T < 512) (hN : 40000 ≤ N) : okC M1 M2 T (fun h => fn_X7_why N (some M1) h) (fun h => fn_X8_why N (some M2) h) := by
  intro a hf
  have P := pi_run hf.ok (by have := hf.nn; have := hf.nt; omega)
  refine ⟨a.why, a, wf_up hf, ?_, ?_⟩
  · intro X h0 s0 ad w h k J jm g n C hn F
    have hk := mk_X7_why (N := N) F.B
    rw [F.1] at hk
    exact x_ask0 C F hk ((by unfold gk_X7_why; rw [C.why]))
  · intro X ad h s R B
    obtain ⟨e, he, R1, R2⟩ := R
    exact y_go (mm_X8_why B) ((by unfold gm_X8_why; rw [R2.why])) ⟨e, he, R1, R2⟩
theorem okC_trace {a1 : Int32} (hT : T < 512) (hN : 40000 ≤ N) : okC M1 M2 T (fun h => fn_X7_trace N (some M1) a1 h) (fun h => fn_X8_trace N (some M2) a1 h) := by
  intro a hf
  have P := pi_run hf.ok (by have := hf.nn; have := hf.nt; omega)
  refine ⟨q_trace a.cs a1, a, wf_up hf, ?_, ?_⟩
  · intro X h0 s0 ad w h k J jm g n C hn F
    have hk := mk_X7_trace (N := N) (a1 := a1) F.B
    rw [F.1] at hk
    exact x_ask0 C F hk (x_trace C.w)
  · intro X ad h s R B
    obtain ⟨e, he, R1, R2⟩ := R
    exact y_go (mm_X8_trace B) (r_trace R1.c) ⟨e, he, R1, R2⟩
theorem okC_batches (hT : T < 512) (hN : 40000 ≤ N) : okC M1 M2 T (fun h => fn_X7_batches N (some M1) h) (fun h => fn_X8_batches N (some M2) h) := by
  intro a hf
  have P := pi_run hf.ok (by have := hf.nn; have := hf.nt; omega)
  refine ⟨nI a.dp, a, wf_up hf, ?_, ?_⟩
  · intro X h0 s0 ad w h k J jm g n C hn F
    have hk := mk_X7_batches (N := N) F.B
    rw [F.1] at hk
    exact x_ask0 C F hk ((by unfold gk_X7_batches gk_X3_depth; rw [C.dp]; rfl))
  · intro X ad h s R B
    obtain ⟨e, he, R1, R2⟩ := R
    exact y_go (mm_X8_batches B) ((by unfold gm_X8_batches; rw [R2.dp])) ⟨e, he, R1, R2⟩
theorem okC_digest (hT : T < 512) (hN : 40000 ≤ N) : okC M1 M2 T (fun h => fn_X7_digest N (some M1) h) (fun h => fn_X8_digest N (some M2) h) := by
  intro a hf
  have P := pi_run hf.ok (by have := hf.nn; have := hf.nt; omega)
  refine ⟨q_dig (sp_run a.A), a, wf_up hf, ?_, ?_⟩
  · intro X h0 s0 ad w h k J jm g n C hn F
    have hk := mk_X7_digest (N := N) F.B
    rw [F.1] at hk
    exact x_ask0 C F hk (x_dig C.w P (by omega))
  · intro X ad h s R B
    obtain ⟨e, he, R1, R2⟩ := R
    exact y_go (mm_X8_digest B) (r_dig R1.v P (by have := hf.nt; omega) (by omega)) ⟨e, he, R1, R2⟩
end OK
