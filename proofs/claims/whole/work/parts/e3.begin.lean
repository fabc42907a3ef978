/-! both after their making; the claim in the pure picture -/
def ab0 : ab := ([], 0, fun _ => 0, 0, 0, 0, [])
theorem len8_r : ∀ k, k < 41 → rfix k → len8 k = rlen k := by decide
theorem rv00 : rv s00 pd.zero 0 := by
  refine ⟨fun k hk => len8_r k (by have := hk.1; omega) hk, ⟨rfl, rfl, Nat.zero_le _, by decide, by decide⟩, rfl, rfl, ?_, rfl, ⟨rfl, ?_⟩, ⟨rfl, ?_⟩, ?_, ?_, ?_⟩
  · intro i hi; exact absurd hi (Nat.not_lt_zero i)
  · intro i hi; exact absurd hi (Nat.not_lt_zero i)
  · intro i hi; exact absurd hi (Nat.not_lt_zero i)
  · intro k _ _; rfl
  · intro k _; rfl
  · intro i hi; exact absurd hi (Nat.not_lt_zero i)
theorem RR00 : RR s00 ab0 := by
  refine ⟨0, Nat.zero_le _, ⟨rv00, ⟨rfl, rfl, Nat.zero_le _, fun i hi => absurd hi (Nat.not_lt_zero i)⟩, rfl, fun _ _ => ⟨rfl, rfl, rfl⟩⟩, ?_⟩
  refine ⟨⟨64, by decide, by decide, Nat.zero_le _, ?_⟩, rfl, ?_, rfl, rfl, ?_, rfl, rfl, rfl⟩
  · intro k h1 h2
    obtain rfl | rfl | rfl | rfl | rfl | rfl | rfl : k = 42 ∨ k = 43 ∨ k = 44 ∨ k = 45 ∨ k = 46 ∨ k = 47 ∨ k = 48 := by omega
    all_goals rfl
  · intro b B hs
    have t := hs.length_le
    exact absurd t (Nat.not_succ_le_zero _)
  · intro i hi; exact absurd hi (Nat.not_lt_zero i)
theorem wf00 : wfT ab0 0 := by
  refine ⟨trivial, Nat.le_refl _, Nat.le_refl _, Nat.le_refl _, Nat.zero_le _, ?_, ?_⟩
  · intro i hi; exact absurd hi (Nat.not_lt_zero i)
  · intro i j _ hj; exact absurd hj (Nat.not_lt_zero j)
theorem rd00 {c p : Nat} : rdD pd.zero c p = 0 := by
  unfold rdD
  (repeat' split) <;> rfl
theorem V00 {c p : Nat} : Vk k00 c p = 0 := by
  unfold Vk
  split <;> rfl
theorem cw00 : cw k00 k00 (sp_run ab0.A) [] [] ab0.cs 0 0 := by
  have nb0 : (sp_run ab0.A).nb = 0 := rfl
  have nl0 : (sp_run ab0.A).nl = 0 := rfl
  refine ⟨fun _ _ => rfl, ⟨rfl, rfl⟩, ⟨rfl, rfl⟩, ⟨by decide, by decide, Nat.le_refl _, Nat.le_refl _⟩, ⟨?_, ?_⟩, ?_, ?_, ⟨by decide, ?_⟩, ⟨rfl, ⟨rfl, rfl, by decide, Nat.zero_le _, Nat.zero_le _, Nat.zero_le _⟩, ?_, ?_⟩, ⟨0, by decide, rfl, fun _ => rfl⟩, fun _ => rfl, ?_, ⟨rfl, Nat.zero_le _, ?_⟩, ⟨Nat.le_refl _, by decide, by decide, by decide, by decide⟩⟩
  · intro l hl; exact absurd hl (Nat.not_lt_zero l)
  · intro l hl; exact absurd hl (Nat.not_lt_zero l)
  · intro c _ p
    rw [V00]
    exact rd00.symm
  · intro c hc
    rw [cl00] at hc
    obtain rfl | rfl | rfl : c = 0 ∨ c = 1 ∨ c = 2 := by omega
    all_goals decide
  · intro l hl; exact absurd hl (Nat.not_lt_zero l)
  · intro e J' hs
    have t := hs.length_le
    exact absurd t (Nat.not_succ_le_zero _)
  · intro e he; exact absurd he List.not_mem_nil
  · intro e he; exact absurd he List.not_mem_nil
  · intro i hi; exact absurd hi (Nat.not_lt_zero i)
theorem CR00 : CR k00 ab0 [] (fun _ => 0) 0 0 := by
  refine ⟨cw00, rfl, rfl, rfl, rfl, fun _ => rfl, ?_, fun _ => rfl, fun _ _ _ _ => Nat.le_refl _, ?_, ?_, ?_⟩
  · intro i hi; exact absurd hi (Nat.not_lt_zero i)
  · intro e he; exact absurd he List.not_mem_nil
  · intro i hi; exact absurd hi (Nat.not_lt_zero i)
  · intro i j _ hj; exact absurd hj (Nat.not_lt_zero j)
theorem LI00 {b B L : Nat} {xs : Nat → Int32} (hb : b < B) : LI b L xs B (B + (20 + 0)) (B + 66) 60247 (bothH (pw_h0 b B L xs) 60247) 0 := by
  refine ⟨ad00 (pw_h0 b B L xs), fun _ => .null, k00, ad8 (pw_h0 b B L xs), s00, ab0, [], fun _ => 0, 0, 0, kt_I00, rfl, mt_MI00, ?_, ?_, ?_, CR00, RR00, wf00, Nat.le_refl _, Nat.le_refl _, ?_, ?_⟩
  · intro key hk
    have t := rix_lt key (kx_dom hk)
    have e : ad00 (pw_h0 b B L xs) key = B + rix key := rfl
    rw [e]
    refine ⟨by omega, by omega, fun q hq ht => ?_⟩
    have e8 : ad8 (pw_h0 b B L xs) q = B + (20 + (1 + rix8 q)) := rfl
    rw [e8]
    omega
  · show (bothH (pw_h0 b B L xs) 60247).2.2 b = _
    have t : (bothH (pw_h0 b B L xs) 60247).2.2 b = (pw_h0 b B L xs).2.2 b := ext_old (by show b < B; exact hb)
    rw [t]
    exact if_pos rfl
  · show b < B + 66
    omega
  · show B + 66 ≤ B + 66 + _ + _
    omega
  · show 0 + 60247 ≤ 60247 + _ + _
    omega
theorem law_start {N b B L : Nat} {xs : Nat → Int32} {h' : ym_H} (e : lp_L_law_18 N N (some b) (some B) (some (B + (20 + 0))) 0 (bothH (pw_h0 b B L xs) 60247) = some (.inl (), h')) : fn_L_law N (some b) (pw_h0 b B L xs) = some (1, h') := by
  have t1 := e_room (N := N) (h := pw_h0 b B L xs)
  have t2 := e_ref (N := N) (h := pw_h0 b B L xs) (m := 20) (k := 1052) (L := roomL (pw_h0 b B L xs)) rfl
  unfold ym_nO at t1 t2
  rw [Option.bind_some] at t1 t2
  unfold fn_L_law ym_nO
  rw [Option.bind_some, t1, Option.bind_some]
  dsimp only
  have t3 : fn_X8_init N (some (ext (pw_h0 b B L xs) 20 (roomL (pw_h0 b B L xs)) 1052).1) (ym_new (ext (pw_h0 b B L xs) 20 (roomL (pw_h0 b B L xs)) 1052) 58 (.inr (8, [.int 0, .null, .null, .null, .int 0, .null, .null, .null, .null, .null, .null, .null, .null, .null, .null, .int 0, .null, .null, .null, .null, .null, .null, .null, .null, .null, .null, .null, .null, .null, .null, .null, .null, .null, .int 0, .null, .null, .int 0, .null, .null, .null, .null, .int 0, .null, .null, .null, .null, .null, .null, .null, .int 0, .null, .int 0, .int 0, .int 0, .null, .int 0, .int 0, .int 0]))) = some ((), bothH (pw_h0 b B L xs) 60247) := t2
  rw [Option.bind_some, t3, Option.bind_some]
  dsimp only
  have e' : lp_L_law_18 N N (some b) (some (pw_h0 b B L xs).1) (some (ext (pw_h0 b B L xs) 20 (roomL (pw_h0 b B L xs)) 1052).1) 0 (bothH (pw_h0 b B L xs) 60247) = some (.inl (), h') := e
  rw [e', Option.bind_some]
theorem pw_holds : pw_claim := by
  intro b B L xs hL hb
  obtain ⟨h', e, I⟩ := LI_loop (N := 40000) hL (Nat.le_refl _) (L / 6) 0 40000 _ (by omega) (by omega) (LI00 (L := L) (xs := xs) hb)
  refine ⟨40000, h', law_start e, ?_, ?_⟩
  all_goals
    obtain ⟨ad, w, k, ad8, s, a, J, jm, g, n, i1, i2, i3, i4, i5, i6, c1, c2, c3, c4, c5, m1, m2⟩ := I
    obtain ⟨u1, u2, u3, u4, u5⟩ := c1.w.bu
    obtain ⟨e0, he, R1, R2⟩ := c2
    obtain ⟨p1, p2, p3, p4, p5⟩ := R1.v.pl
    obtain ⟨c, q1, q2, q3, q4⟩ := R2.cap
    have v2 := q4 42 (by omega) (by omega)
    have v3 := q4 43 (by omega) (by omega)
    have v4 := q4 44 (by omega) (by omega)
    have v5 := q4 45 (by omega) (by omega)
    have v6 := q4 46 (by omega) (by omega)
    have v7 := q4 47 (by omega) (by omega)
    have v8 := q4 48 (by omega) (by omega)
    have mp : mt_P s = 2 * (s.2.2 16 + s.2.2 17 + s.2.2 18 + s.2.2 42 + s.2.2 43 + s.2.2 44 + s.2.2 45 + s.2.2 46 + s.2.2 47 + s.2.2 48) := rfl
    omega
