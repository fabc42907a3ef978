/-! THE CLAIM OUT OF ONE WALK OF THE LAW'S BODY. Your part is whole_start (and what it stands on); all else here is the same for every law, but numbers. -/
def R_law : String := "AuctionRoomLaw"
def lw_P (b : Addr) (xs : List Int32) (args : Array Value) (s : State) : Prop := args = #[.ref b] ∧ s.IntsAt b xs ∧ xs.length ≤ 3072 ∧ (Jvm.Cond.and given_1 narrow_1).before args s = true
def lw_Q (_ : Array Value) (s : State) (o : Outcome) (t : State) : Prop := o = .returned (some (.int 1)) ∧ Framed s o t [] 600000 7302250
def lw_Z (below : List Frame) (a : Array Value) (s : State) : State → Prop := fun t => ∃ o, t.status = .running ∧ Ended t below o ∧ lw_Q a s o t
/-- the law's own end, with 1 on the stack, nothing written that was there before, its room as the claim has it -/
theorem lw_ret {p : Program} {l : Launch} {e : Env} {s : State} {m : MethodId} {below : List Frame} {meth : Method} {c : Code} {b : Nat} (hx : p.tables.exec = Jvm.exec) (hb : c.code = code) (hr : meth.sig.returnType = ret) (hlocks : meth.locks = false) {pc : Nat} {H : Heap} {ls : Array Slot} (hdg : decode code pc = .ok (.ireturn, 1)) : W p l e room_1 s m #[Value.ref b] below meth c H [] 600000 7302250 (lw_Z below #[Value.ref b] s) (F0 m pc ls [.int 1]) := by
  intro T hT X
  obtain ⟨fs, hret, hrun, hended, hW, hframe⟩ := X.leave (v := some (.int 1)) (hlocks := hlocks) (fun h => by rw [hr] at h; cases h)
  have hmeth' : T.vm.method? m = some meth := X.method'
  refine ⟨T.setFrames fs, ?_, .returned (some (.int 1)), hrun, hended, rfl, ⟨_, rfl⟩, hW, hframe⟩
  jvm_step X.here [X.here.top, hx, hb, hdg, hmeth', hr, ret, narrow_b1]
  (try refine ⟨rfl, ?_⟩); (try refine ⟨rfl, ?_⟩)
  first | (intro acts; rw [hret _ acts rfl rfl rfl]) | rw [hret _ _ rfl rfl rfl]
  exact Steps.refl _
/-- what holds at the law's entry: the machine, the code, the tables' words (any of lw_tbl by 'hts w (by decide +kernel)'), the script of L ints xs at the cell b, what the Statement gives of the start (any of its parts by flat_of_before) -/
def lw_At (p : Program) (s : State) (m : MethodId) (meth : Method) (c : Code) (b L : Nat) (xs : Nat → Int32) : Prop :=
  p.tables.exec = Jvm.exec ∧ c.code = code ∧ meth.sig.returnType = ret ∧ c.maxLocals = 4 ∧ s.vm.findClass R_law = some m.cls ∧ (∀ w ∈ lw_tbl, w.before #[Value.ref b] s = true) ∧ va_X b L xs s s.heap ∧ b < s.heap.size ∧ meth.locks = false ∧ (Jvm.Cond.and given_1 narrow_1).before #[Value.ref b] s = true
/-- the claim in the pure picture: on every script the lifted law answers 1, and its room is enough -/
def pw_h0 (b B L : Nat) (xs : Nat → Int32) : ym_H := (B, 0, fun a => if a = b then .inl (99, L, fun j => .int (xs j)) else ym_junk)
def pw_claim : Prop := ∀ (b B L : Nat) (xs : Nat → Int32), L ≤ 3072 → b < B → ∃ (N : Nat) (h' : ym_H), fn_L_law N (some b) (pw_h0 b B L xs) = some (1, h') ∧ h'.1 ≤ B + 600000 ∧ h'.2.1 ≤ 7302250
theorem pw_lw {w : Cond} (h : w ∈ ym_T) : w ∈ lw_tbl := (List.mem_filter.mp h).1
theorem pw_lwN {w : Cond} (h : w ∈ ym_N) : w ∈ lw_tbl := (List.mem_filter.mp h).1
theorem pw_prim {s : State} {args : Array Value} {ty : FieldType} (h : (Cond.arrayClass ty).before args s = true) (hnn : ∀ (cA : ClassId), va_RA s cA ty = (s.vm.findClass ("[" ++ ty.toString) = some cA)) : ∃ cA : ClassId, ArrOfT s cA ty ∧ va_RA s cA ty := by
  obtain ⟨c, k, comp, h1, h2, h3⟩ := Cond.arrayClass_spec h
  exact ⟨c, fun n z => ⟨fun k h => (by cases h), k, h2, comp, h3⟩, by rw [hnn]; exact h1⟩
theorem pw_obj {s : State} {args : Array Value} {C : String} (h : (Cond.arrayOver (.object C)).before args s = true) : ∃ cA : ClassId, ArrOfT s cA (.object C) ∧ va_RA s cA (.object C) := by
  obtain ⟨comp, c, k, h1, -, h3, h4, h5⟩ := Cond.arrayOver_spec h
  exact ⟨c, fun n z => ⟨fun k h => (by cases h), k, h3, comp, h4⟩, k, comp, h3, h4, h1, h5⟩
set_option maxHeartbeats 4000000 in
set_option maxRecDepth 100000 in
theorem pw_known {p : Program} {s : State} {m : MethodId} {meth : Method} {c : Code} {b L : Nat} {xs : Nat → Int32} (C0 : lw_At p s m meth c b L xs) : ∃ D : ym_D, ym_K D s ∧ s.heap[b]? = some D.2.2.2 ∧ D.2.2.2.slots.size = L ∧ ∀ j : Nat, j < L → D.2.2.2.slots[j]? = some (.int (xs j)) := by
  obtain ⟨hx, hb, hr, hml, hown, hts, hX, hbl, hlocks, hgv⟩ := C0
  obtain ⟨scr, g1, g2, g3, g4, g5⟩ := hX
  obtain ⟨c0, i0, k0⟩ := u_known (C := RX0) (T := TX0) (N := 4) (n := 4) hts (fun w h => pw_lw (iX0 w h)) (hts _ (pw_lw wd_257))
  obtain ⟨c1, i1, k1⟩ := u_known (C := RX1) (T := TX1) (N := 3) (n := 3) hts (fun w h => pw_lw (iX1 w h)) (hts _ (pw_lw wd_167))
  obtain ⟨c2, i2, k2⟩ := u_known (C := RX2) (T := TX2) (N := 2) (n := 2) hts (fun w h => pw_lw (iX2 w h)) (hts _ (pw_lw wd_126))
  obtain ⟨c3, i3, k3⟩ := u_known (C := RX3) (T := TX3) (N := 6) (n := 6) hts (fun w h => pw_lw (iX3 w h)) (hts _ (pw_lw wd_97))
  obtain ⟨c4, i4, k4⟩ := u_known (C := RX4) (T := TX4) (N := 6) (n := 6) hts (fun w h => pw_lw (iX4 w h)) (hts _ (pw_lw wd_327))
  obtain ⟨c5, i5, k5⟩ := u_known (C := RX5) (T := TX5) (N := 2) (n := 2) hts (fun w h => pw_lw (iX5 w h)) (hts _ (pw_lw wd_148))
  obtain ⟨c6, i6, k6⟩ := u_known (C := RX6) (T := TX6) (N := 1) (n := 1) hts (fun w h => pw_lw (iX6 w h)) (hts _ (pw_lw wd_142))
  obtain ⟨c7, i7, k7⟩ := u_known (C := RX7) (T := TX7) (N := 10) (n := 10) hts (fun w h => pw_lw (iX7 w h)) (hts _ (pw_lw wd_89))
  obtain ⟨c8, i8, k8⟩ := u_known (C := RX8) (T := TX8) (N := 58) (n := 58) hts (fun w h => pw_lw (iX8 w h)) (hts _ (pw_lw wd_840))
  obtain ⟨d0, r0⟩ := pw_prim (ty := .int) (hts _ (pw_lw wd_123)) (fun _ => rfl)
  obtain ⟨d1, r1⟩ := pw_prim (ty := .long) (hts _ (pw_lw wd_124)) (fun _ => rfl)
  obtain ⟨d2, r2⟩ := pw_prim (ty := .boolean) (hts _ (pw_lw wd_1020)) (fun _ => rfl)
  obtain ⟨d3, r3⟩ := pw_obj (hts _ (pw_lwN wd_103))
  obtain ⟨d4, r4⟩ := pw_obj (hts _ (pw_lwN wd_185))
  obtain ⟨d5, r5⟩ := pw_obj (hts _ (pw_lwN wd_183))
  refine ⟨(fun k => match k with | 0 => c0 | 1 => c1 | 2 => c2 | 3 => c3 | 4 => c4 | 5 => c5 | 6 => c6 | 7 => c7 | _ => c8, fun k => match k with | 0 => i0 | 1 => i1 | 2 => i2 | 3 => i3 | 4 => i4 | 5 => i5 | 6 => i6 | 7 => i7 | _ => i8, fun k => match k with | 0 => d0 | 1 => d1 | 2 => d2 | 3 => d3 | 4 => d4 | _ => d5, scr), ⟨?_, ?_, ?_, g2, g3⟩, g1, g4, g5⟩
  · intro k q hq
    match k, hq with
    | 0, hq => cases hq; exact k0
    | 1, hq => cases hq; exact k1
    | 2, hq => cases hq; exact k2
    | 3, hq => cases hq; exact k3
    | 4, hq => cases hq; exact k4
    | 5, hq => cases hq; exact k5
    | 6, hq => cases hq; exact k6
    | 7, hq => cases hq; exact k7
    | 8, hq => cases hq; exact k8
    | k + 9, hq => simp [ym_cl] at hq
  · intro t ty hq
    match t, hq with
    | 0, hq => cases hq; exact r0
    | 1, hq => cases hq; exact r1
    | 2, hq => cases hq; exact r2
    | 3, hq => cases hq; exact r3
    | 4, hq => cases hq; exact r4
    | 5, hq => cases hq; exact r5
    | t + 6, hq => simp [ym_at] at hq
  · intro w hw
    have h0 := hts w (pw_lwN hw)
    have hn := ym_N_form w hw
    unfold ym_nf at hn
    split at hn
    · exact va_Nw.of rfl h0
    · exact va_Nw.of rfl h0
    · exact va_AO.of h0
    · cases hn
set_option maxHeartbeats 4000000 in
set_option maxRecDepth 100000 in
theorem whole_of (hp : pw_claim) {p : Program} {e : Env} {s : State} {m : MethodId} {below : List Frame} {meth : Method} {c : Code} (l : Launch) {b L : Nat} {xs : Nat → Int32} (hL : L ≤ 3072) (C0 : lw_At p s m meth c b L xs) : W p l e room_1 s m #[Value.ref b] below meth c s.heap [] 0 0 (lw_Z below #[Value.ref b] s) (entryFrame m ([Value.ref b] : List Value).toArray 4) := by
  obtain ⟨D, hK, e1, e2, e3⟩ := pw_known C0
  obtain ⟨hx, hb, hr, hml, hown, hts, hX, hbl, hlocks, hgv⟩ := C0
  obtain ⟨N, h', hf, hc1, hc2⟩ := hp b s.heap.size L xs hL hbl
  have kY := ok_L_law (D := D) (b0 := s.heap.size) hf
  have hl := lv_entry ([.ref b]) (n := 4) (Nat.le_of_ble_eq_true rfl)
  rw [lg_entry_eq]
  have hR : ym_R D s.heap.size (pw_h0 b s.heap.size L xs) s.heap := by
    refine ⟨rfl, Nat.le_refl _, fun a ha => ?_⟩
    by_cases hab : a = b
    · subst hab
      have e0 : (pw_h0 a s.heap.size L xs).2.2 a = .inl (99, L, fun j => .int (xs j)) := if_pos rfl
      rw [e0]
      exact ⟨hbl, ⟨fun _ => ⟨e1, e2, e3⟩, fun q => absurd rfl q⟩, Or.inr rfl⟩
    · have e0 : (pw_h0 b s.heap.size L xs).2.2 a = ym_junk := if_neg hab
      rw [e0] at ha
      exact absurd (show (9999 : Nat) < 1000 from ha) (by decide)
  have m1 := kY.1
  have m2 := kY.2.1
  have n1 : (pw_h0 b s.heap.size L xs).1 = s.heap.size := rfl
  have n2 : (pw_h0 b s.heap.size L xs).2.1 = 0 := rfl
  have w := kY.2.2 (p := p) (l := l) (e := e) (R := room_1) (s := s) (m := m) (args := #[Value.ref b]) (below := below) (meth := meth) (c := c) (H := s.heap) (locs := []) (cells := 0) (slots := 0) (ls := _) (mc := h'.1 - (pw_h0 b s.heap.size L xs).1) (ms := h'.2.1 - (pw_h0 b s.heap.size L xs).2.1)
    ⟨⟨hx, hb, hml, hown, fun w hw => hts w (pw_lw hw), hK, hr, hlocks, fun q => absurd q (by decide), by decide, by decide, Nat.le_refl _⟩, hR, hl, (fun q hq => by cases hq), Nat.zero_add _, Nat.zero_add _, by rw [n1]; show _ ≤ 600000; omega, by rw [n2]; show _ ≤ 7302250; omega⟩
  intro T hT X
  obtain ⟨t, st, o, hrun, hend, ⟨ho, -⟩, Lc, hfe, hfr⟩ := w T hT X
  refine ⟨t, st, o, hrun, hend, ho, hfe.1, hfe.2.1, hfe.2.2.weaken (fun y hy hlt => absurd hlt (Nat.not_lt.mpr (hfr y hy))) ?_ ?_⟩
  · rw [n1]; omega
  · rw [n2]; omega
