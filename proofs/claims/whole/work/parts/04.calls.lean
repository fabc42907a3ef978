/-! calls: a method's contract out of its body's judgement; a call out of the contract -/
theorem ym_good {G2 : ym_G} (hc : Cond.code G2.1 G2.2.1 G2.2.2.1 G2.2.2.2 ∈ ym_T) : GoodIn ym_T (Cond.code G2.1 G2.2.1 G2.2.2.1 G2.2.2.2 :: ym_T) := by
  intro w hw
  have hm : w ∈ ym_T := by
    rcases List.mem_cons.mp hw with g | g
    · rw [g]; exact hc
    · exact g
  exact ⟨hm, good_of_word (ym_T_good w hm)⟩
theorem ym_meth {D : ym_D} {b0 : Nat} {G : ym_G} {dep : Nat} {av : List Value} {h h' : ym_H} {r : Option Value} (hpl : plainName G.1.cls = true) {lv : List (Nat × Value)} (hlen : (lg_sl av).length ≤ G.2.2.1) (hav : lv_args 0 av = lv) (k : ym_Y D b0 G dep 0 lv [] h r h') : ym_M D b0 G dep av h r h' := by
  subst hav
  refine ⟨k.1, k.2.1, fun l => ?_⟩
  refine Met.ofW (cc := G.2.1) (maxL := G.2.2.1) (ret := G.2.2.2) hpl rfl ?_
  intro p e s m args below meth c s₁ B hml hv
  obtain ⟨rfl, hb0, hK, hR⟩ := hv
  have hts := atoms_spec (ws := Cond.code G.1 G.2.1 G.2.2.1 G.2.2.2 :: ym_T) B.pre
  have hown : s.vm.findClass G.1.cls = some m.cls := findClass_of_methodNamed B.named
  have hl := lv_entry av (n := G.2.2.1) hlen
  rw [lg_entry_eq]
  refine k.2.2 ⟨⟨B.exec, B.bytes, hml, hown, fun w hw => hts w (List.mem_cons_of_mem _ hw), hK, B.returns, B.notSynchronized, (fun q => (name_of_methodNamed B.named B.method).1.trans q), Nat.le_refl _, Nat.le_refl _, hb0⟩, hR, hl, (fun q hq => by cases hq), Nat.zero_add _, Nat.zero_add _, Nat.le_refl _, Nat.le_refl _⟩
theorem ym_blind {D : ym_D} {b0 : Nat} {av : List Value} {h : ym_H} : FrameBlind (ym_P D b0 av h) := fun a U g mk q => by
  obtain ⟨q0, q1, qK, qR⟩ := q
  exact ⟨q0, q1, ym_K.vm (u := U) (U := U.calling g mk a) rfl qK, qR⟩
section YMC
variable {D : ym_D} {b0 : Nat} {G G2 : ym_G} {dep dep2 pc ix : Nat} {lv : List (Nat × Value)} {st stk As : List Value} {h h1 : ym_H} {r r2 : Option Value} {h' : ym_H}
theorem ym_behind (hM1 : h.1 ≤ h1.1) (hM2 : h.2.1 ≤ h1.2.1) (kk : ym_Y D b0 G dep (pc + 3) lv (r2.toList ++ st) h1 r h') {p : Program} {l : Launch} {e : Env} {R : Room} {s : State} {m : MethodId} {args : Array Value} {below : List Frame} {meth : Method} {c : Code} {H : Heap} {locs : List Loc} {cells slots : Nat} {ls : Array Slot} {mc ms : Nat} {arr : Array Value}
    (I : ym_I D b0 G dep lv h h' p R s m args meth c H locs cells slots ls mc ms) (hr : va_Run p l e R s m args below meth c H locs cells slots (h1.1 - h.1) (h1.2.1 - h.2.1) (F0 m pc ls stk) st (ym_Q D b0 r2 h1 arr) (fun q => b0 ≤ q)) :
    W p l e R s m args below meth c H locs cells slots (MQ below (ym_Q D b0 r h') args s mc ms (fun q => b0 ≤ q)) (F0 m pc ls stk) := by
  intro T hT X
  obtain ⟨v, st₀, t, T', L, h0, X', hL, e1, e2, ⟨hv, hR1⟩, stp⟩ := hr T hT X
  cases hv
  obtain ⟨i1, i2, i3, i4, i5, i6, i7⟩ := I
  have n1 := kk.1
  have n2 := kk.2.1
  obtain ⟨t2, a1, b1⟩ := kk.2.2 (l := l) (e := e) (below := below) (H := T'.heap) (locs := locs ++ L) (cells := cells + (h1.1 - h.1)) (slots := slots + (h1.2.1 - h.2.1)) (mc := mc) (ms := ms) ⟨i1, by rw [e1]; exact hR1, i3, fun q hq => by
    rcases List.mem_append.mp hq with g | g
    · exact i4 q g
    · exact hL q g, by omega, by omega, i7⟩ T' rfl X'
  exact ⟨t2, stp t2 a1, b1⟩
/-- what every call site needs of its callee -/
def ym_site (G G2 : ym_G) (dep dep2 n : Nat) : Prop := dep2 + 1 ≤ dep ∧ G2.2.2.1 ≤ 45 ∧ Cond.code G2.1 G2.2.1 G2.2.2.1 G2.2.2.2 ∈ ym_T ∧ Cond.initialized G2.1.cls ∈ ym_T ∧ (G2.1.cls ≠ "java/lang/invoke/MethodHandle" ∧ G2.1.cls ≠ "java/lang/invoke/VarHandle" ∧ (parseMethodDescriptor G2.1.desc).map (fun d => d.parameters.length) = some n)
theorem ym_callB {n mc ms : Nat} (hs : ym_site G G2 dep dep2 n) (hlk : Cond.methodLink G.1.cls ix G2.1 ∈ ym_T) {p : Program} {R : Room} {s : State} {m : MethodId} {args : Array Value} {meth : Method} {c : Code} (hC : ym_C D b0 G dep p R s m args meth c) :
    CallB R s args G.1.cls ix G2.1 G2.2.1 G2.2.2.1 G2.2.2.2 (Cond.code G2.1 G2.2.1 G2.2.2.1 G2.2.2.2 :: ym_T) { frames := dep2, cells := mc, slots := ms, locals := 64 * dep2 } mc ms n := by
  obtain ⟨s1, s2, s3, s4, s5⟩ := hs
  obtain ⟨hx, hb, hml, hown, hts, hK, -, -, -, hfr, hlo, -⟩ := hC
  exact callB_of n hts (ym_good s3) rfl rfl rfl (hts _ s4) (hts _ hlk) s5 ⟨by show dep2 + 1 ≤ _; omega, by show 8 + (G2.2.2.1 + 11) + 64 * dep2 ≤ _; omega⟩
theorem ym_callV {ci n : Nat} {a : Option Nat} {q0 : vw_C} {fs : List Value} (hd : decode G.2.1 pc = .ok (.invokevirtual ix, 3)) (hM : ym_M D b0 G2 dep2 (va_rf a :: As) h r2 h1) (hs : ym_site G G2 dep dep2 n) (hlk : Cond.methodLink G.1.cls ix G2.1 ∈ ym_T) (hi : Cond.instanceMethod G2.1 ∈ ym_T) (hse : Cond.selects G2.1.cls G2.1 G2.1 ∈ ym_T)
    (hc : ym_cl[ci]? = some q0) (hci : ci < 1000) (hq0 : q0.1 = G2.1.cls) (hob : ym_ob h a ci = some fs) (hn : As.length = n) (hstk : stk = As.reverse ++ va_rf a :: st) (hst : (st.map fun v => v.category).sum ≤ 8)
    {stk2 : List Value} (h2 : r2.toList ++ st = stk2) (kk : ym_Y D b0 G dep (pc + 3) lv stk2 h1 r h') : ym_Y D b0 G dep pc lv stk h r h' := by
  subst h2
  obtain ⟨a', rfl, ha⟩ := ym_ob_spec hob
  subst hstk
  obtain ⟨m1, m2, hMl⟩ := hM
  have n1 := kk.1
  have n2 := kk.2.1
  refine ⟨by omega, by omega, fun {p l e R s m args below meth c H locs cells slots ls mc ms} I => ?_⟩
  obtain ⟨hC, hR, hl, -, j1, j2, j3, j4⟩ := id I
  obtain ⟨hx, hb, hml, hown, hts, hK, -, -, -, hfr, hlo, hb0⟩ := id hC
  obtain ⟨-, hA, -⟩ := hR.2.2 a' (by rw [ha]; exact hci)
  rw [ha] at hA
  obtain ⟨r0, g1, cell, k1, k2, k3, -⟩ := hA
  refine ym_behind m1 m2 kk I (va_runV (C := G2.1.cls) ⟨hx, hb, hml, hown, hts⟩ (hMl l) ⟨ym_callB hs hlk hC, hts _ hi, hts _ hse⟩ ⟨ym_blind, ⟨cell, k1, by rw [k3]; rfl, ?_⟩, fun U hU hW => ⟨rfl, by rw [hU, hR.1]; exact hR.2.1, hK.warm hW, by rw [hU]; exact hR⟩⟩ rfl hn hl.1 rfl (lv_room hst) hd ⟨by omega, by omega⟩)
  rw [k2, ← hq0]
  exact (hK.1 ci _ hc).2.1
theorem ym_callS {n : Nat} (hd : decode G.2.1 pc = .ok (.invokestatic ix, 3)) (hM : ym_M D b0 G2 dep2 As h r2 h1) (hs : ym_site G G2 dep dep2 n) (hlk : Cond.methodLink G.1.cls ix G2.1 ∈ ym_T) (hi : Cond.static G2.1 ∈ ym_T)
    (hn : As.length = n) (hstk : stk = As.reverse ++ st) (hst : (st.map fun v => v.category).sum ≤ 8)
    {stk2 : List Value} (h2 : r2.toList ++ st = stk2) (kk : ym_Y D b0 G dep (pc + 3) lv stk2 h1 r h') : ym_Y D b0 G dep pc lv stk h r h' := by
  subst h2
  subst hstk
  obtain ⟨m1, m2, hMl⟩ := hM
  have n1 := kk.1
  have n2 := kk.2.1
  refine ⟨by omega, by omega, fun {p l e R s m args below meth c H locs cells slots ls mc ms} I => ?_⟩
  obtain ⟨hC, hR, hl, -, j1, j2, j3, j4⟩ := id I
  obtain ⟨hx, hb, hml, hown, hts, hK, -, -, -, hfr, hlo, hb0⟩ := id hC
  exact ym_behind m1 m2 kk I (va_runS ⟨hx, hb, hml, hown, hts⟩ (hMl l) ⟨ym_callB hs hlk hC, hts _ hi⟩ ⟨ym_blind, fun U hU hW => ⟨rfl, by rw [hU, hR.1]; exact hR.2.1, hK.warm hW, by rw [hU]; exact hR⟩⟩ rfl hn hl.1 rfl (lv_room hst) hd ⟨by omega, by omega⟩)
theorem ym_callI {n : Nat} {a : Option Nat} (hd : decode G.2.1 pc = .ok (.invokespecial ix, 3)) (hM : ym_M D b0 G2 dep2 (va_rf a :: As) h r2 h1) (hs : ym_site G G2 dep dep2 n) (hret : G2.2.2.2 = none) (hini : G2.1.name = "<init>") (hlk : Cond.methodLink G.1.cls ix G2.1 ∈ ym_T) (hi : Cond.instanceMethod G2.1 ∈ ym_T)
    (ha : ¬ a = none) (hn : As.length = n) (hstk : stk = As.reverse ++ va_rf a :: st) (hst : (st.map fun v => v.category).sum ≤ 8)
    {stk2 : List Value} (h2 : r2.toList ++ st = stk2) (kk : ym_Y D b0 G dep (pc + 3) lv stk2 h1 r h') : ym_Y D b0 G dep pc lv stk h r h' := by
  subst h2
  cases a with
  | none => exact absurd rfl ha
  | some a' =>
    subst hstk
    obtain ⟨m1, m2, hMl⟩ := hM
    have n1 := kk.1
    have n2 := kk.2.1
    refine ⟨by omega, by omega, fun {p l e R s m args below meth c H locs cells slots ls mc ms} I => ?_⟩
    obtain ⟨hC, hR, hl, -, j1, j2, j3, j4⟩ := id I
    obtain ⟨hx, hb, hml, hown, hts, hK, -, -, -, hfr, hlo, hb0⟩ := id hC
    have hcb := ym_callB (mc := h1.1 - h.1) (ms := h1.2.1 - h.2.1) hs hlk hC
    rw [hret] at hcb hMl
    exact ym_behind m1 m2 kk I (va_runI ⟨hx, hb, hml, hown, hts⟩ (hMl l) ⟨hcb, hini, hts _ hi⟩ ⟨ym_blind, fun U hU hW => ⟨rfl, by rw [hU, hR.1]; exact hR.2.1, hK.warm hW, by rw [hU]; exact hR⟩⟩ rfl hn hl.1 rfl (lv_room hst) hd ⟨by omega, by omega⟩)
theorem ym_callIN {n : Nat} {a : Option Nat} {host : String} (hd : decode G.2.1 pc = .ok (.invokespecial ix, 3)) (hM : ym_M D b0 G2 dep2 (va_rf a :: As) h r2 h1) (hs : ym_site G G2 dep dep2 n) (hret : G2.2.2.2 = none) (hini : G2.1.name = "<init>") (hlk : Cond.methodLinkNest G.1.cls ix G2.1 host ∈ ym_N) (hi : Cond.instanceMethod G2.1 ∈ ym_T)
    (ha : ¬ a = none) (hn : As.length = n) (hstk : stk = As.reverse ++ va_rf a :: st) (hst : (st.map fun v => v.category).sum ≤ 8)
    {stk2 : List Value} (h2 : r2.toList ++ st = stk2) (kk : ym_Y D b0 G dep (pc + 3) lv stk2 h1 r h') : ym_Y D b0 G dep pc lv stk h r h' := by
  subst h2
  cases a with
  | none => exact absurd rfl ha
  | some a' =>
    subst hstk
    obtain ⟨m1, m2, hMl⟩ := hM
    have n1 := kk.1
    have n2 := kk.2.1
    refine ⟨by omega, by omega, fun {p l e R s m args below meth c H locs cells slots ls mc ms} I => ?_⟩
    obtain ⟨hC, hR, hl, -, j1, j2, j3, j4⟩ := id I
    obtain ⟨hx, hb, hml, hown, hts, hK, -, -, -, hfr, hlo, hb0⟩ := id hC
    obtain ⟨s1, s2, s3, s4, s5⟩ := hs
    have hcb := va_cnB (R := R) (s := s) (args := args) (own := G.1.cls) (host := host) (index := ix) (maxL := G2.2.2.1) (mc := h1.1 - h.1) (ms := h1.2.1 - h.2.1) (y := G2.1) (bytes := G2.2.1) (ret := G2.2.2.2) (rm := { frames := dep2, cells := h1.1 - h.1, slots := h1.2.1 - h.2.1, locals := 64 * dep2 }) n hts (ym_good s3) rfl rfl rfl (hK.2.2.1 _ hlk) (hts _ s4) s5 ⟨by show dep2 + 1 ≤ _; omega, by show 8 + (G2.2.2.1 + 11) + 64 * dep2 ≤ _; omega⟩
    rw [hret] at hcb hMl
    exact ym_behind m1 m2 kk I (va_runIN ⟨hx, hb, hml, hown, hts⟩ (hMl l) ⟨hcb, hini, hts _ hi⟩ ⟨ym_blind, fun U hU hW => ⟨rfl, by rw [hU, hR.1]; exact hR.2.1, hK.warm hW, by rw [hU]; exact hR⟩⟩ rfl hn hl.1 rfl (lv_room hst) hd ⟨by omega, by omega⟩)
end YMC
