/-! more of the picture's acts: making, boolean rows, System.arraycopy; and small rows for the printed proofs -/
theorem ym_cI (x : Int32) : (Value.int x).category = 1 := rfl
theorem ym_cL (x : Int64) : (Value.long x).category = 2 := rfl
def ym_nO (h : ym_H) (k : Nat) (e : ym_E) : Option ym_H := some (ym_new h k e)
theorem ym_ob_ne {h : ym_H} {a : Option Nat} {ci : Nat} {fs : List Value} (hv : ym_ob h a ci = some fs) : ¬ a = none := by
  obtain ⟨a', rfl, -⟩ := ym_ob_spec hv
  exact Option.some_ne_none _
theorem ym_nrO (C : String) (x : Option Nat) : narrow (.object C) (va_rf x) = va_rf x := by cases x <;> rfl
theorem ym_nrA (t : FieldType) (x : Option Nat) : narrow (.array t) (va_rf x) = va_rf x := by cases x <;> rfl
theorem ym_fiO (C : String) (x : Option Nat) : fits (.object C) (va_rf x) = true := by cases x <;> rfl
theorem ym_fiA (t : FieldType) (x : Option Nat) : fits (.array t) (va_rf x) = true := by cases x <;> rfl
theorem ym_zn {x : Int32} (h : x = 0 ∨ x = 1) : narrow .boolean (.int x) = .int x := by rcases h with rfl | rfl <;> rfl
def ym_ldZ (h : ym_H) (a : Option Nat) (i : Int32) : Option Int32 := (ym_ld h a 2 i).bind ym_toI
theorem ym_ldZ_v {h : ym_H} {a : Option Nat} {i : Int32} {x : Int32} (hv : ym_ldZ h a i = some x) : ym_ld h a 2 i = some (.int x) := by
  obtain ⟨v, h1, h2⟩ := Option.bind_eq_some_iff.mp hv
  rw [h1, ym_toI_spec h2]
def ym_fb (h : ym_H) (t : Nat) (v : Value) : Bool := match v with
  | .int _ => t == 0
  | .long _ => t == 1
  | .null => t == 3
  | .ref a => t == 3 && (match h.2.2 a with
    | .inl _ => false
    | .inr o => o.1 == 2)
  | _ => false
def ym_cp (h : ym_H) (t : Nat) (src : Option Nat) (sp : Int32) (dst : Option Nat) (dp n : Int32) : Option ym_H :=
  Option.bind (ym_ar h src) fun x => Option.bind (ym_ar h dst) fun y =>
    if x.1 = t ∧ y.1 = t ∧ ¬ sp < 0 ∧ ¬ dp < 0 ∧ ¬ n < 0 ∧ sp.toNatClampNeg + n.toNatClampNeg ≤ x.2.1 ∧ dp.toNatClampNeg + n.toNatClampNeg ≤ y.2.1 ∧ (List.range n.toNatClampNeg).all (fun i => ym_fb h t (x.2.2 (sp.toNatClampNeg + i))) = true
    then dst.map (fun d => ym_set h d (.inl (t, y.2.1, va_cpy x.2.2 y.2.2 sp.toNatClampNeg dp.toNatClampNeg n.toNatClampNeg))) else none
section YMS
variable {D : ym_D} {b0 : Nat} {G : ym_G} {dep pc : Nat} {lv : List (Nat × Value)} {st : List Value} {h : ym_H} {r : Option Value} {h' : ym_H}
theorem ym_newP {ix ci N : Nat} {C : String} {T : u_T} {h1 : ym_H} (fs : List Value) (hd : decode G.2.1 pc = .ok (.new ix, 3)) (hc : ym_cl[ci]? = some (C, T, N)) (hin : ∀ w ∈ u_ws C T N, w ∈ ym_T) (ty : Nat → FieldType) (hty : ∀ k, k < N → parseFieldDescriptor (T k).2.2.1 = some (ty k)) (hcl : Cond.classLink G.1.cls ix C ∈ ym_T) (hinst : Cond.instantiable C N ∈ ym_T) (hini : Cond.initialized C ∈ ym_T) (hfs : ∀ j, j < N → defaultValue (ty j) = vp_V fs j)
    (hv : ym_nO h N (.inr (ci, fs)) = some h1) (kk : ym_Y D b0 G dep (pc + 3) lv (va_rf (some h.1) :: st) h1 r h') : ym_Y D b0 G dep pc lv st h r h' := by
  obtain rfl := Option.some.inj hv
  exact ym_newO fs hd hc hin ty hty hcl hinst hini hfs kk
theorem ym_zald {a : Option Nat} {i : Int32} {v : Value} (hd : decode G.2.1 pc = .ok (.baload, 1)) (ht : ym_at[2]? = some .boolean) (hv : ym_ld h a 2 i = some v) (kk : ym_Y D b0 G dep (pc + 1) lv (v :: st) h r h') : ym_Y D b0 G dep pc lv (.int i :: va_rf a :: st) h r h' := by
  obtain ⟨a', ⟨t, n, f⟩, rfl, ha, htt, hin, rfl⟩ := ym_ld_spec hv
  refine ⟨kk.1, kk.2.1, fun {p l e R s m args below meth c H locs cells slots ls mc ms} I => ?_⟩
  obtain ⟨⟨hx, hb, hml, hown, hts, hK, -⟩, hR, -⟩ := id I
  obtain ⟨hlt, hA, -⟩ := hR.2.2 a' (by rw [ha]; exact trivial)
  rw [ha] at hA
  have hlt2 : i.toNatClampNeg < n := Nat.not_le.mp fun q => hin (Or.inr q)
  have h0 : t = 2 := by
    rcases htt with q | q
    · exact q
    · exact absurd q.1 (by decide)
  subst h0
  obtain ⟨g1, g2⟩ := hA.2 (show (2 : Nat) ≠ 99 by decide)
  exact W.zald hx hb g2 ((hK.2.1 2 _ ht).1 n f) (fun q => by cases q) (by rw [arrV_size]; exact hin) (arrV_read _ _ hlt2) rfl rfl hd (kk.2.2 I)
theorem ym_zast {a : Option Nat} {i x : Int32} {h1 : ym_H} (hd : decode G.2.1 pc = .ok (.bastore, 1)) (ht : ym_at[2]? = some .boolean) (hn : narrow .boolean (.int x) = .int x) (hv : ym_as h a 2 i (.int x) = some h1) (kk : ym_Y D b0 G dep (pc + 1) lv st h1 r h') : ym_Y D b0 G dep pc lv (.int x :: .int i :: va_rf a :: st) h r h' := by
  obtain ⟨a', n, f, rfl, ha, h9, hin, rfl⟩ := ym_as_spec hv
  refine ⟨kk.1, kk.2.1, fun {p l e R s m args below meth c H locs cells slots ls mc ms} I => ?_⟩
  obtain ⟨⟨hx, hb, hml, hown, hts, hK, -⟩, hR, -⟩ := id I
  obtain ⟨hlt, hA, hS0⟩ := hR.2.2 a' (by rw [ha]; exact trivial)
  rw [ha] at hA hS0
  have h0 : b0 ≤ a' := ym_notS2 h9 hS0
  obtain ⟨g1, g2⟩ := hA.2 h9
  refine W.zast hx hb g2 ((hK.2.1 2 _ ht).1 n f) (fun q => by cases q) (by rw [arrV_size]; exact hin) rfl rfl hd fun H1 e z oq => ?_
  rw [hn, arrV_store] at e
  exact kk.2.2 (ym_I.put I h0 (hR.set h0 hlt ⟨fun q => absurd q h9, fun _ => ⟨g1, e⟩⟩ z oq))
theorem ym_nn {z : Int32} (hz : ¬ z < 0) : z.toInt = (z.toNatClampNeg : Int) := by
  have hz0 : (0 : Int) ≤ z.toInt := by
    have := Int32.not_lt.mp hz
    simpa using Int32.le_iff_toInt_le.mp this
  show z.toInt = ((z.toInt.toNat : Nat) : Int)
  omega
theorem ym_copy {ix t : Nat} {ty : FieldType} {src dst : Option Nat} {sp dp n : Int32} {h1 : ym_H} (hd : decode G.2.1 pc = .ok (.invokestatic ix, 3)) (ht : ym_at[t]? = some ty) (htt : (t = 0 ∧ ty = .int) ∨ (t = 1 ∧ ty = .long) ∨ (t = 3 ∧ ty = .object RX2)) (hlk : Cond.methodLink G.1.cls ix arraycopyName ∈ ym_T) (hnat : Cond.native arraycopyName ∈ ym_T) (hsta : Cond.static arraycopyName ∈ ym_T) (hini : Cond.initialized "java/lang/System" ∈ ym_T) (hdep : 1 ≤ dep) (hst : (st.map fun v => v.category).sum ≤ 8)
    (hv : ym_cp h t src sp dst dp n = some h1) (kk : ym_Y D b0 G dep (pc + 3) lv st h1 r h') : ym_Y D b0 G dep pc lv (.int n :: .int dp :: va_rf dst :: .int sp :: va_rf src :: st) h r h' := by
  unfold ym_cp at hv
  obtain ⟨⟨t1, n1, f⟩, e1, hv1⟩ := Option.bind_eq_some_iff.mp hv
  obtain ⟨⟨t2, n2, g⟩, e2, hv2⟩ := Option.bind_eq_some_iff.mp hv1
  clear hv hv1
  obtain ⟨a0, rfl, ha0⟩ := ym_ar_spec e1
  obtain ⟨a, rfl, ha⟩ := ym_ar_spec e2
  dsimp only at hv2
  by_cases hc : t1 = t ∧ t2 = t ∧ ¬ sp < 0 ∧ ¬ dp < 0 ∧ ¬ n < 0 ∧ sp.toNatClampNeg + n.toNatClampNeg ≤ n1 ∧ dp.toNatClampNeg + n.toNatClampNeg ≤ n2 ∧ (List.range n.toNatClampNeg).all (fun i => ym_fb h t (f (sp.toNatClampNeg + i))) = true
  · rw [if_pos hc] at hv2
    obtain ⟨rfl, rfl, h2, h3, h4, h5, h6, h7⟩ := hc
    obtain rfl : ym_set h a (.inl (t2, n2, va_cpy f g sp.toNatClampNeg dp.toNatClampNeg n.toNatClampNeg)) = h1 := Option.some.inj hv2
    have h9 : t2 ≠ 99 := by
      rcases htt with q | q | q <;> rw [q.1] <;> decide
    refine ⟨kk.1, kk.2.1, fun {p l e R s m args below meth c H locs cells slots ls mc ms} I => ?_⟩
    obtain ⟨⟨hx, hb, hml, hown, hts, hK, -, -, -, hfr, hlo, -⟩, hR, hl, -⟩ := id I
    obtain ⟨hlt0, hA0, -⟩ := hR.2.2 a0 (by rw [ha0]; exact trivial)
    rw [ha0] at hA0
    obtain ⟨hlt, hA, hS0⟩ := hR.2.2 a (by rw [ha]; exact trivial)
    rw [ha] at hA hS0
    have h0 : b0 ≤ a := ym_notS2 h9 hS0
    obtain ⟨g1, hc0⟩ := hA0.2 h9
    obtain ⟨g2, hc1⟩ := hA.2 h9
    intro T hT X
    obtain ⟨-, k0, hk0, cm0, hkk0⟩ := (hK.2.1 t2 _ ht).1 n1 f
    obtain ⟨-, k1, hk1, cm1, hkk1⟩ := (hK.2.1 t2 _ ht).1 n2 g
    obtain ⟨vm', X', step⟩ := X.arraycopy hx hown (hts _ hlk) (hts _ hnat) (hts _ hsta) (hts _ hini) (src := a0) (dst := a) (cs := arrV (D.2.2.1 t2) n1 f) (cd := arrV (D.2.2.1 t2) n2 g) (srcPos := sp) (destPos := dp) (n := n) (by rw [hT]; exact hc0) (by rw [hT]; exact hc1)
      (fun _ h => by cases h) (fun _ h => by cases h) (fun h => by cases h) (fun h => by cases h) hk0 hk1 hkk0 hkk1 (by simp) h2 h3 h4
      (by rw [ym_nn h2, ym_nn h4, arrV_size]; omega)
      (by rw [ym_nn h3, ym_nn h4, arrV_size]; omega)
      (fun vm₁ hal i hi => by
        have e : (arrV (D.2.2.1 t2) n1 f).slots.getD (sp.toNatClampNeg + i) .null = f (sp.toNatClampNeg + i) := by
          rw [Array.getD_eq_getD_getElem?, arrV_read _ _ (by omega)]
          rfl
        rw [e]
        have hfb := List.all_eq_true.mp h7 i (List.mem_range.mpr hi)
        cases hval : f (sp.toNatClampNeg + i) with
        | int z =>
          rw [hval] at hfb
          have q0 : t2 = 0 := by simpa [ym_fb] using hfb
          rcases htt with q | q | q
          · rw [q.2]; exact ⟨rfl, trivial⟩
          · exact absurd (q.1.symm.trans q0) (by decide)
          · exact absurd (q.1.symm.trans q0) (by decide)
        | long z =>
          rw [hval] at hfb
          have q0 : t2 = 1 := by simpa [ym_fb] using hfb
          rcases htt with q | q | q
          · exact absurd (q.1.symm.trans q0) (by decide)
          · rw [q.2]; exact ⟨rfl, trivial⟩
          · exact absurd (q.1.symm.trans q0) (by decide)
        | null =>
          rw [hval] at hfb
          have q0 : t2 = 3 := by simpa [ym_fb] using hfb
          rcases htt with q | q | q
          · exact absurd (q.1.symm.trans q0) (by decide)
          · exact absurd (q.1.symm.trans q0) (by decide)
          · rw [q.2]; exact ⟨rfl, trivial⟩
        | ref y =>
          rw [hval] at hfb
          have hfb2 : t2 = 3 ∧ ∃ fs, h.2.2 y = .inr (2, fs) := by
            simp only [ym_fb, Bool.and_eq_true, beq_iff_eq] at hfb
            refine ⟨hfb.1, ?_⟩
            have hz := hfb.2
            cases hy : h.2.2 y with
            | inl x => rw [hy] at hz; cases hz
            | inr o =>
              rw [hy] at hz
              obtain ⟨o1, o2⟩ := o
              have : o1 = 2 := by simpa using hz
              subst this
              exact ⟨o2, rfl⟩
          obtain ⟨q0, fs, hy⟩ := hfb2
          rcases htt with q | q | q
          · exact absurd (q.1.symm.trans q0) (by decide)
          · exact absurd (q.1.symm.trans q0) (by decide)
          · obtain ⟨qt, qy⟩ := q
            subst qy
            obtain ⟨-, hAy, -⟩ := hR.2.2 y (by rw [hy]; exact (by decide : (2 : Nat) < 1000))
            rw [hy] at hAy
            obtain ⟨r0, k3, cellV, gg1, gg2, gg3, -⟩ := hAy
            have hcls := (hK.1 2 _ (show ym_cl[2]? = some (RX2, TX2, 2) from rfl)).2
            obtain ⟨kA, comp, l1, l2, l3, -⟩ := (hK.2.1 t2 _ ht).2
            cases hk1.symm.trans l1
            cases hkk1.symm.trans l2
            have hcomp : cm1 = D.1 2 := Option.some.inj (l3.symm.trans hcls.1)
            subst hcomp
            obtain ⟨kC, hkC, -⟩ := id hcls.2
            obtain ⟨kC', hkC', -⟩ := hal.2.2 _ _ hkC
            refine ⟨rfl, cellV, (show T.heap[y]? = some cellV by rw [hT]; exact gg1), (fun q hq => by rw [gg3] at hq; cases hq), ?_, ⟨kC', hkC'⟩, ?_⟩
            · rw [gg2]; exact ⟨kC', hkC'⟩
            · show vm₁.assignable _ _ = true
              rw [hal.assignable, gg2]
              exact va_assign hcls
        | float z => rw [hval] at hfb; simp [ym_fb] at hfb
        | double z => rw [hval] at hfb; simp [ym_fb] at hfb
        | retAddr z => rw [hval] at hfb; simp [ym_fb] at hfb)
      (g := F0 m pc ls (.int n :: .int dp :: .ref a :: .int sp :: .ref a0 :: st)) rfl (by rw [hml]; exact hl.1) (rest := st) rfl (by rw [hb]; exact hd) (by omega) (by show 2 * 0 + _ + (7 + 11) ≤ _; omega)
    have e1 : copied (arrV (D.2.2.1 t2) n1 f) (arrV (D.2.2.1 t2) n2 g) sp dp n = arrV (D.2.2.1 t2) n2 (va_cpy f g sp.toNatClampNeg dp.toNatClampNeg n.toNatClampNeg) := va_copied (fun z => z) _ _ f g h5
    rw [e1] at X' step
    have hl2 : a < H.size := (Array.getElem?_eq_some_iff.mp hc1).1
    have hheap : ((T.setVm vm').setCell a (arrV (D.2.2.1 t2) n2 (va_cpy f g sp.toNatClampNeg dp.toNatClampNeg n.toNatClampNeg))).heap = H.setIfInBounds a (arrV (D.2.2.1 t2) n2 (va_cpy f g sp.toNatClampNeg dp.toNatClampNeg n.toNatClampNeg)) := by rw [← hT]; rfl
    have oq : ∀ q : Nat, q ≠ a → (H.setIfInBounds a (arrV (D.2.2.1 t2) n2 (va_cpy f g sp.toNatClampNeg dp.toNatClampNeg n.toNatClampNeg)))[q]? = H[q]? := fun q hq => by simp [Array.getElem?_setIfInBounds, Ne.symm hq]
    obtain ⟨i1, i2, i3, i4, i5⟩ := I
    obtain ⟨t, a1, b1⟩ := kk.2.2 ⟨i1, hR.set h0 hlt ⟨fun q => absurd q h9, fun _ => ⟨g2, show (H.setIfInBounds a _)[a]? = some _ by simp [Array.getElem?_setIfInBounds, hl2]⟩⟩ (by simp) oq, i3, fun q hq => by
      rcases List.mem_append.mp hq with g | g
      · exact i4 q g
      · obtain ⟨z, -, hz⟩ := List.mem_map.mp g
        rw [← hz]
        exact h0, i5⟩ _ hheap X'
    exact ⟨t, step t a1, b1⟩
  · rw [if_neg hc] at hv2
    cases hv2
end YMS
section YMM
variable {D : ym_D} {b0 : Nat} {G : ym_G} {dep pc ix : Nat} {lv : List (Nat × Value)} {st : List Value} {h : ym_H} {r : Option Value} {h' : ym_H}
theorem ym_mmax {x y : Int32} (hd : decode G.2.1 pc = .ok (.invokestatic ix, 3)) (hlk : Cond.methodLink G.1.cls ix Lib.Math.max.name ∈ ym_T) (hs : Cond.static Lib.Math.max.name ∈ ym_T) (hi : Cond.initialized "java/lang/Math" ∈ ym_T) (hc : Cond.code Lib.Math.max.name Lib.Math.max.code 2 (some .int) ∈ ym_T) (hdep : 1 ≤ dep) (hst : (st.map fun v => v.category).sum ≤ 8)
    (kk : ym_Y D b0 G dep (pc + 3) lv (.int (if x < y then y else x) :: st) h r h') : ym_Y D b0 G dep pc lv (.int y :: .int x :: st) h r h' := by
  have n1 := kk.1
  have n2 := kk.2.1
  refine ⟨n1, n2, fun {p l e R s m args below meth c H locs cells slots ls mc ms} I => ?_⟩
  obtain ⟨⟨hx, hb, hml, hown, hts, hK, -, -, -, hfr, hlo, -⟩, hR, hl, -, j1, j2, j3, j4⟩ := id I
  exact va_mmax hx hb (by rw [hml]; exact hl.1.symm) hown (hts _ hlk) (hts _ hs) (hts _ hi) (hts _ hc) (by omega) (by omega) (by omega) (by omega) hd (kk.2.2 I)
theorem ym_mmin {x y : Int32} (hd : decode G.2.1 pc = .ok (.invokestatic ix, 3)) (hlk : Cond.methodLink G.1.cls ix Lib.Math.min.name ∈ ym_T) (hs : Cond.static Lib.Math.min.name ∈ ym_T) (hi : Cond.initialized "java/lang/Math" ∈ ym_T) (hc : Cond.code Lib.Math.min.name Lib.Math.min.code 2 (some .int) ∈ ym_T) (hdep : 1 ≤ dep) (hst : (st.map fun v => v.category).sum ≤ 8)
    (kk : ym_Y D b0 G dep (pc + 3) lv (.int (if y < x then y else x) :: st) h r h') : ym_Y D b0 G dep pc lv (.int y :: .int x :: st) h r h' := by
  have n1 := kk.1
  have n2 := kk.2.1
  refine ⟨n1, n2, fun {p l e R s m args below meth c H locs cells slots ls mc ms} I => ?_⟩
  obtain ⟨⟨hx, hb, hml, hown, hts, hK, -, -, -, hfr, hlo, -⟩, hR, hl, -, j1, j2, j3, j4⟩ := id I
  exact va_mmin hx hb (by rw [hml]; exact hl.1.symm) hown (hts _ hlk) (hts _ hs) (hts _ hi) (hts _ hc) (by omega) (by omega) (by omega) (by omega) hd (kk.2.2 I)
theorem ym_mmaxL {x y : Int64} (hd : decode G.2.1 pc = .ok (.invokestatic ix, 3)) (hlk : Cond.methodLink G.1.cls ix Lib.MathLoose.max_long.x ∈ ym_T) (hs : Cond.static Lib.MathLoose.max_long.x ∈ ym_T) (hi : Cond.initialized "java/lang/Math" ∈ ym_T) (hc : Cond.code Lib.MathLoose.max_long.x Lib.MathLoose.max_long.code 4 (some .long) ∈ ym_T) (hdep : 1 ≤ dep) (hst : (st.map fun v => v.category).sum ≤ 8)
    (kk : ym_Y D b0 G dep (pc + 3) lv (.long (if y < x then x else y) :: st) h r h') : ym_Y D b0 G dep pc lv (.long y :: .long x :: st) h r h' := by
  have n1 := kk.1
  have n2 := kk.2.1
  refine ⟨n1, n2, fun {p l e R s m args below meth c H locs cells slots ls mc ms} I => ?_⟩
  obtain ⟨⟨hx, hb, hml, hown, hts, hK, -, -, -, hfr, hlo, -⟩, hR, hl, -, j1, j2, j3, j4⟩ := id I
  exact va_mmax_long hx hb (by rw [hml]; exact hl.1.symm) hown (hts _ hlk) (hts _ hs) (hts _ hi) (hts _ hc) (by omega) (by omega) (by omega) (by omega) hd (kk.2.2 I)
theorem ym_mminL {x y : Int64} (hd : decode G.2.1 pc = .ok (.invokestatic ix, 3)) (hlk : Cond.methodLink G.1.cls ix Lib.MathLoose.min_long.x ∈ ym_T) (hs : Cond.static Lib.MathLoose.min_long.x ∈ ym_T) (hi : Cond.initialized "java/lang/Math" ∈ ym_T) (hc : Cond.code Lib.MathLoose.min_long.x Lib.MathLoose.min_long.code 4 (some .long) ∈ ym_T) (hdep : 1 ≤ dep) (hst : (st.map fun v => v.category).sum ≤ 8)
    (kk : ym_Y D b0 G dep (pc + 3) lv (.long (if y < x then y else x) :: st) h r h') : ym_Y D b0 G dep pc lv (.long y :: .long x :: st) h r h' := by
  have n1 := kk.1
  have n2 := kk.2.1
  refine ⟨n1, n2, fun {p l e R s m args below meth c H locs cells slots ls mc ms} I => ?_⟩
  obtain ⟨⟨hx, hb, hml, hown, hts, hK, -, -, -, hfr, hlo, -⟩, hR, hl, -, j1, j2, j3, j4⟩ := id I
  exact va_mmin_long hx hb (by rw [hml]; exact hl.1.symm) hown (hts _ hlk) (hts _ hs) (hts _ hi) (hts _ hc) (by omega) (by omega) (by omega) (by omega) hd (kk.2.2 I)
end YMM
