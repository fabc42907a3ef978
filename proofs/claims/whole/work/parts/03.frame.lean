/-! A pure picture of the heap, and a judgement 'ym_Y' over it: from this frame and this picture the machine returns r with the picture h'. The rooms (cells, slots) are what the pictures differ by. -/
abbrev ym_E : Type := (Nat × Nat × (Nat → Value)) ⊕ (Nat × List Value)
abbrev ym_H : Type := Nat × Nat × (Nat → ym_E)
abbrev ym_D : Type := (Nat → ClassId) × (Nat → Nat → Nat) × (Nat → ClassId) × Cell
abbrev ym_G : Type := MethodName × ByteArray × Nat × Option FieldType
def ym_junk : ym_E := .inr (9999, [])
def ym_okE (e : ym_E) : Prop := match e with
  | .inl _ => True
  | .inr o => o.1 < 1000
def ym_isS (e : ym_E) : Prop := match e with
  | .inl x => x.1 = 99
  | .inr _ => False
def ym_A (D : ym_D) (a : Nat) (e : ym_E) (H : Heap) : Prop := match e with
  | .inl x => (x.1 = 99 → H[a]? = some D.2.2.2 ∧ D.2.2.2.slots.size = x.2.1 ∧ ∀ j, j < x.2.1 → D.2.2.2.slots[j]? = some (x.2.2 j)) ∧ (x.1 ≠ 99 → x.1 < ym_at.length ∧ H[a]? = some (arrV (D.2.2.1 x.1) x.2.1 x.2.2))
  | .inr o => ∃ r : vw_C, ym_cl[o.1]? = some r ∧ t_OB a (D.1 o.1) r.2.2 (D.2.1 o.1) H (vp_V o.2)
/-- the machine's heap holds the picture; what is pictured lies from b0 on (the script alone may lie below, and isn't written) -/
def ym_R (D : ym_D) (b0 : Nat) (h : ym_H) (H : Heap) : Prop := H.size = h.1 ∧ b0 ≤ h.1 ∧ ∀ a, ym_okE (h.2.2 a) → a < h.1 ∧ ym_A D a (h.2.2 a) H ∧ (b0 ≤ a ∨ ym_isS (h.2.2 a))
/-- what the tables say, at a state -/
def ym_K (D : ym_D) (U : State) : Prop := (∀ (c : Nat) (q : vw_C), ym_cl[c]? = some q → u_Kn U q.1 q.2.1 q.2.2 (D.1 c) (D.2.1 c)) ∧ (∀ (t : Nat) (ty : FieldType), ym_at[t]? = some ty → ArrOfT U (D.2.2.1 t) ty ∧ va_RA U (D.2.2.1 t) ty) ∧ (∀ w ∈ ym_N, va_Nw w U) ∧ U.isArrayOf D.2.2.2 .int ∧ D.2.2.2.vm ≠ .unknown
def ym_C (D : ym_D) (b0 : Nat) (G : ym_G) (dep : Nat) (p : Program) (R : Room) (s : State) (m : MethodId) (args : Array Value) (meth : Method) (c : Code) : Prop :=
  p.tables.exec = Jvm.exec ∧ c.code = G.2.1 ∧ c.maxLocals = G.2.2.1 ∧ s.vm.findClass G.1.cls = some m.cls ∧ (∀ w ∈ ym_T, w.before args s = true) ∧ ym_K D s ∧ meth.sig.returnType = G.2.2.2 ∧ meth.locks = false ∧ (G.1.name = "<init>" → meth.name = "<init>") ∧ dep ≤ R.frames ∧ 64 * dep ≤ R.locals ∧ b0 ≤ s.heap.size
def ym_I (D : ym_D) (b0 : Nat) (G : ym_G) (dep : Nat) (lv : List (Nat × Value)) (h h' : ym_H) (p : Program) (R : Room) (s : State) (m : MethodId) (args : Array Value) (meth : Method) (c : Code) (H : Heap) (locs : List Loc) (cells slots : Nat) (ls : Array Slot) (mc ms : Nat) : Prop :=
  ym_C D b0 G dep p R s m args meth c ∧ ym_R D b0 h H ∧ lv_has ls G.2.2.1 lv ∧ (∀ q ∈ locs, b0 ≤ q.base) ∧ cells + (h'.1 - h.1) = mc ∧ slots + (h'.2.1 - h.2.1) = ms ∧ mc ≤ R.cells ∧ ms ≤ R.slots
def ym_Q (D : ym_D) (b0 : Nat) (r : Option Value) (h' : ym_H) : Array Value → State → Outcome → State → Prop := fun _ _ o t => o = .returned r ∧ ym_R D b0 h' t.heap
def ym_Y (D : ym_D) (b0 : Nat) (G : ym_G) (dep pc : Nat) (lv : List (Nat × Value)) (st : List Value) (h : ym_H) (r : Option Value) (h' : ym_H) : Prop :=
  h.1 ≤ h'.1 ∧ h.2.1 ≤ h'.2.1 ∧ ∀ {p : Program} {l : Launch} {e : Env} {R : Room} {s : State} {m : MethodId} {args : Array Value} {below : List Frame} {meth : Method} {c : Code} {H : Heap} {locs : List Loc} {cells slots : Nat} {ls : Array Slot} {mc ms : Nat},
    ym_I D b0 G dep lv h h' p R s m args meth c H locs cells slots ls mc ms → W p l e R s m args below meth c H locs cells slots (MQ below (ym_Q D b0 r h') args s mc ms (fun q => b0 ≤ q)) (F0 m pc ls st)
def ym_P (D : ym_D) (b0 : Nat) (av : List Value) (h : ym_H) : Array Value → State → Prop := fun a U => a = av.toArray ∧ b0 ≤ U.heap.size ∧ ym_K D U ∧ ym_R D b0 h U.heap
/-- a method's contract: from h, with these arguments, it returns r with h' -/
def ym_M (D : ym_D) (b0 : Nat) (G : ym_G) (dep : Nat) (av : List Value) (h : ym_H) (r : Option Value) (h' : ym_H) : Prop :=
  h.1 ≤ h'.1 ∧ h.2.1 ≤ h'.2.1 ∧ ∀ l : Launch, Met l G.1 (Cond.code G.1 G.2.1 G.2.2.1 G.2.2.2 :: ym_T) { frames := dep, cells := h'.1 - h.1, slots := h'.2.1 - h.2.1, locals := 64 * dep } (ym_P D b0 av h) (ym_Q D b0 r h') (h'.1 - h.1) (h'.2.1 - h.2.1) (fun q => b0 ≤ q)
/-! the picture's own acts -/
def ym_set (h : ym_H) (a : Nat) (e : ym_E) : ym_H := (h.1, h.2.1, fun q => if q = a then e else h.2.2 q)
def ym_new (h : ym_H) (k : Nat) (e : ym_E) : ym_H := (h.1 + 1, h.2.1 + k, fun q => if q = h.1 then e else h.2.2 q)
def ym_ob (h : ym_H) (a : Option Nat) (ci : Nat) : Option (List Value) := match a with
  | none => none
  | some a => match h.2.2 a with
    | .inl _ => none
    | .inr o => if o.1 = ci then some o.2 else none
def ym_ar (h : ym_H) (a : Option Nat) : Option (Nat × Nat × (Nat → Value)) := match a with
  | none => none
  | some a => match h.2.2 a with
    | .inl x => some x
    | .inr _ => none
def ym_toI (v : Value) : Option Int32 := match v with
  | .int x => some x
  | _ => none
def ym_toL (v : Value) : Option Int64 := match v with
  | .long x => some x
  | _ => none
def ym_toR (v : Value) : Option (Option Nat) := match v with
  | .ref x => some (some x)
  | .null => some none
  | _ => none
def ym_gf (h : ym_H) (a : Option Nat) (ci k : Nat) : Option Value := (ym_ob h a ci).bind fun fs => fs[k]?
def ym_gI (h : ym_H) (a : Option Nat) (ci k : Nat) : Option Int32 := (ym_gf h a ci k).bind ym_toI
def ym_gL (h : ym_H) (a : Option Nat) (ci k : Nat) : Option Int64 := (ym_gf h a ci k).bind ym_toL
def ym_gR (h : ym_H) (a : Option Nat) (ci k : Nat) : Option (Option Nat) := (ym_gf h a ci k).bind ym_toR
def ym_pf (h : ym_H) (a : Option Nat) (ci k : Nat) (v : Value) : Option ym_H := (ym_ob h a ci).bind fun fs => if k < fs.length then a.map (fun a => ym_set h a (.inr (ci, fs.set k v))) else none
def ym_ix (i : Int32) (n : Nat) : Prop := ¬ (i < 0 ∨ n ≤ i.toNatClampNeg)
def ym_ld (h : ym_H) (a : Option Nat) (t : Nat) (i : Int32) : Option Value := (ym_ar h a).bind fun x => if (x.1 = t ∨ (t = 0 ∧ x.1 = 99)) ∧ ¬ (i < 0 ∨ x.2.1 ≤ i.toNatClampNeg) then some (x.2.2 i.toNatClampNeg) else none
def ym_ldI (h : ym_H) (a : Option Nat) (i : Int32) : Option Int32 := (ym_ld h a 0 i).bind ym_toI
def ym_ldL (h : ym_H) (a : Option Nat) (i : Int32) : Option Int64 := (ym_ld h a 1 i).bind ym_toL
def ym_ldR (h : ym_H) (a : Option Nat) (t : Nat) (i : Int32) : Option (Option Nat) := (ym_ld h a t i).bind ym_toR
def ym_as (h : ym_H) (a : Option Nat) (t : Nat) (i : Int32) (v : Value) : Option ym_H := (ym_ar h a).bind fun x => if x.1 = t ∧ t ≠ 99 ∧ ¬ (i < 0 ∨ x.2.1 ≤ i.toNatClampNeg) then a.map (fun a => ym_set h a (.inl (x.1, x.2.1, updV x.2.2 i.toNatClampNeg v))) else none
def ym_len (h : ym_H) (a : Option Nat) : Option Int32 := (ym_ar h a).map fun x => Int32.ofNat x.2.1
def ym_na (h : ym_H) (t : Nat) (v : Value) (n : Int32) : Option ym_H := if n < 0 ∨ 67108864 < n.toNatClampNeg then none else some (ym_new h n.toNatClampNeg (.inl (t, n.toNatClampNeg, fun _ => v)))
section YMP
variable {D : ym_D} {b0 : Nat} {G : ym_G} {dep pc : Nat} {lv lv' : List (Nat × Value)} {st : List Value} {h : ym_H} {r : Option Value} {h' : ym_H}
theorem ym_iconst {n : Int} {v : Int32} (hd : decode G.2.1 pc = .ok (.iconst n, 1)) (hv : Int32.ofInt n = v) (k : ym_Y D b0 G dep (pc + 1) lv (.int v :: st) h r h') : ym_Y D b0 G dep pc lv st h r h' :=
  ⟨k.1, k.2.1, fun I => lv_iconst I.1.1 I.1.2.1 hd hv (k.2.2 I)⟩
theorem ym_bipush {n : Int} {v : Int32} (hd : decode G.2.1 pc = .ok (.bipush n, 2)) (hv : (Int8.ofInt n).toInt32 = v) (k : ym_Y D b0 G dep (pc + 2) lv (.int v :: st) h r h') : ym_Y D b0 G dep pc lv st h r h' :=
  ⟨k.1, k.2.1, fun I => lv_bipush I.1.1 I.1.2.1 hd hv (k.2.2 I)⟩
theorem ym_sipush {n : Int} {v : Int32} (hd : decode G.2.1 pc = .ok (.sipush n, 3)) (hv : (Int16.ofInt n).toInt32 = v) (k : ym_Y D b0 G dep (pc + 3) lv (.int v :: st) h r h') : ym_Y D b0 G dep pc lv st h r h' :=
  ⟨k.1, k.2.1, fun I => lv_sipush I.1.1 I.1.2.1 hd hv (k.2.2 I)⟩
theorem ym_lconst {n : Fin 2} {v : Int64} (hd : decode G.2.1 pc = .ok (.lconst n, 1)) (hv : Int64.ofNat (n : Nat) = v) (k : ym_Y D b0 G dep (pc + 1) lv (.long v :: st) h r h') : ym_Y D b0 G dep pc lv st h r h' :=
  ⟨k.1, k.2.1, fun I => lv_lconst I.1.1 I.1.2.1 hd hv (k.2.2 I)⟩
theorem ym_null  (hd : decode G.2.1 pc = .ok (.aconst_null, 1)) (k : ym_Y D b0 G dep (pc + 1) lv (va_rf none :: st) h r h') : ym_Y D b0 G dep pc lv st h r h' :=
  ⟨k.1, k.2.1, fun I => lv_null I.1.1 I.1.2.1 hd  (k.2.2 I)⟩
theorem ym_iadd {x y : Int32} (hd : decode G.2.1 pc = .ok (.iadd, 1)) (k : ym_Y D b0 G dep (pc + 1) lv (.int (x + y) :: st) h r h') : ym_Y D b0 G dep pc lv (.int y :: .int x :: st) h r h' :=
  ⟨k.1, k.2.1, fun I => lv_iadd I.1.1 I.1.2.1 hd  (k.2.2 I)⟩
theorem ym_isub {x y : Int32} (hd : decode G.2.1 pc = .ok (.isub, 1)) (k : ym_Y D b0 G dep (pc + 1) lv (.int (x - y) :: st) h r h') : ym_Y D b0 G dep pc lv (.int y :: .int x :: st) h r h' :=
  ⟨k.1, k.2.1, fun I => lv_isub I.1.1 I.1.2.1 hd  (k.2.2 I)⟩
theorem ym_imul {x y : Int32} (hd : decode G.2.1 pc = .ok (.imul, 1)) (k : ym_Y D b0 G dep (pc + 1) lv (.int (x * y) :: st) h r h') : ym_Y D b0 G dep pc lv (.int y :: .int x :: st) h r h' :=
  ⟨k.1, k.2.1, fun I => lv_imul I.1.1 I.1.2.1 hd  (k.2.2 I)⟩
theorem ym_iand {x y : Int32} (hd : decode G.2.1 pc = .ok (.iand, 1)) (k : ym_Y D b0 G dep (pc + 1) lv (.int (x &&& y) :: st) h r h') : ym_Y D b0 G dep pc lv (.int y :: .int x :: st) h r h' :=
  ⟨k.1, k.2.1, fun I => lv_iand I.1.1 I.1.2.1 hd  (k.2.2 I)⟩
theorem ym_ior {x y : Int32} (hd : decode G.2.1 pc = .ok (.ior, 1)) (k : ym_Y D b0 G dep (pc + 1) lv (.int (x ||| y) :: st) h r h') : ym_Y D b0 G dep pc lv (.int y :: .int x :: st) h r h' :=
  ⟨k.1, k.2.1, fun I => lv_ior I.1.1 I.1.2.1 hd  (k.2.2 I)⟩
theorem ym_ixor {x y : Int32} (hd : decode G.2.1 pc = .ok (.ixor, 1)) (k : ym_Y D b0 G dep (pc + 1) lv (.int (x ^^^ y) :: st) h r h') : ym_Y D b0 G dep pc lv (.int y :: .int x :: st) h r h' :=
  ⟨k.1, k.2.1, fun I => lv_ixor I.1.1 I.1.2.1 hd  (k.2.2 I)⟩
theorem ym_ishl {x y : Int32} (hd : decode G.2.1 pc = .ok (.ishl, 1)) (k : ym_Y D b0 G dep (pc + 1) lv (.int (x <<< (y &&& 31)) :: st) h r h') : ym_Y D b0 G dep pc lv (.int y :: .int x :: st) h r h' :=
  ⟨k.1, k.2.1, fun I => lv_ishl I.1.1 I.1.2.1 hd  (k.2.2 I)⟩
theorem ym_ishr {x y : Int32} (hd : decode G.2.1 pc = .ok (.ishr, 1)) (k : ym_Y D b0 G dep (pc + 1) lv (.int (x >>> (y &&& 31)) :: st) h r h') : ym_Y D b0 G dep pc lv (.int y :: .int x :: st) h r h' :=
  ⟨k.1, k.2.1, fun I => lv_ishr I.1.1 I.1.2.1 hd  (k.2.2 I)⟩
theorem ym_idiv {x y : Int32} (hd : decode G.2.1 pc = .ok (.idiv, 1)) (hne : ¬ y = 0) (k : ym_Y D b0 G dep (pc + 1) lv (.int (x / y) :: st) h r h') : ym_Y D b0 G dep pc lv (.int y :: .int x :: st) h r h' :=
  ⟨k.1, k.2.1, fun I => lv_idiv I.1.1 I.1.2.1 hd hne (k.2.2 I)⟩
theorem ym_irem {x y : Int32} (hd : decode G.2.1 pc = .ok (.irem, 1)) (hne : ¬ y = 0) (k : ym_Y D b0 G dep (pc + 1) lv (.int (x - x / y * y) :: st) h r h') : ym_Y D b0 G dep pc lv (.int y :: .int x :: st) h r h' :=
  ⟨k.1, k.2.1, fun I => lv_irem I.1.1 I.1.2.1 hd hne (k.2.2 I)⟩
theorem ym_ineg {x : Int32} (hd : decode G.2.1 pc = .ok (.ineg, 1)) (k : ym_Y D b0 G dep (pc + 1) lv (.int (-x) :: st) h r h') : ym_Y D b0 G dep pc lv (.int x :: st) h r h' :=
  ⟨k.1, k.2.1, fun I => lv_ineg I.1.1 I.1.2.1 hd  (k.2.2 I)⟩
theorem ym_ladd {x y : Int64} (hd : decode G.2.1 pc = .ok (.ladd, 1)) (k : ym_Y D b0 G dep (pc + 1) lv (.long (x + y) :: st) h r h') : ym_Y D b0 G dep pc lv (.long y :: .long x :: st) h r h' :=
  ⟨k.1, k.2.1, fun I => lv_ladd I.1.1 I.1.2.1 hd  (k.2.2 I)⟩
theorem ym_lsub {x y : Int64} (hd : decode G.2.1 pc = .ok (.lsub, 1)) (k : ym_Y D b0 G dep (pc + 1) lv (.long (x - y) :: st) h r h') : ym_Y D b0 G dep pc lv (.long y :: .long x :: st) h r h' :=
  ⟨k.1, k.2.1, fun I => lv_lsub I.1.1 I.1.2.1 hd  (k.2.2 I)⟩
theorem ym_lmul {x y : Int64} (hd : decode G.2.1 pc = .ok (.lmul, 1)) (k : ym_Y D b0 G dep (pc + 1) lv (.long (x * y) :: st) h r h') : ym_Y D b0 G dep pc lv (.long y :: .long x :: st) h r h' :=
  ⟨k.1, k.2.1, fun I => lv_lmul I.1.1 I.1.2.1 hd  (k.2.2 I)⟩
theorem ym_land {x y : Int64} (hd : decode G.2.1 pc = .ok (.land, 1)) (k : ym_Y D b0 G dep (pc + 1) lv (.long (x &&& y) :: st) h r h') : ym_Y D b0 G dep pc lv (.long y :: .long x :: st) h r h' :=
  ⟨k.1, k.2.1, fun I => lv_land I.1.1 I.1.2.1 hd  (k.2.2 I)⟩
theorem ym_lor {x y : Int64} (hd : decode G.2.1 pc = .ok (.lor, 1)) (k : ym_Y D b0 G dep (pc + 1) lv (.long (x ||| y) :: st) h r h') : ym_Y D b0 G dep pc lv (.long y :: .long x :: st) h r h' :=
  ⟨k.1, k.2.1, fun I => lv_lor I.1.1 I.1.2.1 hd  (k.2.2 I)⟩
theorem ym_lxor {x y : Int64} (hd : decode G.2.1 pc = .ok (.lxor, 1)) (k : ym_Y D b0 G dep (pc + 1) lv (.long (x ^^^ y) :: st) h r h') : ym_Y D b0 G dep pc lv (.long y :: .long x :: st) h r h' :=
  ⟨k.1, k.2.1, fun I => lv_lxor I.1.1 I.1.2.1 hd  (k.2.2 I)⟩
theorem ym_ldiv {x y : Int64} (hd : decode G.2.1 pc = .ok (.ldiv, 1)) (hne : ¬ y = 0) (k : ym_Y D b0 G dep (pc + 1) lv (.long (x / y) :: st) h r h') : ym_Y D b0 G dep pc lv (.long y :: .long x :: st) h r h' :=
  ⟨k.1, k.2.1, fun I => lv_ldiv I.1.1 I.1.2.1 hd hne (k.2.2 I)⟩
theorem ym_lrem {x y : Int64} (hd : decode G.2.1 pc = .ok (.lrem, 1)) (hne : ¬ y = 0) (k : ym_Y D b0 G dep (pc + 1) lv (.long (x - x / y * y) :: st) h r h') : ym_Y D b0 G dep pc lv (.long y :: .long x :: st) h r h' :=
  ⟨k.1, k.2.1, fun I => lv_lrem I.1.1 I.1.2.1 hd hne (k.2.2 I)⟩
theorem ym_lneg {x : Int64} (hd : decode G.2.1 pc = .ok (.lneg, 1)) (k : ym_Y D b0 G dep (pc + 1) lv (.long (-x) :: st) h r h') : ym_Y D b0 G dep pc lv (.long x :: st) h r h' :=
  ⟨k.1, k.2.1, fun I => lv_lneg I.1.1 I.1.2.1 hd  (k.2.2 I)⟩
theorem ym_lshl {x : Int64} {y : Int32} (hd : decode G.2.1 pc = .ok (.lshl, 1)) (k : ym_Y D b0 G dep (pc + 1) lv (.long (x <<< (y.toInt64 &&& 63)) :: st) h r h') : ym_Y D b0 G dep pc lv (.int y :: .long x :: st) h r h' :=
  ⟨k.1, k.2.1, fun I => lv_lshl I.1.1 I.1.2.1 hd rfl (k.2.2 I)⟩
theorem ym_lushr {x : Int64} {y : Int32} (hd : decode G.2.1 pc = .ok (.lushr, 1)) (k : ym_Y D b0 G dep (pc + 1) lv (.long (x.toUInt64 >>> (y.toInt64.toUInt64 &&& Int64.toUInt64 63)).toInt64 :: st) h r h') : ym_Y D b0 G dep pc lv (.int y :: .long x :: st) h r h' :=
  ⟨k.1, k.2.1, fun I => lv_lushr I.1.1 I.1.2.1 hd rfl (k.2.2 I)⟩
theorem ym_i2l {x : Int32} (hd : decode G.2.1 pc = .ok (.i2l, 1)) (k : ym_Y D b0 G dep (pc + 1) lv (.long x.toInt64 :: st) h r h') : ym_Y D b0 G dep pc lv (.int x :: st) h r h' :=
  ⟨k.1, k.2.1, fun I => lv_i2l I.1.1 I.1.2.1 hd rfl (k.2.2 I)⟩
theorem ym_l2i {x : Int64} (hd : decode G.2.1 pc = .ok (.l2i, 1)) (k : ym_Y D b0 G dep (pc + 1) lv (.int x.toInt32 :: st) h r h') : ym_Y D b0 G dep pc lv (.long x :: st) h r h' :=
  ⟨k.1, k.2.1, fun I => lv_l2i I.1.1 I.1.2.1 hd rfl (k.2.2 I)⟩
theorem ym_dup {v : Value} (hd : decode G.2.1 pc = .ok (.dup, 1)) (hc : v.category = 1) (k : ym_Y D b0 G dep (pc + 1) lv (v :: v :: st) h r h') : ym_Y D b0 G dep pc lv (v :: st) h r h' :=
  ⟨k.1, k.2.1, fun I => lv_dup I.1.1 I.1.2.1 hd hc (k.2.2 I)⟩
theorem ym_pop {v : Value} (hd : decode G.2.1 pc = .ok (.pop, 1)) (hc : v.category = 1) (k : ym_Y D b0 G dep (pc + 1) lv st h r h') : ym_Y D b0 G dep pc lv (v :: st) h r h' :=
  ⟨k.1, k.2.1, fun I => lv_pop I.1.1 I.1.2.1 hd hc (k.2.2 I)⟩
theorem ym_pop2_2 {v : Value} (hd : decode G.2.1 pc = .ok (.pop2, 1)) (hc : v.category = 2) (k : ym_Y D b0 G dep (pc + 1) lv st h r h') : ym_Y D b0 G dep pc lv (v :: st) h r h' :=
  ⟨k.1, k.2.1, fun I => lv_pop2_2 I.1.1 I.1.2.1 hd hc (k.2.2 I)⟩
theorem ym_dup_x1 {v w : Value} (hd : decode G.2.1 pc = .ok (.dup_x1, 1)) (hc : v.category = 1) (hd1 : w.category = 1) (k : ym_Y D b0 G dep (pc + 1) lv (v :: w :: v :: st) h r h') : ym_Y D b0 G dep pc lv (v :: w :: st) h r h' :=
  ⟨k.1, k.2.1, fun I => lv_dup_x1 I.1.1 I.1.2.1 hd hc hd1 (k.2.2 I)⟩
theorem ym_dup_x2 {v w u : Value} (hd : decode G.2.1 pc = .ok (.dup_x2, 1)) (hc : v.category = 1) (hd1 : w.category = 1) (hd2 : u.category = 1) (k : ym_Y D b0 G dep (pc + 1) lv (v :: w :: u :: v :: st) h r h') : ym_Y D b0 G dep pc lv (v :: w :: u :: st) h r h' :=
  ⟨k.1, k.2.1, fun I => lv_dup_x2 I.1.1 I.1.2.1 hd hc hd1 hd2 (k.2.2 I)⟩
theorem ym_dup2_11 {v w : Value} (hd : decode G.2.1 pc = .ok (.dup2, 1)) (hc : v.category = 1) (hd1 : w.category = 1) (k : ym_Y D b0 G dep (pc + 1) lv (v :: w :: v :: w :: st) h r h') : ym_Y D b0 G dep pc lv (v :: w :: st) h r h' :=
  ⟨k.1, k.2.1, fun I => lv_dup2_11 I.1.1 I.1.2.1 hd hc hd1 (k.2.2 I)⟩
theorem ym_dup2_2 {v : Value} (hd : decode G.2.1 pc = .ok (.dup2, 1)) (hc : v.category = 2) (k : ym_Y D b0 G dep (pc + 1) lv (v :: v :: st) h r h') : ym_Y D b0 G dep pc lv (v :: st) h r h' :=
  ⟨k.1, k.2.1, fun I => lv_dup2_2 I.1.1 I.1.2.1 hd hc (k.2.2 I)⟩
theorem ym_dup2_x1_2 {v w : Value} (hd : decode G.2.1 pc = .ok (.dup2_x1, 1)) (hc : v.category = 2) (hd1 : w.category = 1) (k : ym_Y D b0 G dep (pc + 1) lv (v :: w :: v :: st) h r h') : ym_Y D b0 G dep pc lv (v :: w :: st) h r h' :=
  ⟨k.1, k.2.1, fun I => lv_dup2_x1_2 I.1.1 I.1.2.1 hd hc hd1 (k.2.2 I)⟩
theorem ym_dup2_x2_2 {v w u : Value} (hd : decode G.2.1 pc = .ok (.dup2_x2, 1)) (hc : v.category = 2) (hd1 : w.category = 1) (hd2 : u.category = 1) (k : ym_Y D b0 G dep (pc + 1) lv (v :: w :: u :: v :: st) h r h') : ym_Y D b0 G dep pc lv (v :: w :: u :: st) h r h' :=
  ⟨k.1, k.2.1, fun I => lv_dup2_x2_2 I.1.1 I.1.2.1 hd hc hd1 hd2 (k.2.2 I)⟩
theorem ym_iload_n {q : Fin 4} {i : Nat} {x : Int32} (k0 : Nat) (hd : decode G.2.1 pc = .ok (.iload_n q, 1)) (hi : (q : Nat) = i) (hl : lv[k0]? = some (i, .int x)) (k : ym_Y D b0 G dep (pc + 1) lv (.int x :: st) h r h') : ym_Y D b0 G dep pc lv st h r h' :=
  ⟨k.1, k.2.1, fun I => lv_iload_n I.1.1 I.1.2.1 hd hi (lv_at I.2.2.1 k0 hl) (k.2.2 I)⟩
theorem ym_iload {i : Nat} {x : Int32} (k0 : Nat) (hd : decode G.2.1 pc = .ok (.iload i, 2)) (hl : lv[k0]? = some (i, .int x)) (k : ym_Y D b0 G dep (pc + 2) lv (.int x :: st) h r h') : ym_Y D b0 G dep pc lv st h r h' :=
  ⟨k.1, k.2.1, fun I => lv_iload I.1.1 I.1.2.1 hd (lv_at I.2.2.1 k0 hl) (k.2.2 I)⟩
theorem ym_lload_n {q : Fin 4} {i : Nat} {x : Int64} (k0 : Nat) (hd : decode G.2.1 pc = .ok (.lload_n q, 1)) (hi : (q : Nat) = i) (hl : lv[k0]? = some (i, .long x)) (k : ym_Y D b0 G dep (pc + 1) lv (.long x :: st) h r h') : ym_Y D b0 G dep pc lv st h r h' :=
  ⟨k.1, k.2.1, fun I => lv_lload_n I.1.1 I.1.2.1 hd hi (lv_at I.2.2.1 k0 hl) (k.2.2 I)⟩
theorem ym_lload {i : Nat} {x : Int64} (k0 : Nat) (hd : decode G.2.1 pc = .ok (.lload i, 2)) (hl : lv[k0]? = some (i, .long x)) (k : ym_Y D b0 G dep (pc + 2) lv (.long x :: st) h r h') : ym_Y D b0 G dep pc lv st h r h' :=
  ⟨k.1, k.2.1, fun I => lv_lload I.1.1 I.1.2.1 hd (lv_at I.2.2.1 k0 hl) (k.2.2 I)⟩
theorem ym_aload_n {q : Fin 4} {i : Nat} {x : Option Nat} (k0 : Nat) (hd : decode G.2.1 pc = .ok (.aload_n q, 1)) (hi : (q : Nat) = i) (hl : lv[k0]? = some (i, va_rf x)) (k : ym_Y D b0 G dep (pc + 1) lv (va_rf x :: st) h r h') : ym_Y D b0 G dep pc lv st h r h' := by
  cases x with
  | none => exact ⟨k.1, k.2.1, fun I => lv_aload_nN I.1.1 I.1.2.1 hd hi (lv_at I.2.2.1 k0 hl) (k.2.2 I)⟩
  | some x => exact ⟨k.1, k.2.1, fun I => lv_aload_n I.1.1 I.1.2.1 hd hi (lv_at I.2.2.1 k0 hl) (k.2.2 I)⟩
theorem ym_aload {i : Nat} {x : Option Nat} (k0 : Nat) (hd : decode G.2.1 pc = .ok (.aload i, 2)) (hl : lv[k0]? = some (i, va_rf x)) (k : ym_Y D b0 G dep (pc + 2) lv (va_rf x :: st) h r h') : ym_Y D b0 G dep pc lv st h r h' := by
  cases x with
  | none => exact ⟨k.1, k.2.1, fun I => lv_aloadN I.1.1 I.1.2.1 hd (lv_at I.2.2.1 k0 hl) (k.2.2 I)⟩
  | some x => exact ⟨k.1, k.2.1, fun I => lv_aload I.1.1 I.1.2.1 hd (lv_at I.2.2.1 k0 hl) (k.2.2 I)⟩
theorem ym_Ilv {p : Program} {R : Room} {s : State} {m : MethodId} {args : Array Value} {meth : Method} {c : Code} {H : Heap} {locs : List Loc} {cells slots : Nat} {ls ls' : Array Slot} {mc ms : Nat} (I : ym_I D b0 G dep lv h h' p R s m args meth c H locs cells slots ls mc ms) (hl : lv_has ls' G.2.2.1 lv') : ym_I D b0 G dep lv' h h' p R s m args meth c H locs cells slots ls' mc ms := ⟨I.1, I.2.1, hl, I.2.2.2⟩
theorem ym_c1 (x : Option Nat) : (va_rf x).category = 1 := by cases x <;> rfl
def ym_hp (i : Nat) : List (Nat × Value) → Prop
  | [] => True
  | q :: l => (if q.1 + 1 = i then q.2.category = 1 else True) ∧ ym_hp i l
theorem ym_hp_mem {i : Nat} : ∀ {l : List (Nat × Value)}, ym_hp i l → ∀ q ∈ l, q.1 + 1 = i → q.2.category = 1
  | [], _, q, hq, _ => by cases hq
  | a :: l, hp, q, hq, he => by
    rcases List.mem_cons.mp hq with g | g
    · subst g
      have h1 := hp.1
      rw [if_pos he] at h1
      exact h1
    · exact ym_hp_mem hp.2 q g he
theorem ym_fl1 {ls : Array Slot} {n i : Nat} {v : Value} {l : List (Nat × Value)} (hp : ym_hp i l) (h : lv_has ls n ((i, v) :: l.filter (fun q => !(q.1 == i) && !(q.1 + 1 == i && q.2.category == 2)))) : lv_has ls n ((i, v) :: l.filter (fun q => !(q.1 == i))) := by
  refine ⟨h.1, h.2.1, fun q hq => h.2.2 q ?_⟩
  rcases List.mem_cons.mp hq with g | g
  · rw [g]; exact List.mem_cons_self
  · obtain ⟨g1, g2⟩ := List.mem_filter.mp g
    refine List.mem_cons_of_mem _ (List.mem_filter.mpr ⟨g1, ?_⟩)
    by_cases he : q.1 + 1 = i
    · have hc := ym_hp_mem hp q g1 he
      simp only [hc, g2]
      simp
    · have he2 : (q.1 + 1 == i) = false := by simpa using he
      simp only [he2, g2]
      simp
theorem ym_fl2 {ls : Array Slot} {n i : Nat} {v : Value} {l : List (Nat × Value)} (hp : ym_hp i l) (h : lv_has ls n ((i, v) :: l.filter (fun q => !(q.1 == i) && (!(q.1 == i + 1) && !(q.1 + 1 == i && q.2.category == 2))))) : lv_has ls n ((i, v) :: l.filter (fun q => !(q.1 == i) && !(q.1 == i + 1))) := by
  refine ⟨h.1, h.2.1, fun q hq => h.2.2 q ?_⟩
  rcases List.mem_cons.mp hq with g | g
  · rw [g]; exact List.mem_cons_self
  · obtain ⟨g1, g2⟩ := List.mem_filter.mp g
    obtain ⟨g3, g4⟩ := (Bool.and_eq_true _ _).mp g2
    refine List.mem_cons_of_mem _ (List.mem_filter.mpr ⟨g1, ?_⟩)
    by_cases he : q.1 + 1 = i
    · have hc := ym_hp_mem hp q g1 he
      simp only [hc, g3, g4]
      simp
    · have he2 : (q.1 + 1 == i) = false := by simpa using he
      simp only [he2, g3, g4]
      simp
theorem ym_istore_n {q : Fin 4} {i : Nat} {x : Int32} (hd : decode G.2.1 pc = .ok (.istore_n q, 1)) (hi : (q : Nat) = i) (hn : i < G.2.2.1) (hp : ym_hp i lv) (hl : (i, Value.int x) :: lv.filter (fun q => !(q.1 == i)) = lv') (k : ym_Y D b0 G dep (pc + 1) lv' st h r h') : ym_Y D b0 G dep pc lv (.int x :: st) h r h' :=
  ⟨k.1, k.2.1, fun I => lv_istore_n I.1.1 I.1.2.1 hd hi I.2.2.1 hn rfl (fun _ hl2 => k.2.2 (ym_Ilv I (hl ▸ ym_fl1 hp hl2)))⟩
theorem ym_istore {i : Nat} {x : Int32} (hd : decode G.2.1 pc = .ok (.istore i, 2)) (hn : i < G.2.2.1) (hp : ym_hp i lv) (hl : (i, Value.int x) :: lv.filter (fun q => !(q.1 == i)) = lv') (k : ym_Y D b0 G dep (pc + 2) lv' st h r h') : ym_Y D b0 G dep pc lv (.int x :: st) h r h' :=
  ⟨k.1, k.2.1, fun I => lv_istore I.1.1 I.1.2.1 hd I.2.2.1 hn rfl (fun _ hl2 => k.2.2 (ym_Ilv I (hl ▸ ym_fl1 hp hl2)))⟩
theorem ym_lstore_n {q : Fin 4} {i : Nat} {x : Int64} (hd : decode G.2.1 pc = .ok (.lstore_n q, 1)) (hi : (q : Nat) = i) (hn : i + 1 < G.2.2.1) (hp : ym_hp i lv) (hl : (i, Value.long x) :: lv.filter (fun q => !(q.1 == i) && !(q.1 == i + 1)) = lv') (k : ym_Y D b0 G dep (pc + 1) lv' st h r h') : ym_Y D b0 G dep pc lv (.long x :: st) h r h' :=
  ⟨k.1, k.2.1, fun I => lv_lstore_n I.1.1 I.1.2.1 hd hi I.2.2.1 hn rfl (fun _ hl2 => k.2.2 (ym_Ilv I (hl ▸ ym_fl2 hp hl2)))⟩
theorem ym_lstore {i : Nat} {x : Int64} (hd : decode G.2.1 pc = .ok (.lstore i, 2)) (hn : i + 1 < G.2.2.1) (hp : ym_hp i lv) (hl : (i, Value.long x) :: lv.filter (fun q => !(q.1 == i) && !(q.1 == i + 1)) = lv') (k : ym_Y D b0 G dep (pc + 2) lv' st h r h') : ym_Y D b0 G dep pc lv (.long x :: st) h r h' :=
  ⟨k.1, k.2.1, fun I => lv_lstore I.1.1 I.1.2.1 hd I.2.2.1 hn rfl (fun _ hl2 => k.2.2 (ym_Ilv I (hl ▸ ym_fl2 hp hl2)))⟩
theorem ym_astore_n {q : Fin 4} {i : Nat} {x : Option Nat} (hd : decode G.2.1 pc = .ok (.astore_n q, 1)) (hi : (q : Nat) = i) (hn : i < G.2.2.1) (hp : ym_hp i lv) (hl : (i, va_rf x) :: lv.filter (fun q => !(q.1 == i)) = lv') (k : ym_Y D b0 G dep (pc + 1) lv' st h r h') : ym_Y D b0 G dep pc lv (va_rf x :: st) h r h' := by
  cases x with
  | none => exact ⟨k.1, k.2.1, fun I => lv_astore_nN I.1.1 I.1.2.1 hd hi I.2.2.1 hn rfl (fun _ hl2 => k.2.2 (ym_Ilv I (hl ▸ ym_fl1 hp hl2)))⟩
  | some x => exact ⟨k.1, k.2.1, fun I => lv_astore_n I.1.1 I.1.2.1 hd hi I.2.2.1 hn rfl (fun _ hl2 => k.2.2 (ym_Ilv I (hl ▸ ym_fl1 hp hl2)))⟩
theorem ym_astore {i : Nat} {x : Option Nat} (hd : decode G.2.1 pc = .ok (.astore i, 2)) (hn : i < G.2.2.1) (hp : ym_hp i lv) (hl : (i, va_rf x) :: lv.filter (fun q => !(q.1 == i)) = lv') (k : ym_Y D b0 G dep (pc + 2) lv' st h r h') : ym_Y D b0 G dep pc lv (va_rf x :: st) h r h' := by
  cases x with
  | none => exact ⟨k.1, k.2.1, fun I => lv_astoreN I.1.1 I.1.2.1 hd I.2.2.1 hn rfl (fun _ hl2 => k.2.2 (ym_Ilv I (hl ▸ ym_fl1 hp hl2)))⟩
  | some x => exact ⟨k.1, k.2.1, fun I => lv_astore I.1.1 I.1.2.1 hd I.2.2.1 hn rfl (fun _ hl2 => k.2.2 (ym_Ilv I (hl ▸ ym_fl1 hp hl2)))⟩
theorem ym_iinc {i : Nat} {n : Int} {x v : Int32} (k0 : Nat) (hd : decode G.2.1 pc = .ok (.iinc i n, 3)) (h0 : lv[k0]? = some (i, .int x)) (hv : x + Int32.ofInt n = v) (hn : i < G.2.2.1) (hp : ym_hp i lv) (hl : (i, Value.int v) :: lv.filter (fun q => !(q.1 == i)) = lv') (k : ym_Y D b0 G dep (pc + 3) lv' st h r h') : ym_Y D b0 G dep pc lv st h r h' :=
  ⟨k.1, k.2.1, fun I => lv_iinc I.1.1 I.1.2.1 hd I.2.2.1 h0 hv hn rfl (fun _ hl2 => k.2.2 (ym_Ilv I (hl ▸ ym_fl1 hp hl2)))⟩
theorem ym_st4 {st : List Value} (h : st.length ≤ 4) : (st.map fun v => v.category).sum ≤ 8 := by
  have key : ∀ l : List Value, (l.map fun v => v.category).sum ≤ 2 * l.length := by
    intro l
    induction l with
    | nil => simp
    | cons a l ih =>
      have := lv_cat a
      simp only [List.map_cons, List.sum_cons, List.length_cons]
      omega
  have := key st
  omega
theorem ym_sub (ks : List Nat) (hl : lv_pick lv ks = lv') (k : ym_Y D b0 G dep pc lv' st h r h') : ym_Y D b0 G dep pc lv st h r h' := ⟨k.1, k.2.1, fun I => k.2.2 (ym_Ilv I (lv_sub I.2.2.1 ks hl))⟩
theorem ym_goto {off : Int} {tgt : Nat} (hd : decode G.2.1 pc = .ok (.goto off, 3)) (ht : (pc : Int) + off = (tgt : Int)) (k : ym_Y D b0 G dep tgt lv st h r h') : ym_Y D b0 G dep pc lv st h r h' := ⟨k.1, k.2.1, fun I => lv_goto I.1.1 I.1.2.1 hd ht (k.2.2 I)⟩
theorem ym_if_eq_y {x : Int32} {off : Int} {tgt : Nat} (hd : decode G.2.1 pc = .ok (.ifCond .eq off, 3)) (ht : (pc : Int) + off = (tgt : Int)) (hc : x = 0) (k : ym_Y D b0 G dep tgt lv st h r h') : ym_Y D b0 G dep pc lv (.int x :: st) h r h' := ⟨k.1, k.2.1, fun I => lv_if_eq I.1.1 I.1.2.1 hd ht (fun _ => k.2.2 I) (fun q => absurd hc q)⟩
theorem ym_if_eq_n {x : Int32} {off : Int} {tgt : Nat} (hd : decode G.2.1 pc = .ok (.ifCond .eq off, 3)) (ht : (pc : Int) + off = (tgt : Int)) (hc : ¬ x = 0) (k : ym_Y D b0 G dep (pc + 3) lv st h r h') : ym_Y D b0 G dep pc lv (.int x :: st) h r h' := ⟨k.1, k.2.1, fun I => lv_if_eq I.1.1 I.1.2.1 hd ht (fun q => absurd q hc) (fun _ => k.2.2 I)⟩
theorem ym_icmp_eq_y {x y : Int32} {off : Int} {tgt : Nat} (hd : decode G.2.1 pc = .ok (.if_icmp .eq off, 3)) (ht : (pc : Int) + off = (tgt : Int)) (hc : x = y) (k : ym_Y D b0 G dep tgt lv st h r h') : ym_Y D b0 G dep pc lv (.int y :: .int x :: st) h r h' := ⟨k.1, k.2.1, fun I => lv_icmp_eq I.1.1 I.1.2.1 hd ht (fun _ => k.2.2 I) (fun q => absurd hc q)⟩
theorem ym_icmp_eq_n {x y : Int32} {off : Int} {tgt : Nat} (hd : decode G.2.1 pc = .ok (.if_icmp .eq off, 3)) (ht : (pc : Int) + off = (tgt : Int)) (hc : ¬ x = y) (k : ym_Y D b0 G dep (pc + 3) lv st h r h') : ym_Y D b0 G dep pc lv (.int y :: .int x :: st) h r h' := ⟨k.1, k.2.1, fun I => lv_icmp_eq I.1.1 I.1.2.1 hd ht (fun q => absurd q hc) (fun _ => k.2.2 I)⟩
theorem ym_if_ne_y {x : Int32} {off : Int} {tgt : Nat} (hd : decode G.2.1 pc = .ok (.ifCond .ne off, 3)) (ht : (pc : Int) + off = (tgt : Int)) (hc : x = 0) (k : ym_Y D b0 G dep (pc + 3) lv st h r h') : ym_Y D b0 G dep pc lv (.int x :: st) h r h' := ⟨k.1, k.2.1, fun I => lv_if_ne I.1.1 I.1.2.1 hd ht (fun q => absurd hc q) (fun _ => k.2.2 I)⟩
theorem ym_if_ne_n {x : Int32} {off : Int} {tgt : Nat} (hd : decode G.2.1 pc = .ok (.ifCond .ne off, 3)) (ht : (pc : Int) + off = (tgt : Int)) (hc : ¬ x = 0) (k : ym_Y D b0 G dep tgt lv st h r h') : ym_Y D b0 G dep pc lv (.int x :: st) h r h' := ⟨k.1, k.2.1, fun I => lv_if_ne I.1.1 I.1.2.1 hd ht (fun _ => k.2.2 I) (fun q => absurd q hc)⟩
theorem ym_icmp_ne_y {x y : Int32} {off : Int} {tgt : Nat} (hd : decode G.2.1 pc = .ok (.if_icmp .ne off, 3)) (ht : (pc : Int) + off = (tgt : Int)) (hc : x = y) (k : ym_Y D b0 G dep (pc + 3) lv st h r h') : ym_Y D b0 G dep pc lv (.int y :: .int x :: st) h r h' := ⟨k.1, k.2.1, fun I => lv_icmp_ne I.1.1 I.1.2.1 hd ht (fun q => absurd hc q) (fun _ => k.2.2 I)⟩
theorem ym_icmp_ne_n {x y : Int32} {off : Int} {tgt : Nat} (hd : decode G.2.1 pc = .ok (.if_icmp .ne off, 3)) (ht : (pc : Int) + off = (tgt : Int)) (hc : ¬ x = y) (k : ym_Y D b0 G dep tgt lv st h r h') : ym_Y D b0 G dep pc lv (.int y :: .int x :: st) h r h' := ⟨k.1, k.2.1, fun I => lv_icmp_ne I.1.1 I.1.2.1 hd ht (fun _ => k.2.2 I) (fun q => absurd q hc)⟩
theorem ym_if_lt_y {x : Int32} {off : Int} {tgt : Nat} (hd : decode G.2.1 pc = .ok (.ifCond .lt off, 3)) (ht : (pc : Int) + off = (tgt : Int)) (hc : x < 0) (k : ym_Y D b0 G dep tgt lv st h r h') : ym_Y D b0 G dep pc lv (.int x :: st) h r h' := ⟨k.1, k.2.1, fun I => lv_if_lt I.1.1 I.1.2.1 hd ht (fun _ => k.2.2 I) (fun q => absurd hc q)⟩
theorem ym_if_lt_n {x : Int32} {off : Int} {tgt : Nat} (hd : decode G.2.1 pc = .ok (.ifCond .lt off, 3)) (ht : (pc : Int) + off = (tgt : Int)) (hc : ¬ x < 0) (k : ym_Y D b0 G dep (pc + 3) lv st h r h') : ym_Y D b0 G dep pc lv (.int x :: st) h r h' := ⟨k.1, k.2.1, fun I => lv_if_lt I.1.1 I.1.2.1 hd ht (fun q => absurd q hc) (fun _ => k.2.2 I)⟩
theorem ym_icmp_lt_y {x y : Int32} {off : Int} {tgt : Nat} (hd : decode G.2.1 pc = .ok (.if_icmp .lt off, 3)) (ht : (pc : Int) + off = (tgt : Int)) (hc : x < y) (k : ym_Y D b0 G dep tgt lv st h r h') : ym_Y D b0 G dep pc lv (.int y :: .int x :: st) h r h' := ⟨k.1, k.2.1, fun I => lv_icmp_lt I.1.1 I.1.2.1 hd ht (fun _ => k.2.2 I) (fun q => absurd hc q)⟩
theorem ym_icmp_lt_n {x y : Int32} {off : Int} {tgt : Nat} (hd : decode G.2.1 pc = .ok (.if_icmp .lt off, 3)) (ht : (pc : Int) + off = (tgt : Int)) (hc : ¬ x < y) (k : ym_Y D b0 G dep (pc + 3) lv st h r h') : ym_Y D b0 G dep pc lv (.int y :: .int x :: st) h r h' := ⟨k.1, k.2.1, fun I => lv_icmp_lt I.1.1 I.1.2.1 hd ht (fun q => absurd q hc) (fun _ => k.2.2 I)⟩
theorem ym_if_ge_y {x : Int32} {off : Int} {tgt : Nat} (hd : decode G.2.1 pc = .ok (.ifCond .ge off, 3)) (ht : (pc : Int) + off = (tgt : Int)) (hc : 0 ≤ x) (k : ym_Y D b0 G dep tgt lv st h r h') : ym_Y D b0 G dep pc lv (.int x :: st) h r h' := ⟨k.1, k.2.1, fun I => lv_if_ge I.1.1 I.1.2.1 hd ht (fun _ => k.2.2 I) (fun q => absurd hc q)⟩
theorem ym_if_ge_n {x : Int32} {off : Int} {tgt : Nat} (hd : decode G.2.1 pc = .ok (.ifCond .ge off, 3)) (ht : (pc : Int) + off = (tgt : Int)) (hc : ¬ 0 ≤ x) (k : ym_Y D b0 G dep (pc + 3) lv st h r h') : ym_Y D b0 G dep pc lv (.int x :: st) h r h' := ⟨k.1, k.2.1, fun I => lv_if_ge I.1.1 I.1.2.1 hd ht (fun q => absurd q hc) (fun _ => k.2.2 I)⟩
theorem ym_icmp_ge_y {x y : Int32} {off : Int} {tgt : Nat} (hd : decode G.2.1 pc = .ok (.if_icmp .ge off, 3)) (ht : (pc : Int) + off = (tgt : Int)) (hc : y ≤ x) (k : ym_Y D b0 G dep tgt lv st h r h') : ym_Y D b0 G dep pc lv (.int y :: .int x :: st) h r h' := ⟨k.1, k.2.1, fun I => lv_icmp_ge I.1.1 I.1.2.1 hd ht (fun _ => k.2.2 I) (fun q => absurd hc q)⟩
theorem ym_icmp_ge_n {x y : Int32} {off : Int} {tgt : Nat} (hd : decode G.2.1 pc = .ok (.if_icmp .ge off, 3)) (ht : (pc : Int) + off = (tgt : Int)) (hc : ¬ y ≤ x) (k : ym_Y D b0 G dep (pc + 3) lv st h r h') : ym_Y D b0 G dep pc lv (.int y :: .int x :: st) h r h' := ⟨k.1, k.2.1, fun I => lv_icmp_ge I.1.1 I.1.2.1 hd ht (fun q => absurd q hc) (fun _ => k.2.2 I)⟩
theorem ym_if_gt_y {x : Int32} {off : Int} {tgt : Nat} (hd : decode G.2.1 pc = .ok (.ifCond .gt off, 3)) (ht : (pc : Int) + off = (tgt : Int)) (hc : 0 < x) (k : ym_Y D b0 G dep tgt lv st h r h') : ym_Y D b0 G dep pc lv (.int x :: st) h r h' := ⟨k.1, k.2.1, fun I => lv_if_gt I.1.1 I.1.2.1 hd ht (fun _ => k.2.2 I) (fun q => absurd hc q)⟩
theorem ym_if_gt_n {x : Int32} {off : Int} {tgt : Nat} (hd : decode G.2.1 pc = .ok (.ifCond .gt off, 3)) (ht : (pc : Int) + off = (tgt : Int)) (hc : ¬ 0 < x) (k : ym_Y D b0 G dep (pc + 3) lv st h r h') : ym_Y D b0 G dep pc lv (.int x :: st) h r h' := ⟨k.1, k.2.1, fun I => lv_if_gt I.1.1 I.1.2.1 hd ht (fun q => absurd q hc) (fun _ => k.2.2 I)⟩
theorem ym_icmp_gt_y {x y : Int32} {off : Int} {tgt : Nat} (hd : decode G.2.1 pc = .ok (.if_icmp .gt off, 3)) (ht : (pc : Int) + off = (tgt : Int)) (hc : y < x) (k : ym_Y D b0 G dep tgt lv st h r h') : ym_Y D b0 G dep pc lv (.int y :: .int x :: st) h r h' := ⟨k.1, k.2.1, fun I => lv_icmp_gt I.1.1 I.1.2.1 hd ht (fun _ => k.2.2 I) (fun q => absurd hc q)⟩
theorem ym_icmp_gt_n {x y : Int32} {off : Int} {tgt : Nat} (hd : decode G.2.1 pc = .ok (.if_icmp .gt off, 3)) (ht : (pc : Int) + off = (tgt : Int)) (hc : ¬ y < x) (k : ym_Y D b0 G dep (pc + 3) lv st h r h') : ym_Y D b0 G dep pc lv (.int y :: .int x :: st) h r h' := ⟨k.1, k.2.1, fun I => lv_icmp_gt I.1.1 I.1.2.1 hd ht (fun q => absurd q hc) (fun _ => k.2.2 I)⟩
theorem ym_if_le_y {x : Int32} {off : Int} {tgt : Nat} (hd : decode G.2.1 pc = .ok (.ifCond .le off, 3)) (ht : (pc : Int) + off = (tgt : Int)) (hc : x ≤ 0) (k : ym_Y D b0 G dep tgt lv st h r h') : ym_Y D b0 G dep pc lv (.int x :: st) h r h' := ⟨k.1, k.2.1, fun I => lv_if_le I.1.1 I.1.2.1 hd ht (fun _ => k.2.2 I) (fun q => absurd hc q)⟩
theorem ym_if_le_n {x : Int32} {off : Int} {tgt : Nat} (hd : decode G.2.1 pc = .ok (.ifCond .le off, 3)) (ht : (pc : Int) + off = (tgt : Int)) (hc : ¬ x ≤ 0) (k : ym_Y D b0 G dep (pc + 3) lv st h r h') : ym_Y D b0 G dep pc lv (.int x :: st) h r h' := ⟨k.1, k.2.1, fun I => lv_if_le I.1.1 I.1.2.1 hd ht (fun q => absurd q hc) (fun _ => k.2.2 I)⟩
theorem ym_icmp_le_y {x y : Int32} {off : Int} {tgt : Nat} (hd : decode G.2.1 pc = .ok (.if_icmp .le off, 3)) (ht : (pc : Int) + off = (tgt : Int)) (hc : x ≤ y) (k : ym_Y D b0 G dep tgt lv st h r h') : ym_Y D b0 G dep pc lv (.int y :: .int x :: st) h r h' := ⟨k.1, k.2.1, fun I => lv_icmp_le I.1.1 I.1.2.1 hd ht (fun _ => k.2.2 I) (fun q => absurd hc q)⟩
theorem ym_icmp_le_n {x y : Int32} {off : Int} {tgt : Nat} (hd : decode G.2.1 pc = .ok (.if_icmp .le off, 3)) (ht : (pc : Int) + off = (tgt : Int)) (hc : ¬ x ≤ y) (k : ym_Y D b0 G dep (pc + 3) lv st h r h') : ym_Y D b0 G dep pc lv (.int y :: .int x :: st) h r h' := ⟨k.1, k.2.1, fun I => lv_icmp_le I.1.1 I.1.2.1 hd ht (fun q => absurd q hc) (fun _ => k.2.2 I)⟩
theorem ym_ifnull_y {x : Option Nat} {off : Int} {tgt : Nat} (hd : decode G.2.1 pc = .ok (.ifnull off, 3)) (ht : (pc : Int) + off = (tgt : Int)) (hc : x = none) (k : ym_Y D b0 G dep tgt lv st h r h') : ym_Y D b0 G dep pc lv (va_rf x :: st) h r h' := by subst hc; exact ⟨k.1, k.2.1, fun I => lv_ifnullN I.1.1 I.1.2.1 hd ht (k.2.2 I)⟩
theorem ym_ifnull_n {x : Option Nat} {off : Int} {tgt : Nat} (hd : decode G.2.1 pc = .ok (.ifnull off, 3)) (_ : (pc : Int) + off = (tgt : Int)) (hc : ¬ x = none) (k : ym_Y D b0 G dep (pc + 3) lv st h r h') : ym_Y D b0 G dep pc lv (va_rf x :: st) h r h' := by
  cases x with
  | none => exact absurd rfl hc
  | some x => exact ⟨k.1, k.2.1, fun I => lv_ifnull I.1.1 I.1.2.1 hd (k.2.2 I)⟩
theorem ym_ifnonnull_n {x : Option Nat} {off : Int} {tgt : Nat} (hd : decode G.2.1 pc = .ok (.ifnonnull off, 3)) (ht : (pc : Int) + off = (tgt : Int)) (hc : ¬ x = none) (k : ym_Y D b0 G dep tgt lv st h r h') : ym_Y D b0 G dep pc lv (va_rf x :: st) h r h' := by
  cases x with
  | none => exact absurd rfl hc
  | some x => exact ⟨k.1, k.2.1, fun I => lv_ifnonnull I.1.1 I.1.2.1 hd ht (k.2.2 I)⟩
theorem ym_ifnonnull_y {x : Option Nat} {off : Int} {tgt : Nat} (hd : decode G.2.1 pc = .ok (.ifnonnull off, 3)) (_ : (pc : Int) + off = (tgt : Int)) (hc : x = none) (k : ym_Y D b0 G dep (pc + 3) lv st h r h') : ym_Y D b0 G dep pc lv (va_rf x :: st) h r h' := by subst hc; exact ⟨k.1, k.2.1, fun I => lv_ifnonnullN I.1.1 I.1.2.1 hd (k.2.2 I)⟩
theorem ym_acmp_eq_y {x y : Option Nat} {off : Int} {tgt : Nat} (hd : decode G.2.1 pc = .ok (.if_acmp .eq off, 3)) (ht : (pc : Int) + off = (tgt : Int)) (hc : x = y) (k : ym_Y D b0 G dep tgt lv st h r h') : ym_Y D b0 G dep pc lv (va_rf y :: va_rf x :: st) h r h' := ⟨k.1, k.2.1, fun I => lv_acmp_eq I.1.1 I.1.2.1 hd ht (fun _ => k.2.2 I) (fun q => absurd hc q)⟩
theorem ym_acmp_eq_n {x y : Option Nat} {off : Int} {tgt : Nat} (hd : decode G.2.1 pc = .ok (.if_acmp .eq off, 3)) (ht : (pc : Int) + off = (tgt : Int)) (hc : ¬ x = y) (k : ym_Y D b0 G dep (pc + 3) lv st h r h') : ym_Y D b0 G dep pc lv (va_rf y :: va_rf x :: st) h r h' := ⟨k.1, k.2.1, fun I => lv_acmp_eq I.1.1 I.1.2.1 hd ht (fun q => absurd q hc) (fun _ => k.2.2 I)⟩
theorem ym_acmp_ne_y {x y : Option Nat} {off : Int} {tgt : Nat} (hd : decode G.2.1 pc = .ok (.if_acmp .ne off, 3)) (ht : (pc : Int) + off = (tgt : Int)) (hc : x = y) (k : ym_Y D b0 G dep (pc + 3) lv st h r h') : ym_Y D b0 G dep pc lv (va_rf y :: va_rf x :: st) h r h' := ⟨k.1, k.2.1, fun I => lv_acmp_ne I.1.1 I.1.2.1 hd ht (fun q => absurd hc q) (fun _ => k.2.2 I)⟩
theorem ym_acmp_ne_n {x y : Option Nat} {off : Int} {tgt : Nat} (hd : decode G.2.1 pc = .ok (.if_acmp .ne off, 3)) (ht : (pc : Int) + off = (tgt : Int)) (hc : ¬ x = y) (k : ym_Y D b0 G dep tgt lv st h r h') : ym_Y D b0 G dep pc lv (va_rf y :: va_rf x :: st) h r h' := ⟨k.1, k.2.1, fun I => lv_acmp_ne I.1.1 I.1.2.1 hd ht (fun _ => k.2.2 I) (fun q => absurd q hc)⟩
theorem ym_lc_lt {x y : Int64} : lg_cmp x y < 0 ↔ x < y := by
  unfold lg_cmp
  by_cases h1 : y < x
  · rw [if_pos h1]
    exact ⟨fun q => absurd q (by decide), fun q => (Int64.lt_irrefl (Int64.lt_trans h1 q)).elim⟩
  · rw [if_neg h1]
    by_cases h2 : x = y
    · rw [if_pos h2]
      exact ⟨fun q => absurd q (by decide), fun q => (Int64.lt_irrefl (a := y) (by rw [h2] at q; exact q)).elim⟩
    · rw [if_neg h2]
      exact ⟨fun _ => Int64.lt_of_le_of_ne (Int64.not_lt.mp h1) h2, fun _ => by decide⟩
theorem ym_lc_eq {x y : Int64} : lg_cmp x y = 0 ↔ x = y := by
  unfold lg_cmp
  by_cases h1 : y < x
  · rw [if_pos h1]
    exact ⟨fun q => absurd q (by decide), fun q => (Int64.lt_irrefl (a := y) (by rw [q] at h1; exact h1)).elim⟩
  · rw [if_neg h1]
    by_cases h2 : x = y
    · rw [if_pos h2]
      exact ⟨fun _ => h2, fun _ => rfl⟩
    · rw [if_neg h2]
      exact ⟨fun q => absurd q (by decide), fun q => absurd q h2⟩
theorem ym_lc_gt {x y : Int64} : 0 < lg_cmp x y ↔ y < x := by
  unfold lg_cmp
  by_cases h1 : y < x
  · rw [if_pos h1]
    exact ⟨fun _ => h1, fun _ => by decide⟩
  · rw [if_neg h1]
    by_cases h2 : x = y
    · rw [if_pos h2]
      exact ⟨fun q => absurd q (by decide), fun q => absurd q h1⟩
    · rw [if_neg h2]
      exact ⟨fun q => absurd q (by decide), fun q => absurd q h1⟩
theorem ym_lc_le {x y : Int64} : lg_cmp x y ≤ 0 ↔ x ≤ y := by rw [← Int32.not_lt, ← Int64.not_lt, ym_lc_gt]
theorem ym_lc_ge {x y : Int64} : 0 ≤ lg_cmp x y ↔ y ≤ x := by rw [← Int32.not_lt, ← Int64.not_lt, ym_lc_lt]
theorem ym_lcmp_eq_y {x y : Int64} {off : Int} {tgt : Nat} (hd0 : decode G.2.1 pc = .ok (.lcmp, 1)) (hd : decode G.2.1 (pc + 1) = .ok (.ifCond .eq off, 3)) (ht : ((pc + 1 : Nat) : Int) + off = (tgt : Int)) (hc : x = y) (k : ym_Y D b0 G dep tgt lv st h r h') : ym_Y D b0 G dep pc lv (.long y :: .long x :: st) h r h' :=
  have k2 := ym_if_eq_y hd ht (ym_lc_eq.mpr hc) k
  ⟨k2.1, k2.2.1, fun I => W.lcmp I.1.1 I.1.2.1 hd0 (k2.2.2 I)⟩
theorem ym_lcmp_eq_n {x y : Int64} {off : Int} {tgt : Nat} (hd0 : decode G.2.1 pc = .ok (.lcmp, 1)) (hd : decode G.2.1 (pc + 1) = .ok (.ifCond .eq off, 3)) (ht : ((pc + 1 : Nat) : Int) + off = (tgt : Int)) (hc : ¬ x = y) (k : ym_Y D b0 G dep (pc + 1 + 3) lv st h r h') : ym_Y D b0 G dep pc lv (.long y :: .long x :: st) h r h' :=
  have k2 := ym_if_eq_n hd ht (fun q => hc (ym_lc_eq.mp q)) k
  ⟨k2.1, k2.2.1, fun I => W.lcmp I.1.1 I.1.2.1 hd0 (k2.2.2 I)⟩
theorem ym_lcmp_ne_y {x y : Int64} {off : Int} {tgt : Nat} (hd0 : decode G.2.1 pc = .ok (.lcmp, 1)) (hd : decode G.2.1 (pc + 1) = .ok (.ifCond .ne off, 3)) (ht : ((pc + 1 : Nat) : Int) + off = (tgt : Int)) (hc : x = y) (k : ym_Y D b0 G dep (pc + 1 + 3) lv st h r h') : ym_Y D b0 G dep pc lv (.long y :: .long x :: st) h r h' :=
  have k2 := ym_if_ne_y hd ht (ym_lc_eq.mpr hc) k
  ⟨k2.1, k2.2.1, fun I => W.lcmp I.1.1 I.1.2.1 hd0 (k2.2.2 I)⟩
theorem ym_lcmp_ne_n {x y : Int64} {off : Int} {tgt : Nat} (hd0 : decode G.2.1 pc = .ok (.lcmp, 1)) (hd : decode G.2.1 (pc + 1) = .ok (.ifCond .ne off, 3)) (ht : ((pc + 1 : Nat) : Int) + off = (tgt : Int)) (hc : ¬ x = y) (k : ym_Y D b0 G dep tgt lv st h r h') : ym_Y D b0 G dep pc lv (.long y :: .long x :: st) h r h' :=
  have k2 := ym_if_ne_n hd ht (fun q => hc (ym_lc_eq.mp q)) k
  ⟨k2.1, k2.2.1, fun I => W.lcmp I.1.1 I.1.2.1 hd0 (k2.2.2 I)⟩
theorem ym_lcmp_lt_y {x y : Int64} {off : Int} {tgt : Nat} (hd0 : decode G.2.1 pc = .ok (.lcmp, 1)) (hd : decode G.2.1 (pc + 1) = .ok (.ifCond .lt off, 3)) (ht : ((pc + 1 : Nat) : Int) + off = (tgt : Int)) (hc : x < y) (k : ym_Y D b0 G dep tgt lv st h r h') : ym_Y D b0 G dep pc lv (.long y :: .long x :: st) h r h' :=
  have k2 := ym_if_lt_y hd ht (ym_lc_lt.mpr hc) k
  ⟨k2.1, k2.2.1, fun I => W.lcmp I.1.1 I.1.2.1 hd0 (k2.2.2 I)⟩
theorem ym_lcmp_lt_n {x y : Int64} {off : Int} {tgt : Nat} (hd0 : decode G.2.1 pc = .ok (.lcmp, 1)) (hd : decode G.2.1 (pc + 1) = .ok (.ifCond .lt off, 3)) (ht : ((pc + 1 : Nat) : Int) + off = (tgt : Int)) (hc : ¬ x < y) (k : ym_Y D b0 G dep (pc + 1 + 3) lv st h r h') : ym_Y D b0 G dep pc lv (.long y :: .long x :: st) h r h' :=
  have k2 := ym_if_lt_n hd ht (fun q => hc (ym_lc_lt.mp q)) k
  ⟨k2.1, k2.2.1, fun I => W.lcmp I.1.1 I.1.2.1 hd0 (k2.2.2 I)⟩
theorem ym_lcmp_ge_y {x y : Int64} {off : Int} {tgt : Nat} (hd0 : decode G.2.1 pc = .ok (.lcmp, 1)) (hd : decode G.2.1 (pc + 1) = .ok (.ifCond .ge off, 3)) (ht : ((pc + 1 : Nat) : Int) + off = (tgt : Int)) (hc : y ≤ x) (k : ym_Y D b0 G dep tgt lv st h r h') : ym_Y D b0 G dep pc lv (.long y :: .long x :: st) h r h' :=
  have k2 := ym_if_ge_y hd ht (ym_lc_ge.mpr hc) k
  ⟨k2.1, k2.2.1, fun I => W.lcmp I.1.1 I.1.2.1 hd0 (k2.2.2 I)⟩
theorem ym_lcmp_ge_n {x y : Int64} {off : Int} {tgt : Nat} (hd0 : decode G.2.1 pc = .ok (.lcmp, 1)) (hd : decode G.2.1 (pc + 1) = .ok (.ifCond .ge off, 3)) (ht : ((pc + 1 : Nat) : Int) + off = (tgt : Int)) (hc : ¬ y ≤ x) (k : ym_Y D b0 G dep (pc + 1 + 3) lv st h r h') : ym_Y D b0 G dep pc lv (.long y :: .long x :: st) h r h' :=
  have k2 := ym_if_ge_n hd ht (fun q => hc (ym_lc_ge.mp q)) k
  ⟨k2.1, k2.2.1, fun I => W.lcmp I.1.1 I.1.2.1 hd0 (k2.2.2 I)⟩
theorem ym_lcmp_gt_y {x y : Int64} {off : Int} {tgt : Nat} (hd0 : decode G.2.1 pc = .ok (.lcmp, 1)) (hd : decode G.2.1 (pc + 1) = .ok (.ifCond .gt off, 3)) (ht : ((pc + 1 : Nat) : Int) + off = (tgt : Int)) (hc : y < x) (k : ym_Y D b0 G dep tgt lv st h r h') : ym_Y D b0 G dep pc lv (.long y :: .long x :: st) h r h' :=
  have k2 := ym_if_gt_y hd ht (ym_lc_gt.mpr hc) k
  ⟨k2.1, k2.2.1, fun I => W.lcmp I.1.1 I.1.2.1 hd0 (k2.2.2 I)⟩
theorem ym_lcmp_gt_n {x y : Int64} {off : Int} {tgt : Nat} (hd0 : decode G.2.1 pc = .ok (.lcmp, 1)) (hd : decode G.2.1 (pc + 1) = .ok (.ifCond .gt off, 3)) (ht : ((pc + 1 : Nat) : Int) + off = (tgt : Int)) (hc : ¬ y < x) (k : ym_Y D b0 G dep (pc + 1 + 3) lv st h r h') : ym_Y D b0 G dep pc lv (.long y :: .long x :: st) h r h' :=
  have k2 := ym_if_gt_n hd ht (fun q => hc (ym_lc_gt.mp q)) k
  ⟨k2.1, k2.2.1, fun I => W.lcmp I.1.1 I.1.2.1 hd0 (k2.2.2 I)⟩
theorem ym_lcmp_le_y {x y : Int64} {off : Int} {tgt : Nat} (hd0 : decode G.2.1 pc = .ok (.lcmp, 1)) (hd : decode G.2.1 (pc + 1) = .ok (.ifCond .le off, 3)) (ht : ((pc + 1 : Nat) : Int) + off = (tgt : Int)) (hc : x ≤ y) (k : ym_Y D b0 G dep tgt lv st h r h') : ym_Y D b0 G dep pc lv (.long y :: .long x :: st) h r h' :=
  have k2 := ym_if_le_y hd ht (ym_lc_le.mpr hc) k
  ⟨k2.1, k2.2.1, fun I => W.lcmp I.1.1 I.1.2.1 hd0 (k2.2.2 I)⟩
theorem ym_lcmp_le_n {x y : Int64} {off : Int} {tgt : Nat} (hd0 : decode G.2.1 pc = .ok (.lcmp, 1)) (hd : decode G.2.1 (pc + 1) = .ok (.ifCond .le off, 3)) (ht : ((pc + 1 : Nat) : Int) + off = (tgt : Int)) (hc : ¬ x ≤ y) (k : ym_Y D b0 G dep (pc + 1 + 3) lv st h r h') : ym_Y D b0 G dep pc lv (.long y :: .long x :: st) h r h' :=
  have k2 := ym_if_le_n hd ht (fun q => hc (ym_lc_le.mp q)) k
  ⟨k2.1, k2.2.1, fun I => W.lcmp I.1.1 I.1.2.1 hd0 (k2.2.2 I)⟩
theorem ym_swIn {dflt lo hi : Int} {offs : Array Int} {len : Nat} {x : Int32} {off : Int} {tgt : Nat} (hd : decode G.2.1 pc = .ok (.tableswitch dflt lo hi offs, len)) (h1 : ¬ x.toInt < lo) (h2 : ¬ hi < x.toInt) (ho : offs[(x.toInt - lo).toNat]? = some off) (ht : (pc : Int) + off = (tgt : Int)) (k : ym_Y D b0 G dep tgt lv st h r h') : ym_Y D b0 G dep pc lv (.int x :: st) h r h' := ⟨k.1, k.2.1, fun I => lv_tableIn I.1.1 I.1.2.1 hd h1 h2 ho ht (k.2.2 I)⟩
theorem ym_swOut {dflt lo hi : Int} {offs : Array Int} {len : Nat} {x : Int32} {tgt : Nat} (hd : decode G.2.1 pc = .ok (.tableswitch dflt lo hi offs, len)) (h1 : x.toInt < lo ∨ hi < x.toInt) (ht : (pc : Int) + dflt = (tgt : Int)) (k : ym_Y D b0 G dep tgt lv st h r h') : ym_Y D b0 G dep pc lv (.int x :: st) h r h' := ⟨k.1, k.2.1, fun I => lv_tableOut I.1.1 I.1.2.1 hd h1 ht (k.2.2 I)⟩
end YMP
/-! rules of the judgement that look at the picture -/
theorem ym_ob_spec {h : ym_H} {a : Option Nat} {ci : Nat} {fs : List Value} (hv : ym_ob h a ci = some fs) : ∃ a' : Nat, a = some a' ∧ h.2.2 a' = .inr (ci, fs) := by
  unfold ym_ob at hv
  cases a with
  | none => simp at hv
  | some a =>
    cases he : h.2.2 a with
    | inl x => simp [he] at hv
    | inr o =>
      simp only [he] at hv
      obtain ⟨c, gs⟩ := o
      by_cases hc : c = ci
      · subst hc
        simp at hv
        subst hv
        exact ⟨a, rfl, he⟩
      · simp [hc] at hv
theorem ym_gf_spec {h : ym_H} {a : Option Nat} {ci k : Nat} {v : Value} (hv : ym_gf h a ci k = some v) : ∃ (a' : Nat) (fs : List Value), a = some a' ∧ h.2.2 a' = .inr (ci, fs) ∧ fs[k]? = some v := by
  obtain ⟨fs, h1, h2⟩ := Option.bind_eq_some_iff.mp hv
  obtain ⟨a', e1, e2⟩ := ym_ob_spec h1
  exact ⟨a', fs, e1, e2, h2⟩
theorem ym_ar_spec {h : ym_H} {a : Option Nat} {x : Nat × Nat × (Nat → Value)} (hv : ym_ar h a = some x) : ∃ a' : Nat, a = some a' ∧ h.2.2 a' = .inl x := by
  unfold ym_ar at hv
  cases a with
  | none => simp at hv
  | some a =>
    cases he : h.2.2 a with
    | inl y => simp only [he] at hv; exact ⟨a, rfl, by rw [he, Option.some.inj hv]⟩
    | inr o => simp [he] at hv
theorem ym_toI_spec {v : Value} {x : Int32} (h : ym_toI v = some x) : v = .int x := by
  cases v <;> simp [ym_toI] at h
  rw [h]
theorem ym_toL_spec {v : Value} {x : Int64} (h : ym_toL v = some x) : v = .long x := by
  cases v <;> simp [ym_toL] at h
  rw [h]
theorem ym_toR_spec {v : Value} {x : Option Nat} (h : ym_toR v = some x) : v = va_rf x := by
  cases v <;> simp [ym_toR] at h <;> subst h <;> rfl
theorem ym_gI_v {h : ym_H} {a : Option Nat} {ci k : Nat} {x : Int32} (hv : ym_gI h a ci k = some x) : ym_gf h a ci k = some (.int x) := by
  obtain ⟨v, h1, h2⟩ := Option.bind_eq_some_iff.mp hv
  rw [h1, ym_toI_spec h2]
theorem ym_gL_v {h : ym_H} {a : Option Nat} {ci k : Nat} {x : Int64} (hv : ym_gL h a ci k = some x) : ym_gf h a ci k = some (.long x) := by
  obtain ⟨v, h1, h2⟩ := Option.bind_eq_some_iff.mp hv
  rw [h1, ym_toL_spec h2]
theorem ym_gR_v {h : ym_H} {a : Option Nat} {ci k : Nat} {x : Option Nat} (hv : ym_gR h a ci k = some x) : ym_gf h a ci k = some (va_rf x) := by
  obtain ⟨v, h1, h2⟩ := Option.bind_eq_some_iff.mp hv
  rw [h1, ym_toR_spec h2]
theorem ym_ldI_v {h : ym_H} {a : Option Nat} {i : Int32} {x : Int32} (hv : ym_ldI h a i = some x) : ym_ld h a 0 i = some (.int x) := by
  obtain ⟨v, h1, h2⟩ := Option.bind_eq_some_iff.mp hv
  rw [h1, ym_toI_spec h2]
theorem ym_ldL_v {h : ym_H} {a : Option Nat} {i : Int32} {x : Int64} (hv : ym_ldL h a i = some x) : ym_ld h a 1 i = some (.long x) := by
  obtain ⟨v, h1, h2⟩ := Option.bind_eq_some_iff.mp hv
  rw [h1, ym_toL_spec h2]
theorem ym_ldR_v {h : ym_H} {a : Option Nat} {t : Nat} {i : Int32} {x : Option Nat} (hv : ym_ldR h a t i = some x) : ym_ld h a t i = some (va_rf x) := by
  obtain ⟨v, h1, h2⟩ := Option.bind_eq_some_iff.mp hv
  rw [h1, ym_toR_spec h2]
theorem ym_pf_spec {h h1 : ym_H} {a : Option Nat} {ci k : Nat} {v : Value} (hv : ym_pf h a ci k v = some h1) : ∃ (a' : Nat) (fs : List Value), a = some a' ∧ h.2.2 a' = .inr (ci, fs) ∧ k < fs.length ∧ h1 = ym_set h a' (.inr (ci, fs.set k v)) := by
  unfold ym_pf at hv
  obtain ⟨fs, e1, e2⟩ := Option.bind_eq_some_iff.mp hv
  obtain ⟨a', rfl, ha⟩ := ym_ob_spec e1
  by_cases hk : k < fs.length
  · simp [hk] at e2
    exact ⟨a', fs, rfl, ha, hk, e2.symm⟩
  · simp [hk] at e2
theorem ym_ld_spec {h : ym_H} {a : Option Nat} {t : Nat} {i : Int32} {v : Value} (hv : ym_ld h a t i = some v) : ∃ (a' : Nat) (x : Nat × Nat × (Nat → Value)), a = some a' ∧ h.2.2 a' = .inl x ∧ (x.1 = t ∨ (t = 0 ∧ x.1 = 99)) ∧ ¬ (i < 0 ∨ x.2.1 ≤ i.toNatClampNeg) ∧ v = x.2.2 i.toNatClampNeg := by
  unfold ym_ld at hv
  obtain ⟨x, e1, e2⟩ := Option.bind_eq_some_iff.mp hv
  obtain ⟨a', rfl, ha⟩ := ym_ar_spec e1
  by_cases hk : (x.1 = t ∨ (t = 0 ∧ x.1 = 99)) ∧ ¬ (i < 0 ∨ x.2.1 ≤ i.toNatClampNeg)
  · rw [if_pos hk] at e2
    exact ⟨a', x, rfl, ha, hk.1, hk.2, (Option.some.inj e2).symm⟩
  · rw [if_neg hk] at e2
    cases e2
theorem ym_as_spec {h h1 : ym_H} {a : Option Nat} {t : Nat} {i : Int32} {v : Value} (hv : ym_as h a t i v = some h1) : ∃ (a' : Nat) (n : Nat) (f : Nat → Value), a = some a' ∧ h.2.2 a' = .inl (t, n, f) ∧ t ≠ 99 ∧ ¬ (i < 0 ∨ n ≤ i.toNatClampNeg) ∧ h1 = ym_set h a' (.inl (t, n, updV f i.toNatClampNeg v)) := by
  unfold ym_as at hv
  obtain ⟨⟨t', n, f⟩, e1, e2⟩ := Option.bind_eq_some_iff.mp hv
  obtain ⟨a', rfl, ha⟩ := ym_ar_spec e1
  by_cases hk : t' = t ∧ t ≠ 99 ∧ ¬ (i < 0 ∨ n ≤ i.toNatClampNeg)
  · rw [if_pos hk] at e2
    obtain ⟨k1, k2, k3⟩ := hk
    subst k1
    exact ⟨a', n, f, rfl, ha, k2, k3, (Option.some.inj e2).symm⟩
  · rw [if_neg hk] at e2
    cases e2
theorem ym_A.kept {D : ym_D} {a : Nat} {e : ym_E} {H H1 : Heap} (h : ym_A D a e H) (hq : H1[a]? = H[a]?) : ym_A D a e H1 := by
  cases e with
  | inl x => exact ⟨fun t => by rw [hq]; exact h.1 t, fun t => by rw [hq]; exact h.2 t⟩
  | inr o =>
    obtain ⟨r, h1, h2⟩ := h
    exact ⟨r, h1, h2.kept hq⟩
theorem ym_R.set {D : ym_D} {b0 : Nat} {h : ym_H} {H H1 : Heap} {a : Nat} {e : ym_E} (hR : ym_R D b0 h H) (h0 : b0 ≤ a) (h1 : a < h.1) (he : ym_A D a e H1) (hz : H1.size = H.size) (oq : ∀ q, q ≠ a → H1[q]? = H[q]?) : ym_R D b0 (ym_set h a e) H1 := by
  refine ⟨hz.trans hR.1, hR.2.1, fun q hok => ?_⟩
  by_cases hq : q = a
  · subst hq
    refine ⟨h1, ?_, Or.inl h0⟩
    show ym_A D q (if q = q then e else h.2.2 q) H1
    rw [if_pos rfl]
    exact he
  · have e1 : (ym_set h a e).2.2 q = h.2.2 q := if_neg hq
    rw [e1] at hok ⊢
    obtain ⟨g1, g2, g3⟩ := hR.2.2 q hok
    exact ⟨g1, g2.kept (oq q hq), g3⟩
theorem ym_R.push {D : ym_D} {b0 : Nat} {h : ym_H} {H H1 : Heap} {k : Nat} {e : ym_E} (hR : ym_R D b0 h H) (he : ym_A D h.1 e H1) (hz : H1.size = h.1 + 1) (oq : ∀ q, q < h.1 → H1[q]? = H[q]?) : ym_R D b0 (ym_new h k e) H1 := by
  refine ⟨hz, Nat.le_succ_of_le hR.2.1, fun q hok => ?_⟩
  by_cases hq : q = h.1
  · have e1 : (ym_new h k e).2.2 q = e := if_pos hq
    rw [e1]
    subst hq
    exact ⟨Nat.lt_succ_self _, he, Or.inl hR.2.1⟩
  · have e1 : (ym_new h k e).2.2 q = h.2.2 q := if_neg hq
    rw [e1] at hok ⊢
    obtain ⟨g1, g2, g3⟩ := hR.2.2 q hok
    exact ⟨Nat.lt_succ_of_lt g1, g2.kept (oq q g1), g3⟩
theorem ym_K.vm {D : ym_D} {u U : State} (e : u.vm = U.vm) (h : ym_K D u) : ym_K D U := by
  have hal : u.vm.Alike U.vm := by rw [e]; exact Vm.Alike.refl _
  refine ⟨fun c q hq => u_Kn_moved hal (h.1 c q hq), fun t ty ht => ⟨arrOfT_moved hal (h.2.1 t ty ht).1, (h.2.1 t ty ht).2.moved hal⟩, fun w hw => ?_, State.isArrayOf_alike hal h.2.2.2.1, h.2.2.2.2⟩
  have hn := ym_N_form w hw
  have hz := h.2.2.1 w hw
  unfold ym_nf at hn
  split at hn
  · exact va_Nw.same rfl e hz
  · exact va_Nw.same rfl e hz
  · exact va_AO.moved hal hz
  · cases hn
theorem ym_K.warm {D : ym_D} {u U : State} (hW : u.WarmedH U.vm) (h : ym_K D u) : ym_K D U := by
  have hal : u.vm.Alike U.vm := hW.alike
  refine ⟨fun c q hq => u_Kn_moved hal (h.1 c q hq), fun t ty ht => ⟨arrOfT_moved hal (h.2.1 t ty ht).1, (h.2.1 t ty ht).2.moved hal⟩, fun w hw => ?_, State.isArrayOf_alike hal h.2.2.2.1, h.2.2.2.2⟩
  have hn := ym_N_form w hw
  have hz := h.2.2.1 w hw
  unfold ym_nf at hn
  split at hn
  · exact va_Nw.warmF hW hz
  · exact va_Nw.warmM hW hz
  · exact va_AO.moved hal hz
  · cases hn
section YMH
variable {D : ym_D} {b0 : Nat} {G : ym_G} {dep pc : Nat} {lv : List (Nat × Value)} {st : List Value} {h : ym_H} {r : Option Value} {h' : ym_H}
theorem ym_get {ix ci k N : Nat} {C : String} {T : u_T} {a : Option Nat} {v : Value} (hd : decode G.2.1 pc = .ok (.getfield ix, 3)) (hc : ym_cl[ci]? = some (C, T, N)) (hci : ci < 1000) (hin : ∀ w ∈ u_ws C T N, w ∈ ym_T) (hk : k < N) (hlk : Cond.fieldLink G.1.cls ix (T k).1 (T k).2.1 (T k).2.2.1 ∈ ym_T) (hv : ym_gf h a ci k = some v)
    (kk : ym_Y D b0 G dep (pc + 3) lv (v :: st) h r h') : ym_Y D b0 G dep pc lv (va_rf a :: st) h r h' := by
  obtain ⟨a', fs, rfl, ha, hf⟩ := ym_gf_spec hv
  refine ⟨kk.1, kk.2.1, fun {p l e R s m args below meth c H locs cells slots ls mc ms} I => ?_⟩
  obtain ⟨⟨hx, hb, hml, hown, hts, hK, -⟩, hR, -⟩ := id I
  obtain ⟨hlt, hA, -⟩ := hR.2.2 a' (by rw [ha]; exact hci)
  rw [ha] at hA
  obtain ⟨r0, g1, cell, q1, q2, q3, q4⟩ := hA
  have hr : r0 = (C, T, N) := Option.some.inj (g1.symm.trans hc)
  subst hr
  obtain ⟨hS, hfc, kC, hkC, hkind⟩ := hK.1 ci _ hc
  obtain ⟨cf, kf, fi, f, hi, hsl⟩ := hS k hk
  refine W.getf hx hb hown (hts _ hlk) hi (u_facts hfc hkC (u_lays hts hin hk) hi).1 q1 (by rw [q3]; exact fun h => by cases h) (v := v) ?_ rfl rfl hd (kk.2.2 I)
  rw [hsl, q4 k hk]
  simp [vp_V, hf]
theorem ym_getN {ix ci k N : Nat} {C host : String} {T : u_T} {a : Option Nat} {v : Value} (hd : decode G.2.1 pc = .ok (.getfield ix, 3)) (hc : ym_cl[ci]? = some (C, T, N)) (hci : ci < 1000) (hin : ∀ w ∈ u_ws C T N, w ∈ ym_T) (hk : k < N) (hlk : Cond.fieldLinkNest G.1.cls ix (T k).1 (T k).2.1 (T k).2.2.1 host ∈ ym_N) (hv : ym_gf h a ci k = some v)
    (kk : ym_Y D b0 G dep (pc + 3) lv (v :: st) h r h') : ym_Y D b0 G dep pc lv (va_rf a :: st) h r h' := by
  obtain ⟨a', fs, rfl, ha, hf⟩ := ym_gf_spec hv
  refine ⟨kk.1, kk.2.1, fun {p l e R s m args below meth c H locs cells slots ls mc ms} I => ?_⟩
  obtain ⟨⟨hx, hb, hml, hown, hts, hK, -⟩, hR, -⟩ := id I
  obtain ⟨hlt, hA, -⟩ := hR.2.2 a' (by rw [ha]; exact hci)
  rw [ha] at hA
  obtain ⟨r0, g1, cell, q1, q2, q3, q4⟩ := hA
  have hr : r0 = (C, T, N) := Option.some.inj (g1.symm.trans hc)
  subst hr
  obtain ⟨hS, hfc, kC, hkC, hkind⟩ := hK.1 ci _ hc
  obtain ⟨cf, kf, fi, f, hi, hsl⟩ := hS k hk
  refine va_Wgetf hx hb hown (va_Nw.use rfl (hK.2.2.1 _ hlk)) hi (u_facts hfc hkC (u_lays hts hin hk) hi).1 q1 (by rw [q3]; exact fun h => by cases h) (v := v) ?_ rfl rfl hd (kk.2.2 I)
  rw [hsl, q4 k hk]
  simp [vp_V, hf]
theorem ym_apart {ci N : Nat} {C : String} {T : u_T} {s : State} {args : Array Value} (hts : ∀ w ∈ ym_T, w.before args s = true) (hin : ∀ w ∈ u_ws C T N, w ∈ ym_T) (ty : Nat → FieldType) (hty : ∀ k, k < N → parseFieldDescriptor (T k).2.2.1 = some (ty k)) (hnm : ∀ a, a < N → ∀ b, b < N → a ≠ b → (T a).2.1 ≠ (T b).2.1) (hK : ym_K D s) (hc : ym_cl[ci]? = some (C, T, N)) : ∀ x y, x < N → y < N → x ≠ y → (D.2.1 ci) x ≠ (D.2.1 ci) y := by
  intro x y hx hy hne
  obtain ⟨hS, -⟩ := hK.1 ci _ hc
  obtain ⟨_, _, _, fa, hia, ea⟩ := hS x hx
  obtain ⟨_, _, _, fb, hib, eb⟩ := hS y hy
  rw [← ea, ← eb]
  refine u_apart (u_lays hts hin hx) (u_lays hts hin hy) hia hib ?_
  rw [(State.fieldFound?_type hia (hty x hx)).1, (State.fieldFound?_type hib (hty y hy)).1]
  exact hnm x hx y hy hne
theorem ym_I.put {p : Program} {R : Room} {s : State} {m : MethodId} {args : Array Value} {meth : Method} {c : Code} {H H1 : Heap} {locs : List Loc} {cells slots : Nat} {ls : Array Slot} {mc ms a j : Nat} {e : ym_E} (I : ym_I D b0 G dep lv h h' p R s m args meth c H locs cells slots ls mc ms) (h0 : b0 ≤ a) (hR : ym_R D b0 (ym_set h a e) H1) : ym_I D b0 G dep lv (ym_set h a e) h' p R s m args meth c H1 (locs ++ [⟨a, j⟩]) cells slots ls mc ms := by
  obtain ⟨i1, i2, i3, i4, i5⟩ := I
  refine ⟨i1, hR, i3, fun q hq => ?_, i5⟩
  rcases List.mem_append.mp hq with g | g
  · exact i4 q g
  · rw [List.mem_singleton.mp g]
    exact h0
theorem ym_notS {a ci : Nat} {fs : List Value} (g : b0 ≤ a ∨ ym_isS (.inr (ci, fs))) : b0 ≤ a := by
  rcases g with g | g
  · exact g
  · exact absurd g (fun z => z)
theorem ym_notS2 {a t n : Nat} {f : Nat → Value} (ht : t ≠ 99) (g : b0 ≤ a ∨ ym_isS (.inl (t, n, f))) : b0 ≤ a := by
  rcases g with g | g
  · exact g
  · exact absurd g ht
theorem ym_put {ix ci k N : Nat} {C : String} {T : u_T} {a : Option Nat} {v : Value} {ty : FieldType} {h1 : ym_H} (hd : decode G.2.1 pc = .ok (.putfield ix, 3)) (hc : ym_cl[ci]? = some (C, T, N)) (hci : ci < 1000) (hin : ∀ w ∈ u_ws C T N, w ∈ ym_T) (ty0 : Nat → FieldType) (hty : ∀ k, k < N → parseFieldDescriptor (T k).2.2.1 = some (ty0 k)) (hnm : ∀ a, a < N → ∀ b, b < N → a ≠ b → (T a).2.1 ≠ (T b).2.1) (hk : k < N) (hlk : Cond.fieldLink G.1.cls ix (T k).1 (T k).2.1 (T k).2.2.1 ∈ ym_T) (hfin : (T k).2.2.2 = false) (hdd : parseFieldDescriptor (T k).2.2.1 = some ty) (hn : narrow ty v = v) (hfit : fits ty v = true)
    (hv : ym_pf h a ci k v = some h1) (kk : ym_Y D b0 G dep (pc + 3) lv st h1 r h') : ym_Y D b0 G dep pc lv (v :: va_rf a :: st) h r h' := by
  obtain ⟨a', fs, rfl, ha, hl, rfl⟩ := ym_pf_spec hv
  refine ⟨kk.1, kk.2.1, fun {p l e R s m args below meth c H locs cells slots ls mc ms} I => ?_⟩
  obtain ⟨⟨hx, hb, hml, hown, hts, hK, -⟩, hR, -⟩ := id I
  have hap := ym_apart hts hin ty0 hty hnm hK hc
  obtain ⟨hlt, hA, hS0⟩ := hR.2.2 a' (by rw [ha]; exact hci)
  rw [ha] at hA hS0
  have h0 : b0 ≤ a' := ym_notS hS0
  obtain ⟨r0, g1, cell, q1, q2, q3, q4⟩ := hA
  have hr : r0 = (C, T, N) := Option.some.inj (g1.symm.trans hc)
  subst hr
  obtain ⟨hS, hfc, kC, hkC, hkind⟩ := hK.1 ci _ hc
  obtain ⟨cf, kf, fi, f, hi, hsl⟩ := hS k hk
  have hlay := hts _ (hin _ (u_in_lay hk))
  unfold u_lay at hlay
  rw [if_neg (by rw [hfin]; decide)] at hlay
  have hst := (u_facts hfc hkC (u_lays hts hin hk) hi).1
  have h6 := u_store hfc hkC hkind hlay hi hdd hn hfit
  refine W.putK hx hb (f := f) ⟨hown, hts _ hlk, ⟨_, _, _, hi⟩, hst⟩ (by rw [q2]; exact h6) q1 q3 (by rw [hsl]; exact k2_hasslot (q4 k hk)) rfl rfl hd fun H' e1 e2 e3 => ?_
  rw [hsl] at e1 ⊢
  exact kk.2.2 (I.put h0 (hR.set h0 hlt ⟨_, hc, t_OB.to (V := updV (vp_V fs) k v) ⟨_, e1, q2, q3, t_set q4 hap hk v⟩ (fun j _ => vp_updV_set hl v j)⟩ e2 e3))
theorem ym_putN {ix ci k N : Nat} {C host : String} {T : u_T} {a : Option Nat} {v : Value} {ty : FieldType} {h1 : ym_H} (hd : decode G.2.1 pc = .ok (.putfield ix, 3)) (hc : ym_cl[ci]? = some (C, T, N)) (hci : ci < 1000) (hin : ∀ w ∈ u_ws C T N, w ∈ ym_T) (ty0 : Nat → FieldType) (hty : ∀ k, k < N → parseFieldDescriptor (T k).2.2.1 = some (ty0 k)) (hnm : ∀ a, a < N → ∀ b, b < N → a ≠ b → (T a).2.1 ≠ (T b).2.1) (hk : k < N) (hlk : Cond.fieldLinkNest G.1.cls ix (T k).1 (T k).2.1 (T k).2.2.1 host ∈ ym_N) (hfin : (T k).2.2.2 = false) (hdd : parseFieldDescriptor (T k).2.2.1 = some ty) (hn : narrow ty v = v) (hfit : fits ty v = true)
    (hv : ym_pf h a ci k v = some h1) (kk : ym_Y D b0 G dep (pc + 3) lv st h1 r h') : ym_Y D b0 G dep pc lv (v :: va_rf a :: st) h r h' := by
  obtain ⟨a', fs, rfl, ha, hl, rfl⟩ := ym_pf_spec hv
  refine ⟨kk.1, kk.2.1, fun {p l e R s m args below meth c H locs cells slots ls mc ms} I => ?_⟩
  obtain ⟨⟨hx, hb, hml, hown, hts, hK, -⟩, hR, -⟩ := id I
  have hap := ym_apart hts hin ty0 hty hnm hK hc
  obtain ⟨hlt, hA, hS0⟩ := hR.2.2 a' (by rw [ha]; exact hci)
  rw [ha] at hA hS0
  have h0 : b0 ≤ a' := ym_notS hS0
  obtain ⟨r0, g1, cell, q1, q2, q3, q4⟩ := hA
  have hr : r0 = (C, T, N) := Option.some.inj (g1.symm.trans hc)
  subst hr
  obtain ⟨hS, hfc, kC, hkC, hkind⟩ := hK.1 ci _ hc
  obtain ⟨cf, kf, fi, f, hi, hsl⟩ := hS k hk
  have hlay := hts _ (hin _ (u_in_lay hk))
  unfold u_lay at hlay
  rw [if_neg (by rw [hfin]; decide)] at hlay
  have hst := (u_facts hfc hkC (u_lays hts hin hk) hi).1
  have h6 := u_store hfc hkC hkind hlay hi hdd hn hfit
  refine va_WputK hx hb (f := f) hown (va_Nw.use rfl (hK.2.2.1 _ hlk)) hi hst (by rw [q2]; exact h6) q1 q3 (by rw [hsl]; exact k2_hasslot (q4 k hk)) rfl rfl hd fun H' e1 e2 e3 => ?_
  rw [hsl] at e1 ⊢
  exact kk.2.2 (I.put h0 (hR.set h0 hlt ⟨_, hc, t_OB.to (V := updV (vp_V fs) k v) ⟨_, e1, q2, q3, t_set q4 hap hk v⟩ (fun j _ => vp_updV_set hl v j)⟩ e2 e3))
theorem ym_putF {ix ci k N : Nat} {C : String} {T : u_T} {a : Option Nat} {v : Value} {ty : FieldType} {h1 : ym_H} (hd : decode G.2.1 pc = .ok (.putfield ix, 3)) (hc : ym_cl[ci]? = some (C, T, N)) (hci : ci < 1000) (hin : ∀ w ∈ u_ws C T N, w ∈ ym_T) (ty0 : Nat → FieldType) (hty : ∀ k, k < N → parseFieldDescriptor (T k).2.2.1 = some (ty0 k)) (hnm : ∀ a, a < N → ∀ b, b < N → a ≠ b → (T a).2.1 ≠ (T b).2.1) (hk : k < N) (hlk : Cond.fieldLink G.1.cls ix (T k).1 (T k).2.1 (T k).2.2.1 ∈ ym_T) (hfin : (T k).2.2.2 = true) (hini : G.1.name = "<init>") (hdecl : (T k).1 = G.1.cls) (hdd : parseFieldDescriptor (T k).2.2.1 = some ty) (hn : narrow ty v = v) (hfit : fits ty v = true)
    (hv : ym_pf h a ci k v = some h1) (kk : ym_Y D b0 G dep (pc + 3) lv st h1 r h') : ym_Y D b0 G dep pc lv (v :: va_rf a :: st) h r h' := by
  obtain ⟨a', fs, rfl, ha, hl, rfl⟩ := ym_pf_spec hv
  refine ⟨kk.1, kk.2.1, fun {p l e R s m args below meth c H locs cells slots ls mc ms} I => ?_⟩
  obtain ⟨⟨hx, hb, hml, hown, hts, hK, -, -, hname, -⟩, hR, -⟩ := id I
  have hap := ym_apart hts hin ty0 hty hnm hK hc
  obtain ⟨hlt, hA, hS0⟩ := hR.2.2 a' (by rw [ha]; exact hci)
  rw [ha] at hA hS0
  have h0 : b0 ≤ a' := ym_notS hS0
  obtain ⟨r0, g1, cell, q1, q2, q3, q4⟩ := hA
  have hr : r0 = (C, T, N) := Option.some.inj (g1.symm.trans hc)
  subst hr
  obtain ⟨hS, hfc, kC, hkC, hkind⟩ := hK.1 ci _ hc
  obtain ⟨cf, kf, fi, f, hi, hsl⟩ := hS k hk
  have hlay := hts _ (hin _ (u_in_lay hk))
  unfold u_lay at hlay
  rw [if_pos hfin] at hlay
  have hst := (u_facts hfc hkC (u_lays hts hin hk) hi).1
  have hcf : m.cls = cf := by
    obtain ⟨_, _, c', _, _, _, -, -, hf', -, -, -, hown2, -⟩ := Cond.laysFinal_spec hlay
    have e1 : c' = cf := by have := hi.symm.trans hf'; simp at this; exact this.1.symm
    rw [hdecl] at hown2
    rw [← e1]; exact Option.some.inj (hown.symm.trans hown2)
  have h6 := u_fits hfc hkC hkind (Or.inr hlay) hi hdd hn hfit
  refine W.putFinK hx hb hown (hts _ hlk) hi hst hcf (hname hini) (by rw [q2]; exact h6) q1 q3 (by rw [hsl]; exact k2_hasslot (q4 k hk)) rfl rfl hd fun H' e1 e2 e3 => ?_
  rw [hsl] at e1 ⊢
  exact kk.2.2 (I.put h0 (hR.set h0 hlt ⟨_, hc, t_OB.to (V := updV (vp_V fs) k v) ⟨_, e1, q2, q3, t_set q4 hap hk v⟩ (fun j _ => vp_updV_set hl v j)⟩ e2 e3))
theorem ym_I.push {p : Program} {R : Room} {s : State} {m : MethodId} {args : Array Value} {meth : Method} {c : Code} {H H1 : Heap} {locs : List Loc} {cells slots : Nat} {ls : Array Slot} {mc ms k : Nat} {e : ym_E} (I : ym_I D b0 G dep lv h h' p R s m args meth c H locs cells slots ls mc ms) (m1 : h.1 + 1 ≤ h'.1) (m2 : h.2.1 + k ≤ h'.2.1) (hR : ym_R D b0 (ym_new h k e) H1) : ym_I D b0 G dep lv (ym_new h k e) h' p R s m args meth c H1 locs (cells + 1) (slots + k) ls mc ms := by
  obtain ⟨i1, i2, i3, i4, i5, i6, i7⟩ := I
  refine ⟨i1, hR, i3, i4, ?_, ?_, i7⟩
  · show cells + 1 + (h'.1 - (h.1 + 1)) = mc
    omega
  · show slots + k + (h'.2.1 - (h.2.1 + k)) = ms
    omega
theorem ym_newO {ix ci N : Nat} {C : String} {T : u_T} (fs : List Value) (hd : decode G.2.1 pc = .ok (.new ix, 3)) (hc : ym_cl[ci]? = some (C, T, N)) (hin : ∀ w ∈ u_ws C T N, w ∈ ym_T) (ty : Nat → FieldType) (hty : ∀ k, k < N → parseFieldDescriptor (T k).2.2.1 = some (ty k)) (hcl : Cond.classLink G.1.cls ix C ∈ ym_T) (hinst : Cond.instantiable C N ∈ ym_T) (hini : Cond.initialized C ∈ ym_T) (hfs : ∀ j, j < N → defaultValue (ty j) = vp_V fs j)
    (kk : ym_Y D b0 G dep (pc + 3) lv (va_rf (some h.1) :: st) (ym_new h N (.inr (ci, fs))) r h') : ym_Y D b0 G dep pc lv st h r h' := by
  have m1 : h.1 + 1 ≤ h'.1 := kk.1
  have m2 : h.2.1 + N ≤ h'.2.1 := kk.2.1
  refine ⟨by omega, by omega, fun {p l e R s m args below meth c H locs cells slots ls mc ms} I => ?_⟩
  obtain ⟨⟨hx, hb, hml, hown, hts, hK, -⟩, hR, -, -, j1, j2, j3, j4⟩ := id I
  have hKn := hK.1 ci _ hc
  refine W.newcK hx hb hown (hts _ hcl) (hts _ hinst) (hts _ hini) rfl hd (by omega) (by omega) hKn.2.1 hR.1 fun H1 kC hkC e1 z1 o1 => ?_
  refine kk.2.2 (I.push m1 m2 (hR.push ⟨_, hc, (u_born ty hts hin hKn hkC e1 hty).to hfs⟩ z1 (fun q hq => o1 q hq)))
theorem ym_objInit {ix : Nat} {a : Option Nat} (hd : decode G.2.1 pc = .ok (.invokespecial ix, 3)) (hlk : Cond.methodLink G.1.cls ix objectInit ∈ ym_T) (hi : Cond.instanceMethod objectInit ∈ ym_T) (hcd : Cond.code objectInit ⟨#[0xb1]⟩ 1 none ∈ ym_T) (hdep : 1 ≤ dep) (hs : (st.map fun v => v.category).sum ≤ 8) (ha : ¬ a = none) (kk : ym_Y D b0 G dep (pc + 3) lv st h r h') : ym_Y D b0 G dep pc lv (va_rf a :: st) h r h' := by
  cases a with
  | none => exact absurd rfl ha
  | some a =>
    refine ⟨kk.1, kk.2.1, fun {p l e R s m args below meth c H locs cells slots ls mc ms} I => ?_⟩
    obtain ⟨⟨hx, hb, hml, hown, hts, hK, -, -, -, hfr, hlo, -⟩, hR, hl, -⟩ := id I
    refine W.objInit hx hb hown (hts _ hlk) (hts _ hi) (hts _ hcd) rfl (by rw [hml]; exact hl.1) rfl hd (by omega) (by show 2 * 0 + _ + 12 ≤ _; omega) ?_
    exact kk.2.2 I
theorem ym_iald {a : Option Nat} {i : Int32} {v : Value} (hd : decode G.2.1 pc = .ok (.iaload, 1)) (ht : ym_at[0]? = some .int) (hv : ym_ld h a 0 i = some v) (kk : ym_Y D b0 G dep (pc + 1) lv (v :: st) h r h') : ym_Y D b0 G dep pc lv (.int i :: va_rf a :: st) h r h' := by
  obtain ⟨a', ⟨t, n, f⟩, rfl, ha, htt, hin, rfl⟩ := ym_ld_spec hv
  refine ⟨kk.1, kk.2.1, fun {p l e R s m args below meth c H locs cells slots ls mc ms} I => ?_⟩
  obtain ⟨⟨hx, hb, hml, hown, hts, hK, -⟩, hR, -⟩ := id I
  obtain ⟨hlt, hA, -⟩ := hR.2.2 a' (by rw [ha]; exact trivial)
  rw [ha] at hA
  have hlt2 : i.toNatClampNeg < n := Nat.not_le.mp fun q => hin (Or.inr q)
  by_cases h99 : t = 99
  · obtain ⟨g1, g2, g3⟩ := hA.1 h99
    exact W.iald hx hb g1 hK.2.2.2.1 hK.2.2.2.2 (by rw [g2]; exact hin) (g3 _ hlt2) rfl rfl hd (kk.2.2 I)
  · obtain ⟨g1, g2⟩ := hA.2 h99
    have h0 : t = 0 := by
      rcases htt with q | q
      · exact q
      · exact absurd q.2 h99
    subst h0
    exact W.iald hx hb g2 ((hK.2.1 0 _ ht).1 n f) (fun q => by cases q) (by rw [arrV_size]; exact hin) (arrV_read _ _ hlt2) rfl rfl hd (kk.2.2 I)
theorem ym_lald {a : Option Nat} {i : Int32} {v : Value} (hd : decode G.2.1 pc = .ok (.laload, 1)) (ht : ym_at[1]? = some .long) (hv : ym_ld h a 1 i = some v) (kk : ym_Y D b0 G dep (pc + 1) lv (v :: st) h r h') : ym_Y D b0 G dep pc lv (.int i :: va_rf a :: st) h r h' := by
  obtain ⟨a', ⟨t, n, f⟩, rfl, ha, htt, hin, rfl⟩ := ym_ld_spec hv
  refine ⟨kk.1, kk.2.1, fun {p l e R s m args below meth c H locs cells slots ls mc ms} I => ?_⟩
  obtain ⟨⟨hx, hb, hml, hown, hts, hK, -⟩, hR, -⟩ := id I
  obtain ⟨hlt, hA, -⟩ := hR.2.2 a' (by rw [ha]; exact trivial)
  rw [ha] at hA
  have hlt2 : i.toNatClampNeg < n := Nat.not_le.mp fun q => hin (Or.inr q)
  have h0 : t = 1 := by
    rcases htt with q | q
    · exact q
    · exact absurd q.1 (by decide)
  subst h0
  obtain ⟨g1, g2⟩ := hA.2 (show (1 : Nat) ≠ 99 by decide)
  exact W.lald hx hb g2 ((hK.2.1 1 _ ht).1 n f) (fun q => by cases q) (by rw [arrV_size]; exact hin) (arrV_read _ _ hlt2) rfl rfl hd (kk.2.2 I)
theorem ym_aald {a : Option Nat} {i : Int32} {v : Value} {t : Nat} {ty : FieldType} (hd : decode G.2.1 pc = .ok (.aaload, 1)) (ht : ym_at[t]? = some ty) (h0 : t ≠ 0) (h9 : t ≠ 99) (hrf : ty.isReference = true) (hv : ym_ld h a t i = some v) (kk : ym_Y D b0 G dep (pc + 1) lv (v :: st) h r h') : ym_Y D b0 G dep pc lv (.int i :: va_rf a :: st) h r h' := by
  obtain ⟨a', ⟨t', n, f⟩, rfl, ha, htt, hin, rfl⟩ := ym_ld_spec hv
  refine ⟨kk.1, kk.2.1, fun {p l e R s m args below meth c H locs cells slots ls mc ms} I => ?_⟩
  obtain ⟨⟨hx, hb, hml, hown, hts, hK, -⟩, hR, -⟩ := id I
  obtain ⟨hlt, hA, -⟩ := hR.2.2 a' (by rw [ha]; exact trivial)
  rw [ha] at hA
  have hlt2 : i.toNatClampNeg < n := Nat.not_le.mp fun q => hin (Or.inr q)
  have h0 : t' = t := by
    rcases htt with q | q
    · exact q
    · exact absurd q.1 h0
  subst h0
  obtain ⟨g1, g2⟩ := hA.2 h9
  exact W.aald (ty := ty) hx hb g2 ((hK.2.1 _ _ ht).1 n f) hrf (fun q => by cases q) (by rw [arrV_size]; exact hin) (arrV_read _ _ hlt2) rfl rfl hd (kk.2.2 I)
theorem ym_alen {a : Option Nat} {v : Int32} (hd : decode G.2.1 pc = .ok (.arraylength, 1)) (hv : ym_len h a = some v) (kk : ym_Y D b0 G dep (pc + 1) lv (.int v :: st) h r h') : ym_Y D b0 G dep pc lv (va_rf a :: st) h r h' := by
  unfold ym_len at hv
  obtain ⟨⟨t, n, f⟩, e1, e2⟩ := Option.map_eq_some_iff.mp hv
  obtain ⟨a', rfl, ha⟩ := ym_ar_spec e1
  subst e2
  refine ⟨kk.1, kk.2.1, fun {p l e R s m args below meth c H locs cells slots ls mc ms} I => ?_⟩
  obtain ⟨⟨hx, hb, hml, hown, hts, hK, -⟩, hR, -⟩ := id I
  obtain ⟨hlt, hA, -⟩ := hR.2.2 a' (by rw [ha]; exact trivial)
  rw [ha] at hA
  by_cases h99 : t = 99
  · obtain ⟨g1, g2, g3⟩ := hA.1 h99
    exact W.alen (n := Int32.ofNat n) hx hb g1 hK.2.2.2.1 (by rw [g2] <;> rfl) rfl rfl hd (kk.2.2 I)
  · obtain ⟨g1, g2⟩ := hA.2 h99
    exact W.alen (n := Int32.ofNat n) hx hb g2 ((hK.2.1 t _ (List.getElem?_eq_getElem g1)).1 n f) (by rw [arrV_size] <;> rfl) rfl rfl hd (kk.2.2 I)
theorem ym_iast {a : Option Nat} {i x : Int32} {h1 : ym_H} (hd : decode G.2.1 pc = .ok (.iastore, 1)) (ht : ym_at[0]? = some .int) (hv : ym_as h a 0 i (.int x) = some h1) (kk : ym_Y D b0 G dep (pc + 1) lv st h1 r h') : ym_Y D b0 G dep pc lv (.int x :: .int i :: va_rf a :: st) h r h' := by
  obtain ⟨a', n, f, rfl, ha, h9, hin, rfl⟩ := ym_as_spec hv
  refine ⟨kk.1, kk.2.1, fun {p l e R s m args below meth c H locs cells slots ls mc ms} I => ?_⟩
  obtain ⟨⟨hx, hb, hml, hown, hts, hK, -⟩, hR, -⟩ := id I
  obtain ⟨hlt, hA, hS0⟩ := hR.2.2 a' (by rw [ha]; exact trivial)
  rw [ha] at hA hS0
  have h0 : b0 ≤ a' := ym_notS2 h9 hS0
  obtain ⟨g1, g2⟩ := hA.2 h9
  refine W.iast hx hb g2 ((hK.2.1 0 _ ht).1 n f) (fun q => by cases q) (by rw [arrV_size]; exact hin) rfl rfl hd fun H1 e z oq => ?_
  rw [arrV_store] at e
  exact kk.2.2 (I.put h0 (hR.set h0 hlt ⟨fun q => absurd q h9, fun _ => ⟨g1, e⟩⟩ z oq))
theorem ym_last {a : Option Nat} {i : Int32} {x : Int64} {h1 : ym_H} (hd : decode G.2.1 pc = .ok (.lastore, 1)) (ht : ym_at[1]? = some .long) (hv : ym_as h a 1 i (.long x) = some h1) (kk : ym_Y D b0 G dep (pc + 1) lv st h1 r h') : ym_Y D b0 G dep pc lv (.long x :: .int i :: va_rf a :: st) h r h' := by
  obtain ⟨a', n, f, rfl, ha, h9, hin, rfl⟩ := ym_as_spec hv
  refine ⟨kk.1, kk.2.1, fun {p l e R s m args below meth c H locs cells slots ls mc ms} I => ?_⟩
  obtain ⟨⟨hx, hb, hml, hown, hts, hK, -⟩, hR, -⟩ := id I
  obtain ⟨hlt, hA, hS0⟩ := hR.2.2 a' (by rw [ha]; exact trivial)
  rw [ha] at hA hS0
  have h0 : b0 ≤ a' := ym_notS2 h9 hS0
  obtain ⟨g1, g2⟩ := hA.2 h9
  refine W.last hx hb g2 ((hK.2.1 1 _ ht).1 n f) (fun q => by cases q) (by rw [arrV_size]; exact hin) rfl rfl hd fun H1 e z oq => ?_
  rw [arrV_store] at e
  exact kk.2.2 (I.put h0 (hR.set h0 hlt ⟨fun q => absurd q h9, fun _ => ⟨g1, e⟩⟩ z oq))
theorem ym_newA {at_ : ArrayType} {t : Nat} {n : Int32} {h1 : ym_H} {ty : FieldType} {v : Value} (hd : decode G.2.1 pc = .ok (.newarray at_, 2)) (hty : newarray.typeOf at_ = ty) (ht : ym_at[t]? = some ty) (h9 : t ≠ 99) (harr : Cond.arrayClass ty ∈ ym_T) (hcb : componentBytes ty ≤ 8) (hdv : defaultValue ty = v) (hv : ym_na h t v n = some h1) (hnn : ∀ (U : State) (cA : ClassId), va_RA U cA ty = (U.vm.findClass ("[" ++ ty.toString) = some cA))
    (kk : ym_Y D b0 G dep (pc + 2) lv (va_rf (some h.1) :: st) h1 r h') : ym_Y D b0 G dep pc lv (.int n :: st) h r h' := by
  subst hty
  subst hdv
  unfold ym_na at hv
  by_cases hn : n < 0 ∨ 67108864 < n.toNatClampNeg
  · rw [if_pos hn] at hv
    cases hv
  rw [if_neg hn] at hv
  obtain rfl := Option.some.inj hv
  have m1 : h.1 + 1 ≤ h'.1 := kk.1
  have m2 : h.2.1 + n.toNatClampNeg ≤ h'.2.1 := kk.2.1
  refine ⟨by omega, by omega, fun {p l e R s m args below meth c H locs cells slots ls mc ms} I => ?_⟩
  obtain ⟨⟨hx, hb, hml, hown, hts, hK, -⟩, hR, -, -, j1, j2, j3, j4⟩ := id I
  have hcb2 : n.toNatClampNeg * componentBytes (newarray.typeOf at_) ≤ 536870912 := by
    have q : n.toNatClampNeg ≤ 67108864 := Nat.not_lt.mp fun q => hn (Or.inr q)
    exact Nat.le_trans (Nat.mul_le_mul q hcb) (by decide)
  refine va_newaK hx hb (hts _ harr) rfl hd rfl (fun q => hn (Or.inl q)) rfl hcb2 (by omega) (by omega) hR.1 fun H1 cA e1 z1 o1 _ hfc => ?_
  have hc2 := (hK.2.1 t _ ht).2
  rw [hnn] at hc2
  obtain rfl := Option.some.inj (hfc.symm.trans hc2)
  exact kk.2.2 (I.push m1 m2 (hR.push ⟨fun q => absurd q h9, fun _ => ⟨(List.getElem?_eq_some_iff.mp ht).1, e1⟩⟩ z1 o1))
theorem ym_anew {ix : Nat} {C : String} {t : Nat} {n : Int32} {h1 : ym_H} (hd : decode G.2.1 pc = .ok (.anewarray ix, 3)) (ht : ym_at[t]? = some (.object C)) (h9 : t ≠ 99) (hcl : Cond.classLink G.1.cls ix C ∈ ym_T) (hao : Cond.arrayOver (.object C) ∈ ym_N) (hv : ym_na h t .null n = some h1)
    (kk : ym_Y D b0 G dep (pc + 3) lv (va_rf (some h.1) :: st) h1 r h') : ym_Y D b0 G dep pc lv (.int n :: st) h r h' := by
  unfold ym_na at hv
  by_cases hn : n < 0 ∨ 67108864 < n.toNatClampNeg
  · rw [if_pos hn] at hv
    cases hv
  rw [if_neg hn] at hv
  obtain rfl := Option.some.inj hv
  have m1 : h.1 + 1 ≤ h'.1 := kk.1
  have m2 : h.2.1 + n.toNatClampNeg ≤ h'.2.1 := kk.2.1
  refine ⟨by omega, by omega, fun {p l e R s m args below meth c H locs cells slots ls mc ms} I => ?_⟩
  obtain ⟨⟨hx, hb, hml, hown, hts, hK, -⟩, hR, -, -, j1, j2, j3, j4⟩ := id I
  have q : n.toNatClampNeg ≤ 67108864 := Nat.not_lt.mp fun q => hn (Or.inr q)
  refine W.anew hx hb hown (hts _ hcl) (va_AO.use (hK.2.2.1 _ hao)) rfl hd rfl (fun q => hn (Or.inl q)) (by omega) (by omega) (by omega) fun cA kA comp f1 f2 f3 f4 => ?_
  generalize hH1 : H.push ({ cls := cA, slots := Array.replicate n.toNatClampNeg .null, vm := .none } : Cell) = H1
  have z1 : H1.size = h.1 + 1 := by rw [← hH1, Array.size_push, hR.1]
  have e1 : H1[h.1]? = some (arrV cA n.toNatClampNeg (fun _ => .null)) := by rw [← hH1, ← hR.1, Array.getElem?_push_size, ← arrV_new]
  have o1 : ∀ q : Nat, q < h.1 → H1[q]? = H[q]? := fun q hq => by rw [← hH1, Array.getElem?_push, if_neg (by rw [hR.1]; exact Nat.ne_of_lt hq)]
  obtain ⟨_, _, _, _, _, hc2⟩ := (hK.2.1 t _ ht).2
  obtain rfl := Option.some.inj (f1.symm.trans hc2)
  rw [hR.1]
  exact kk.2.2 (I.push m1 m2 (hR.push ⟨fun q => absurd q h9, fun _ => ⟨(List.getElem?_eq_some_iff.mp ht).1, e1⟩⟩ z1 o1))
theorem ym_aast {a x : Option Nat} {i : Int32} {h1 : ym_H} {t ci : Nat} {q0 : vw_C} (hd : decode G.2.1 pc = .ok (.aastore, 1)) (ht : ym_at[t]? = some (.object q0.1)) (hc : ym_cl[ci]? = some q0) (hci : ci < 1000) (hx0 : x = none ∨ ∃ fs, ym_ob h x ci = some fs) (hv : ym_as h a t i (va_rf x) = some h1) (kk : ym_Y D b0 G dep (pc + 1) lv st h1 r h') : ym_Y D b0 G dep pc lv (va_rf x :: .int i :: va_rf a :: st) h r h' := by
  obtain ⟨a', n, f, rfl, ha, h9, hin, rfl⟩ := ym_as_spec hv
  refine ⟨kk.1, kk.2.1, fun {p l e R s m args below meth c H locs cells slots ls mc ms} I => ?_⟩
  obtain ⟨⟨hx, hb, hml, hown, hts, hK, -⟩, hR, -⟩ := id I
  obtain ⟨hlt, hA, hS0⟩ := hR.2.2 a' (by rw [ha]; exact trivial)
  rw [ha] at hA hS0
  have h0 : b0 ≤ a' := ym_notS2 h9 hS0
  obtain ⟨g1, g2⟩ := hA.2 h9
  have hlt2 : i.toNatClampNeg < n := Nat.not_le.mp fun q => hin (Or.inr q)
  have hi0 : ¬ i < 0 := fun q => hin (Or.inl q)
  rcases hx0 with rfl | ⟨fs, hob⟩
  · refine va_WaastN hx hb g2 ((hK.2.1 t _ ht).1 n f) (fun q => by cases q) (by rw [arrV_size]; exact hin) rfl rfl hd fun H1 e z oq => ?_
    rw [arrV_store] at e
    exact kk.2.2 (I.put h0 (hR.set h0 hlt ⟨fun q => absurd q h9, fun _ => ⟨g1, e⟩⟩ z oq))
  · obtain ⟨x', rfl, hx'⟩ := ym_ob_spec hob
    obtain ⟨-, hAx, -⟩ := hR.2.2 x' (by rw [hx']; exact hci)
    rw [hx'] at hAx
    obtain ⟨r0, k1, cellV, k2, k3, k4, -⟩ := hAx
    have hcls := (hK.1 ci q0 hc).2
    obtain ⟨kA, comp, l1, l2, l3, -⟩ := (hK.2.1 t _ ht).2
    have hcomp : comp = D.1 ci := Option.some.inj (l3.symm.trans hcls.1)
    subst hcomp
    obtain ⟨kC, hkC, -⟩ := hcls.2
    refine W.aast hx hb g2 (fun q h => by cases h) (fun h => by cases h) l1 l2 rfl hkC ⟨hi0, by rw [arrV_size]; exact hlt2⟩ k2 (fun q h => by rw [k4] at h; cases h) (by rw [k3]; exact hkC) (by rw [k3]; exact va_assign hcls) rfl rfl hd fun H1 e z oq => ?_
    rw [arrV_store] at e
    exact kk.2.2 (I.put h0 (hR.set h0 hlt ⟨fun q => absurd q h9, fun _ => ⟨g1, e⟩⟩ z oq))
theorem ym_ldc {ix : Nat} {v : Int32} (hd : decode G.2.1 pc = .ok (.ldc ix, 2)) (hc : Cond.constant G.1.cls ix v ∈ ym_T) (kk : ym_Y D b0 G dep (pc + 2) lv (.int v :: st) h r h') : ym_Y D b0 G dep pc lv st h r h' :=
  ⟨kk.1, kk.2.1, fun I => lv_ldc I.1.1 I.1.2.1 I.1.2.2.2.1 (I.1.2.2.2.2.1 _ hc) hd (kk.2.2 I)⟩
theorem ym_ldc2 {ix : Nat} {v : Int64} (hd : decode G.2.1 pc = .ok (.ldc2_w ix, 3)) (hc : Cond.constantLong G.1.cls ix v ∈ ym_T) (kk : ym_Y D b0 G dep (pc + 3) lv (.long v :: st) h r h') : ym_Y D b0 G dep pc lv st h r h' :=
  ⟨kk.1, kk.2.1, fun I => lv_ldc2 I.1.1 I.1.2.1 I.1.2.2.2.1 (I.1.2.2.2.2.1 _ hc) hd (kk.2.2 I)⟩
end YMH
section YMR
variable {D : ym_D} {b0 : Nat} {G : ym_G} {dep pc : Nat} {lv : List (Nat × Value)} {h : ym_H}
theorem ym_iret {x : Int32} (hd : decode G.2.1 pc = .ok (.ireturn, 1)) (hr : G.2.2.2 = some .int) : ym_Y D b0 G dep pc lv [.int x] h (some (.int x)) h := by
  refine ⟨Nat.le_refl _, Nat.le_refl _, fun {p l e R s m args below meth c H locs cells slots ls mc ms} I => ?_⟩
  obtain ⟨⟨hx, hb, -, -, -, -, hret, hlk, -⟩, hR, -, hq, j1, j2, -⟩ := id I
  obtain rfl : cells = mc := by omega
  obtain rfl : slots = ms := by omega
  exact W.iret hx hb (hret.trans hr) (fun t ht hW => ⟨rfl, by rw [ht]; exact hR⟩) hq hd hlk
theorem ym_zret {x : Int32} {ty : FieldType} (hd : decode G.2.1 pc = .ok (.ireturn, 1)) (hr : G.2.2.2 = some ty) (hn : narrow ty (.int x) = .int x) : ym_Y D b0 G dep pc lv [.int x] h (some (.int x)) h := by
  refine ⟨Nat.le_refl _, Nat.le_refl _, fun {p l e R s m args below meth c H locs cells slots ls mc ms} I => ?_⟩
  obtain ⟨⟨hx, hb, -, -, -, -, hret, hlk, -⟩, hR, -, hq, j1, j2, -⟩ := id I
  obtain rfl : cells = mc := by omega
  obtain rfl : slots = ms := by omega
  exact W.zret hx hb (hret.trans hr) hn (fun t ht hW => ⟨rfl, by rw [ht]; exact hR⟩) hq hd hlk
theorem ym_lret {x : Int64} (hd : decode G.2.1 pc = .ok (.lreturn, 1)) (hr : G.2.2.2 = some .long) : ym_Y D b0 G dep pc lv [.long x] h (some (.long x)) h := by
  refine ⟨Nat.le_refl _, Nat.le_refl _, fun {p l e R s m args below meth c H locs cells slots ls mc ms} I => ?_⟩
  obtain ⟨⟨hx, hb, -, -, -, -, hret, hlk, -⟩, hR, -, hq, j1, j2, -⟩ := id I
  obtain rfl : cells = mc := by omega
  obtain rfl : slots = ms := by omega
  exact W.lret hx hb (hret.trans hr) (fun t ht hW => ⟨rfl, by rw [ht]; exact hR⟩) hq hd hlk
theorem ym_vret (hd : decode G.2.1 pc = .ok (.return_, 1)) (hr : G.2.2.2 = none) : ym_Y D b0 G dep pc lv [] h none h := by
  refine ⟨Nat.le_refl _, Nat.le_refl _, fun {p l e R s m args below meth c H locs cells slots ls mc ms} I => ?_⟩
  obtain ⟨⟨hx, hb, -, -, -, -, hret, hlk, -⟩, hR, -, hq, j1, j2, -⟩ := id I
  obtain rfl : cells = mc := by omega
  obtain rfl : slots = ms := by omega
  exact W.vret hx hb (hret.trans hr) (fun t ht hW => ⟨rfl, by rw [ht]; exact hR⟩) hq hd hlk
theorem ym_aret {x : Option Nat} {ty : FieldType} (hd : decode G.2.1 pc = .ok (.areturn, 1)) (hr : G.2.2.2 = some ty) (hrt : (∃ n, ty = .object n) ∨ ∃ t, ty = .array t) : ym_Y D b0 G dep pc lv [va_rf x] h (some (va_rf x)) h := by
  refine ⟨Nat.le_refl _, Nat.le_refl _, fun {p l e R s m args below meth c H locs cells slots ls mc ms} I => ?_⟩
  obtain ⟨⟨hx, hb, -, -, -, -, hret, hlk, -⟩, hR, -, hq, j1, j2, -⟩ := id I
  obtain rfl : cells = mc := by omega
  obtain rfl : slots = ms := by omega
  exact W.aret hx hb (hret.trans hr) hrt (by cases x with | none => exact Or.inl rfl | some x => exact Or.inr ⟨x, rfl⟩) (fun t ht hW => ⟨rfl, by rw [ht]; exact hR⟩) hq hd hlk
end YMR
