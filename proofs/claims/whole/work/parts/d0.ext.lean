/-! a heap with a block of new things at its end -/
def ext (h : ym_H) (m : Nat) (L : List ym_E) (k : Nat) : ym_H := (h.1 + m, h.2.1 + k, fun q => if q < h.1 then h.2.2 q else (L[q - h.1]?).getD (h.2.2 q))
section EX
variable {h : ym_H} {m k c : Nat} {L : List ym_E} {e : ym_E}
theorem ext_0 : ext h 0 [] 0 = h := by
  refine Prod.ext rfl (Prod.ext rfl ?_)
  funext q
  show (if q < h.1 then h.2.2 q else (([] : List ym_E)[q - h.1]?).getD (h.2.2 q)) = h.2.2 q
  split <;> rfl
theorem ext_1 : (ext h m L k).1 = h.1 + m := rfl
theorem ext_old {q : Nat} (hq : q < h.1) : (ext h m L k).2.2 q = h.2.2 q := if_pos hq
theorem ext_get {i : Nat} (hi : L[i]? = some e) : (ext h m L k).2.2 (h.1 + i) = e := by
  show (if h.1 + i < h.1 then _ else (L[h.1 + i - h.1]?).getD _) = e
  rw [if_neg (by omega), show h.1 + i - h.1 = i from by omega, hi]
  rfl
theorem ext_new (hm : L.length = m) : ym_new (ext h m L k) c e = ext h (m + 1) (L ++ [e]) (k + c) := by
  refine Prod.ext ?_ (Prod.ext ?_ ?_)
  · show h.1 + m + 1 = h.1 + (m + 1)
    omega
  · show h.2.1 + k + c = h.2.1 + (k + c)
    omega
  · funext q
    show (if q = h.1 + m then e else if q < h.1 then h.2.2 q else (L[q - h.1]?).getD (h.2.2 q)) = if q < h.1 then h.2.2 q else ((L ++ [e])[q - h.1]?).getD (h.2.2 q)
    by_cases c1 : q < h.1
    · rw [if_neg (by omega), if_pos c1, if_pos c1]
    · rw [if_neg c1, if_neg c1]
      by_cases c2 : q = h.1 + m
      · rw [if_pos c2, List.getElem?_append_right (by omega), show q - h.1 - L.length = 0 from by omega]
        rfl
      · rw [if_neg c2]
        by_cases c3 : q - h.1 < m
        · rw [List.getElem?_append_left (by omega)]
        · rw [List.getElem?_eq_none (by omega), List.getElem?_eq_none (by rw [List.length_append]; show L.length + 1 ≤ _; omega)]
theorem ext_set {i : Nat} (hi : i < L.length) : ym_set (ext h m L k) (h.1 + i) e = ext h m (L.set i e) k := by
  refine Prod.ext rfl (Prod.ext rfl ?_)
  funext q
  show (if q = h.1 + i then e else if q < h.1 then h.2.2 q else (L[q - h.1]?).getD (h.2.2 q)) = if q < h.1 then h.2.2 q else ((L.set i e)[q - h.1]?).getD (h.2.2 q)
  by_cases c1 : q < h.1
  · rw [if_neg (by omega), if_pos c1, if_pos c1]
  · rw [if_neg c1, if_neg c1]
    by_cases c2 : q = h.1 + i
    · rw [if_pos c2, show q - h.1 = i from by omega, List.getElem?_set_self hi]
      rfl
    · rw [if_neg c2, List.getElem?_set_ne (by omega)]
theorem ext_nO (hm : L.length = m) : ym_nO (ext h m L k) c e = some (ext h (m + 1) (L ++ [e]) (k + c)) := by
  unfold ym_nO
  rw [ext_new hm]
theorem ext_na {t n : Nat} {v : Value} {z : Int32} (hz : z = nI n) (hn : n ≤ 67108864) (hm : L.length = m) : ym_na (ext h m L k) t v z = some (ext h (m + 1) (L ++ [.inl (t, n, fun _ => v)]) (k + n)) := by
  rw [hz, na_eq hn, ext_new hm]
theorem ext_ob {i ci : Nat} {fs : List Value} (hi : L[i]? = some (.inr (ci, fs))) : ym_ob (ext h m L k) (some (h.1 + i)) ci = some fs := by
  unfold ym_ob
  dsimp only
  rw [ext_get hi]
  dsimp only
  rw [if_pos rfl]
theorem ext_pf {i ci f : Nat} {fs : List Value} {v : Value} (hi : L[i]? = some (.inr (ci, fs))) (hf : f < fs.length) : ym_pf (ext h m L k) (some (h.1 + i)) ci f v = some (ext h m (L.set i (.inr (ci, fs.set f v))) k) := by
  unfold ym_pf
  rw [ext_ob hi, Option.bind_some, if_pos hf]
  show some (ym_set (ext h m L k) (h.1 + i) _) = _
  rw [ext_set (by
    rcases Nat.lt_or_ge i L.length with z | z
    · exact z
    · rw [List.getElem?_eq_none z] at hi
      exact Option.noConfusion rfl (heq_of_eq hi))]
theorem ext_gR {i ci f a : Nat} {fs : List Value} (hi : L[i]? = some (.inr (ci, fs))) (hf : fs[f]? = some (.ref a)) : ym_gR (ext h m L k) (some (h.1 + i)) ci f = some (some a) := by
  unfold ym_gR ym_gf
  rw [ext_ob hi, Option.bind_some, hf, Option.bind_some]
  rfl
end EX
