/-! what the document's room is, in rows of numbers; each act as a function -/
abbrev pd : Type := (Nat → Int64) × (Nat → Int64) × (Nat → Int64) × (Nat → Nat → Int64) × (Nat → Nat → Int64) × (Nat → Nat → Int64) × (Nat → Nat → Int64) × (Nat → Nat → Int64) × (Nat → Int32) × (Nat → Int64) × (Nat → Int32) × (Nat → Int64)
def pd.room (z : pd) : Nat → Int64 := z.1
def pd.st (z : pd) : Nat → Int64 := z.2.1
def pd.br (z : pd) : Nat → Int64 := z.2.2.1
def pd.bal (z : pd) : Nat → Nat → Int64 := z.2.2.2.1
def pd.facts (z : pd) : Nat → Nat → Int64 := z.2.2.2.2.1
def pd.book (z : pd) : Nat → Nat → Int64 := z.2.2.2.2.2.1
def pd.lims (z : pd) : Nat → Nat → Int64 := z.2.2.2.2.2.2.1
def pd.sels (z : pd) : Nat → Nat → Int64 := z.2.2.2.2.2.2.2.1
def pd.kind (z : pd) : Nat → Int32 := z.2.2.2.2.2.2.2.2.1
def pd.res (z : pd) : Nat → Int64 := z.2.2.2.2.2.2.2.2.2.1
def pd.bkind (z : pd) : Nat → Int32 := z.2.2.2.2.2.2.2.2.2.2.1
def pd.purse (z : pd) : Nat → Int64 := z.2.2.2.2.2.2.2.2.2.2.2
def up1 (f : Nat → Int64) (p : Nat) (v : Int64) : Nat → Int64 := fun q => if q = p then v else f q
def up2 (f : Nat → Nat → Int64) (l p : Nat) (v : Int64) : Nat → Nat → Int64 := fun m q => if q = p ∧ m = l then v else f m q
def cn (x : Int64) : Nat := x.toNatClampNeg
def pd.zero : pd := ⟨fun _ => 0, fun _ => 0, fun _ => 0, fun _ _ => 0, fun _ _ => 0, fun _ _ => 0, fun _ _ => 0, fun _ _ => 0, fun _ => 0, fun _ => 0, fun _ => 0, fun _ => 0⟩
def pd.nb (D : pd) : Nat := cn (D.room 0)
def pd.nl (D : pd) : Nat := cn (D.room 1)
def pd.nE (D : pd) (l : Nat) : Nat := cn (D.book l 0)
def pd.nL (D : pd) (l : Nat) : Nat := cn (D.lims l 0)
def pd.nS (D : pd) (l : Nat) : Nat := cn (D.sels l 0)
def pd.putR (D : pd) (p : Nat) (v : Int64) : pd := (((up1 D.room p v), D.st, D.br, D.bal, D.facts, D.book, D.lims, D.sels, D.kind, D.res, D.bkind, D.purse) : pd)
def pd.putS (D : pd) (p : Nat) (v : Int64) : pd := ((D.room, (up1 D.st p v), D.br, D.bal, D.facts, D.book, D.lims, D.sels, D.kind, D.res, D.bkind, D.purse) : pd)
def pd.putT (D : pd) (p : Nat) (v : Int64) : pd := ((D.room, D.st, (up1 D.br p v), D.bal, D.facts, D.book, D.lims, D.sels, D.kind, D.res, D.bkind, D.purse) : pd)
def pd.putB (D : pd) (b p : Nat) (v : Int64) : pd := ((D.room, D.st, D.br, (up2 D.bal b p v), D.facts, D.book, D.lims, D.sels, D.kind, D.res, D.bkind, D.purse) : pd)
def pd.putF (D : pd) (l p : Nat) (v : Int64) : pd := ((D.room, D.st, D.br, D.bal, (up2 D.facts l p v), D.book, D.lims, D.sels, D.kind, D.res, D.bkind, D.purse) : pd)
def pd.putE (D : pd) (l p : Nat) (v : Int64) : pd := ((D.room, D.st, D.br, D.bal, D.facts, (up2 D.book l p v), D.lims, D.sels, D.kind, D.res, D.bkind, D.purse) : pd)
def pd.putL (D : pd) (l p : Nat) (v : Int64) : pd := ((D.room, D.st, D.br, D.bal, D.facts, D.book, (up2 D.lims l p v), D.sels, D.kind, D.res, D.bkind, D.purse) : pd)
def pd.putQ (D : pd) (l p : Nat) (v : Int64) : pd := ((D.room, D.st, D.br, D.bal, D.facts, D.book, D.lims, (up2 D.sels l p v), D.kind, D.res, D.bkind, D.purse) : pd)
abbrev sr : Type := Int64 × pd × List Int32
abbrev sp_sumOk (x : Int64) : Prop := ¬ x < 1 ∧ ¬ 1000000000000 < x
abbrev sp_monOk (x : Int64) : Prop := ¬ x < 0 ∧ ¬ 1000000000000 < x
abbrev sp_rateOk (x : Int32) : Prop := ¬ x < 0 ∧ ¬ 10000 < x
def sp_noLot (D : pd) (a : Int32) : Int32 := if a < 0 then 3 else if a < 400 then (if a < nI D.nl then 0 else 2) else 3
def sp_noBid (D : pd) (a : Int32) : Int32 := if a < 0 then 3 else if a < 200 then (if a < nI D.nb then 0 else 2) else 3
def ix (a : Int32) : Nat := a.toNatClampNeg
/-- the first of n rows from i on that holds b -/
def fr (g : Nat → Int64) (b : Int64) : Nat → Nat → Option Nat
  | 0, _ => none
  | n + 1, i => if g i = b then some i else fr g b n (i + 1)
def aft (T : Nat → Int64) (x : Int64) : Nat → Int64
  | 0 => 1
  | k + 1 => if T (1 + 2 * k) ≤ x then T (2 + 2 * k) else aft T x k
def sp_after (T : Nat → Int64) (x : Int64) : Int64 := x + aft T x (cn (T 0))
def prT (T : Nat → Int64) (x : Int64) (n k : Nat) : Int64 := if k + 1 < n ∧ T (1 + 2 * (k + 1)) < x then T (1 + 2 * (k + 1)) else x
def prm (T : Nat → Int64) (x : Int64) (n : Nat) : Nat → Int64
  | 0 => 0
  | k + 1 => if T (1 + 2 * k) < prT T x n k then prm T x n k + (prT T x n k - T (1 + 2 * k)) * T (2 + 2 * k) else prm T x n k
def sp_even (x : Int64) : Int64 := if 10000 < 2 * (x - x / 10000 * 10000) then x / 10000 + 1 else if 2 * (x - x / 10000 * 10000) = 10000 ∧ x / 10000 - x / 10000 / 2 * 2 = 1 then x / 10000 + 1 else x / 10000
def sp_stand (D : pd) (l : Nat) : Int32 := if D.kind l = 4 then (if D.facts l 4 = 0 then -1 else (D.facts l 5).toInt32) else if D.nE l = 0 then -1 else (D.book l (1 + 2 * (D.nE l - 1))).toInt32
def sp_ssum (D : pd) (l : Nat) : Int64 := if D.kind l = 4 then (if D.facts l 4 = 0 then 0 else D.facts l 6) else if D.nE l = 0 then 0 else D.book l (2 + 2 * (D.nE l - 1))
def sp_enter (D : pd) (l : Nat) (b : Int32) (v : Int64) : pd := ((D.putE l 0 (Int64.ofNat (D.nE l + 1))).putE l (1 + 2 * D.nE l) b.toInt64).putE l (2 + 2 * D.nE l) v
abbrev sp_ahead (s : Int64) (n : Int64) (s' : Int64) (n' : Int64) : Prop := s' < s ∨ (s = s' ∧ n < n')
abbrev pp : Type := (Option Nat) × Int64 × Int64 × Int64 × Int64
def pp.at_ (z : pp) : Option Nat := z.1
def pp.first (z : pp) : Int64 := z.2.1
def pp.best (z : pp) : Int64 := z.2.2.1
def pp.second (z : pp) : Int64 := z.2.2.2.1
def pp.next (z : pp) : Int64 := z.2.2.2.2
def ppStep (x : Nat → Int64) (start : Int64) (k : Nat) (q : pp) : pp :=
  if x (2 + 3 * k) < start then q
  else if q.first = 0 ∨ sp_ahead (x (2 + 3 * k)) (x (3 + 3 * k)) q.best q.first then ⟨some k, x (3 + 3 * k), x (2 + 3 * k), q.first, q.best⟩
  else if q.second = 0 ∨ sp_ahead (x (2 + 3 * k)) (x (3 + 3 * k)) q.next q.second then ⟨q.at_, q.first, q.best, x (3 + 3 * k), x (2 + 3 * k)⟩
  else q
def ppAll (x : Nat → Int64) (start bn bs : Int64) : Nat → pp
  | 0 => ⟨none, bn, if bn = 0 then 0 else bs, 0, 0⟩
  | k + 1 => ppStep x start k (ppAll x start bn bs k)
def sp_pp (D : pd) (l : Nat) : pp := ppAll (D.lims l) (D.facts l 0) (D.facts l 8) (D.facts l 7) (D.nL l)
def sp_psum (D : pd) (l : Nat) (q : pp) : Int64 :=
  let s0 := if q.second = 0 then D.facts l 0 else sp_after D.st q.next
  let s1 := if s0 < D.res l then D.res l else s0
  if q.best < s1 then q.best else s1
def sp_papers (D : pd) (l : Nat) : pd :=
  if D.kind l = 4 ∨ D.kind l = 5 then D else
  let q := sp_pp D l
  let D1 := (D.putF l 9 q.first).putF l 10 q.second
  match q.at_ with
  | none => D1
  | some k =>
    if sp_stand D1 l = (D.lims l (1 + 3 * k)).toInt32 ∧ ¬ sp_ssum D1 l < sp_psum D l q then D1
    else sp_enter D1 l (D.lims l (1 + 3 * k)).toInt32 (sp_psum D l q)
def sp_askC (D : pd) (l : Nat) : List Int32 := if D.kind l = 5 then [3] else if D.kind l = 4 then [2, 1] else [1]
def sp_ask (D : pd) (l : Nat) : Int64 := if D.kind l = 5 then D.facts l 3 else if D.kind l = 4 then D.facts l 0 else if sp_stand D l = -1 then D.facts l 0 else sp_after D.st (sp_ssum D l)
def sp_pc (D : pd) (l : Nat) : Int64 := if D.kind l = 3 then 12 else if D.kind l = 2 then 2 else 1
def sp_pcC (D : pd) (l : Nat) : List Int32 := if D.kind l = 3 then [6, 5] else if D.kind l = 2 then [5] else [4]
def sp_limRow (D : pd) (l : Nat) (b : Int32) : Option Nat := fr (fun k => D.lims l (1 + 3 * k)) b.toInt64 (D.nL l) 0
/-- what a bidder's limits on the first k lots may come to, and what runs for it -/
def sp_wr (D : pd) (b : Int32) : Nat → Int64 × List Int32
  | 0 => (0, [])
  | k + 1 => if D.facts k 2 = 0 ∨ D.facts k 2 = 1 then
      (match sp_limRow D k b with
        | some r => ((sp_wr D b k).1 + D.lims k (2 + 3 * r) * sp_pc D k, (sp_wr D b k).2 ++ sp_pcC D k)
        | none => sp_wr D b k)
    else sp_wr D b k
abbrev sp_may (D : pd) (b l : Nat) (x : Int64) : Prop :=
  if D.bkind b = 4 then x < D.res l else if D.bkind b = 3 then x * sp_pc D l + (sp_wr D (nI b) D.nl).1 ≤ D.purse b else True
def sp_mayC (D : pd) (b l : Nat) : List Int32 :=
  if D.bkind b = 4 then [8] else if D.bkind b = 3 then [10, 9] ++ sp_pcC D l ++ (sp_wr D (nI b) D.nl).2 else if D.bkind b = 2 then [9] else [7]
def sp_notOpen (D : pd) (l : Nat) : Int32 := if D.facts l 2 = 0 then 6 else if D.facts l 2 = 1 then 0 else 9
abbrev sp_sold (D : pd) (l : Nat) : Prop := if D.kind l = 5 then sp_stand D l ≠ -1 else sp_stand D l ≠ -1 ∧ ¬ sp_ssum D l < D.res l
def sp_soldC (D : pd) (l : Nat) : List Int32 := if D.kind l = 5 then [13] else if D.kind l = 4 then [12, 11] else [11]
def sp_brings (D : pd) (l : Nat) : Int64 := if sp_sold D l then sp_ssum D l * sp_pc D l else 0
def sp_bringsC (D : pd) (l : Nat) : List Int32 := if sp_sold D l then sp_soldC D l ++ sp_pcC D l else sp_soldC D l
/-! bookings -/
def sp_addB (D : pd) (b : Int32) (v : Int64) : pd := if sp_noBid D b = 0 then D.putB (ix b) 0 (D.bal (ix b) 0 + v) else D
def sp_share (D : pd) (l : Nat) (n : Nat) (x : Int64) : Nat → pd
  | 0 => D
  | k + 1 => sp_addB (sp_share D l n x k) (D.sels l (1 + k)).toInt32 (if Int64.ofNat k < x - x / Int64.ofNat n * Int64.ofNat n then x / Int64.ofNat n + 1 else x / Int64.ofNat n)
def sp_premium (D : pd) (x : Int64) : Int64 := sp_even (prm D.br x (cn (D.br 0)) (cn (D.br 0)))
def sp_tax (D : pd) (l : Nat) (x : Int64) : Int64 := sp_even ((x + sp_premium D x) * D.room (5 + ix (D.kind l)))
def sp_cutOf (D : pd) (l : Nat) (x : Int64) : Int64 := sp_even (x * D.facts l 1)
def sp_book (D : pd) (l : Nat) (x : Int64) : pd :=
  let D1 := sp_addB D (sp_stand D l) (-(x + sp_premium D x + sp_tax D l x))
  let D2 := D1.putR 2 (D1.room 2 + (sp_premium D x + sp_cutOf D l x))
  let D3 := D2.putR 3 (D2.room 3 + sp_tax D l x)
  sp_share D3 l (D.nS l) (x - sp_cutOf D l x) (D.nS l)
def sp_finish (D : pd) (l : Nat) (x : Int64) : pd := if 0 < x then sp_book (D.putF l 2 2) l x else D.putF l 2 3
/-! sealed sums: the winner's row, and the next sum -/
def sp_best (g : Nat → Int64) : Nat → Nat × Int64
  | 0 => (0, 0)
  | k + 1 =>
    let q := sp_best g k
    if g q.1 < g (k + 1) then (k + 1, if g q.1 < q.2 then q.2 else g q.1)
    else (q.1, if g (k + 1) < q.2 then q.2 else g (k + 1))
def mx (a b : Int64) : Int64 := if a < b then b else a
def sp_win (D : pd) (l : Nat) : pd :=
  let q := sp_best (fun k => D.book l (2 + 2 * k)) (D.nE l - 1)
  if D.book l (2 + 2 * q.1) < D.res l then ((D.putF l 4 1).putF l 5 (-1)).putF l 6 0
  else ((D.putF l 4 1).putF l 5 (D.book l (1 + 2 * q.1))).putF l 6 (mx (mx (D.facts l 0) (D.res l)) q.2)
/-! the acts -/
def sp_newB (D : pd) (k : Int32) (x : Int64) : pd := (((up1 D.room 0 (Int64.ofNat (D.nb + 1))), D.st, D.br, (fun b q => if b = D.nb then 0 else D.bal b q), D.facts, D.book, D.lims, D.sels, D.kind, D.res, (fun b => if b = D.nb then k else D.bkind b), (fun b => if b = D.nb then x else D.purse b)) : pd)
def sp_newL (D : pd) (k : Int32) (x y : Int64) : pd := (((up1 D.room 1 (Int64.ofNat (D.nl + 1))), D.st, D.br, D.bal, (fun l q => if l = D.nl then (if q = 0 then x else if q = 11 then -1 else 0) else D.facts l q), (fun l q => if l = D.nl then 0 else D.book l q), (fun l q => if l = D.nl then 0 else D.lims l q), (fun l q => if l = D.nl then 0 else D.sels l q), (fun l => if l = D.nl then k else D.kind l), (fun l => if l = D.nl then y else D.res l), D.bkind, D.purse) : pd)
def sp_bidder (D : pd) (k : Int32) (x : Int64) : sr :=
  if k < 1 ∨ 4 < k ∨ (k = 3 ∧ ¬ sp_monOk x) then (-1, D, [])
  else if D.nb = 200 then (-12, D, [])
  else (Int64.ofNat D.nb, sp_newB D k x, [])
def sp_lot (D : pd) (k : Int32) (x y : Int64) : sr :=
  if k < 1 ∨ 5 < k ∨ ¬ sp_sumOk x ∨ ¬ sp_monOk y ∨ (k = 5 ∧ x < y) then (-1, D, [])
  else if D.nl = 400 then (-12, D, [])
  else (Int64.ofNat D.nl, sp_newL D k x y, [])
def sp_withL (D : pd) (a : Int32) (f : Nat → sr) : sr := if sp_noLot D a = 0 then f (ix a) else ((-(sp_noLot D a)).toInt64, D, [])
def sp_withB (D : pd) (a : Int32) (f : Nat → sr) : sr := if sp_noBid D a = 0 then f (ix a) else ((-(sp_noBid D a)).toInt64, D, [])
def sp_open' (D : pd) (l : Nat) (f : sr) : sr := if sp_notOpen D l = 0 then f else ((-(sp_notOpen D l)).toInt64, D, [])
def sp_seller (D : pd) (a b : Int32) : sr := sp_withL D a fun l => sp_withB D b fun _ =>
  if D.facts l 2 ≠ 0 then (-9, D, [])
  else if fr (fun k => D.sels l (1 + k)) b.toInt64 (D.nS l) 0 ≠ none then (-8, D, [])
  else if D.nS l = 4 then (-12, D, [])
  else (Int64.ofNat (D.nS l + 1), (D.putQ l 0 (Int64.ofNat (D.nS l + 1))).putQ l (1 + D.nS l) b.toInt64, [])
def sp_cut (D : pd) (a r : Int32) : sr := if ¬ sp_rateOk r then (-1, D, []) else sp_withL D a fun l =>
  if D.facts l 2 ≠ 0 then (-9, D, []) else (D.facts l 1, D.putF l 1 r.toInt64, [])
def sp_step (D : pd) (x y : Int64) : sr := if ¬ sp_monOk x ∨ ¬ sp_sumOk y then (-1, D, [])
  else if cn (D.st 0) = 20 then (-12, D, [])
  else if cn (D.st 0) ≠ 0 ∧ ¬ D.st (1 + 2 * (cn (D.st 0) - 1)) < x then (-10, D, [])
  else (Int64.ofNat (cn (D.st 0) + 1), ((D.putS 0 (Int64.ofNat (cn (D.st 0) + 1))).putS (1 + 2 * cn (D.st 0)) x).putS (2 + 2 * cn (D.st 0)) y, [])
def sp_prem (D : pd) (x : Int64) (r : Int32) : sr := if ¬ sp_monOk x ∨ ¬ sp_rateOk r then (-1, D, [])
  else if cn (D.br 0) = 20 then (-12, D, [])
  else if cn (D.br 0) ≠ 0 ∧ ¬ D.br (1 + 2 * (cn (D.br 0) - 1)) < x then (-10, D, [])
  else (Int64.ofNat (cn (D.br 0) + 1), ((D.putT 0 (Int64.ofNat (cn (D.br 0) + 1))).putT (1 + 2 * cn (D.br 0)) x).putT (2 + 2 * cn (D.br 0)) r.toInt64, [])
def sp_taxA (D : pd) (k r : Int32) : sr := if k < 1 ∨ 5 < k ∨ ¬ sp_rateOk r then (-1, D, []) else (D.room (5 + ix k), D.putR (5 + ix k) r.toInt64, [])
def sp_call (D : pd) (a : Int32) : sr := sp_withL D a fun l => if D.facts l 2 ≠ 0 then (-9, D, []) else
  let D1 := if D.kind l = 5 then (D.putF l 2 1).putF l 3 (D.facts l 0) else D.putF l 2 1
  let D2 := sp_papers D1 l
  (D2.book l 0, D2, [])
abbrev sp_has (D : pd) (l : Nat) (b : Int32) : Prop := if D.kind l = 4 then fr (fun k => D.book l (1 + 2 * k)) b.toInt64 (D.nE l) 0 ≠ none else sp_stand D l = b
def sp_bidIn (D : pd) (n : Int32) (l : Nat) (b : Int32) (x : Int64) : pd := sp_papers (((sp_enter D l b x).putF l 7 x).putF l 8 n.toInt64) l
def sp_bid (D : pd) (n a b : Int32) (x : Int64) : sr := if ¬ sp_sumOk x then (-1, D, []) else sp_withL D a fun l =>
  if D.kind l = 5 then (-4, D, []) else sp_withB D b fun c =>
  if D.bkind c = 2 ∨ D.bkind c = 3 then (-4, D, []) else sp_open' D l
  (if D.facts l 4 ≠ 0 then (-8, D, [])
  else if sp_has D l b then (-13, D, [])
  else if x < sp_ask D l then (-10, D, sp_askC D l)
  else if ¬ sp_may D c l x then (-11, D, sp_askC D l ++ sp_mayC D c l)
  else if 299 ≤ D.nE l then (-12, D, sp_askC D l ++ sp_mayC D c l)
  else (n.toInt64, sp_bidIn D n l b x, sp_askC D l ++ sp_mayC D c l))
def sp_limIn (D : pd) (n : Int32) (l : Nat) (b : Int32) (x : Int64) : pd :=
  let D1 := (((D.putL l 0 (Int64.ofNat (D.nL l + 1))).putL l (1 + 3 * D.nL l) b.toInt64).putL l (2 + 3 * D.nL l) x).putL l (3 + 3 * D.nL l) n.toInt64
  if D.facts l 2 = 1 then sp_papers D1 l else D1
def sp_limit (D : pd) (n a b : Int32) (x : Int64) : sr := if ¬ sp_sumOk x then (-1, D, []) else sp_withL D a fun l =>
  if D.kind l = 4 ∨ D.kind l = 5 then (-4, D, []) else sp_withB D b fun c =>
  if ¬ (D.bkind c = 2 ∨ D.bkind c = 3) then (-4, D, [])
  else if ¬ (D.facts l 2 = 0 ∨ D.facts l 2 = 1) then (-9, D, [])
  else if sp_limRow D l b ≠ none then (-13, D, [])
  else if ¬ sp_may D c l x then (-11, D, sp_mayC D c l)
  else if D.nL l = 40 ∨ 300 ≤ D.nE l then (-12, D, sp_mayC D c l)
  else (n.toInt64, sp_limIn D n l b x, sp_mayC D c l)
def sp_askA (D : pd) (a : Int32) : sr := sp_withL D a fun l => sp_open' D l (sp_ask D l, D, sp_askC D l)
def sp_openA (D : pd) (a : Int32) : sr := sp_withL D a fun l => if D.kind l ≠ 4 then (-4, D, []) else sp_open' D l
  (if D.facts l 4 ≠ 0 then (-8, D, []) else if D.nE l = 0 then (-14, D, []) else ((sp_win D l).facts l 6, sp_win D l, []))
def sp_tickV (D : pd) (l : Nat) (x : Int64) : Int64 := if D.facts l 3 - x < mx 1 (D.res l) then mx 1 (D.res l) else D.facts l 3 - x
def sp_tick (D : pd) (a : Int32) (x : Int64) : sr := if ¬ sp_sumOk x then (-1, D, []) else sp_withL D a fun l =>
  if D.kind l ≠ 5 then (-4, D, []) else sp_open' D l
  (if sp_stand D l ≠ -1 then (-8, D, [])
  else if ¬ mx 1 (D.res l) < D.facts l 3 then (-10, D, [])
  else (sp_tickV D l x, D.putF l 3 (sp_tickV D l x), []))
def sp_take (D : pd) (a b : Int32) : sr := sp_withL D a fun l => if D.kind l ≠ 5 then (-4, D, []) else sp_withB D b fun c =>
  if D.bkind c ≠ 1 then (-4, D, []) else sp_open' D l
  (if sp_stand D l ≠ -1 then (-8, D, []) else (D.facts l 3, sp_enter D l b (D.facts l 3), []))
def sp_hammer (D : pd) (a : Int32) : sr := sp_withL D a fun l => sp_open' D l
  (if D.facts l 11 ≠ -1 then (-8, D, [])
  else if sp_sold D l ∧ D.nS l = 0 then (-5, D, sp_bringsC D l)
  else (sp_brings D l, sp_finish D l (sp_brings D l), sp_bringsC D l))
def sp_join (D : pd) (a b c : Int32) : sr := sp_withL D a fun w => sp_withL D b fun p => sp_withL D c fun q =>
  if w = p ∨ w = q ∨ p = q then (-13, D, [])
  else if (D.kind w = 4 ∨ D.kind w = 5) ∨ (D.kind p = 4 ∨ D.kind p = 5) ∨ (D.kind q = 4 ∨ D.kind q = 5) then (-4, D, [])
  else if D.facts w 2 ≠ 0 ∨ D.facts p 2 ≠ 0 ∨ D.facts q 2 ≠ 0 then (-9, D, [])
  else if D.facts w 11 ≠ -1 ∨ D.facts p 11 ≠ -1 ∨ D.facts q 11 ≠ -1 then (-8, D, [])
  else (1, ((((D.putF w 11 a.toInt64).putF w 12 b.toInt64).putF w 13 c.toInt64).putF p 11 a.toInt64).putF q 11 a.toInt64, [])
def sp_settleIn (D : pd) (w p q : Nat) : sr :=
  let x := sp_brings D w
  let y := sp_brings D p
  let z := sp_brings D q
  let c := sp_bringsC D w ++ sp_bringsC D p ++ sp_bringsC D q
  if y + z < x then
    (if D.nS w = 0 then (-5, D, c ++ sp_pcC D w)
    else (x, ((sp_finish D w x).putF p 2 3).putF q 2 3, c ++ sp_pcC D w))
  else
    (if y ≠ 0 ∧ D.nS p = 0 then (-5, D, c ++ sp_pcC D p)
    else if z ≠ 0 ∧ D.nS q = 0 then (-5, D, c ++ (if y ≠ 0 then sp_pcC D p else []) ++ sp_pcC D q)
    else (y + z, sp_finish (sp_finish (D.putF w 2 3) p y) q z, c ++ (if y ≠ 0 then sp_pcC D p else []) ++ (if z ≠ 0 then sp_pcC D q else [])))
def sp_settle (D : pd) (a : Int32) : sr := sp_withL D a fun w =>
  if D.facts w 11 ≠ a.toInt64 then (-14, D, [])
  else
    let p := ix (D.facts w 12).toInt32
    let q := ix (D.facts w 13).toInt32
    sp_open' D w (sp_open' D p (sp_open' D q (sp_settleIn D w p q)))
def sp_part (D : pd) (w : Int32) : pd := if sp_noLot D w = 0 then
    (((D.putF (ix w) 11 (-1)).putF (ix (D.facts (ix w) 12).toInt32) 11 (-1)).putF (ix (D.facts (ix w) 13).toInt32) 11 (-1)) else D
def sp_zero (D : pd) (l : Nat) : Nat → pd
  | 0 => D
  | k + 1 => (sp_zero D l k).putF l (2 + k) 0
def sp_renew (D : pd) (l : Nat) (x : Int64) : pd := ((sp_zero (D.putF l 0 x) l 9).putE l 0 0).putL l 0 0
def sp_reoffer (D : pd) (a : Int32) (x : Int64) : sr := if ¬ sp_sumOk x then (-1, D, []) else sp_withL D a fun l =>
  if D.facts l 2 ≠ 3 then (-9, D, [])
  else if D.kind l = 5 ∧ x < D.res l then (-10, D, [])
  else (1, sp_renew (sp_part D (D.facts l 11).toInt32) l x, [])
def sp_pay (D : pd) (b : Int32) (x : Int64) : sr := if ¬ sp_sumOk x then (-1, D, []) else sp_withB D b fun c =>
  if 1000000000000000 < D.bal c 0 + x then (-11, D, [])
  else (x, (D.putB c 0 (D.bal c 0 + x)).putR 4 (D.room 4 + -x), [])
def sp_payOut (D : pd) (b : Int32) (x : Int64) : sr := if ¬ sp_sumOk x then (-1, D, []) else sp_withB D b fun c =>
  if D.bal c 0 < x then (-10, D, [])
  else (x, (D.putB c 0 (D.bal c 0 + -x)).putR 4 (D.room 4 + x), [])
def sp_at (D : pd) (a i : Int32) (col : Nat) : sr := sp_withL D a fun l =>
  if D.facts l 2 = 0 then (-6, D, [])
  else if D.kind l = 4 ∧ D.facts l 2 = 1 ∧ D.facts l 4 = 0 then (-7, D, [])
  else if i < 0 ∨ nI (D.nE l) ≤ i then (-3, D, [])
  else (D.book l (1 + 2 * ix i + col), D, [])
/-- an act that is kept, as the reference keeps it: what, one, two, three, sum, other, number -/
abbrev pk : Type := Int32 × Int32 × Int32 × Int32 × Int64 × Int64 × Int32
def pk.w (z : pk) : Int32 := z.1
def pk.o (z : pk) : Int32 := z.2.1
def pk.t (z : pk) : Int32 := z.2.2.1
def pk.h (z : pk) : Int32 := z.2.2.2.1
def pk.x (z : pk) : Int64 := z.2.2.2.2.1
def pk.y (z : pk) : Int64 := z.2.2.2.2.2.1
def pk.n (z : pk) : Int32 := z.2.2.2.2.2.2
def sp_do (a : pk) (D : pd) : sr :=
  if a.w = 1 then sp_bidder D a.o a.x else if a.w = 2 then sp_lot D a.o a.x a.y else if a.w = 3 then sp_seller D a.o a.t
  else if a.w = 4 then sp_cut D a.o a.t else if a.w = 5 then sp_step D a.x a.y else if a.w = 6 then sp_prem D a.x a.o
  else if a.w = 7 then sp_taxA D a.o a.t else if a.w = 8 then sp_call D a.o else if a.w = 9 then sp_bid D a.n a.o a.t a.x
  else if a.w = 10 then sp_limit D a.n a.o a.t a.x else if a.w = 11 then sp_openA D a.o else if a.w = 12 then sp_tick D a.o a.x
  else if a.w = 13 then sp_take D a.o a.t else if a.w = 14 then sp_hammer D a.o else if a.w = 15 then sp_join D a.o a.t a.h
  else if a.w = 16 then sp_settle D a.o else if a.w = 17 then sp_reoffer D a.o a.x else if a.w = 18 then sp_pay D a.o a.x
  else if a.w = 19 then sp_payOut D a.o a.x else if a.w = 20 then sp_askA D a.o else if a.w = 21 then sp_at D a.o a.t 0 else sp_at D a.o a.t 1
def sp_run : List pk → pd
  | [] => pd.zero
  | a :: L => (sp_do a (sp_run L)).2.1
