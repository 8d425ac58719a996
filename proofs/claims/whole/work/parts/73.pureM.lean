/-! THE REFERENCE'S MACHINE, pure: boxes are numbered as they are made, and none is given back -/
abbrev RSt := (Option Nat × Int64 × List TD × List Int64) × (List Nat × Nat × Option Nat) × (List Int64 × List (Nat × List Nat) × List (Int64 × Int64) × Nat × List Int64) × (List Int32 × List Int32 × Nat × Nat × Nat × Int64 × Nat)
abbrev ESt := (List Nat × Nat × Option Nat) × (List Int64 × List (Nat × List Nat) × List (Int64 × Int64) × Nat × List Int64)
/-- the box of a name's node -/
def Bxo (G : PG) (n : Nat) (e : List Nat × Nat × Option Nat) (ps : List (Nat × List Nat)) (b : Nat) : Prop :=
  (G.1 26 n = 1 ∧ ∃ s, s < 100000 ∧ G.1 27 n = nI s ∧ e.1[e.2.1 + s]? = some (b + 2)) ∨
  (G.1 26 n = 2 ∧ ∃ j p L ks, j < 100000 ∧ G.1 27 n = nI j ∧ e.2.2 = some p ∧ ps[p]? = some (L, ks) ∧ ks[j]? = some b)
def Rdv (G : PG) (n : Nat) (e : List Nat × Nat × Option Nat) (bx : List Int64) (ps : List (Nat × List Nat)) (gr : List Int64) (v : Int64) : Prop :=
  (∃ b, Bxo G n e ps b ∧ bx[b]? = some v) ∨ (G.1 26 n = 3 ∧ ∃ g, g < 100 ∧ G.1 27 n = nI g ∧ gr[g]? = some v) ∨ (G.1 26 n = 4 ∧ ∃ i, i < 20 ∧ G.1 27 n = nI (i + 11) ∧ v = vof 8 (nI (i + 11)))
def chs (k : Nat) (l : List Nat) (td : List TD) : List TD := match l with
  | _ :: b :: _ => (k, nI b, 0) :: td
  | _ => td
/-- the boxes that a new procedure keeps -/
def Kpt (G : PG) (M : Nat) (e : List Nat × Nat × Option Nat) (ps : List (Nat × List Nat)) (ks : List Nat) : Prop := ks.length = pFr G M ∧ ∀ j, j < pFr G M → ∃ b, ks[j]? = some b ∧
  ((G.1 38 (256 * M + j) = 1 ∧ ∃ s, s < 100000 ∧ G.1 39 (256 * M + j) = nI s ∧ e.1[e.2.1 + s]? = some (b + 2)) ∨
   (G.1 38 (256 * M + j) = 2 ∧ ∃ i p L k, i < 100000 ∧ G.1 39 (256 * M + j) = nI i ∧ e.2.2 = some p ∧ ps[p]? = some (L, k) ∧ k[i]? = some b))
/-- slots from P on get new boxes -/
def nsl (sl : List Nat) (P b : Nat) : Nat → List Nat
  | 0 => sl
  | k + 1 => (nsl sl P b k).set (P + k) (b + k + 2)
abbrev QSt := List (Int64 × Int64) × Nat × List Int32 × List Int32
def Prl (i : Nat) (x y : Int64) : QSt → Int64 → QSt → Prop
  | (pa, ce, inp, out), v, z =>
    (i = 0 ∧ ∃ a u, x = vof 6 (nI a) ∧ a < 1000000 ∧ pa[a]? = some (v, u) ∧ z = (pa, ce, inp, out)) ∨
    (i = 1 ∧ ∃ a u, x = vof 6 (nI a) ∧ a < 1000000 ∧ pa[a]? = some (u, v) ∧ z = (pa, ce, inp, out)) ∨
    (i = 2 ∧ v = tru (vkd x == 6) ∧ z = (pa, ce, inp, out)) ∨ (i = 3 ∧ v = tru (x == vof 4 0) ∧ z = (pa, ce, inp, out)) ∨
    (i = 4 ∧ v = tru (vkd x == 1) ∧ z = (pa, ce, inp, out)) ∨ (i = 5 ∧ v = tru (vkd x == 7 || vkd x == 8) ∧ z = (pa, ce, inp, out)) ∨
    (i = 6 ∧ v = tru (x == vof 2 0) ∧ z = (pa, ce, inp, out)) ∨
    (i = 7 ∧ vkd x = 1 ∧ out.length < 1000 ∧ v = 0 ∧ z = (pa, ce, inp, out ++ [x.toInt32])) ∨
    (i = 8 ∧ ce + 1 ≤ 40000 ∧ v = vof 6 (nI pa.length) ∧ z = (pa ++ [(x, y)], ce + 1, inp, out)) ∨
    (i = 9 ∧ ∃ a u w, x = vof 6 (nI a) ∧ a < 1000000 ∧ pa[a]? = some (u, w) ∧ v = 0 ∧ z = (pa.set a (y, w), ce, inp, out)) ∨
    (i = 10 ∧ ∃ a u w, x = vof 6 (nI a) ∧ a < 1000000 ∧ pa[a]? = some (u, w) ∧ v = 0 ∧ z = (pa.set a (u, y), ce, inp, out)) ∨
    (i = 11 ∧ v = tru (x == y) ∧ z = (pa, ce, inp, out)) ∨
    (12 ≤ i ∧ i ≤ 18 ∧ vkd x = 1 ∧ vkd y = 1 ∧ (i = 15 ∨ i = 16 → y.toInt32 ≠ 0) ∧ v = Rck i x.toInt32 y.toInt32 ∧ z = (pa, ce, inp, out)) ∨
    (i = 19 ∧ ∃ c t, inp = c :: t ∧ v = vof 1 c ∧ z = (pa, ce, t, out))
/-- a call: what goes on with node i's call, with td left to do and wk worked -/
def Apx (G : PG) (i : Nat) : RSt → List TD → List Int64 → Prop
  | ((md, nw, td0, wk0), _), td, wk => md = none ∧ ∃ k n m, td0 = (k, n, m) :: td ∧ ((k = 7 ∧ ∃ p, n = nI p ∧ p < pNn G ∧ G.1 25 p = -1 ∧ m = nI i ∧ wk = wk0 ++ [nw]) ∨ (k = 10 ∧ n = nI i ∧ wk = wk0))
def RS1 (G : PG) (qv : Nat → Int64) : Nat → RSt → RSt → Prop
  | 0, ((some n, _, td, wk), X), z => n < pNn G ∧ ∃ v, ((G.1 21 n = 0 ∧ v = vof 1 (G.1 22 n)) ∨ (G.1 21 n = 1 ∧ v = vof 3 0) ∨ (G.1 21 n = 2 ∧ v = vof 2 0)) ∧ z = ((none, v, td, wk), X)
  | 1, ((some n, _, td, wk), e, (bx, ps, pa, ce, gr), P), z => n < pNn G ∧ G.1 21 n = 3 ∧ ∃ v, Rdv G n e bx ps gr v ∧ v ≠ vof 9 0 ∧ z = ((none, v, td, wk), e, (bx, ps, pa, ce, gr), P)
  | 2, ((some n, _, td, wk), X), z => n < pNn G ∧ G.1 21 n = 4 ∧ ∃ c a, Chn G (G.1 24 n) [c, a] ∧ Fw G c 1 ∧ z = ((none, qv a, td, wk), X)
  | 3, ((some n, _, td, wk), e, (bx, ps, pa, ce, gr), P), z => n < pNn G ∧ G.1 21 n = 4 ∧ ∃ c l M ks, Chn G (G.1 24 n) (c :: l) ∧ Fw G c 2 ∧ 1 ≤ M ∧ M ≤ pLm G ∧ G.1 27 n = nI M ∧ ce + (1 + pFr G M) ≤ 40000 ∧ Kpt G M e ps ks ∧ z = ((none, vof 7 (nI ps.length), td, wk), e, (bx, ps ++ [(M, ks)], pa, ce + (1 + pFr G M), gr), P)
  | 4, ((some n, nw, td, wk), X), z => n < pNn G ∧ G.1 21 n = 4 ∧ ∃ c a b d, Chn G (G.1 24 n) [c, a, b, d] ∧ Fw G c 3 ∧ z = ((some a, nw, (1, nI n, 0) :: td, wk), X)
  | 5, ((some n, nw, td, wk), X), z => n < pNn G ∧ G.1 21 n = 4 ∧ ∃ c i b p l a v, Chn G (G.1 24 n) (c :: i :: b) ∧ Fw G c 4 ∧ Chn G (G.1 24 i) (p :: l) ∧ Chn G (G.1 24 p) [a, v] ∧ z = ((some v, nw, (5, nI p, nI n) :: td, wk), X)
  | 6, ((some n, nw, td, wk), X), z => n < pNn G ∧ G.1 21 n = 4 ∧ ∃ c i a b, Chn G (G.1 24 n) (c :: i :: a :: b) ∧ Fw G c 4 ∧ G.1 24 i = -1 ∧ z = ((some a, nw, chs 0 (a :: b) td, wk), X)
  | 7, ((some n, nw, td, wk), (sl, bs, pr), (bx, S), P), z => n < pNn G ∧ G.1 21 n = 4 ∧ ∃ c i b p l a v s, Chn G (G.1 24 n) (c :: i :: b) ∧ Fw G c 5 ∧ Chn G (G.1 24 i) (p :: l) ∧ Chn G (G.1 24 p) [a, v] ∧ l.length < 8 ∧ G.1 27 n = nI s ∧ s < 100000 ∧ bs + s + (l.length + 1) ≤ sl.length ∧ z = ((some v, nw, (6, nI p, nI n) :: td, wk), (nsl sl (bs + s) bx.length (l.length + 1), bs, pr), (bx ++ List.replicate (l.length + 1) (vof 9 0), S), P)
  | 8, ((some n, nw, td, wk), X), z => n < pNn G ∧ G.1 21 n = 4 ∧ ∃ c i a b, Chn G (G.1 24 n) (c :: i :: a :: b) ∧ Fw G c 5 ∧ G.1 24 i = -1 ∧ z = ((some a, nw, chs 0 (a :: b) td, wk), X)
  | 9, ((some n, nw, td, wk), X), z => n < pNn G ∧ G.1 21 n = 4 ∧ ∃ c a v w, Chn G (G.1 24 n) [c, a, v] ∧ Fw G c w ∧ (w = 6 ∨ w = 10) ∧ z = ((some v, nw, (4, nI n, 0) :: td, wk), X)
  | 10, ((some n, nw, td, wk), X), z => n < pNn G ∧ G.1 21 n = 4 ∧ ∃ c a l w, Chn G (G.1 24 n) (c :: a :: l) ∧ Fw G c w ∧ (w = 7 ∨ w = 8 ∨ w = 9) ∧ z = ((some a, nw, chs (if w = 7 then 0 else if w = 8 then 2 else 3) (a :: l) td, wk), X)
  | 11, ((some n, nw, td, wk), X), z => n < pNn G ∧ G.1 21 n = 4 ∧ ∃ c l, Chn G (G.1 24 n) (c :: l) ∧ Fw G c 0 ∧ z = ((some c, nw, (7, nI c, nI n) :: td, wk), X)
  | 12, ((none, nw, (9, n, m) :: td, wk), e, S, (inp, out, th, op, st, lt, bu)), z => ∃ a, n = nI a ∧ a < pNn G ∧ ((m = 0 ∧ z = ((some a, nw, (9, G.1 25 a, 1) :: td, wk), e, S, (inp, out, th, op, st, lt, bu))) ∨ (m = 1 ∧ z = ((some a, nw, (9, G.1 25 a, 1) :: td, wk), e, S, (inp, out, th + 1, op, st, nw, bu))))
  | 13, ((none, nw, (0, n, _) :: td, wk), X), z => ∃ a l, Chn G n (a :: l) ∧ z = ((some a, nw, chs 0 (a :: l) td, wk), X)
  | 14, ((none, nw, (1, n, _) :: td, wk), X), z => ∃ i c a b d, n = nI i ∧ i < pNn G ∧ Chn G (G.1 24 i) [c, a, b, d] ∧ z = ((some (if nw = vof 2 0 then d else b), nw, td, wk), X)
  | 15, ((none, nw, (k, n, _) :: td, wk), X), z => (k = 2 ∨ k = 3) ∧ ∃ a l, Chn G n (a :: l) ∧ z = ((if (nw = vof 2 0 ↔ k = 2) then none else some a, nw, if (nw = vof 2 0 ↔ k = 2) then td else chs k (a :: l) td, wk), X)
  | 16, ((none, nw, (4, n, _) :: td, wk), e, (bx, ps, pa, ce, gr), P), z => ∃ i c a v w, n = nI i ∧ i < pNn G ∧ Chn G (G.1 24 i) [c, a, v] ∧ Fw G c w ∧
      ((w = 6 ∧ (∃ u, Rdv G a e bx ps gr u ∧ u ≠ vof 9 0) ∧ ((∃ b, Bxo G a e ps b ∧ z = ((none, 0, td, wk), e, (bx.set b nw, ps, pa, ce, gr), P)) ∨ (G.1 26 a = 3 ∧ ∃ g, g < 100 ∧ G.1 27 a = nI g ∧ z = ((none, 0, td, wk), e, (bx, ps, pa, ce, gr.set g nw), P)))) ∨
       (w = 10 ∧ G.1 26 a = 3 ∧ ∃ g, g < 100 ∧ G.1 27 a = nI g ∧ g < gr.length ∧ z = ((none, 0, td, wk), e, (bx, ps, pa, ce, gr.set g nw), P)))
  | 17, ((none, nw, (5, n, m) :: td, wk), X), z => ∃ p q a v, n = nI p ∧ p < pNn G ∧ G.1 25 p = nI q ∧ q < pNn G ∧ Chn G (G.1 24 q) [a, v] ∧ z = ((some v, nw, (5, nI q, m) :: td, wk ++ [nw]), X)
  | 18, ((none, nw, (5, n, m) :: td, wk), (sl, bs, pr), (bx, S), P), z => ∃ p i c li b d ps s xs wk', n = nI p ∧ p < pNn G ∧ G.1 25 p = -1 ∧ m = nI i ∧ i < pNn G ∧ Chn G (G.1 24 i) (c :: li :: b :: d) ∧ Chn G (G.1 24 li) ps ∧ ps.length ≤ 8 ∧ wk ++ [nw] = wk' ++ xs ∧ xs.length = ps.length ∧ G.1 27 i = nI s ∧ s < 100000 ∧ bs + s + ps.length ≤ sl.length ∧
      z = ((some b, nw, chs 0 (b :: d) td, wk'), (nsl sl (bs + s) bx.length ps.length, bs, pr), (bx ++ xs, S), P)
  | 19, ((none, nw, (6, n, m) :: td, wk), (sl, bs, pr), (bx, S), P), z => ∃ p i c li b d ps ps' s x, n = nI p ∧ p < pNn G ∧ m = nI i ∧ i < pNn G ∧ Chn G (G.1 24 i) (c :: li :: b :: d) ∧ Chn G (G.1 24 li) (ps ++ p :: ps') ∧ ps.length < 8 ∧ G.1 27 i = nI s ∧ s < 100000 ∧ sl[bs + s + ps.length]? = some (x + 2) ∧
      ((ps' = [] ∧ z = ((some b, nw, chs 0 (b :: d) td, wk), (sl, bs, pr), (bx.set x nw, S), P)) ∨
       ∃ q l a v, ps' = q :: l ∧ Chn G (G.1 24 q) [a, v] ∧ z = ((some v, nw, (6, nI q, m) :: td, wk), (sl, bs, pr), (bx.set x nw, S), P))
  | 20, ((none, nw, (7, n, m) :: td, wk), X), z => ∃ p q, n = nI p ∧ p < pNn G ∧ G.1 25 p = nI q ∧ q < pNn G ∧ z = ((some q, nw, (7, nI q, m) :: td, wk ++ [nw]), X)
  | 21, ((none, nw, (8, n, m) :: td, wk), (sl, bs, _), S, (inp, out, th, op, st, lt, bu)), z => ∃ b rp, n = nI b ∧ b ≤ bs ∧ bs ≤ sl.length ∧ m = oI rp ∧ 0 < op ∧ (∀ i, rp = some i → i < S.2.1.length) ∧ z = ((none, nw, td, wk), (sl.take bs, b, rp), S, (inp, out, th, op - 1, st, lt, bu))
  | 22, (A, (sl, bs, pr), (bx, ps, pa, ce, gr), (inp, out, th, op, st, lt, bu)), z => ∃ i c l td wk wk' xs f M ks cc li b d, Apx G i (A, (sl, bs, pr), (bx, ps, pa, ce, gr), (inp, out, th, op, st, lt, bu)) td wk ∧ i < pNn G ∧ Chn G (G.1 24 i) (c :: l) ∧ l.length ≤ 8 ∧ wk = wk' ++ vof 7 (nI f) :: xs ∧ xs.length = l.length ∧ ps[f]? = some (M, ks) ∧ 1 ≤ M ∧ M ≤ pLm G ∧ pWn G M = l.length ∧ Chn G (G.1 24 (pNd G M)) (cc :: li :: b :: d) ∧ 0 < bu ∧ bs ≤ sl.length ∧ pWn G M ≤ pSn G M ∧
      ((∃ n m t, td = (8, n, m) :: t ∧ z = ((some b, A.2.1, chs 0 (b :: d) td, wk'), (nsl (sl.take bs ++ List.replicate (pSn G M) 0) bs bx.length l.length, bs, some f), (bx ++ xs, ps, pa, ce, gr), (inp, out, th, op, st + 1, lt, bu - 1))) ∨
       ((∃ k t, td = k :: t ∧ k.1 ≠ 8) ∧ op < 1000 ∧ z = ((some b, A.2.1, chs 0 (b :: d) ((8, nI bs, oI pr) :: td), wk'), (nsl (sl ++ List.replicate (pSn G M) 0) sl.length bx.length l.length, sl.length, some f), (bx ++ xs, ps, pa, ce, gr), (inp, out, th, op + 1, st + 1, lt, bu - 1))))
  | 23, (A, e, (bx, ps, pa, ce, gr), (inp, out, P)), z => ∃ i c l td wk wk' xs f x y v pa' ce' inp' out', Apx G i (A, e, (bx, ps, pa, ce, gr), (inp, out, P)) td wk ∧ i < pNn G ∧ Chn G (G.1 24 i) (c :: l) ∧ l.length ≤ 8 ∧ wk = wk' ++ vof 8 (nI (f + 11)) :: xs ∧ f < 20 ∧ xs.length = l.length ∧ l.length = pwt f ∧ Arg xs x y ∧ Prl f x y (pa, ce, inp, out) v (pa', ce', inp', out') ∧ z = ((none, v, td, wk'), e, (bx, ps, pa', ce', gr), (inp', out', P))
  | _, _, _ => False
/-- the run ends (0, 10 and more) or is held up (1, 2, 3) -/
def RE1 (G : PG) : Nat → RSt → Nat → RSt → Prop
  | 0, ((none, nw, (9, n, m) :: td, wk), e, S, (inp, out, th, op, st, lt, bu)), r, z => n = -1 ∧ r = 0 ∧ ((m = 0 ∧ z = ((none, nw, td, wk), e, S, (inp, out, th, op, st, lt, bu))) ∨ (m = 1 ∧ z = ((none, nw, td, wk), e, S, (inp, out, th + 1, op, st, nw, bu))))
  | 1, ((some n, nw, td, wk), e, (bx, ps, pa, ce, gr), P), r, z => n < pNn G ∧ G.1 21 n = 3 ∧ Rdv G n e bx ps gr (vof 9 0) ∧ r = 15 ∧ z = ((some n, nw, td, wk), e, (bx, ps, pa, ce, gr), P)
  | 2, ((none, nw, (4, n, m) :: td, wk), e, (bx, ps, pa, ce, gr), P), r, z => ∃ i c a v, n = nI i ∧ i < pNn G ∧ Chn G (G.1 24 i) [c, a, v] ∧ Fw G c 6 ∧ Rdv G a e bx ps gr (vof 9 0) ∧ r = 15 ∧ z = ((none, nw, td, wk), e, (bx, ps, pa, ce, gr), P)
  | 3, ((some n, nw, td, wk), e, (bx, ps, pa, ce, gr), P), r, z => n < pNn G ∧ G.1 21 n = 4 ∧ ∃ c l M, Chn G (G.1 24 n) (c :: l) ∧ Fw G c 2 ∧ 1 ≤ M ∧ M ≤ pLm G ∧ G.1 27 n = nI M ∧ ¬ ce + (1 + pFr G M) ≤ 40000 ∧ r = 16 ∧ z = ((some n, nw, td, wk), e, (bx, ps, pa, ce, gr), P)
  | 4, (A, X), r, z => ∃ i c l td wk wk' f xs, Apx G i (A, X) td wk ∧ i < pNn G ∧ Chn G (G.1 24 i) (c :: l) ∧ l.length ≤ 8 ∧ wk = wk' ++ f :: xs ∧ xs.length = l.length ∧ vkd f ≠ 7 ∧ vkd f ≠ 8 ∧ r = 11 ∧ z = ((none, A.2.1, td, wk), X)
  | 5, (A, e, (bx, ps, S), (inp, out, th, op, st, lt, bu)), r, z => ∃ i c l td wk wk' xs f M ks, Apx G i (A, e, (bx, ps, S), (inp, out, th, op, st, lt, bu)) td wk ∧ i < pNn G ∧ Chn G (G.1 24 i) (c :: l) ∧ l.length ≤ 8 ∧ wk = wk' ++ vof 7 (nI f) :: xs ∧ xs.length = l.length ∧ ps[f]? = some (M, ks) ∧ 1 ≤ M ∧ M ≤ pLm G ∧ ∃ k t, td = k :: t ∧
      ((l.length ≠ pWn G M ∧ r = 12 ∧ z = ((none, A.2.1, td, wk), e, (bx, ps, S), (inp, out, th, op, st, lt, bu))) ∨
       (l.length = pWn G M ∧ k.1 ≠ 8 ∧ op = 1000 ∧ r = 17 ∧ z = ((none, A.2.1, td, wk), e, (bx, ps, S), (inp, out, th, op, st, lt, bu))) ∨
       (l.length = pWn G M ∧ (k.1 = 8 ∨ op < 1000) ∧ bu = 0 ∧ r = 1 ∧ z = ((none, 0, (10, nI i, 0) :: td, wk), e, (bx, ps, S), (inp, out, th, op, st, lt, bu))))
  | 6, (A, e, (bx, ps, pa, ce, gr), (inp, out, P)), r, z => ∃ i c l td wk wk' xs f x y, Apx G i (A, e, (bx, ps, pa, ce, gr), (inp, out, P)) td wk ∧ i < pNn G ∧ Chn G (G.1 24 i) (c :: l) ∧ l.length ≤ 8 ∧ wk = wk' ++ vof 8 (nI (f + 11)) :: xs ∧ f < 20 ∧ xs.length = l.length ∧
      ((l.length ≠ pwt f ∧ r = 12 ∧ z = ((none, A.2.1, td, wk), e, (bx, ps, pa, ce, gr), (inp, out, P))) ∨
       (l.length = pwt f ∧ Arg xs x y ∧ Pce f x y ce inp out r ∧ ((4 ≤ r ∧ z = ((none, A.2.1, td, wk), e, (bx, ps, pa, ce, gr), (inp, out, P))) ∨ (r < 4 ∧ z = ((none, 0, (10, nI i, 0) :: td, wk), e, (bx, ps, pa, ce, gr), (inp, out, P))))))
  | _, _, _, _ => False
/-- how much there is to do, how much is worked, how many slots -/
def Bnd (z : RSt) : Prop := z.1.2.2.1.length ≤ 44000 ∧ z.1.2.2.2.length ≤ 304000 ∧ z.2.1.1.length ≤ 251000
def RSs (G : PG) (qv : Nat → Int64) : Nat → RSt → Nat → RSt → Prop
  | 0, _, _, _ => False
  | n + 1, z, r, z' => Bnd z ∧ ((∃ k, RE1 G k z r z') ∨ ∃ k y, RS1 G qv k z y ∧ RSs G qv n y r z')
