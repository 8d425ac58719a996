/-! THE CLASS'S MACHINE, pure -/
abbrev CSt := (Nat × List Int64) × (Nat × Int32 × List BK × Nat) × (List Int64 × Nat × List Int64) × (List Int32 × List Int32 × Nat × Nat × Int64 × Nat)
/-- a binding's value (o, o + 1, o + 2: local, kept, global), and where it lies -/
def Rcv (G : PG) (o : Nat) (z : CSt) (v : Int64) : Prop :=
  (G.1 1 z.1.1 = nI o ∧ ∃ j x, j < 100000 ∧ G.1 2 z.1.1 = nI j ∧ z.1.2[z.2.1.1 + j]? = some x ∧ ((vkd x ≠ 10 ∧ v = x) ∨ ∃ m, m < 1000000 ∧ x = vof 10 (nI m) ∧ z.2.2.1.1[m]? = some v)) ∨
  (G.1 1 z.1.1 = nI (o + 1) ∧ ∃ k a y m, k < 100000 ∧ a < 1000000 ∧ m < 1000000 ∧ G.1 2 z.1.1 = nI k ∧ z.2.1.2.1 = nI a ∧ z.2.2.1.1[a + 1 + k]? = some y ∧ y.toInt32 = nI m ∧ z.2.2.1.1[m]? = some v) ∨
  (G.1 1 z.1.1 = nI (o + 2) ∧ ∃ g, g < 100 ∧ G.1 2 z.1.1 = nI g ∧ z.2.2.1.2.2[g]? = some v)
/-- a slot is set -/
def Sts (P : Nat) (v : Int64) (s F s' F' : List Int64) : Prop := ∃ x, s[P]? = some x ∧ ((vkd x ≠ 10 ∧ s' = s.set P v ∧ F' = F) ∨ ∃ m, m < 1000000 ∧ x = vof 10 (nI m) ∧ m < F.length ∧ s' = s ∧ F' = F.set m v)
/-- bindings are kept: n are left, from the i-th on; the procedure is at a -/
def Clo (G : PG) (M ba : Nat) (se : Int32) (a : Nat) : Nat → Nat → List Int64 → List Int64 → List Int64 → List Int64 → Prop
  | 0, _, s, F, s', F' => s' = s ∧ F' = F
  | n + 1, i, s, F, s', F' => ∃ w, w < 1000 ∧ G.1 9 (pKs G M + i) = nI w ∧
    ((w % 2 = 0 ∧ ∃ x, s[ba + w / 2]? = some x ∧ ((∃ m, m < 1000000 ∧ x = vof 10 (nI m) ∧ Clo G M ba se a n (i + 1) s (F.set (a + 1 + i) (nI m).toInt64) s' F') ∨
       (vkd x ≠ 10 ∧ Clo G M ba se a n (i + 1) (s.set (ba + w / 2) (vof 10 (nI F.length))) ((F ++ [x]).set (a + 1 + i) (nI F.length).toInt64) s' F'))) ∨
     (w % 2 = 1 ∧ ∃ b y m, b < 1000000 ∧ m < 1000000 ∧ b + 1 + w / 2 < a ∧ se = nI b ∧ F[b + 1 + w / 2]? = some y ∧ y.toInt32 = nI m ∧ Clo G M ba se a n (i + 1) s (F.set (a + 1 + i) (nI m).toInt64) s' F'))
/-- what primitive i makes of x and y, where it can -/
def tru (b : Bool) : Int64 := if b then vof 3 0 else vof 2 0
def Rck (i : Nat) (a b : Int32) : Int64 := if i = 12 then vof 1 (a + b) else if i = 13 then vof 1 (a - b) else if i = 14 then vof 1 (a * b) else if i = 17 then tru (a == b) else if i = 18 then tru (decide (a < b)) else if i = 15 then vof 1 (if b = -1 then -a else a / b) else vof 1 (if b = -1 then 0 else a - a / b * b)
abbrev PSt := List Int64 × Nat × List Int32 × List Int32
def Pcl (i : Nat) (x y : Int64) : PSt → Int64 → PSt → Prop
  | (F, ce, inp, out), v, z =>
    (i = 0 ∧ ∃ a, a < 1000000 ∧ x = vof 6 (nI a) ∧ F[a]? = some v ∧ z = (F, ce, inp, out)) ∨
    (i = 1 ∧ ∃ a, a < 1000000 ∧ x = vof 6 (nI a) ∧ F[a + 1]? = some v ∧ z = (F, ce, inp, out)) ∨
    (i = 2 ∧ v = tru (vkd x == 6) ∧ z = (F, ce, inp, out)) ∨ (i = 3 ∧ v = tru (vkd x == 4) ∧ z = (F, ce, inp, out)) ∨
    (i = 4 ∧ v = tru (vkd x == 1) ∧ z = (F, ce, inp, out)) ∨ (i = 5 ∧ v = tru (vkd x == 7 || vkd x == 8) ∧ z = (F, ce, inp, out)) ∨
    (i = 6 ∧ v = tru (vkd x == 2) ∧ z = (F, ce, inp, out)) ∨
    (i = 7 ∧ vkd x = 1 ∧ out.length < 1000 ∧ v = 0 ∧ z = (F, ce, inp, out ++ [x.toInt32])) ∨
    (i = 8 ∧ ce + 1 ≤ 40000 ∧ v = vof 6 (nI F.length) ∧ z = (F ++ [x, y], ce + 1, inp, out)) ∨
    (i = 9 ∧ ∃ a, a < F.length ∧ x = vof 6 (nI a) ∧ v = 0 ∧ z = (F.set a y, ce, inp, out)) ∨
    (i = 10 ∧ ∃ a, a + 1 < F.length ∧ x = vof 6 (nI a) ∧ v = 0 ∧ z = (F.set (a + 1) y, ce, inp, out)) ∨
    (i = 11 ∧ v = tru (x == y) ∧ z = (F, ce, inp, out)) ∨
    (12 ≤ i ∧ i ≤ 18 ∧ vkd x = 1 ∧ vkd y = 1 ∧ (i = 15 ∨ i = 16 → y.toInt32 ≠ 0) ∧ v = Rck i x.toInt32 y.toInt32 ∧ z = (F, ce, inp, out)) ∨
    (i = 19 ∧ ∃ c t, inp = c :: t ∧ v = vof 1 c ∧ z = (F, ce, t, out))
def pwt (i : Nat) : Nat := if i = 19 then 0 else if i < 8 then 1 else 2
/-- why primitive i can't: errors, and what holds it up -/
def Pce (i : Nat) (x y : Int64) (ce : Nat) (inp out : List Int32) (r : Nat) : Prop :=
  ((i = 0 ∨ i = 1 ∨ i = 9 ∨ i = 10) ∧ vkd x ≠ 6 ∧ r = 13) ∨ (i = 7 ∧ vkd x ≠ 1 ∧ r = 13) ∨ (12 ≤ i ∧ i ≤ 18 ∧ (vkd x ≠ 1 ∨ vkd y ≠ 1) ∧ r = 13) ∨
  ((i = 15 ∨ i = 16) ∧ vkd x = 1 ∧ vkd y = 1 ∧ y.toInt32 = 0 ∧ r = 14) ∨ (i = 8 ∧ ¬ ce + 1 ≤ 40000 ∧ r = 16) ∨ (i = 19 ∧ inp = [] ∧ r = 2) ∨ (i = 7 ∧ vkd x = 1 ∧ 1000 ≤ out.length ∧ r = 3)
/-- arguments of a call: what is called and what it gets -/
def Arg (xs : List Int64) (x y : Int64) : Prop := x = xs.getD 0 0 ∧ y = xs.getD 1 0
def CS1 (G : PG) : Nat → CSt → CSt → Prop
  | 0, ((pc, s), (ba, se, bk, cap), H, P), z => (G.1 1 pc = 1 ∨ G.1 1 pc = 2 ∨ G.1 1 pc = 3 ∨ G.1 1 pc = 4 ∨ G.1 1 pc = 5 ∨ G.1 1 pc = 6 ∨ G.1 1 pc = 8) ∧ s.length < cap ∧ z = ((pc + 1, s ++ [vof (G.1 1 pc) (G.1 2 pc)]), (ba, se, bk, cap), H, P)
  | 1, ((pc, s), (ba, se, bk, cap), H, P), z => ∃ v, Rcv G 16 ((pc, s), (ba, se, bk, cap), H, P) v ∧ vkd v ≠ 9 ∧ s.length < cap ∧ z = ((pc + 1, s ++ [v]), (ba, se, bk, cap), H, P)
  | 2, ((pc, s), (ba, se, bk, cap), (F, ce, gc), P), z => ∃ t x v s' F' gc', s = t ++ [x] ∧ Rcv G 19 ((pc, t), (ba, se, bk, cap), (F, ce, gc), P) v ∧ vkd v ≠ 9 ∧ s.length ≤ cap ∧
      ((G.1 1 pc = 19 ∧ ∃ j, j < 100000 ∧ G.1 2 pc = nI j ∧ Sts (ba + j) x t F s' F' ∧ gc' = gc) ∨
       (G.1 1 pc = 20 ∧ ∃ k a y m, k < 100000 ∧ a < 1000000 ∧ G.1 2 pc = nI k ∧ se = nI a ∧ F[a + 1 + k]? = some y ∧ y.toInt32 = nI m ∧ m < F.length ∧ F' = F.set m x ∧ s' = t ∧ gc' = gc) ∨
       (G.1 1 pc = 21 ∧ ∃ g, g < 100 ∧ G.1 2 pc = nI g ∧ F' = F ∧ s' = t ∧ gc' = gc.set g x)) ∧ z = ((pc + 1, s' ++ [0]), (ba, se, bk, cap), (F', ce, gc'), P)
  | 3, ((pc, s), (ba, se, bk, cap), H, P), z => G.1 1 pc = 22 ∧ ∃ k, k ≤ 8 ∧ G.1 2 pc = nI k ∧ s.length + k ≤ cap ∧ z = ((pc + 1, s ++ List.replicate k (vof 9 0)), (ba, se, bk, cap), H, P)
  | 4, ((pc, s), (ba, se, bk, cap), (F, ce, gc), P), z => G.1 1 pc = 23 ∧ ∃ t x j s' F', j < 100000 ∧ G.1 2 pc = nI j ∧ s = t ++ [x] ∧ Sts (ba + j) x t F s' F' ∧ z = ((pc + 1, s'), (ba, se, bk, cap), (F', ce, gc), P)
  | 5, ((pc, s), (ba, se, bk, cap), (F, ce, gc), P), z => G.1 1 pc = 24 ∧ ∃ t x g, g < 100 ∧ G.1 2 pc = nI g ∧ s = t ++ [x] ∧ s.length ≤ cap ∧ z = ((pc + 1, t ++ [0]), (ba, se, bk, cap), (F, ce, gc.set g x), P)
  | 6, ((pc, s), (ba, se, bk, cap), (F, ce, gc), P), z => G.1 1 pc = 25 ∧ s.length < cap ∧ F.length ≤ 13000 + 3 * ce ∧ ∃ M g s' F', 1 ≤ M ∧ M ≤ pLm G ∧ G.1 2 pc = nI (M - 1) ∧ ce + (1 + pFr G M) ≤ 40000 ∧ g.length = pFr G M ∧
      Clo G M ba se F.length (pFr G M) 0 s (F ++ (nI (M - 1)).toInt64 :: g) s' F' ∧ z = ((pc + 1, s' ++ [vof 7 (nI F.length)]), (ba, se, bk, cap), (F', ce + (1 + pFr G M), gc), P)
  | 7, ((pc, s), (ba, se, bk, cap), (F, ce, gc), (inp, out, th, st, lt, lf)), z => G.1 1 pc = 32 ∧ ∃ t a M xs, a < 1000000 ∧ s = t ++ vof 7 (nI a) :: xs ∧ G.1 2 pc = nI xs.length ∧ F[a]? = some (nI (M - 1)).toInt64 ∧ 1 ≤ M ∧ M ≤ pLm G ∧ xs.length = pWn G M ∧ bk.length < 1000 ∧ 0 < lf ∧ t.length + 1 + pDm G M ≤ 310000 ∧
      z = ((pEn G M, s), (t.length + 1, nI a, (pc + 1, ba, se) :: bk, max cap (t.length + 1 + pDm G M)), (F, ce, gc), (inp, out, th, st + 1, lt, lf - 1))
  | 8, ((pc, s), (ba, se, bk, cap), (F, ce, gc), (inp, out, th, st, lt, lf)), z => G.1 1 pc = 33 ∧ ∃ t a M xs, a < 1000000 ∧ s = t ++ vof 7 (nI a) :: xs ∧ 1 ≤ ba ∧ ba ≤ t.length ∧ G.1 2 pc = nI xs.length ∧ F[a]? = some (nI (M - 1)).toInt64 ∧ 1 ≤ M ∧ M ≤ pLm G ∧ xs.length = pWn G M ∧ 0 < lf ∧ ba + pDm G M ≤ 310000 ∧
      z = ((pEn G M, t.take (ba - 1) ++ vof 7 (nI a) :: xs), (ba, nI a, bk, max cap (ba + pDm G M)), (F, ce, gc), (inp, out, th, st + 1, lt, lf - 1))
  | 9, ((pc, s), (ba, se, bk, cap), (F, ce, gc), (inp, out, th, st, lt, lf)), z => G.1 1 pc = 32 ∧ F.length ≤ 13000 + 3 * ce ∧ ∃ t i xs x y v F' ce' inp' out', i < 20 ∧ s = t ++ vof 8 (nI i) :: xs ∧ s.length ≤ cap ∧ G.1 2 pc = nI xs.length ∧ xs.length = pwt i ∧ Arg xs x y ∧ Pcl i x y (F, ce, inp, out) v (F', ce', inp', out') ∧ z = ((pc + 1, t ++ [v]), (ba, se, bk, cap), (F', ce', gc), (inp', out', th, st, lt, lf))
  | 10, ((pc, s), (ba, se, bk, cap), (F, ce, gc), (inp, out, th, st, lt, lf)), z => G.1 1 pc = 33 ∧ F.length ≤ 13000 + 3 * ce ∧ ∃ t i xs x y v F' ce' inp' out' pb bb sb bk', i < 20 ∧ s = t ++ vof 8 (nI i) :: xs ∧ s.length ≤ cap ∧ G.1 2 pc = nI xs.length ∧ xs.length = pwt i ∧ Arg xs x y ∧ Pcl i x y (F, ce, inp, out) v (F', ce', inp', out') ∧ bk = (pb, bb, sb) :: bk' ∧ 1 ≤ ba ∧ ba ≤ t.length ∧ z = ((pb, t.take (ba - 1) ++ [v]), (bb, sb, bk', cap), (F', ce', gc), (inp', out', th, st, lt, lf))
  | 11, ((pc, s), (ba, se, bk, cap), H, P), z => G.1 1 pc = 34 ∧ ∃ t v pb bb sb bk', s = t ++ [v] ∧ s.length ≤ cap ∧ bk = (pb, bb, sb) :: bk' ∧ 1 ≤ ba ∧ ba ≤ t.length ∧ z = ((pb, t.take (ba - 1) ++ [v]), (bb, sb, bk', cap), H, P)
  | 12, ((pc, s), E, H, P), z => G.1 1 pc = 30 ∧ ∃ t v, s = t ++ [v] ∧ z = ((pc + 1, t), E, H, P)
  | 13, ((pc, s), (ba, se, bk, cap), H, P), z => G.1 1 pc = 31 ∧ ∃ t u v, s = t ++ (u ++ [v]) ∧ u.length ≤ 8 ∧ s.length ≤ cap ∧ G.1 2 pc = nI u.length ∧ z = ((pc + 1, t ++ [v]), (ba, se, bk, cap), H, P)
  | 14, ((pc, s), E, H, (inp, out, th, st, lt, lf)), z => G.1 1 pc = 35 ∧ ∃ t v, s = t ++ [v] ∧ z = ((pc + 1, t), E, H, (inp, out, th + 1, st, v, lf))
  | 15, ((pc, s), E, H, P), z => G.1 1 pc = 26 ∧ ∃ x, x ≤ pCz G ∧ G.1 2 pc = nI x ∧ z = ((x, s), E, H, P)
  | 16, ((pc, s), E, H, P), z => G.1 1 pc = 27 ∧ ∃ t v x, s = t ++ [v] ∧ x ≤ pCz G ∧ G.1 2 pc = nI x ∧ z = ((if vkd v = 2 then x else pc + 1, t), E, H, P)
  | 17, ((pc, s), E, H, P), z => (G.1 1 pc = 28 ∨ G.1 1 pc = 29) ∧ ∃ t v x, s = t ++ [v] ∧ x ≤ pCz G ∧ G.1 2 pc = nI x ∧ z = (if (vkd v = 2 ↔ G.1 1 pc = 28) then (x, s) else (pc + 1, t), E, H, P)
  | _, _, _ => False
/-- the run ends, or is held up, with an answer; nothing else changes -/
def CE1 (G : PG) : Nat → CSt → Nat → Prop
  | 0, ((pc, _), _), r => G.1 1 pc = 36 ∧ r = 0
  | 1, ((pc, s), E), r => ∃ v, Rcv G 16 ((pc, s), E) v ∧ vkd v = 9 ∧ r = 15
  | 2, ((pc, s), E), r => ∃ v t x, s = t ++ [x] ∧ Rcv G 19 ((pc, t), E) v ∧ vkd v = 9 ∧ r = 15
  | 3, ((pc, _), _, (_, ce, _), _), r => G.1 1 pc = 25 ∧ ∃ M, 1 ≤ M ∧ M ≤ pLm G ∧ G.1 2 pc = nI (M - 1) ∧ ¬ ce + (1 + pFr G M) ≤ 40000 ∧ r = 16
  | 4, ((pc, s), _), r => (G.1 1 pc = 32 ∨ G.1 1 pc = 33) ∧ ∃ t c xs, s = t ++ c :: xs ∧ G.1 2 pc = nI xs.length ∧ xs.length ≤ 8 ∧ vkd c ≠ 7 ∧ vkd c ≠ 8 ∧ r = 11
  | 5, ((pc, s), (_, _, bk, _), (F, _, _), (_, _, _, _, _, lf)), r => (G.1 1 pc = 32 ∨ G.1 1 pc = 33) ∧ ∃ t a M xs, a < 1000000 ∧ s = t ++ vof 7 (nI a) :: xs ∧ G.1 2 pc = nI xs.length ∧ xs.length ≤ 8 ∧ F[a]? = some (nI (M - 1)).toInt64 ∧ 1 ≤ M ∧ M ≤ pLm G ∧
      ((xs.length ≠ pWn G M ∧ r = 12) ∨ (xs.length = pWn G M ∧ G.1 1 pc = 32 ∧ ¬ bk.length < 1000 ∧ r = 17) ∨ (xs.length = pWn G M ∧ (G.1 1 pc = 33 ∨ bk.length < 1000) ∧ lf = 0 ∧ r = 1))
  | 6, ((pc, s), _, (_, ce, _), (inp, out, _)), r => (G.1 1 pc = 32 ∨ G.1 1 pc = 33) ∧ ∃ t i xs x y, i < 20 ∧ s = t ++ vof 8 (nI i) :: xs ∧ G.1 2 pc = nI xs.length ∧ xs.length ≤ 8 ∧ ((xs.length ≠ pwt i ∧ r = 12) ∨ (xs.length = pwt i ∧ Arg xs x y ∧ Pce i x y ce inp out r))
  | _, _, _ => False
/-- n turns, the last of which ends or holds up -/
def CSs (G : PG) : Nat → CSt → Nat → CSt → Prop
  | 0, _, _, _ => False
  | n + 1, z, r, z' => (z' = z ∧ ∃ k, CE1 G k z r) ∨ ∃ k y, CS1 G k z y ∧ CSs G n y r z'
