/-! THE PROGRAM: tables of the two programs (T 1 to T 9 the class's rows of ints, T 21 to T 39 the reference's), numbers W that both agree on, and what code belongs to what node -/
abbrev PG := (Nat → Nat → Int32) × (Nat → Nat → Nat)
def pFr (G : PG) (L : Nat) : Nat := G.2 0 L
def pSn (G : PG) (L : Nat) : Nat := G.2 1 L
def pDm (G : PG) (L : Nat) : Nat := G.2 2 L
def pEn (G : PG) (L : Nat) : Nat := G.2 3 L
def pWn (G : PG) (L : Nat) : Nat := G.2 4 L
def pNd (G : PG) (L : Nat) : Nat := G.2 5 L
def pDs (G : PG) (n : Nat) : Nat := G.2 6 n
def pNn (G : PG) : Nat := G.2 7 0
def pLm (G : PG) : Nat := G.2 7 1
def pDf (G : PG) : Nat := G.2 7 2
def pCz (G : PG) : Nat := G.2 7 3
def pDz (G : PG) : Nat := G.2 7 4
def pKs (G : PG) (L : Nat) : Nat := G.2 8 L
def pKp (G : PG) (L k : Nat) : Nat := G.2 (20 + L) k
/-- a chain of nodes: from c along next, to its end -/
def Chn (G : PG) : Int32 → List Nat → Prop
  | c, [] => c = -1
  | c, n :: l => c = nI n ∧ n < pNn G ∧ Chn G (G.1 25 n) l
/-- the word of the form whose first part is c; 0: none -/
def Fw (G : PG) (c w : Nat) : Prop := (G.1 21 c ≠ 3 ∧ w = 0) ∨ (G.1 21 c = 3 ∧ ∃ m x, m < 3000 ∧ x < 31 ∧ G.1 22 c = nI m ∧ G.1 30 m = nI x ∧ w = if x ≤ 10 then x else 0)
/-- the class's value of a datum, and that there is one -/
def pDl (G : PG) (n : Nat) : Prop := n < pNn G ∧ (G.1 21 n = 0 ∨ G.1 21 n = 1 ∨ G.1 21 n = 2 ∨ G.1 21 n = 3 ∨ (G.1 21 n = 4 ∧ (G.1 24 n = -1 ∨ pDs G n < 100000)))
def pDv (G : PG) (n : Nat) : Int64 := if G.1 21 n = 0 then vof 1 (G.1 22 n) else if G.1 21 n = 1 then vof 3 0 else if G.1 21 n = 2 then vof 2 0 else if G.1 21 n = 3 then vof 5 (G.1 22 n) else if G.1 24 n = -1 then vof 4 0 else vof 6 (nI (pDs G n))
/-- a shape: what lies above the base: a value that waits (none), or the binding of a slot -/
abbrev Shp := List (Option Nat)
def Gb (G : PG) (la : Bool) (x e : Nat) : Prop := (la = true ∧ G.1 1 x = 34 ∧ e = x + 1) ∨ (la = false ∧ e = x)
def Vrb (G : PG) (L : Nat) (S : Shp) (n pc o : Nat) : Prop :=
  (G.1 26 n = 1 ∧ ∃ j s, j < 100000 ∧ s < 100000 ∧ G.1 1 pc = nI o ∧ G.1 2 pc = nI j ∧ G.1 27 n = nI s ∧ S[j]? = some (some s)) ∨
  (G.1 26 n = 2 ∧ ∃ k, k < pFr G L ∧ G.1 1 pc = nI (o + 1) ∧ G.1 2 pc = nI k ∧ G.1 27 n = nI (pKp G L k)) ∨
  (G.1 26 n = 3 ∧ ∃ g, g < pDf G ∧ G.1 1 pc = nI (o + 2) ∧ G.1 2 pc = nI g ∧ G.1 27 n = nI g)
/-- one operation that puts a value on the stack -/
def Lf (G : PG) (L : Nat) (S : Shp) (n pc : Nat) : Prop :=
  (G.1 21 n = 0 ∧ G.1 1 pc = 1 ∧ G.1 2 pc = G.1 22 n) ∨ (G.1 21 n = 1 ∧ G.1 1 pc = 3 ∧ G.1 2 pc = 0) ∨ (G.1 21 n = 2 ∧ G.1 1 pc = 2 ∧ G.1 2 pc = 0) ∨
  (G.1 21 n = 3 ∧ G.1 26 n = 4 ∧ ∃ i, i < 20 ∧ G.1 1 pc = 8 ∧ G.1 2 pc = nI i ∧ G.1 27 n = nI (i + 11)) ∨
  (G.1 21 n = 3 ∧ Vrb G L S n pc 16)
def Bod (G : PG) (K : Nat → Bool → Nat → Nat → Prop) (la : Bool) : List Nat → Nat → Nat → Prop
  | [], _, _ => False
  | [a], pc, e => K a la pc e
  | a :: b :: l, pc, e => ∃ x, K a false pc x ∧ G.1 1 x = 30 ∧ Bod G K la (b :: l) (x + 1) e
def Prs (K : Nat → Shp → Nat → Nat → Prop) : List Nat → Shp → Nat → Nat → Prop
  | [], _, pc, e => e = pc
  | a :: l, S, pc, e => ∃ x, K a S pc x ∧ Prs K l (S ++ [none]) x e
def Lrs (G : PG) (K : Nat → Nat → Nat → Prop) : List Nat → Nat → Nat → Nat → Prop
  | [], _, pc, e => e = pc
  | v :: l, d, pc, e => ∃ x, K v pc x ∧ G.1 1 x = 23 ∧ G.1 2 x = nI d ∧ Lrs G K l (d + 1) (x + 1) e
def Unt (G : PG) (K : Nat → Bool → Nat → Nat → Prop) (la : Bool) (o : Int32) : List Nat → Nat → Nat → Prop
  | [], _, _ => False
  | [a], pc, e => K a la pc e
  | a :: b :: l, pc, e => ∃ x, K a false pc x ∧ x < e ∧ G.1 1 x = o ∧ G.1 2 x = nI e ∧ Unt G K la o (b :: l) (x + 1) e
def bnd (s k : Nat) : Shp := (List.range k).map (fun i => some (s + i))
/-- the pairs of a let and their values -/
def Pvs (G : PG) : List Nat → List Nat → Prop
  | [], [] => True
  | c :: l, v :: m => (∃ a, Chn G (G.1 24 c) [a, v]) ∧ Pvs G l m
  | _, _ => False
def Sld (G : PG) (la : Bool) (k y e : Nat) : Prop := (la = true ∧ e = y) ∨ (la = false ∧ G.1 1 y = 31 ∧ G.1 2 y = nI k ∧ e = y + 1)
/-- what a lambda keeps, where it is closed -/
def Kps (G : PG) (L : Nat) (S : Shp) (M : Nat) : Prop := (∀ j, j < pFr G M → ∃ k, k < pFr G M ∧ pKp G M k = j) ∧ ∀ k, k < pFr G M → pKp G M k < pFr G M ∧ ∃ w, w < 1000 ∧ G.1 9 (pKs G M + k) = nI w ∧
  ((w % 2 = 0 ∧ ∃ s, s < 100000 ∧ G.1 38 (256 * M + pKp G M k) = 1 ∧ G.1 39 (256 * M + pKp G M k) = nI s ∧ S[w / 2]? = some (some s)) ∨
   (w % 2 = 1 ∧ w / 2 < pFr G L ∧ G.1 38 (256 * M + pKp G M k) = 2 ∧ G.1 39 (256 * M + pKp G M k) = nI (pKp G L (w / 2))))
/-- the code of node n, from pc to e, where the shape is S, in lambda L (0: the row) -/
def Cod (G : PG) (L : Nat) : Nat → Nat → Bool → Shp → Nat → Nat → Prop
  | 0, _, _, _, _, _ => False
  | f + 1, n, la, S, pc, e => n < pNn G ∧ S.length < pDm G L ∧ pc < e ∧ e ≤ pCz G ∧
    ((Lf G L S n pc ∧ Gb G la (pc + 1) e) ∨
     (G.1 21 n = 4 ∧ ∃ c l w, Chn G (G.1 24 n) (c :: l) ∧ Fw G c w ∧
      ((w = 1 ∧ ∃ a, l = [a] ∧ pDl G a ∧ vof (G.1 1 pc) (G.1 2 pc) = pDv G a ∧ (G.1 1 pc = 1 ∨ G.1 1 pc = 2 ∨ G.1 1 pc = 3 ∨ G.1 1 pc = 4 ∨ G.1 1 pc = 5 ∨ G.1 1 pc = 6) ∧ Gb G la (pc + 1) e) ∨
       (w = 2 ∧ ∃ M x, 1 ≤ M ∧ M ≤ pLm G ∧ G.1 27 n = nI M ∧ G.1 1 pc = 25 ∧ G.1 2 pc = nI (M - 1) ∧ G.1 1 (pc + 1) = 26 ∧ G.1 2 (pc + 1) = nI x ∧ pc + 1 < x ∧ Kps G L S M ∧ Gb G la x e) ∨
       (w = 3 ∧ ∃ a b d x y z, l = [a, b, d] ∧ Cod G L f a false S pc x ∧ G.1 1 x = 27 ∧ G.1 2 x = nI z ∧ Cod G L f b la S (x + 1) y ∧ ((la = true ∧ z = y) ∨ (la = false ∧ G.1 1 y = 26 ∧ G.1 2 y = nI e ∧ z = y + 1)) ∧ Cod G L f d la S z e) ∨
       (w = 4 ∧ ∃ i b ps vs s x y, l = i :: b ∧ Chn G (G.1 24 i) ps ∧ Pvs G ps vs ∧ ps.length ≤ 8 ∧ G.1 27 n = nI s ∧ s + ps.length ≤ pSn G L ∧ (∀ t, some t ∈ S → t < s) ∧ S.length + ps.length ≤ pDm G L ∧ Prs (fun v S pc e => Cod G L f v false S pc e) vs S pc x ∧ Bod G (fun a la pc e => Cod G L f a la (S ++ bnd s ps.length) pc e) la b x y ∧ Sld G la ps.length y e) ∨
       (w = 5 ∧ ∃ i b ps vs s x y, l = i :: b ∧ Chn G (G.1 24 i) ps ∧ Pvs G ps vs ∧ ps.length ≤ 8 ∧ G.1 27 n = nI s ∧ s + ps.length ≤ pSn G L ∧ (∀ t, some t ∈ S → t < s) ∧ S.length + ps.length ≤ pDm G L ∧ G.1 1 pc = 22 ∧ G.1 2 pc = nI ps.length ∧ Lrs G (fun v pc e => Cod G L f v false (S ++ bnd s ps.length) pc e) vs S.length (pc + 1) x ∧ Bod G (fun a la pc e => Cod G L f a la (S ++ bnd s ps.length) pc e) la b x y ∧ Sld G la ps.length y e) ∨
       (w = 6 ∧ ∃ a v x, l = [a, v] ∧ Cod G L f v false S pc x ∧ Vrb G L S a x 19 ∧ Gb G la (x + 1) e) ∨
       (w = 10 ∧ ∃ a v x g, l = [a, v] ∧ Cod G L f v false S pc x ∧ g < pDf G ∧ G.1 26 a = 3 ∧ G.1 27 a = nI g ∧ G.1 1 x = 24 ∧ G.1 2 x = nI g ∧ la = false ∧ e = x + 1) ∨
       (w = 7 ∧ Bod G (fun a la pc e => Cod G L f a la S pc e) la l pc e) ∨
       ((w = 8 ∨ w = 9) ∧ ∃ x, Unt G (fun a la pc e => Cod G L f a la S pc e) la (if w = 8 then 28 else 29) l pc x ∧ ((l.length = 1 ∧ e = x) ∨ (1 < l.length ∧ Gb G la x e))) ∨
       (w = 0 ∧ l.length ≤ 8 ∧ ∃ x, Prs (fun v S pc e => Cod G L f v false S pc e) (c :: l) S pc x ∧ G.1 1 x = (if la then 33 else 32) ∧ G.1 2 x = nI l.length ∧ e = x + 1))))
/-- jumps and slides that lie between a value and what goes on with it -/
def Sil (G : PG) : Nat → Nat → Shp → Nat → Shp → Prop
  | 0, pc, S, pc1, S1 => pc = pc1 ∧ S = S1
  | k + 1, pc, S, pc1, S1 => (G.1 1 pc = 26 ∧ ∃ x, pc < x ∧ x ≤ pCz G ∧ G.1 2 pc = nI x ∧ Sil G k x S pc1 S1) ∨ (G.1 1 pc = 31 ∧ ∃ S' B, S = S' ++ B ∧ B.length ≤ 8 ∧ (∀ o, o ∈ B → o ≠ none) ∧ G.1 2 pc = nI B.length ∧ Sil G k (pc + 1) S' pc1 S1)
/-- the row's forms -/
def Rwc (G : PG) : List Nat → Nat → Prop
  | [], pc => G.1 1 pc = 36
  | a :: l, pc => ∃ x f, f ≤ 38 ∧ Cod G 0 f a false [] pc x ∧ G.1 1 x = 35 ∧ Rwc G l (x + 1)
abbrev TD := Nat × Int32 × Int32
def oI : Option Nat → Int32
  | none => -1
  | some n => nI n
/-- entries of the open call -/
def cnt : List TD → Nat
  | [] => 0
  | (k, _) :: td => if k = 8 then 0 else cnt td + 1
/-- room for entries; a form that is not in last place has an entry of its own call below it -/
def nr (td : List TD) (la : Bool) : Prop := la = false → ∃ t u, td = t :: u ∧ t.1 ≠ 8
def Fu (f : Nat) (td : List TD) (la : Bool) : Prop := f + cnt td < 40 ∧ nr td la
def Fvq (f : Nat) (td : List TD) (la : Bool) : Prop := f + cnt td ≤ 40 ∧ nr td la
/-- the procedure that works: its place in the class, its lambda -/
def Slf (pl : List (Nat × Nat)) (r : Option Nat) (s : Int32) (L : Nat) : Prop := (r = none ∧ s = -1 ∧ L = 0) ∨ ∃ i a, r = some i ∧ s = nI a ∧ pl[i]? = some (a, L)
/-- the shape against the boxes that lie on the stack and in the slots: 0 a value, 1 what was called, b + 2 the binding that is box b -/
def Cur (S : Shp) (sh sl : List Nat) : Prop := sh.length = S.length ∧ (∀ j : Nat, S[j]? = some none → sh[j]? = some 0) ∧ ∀ j s : Nat, S[j]? = some (some s) → ∃ b, sh[j]? = some (b + 2) ∧ sl[s]? = some (b + 2)
abbrev BK := Nat × Nat × Int32
/-- what goes on behind a form (la: one in last place) -/
def Kn (G : PG) (pl : List (Nat × Nat)) (cap : Nat) : List TD → Bool → Nat → Shp → Nat → List BK → List Nat → List Nat → Prop
  | [], _, _, _, _, _, _, _ => False
  | (k, n, m) :: td, la, pc, S, L, bk, sh, sl =>
    (∃ pc1 S1, ((la = true ∧ k = 8 ∧ S1 = S) ∨ (la = false ∧ ∃ j, Sil G j pc S pc1 S1)) ∧
    ((k = 8 ∧ (la = false → G.1 1 pc1 = 34) ∧ (∀ o, o ∈ S1 → o ≠ none) ∧ ∃ pb sb bk' sh' shb sl' slb Sb Lb rp, bk = (pb, sh'.length, sb) :: bk' ∧ sh = sh' ++ (shb ++ [1]) ∧ sl = sl' ++ slb ∧ n = nI sl'.length ∧ m = oI rp ∧ Slf pl rp sb Lb ∧ Cur Sb shb slb ∧ slb.length = pSn G Lb ∧ Sb.length < pDm G Lb ∧ sh'.length + pDm G Lb ≤ cap ∧ Kn G pl cap td false pb Sb Lb bk' sh' sl') ∨
     (k = 9 ∧ G.1 1 pc1 = 35 ∧ m = 1 ∧ L = 0 ∧ S1 = [] ∧ td = [] ∧ bk = [] ∧ sh = [] ∧ sl = [] ∧ ∃ l, Chn G n l ∧ Rwc G l (pc1 + 1)) ∨
     (k = 0 ∧ G.1 1 pc1 = 30 ∧ ∃ l f e la', Chn G n l ∧ Fu f td la' ∧ Bod G (fun a la pc e => Cod G L f a la S1 pc e) la' l (pc1 + 1) e ∧ Kn G pl cap td la' e S1 L bk sh sl) ∨
     (k = 1 ∧ G.1 1 pc1 = 27 ∧ ∃ i c a b d f y z e la', n = nI i ∧ i < pNn G ∧ Chn G (G.1 24 i) [c, a, b, d] ∧ Fu f td la' ∧ G.1 2 pc1 = nI z ∧ pc1 < z ∧ Cod G L f b la' S1 (pc1 + 1) y ∧ ((la' = true ∧ z = y) ∨ (la' = false ∧ G.1 1 y = 26 ∧ G.1 2 y = nI e ∧ y < e ∧ z = y + 1)) ∧ Cod G L f d la' S1 z e ∧ Kn G pl cap td la' e S1 L bk sh sl) ∨
     ((k = 2 ∨ k = 3) ∧ G.1 1 pc1 = (if k = 2 then 28 else 29) ∧ ∃ l f x e la', Chn G n l ∧ Fu f td la' ∧ G.1 2 pc1 = nI x ∧ pc1 < x ∧ x ≤ pCz G ∧ Unt G (fun a la pc e => Cod G L f a la S1 pc e) la' (if k = 2 then 28 else 29) l (pc1 + 1) x ∧ Gb G la' x e ∧ Kn G pl cap td la' e S1 L bk sh sl) ∨
     (k = 4 ∧ ∃ i c a v w, (n = nI i ∧ cnt td < 40) ∧ i < pNn G ∧ Chn G (G.1 24 i) [c, a, v] ∧ Fw G c w ∧ ((w = 6 ∧ Vrb G L S1 a pc1 19) ∨ (w = 10 ∧ ∃ g, g < pDf G ∧ G.1 26 a = 3 ∧ G.1 27 a = nI g ∧ G.1 1 pc1 = 24 ∧ G.1 2 pc1 = nI g)) ∧ Kn G pl cap td false (pc1 + 1) S1 L bk sh sl) ∨
     (k = 5 ∧ ∃ i p c li b ps0 ps ps' vs s f x y e S0 la', n = nI p ∧ p < pNn G ∧ m = nI i ∧ i < pNn G ∧ Chn G (G.1 24 i) (c :: li :: b) ∧ Chn G (G.1 24 li) ps0 ∧ ps0 = ps ++ p :: ps' ∧ Pvs G ps' vs ∧ ps0.length ≤ 8 ∧ Fu f td la' ∧ S1 = S0 ++ List.replicate ps.length none ∧ Chn G (G.1 25 p) ps' ∧ G.1 27 i = nI s ∧ s + ps0.length ≤ pSn G L ∧ (∀ t, some t ∈ S0 → t < s) ∧ S0.length + ps0.length ≤ pDm G L ∧ Prs (fun v S pc e => Cod G L f v false S pc e) vs (S1 ++ [none]) pc1 x ∧ Bod G (fun a la pc e => Cod G L f a la (S0 ++ bnd s ps0.length) pc e) la' b x y ∧ Sld G la' ps0.length y e ∧ Kn G pl cap td la' e S0 L bk sh sl) ∨
     (k = 6 ∧ ∃ i p c li b ps0 ps ps' vs s f x y e S0 la', n = nI p ∧ p < pNn G ∧ m = nI i ∧ i < pNn G ∧ Chn G (G.1 24 i) (c :: li :: b) ∧ Chn G (G.1 24 li) ps0 ∧ ps0 = ps ++ p :: ps' ∧ Pvs G ps' vs ∧ ps0.length ≤ 8 ∧ Fu f td la' ∧ S1 = S0 ++ bnd s ps0.length ∧ Chn G (G.1 25 p) ps' ∧ G.1 27 i = nI s ∧ s + ps0.length ≤ pSn G L ∧ G.1 1 pc1 = 23 ∧ G.1 2 pc1 = nI (S0.length + ps.length) ∧ Lrs G (fun v pc e => Cod G L f v false S1 pc e) vs (S0.length + ps.length + 1) (pc1 + 1) x ∧ Bod G (fun a la pc e => Cod G L f a la S1 pc e) la' b x y ∧ Sld G la' ps0.length y e ∧ Kn G pl cap td la' e S0 L bk sh sl) ∨
     (k = 7 ∧ ∃ i p c q q' f x S0 la', n = nI p ∧ p < pNn G ∧ m = nI i ∧ i < pNn G ∧ Chn G (G.1 24 i) (c :: q') ∧ q'.length ≤ 8 ∧ c :: q' = q ++ p :: (c :: q').drop (q.length + 1) ∧ Chn G (G.1 25 p) ((c :: q').drop (q.length + 1)) ∧ Fu f td la' ∧ S1 = S0 ++ List.replicate q.length none ∧ Prs (fun v S pc e => Cod G L f v false S pc e) ((c :: q').drop (q.length + 1)) (S1 ++ [none]) pc1 x ∧ G.1 1 x = (if la' then 33 else 32) ∧ G.1 2 x = nI q'.length ∧ S0.length < pDm G L ∧ Kn G pl cap td la' (x + 1) S0 L bk sh sl)))
