/-! BUILD. What the program under proof makes of a tree: code, data, lambdas, what bodies keep; the first fault -/
/-- a lambda: where its code begins, how many it wants, how deep, where its sources begin, what it keeps -/
abbrev LMe := Nat × Nat × Nat × Nat × List Nat
/-- a field of the data: the list node that begins here (0: none), and what was put there -/
abbrev DTe := Nat × Option Int64
abbrev SCe := Nat × Nat × Nat
abbrev CR := (List (Int32 × Int32) × List DTe × List LMe × List Nat) × (List SCe × Nat × (Nat → List Nat)) × (Nat × Nat × Nat) × Option (Nat × Nat)
def rCd (z : CR) : List (Int32 × Int32) := z.1.1
def rDt (z : CR) : List DTe := z.1.2.1
def rLm (z : CR) : List LMe := z.1.2.2.1
def rSr (z : CR) : List Nat := z.1.2.2.2
def rSc (z : CR) : List SCe := z.2.1.1
def rBd (z : CR) : Nat := z.2.1.2.1
def rKp (z : CR) : Nat → List Nat := z.2.1.2.2
def rFm (z : CR) : Nat := z.2.2.1.1
def rDp (z : CR) : Nat := z.2.2.1.2.1
def rDx (z : CR) : Nat := z.2.2.1.2.2
def rFl (z : CR) : Option (Nat × Nat) := z.2.2.2
/-- an operation, and the depth behind it -/
def cE (o v : Int32) (dp : Nat) (z : CR) : CR := ((rCd z ++ [(o, v)], z.1.2), z.2.1, (rFm z, dp, max (rDx z) dp), rFl z)
def cDp (dp : Nat) (z : CR) : CR := (z.1, z.2.1, (rFm z, dp, rDx z), rFl z)
def cDD (dp dx : Nat) (z : CR) : CR := (z.1, z.2.1, (rFm z, dp, dx), rFl z)
def cTl (k p : Nat) (z : CR) : CR := (z.1, z.2.1, z.2.2.1, if rFl z = none then some (k, p) else rFl z)
/-- a jump leads to what comes next -/
def cLd (x : Nat) (z : CR) : CR := (((rCd z).set x (((rCd z).getD x (0, 0)).1, nI (rCd z).length), z.1.2), z.2)
def cBi (name slot : Nat) (z : CR) : CR := (z.1, (rSc z ++ [(name, slot, rBd z)], z.2.1.2), z.2.2)
def cUn (k : Nat) (z : CR) : CR := (z.1, ((rSc z).take k, z.2.1.2), z.2.2)
def cEn (z : CR) : CR := (z.1, (rSc z, rBd z + 1, fun l => if l = rBd z + 1 then [] else rKp z l), z.2.2)
def cLv (z : CR) : CR := (z.1, (rSc z, rBd z - 1, rKp z), z.2.2)
def cDt (dt : List DTe) (z : CR) : CR := ((rCd z, dt, z.1.2.2), z.2)
/-- the innermost binding of a name -/
def cFd (j : Nat) (sc : List SCe) : Option Nat := (List.range sc.length).reverse.find? (fun i => (sc.getD i (0, 0, 0)).1 == j)
def cKp (b : Nat) (z : CR) : CR := (z.1, (rSc z, rBd z, fun l => if ((rSc z).getD b (0, 0, 0)).2.2 < l ∧ l ≤ rBd z ∧ b ∉ rKp z l then rKp z l ++ [b] else rKp z l), z.2.2)
section CCM
variable (N : NS) (mt : List Nat)
def dA (j : Nat) : Int32 := if j ∈ gdf N then nI ((gdf N).idxOf j) else -1
def cCt (n : Nat) (z : CR) : CR := if 1500 < rFm z + 1 then cTl 6 (nQ N n) (z.1, z.2.1, (rFm z + 1, rDp z, rDx z), rFl z) else (z.1, z.2.1, (rFm z + 1, rDp z, rDx z), rFl z)
def cGb (la : Bool) (z : CR) : CR := if la then cE 34 0 (rDp z) z else z
/-- the operation that fits the name's binding -/
def cVr (j : Nat) (o : Nat) (dp : Nat) (z : CR) : CR := match cFd j (rSc z) with
  | none => cE (nI (o + 2)) (dA N j) dp z
  | some b => if ((rSc z).getD b (0, 0, 0)).2.2 = rBd z then cE (nI o) (nI ((rSc z).getD b (0, 0, 0)).2.1) dp z else cE (nI (o + 1)) (nI ((rKp (cKp b z) (rBd z)).idxOf b)) dp (cKp b z)
def cMn (j : Nat) (z : CR) : Bool := (cFd j (rSc z)).isSome || decide (j ∈ gdf N)
def cNm (n : Nat) (z : CR) : CR := if nCn N n < 10 then cTl 3 (nQ N n) z else if nCn N n < 30 then cE 8 (nI (nCn N n - 10)) (rDp z + 1) z else if cMn N (nCn N n) z then cVr N (nCn N n) 16 (rDp z + 1) z else cTl 4 (nQ N n) z
/-- a name that is bound: no word, and none of those before it -/
def cCk (b : List Nat) (n : Nat) (z : CR) : CR := if 30 ≤ nCn N n ∧ nCn N n ∉ b then z else cTl 5 (nQ N n) z
def cBo (F : Nat → Bool → CR → CR) (la : Bool) : List Nat → CR → CR
  | [], z => z
  | [a], z => F a la z
  | a :: b :: l, z => cBo F la (b :: l) (cE 30 0 (rDp (F a false z) - 1) (F a false z))
def cUt (F : Nat → Bool → CR → CR) (la : Bool) (o : Int32) : List Nat → List Nat → CR → CR
  | [], _, z => z
  | [a], xs, z => xs.foldl (fun z x => cLd x z) (F a la z)
  | a :: b :: l, xs, z => cUt F la o (b :: l) ((rCd (F a false z)).length :: xs) (cE o (oI xs.head?) (rDp (F a false z) - 1) (F a false z))
def cLt (F : Nat → Bool → CR → CR) : List Nat → List Nat → CR → CR
  | [], _, z => z
  | p :: l, b, z => cLt F l (b ++ [nCn N (prt N p 0)]) (F (prt N p 1) false (cCk N b (prt N p 0) z))
def cLr (F : Nat → Bool → CR → CR) : List Nat → List Nat → Nat → CR → CR
  | [], _, _, z => z
  | p :: l, b, d, z => cLr F l (b ++ [nCn N (prt N p 0)]) (d + 1) (cE 23 (nI d) (rDp (F (prt N p 1) false (cCk N b (prt N p 0) z)) - 1) (F (prt N p 1) false (cCk N b (prt N p 0) z)))
def cBp : List Nat → Nat → CR → CR
  | [], _, z => z
  | p :: l, d, z => cBp l (d + 1) (cBi (nCn N (prt N p 0)) d z)
def cBn : List Nat → List Nat → Nat → CR → CR
  | [], _, _, z => z
  | p :: l, b, i, z => cBn l (b ++ [nCn N p]) (i + 1) (cBi (nCn N p) i (cCk N b p z))
def cLe (la : Bool) (ar st k : Nat) (z : CR) : CR := cDp (st + 1) (if la then cUn ar z else cE 31 (nI k) (rDp z) (cUn ar z))
/-- where the body around finds a binding that this body keeps -/
def cSo (z : CR) (b : Nat) : Nat := if ((rSc z).getD b (0, 0, 0)).2.2 + 1 = rBd z then 2 * ((rSc z).getD b (0, 0, 0)).2.1 else 2 * (rKp z (rBd z - 1)).idxOf b + 1
def cEl (m en : Nat) (z : CR) : CR := ((rCd z, rDt z, (rLm z).set m (en, ((rLm z).getD m (0, 0, 0, 0, [])).2.1, rDx z, (rSr z).length, rKp z (rBd z)), rSr z ++ (rKp z (rBd z)).map (cSo z)), z.2)
def cAl (w : Nat) (z : CR) : CR := ((rCd z, rDt z, rLm z ++ [(0, w, 0, 0, [])], rSr z), z.2)
def dU (dt : List DTe) (s : Nat) (v : Int64) : List DTe := dt.set s ((dt.getD s (0, none)).1, some v)
/-- the datum of a quote, and the data behind it -/
def cDmL (F : Nat → List DTe → Int64 × List DTe) : List Nat → Nat → List DTe → List DTe
  | [], _, dt => dt
  | p :: l, s, dt => cDmL F l (s + 2) (dU (dU (F p dt).2 s (F p dt).1) (s + 1) (if l = [] then vof 4 0 else vof 6 (nI (s + 2))))
def cDm : Nat → Nat → List DTe → Int64 × List DTe
  | 0, _, dt => (0, dt)
  | f + 1, n, dt => if nK N n = 5 then (vof 5 (nI (mt.idxOf (nCn N n))), dt) else if nK N n ≠ 6 then (vof (nK N n) (nC N n), dt) else if pts N n = [] then (vof 4 0, dt) else (vof 6 (nI dt.length), cDmL (cDm f) (pts N n) dt.length (dt ++ (n, none) :: List.replicate (2 * (pts N n).length - 1) (0, none)))
def cIf (F : Nat → Bool → CR → CR) (la : Bool) (a b d : Nat) (z : CR) : CR :=
  let z1 := F a false z
  let z2 := F b la (cE 27 0 (rDp z1 - 1) z1)
  let z3 := if la then z2 else cE 26 0 (rDp z2) z2
  let z4 := F d la (cLd (rCd z1).length (cDp (rDp z3 - 1) z3))
  if la then z4 else cLd (rCd z2).length z4
def cLet (F : Nat → Bool → CR → CR) (la : Bool) (ps bo : List Nat) (z : CR) : CR :=
  cLe la (rSc z).length (rDp z) ps.length (cBo F la bo (cBp N ps (rDp z) (cLt N F ps [] z)))
def cLrc (F : Nat → Bool → CR → CR) (la : Bool) (ps bo : List Nat) (z : CR) : CR :=
  cLe la (rSc z).length (rDp z) ps.length (cBo F la bo (cLr N F ps [] (rDp z) (cE 22 (nI ps.length) (rDp z + ps.length) (cBp N ps (rDp z) z))))
def cLa (F : Nat → Bool → CR → CR) (la : Bool) (n : Nat) (ns bo : List Nat) (z : CR) : CR :=
  if 120 ≤ (rLm z).length then cTl 6 (nQ N n) z else
  let z1 := cE 26 0 (rDp z + 1) (cE 25 (nI (rLm z).length) (rDp z + 1) (cAl ns.length z))
  let z2 := cBo F true bo (cDD ns.length ns.length (cBn N ns [] 0 (cEn z1)))
  cGb la (cLd ((rCd z).length + 1) (cDD (rDp z1) (rDx z1) (cUn (rSc z).length (cLv (cEl (rLm z).length ((rCd z).length + 2) z2)))))
def cSt (F : Nat → Bool → CR → CR) (la : Bool) (s v : Nat) (z : CR) : CR :=
  let z1 := F v false (if nCn N s < 30 then cTl 5 (nQ N s) z else if cMn N (nCn N s) z then z else cTl 4 (nQ N s) z)
  cGb la (if rFl z1 = none then cVr N (nCn N s) 19 (rDp z1) z1 else z1)
def cDf (F : Nat → Bool → CR → CR) (s v : Nat) (z : CR) : CR :=
  let z1 := F v false (if nCn N s < 30 then cTl 5 (nQ N s) z else if 100 ≤ (gdf N).idxOf (nCn N s) ∧ nCn N s ∈ gdf N then cTl 6 (nQ N s) z else z)
  cE 24 (dA N (nCn N s)) (rDp z1) z1
def cCl (F : Nat → Bool → CR → CR) (la : Bool) (ps : List Nat) (z : CR) : CR :=
  let z1 := ps.foldl (fun z a => F a false z) z
  cE (if la then 33 else 32) (nI (ps.length - 1)) (rDp z1 + 1 - ps.length) z1
def cQt (f : Nat) (la : Bool) (a : Nat) (z : CR) : CR :=
  cGb la (cE (vkd (cDm N mt f a (rDt z)).1) ((cDm N mt f a (rDt z)).1).toInt32 (rDp z + 1) (cDt (cDm N mt f a (rDt z)).2 z))
def cUn2 (F : Nat → Bool → CR → CR) (la : Bool) (o : Int32) (ps : List Nat) (z : CR) : CR := cGb (la && decide (1 < ps.length)) (cUt F la o ps [] z)
/-- one form; row: it stands in the row -/
def cF : Nat → Nat → Bool → Bool → CR → CR
  | 0, _, _, _, z => z
  | f + 1, n, la, row, z =>
    if rFl z ≠ none then z
    else if nK N n = 6 then
      (if shp N n (wrd N n) row = false then cTl 3 (nQ N n) z
       else if wrd N n = 3 then cIf (fun a la => cF f a la false) la (prt N n 1) (prt N n 2) (prt N n 3) (cCt N n z)
       else if wrd N n = 4 then cLet N (fun a la => cF f a la false) la (pts N (prt N n 1)) ((pts N n).drop 2) (cCt N n z)
       else if wrd N n = 5 then cLrc N (fun a la => cF f a la false) la (pts N (prt N n 1)) ((pts N n).drop 2) (cCt N n z)
       else if wrd N n = 7 then cBo (fun a la => cF f a la false) la ((pts N n).drop 1) (cCt N n z)
       else if wrd N n = 8 then cUn2 (fun a la => cF f a la false) la 28 ((pts N n).drop 1) (cCt N n z)
       else if wrd N n = 9 then cUn2 (fun a la => cF f a la false) la 29 ((pts N n).drop 1) (cCt N n z)
       else if wrd N n = 0 then cCl (fun a la => cF f a la false) la (pts N n) (cCt N n z)
       else if wrd N n = 2 then cLa N (fun a la => cF f a la false) la n (pts N (prt N n 1)) ((pts N n).drop 2) (cCt N n z)
       else if wrd N n = 1 then cQt N mt 40 la (prt N n 1) (cCt N n z)
       else if wrd N n = 6 then cSt N (fun a la => cF f a la false) la (prt N n 1) (prt N n 2) (cCt N n z)
       else cDf N (fun a la => cF f a la false) (prt N n 1) (prt N n 2) (cCt N n z))
    else if nK N n = 5 then cGb la (cCt N n (cNm N n z))
    else cGb la (cCt N n (cE (nK N n) (nC N n) (rDp z + 1) z))
/-- the row's forms -/
def cRw (f : Nat) : List Nat → CR → CR
  | [], z => z
  | a :: l, z => if rFl z ≠ none then z else cRw f l (cE 35 0 (rDp (cF N mt f a false true z) - 1) (cF N mt f a false true z))
def cZ0 : CR := (([], [], [], []), ([], 0, fun _ => []), (0, 0, 0), none)
def cAll : CR := cE 36 0 (rDp (cRw N mt 40 (pts N 0) cZ0)) (cRw N mt 40 (pts N 0) cZ0)
end CCM
