/-! BUILD. What the reference makes of the same tree: meanings and numbers of nodes, lambdas, what they keep; the least fault -/
abbrev SGe := Nat × Nat × Nat
abbrev MR := ((Nat → Int32) × (Nat → Int32)) × (List SGe × Nat × (Nat → Nat) × (Nat → Nat)) × (Nat × (Nat → Nat) × (Nat → Nat) × (Nat → Nat) × (Nat → List SGe)) × Nat × Option (Nat × Nat)
def mMe (y : MR) : Nat → Int32 := y.1.1
def mNu (y : MR) : Nat → Int32 := y.1.2
def mSg (y : MR) : List SGe := y.2.1.1
def mLv (y : MR) : Nat := y.2.1.2.1
def mAr (y : MR) : Nat → Nat := y.2.1.2.2.1
def mSl (y : MR) : Nat → Nat := y.2.1.2.2.2
def mLa (y : MR) : Nat := y.2.2.1.1
def mNd (y : MR) : Nat → Nat := y.2.2.1.2.1
def mNm (y : MR) : Nat → Nat := y.2.2.1.2.2.1
def mLs (y : MR) : Nat → Nat := y.2.2.1.2.2.2.1
def mFe (y : MR) : Nat → List SGe := y.2.2.1.2.2.2.2
def mFm (y : MR) : Nat := y.2.2.2.1
def mWr (y : MR) : Option (Nat × Nat) := y.2.2.2.2
def updN (f : Nat → Nat) (i v : Nat) : Nat → Nat := fun j => if j = i then v else f j
/-- the lesser of two faults: the place first, then the kind -/
def wMn (w : Option (Nat × Nat)) (k p : Nat) : Option (Nat × Nat) := match w with
  | none => some (k, p)
  | some (k0, p0) => if p0 < p ∨ (p0 = p ∧ k0 ≤ k) then some (k0, p0) else some (k, p)
def mW (k p : Nat) (y : MR) : MR := (y.1, y.2.1, y.2.2.1, mFm y, wMn (mWr y) k p)
/-- meaning and number of a node (the reference's node n is one less) -/
def mMn (n : Nat) (me nu : Int32) (y : MR) : MR := ((upd (mMe y) (n - 1) me, upd (mNu y) (n - 1) nu), y.2)
def mN1 (n : Nat) (nu : Int32) (y : MR) : MR := ((mMe y, upd (mNu y) (n - 1) nu), y.2)
def mFd (j : Nat) (sg : List SGe) : Option Nat := (List.range sg.length).reverse.find? (fun i => (sg.getD i (0, 0, 0)).1 == j)
def mFs (y : MR) (L : Nat) (l : List SGe) : MR := (y.1, y.2.1, (mLa y, mNd y, mNm y, mLs y, fun M => if M = L then l else mFe y M), y.2.2.2)
/-- the place of another body's binding among those that level l keeps -/
def mFr : Nat → Nat → MR → Nat × MR
  | 0, _, y => (0, y)
  | l + 1, s, y =>
    if s ∈ (mFe y (mAr y (l + 1))).map (·.1) then (((mFe y (mAr y (l + 1))).map (·.1)).idxOf s, y)
    else if ((mSg y).getD s (0, 0, 0)).2.1 = mAr y l then ((mFe y (mAr y (l + 1))).length, mFs y (mAr y (l + 1)) (mFe y (mAr y (l + 1)) ++ [(s, 1, ((mSg y).getD s (0, 0, 0)).2.2)]))
    else ((mFe (mFr l s y).2 (mAr y (l + 1))).length, mFs (mFr l s y).2 (mAr y (l + 1)) (mFe (mFr l s y).2 (mAr y (l + 1)) ++ [(s, 2, (mFr l s y).1)]))
def mIn (j : Nat) (y : MR) : MR := (y.1, (mSg y ++ [(j, mAr y (mLv y), mSl y (mLv y))], mLv y, mAr y, updN (mSl y) (mLv y) (mSl y (mLv y) + 1)), (mLa y, mNd y, mNm y, updN (mLs y) (mAr y (mLv y)) (max (mLs y (mAr y (mLv y))) (mSl y (mLv y) + 1)), mFe y), y.2.2.2)
def mTk (k : Nat) (y : MR) : MR := (y.1, ((mSg y).take k, y.2.1.2), y.2.2)
def mSs (s : Nat) (y : MR) : MR := (y.1, (mSg y, mLv y, mAr y, updN (mSl y) (mLv y) s), y.2.2)
section MCM
variable (N : NS)
def mUs (n : Nat) (y : MR) : MR :=
  if nCn N n < 10 then mW 3 (nQ N n) y
  else if nCn N n < 30 then mMn n 4 (nI (nCn N n + 1)) y
  else match mFd (nCn N n) (mSg y) with
  | some s => if ((mSg y).getD s (0, 0, 0)).2.1 = mAr y (mLv y) then mMn n 1 (nI ((mSg y).getD s (0, 0, 0)).2.2) y else mMn n 2 (nI (mFr (mLv y) s y).1) (mFr (mLv y) s y).2
  | none => if nCn N n ∈ gdf N then mMn n 3 (dA N (nCn N n)) y else mW 4 (nQ N n) y
/-- a name is bound: no word, and none in sight from w on -/
def mBs (n w : Nat) (y : MR) : MR := if nCn N n < 30 ∨ nCn N n ∈ ((mSg y).drop w).map (·.1) then mW 5 (nQ N n) y else y
def mBp (b : List Nat) (n : Nat) (y : MR) : MR := if nCn N n < 30 ∨ nCn N n ∈ b then mW 5 (nQ N n) y else y
/-- names bound and in sight -/
def mBi (w : Nat) : List Nat → MR → MR
  | [], y => y
  | n :: l, y => mBi w l (mIn (nCn N n) (mBs N n w y))
def mLt (F : Nat → MR → MR) (rec : Bool) : List Nat → List Nat → MR → MR
  | [], _, y => y
  | p :: l, b, y => mLt F rec l (b ++ [nCn N (prt N p 0)]) (F (prt N p 1) (if rec then y else mBp N b (prt N p 0) y))
def mBo (F : Nat → MR → MR) (l : List Nat) (y : MR) : MR := l.foldl (fun y a => F a y) y
def mLet (F : Nat → MR → MR) (rec : Bool) (n : Nat) (ps bo : List Nat) (y : MR) : MR :=
  let y1 := mN1 n (nI (mSl y (mLv y))) y
  let y2 := if rec then mBi N (mSg y).length (ps.map (fun p => prt N p 0)) y1 else y1
  let y3 := mLt N F rec ps [] y2
  let y4 := if rec then y3 else (ps.map (fun p => nCn N (prt N p 0))).foldl (fun y j => mIn j y) y3
  mSs (mSl y (mLv y)) (mTk (mSg y).length (mBo F bo y4))
def mNl (n k : Nat) (y : MR) : MR := (y.1, (mSg y, mLv y + 1, updN (mAr y) (mLv y + 1) (mLa y + 1), updN (mSl y) (mLv y + 1) 0), (mLa y + 1, updN (mNd y) (mLa y + 1) (n - 1), updN (mNm y) (mLa y + 1) k, updN (mLs y) (mLa y + 1) 0, fun M => if M = mLa y + 1 then [] else mFe y M), y.2.2.2)
def mLv1 (y : MR) : MR := (y.1, (mSg y, mLv y - 1, y.2.1.2.2), y.2.2)
def mLam (F : Nat → MR → MR) (n : Nat) (ns bo : List Nat) (y : MR) : MR :=
  let y1 := if 120 < mLa y + 1 then mW 6 (nQ N n) y else y
  mLv1 (mTk (mSg y).length (mBo F bo (mBi N (mSg y).length ns (mNl n ns.length (mN1 n (nI (mLa y + 1)) y1)))))
def mCt (n : Nat) (y : MR) : MR := if 1500 < mFm y + 1 then (y.1, y.2.1, y.2.2.1, mFm y + 1, wMn (mWr y) 6 (nQ N n)) else (y.1, y.2.1, y.2.2.1, mFm y + 1, mWr y)
def mF : Nat → Nat → Bool → MR → MR
  | 0, _, _, y => y
  | f + 1, n, row, y =>
    if nK N n = 5 then mUs N n (mCt N n y)
    else if nK N n ≠ 6 then mCt N n y
    else if shp N n (wrd N n) row = false then mW 3 (nQ N n) (mCt N n y)
    else if wrd N n = 1 then mCt N n y
    else if wrd N n = 2 then mLam N (fun a => mF f a false) n (pts N (prt N n 1)) ((pts N n).drop 2) (mCt N n y)
    else if wrd N n = 4 then mLet N (fun a => mF f a false) false n (pts N (prt N n 1)) ((pts N n).drop 2) (mCt N n y)
    else if wrd N n = 5 then mLet N (fun a => mF f a false) true n (pts N (prt N n 1)) ((pts N n).drop 2) (mCt N n y)
    else if wrd N n = 6 then mF f (prt N n 2) false (if nCn N (prt N n 1) < 30 then mW 5 (nQ N (prt N n 1)) (mCt N n y) else mUs N (prt N n 1) (mCt N n y))
    else if wrd N n = 10 then mF f (prt N n 2) false (mMn (prt N n 1) 3 (dA N (nCn N (prt N n 1))) (if nCn N (prt N n 1) < 30 then mW 5 (nQ N (prt N n 1)) (mCt N n y) else mCt N n y))
    else if wrd N n = 0 then mBo (fun a => mF f a false) (pts N n) (mCt N n y)
    else mBo (fun a => mF f a false) ((pts N n).drop 1) (mCt N n y)
/-- the row: first what is defined, then its forms -/
def mDf : List Nat → List Nat → Option (Nat × Nat) → Option (Nat × Nat)
  | [], _, w => w
  | n :: l, b, w => mDf l (gdF N b n) (if gdF N b n ≠ b ∧ 100 ≤ b.length then wMn w 6 (nQ N (prt N n 1)) else w)
def mY0 : MR := ((fun _ => 0, fun _ => 0), ([], 0, fun _ => 0, fun _ => 0), (0, fun _ => 0, fun _ => 0, fun _ => 0, fun _ => []), 0, mDf N (pts N 0) [] none)
def mAll : MR := (pts N 0).foldl (fun y a => mF N 40 a true y) (mY0 N)
end MCM
