/-! THE ABSTRACT MACHINE. A heap of places (not addresses), typed fields, arrays; a frame is code, pc, locals, stack. 'run' is a function; part 11 proves that the machine of the Statement does what 'run' says. -/
abbrev Hp : Type := (Nat → Nat) × (Nat → Nat → Int32) × (Nat → Nat → Int64) × (Nat → Nat → Option Nat) × (Nat → Nat → Int32) × (Nat → Nat → Int64) × (Nat → Nat) × Nat × Nat × (Nat → Nat)
/-- the kind of a place: 0 to 12 an object of that class of vwCl, 13 byte[], 14 int[], 15 long[], 16 boolean[], 99 nothing yet -/
def hK (h : Hp) : Nat → Nat := h.1
/-- int and boolean fields -/
def hI (h : Hp) : Nat → Nat → Int32 := h.2.1
/-- long fields -/
def hL (h : Hp) : Nat → Nat → Int64 := h.2.2.1
/-- fields that refer -/
def hR (h : Hp) : Nat → Nat → Option Nat := h.2.2.2.1
/-- rows of int, byte, boolean -/
def hA (h : Hp) : Nat → Nat → Int32 := h.2.2.2.2.1
/-- rows of long -/
def hB (h : Hp) : Nat → Nat → Int64 := h.2.2.2.2.2.1
/-- lengths -/
def hN (h : Hp) : Nat → Nat := h.2.2.2.2.2.2.1
/-- how many places there are: the cells made -/
def hn (h : Hp) : Nat := h.2.2.2.2.2.2.2.1
/-- slots used -/
def hu (h : Hp) : Nat := h.2.2.2.2.2.2.2.2.1
/-- how often the row of a place has changed its place -/
def hv (h : Hp) : Nat → Nat := h.2.2.2.2.2.2.2.2.2
def up2 {α : Type} (f : Nat → Nat → α) (k i : Nat) (v : α) : Nat → Nat → α := fun a b => if a = k ∧ b = i then v else f a b
def pI (h : Hp) (k i : Nat) (v : Int32) : Hp := (h.1, up2 h.2.1 k i v, h.2.2)
def pL (h : Hp) (k i : Nat) (v : Int64) : Hp := (h.1, h.2.1, up2 h.2.2.1 k i v, h.2.2.2)
def pR (h : Hp) (k i : Nat) (v : Option Nat) : Hp := (h.1, h.2.1, h.2.2.1, up2 h.2.2.2.1 k i v, h.2.2.2.2)
def pA (h : Hp) (k : Nat) (f : Nat → Int32) : Hp := (h.1, h.2.1, h.2.2.1, h.2.2.2.1, va_up h.2.2.2.2.1 k f, h.2.2.2.2.2)
def pB (h : Hp) (k : Nat) (f : Nat → Int64) : Hp := (h.1, h.2.1, h.2.2.1, h.2.2.2.1, h.2.2.2.2.1, va_up h.2.2.2.2.2.1 k f, h.2.2.2.2.2.2)
/-- a new row of a kind, all 0 -/
def nA (h : Hp) (kd len : Nat) : Hp := (va_up h.1 (hn h) kd, h.2.1, h.2.2.1, h.2.2.2.1, va_up h.2.2.2.2.1 (hn h) (fun _ => 0), va_up h.2.2.2.2.2.1 (hn h) (fun _ => 0), va_up h.2.2.2.2.2.2.1 (hn h) len, hn h + 1, hu h + len, hv h)
/-- a new object of a class with that many fields -/
def nO (h : Hp) (ci nf : Nat) : Hp := (va_up h.1 (hn h) ci, va_up h.2.1 (hn h) (fun _ => 0), va_up h.2.2.1 (hn h) (fun _ => 0), va_up h.2.2.2.1 (hn h) (fun _ => none), h.2.2.2.2.1, h.2.2.2.2.2.1, h.2.2.2.2.2.2.1, hn h + 1, hu h + nf, hv h)
/-- two rows change their places -/
def swp {α : Type} (f : Nat → α) (k q : Nat) : Nat → α := fun j => if j = k then f q else if j = q then f k else f j
def hvS (f : Nat → Nat) (k q : Nat) : Nat → Nat := fun j => if j = k then f j + 1 else if j = q then f j + 1 else f j
def nS (h : Hp) (k q : Nat) : Hp := (h.1, h.2.1, h.2.2.1, h.2.2.2.1, swp h.2.2.2.2.1 k q, swp h.2.2.2.2.2.1 k q, swp h.2.2.2.2.2.2.1 k q, hn h, hu h, hvS (hv h) k q)
theorem hp_get (h : Hp) (k i : Nat) (x : Int32) (y : Int64) (r : Option Nat) (f : Nat → Int32) (g : Nat → Int64) (kd len : Nat) :
    (hK (pI h k i x) = hK h ∧ hI (pI h k i x) = up2 (hI h) k i x ∧ hL (pI h k i x) = hL h ∧ hR (pI h k i x) = hR h ∧ hA (pI h k i x) = hA h ∧ hB (pI h k i x) = hB h ∧ hN (pI h k i x) = hN h ∧ hn (pI h k i x) = hn h ∧ hu (pI h k i x) = hu h ∧ hv (pI h k i x) = hv h) ∧
    (hK (pL h k i y) = hK h ∧ hI (pL h k i y) = hI h ∧ hL (pL h k i y) = up2 (hL h) k i y ∧ hR (pL h k i y) = hR h ∧ hA (pL h k i y) = hA h ∧ hB (pL h k i y) = hB h ∧ hN (pL h k i y) = hN h ∧ hn (pL h k i y) = hn h ∧ hu (pL h k i y) = hu h ∧ hv (pL h k i y) = hv h) ∧
    (hK (pR h k i r) = hK h ∧ hI (pR h k i r) = hI h ∧ hL (pR h k i r) = hL h ∧ hR (pR h k i r) = up2 (hR h) k i r ∧ hA (pR h k i r) = hA h ∧ hB (pR h k i r) = hB h ∧ hN (pR h k i r) = hN h ∧ hn (pR h k i r) = hn h ∧ hu (pR h k i r) = hu h ∧ hv (pR h k i r) = hv h) ∧
    (hK (pA h k f) = hK h ∧ hI (pA h k f) = hI h ∧ hL (pA h k f) = hL h ∧ hR (pA h k f) = hR h ∧ hA (pA h k f) = va_up (hA h) k f ∧ hB (pA h k f) = hB h ∧ hN (pA h k f) = hN h ∧ hn (pA h k f) = hn h ∧ hu (pA h k f) = hu h ∧ hv (pA h k f) = hv h) ∧
    (hK (pB h k g) = hK h ∧ hI (pB h k g) = hI h ∧ hL (pB h k g) = hL h ∧ hR (pB h k g) = hR h ∧ hA (pB h k g) = hA h ∧ hB (pB h k g) = va_up (hB h) k g ∧ hN (pB h k g) = hN h ∧ hn (pB h k g) = hn h ∧ hu (pB h k g) = hu h ∧ hv (pB h k g) = hv h) ∧
    (hK (nA h kd len) = va_up (hK h) (hn h) kd ∧ hI (nA h kd len) = hI h ∧ hL (nA h kd len) = hL h ∧ hR (nA h kd len) = hR h ∧ hA (nA h kd len) = va_up (hA h) (hn h) (fun _ => 0) ∧ hB (nA h kd len) = va_up (hB h) (hn h) (fun _ => 0) ∧ hN (nA h kd len) = va_up (hN h) (hn h) len ∧ hn (nA h kd len) = hn h + 1 ∧ hu (nA h kd len) = hu h + len ∧ hv (nA h kd len) = hv h) ∧
    (hK (nO h kd len) = va_up (hK h) (hn h) kd ∧ hI (nO h kd len) = va_up (hI h) (hn h) (fun _ => 0) ∧ hL (nO h kd len) = va_up (hL h) (hn h) (fun _ => 0) ∧ hR (nO h kd len) = va_up (hR h) (hn h) (fun _ => none) ∧ hA (nO h kd len) = hA h ∧ hB (nO h kd len) = hB h ∧ hN (nO h kd len) = hN h ∧ hn (nO h kd len) = hn h + 1 ∧ hu (nO h kd len) = hu h + len ∧ hv (nO h kd len) = hv h) ∧
    (hK (nS h k i) = hK h ∧ hI (nS h k i) = hI h ∧ hL (nS h k i) = hL h ∧ hR (nS h k i) = hR h ∧ hA (nS h k i) = swp (hA h) k i ∧ hB (nS h k i) = swp (hB h) k i ∧ hN (nS h k i) = swp (hN h) k i ∧ hn (nS h k i) = hn h ∧ hu (nS h k i) = hu h ∧ hv (nS h k i) = hvS (hv h) k i) :=
  ⟨⟨rfl, rfl, rfl, rfl, rfl, rfl, rfl, rfl, rfl, rfl⟩, ⟨rfl, rfl, rfl, rfl, rfl, rfl, rfl, rfl, rfl, rfl⟩, ⟨rfl, rfl, rfl, rfl, rfl, rfl, rfl, rfl, rfl, rfl⟩, ⟨rfl, rfl, rfl, rfl, rfl, rfl, rfl, rfl, rfl, rfl⟩, ⟨rfl, rfl, rfl, rfl, rfl, rfl, rfl, rfl, rfl, rfl⟩, ⟨rfl, rfl, rfl, rfl, rfl, rfl, rfl, rfl, rfl, rfl⟩, ⟨rfl, rfl, rfl, rfl, rfl, rfl, rfl, rfl, rfl, rfl⟩, ⟨rfl, rfl, rfl, rfl, rfl, rfl, rfl, rfl, rfl, rfl⟩⟩
-- the types of fields
def tyOf (ci : Nat) : Nat → FieldType := match ci with
  | 1 => tyX0 | 2 => tyX1 | 3 => tyX2 | 4 => tyX3 | 5 => tyX4 | 6 => tyX5 | 7 => tyX6 | 8 => tyX7 | 9 => tyX9 | 10 => tyX11 | 11 => tyX12 | 12 => tyX13 | _ => fun _ => .int
def ftk (t : FieldType) : Nat := match t with
  | .int => 0 | .boolean => 1 | .long => 2 | _ => 3
def nfl (ci : Nat) : Nat := match vwCl[ci]? with
  | some q => q.2.2 | none => 0
/-- text constants have places from here on -/
def SB : Nat := 1000000
def rfv (r : Option Nat) : Value := match r with
  | none => .null | some q => .ref q
/-- what a field of a place holds -/
def fvA (h : Hp) (ci k i : Nat) : Value := match ftk (tyOf ci i) with
  | 0 => .int (hI h k i) | 1 => .int (hI h k i) | 2 => .long (hL h k i) | _ => rfv (hR h k i)
-- locals
abbrev ALS : Type := List (Nat × Value)
def lget : ALS → Nat → Option Value
  | [], _ => none
  | q :: t, i => if q.1 = i then some q.2 else lget t i
def lst1 (L : ALS) (i : Nat) (v : Value) : ALS := (i, v) :: L.filter (fun q => !(q.1 == i) && !(q.1 + 1 == i && q.2.category == 2))
def lst2 (L : ALS) (i : Nat) (v : Value) : ALS := (i, v) :: L.filter (fun q => !(q.1 == i) && (!(q.1 == i + 1) && !(q.1 + 1 == i && q.2.category == 2)))
-- the tables
/-- where a field link leads: (class that has the code, place in its pool) to (class, slot) -/
def fTab_0 : List ((Nat × Nat) × (Nat × Nat)) := [((0, 12), (1, 2)), ((0, 18), (1, 4)), ((0, 22), (1, 0)), ((0, 26), (1, 1)), ((0, 30), (1, 3)), ((0, 49), (1, 5)), ((0, 53), (1, 6)), ((0, 56), (1, 7)), ((0, 66), (7, 13)), ((0, 89), (7, 14)), ((0, 92), (8, 1)), ((0, 126), (7, 15)), ((1, 9), (2, 1)), ((1, 15), (2, 0)), ((2, 9), (3, 0)), ((2, 15), (7, 4))]
def fTab_1 : List ((Nat × Nat) × (Nat × Nat)) := [((2, 27), (7, 3)), ((2, 36), (3, 1)), ((2, 39), (3, 2)), ((3, 12), (4, 0)), ((3, 21), (4, 1)), ((3, 25), (4, 3)), ((3, 29), (4, 9)), ((3, 33), (4, 10)), ((3, 36), (4, 11)), ((3, 39), (4, 12)), ((3, 42), (4, 13)), ((3, 46), (4, 2)), ((3, 57), (7, 14)), ((3, 68), (4, 4)), ((3, 71), (4, 5)), ((3, 74), (4, 6))]
def fTab_2 : List ((Nat × Nat) × (Nat × Nat)) := [((3, 77), (4, 7)), ((3, 80), (4, 8)), ((3, 95), (4, 16)), ((3, 98), (4, 17)), ((3, 102), (4, 18)), ((3, 109), (4, 15)), ((3, 112), (4, 14)), ((3, 262), (6, 2)), ((3, 265), (6, 4)), ((4, 9), (5, 0)), ((4, 15), (5, 1)), ((4, 18), (5, 2)), ((4, 22), (5, 3)), ((4, 25), (5, 4)), ((4, 43), (5, 5)), ((4, 47), (5, 6))]
def fTab_3 : List ((Nat × Nat) × (Nat × Nat)) := [((4, 82), (5, 7)), ((4, 86), (5, 8)), ((4, 89), (5, 9)), ((5, 9), (6, 0)), ((5, 15), (6, 3)), ((5, 18), (6, 1)), ((5, 22), (6, 2)), ((5, 25), (6, 4)), ((6, 9), (7, 0)), ((6, 15), (7, 1)), ((6, 18), (7, 3)), ((6, 22), (7, 5)), ((6, 25), (7, 6)), ((6, 28), (7, 7)), ((6, 31), (7, 8)), ((6, 34), (7, 9))]
def fTab_4 : List ((Nat × Nat) × (Nat × Nat)) := [((6, 37), (7, 10)), ((6, 55), (7, 2)), ((6, 59), (7, 4)), ((6, 62), (7, 11)), ((6, 65), (7, 12)), ((6, 68), (7, 13)), ((6, 71), (7, 14)), ((6, 74), (7, 15)), ((7, 12), (8, 1)), ((7, 18), (8, 2)), ((7, 22), (8, 3)), ((7, 25), (8, 4)), ((7, 28), (8, 5)), ((7, 31), (8, 6)), ((7, 34), (8, 8)), ((7, 37), (8, 9))]
def fTab_5 : List ((Nat × Nat) × (Nat × Nat)) := [((7, 40), (8, 10)), ((7, 44), (8, 0)), ((7, 48), (8, 12)), ((7, 58), (8, 13)), ((7, 69), (8, 11)), ((7, 96), (8, 7)), ((9, 9), (9, 0)), ((9, 15), (9, 1)), ((9, 18), (9, 2)), ((9, 21), (9, 5)), ((9, 24), (9, 6)), ((9, 27), (9, 3)), ((9, 31), (9, 4)), ((11, 9), (10, 0)), ((11, 16), (10, 2)), ((11, 25), (10, 3))]
def fTab_6 : List ((Nat × Nat) × (Nat × Nat)) := [((11, 32), (10, 6)), ((11, 36), (10, 7)), ((11, 44), (10, 4)), ((11, 53), (10, 5)), ((11, 57), (10, 9)), ((11, 61), (10, 10)), ((11, 65), (10, 1)), ((11, 87), (10, 8)), ((11, 94), (2, 0)), ((11, 97), (2, 1)), ((11, 109), (4, 1)), ((11, 122), (4, 17)), ((11, 125), (4, 13)), ((11, 135), (7, 15)), ((11, 148), (4, 0)), ((11, 172), (7, 13))]
def fTab_7 : List ((Nat × Nat) × (Nat × Nat)) := [((11, 175), (4, 18)), ((11, 178), (7, 12)), ((11, 181), (6, 2)), ((11, 184), (6, 4)), ((11, 187), (3, 2)), ((11, 190), (4, 8)), ((11, 193), (4, 16)), ((12, 9), (11, 7)), ((12, 15), (11, 8)), ((12, 18), (11, 9)), ((12, 21), (11, 10)), ((12, 24), (11, 11)), ((12, 27), (11, 12)), ((12, 30), (11, 13)), ((12, 33), (11, 14)), ((12, 36), (11, 15))]
def fTab_8 : List ((Nat × Nat) × (Nat × Nat)) := [((12, 39), (11, 16)), ((12, 42), (11, 17)), ((12, 45), (11, 18)), ((12, 48), (11, 19)), ((12, 52), (11, 20)), ((12, 55), (11, 21)), ((12, 58), (11, 22)), ((12, 61), (11, 23)), ((12, 64), (11, 24)), ((12, 67), (11, 25)), ((12, 70), (11, 0)), ((12, 74), (11, 1)), ((12, 77), (11, 2)), ((12, 80), (11, 3)), ((12, 83), (11, 4)), ((12, 86), (11, 5))]
def fTab_9 : List ((Nat × Nat) × (Nat × Nat)) := [((12, 89), (11, 6)), ((12, 92), (11, 26)), ((13, 9), (12, 0)), ((13, 13), (12, 3)), ((13, 17), (12, 4)), ((13, 20), (12, 6)), ((13, 24), (12, 7)), ((13, 27), (12, 8)), ((13, 37), (12, 12)), ((13, 43), (12, 17)), ((13, 47), (12, 18)), ((13, 50), (12, 20)), ((13, 53), (12, 21)), ((13, 56), (12, 22)), ((13, 59), (12, 25)), ((13, 62), (12, 26))]
def fTab_10 : List ((Nat × Nat) × (Nat × Nat)) := [((13, 65), (12, 28)), ((13, 69), (12, 29)), ((13, 73), (12, 30)), ((13, 76), (12, 32)), ((13, 79), (12, 33)), ((13, 83), (12, 34)), ((13, 86), (12, 35)), ((13, 89), (12, 36)), ((13, 92), (12, 40)), ((13, 95), (12, 41)), ((13, 98), (12, 43)), ((13, 101), (12, 47)), ((13, 104), (12, 48)), ((13, 107), (12, 49)), ((13, 110), (12, 51)), ((13, 113), (12, 53))]
def fTab_11 : List ((Nat × Nat) × (Nat × Nat)) := [((13, 116), (12, 54)), ((13, 119), (12, 56)), ((13, 122), (12, 70)), ((13, 125), (12, 1)), ((13, 136), (12, 9)), ((13, 139), (12, 5)), ((13, 142), (11, 19)), ((13, 177), (11, 15)), ((13, 180), (11, 14)), ((13, 206), (11, 1)), ((13, 209), (11, 16)), ((13, 220), (11, 17)), ((13, 223), (12, 13)), ((13, 226), (12, 10)), ((13, 229), (12, 14)), ((13, 232), (11, 0))]
def fTab_12 : List ((Nat × Nat) × (Nat × Nat)) := [((13, 235), (11, 7)), ((13, 238), (11, 8)), ((13, 241), (11, 9)), ((13, 243), (11, 10)), ((13, 246), (11, 11)), ((13, 249), (11, 12)), ((13, 252), (11, 13)), ((13, 268), (12, 11)), ((13, 277), (11, 3)), ((13, 280), (11, 2)), ((13, 283), (12, 15)), ((13, 286), (12, 16)), ((13, 314), (11, 4)), ((13, 320), (11, 18)), ((13, 323), (12, 23)), ((13, 326), (12, 24))]
def fTab_13 : List ((Nat × Nat) × (Nat × Nat)) := [((13, 329), (12, 27)), ((13, 332), (11, 23)), ((13, 335), (11, 22)), ((13, 344), (11, 26)), ((13, 362), (11, 24)), ((13, 365), (11, 25)), ((13, 371), (11, 5)), ((13, 374), (11, 20)), ((13, 377), (11, 21)), ((13, 401), (12, 2)), ((13, 404), (12, 19)), ((13, 417), (12, 31)), ((13, 435), (12, 42)), ((13, 441), (12, 38)), ((13, 444), (12, 44)), ((13, 452), (12, 50))]
def fTab_14 : List ((Nat × Nat) × (Nat × Nat)) := [((13, 459), (12, 52)), ((13, 465), (12, 37)), ((13, 468), (12, 39)), ((13, 474), (12, 45)), ((13, 477), (12, 46)), ((13, 482), (12, 55)), ((13, 485), (12, 57)), ((13, 488), (12, 58)), ((13, 491), (12, 59)), ((13, 494), (12, 60)), ((13, 497), (12, 62)), ((13, 501), (12, 63)), ((13, 504), (12, 64)), ((13, 507), (12, 69)), ((13, 514), (12, 66)), ((13, 517), (12, 65))]
def fTab_15 : List ((Nat × Nat) × (Nat × Nat)) := [((13, 520), (12, 67)), ((13, 536), (12, 68)), ((13, 569), (12, 71)), ((13, 604), (12, 61))]
def fTab : List ((Nat × Nat) × (Nat × Nat)) := fTab_0 ++ (fTab_1 ++ (fTab_2 ++ (fTab_3 ++ (fTab_4 ++ (fTab_5 ++ (fTab_6 ++ (fTab_7 ++ (fTab_8 ++ (fTab_9 ++ (fTab_10 ++ (fTab_11 ++ (fTab_12 ++ (fTab_13 ++ (fTab_14 ++ (fTab_15)))))))))))))))
def mTab_0 : List ((Nat × Nat) × Nat) := [((0, 3), 1000), ((0, 11), 146), ((0, 34), 133), ((0, 40), 96), ((0, 46), 145), ((0, 59), 13), ((0, 62), 128), ((0, 69), 116), ((0, 72), 32), ((0, 78), 12), ((0, 82), 11), ((0, 86), 125), ((0, 96), 81), ((0, 101), 139), ((0, 107), 281), ((0, 113), 138)]
def mTab_1 : List ((Nat × Nat) × Nat) := [((0, 116), 18), ((0, 120), 131), ((0, 123), 115), ((0, 129), 284), ((0, 135), 94), ((0, 138), 129), ((0, 141), 33), ((0, 145), 27), ((0, 146), 119), ((0, 150), 23), ((0, 153), 120), ((0, 156), 24), ((0, 159), 122), ((0, 162), 8), ((0, 165), 14), ((0, 169), 15)]
def mTab_2 : List ((Nat × Nat) × Nat) := [((0, 172), 29), ((0, 176), 144), ((0, 179), 287), ((0, 182), 147), ((0, 185), 152), ((0, 188), 148), ((0, 191), 16), ((0, 194), 21), ((0, 197), 22), ((0, 200), 4), ((0, 204), 28), ((0, 207), 5), ((0, 210), 19), ((0, 213), 25), ((0, 216), 26), ((0, 219), 10)]
def mTab_3 : List ((Nat × Nat) × Nat) := [((0, 222), 1), ((0, 225), 0), ((0, 228), 102), ((0, 231), 142), ((0, 234), 6), ((0, 237), 3), ((0, 240), 20), ((0, 244), 141), ((0, 247), 154), ((0, 250), 95), ((0, 253), 143), ((0, 256), 2), ((0, 259), 98), ((0, 263), 151), ((0, 266), 9), ((0, 270), 156)]
def mTab_4 : List ((Nat × Nat) × Nat) := [((0, 275), 155), ((0, 277), 83), ((0, 280), 157), ((0, 283), 106), ((0, 286), 105), ((1, 3), 1000), ((2, 3), 1000), ((2, 21), 140), ((2, 30), 1001), ((2, 43), 43), ((2, 47), 157), ((2, 53), 39), ((3, 3), 1000), ((3, 11), 36), ((3, 20), 90), ((3, 50), 34)]
def mTab_5 : List ((Nat × Nat) × Nat) := [((3, 54), 88), ((3, 62), 140), ((3, 83), 157), ((3, 89), 282), ((3, 105), 156), ((3, 117), 104), ((3, 121), 103), ((3, 124), 67), ((3, 128), 71), ((3, 131), 47), ((3, 134), 52), ((3, 138), 49), ((3, 142), 56), ((3, 145), 59), ((3, 148), 57), ((3, 151), 66)]
def mTab_6 : List ((Nat × Nat) × Nat) := [((3, 154), 62), ((3, 158), 48), ((3, 161), 55), ((3, 164), 65), ((3, 168), 64), ((3, 172), 70), ((3, 176), 37), ((3, 180), 43), ((3, 183), 69), ((3, 186), 155), ((3, 189), 39), ((3, 192), 63), ((3, 195), 101), ((3, 198), 35), ((3, 202), 42), ((3, 205), 107)]
def mTab_7 : List ((Nat × Nat) × Nat) := [((3, 208), 72), ((3, 211), 44), ((3, 215), 40), ((3, 218), 284), ((3, 223), 73), ((3, 227), 51), ((3, 231), 50), ((3, 234), 38), ((3, 237), 108), ((3, 240), 60), ((3, 243), 61), ((3, 246), 99), ((3, 249), 97), ((3, 252), 139), ((3, 255), 75), ((3, 258), 54)]
def mTab_8 : List ((Nat × Nat) × Nat) := [((3, 268), 74), ((3, 272), 45), ((3, 276), 41), ((3, 280), 158), ((3, 284), 89), ((3, 287), 91), ((3, 291), 68), ((4, 3), 1000), ((4, 28), 140), ((4, 34), 139), ((4, 37), 281), ((4, 52), 86), ((4, 62), 84), ((4, 75), 79), ((4, 78), 85), ((4, 96), 77)]
def mTab_9 : List ((Nat × Nat) × Nat) := [((5, 3), 1000), ((5, 28), 283), ((5, 34), 139), ((6, 3), 1000), ((6, 40), 285), ((6, 46), 139), ((6, 52), 140), ((6, 77), 149), ((6, 83), 153), ((7, 3), 1000), ((7, 11), 80), ((7, 52), 285), ((7, 62), 78), ((7, 66), 110), ((7, 72), 124), ((7, 76), 32)]
def mTab_10 : List ((Nat × Nat) × Nat) := [((7, 82), 112), ((7, 86), 33), ((7, 90), 139), ((7, 99), 132), ((7, 102), 111), ((7, 105), 121), ((7, 109), 113), ((7, 112), 137), ((7, 115), 126), ((7, 119), 127), ((7, 122), 288), ((7, 125), 114), ((7, 128), 118), ((7, 138), 135), ((7, 141), 136), ((7, 144), 123)]
def mTab_11 : List ((Nat × Nat) × Nat) := [((7, 147), 134), ((7, 155), 286), ((7, 162), 84), ((7, 165), 85), ((7, 168), 79), ((7, 172), 82), ((7, 175), 109), ((7, 178), 116), ((7, 181), 125), ((7, 184), 122), ((7, 187), 115), ((8, 7), 284), ((8, 13), 279), ((8, 19), 280), ((9, 3), 1000), ((9, 34), 281)]
def mTab_12 : List ((Nat × Nat) × Nat) := [((9, 40), 139), ((9, 46), 285), ((9, 52), 284), ((9, 55), 289), ((9, 59), 150), ((9, 62), 152), ((10, 11), 157), ((11, 1), 1000), ((11, 15), 31), ((11, 22), 117), ((11, 31), 100), ((11, 41), 17), ((11, 50), 58), ((11, 69), 173), ((11, 73), 30), ((11, 76), 130)]
def mTab_13 : List ((Nat × Nat) × Nat) := [((11, 80), 32), ((11, 84), 7), ((11, 91), 160), ((11, 100), 46), ((11, 103), 282), ((11, 113), 93), ((11, 119), 76), ((11, 128), 92), ((11, 131), 87), ((11, 138), 53), ((11, 142), 156), ((11, 152), 155), ((11, 155), 39), ((11, 160), 171), ((11, 163), 38), ((11, 166), 108)]
def mTab_14 : List ((Nat × Nat) × Nat) := [((11, 169), 75), ((12, 3), 1000), ((13, 3), 1000), ((13, 42), 178), ((13, 128), 208), ((13, 132), 220), ((13, 143), 189), ((13, 147), 274), ((13, 150), 264), ((13, 154), 224), ((13, 157), 273), ((13, 167), 286), ((13, 173), 238), ((13, 183), 242), ((13, 202), 226), ((13, 212), 222)]
def mTab_15 : List ((Nat × Nat) × Nat) := [((13, 216), 240), ((13, 254), 241), ((13, 257), 251), ((13, 261), 234), ((13, 264), 185), ((13, 271), 201), ((13, 274), 199), ((13, 289), 223), ((13, 292), 221), ((13, 295), 248), ((13, 298), 246), ((13, 301), 182), ((13, 304), 183), ((13, 307), 275), ((13, 310), 225), ((13, 317), 278)]
def mTab_16 : List ((Nat × Nat) × Nat) := [((13, 338), 200), ((13, 340), 204), ((13, 347), 268), ((13, 350), 228), ((13, 353), 229), ((13, 356), 190), ((13, 359), 209), ((13, 368), 284), ((13, 380), 187), ((13, 383), 216), ((13, 386), 188), ((13, 389), 177), ((13, 392), 259), ((13, 395), 256), ((13, 398), 179), ((13, 408), 186)]
def mTab_17 : List ((Nat × Nat) × Nat) := [((13, 420), 269), ((13, 423), 198), ((13, 427), 235), ((13, 432), 245), ((13, 438), 196), ((13, 448), 214), ((13, 455), 236), ((13, 462), 252), ((13, 471), 210), ((13, 510), 261), ((13, 512), 263), ((13, 522), 191), ((13, 525), 219), ((13, 529), 266), ((13, 533), 270), ((13, 539), 277)]
def mTab_18 : List ((Nat × Nat) × Nat) := [((13, 542), 205), ((13, 545), 247), ((13, 548), 195), ((13, 551), 206), ((13, 553), 233), ((13, 556), 232), ((13, 559), 207), ((13, 561), 193), ((13, 565), 239), ((13, 572), 255), ((13, 574), 260), ((13, 577), 230), ((13, 580), 231), ((13, 583), 250), ((13, 586), 180), ((13, 589), 227)]
def mTab_19 : List ((Nat × Nat) × Nat) := [((13, 592), 272), ((13, 595), 192), ((13, 598), 271), ((13, 601), 249), ((13, 607), 215), ((13, 610), 265), ((13, 614), 253), ((13, 618), 267), ((13, 621), 243), ((13, 625), 181), ((13, 629), 213), ((13, 632), 276), ((13, 634), 262), ((14, 150), 1001), ((14, 304), 285), ((16, 9), 168)]
def mTab_20 : List ((Nat × Nat) × Nat) := [((16, 12), 217), ((16, 13), 165), ((16, 17), 203), ((16, 18), 161), ((16, 22), 290), ((16, 23), 164), ((16, 26), 202), ((16, 27), 174), ((16, 31), 254), ((16, 32), 169), ((16, 35), 218), ((16, 36), 175), ((16, 39), 257), ((16, 40), 172), ((16, 43), 244), ((16, 44), 162)]
def mTab_21 : List ((Nat × Nat) × Nat) := [((16, 48), 194), ((16, 49), 166), ((16, 53), 211), ((16, 54), 167), ((16, 57), 212), ((16, 58), 170), ((16, 61), 237), ((16, 62), 176), ((16, 65), 258), ((16, 66), 159), ((16, 69), 184), ((16, 70), 163), ((16, 73), 197)]
def mTab : List ((Nat × Nat) × Nat) := mTab_0 ++ (mTab_1 ++ (mTab_2 ++ (mTab_3 ++ (mTab_4 ++ (mTab_5 ++ (mTab_6 ++ (mTab_7 ++ (mTab_8 ++ (mTab_9 ++ (mTab_10 ++ (mTab_11 ++ (mTab_12 ++ (mTab_13 ++ (mTab_14 ++ (mTab_15 ++ (mTab_16 ++ (mTab_17 ++ (mTab_18 ++ (mTab_19 ++ (mTab_20 ++ (mTab_21)))))))))))))))))))))
/-- a method: name, code, locals, answer, class that has the code, how many it gets (its object too), 0 of an object, 1 static, 2 constructor -/
abbrev MI : Type := MethodName × ByteArray × Nat × Option FieldType × Nat × Nat × Nat
def mtl_0 : List (MI) := [(yX0_areBindings, cX0_areBindings, 6, (some .boolean), 0, 2, 0), (yX0_areNames, cX0_areNames, 6, (some .boolean), 0, 2, 0), (yX0_bindNames, cX0_bindNames, 4, none, 0, 2, 0), (yX0_bindPairs, cX0_bindPairs, 5, none, 0, 3, 0), (yX0_body, cX0_body, 8, none, 0, 5, 0), (yX0_callForm, cX0_callForm, 7, none, 0, 4, 0), (yX0_checkBound, cX0_checkBound, 8, none, 0, 4, 0), (yX0_compile, cX0_compile, 4, none, 0, 2, 0), (yX0_countForm, cX0_countForm, 2, none, 0, 2, 0), (yX0_datum, cX0_datum, 9, (some .long), 0, 3, 0), (yX0_defineForm, cX0_defineForm, 5, none, 0, 3, 0), (yX0_emit, cX0_emit, 4, (some .int), 0, 4, 0), (yX0_form, cX0_form, 4, none, 0, 4, 0), (yX0_gatherDefined, cX0_gatherDefined, 4, none, 0, 1, 0), (yX0_giveBackIf, cX0_giveBackIf, 2, none, 0, 2, 0), (yX0_hasMeaning, cX0_hasMeaning, 2, (some .boolean), 0, 2, 0)]
def mtl_1 : List (MI) := [(yX0_ifForm, cX0_ifForm, 8, none, 0, 4, 0), (yX0_init, cX0_init, 4, none, 0, 4, 2), (yX0_isShaped, cX0_isShaped, 6, (some .boolean), 0, 4, 0), (yX0_lambdaForm, cX0_lambdaForm, 11, none, 0, 4, 0), (yX0_leaveBindings, cX0_leaveBindings, 5, none, 0, 5, 0), (yX0_letForm, cX0_letForm, 10, none, 0, 4, 0), (yX0_letrecForm, cX0_letrecForm, 10, none, 0, 4, 0), (yX0_listForm, cX0_listForm, 5, none, 0, 4, 0), (yX0_nameForm, cX0_nameForm, 3, none, 0, 2, 0), (yX0_quoteForm, cX0_quoteForm, 6, none, 0, 4, 0), (yX0_setForm, cX0_setForm, 6, none, 0, 4, 0), (yX0_tell, cX0_tell, 3, none, 0, 3, 0), (yX0_untilForm, cX0_untilForm, 9, none, 0, 5, 0), (yX0_variable, cX0_variable, 5, none, 0, 4, 0), (yX1_forget, cX1_forget, 1, none, 1, 1, 0), (yX1_init, cX1_init, 1, none, 1, 1, 2)]
def mtl_2 : List (MI) := [(yX1_isNone, cX1_isNone, 1, (some .boolean), 1, 1, 0), (yX1_tell, cX1_tell, 3, none, 1, 3, 0), (yX2_begin, cX2_begin, 2, none, 2, 2, 0), (yX2_hasRoom, cX2_hasRoom, 2, (some .boolean), 2, 2, 0), (yX2_init, cX2_init, 1, none, 2, 1, 2), (yX2_keptOf, cX2_keptOf, 3, (some .int), 2, 3, 0), (yX2_lambdaOf, cX2_lambdaOf, 2, (some .int), 2, 2, 0), (yX2_look, cX2_look, 2, (some .long), 2, 2, 0), (yX2_newBinding, cX2_newBinding, 4, (some .int), 2, 2, 0), (yX2_newPair, cX2_newPair, 6, (some .long), 2, 3, 0), (yX2_newProcedure, cX2_newProcedure, 4, (some .int), 2, 3, 0), (yX2_put, cX2_put, 4, none, 2, 3, 0), (yX2_putKept, cX2_putKept, 4, none, 2, 4, 0), (yX3_areIntegers, cX3_areIntegers, 4, (some .boolean), 3, 2, 1), (yX3_begin, cX3_begin, 2, none, 3, 2, 0), (yX3_beginBinding, cX3_beginBinding, 4, none, 3, 3, 0)]
def mtl_3 : List (MI) := [(yX3_binding, cX3_binding, 5, (some .long), 3, 3, 0), (yX3_callIt, cX3_callIt, 5, none, 3, 3, 0), (yX3_callPrimitive, cX3_callPrimitive, 11, none, 3, 4, 0), (yX3_callProcedure, cX3_callProcedure, 5, none, 3, 4, 0), (yX3_closeOver, cX3_closeOver, 7, none, 3, 2, 0), (yX3_definedValue, cX3_definedValue, 4, (some .long), 3, 2, 0), (yX3_errorOf, cX3_errorOf, 6, (some .int), 3, 4, 0), (yX3_fail, cX3_fail, 2, none, 3, 2, 0), (yX3_giveBack, cX3_giveBack, 3, none, 3, 1, 0), (yX3_hold, cX3_hold, 2, none, 3, 2, 0), (yX3_init, cX3_init, 2, none, 3, 2, 2), (yX3_leaveBehind, cX3_leaveBehind, 5, none, 3, 3, 0), (yX3_moveDown, cX3_moveDown, 4, none, 3, 2, 0), (yX3_openCall, cX3_openCall, 2, none, 3, 2, 0), (yX3_peek, cX3_peek, 2, (some .long), 3, 2, 0), (yX3_poke, cX3_poke, 4, none, 3, 3, 0)]
def mtl_4 : List (MI) := [(yX3_pop, cX3_pop, 1, (some .long), 3, 1, 0), (yX3_push, cX3_push, 3, none, 3, 2, 0), (yX3_pushOrJump, cX3_pushOrJump, 3, none, 3, 3, 0), (yX3_readVariable, cX3_readVariable, 5, none, 3, 3, 0), (yX3_reckoned, cX3_reckoned, 3, (some .long), 3, 3, 1), (yX3_setGlobal, cX3_setGlobal, 4, none, 3, 3, 0), (yX3_setSlot, cX3_setSlot, 6, none, 3, 3, 0), (yX3_setVariable, cX3_setVariable, 7, none, 3, 3, 0), (yX3_sharedAt, cX3_sharedAt, 5, (some .int), 3, 2, 0), (yX3_stopIf, cX3_stopIf, 3, none, 3, 3, 0), (yX3_valueOf, cX3_valueOf, 7, (some .long), 3, 4, 0), (yX3_wantedByPrimitive, cX3_wantedByPrimitive, 1, (some .int), 3, 1, 1), (yX3_work, cX3_work, 5, none, 3, 2, 0), (yX4_added, cX4_added, 2, (some .int), 4, 2, 0), (yX4_begin, cX4_begin, 3, none, 4, 2, 0), (yX4_endName, cX4_endName, 4, (some .int), 4, 1, 0)]
def mtl_5 : List (MI) := [(yX4_init, cX4_init, 1, none, 4, 1, 2), (yX4_known, cX4_known, 1, (some .int), 4, 1, 0), (yX4_meet, cX4_meet, 2, none, 4, 2, 0), (yX4_numberOf, cX4_numberOf, 2, (some .int), 4, 2, 0), (yX4_startName, cX4_startName, 1, none, 4, 1, 0), (yX4_takeSign, cX4_takeSign, 2, none, 4, 2, 0), (yX4_takeWords, cX4_takeWords, 4, none, 4, 2, 0), (yX5_dropOutputs, cX5_dropOutputs, 2, (some .int), 5, 1, 0), (yX5_forgetAll, cX5_forgetAll, 1, none, 5, 1, 0), (yX5_give, cX5_give, 2, none, 5, 2, 0), (yX5_init, cX5_init, 1, none, 5, 1, 2), (yX5_nextInput, cX5_nextInput, 2, (some .int), 5, 1, 0), (yX5_outputAt, cX5_outputAt, 2, (some .int), 5, 2, 0), (yX5_take, cX5_take, 2, (some .int), 5, 2, 0), (yX6_add, cX6_add, 3, (some .int), 6, 3, 0), (yX6_addLambda, cX6_addLambda, 2, (some .int), 6, 2, 0)]
def mtl_6 : List (MI) := [(yX6_begin, cX6_begin, 3, none, 6, 2, 0), (yX6_depthOf, cX6_depthOf, 2, (some .int), 6, 2, 0), (yX6_endLambda, cX6_endLambda, 6, none, 6, 5, 0), (yX6_entryOf, cX6_entryOf, 2, (some .int), 6, 2, 0), (yX6_init, cX6_init, 1, none, 6, 1, 2), (yX6_keptBy, cX6_keptBy, 2, (some .int), 6, 2, 0), (yX6_landHere, cX6_landHere, 3, (some .int), 6, 2, 0), (yX6_operandAt, cX6_operandAt, 2, (some .int), 6, 2, 0), (yX6_operationAt, cX6_operationAt, 2, (some .int), 6, 2, 0), (yX6_putDatum, cX6_putDatum, 4, none, 6, 3, 0), (yX6_reserve, cX6_reserve, 3, (some .int), 6, 2, 0), (yX6_sourceOf, cX6_sourceOf, 4, (some .int), 6, 3, 0), (yX6_wantedBy, cX6_wantedBy, 2, (some .int), 6, 2, 0), (yX7_addPart, cX7_addPart, 4, none, 7, 2, 0), (yX7_beginNodes, cX7_beginNodes, 2, none, 7, 1, 0), (yX7_behindLine, cX7_behindLine, 3, (some .int), 7, 2, 0)]
def mtl_7 : List (MI) := [(yX7_behindToken, cX7_behindToken, 4, (some .int), 7, 2, 0), (yX7_behindWord, cX7_behindWord, 3, (some .int), 7, 2, 0), (yX7_closeQuotes, cX7_closeQuotes, 2, none, 7, 1, 0), (yX7_contentOf, cX7_contentOf, 2, (some .int), 7, 2, 0), (yX7_firstOf, cX7_firstOf, 2, (some .int), 7, 2, 0), (yX7_init, cX7_init, 2, none, 7, 2, 2), (yX7_isDigit, cX7_isDigit, 1, (some .boolean), 7, 1, 1), (yX7_isList, cX7_isList, 2, (some .boolean), 7, 2, 0), (yX7_isName, cX7_isName, 2, (some .boolean), 7, 2, 0), (yX7_isWordSign, cX7_isWordSign, 1, (some .boolean), 7, 1, 1), (yX7_kindOf, cX7_kindOf, 2, (some .int), 7, 2, 0), (yX7_nameFrom, cX7_nameFrom, 4, (some .int), 7, 3, 0), (yX7_newNode, cX7_newNode, 4, (some .int), 7, 4, 0), (yX7_nextOf, cX7_nextOf, 2, (some .int), 7, 2, 0), (yX7_openList, cX7_openList, 4, (some .boolean), 7, 3, 0), (yX7_openQuote, cX7_openQuote, 2, none, 7, 2, 0)]
def mtl_8 : List (MI) := [(yX7_partsOf, cX7_partsOf, 2, (some .int), 7, 2, 0), (yX7_placeOf, cX7_placeOf, 2, (some .int), 7, 2, 0), (yX7_readText, cX7_readText, 5, none, 7, 3, 0), (yX7_secondOf, cX7_secondOf, 2, (some .int), 7, 2, 0), (yX7_signAt, cX7_signAt, 2, (some .int), 7, 2, 0), (yX7_size, cX7_size, 1, (some .int), 7, 1, 0), (yX7_takeDatum, cX7_takeDatum, 4, none, 7, 4, 0), (yX7_takeInteger, cX7_takeInteger, 8, none, 7, 3, 0), (yX7_takeTruth, cX7_takeTruth, 4, none, 7, 3, 0), (yX7_takeWord, cX7_takeWord, 5, none, 7, 3, 0), (yX7_wordOf, cX7_wordOf, 3, (some .int), 7, 2, 0), (yX8_withRoom, cX8_withRoom, 2, (some (.array .int)), 8, 2, 1), (yX8_withRoom_, cX8_withRoom_, 2, (some (.array .long)), 8, 2, 1), (yX9_bind, cX9_bind, 3, none, 9, 3, 0), (yX9_bindings, cX9_bindings, 1, (some .int), 9, 1, 0), (yX9_enterBody, cX9_enterBody, 2, none, 9, 1, 0)]
def mtl_9 : List (MI) := [(yX9_find, cX9_find, 3, (some .int), 9, 2, 0), (yX9_forgetAll, cX9_forgetAll, 1, none, 9, 1, 0), (yX9_init, cX9_init, 1, none, 9, 1, 2), (yX9_isOwn, cX9_isOwn, 2, (some .boolean), 9, 2, 0), (yX9_keep, cX9_keep, 4, (some .int), 9, 2, 0), (yX9_kept, cX9_kept, 1, (some .int), 9, 1, 0), (yX9_keptPlace, cX9_keptPlace, 6, (some .int), 9, 3, 0), (yX9_leaveBody, cX9_leaveBody, 1, none, 9, 1, 0), (yX9_slotOf, cX9_slotOf, 2, (some .int), 9, 2, 0), (yX9_sourceOf, cX9_sourceOf, 4, (some .int), 9, 2, 0), (yX9_unbindTo, cX9_unbindTo, 2, none, 9, 2, 0), (yX10_contentOf, cX10_contentOf, 2, (some .int), 10, 1, 1), (yX10_kindOf, cX10_kindOf, 2, (some .int), 10, 1, 1), (yX10_of, cX10_of, 2, (some .long), 10, 2, 1), (yX10_truth, cX10_truth, 1, (some .long), 10, 1, 1), (yX11_at, cX11_at, 2, (some .int), 11, 2, 0)]
def mtl_10 : List (MI) := [(yX11_beginAnew, cX11_beginAnew, 1, none, 11, 1, 0), (yX11_build, cX11_build, 3, (some .int), 11, 2, 0), (yX11_clear, cX11_clear, 1, (some .int), 11, 1, 0), (yX11_count, cX11_count, 2, (some .int), 11, 2, 0), (yX11_fault, cX11_fault, 2, (some .int), 11, 2, 0), (yX11_feed, cX11_feed, 6, (some .int), 11, 6, 0), (yX11_global, cX11_global, 2, (some .boolean), 11, 2, 0), (yX11_go, cX11_go, 2, (some .boolean), 11, 2, 0), (yX11_init, cX11_init, 1, none, 11, 1, 2), (yX11_input, cX11_input, 2, (some .int), 11, 2, 0), (yX11_mark, cX11_mark, 2, (some .boolean), 11, 2, 0), (yX11_numberAtPointer, cX11_numberAtPointer, 2, (some .int), 11, 1, 0), (yX11_output, cX11_output, 2, (some .int), 11, 2, 0), (yX11_putOnTape, cX11_putOnTape, 3, none, 11, 2, 0), (yX11_restart, cX11_restart, 1, (some .boolean), 11, 1, 0), (yX11_run, cX11_run, 2, (some .int), 11, 2, 0)]
def mtl_11 : List (MI) := [(yX11_same, cX11_same, 2, (some .boolean), 11, 2, 0), (yX12_clear, cX12_clear, 1, none, 12, 1, 0), (yX12_init, cX12_init, 1, none, 12, 1, 2), (yX13_analyses, cX13_analyses, 3, none, 13, 1, 0), (yX13_applies, cX13_applies, 5, none, 13, 2, 0), (yX13_areIntegers, cX13_areIntegers, 5, (some .boolean), 13, 3, 0), (yX13_areNames, cX13_areNames, 3, (some .boolean), 13, 2, 0), (yX13_arePairs, cX13_arePairs, 3, (some .boolean), 13, 2, 0), (yX13_at, cX13_at, 2, (some .int), 13, 2, 0), (yX13_bad, cX13_bad, 2, (some (.object "java/lang/IllegalStateException")), 13, 2, 0), (yX13_begins, cX13_begins, 2, none, 13, 1, 0), (yX13_binds, cX13_binds, 6, none, 13, 3, 0), (yX13_bindsPair, cX13_bindsPair, 7, none, 13, 3, 0), (yX13_blanks, cX13_blanks, 3, (some .int), 13, 2, 0), (yX13_body, cX13_body, 3, none, 13, 2, 0), (yX13_boxOf, cX13_boxOf, 2, (some .int), 13, 2, 0)]
def mtl_12 : List (MI) := [(yX13_calls, cX13_calls, 7, none, 13, 4, 0), (yX13_choices, cX13_choices, 3, none, 13, 3, 0), (yX13_clear, cX13_clear, 2, (some .int), 13, 1, 0), (yX13_closes, cX13_closes, 7, none, 13, 2, 0), (yX13_collects, cX13_collects, 3, none, 13, 1, 0), (yX13_count, cX13_count, 2, (some .int), 13, 2, 0), (yX13_dataOf, cX13_dataOf, 2, (some .long), 13, 2, 0), (yX13_datum, cX13_datum, 2, (some .int), 13, 1, 0), (yX13_defines, cX13_defines, 4, none, 13, 1, 0), (yX13_enters, cX13_enters, 1, none, 13, 1, 0), (yX13_fault, cX13_fault, 2, (some .int), 13, 2, 0), (yX13_feed, cX13_feed, 6, (some .int), 13, 6, 0), (yX13_form, cX13_form, 5, none, 13, 3, 0), (yX13_formWord, cX13_formWord, 4, (some .int), 13, 2, 0), (yX13_form_, cX13_form_, 2, none, 13, 2, 0), (yX13_forms, cX13_forms, 2, none, 13, 2, 0)]
def mtl_13 : List (MI) := [(yX13_four, cX13_four, 3, none, 13, 2, 0), (yX13_free, cX13_free, 8, (some .int), 13, 3, 0), (yX13_freesAll, cX13_freesAll, 2, none, 13, 1, 0), (yX13_global, cX13_global, 2, (some .boolean), 13, 2, 0), (yX13_go, cX13_go, 2, (some .boolean), 13, 2, 0), (yX13_goesOn, cX13_goesOn, 3, none, 13, 1, 0), (yX13_grows, cX13_grows, 6, none, 13, 1, 0), (yX13_holds, cX13_holds, 3, none, 13, 3, 0), (yX13_inSight, cX13_inSight, 3, none, 13, 2, 0), (yX13_init, cX13_init, 1, none, 13, 1, 2), (yX13_input, cX13_input, 2, (some .int), 13, 2, 0), (yX13_is, cX13_is, 3, none, 13, 2, 0), (yX13_isDigit, cX13_isDigit, 1, (some .boolean), 13, 1, 1), (yX13_isList, cX13_isList, 2, (some .boolean), 13, 2, 0), (yX13_isName, cX13_isName, 6, (some .boolean), 13, 5, 0), (yX13_isNameNode, cX13_isNameNode, 2, (some .boolean), 13, 2, 0)]
def mtl_14 : List (MI) := [(yX13_isOfWord, cX13_isOfWord, 1, (some .boolean), 13, 1, 1), (yX13_isShaped, cX13_isShaped, 5, (some .boolean), 13, 4, 0), (yX13_isWord, cX13_isWord, 5, (some .boolean), 13, 5, 0), (yX13_kindOf, cX13_kindOf, 2, (some .int), 13, 1, 1), (yX13_lambda, cX13_lambda, 6, none, 13, 2, 0), (yX13_let, cX13_let, 7, none, 13, 3, 0), (yX13_letPair, cX13_letPair, 6, none, 13, 3, 0), (yX13_letrecPair, cX13_letrecPair, 5, none, 13, 3, 0), (yX13_letrecs, cX13_letrecs, 4, none, 13, 2, 0), (yX13_lets, cX13_lets, 4, none, 13, 3, 0), (yX13_list, cX13_list, 5, (some .int), 13, 1, 0), (yX13_listOf, cX13_listOf, 6, (some .long), 13, 2, 0), (yX13_longer, cX13_longer, 4, (some (.array .int)), 13, 2, 1), (yX13_mark, cX13_mark, 2, (some .boolean), 13, 2, 0), (yX13_nameOf, cX13_nameOf, 5, (some .int), 13, 3, 0), (yX13_newBox, cX13_newBox, 4, (some .int), 13, 2, 0)]
def mtl_15 : List (MI) := [(yX13_newName, cX13_newName, 6, (some .int), 13, 4, 0), (yX13_node, cX13_node, 6, (some .int), 13, 4, 0), (yX13_number, cX13_number, 6, (some .long), 13, 3, 1), (yX13_one, cX13_one, 4, (some .long), 13, 3, 0), (yX13_output, cX13_output, 2, (some .int), 13, 2, 0), (yX13_pair, cX13_pair, 5, (some .long), 13, 3, 0), (yX13_part, cX13_part, 5, (some .int), 13, 3, 0), (yX13_partOf, cX13_partOf, 5, (some .int), 13, 3, 0), (yX13_parts, cX13_parts, 4, (some .int), 13, 2, 0), (yX13_primitive, cX13_primitive, 10, none, 13, 3, 0), (yX13_push, cX13_push, 5, none, 13, 2, 0), (yX13_quoted, cX13_quoted, 4, (some .int), 13, 1, 0), (yX13_quotes, cX13_quotes, 2, none, 13, 1, 0), (yX13_reckoned, cX13_reckoned, 8, (some .long), 13, 4, 0), (yX13_restart, cX13_restart, 1, (some .boolean), 13, 1, 0), (yX13_row, cX13_row, 3, none, 13, 3, 0)]
def mtl_16 : List (MI) := [(yX13_rows, cX13_rows, 3, none, 13, 1, 0), (yX13_run, cX13_run, 2, (some .int), 13, 2, 0), (yX13_same, cX13_same, 2, (some .boolean), 13, 2, 0), (yX13_scans, cX13_scans, 4, none, 13, 1, 0), (yX13_sets, cX13_sets, 4, none, 13, 2, 0), (yX13_slots, cX13_slots, 3, none, 13, 2, 0), (yX13_tells, cX13_tells, 3, (some .int), 13, 2, 0), (yX13_todo, cX13_todo, 4, none, 13, 4, 0), (yX13_token, cX13_token, 4, none, 13, 4, 0), (yX13_trades, cX13_trades, 7, none, 13, 4, 0), (yX13_truth, cX13_truth, 1, (some .long), 13, 1, 1), (yX13_two, cX13_two, 6, (some .long), 13, 4, 0), (yX13_uses, cX13_uses, 6, none, 13, 2, 0), (yX13_value, cX13_value, 2, (some .long), 13, 2, 1), (yX13_valueOf, cX13_valueOf, 2, (some .long), 13, 2, 0), (yX13_wants, cX13_wants, 1, (some .int), 13, 1, 1)]
def mtl_17 : List (MI) := [(yX13_whichOf, cX13_whichOf, 2, (some .int), 13, 1, 1), (yX13_word, cX13_word, 9, none, 13, 3, 0), (yX13_wordName, cX13_wordName, 3, (some .int), 13, 2, 0), (yX13_wordOf, cX13_wordOf, 4, (some .int), 13, 2, 0), (yX13_works, cX13_works, 4, none, 13, 2, 0), (yX13_worksList, cX13_worksList, 2, none, 13, 2, 0), (yX13_wrong, cX13_wrong, 3, none, 13, 3, 0), (yJ7_copyOf_59c91, cJ7_copyOf_59c91, 3, (some (.array .int)), 14, 2, 1), (yJ7_copyOf_c38d5, cJ7_copyOf_c38d5, 3, (some (.array .long)), 14, 2, 1), (yJ7_fill_53178, cJ7_fill_53178, 4, none, 14, 2, 1), (yJ7_fill_d0a16, cJ7_fill_d0a16, 5, none, 14, 2, 1), (yJ9_floorMod_7cf53, cJ9_floorMod_7cf53, 3, (some .int), 15, 2, 1), (yJ9_max_7cf53, cJ9_max_7cf53, 2, (some .int), 15, 2, 1), (yJ9_min_7cf53, cJ9_min_7cf53, 2, (some .int), 15, 2, 1), (yJ9_min_f86c9, cJ9_min_f86c9, 4, (some .long), 15, 2, 1), (yX0_definedNumber, cX0_definedNumber, 2, (some .int), 0, 2, 0)]
def mtl_18 : List (MI) := [(yX7_isInQuote, cX7_isInQuote, 1, (some .boolean), 7, 1, 0), (yX9_ownerOf, cX9_ownerOf, 2, (some .int), 9, 2, 0)]
def mtl : List (MI) := mtl_0 ++ (mtl_1 ++ (mtl_2 ++ (mtl_3 ++ (mtl_4 ++ (mtl_5 ++ (mtl_6 ++ (mtl_7 ++ (mtl_8 ++ (mtl_9 ++ (mtl_10 ++ (mtl_11 ++ (mtl_12 ++ (mtl_13 ++ (mtl_14 ++ (mtl_15 ++ (mtl_16 ++ (mtl_17 ++ (mtl_18))))))))))))))))))
def bldMI : MI := (yX13_build, cX13_build, 3, (some .int), 13, 2, 0)
def lawMI : MI := (yL_law, cL_law, 4, (some .boolean), 16, 1, 1)
def mInfo (k : Nat) : Option MI := if k < 290 then mtl[k]? else if k = 290 then some bldMI else if k = 291 then some lawMI else none
theorem mInfo_mem {k : Nat} {y : MI} (hk : k < 290) (hy : mInfo k = some y) : y ∈ mtl := by unfold mInfo at hy; rw [if_pos hk] at hy; exact List.mem_of_getElem? hy
def cTab : List ((Nat × Nat) × Int32) := [((2, 42), 40000), ((3, 116), 1000000000), ((13, 68), 46200), ((13, 82), 40001), ((13, 447), 300000), ((13, 451), 65536), ((13, 564), 40000)]
def lTab : List ((Nat × Nat) × Int64) := [((4, 92), -7046029254386353131), ((4, 94), -4417276706812531889), ((7, 151), 10), ((7, 153), 2147483649), ((7, 158), 2147483648), ((7, 160), 2147483647), ((10, 9), 4294967295), ((13, 161), 10), ((13, 163), 48), ((13, 165), 4000000000), ((13, 187), 7597137600295825983), ((13, 189), 8102661152286471538), ((13, 191), 25919), ((13, 193), 8315180025299169825), ((13, 195), 8315180025299366433), ((13, 197), 8243114958119658597), ((13, 411), 4294967295), ((13, 413), 12884901888), ((13, 415), 8589934592), ((13, 430), 17179869184), ((13, 480), 38654705664)]
def nTab : List ((Nat × Nat) × Nat) := [((0, 9), 9), ((3, 9), 3), ((3, 18), 6), ((7, 9), 5), ((11, 13), 2), ((11, 20), 8), ((11, 29), 7), ((11, 39), 1), ((11, 48), 4), ((13, 40), 11), ((16, 7), 10), ((16, 10), 12)]
def oNm (o : Nat) : String := match o with
  | 0 => RX0
  | 1 => RX1
  | 2 => RX2
  | 3 => RX3
  | 4 => RX4
  | 5 => RX5
  | 6 => RX6
  | 7 => RX7
  | 8 => RX8
  | 9 => RX9
  | 10 => RX10
  | 11 => RX11
  | 12 => RX12
  | 13 => RX13
  | 14 => RJ7
  | 15 => RJ9
  | 16 => RL
  | _ => ""
def fl (o idx : Nat) : Option (Nat × Nat) := fTab.lookup (o, idx)
def mlk (o idx : Nat) : Option Nat := mTab.lookup (o, idx)
-- one instruction
def iBin (f : Int32 → Int32 → Int32) (st : List Value) : Option (List Value) := match st with
  | .int y :: .int x :: r => some (.int (f x y) :: r)
  | _ => none
def lBin (f : Int64 → Int64 → Int64) (st : List Value) : Option (List Value) := match st with
  | .long y :: .long x :: r => some (.long (f x y) :: r)
  | _ => none
def lSh (f : Int64 → Int32 → Int64) (st : List Value) : Option (List Value) := match st with
  | .int y :: .long x :: r => some (.long (f x y) :: r)
  | _ => none
def iUn (f : Int32 → Value) (st : List Value) : Option (List Value) := match st with
  | .int x :: r => some (f x :: r)
  | _ => none
def lUn (f : Int64 → Value) (st : List Value) : Option (List Value) := match st with
  | .long x :: r => some (f x :: r)
  | _ => none
def iDiv (f : Int32 → Int32 → Int32) (st : List Value) : Option (List Value) := match st with
  | .int y :: .int x :: r => if y = 0 then none else some (.int (f x y) :: r)
  | _ => none
/-- instructions of one byte, of the stack alone -/
def sA (i : Instr) (st : List Value) : Option (List Value) := match i with
  | .iadd => iBin (fun x y => x + y) st
  | .isub => iBin (fun x y => x - y) st
  | .imul => iBin (fun x y => x * y) st
  | .iand => iBin (fun x y => x &&& y) st
  | .ixor => iBin (fun x y => x ^^^ y) st
  | .ishr => iBin (fun x y => x >>> (y &&& 31)) st
  | .idiv => iDiv (fun x y => x / y) st
  | .irem => iDiv (fun x y => x - x / y * y) st
  | .ineg => iUn (fun x => .int (-x)) st
  | .ladd => lBin (fun x y => x + y) st
  | .lsub => lBin (fun x y => x - y) st
  | .lmul => lBin (fun x y => x * y) st
  | .land => lBin (fun x y => x &&& y) st
  | .lor => lBin (fun x y => x ||| y) st
  | .lshl => lSh (fun x y => x <<< (y.toInt64 &&& 63)) st
  | .lshr => lSh (fun x y => x >>> (y.toInt64 &&& 63)) st
  | .lushr => lSh (fun x y => (x.toUInt64 >>> (y.toInt64.toUInt64 &&& Int64.toUInt64 63)).toInt64) st
  | .lneg => lUn (fun x => .long (-x)) st
  | .i2l => iUn (fun x => .long x.toInt64) st
  | .l2i => lUn (fun x => .int x.toInt32) st
  | .i2b => iUn (fun x => .int x.toInt8.toInt32) st
  | .i2c => iUn (fun x => .int (x.toUInt32 % 65536).toInt32) st
  | .lcmp => (match st with | .long y :: .long x :: r => some (.int (lg_cmp x y) :: r) | _ => none)
  | .iconst n => some (.int (Int32.ofInt n) :: st)
  | .lconst n => some (.long (Int64.ofNat (n : Nat)) :: st)
  | .dup => (match st with | v :: r => if v.category = 1 then some (v :: v :: r) else none | _ => none)
  | .pop => (match st with | v :: r => if v.category = 1 then some r else none | _ => none)
  | .dup2 => (match st with | v :: w :: r => if v.category = 1 ∧ w.category = 1 then some (v :: w :: v :: w :: r) else if v.category = 2 then some (v :: v :: w :: r) else none | _ => none)
  | .pop2 => (match st with | v :: r => if v.category = 2 then some r else none | _ => none)
  | _ => none
/-- locals and constants: (the instruction's length, what comes) -/
def sB (o nL : Nat) (i : Instr) (L : ALS) (st : List Value) : Option (Nat × ALS × List Value) := match i with
  | .aload_n k => (match lget L k with | some (.ref a) => some (1, L, .ref a :: st) | _ => none)
  | .aload k => (match lget L k with | some (.ref a) => some (2, L, .ref a :: st) | _ => none)
  | .iload_n k => (match lget L k with | some (.int a) => some (1, L, .int a :: st) | _ => none)
  | .iload k => (match lget L k with | some (.int a) => some (2, L, .int a :: st) | _ => none)
  | .lload_n k => (match lget L k with | some (.long a) => some (1, L, .long a :: st) | _ => none)
  | .lload k => (match lget L k with | some (.long a) => some (2, L, .long a :: st) | _ => none)
  | .astore_n k => (match st with | .ref a :: r => if (k : Nat) < nL then some (1, lst1 L k (.ref a), r) else none | _ => none)
  | .astore k => (match st with | .ref a :: r => if k < nL then some (2, lst1 L k (.ref a), r) else none | _ => none)
  | .istore_n k => (match st with | .int a :: r => if (k : Nat) < nL then some (1, lst1 L k (.int a), r) else none | _ => none)
  | .istore k => (match st with | .int a :: r => if k < nL then some (2, lst1 L k (.int a), r) else none | _ => none)
  | .lstore_n k => (match st with | .long a :: r => if (k : Nat) + 1 < nL then some (1, lst2 L k (.long a), r) else none | _ => none)
  | .lstore k => (match st with | .long a :: r => if k + 1 < nL then some (2, lst2 L k (.long a), r) else none | _ => none)
  | .iinc k n => (match lget L k with | some (.int a) => if k < nL then some (3, lst1 L k (.int (a + Int32.ofInt n)), st) else none | _ => none)
  | .bipush n => some (2, L, .int (Int8.ofInt n).toInt32 :: st)
  | .sipush n => some (3, L, .int (Int16.ofInt n).toInt32 :: st)
  | .ldc idx => (match cTab.lookup (o, idx) with | some v => some (2, L, .int v :: st) | none => none)
  | .ldc_w idx => (match cTab.lookup (o, idx) with | some v => some (3, L, .int v :: st) | none => none)
  | .ldc2_w idx => (match lTab.lookup (o, idx) with | some v => some (3, L, .long v :: st) | none => none)
  | _ => none
def icnd (c : ClassFile.Cond) (x y : Int32) : Prop := match c with
  | .eq => x = y | .ne => x ≠ y | .lt => x < y | .ge => y ≤ x | .gt => y < x | .le => x ≤ y
def tgt (pc : Nat) (off : Int) : Nat := ((pc : Int) + off).toNat
/-- where a branch goes: (its length, the condition, its offset, the stack) -/
def sJ (i : Instr) (st : List Value) : Option (Prop × Int × List Value) := match i with
  | .goto off => some (True, off, st)
  | .if_icmp c off => (match st with | .int y :: .int x :: r => some (icnd c x y, off, r) | _ => none)
  | .ifCond c off => (match st with | .int x :: r => some (icnd c x 0, off, r) | _ => none)
  | _ => none
/-- a switch: its offset -/
def sS (i : Instr) (st : List Value) : Option (Int × List Value) := match i with
  | .tableswitch dflt lo hi offs => (match st with | .int x :: r => if x.toInt < lo ∨ hi < x.toInt then some (dflt, r) else (match offs[(x.toInt - lo).toNat]? with | some off => some (off, r) | none => none) | _ => none)
  | .lookupswitch dflt ps => (match st with | .int x :: r => if (ps.toList.zip (ps.toList.drop 1)).all (fun (a, next) => a.1 < next.1) = true then some (Op.lookupswitch.offset ps.toList dflt x.toInt, r) else none | _ => none)
  | _ => none
def swOK (h : Hp) (L : ALS) (st : List Value) (ob i k q : Nat) : Prop :=
  k ≠ q ∧ hK h k = hK h q ∧ 13 ≤ hK h k ∧ (∀ a b, hR h a b ≠ some q) ∧ (∀ a b, hR h a b = some k → a = ob ∧ b = i) ∧ (∀ x ∈ L, x.2 ≠ .ref k) ∧ ∀ v ∈ st, v ≠ .ref k
def rnm (k q : Nat) (v : Value) : Value := if v = .ref q then .ref k else v
def isFin (ci i : Nat) : Bool := match vwCl[ci]? with
  | some q => (q.2.1 i).2.2.2
  | none => false
/-- a field is put: (locals, stack, heap) -/
noncomputable def sP (o kd idx : Nat) (L : ALS) (st : List Value) (h : Hp) : Option (ALS × List Value × Hp) :=
  match fl o idx with
  | some (ci, i) =>
    if isFin ci i = true ∧ ¬ (kd = 2 ∧ (vwCl[ci]?).map (fun q => (q.2.1 i).1) = some (oNm o)) then none else
    (match st with
    | .int x :: .ref k :: r => if hK h k = ci ∧ (ftk (tyOf ci i) = 0 ∨ ftk (tyOf ci i) = 1 ∧ (x = 0 ∨ x = 1)) then some (L, r, pI h k i x) else none
    | .long x :: .ref k :: r => if hK h k = ci ∧ ftk (tyOf ci i) = 2 then some (L, r, pL h k i x) else none
    | .ref q :: .ref ob :: r => if hK h ob = ci ∧ ftk (tyOf ci i) = 3 ∧ q < SB then
        (match hR h ob i with
        | some k => @ite _ (swOK h L r ob i k q) (Classical.propDecidable _) (some (L.map (fun x => (x.1, rnm k q x.2)), r.map (rnm k q), nS h k q)) (some (L, r, pR h ob i (some q)))
        | none => some (L, r, pR h ob i (some q)))
        else none
    | _ => none)
  | none => none
def akd (t : ArrayType) : Option Nat := match t with
  | .byte => some 13 | .int => some 14 | .long => some 15 | .boolean => some 16 | _ => none
/-- the heap is read or written: (length, stack, heap) -/
def sH (o : Nat) (i : Instr) (st : List Value) (h : Hp) : Option (Nat × List Value × Hp) := match i with
  | .getfield idx => (match fl o idx with
    | some (ci, j) => (match st with | .ref k :: r => if hK h k = ci then some (3, fvA h ci k j :: r, h) else none | _ => none)
    | none => none)
  | .arraylength => (match st with | .ref k :: r => if 13 ≤ hK h k ∧ hK h k ≤ 16 then some (1, .int (nI (hN h k)) :: r, h) else none | _ => none)
  | .iaload => (match st with | .int x :: .ref k :: r => if hK h k = 14 ∧ 0 ≤ x.toInt ∧ x.toInt < hN h k then some (1, .int (hA h k x.toNatClampNeg) :: r, h) else none | _ => none)
  | .baload => (match st with | .int x :: .ref k :: r => if (hK h k = 13 ∨ hK h k = 16) ∧ 0 ≤ x.toInt ∧ x.toInt < hN h k then some (1, .int (hA h k x.toNatClampNeg) :: r, h) else none | _ => none)
  | .laload => (match st with | .int x :: .ref k :: r => if hK h k = 15 ∧ 0 ≤ x.toInt ∧ x.toInt < hN h k then some (1, .long (hB h k x.toNatClampNeg) :: r, h) else none | _ => none)
  | .iastore => (match st with | .int v :: .int x :: .ref k :: r => if hK h k = 14 ∧ 0 ≤ x.toInt ∧ x.toInt < hN h k then some (1, r, pA h k (upd (hA h k) x.toNatClampNeg v)) else none | _ => none)
  | .bastore => (match st with | .int v :: .int x :: .ref k :: r => if (hK h k = 13 ∨ hK h k = 16) ∧ 0 ≤ x.toInt ∧ x.toInt < hN h k then some (1, r, pA h k (upd (hA h k) x.toNatClampNeg (if hK h k = 13 then v.toInt8.toInt32 else v &&& 1))) else none | _ => none)
  | .lastore => (match st with | .long v :: .int x :: .ref k :: r => if hK h k = 15 ∧ 0 ≤ x.toInt ∧ x.toInt < hN h k then some (1, r, pB h k (vp_updL (hB h k) x.toNatClampNeg v)) else none | _ => none)
  | .newarray t => (match akd t with
    | some kd => (match st with | .int x :: r => if 0 ≤ x.toInt ∧ x.toInt ≤ 60000000 ∧ hn h < SB then some (2, .ref (hn h) :: r, nA h kd x.toNatClampNeg) else none | _ => none)
    | none => none)
  | .new idx => (match nTab.lookup (o, idx) with
    | some ci => if hn h < SB then some (3, .ref (hn h) :: st, nO h ci (nfl ci)) else none
    | none => none)
  | _ => none
def catS (st : List Value) : Nat := (st.map fun v => v.category).sum
/-- a call: (kind of the call, place in the pool) -/
def sK (i : Instr) : Option (Nat × Nat) := match i with
  | .invokevirtual idx => some (0, idx)
  | .invokestatic idx => some (1, idx)
  | .invokespecial idx => some (2, idx)
  | _ => none
/-- objects and texts stay where they are: of these values none is a row -/
def rok (h h1 : Hp) : List Value → Prop
  | [] => True
  | v :: t => (match v with | .ref k => hK h k < 13 ∨ SB ≤ k ∨ hv h1 k = hv h k | _ => True) ∧ rok h h1 t
/-- the class of vwCl that a class with code is -/
def ciO (o : Nat) : Nat := match o with
  | 0 => 1 | 1 => 2 | 2 => 3 | 3 => 4 | 4 => 5 | 5 => 6 | 6 => 7 | 7 => 8 | 9 => 9 | 11 => 10 | 12 => 11 | 13 => 12 | _ => 98
def rcv (h : Hp) (oj : Nat) (v : Option Value) : Bool := match v with
  | some (.ref k) => hK h k == ciO oj
  | _ => false
/-- System.arraycopy of rows of one kind -/
def sY (st : List Value) (h : Hp) : Option (List Value × Hp) := match st with
  | .int n :: .int dp :: .ref b :: .int sp :: .ref a :: r =>
    if hK h a = hK h b ∧ (hK h a = 14 ∨ hK h a = 15) ∧ 0 ≤ sp.toInt ∧ 0 ≤ dp.toInt ∧ 0 ≤ n.toInt ∧ sp.toInt + n.toInt ≤ hN h a ∧ dp.toInt + n.toInt ≤ hN h b ∧ a ≠ b ∧ catS r ≤ 8 then
      some (r, if hK h a = 14 then pA h b (va_cpy (hA h a) (hA h b) sp.toNatClampNeg dp.toNatClampNeg n.toNatClampNeg) else pB h b (va_cpy (hB h a) (hB h b) sp.toNatClampNeg dp.toNatClampNeg n.toNatClampNeg))
    else none
  | _ => none
