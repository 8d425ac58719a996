/-! BUILD. Parts, words and shapes of what was read -/
def chl (N : NS) : Nat → Int32 → List Nat
  | 0, _ => []
  | k + 1, c => if c < 0 then [] else c.toInt.toNat :: chl N k (nX N c.toInt.toNat)
def nCn (N : NS) (i : Nat) : Nat := (nC N i).toInt.toNat
/-- a list's parts -/
def pts (N : NS) (i : Nat) : List Nat := if nK N i = 6 then chl N (nCn N i) (nF N i) else []
/-- part j of a node -/
def prt (N : NS) (i j : Nat) : Nat := (pts N i).getD j 0
/-- the word of forms that a list begins with: 1 to 10, 0 none -/
def wrd (N : NS) (i : Nat) : Nat := match pts N i with
  | [] => 0
  | c :: _ => if nK N c = 5 ∧ nCn N c < 10 then nCn N c + 1 else 0
def arN (N : NS) (i : Nat) : Bool := nK N i == 6 && decide ((pts N i).length ≤ 8) && (pts N i).all (fun c => nK N c == 5)
def arP (N : NS) (i : Nat) : Bool := nK N i == 6 && decide ((pts N i).length ≤ 8) && (pts N i).all (fun c => decide ((pts N c).length = 2) && nK N (prt N c 0) == 5)
/-- a form of this word has its shape; define stands in the row alone -/
def shp (N : NS) (n w : Nat) (row : Bool) : Bool :=
  if w = 1 then decide ((pts N n).length = 2)
  else if w = 2 then decide (3 ≤ (pts N n).length) && arN N (prt N n 1)
  else if w = 3 then decide ((pts N n).length = 4)
  else if w = 4 ∨ w = 5 then decide (3 ≤ (pts N n).length) && arP N (prt N n 1)
  else if w = 6 then decide ((pts N n).length = 3) && nK N (prt N n 1) == 5
  else if w = 10 then row && decide ((pts N n).length = 3) && nK N (prt N n 1) == 5
  else if w = 0 then decide (1 ≤ (pts N n).length ∧ (pts N n).length ≤ 9)
  else decide (2 ≤ (pts N n).length)
/-- the names that the row's forms define, in their order; what each is -/
def gdF (N : NS) (l : List Nat) (n : Nat) : List Nat := if wrd N n = 10 ∧ shp N n 10 true = true ∧ 30 ≤ nCn N (prt N n 1) ∧ nCn N (prt N n 1) ∉ l then l ++ [nCn N (prt N n 1)] else l
def gdf (N : NS) : List Nat := (pts N 0).foldl (gdF N) []
theorem nI_nl {n : Nat} (h : n < 2000000000) : ¬ nI n < 0 := fun c => by
  have h1 := Int32.lt_iff_toInt_lt.mp c
  rw [nI_toInt (by omega)] at h1
  have : (0 : Int32).toInt = 0 := rfl
  omega
theorem tn_nI {n : Nat} (h : n < 2000000000) : (nI n).toInt.toNat = n := by
  rw [nI_toInt (by omega)]
  exact Int.toNat_natCast n
section SHP
variable {N : NS}
/-- a forest's roots are along the chain -/
theorem frs_chl {R : Nat → Nat → Prop} : ∀ (ps : List Nat) (a b : Nat), Frs R (nX N) ps a b → b < 2000000000 → chl N ps.length (oI ps.head?) = ps
  | [], _, _, _, _ => rfl
  | c :: ps, a, b, h, hb => by
    obtain ⟨rfl, m, h1, h2, h3, h4, h5⟩ := h
    show (if nI c < 0 then [] else (nI c).toInt.toNat :: chl N ps.length (nX N (nI c).toInt.toNat)) = _
    rw [if_neg (nI_nl (by omega)), tn_nI (by omega), h4, frs_chl ps m b h5 hb]
theorem frs_len {R : Nat → Nat → Prop} {X : Nat → Int32} : ∀ (ps : List Nat) (a b : Nat), Frs R X ps a b → a + ps.length ≤ b
  | [], _, _, h => Nat.le_of_eq h
  | c :: ps, a, b, h => by
    obtain ⟨rfl, m, h1, h2, h3, h4, h5⟩ := h
    have := frs_len ps m b h5
    simp only [List.length_cons]
    omega
/-- a list that is a tree has its parts in their order -/
theorem tr_pts {f a b : Nat} (h : Tr (f + 1) N a b) (h6 : nK N a = 6) (hb : b < 2000000000) : nCn N a = (pts N a).length ∧ nF N a = oI (pts N a).head? ∧ Frs (Tr f N) (nX N) (pts N a) (a + 1) b := by
  rcases h with ⟨h, _⟩ | ⟨_, ps, h1, h2, h3, h4⟩
  · exact absurd h6 h
  · have hl := frs_len ps _ _ h4
    have e : pts N a = ps := by
      unfold pts nCn
      rw [if_pos h6, h1, h2, tn_nI (by omega)]
      exact frs_chl ps _ _ h4 hb
    rw [e]
    exact ⟨by unfold nCn; rw [h1, tn_nI (by omega)], h2, h4⟩
theorem pts_no {a : Nat} (h : nK N a ≠ 6) : pts N a = [] := if_neg h
/-- a part is a tree of its own, within -/
theorem frs_mem {R : Nat → Nat → Prop} {X : Nat → Int32} : ∀ (ps : List Nat) (a b : Nat), Frs R X ps a b → ∀ c, c ∈ ps → ∃ m, R c m ∧ a ≤ c ∧ c < m ∧ m ≤ b
  | [], _, _, _, c, hc => by cases hc
  | c0 :: ps, a, b, h, c, hc => by
    obtain ⟨rfl, m, h1, h2, h3, h4, h5⟩ := h
    rcases List.mem_cons.mp hc with rfl | hc
    · exact ⟨m, h1, Nat.le_refl _, h2, h3⟩
    · obtain ⟨m', a1, a2, a3, a4⟩ := frs_mem ps m b h5 c hc
      exact ⟨m', a1, by omega, a3, a4⟩
theorem prt_mem {n j : Nat} (h : j < (pts N n).length) : prt N n j ∈ pts N n := by
  unfold prt
  rw [List.getD_eq_getElem?_getD, List.getElem?_eq_getElem h]
  exact List.getElem_mem h
end SHP
