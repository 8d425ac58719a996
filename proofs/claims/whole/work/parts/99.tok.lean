/-! BUILD. The text as a row of tokens, and the reading of it -/
/-- a token: what it is, where it begins, its content -/
abbrev TK := Nat × Nat × Int32
def tkK (k : Nat) : Int32 := if k = 5 then 1 else if k = 6 then 3 else if k = 7 then 2 else 5
/-- the tokens from p on, and the table of names behind them -/
def Scn (t : Nat → Nat) (n : Nat) : Nat → Nat → List KY → List Nat → List TK → List KY → List Nat → Prop
  | 0, _, _, _, _, _, _ => False
  | f + 1, p, K, mt, T, K', mt' => (n ≤ p ∧ T = [(0, n, 0)] ∧ K' = K ∧ mt' = mt) ∨ (p < n ∧ (
    (bkC (t p) ∧ Scn t n f (p + 1) K mt T K' mt') ∨
    (t p = 59 ∧ Scn t n f (lne t n p) K mt T K' mt') ∨
    (isW (t p) = true ∧ WDb t p (we t n (p + 1)) ∧ T = [(1, p, 0)]) ∨
    (isW (t p) = true ∧ ∃ x v K1 mt1 T1, 5 ≤ x ∧ x ≤ 8 ∧ WDg t p (we t n (p + 1)) K mt (tkK x) v K1 mt1 ∧ T = (x, p, v) :: T1 ∧ Scn t n f (we t n (p + 1)) K1 mt1 T1 K' mt') ∨
    (t p = 40 ∧ ∃ T1, T = (2, p, 0) :: T1 ∧ Scn t n f (p + 1) K mt T1 K' mt') ∨
    (t p = 41 ∧ ∃ T1, T = (3, p, 0) :: T1 ∧ Scn t n f (p + 1) K mt T1 K' mt') ∨
    (t p = 39 ∧ ∃ T1, T = (4, p, 0) :: T1 ∧ Scn t n f (p + 1) K (if 0 ∈ mt then mt else mt ++ [0]) T1 K' mt') ∨
    (¬ bkC (t p) ∧ t p ≠ 59 ∧ isW (t p) = false ∧ t p ≠ 40 ∧ t p ≠ 41 ∧ t p ≠ 39 ∧ T = [(1, p, 0)])))
def pe (stk : List SE) : SE := stk.headD (0, none, false)
def pDa (k v : Int32) (p : Nat) (N : NS) (stk : List SE) : NS × List SE := (adN (nwN N k v (nI p)) (pe stk) N.1, cq (((pe stk).1, some N.1, (pe stk).2.2) :: stk.tail))
def pOp (p : Nat) (N : NS) (stk : List SE) : NS × List SE := (adN (nwN N 6 0 (nI p)) (pe stk) N.1, (N.1, none, false) :: ((pe stk).1, some N.1, (pe stk).2.2) :: stk.tail)
def pQu (p : Nat) (N : NS) (stk : List SE) : NS × List SE := (adN (nwN (adN (nwN N 6 0 (nI p)) (pe stk) N.1) 5 0 (nI p)) (N.1, none, true) (N.1 + 1), (N.1, some (N.1 + 1), true) :: ((pe stk).1, some N.1, (pe stk).2.2) :: stk.tail)
/-- the reading of tokens: the fault or none, the nodes, the lists that are not closed -/
def prun : List TK → NS → List SE → Option (Nat × Nat) × NS × List SE
  | [], N, stk => (none, N, stk)
  | x :: T, N, stk =>
    if x.1 = 0 then (if stk.length = 1 then none else some (1, x.2.1), N, stk)
    else if x.1 = 1 then (some (1, x.2.1), N, stk)
    else if x.1 = 2 then (if 31 ≤ stk.length then (some (2, x.2.1), N, stk) else prun T (pOp x.2.1 N stk).1 (pOp x.2.1 N stk).2)
    else if x.1 = 3 then (if 1 < stk.length ∧ (pe stk).2.2 = false then prun T N (cq stk.tail) else (some (1, x.2.1), N, stk))
    else if x.1 = 4 then (if 31 ≤ stk.length then (some (2, x.2.1), N, stk) else prun T (pQu x.2.1 N stk).1 (pQu x.2.1 N stk).2)
    else prun T (pDa (tkK x.1) x.2.2 x.2.1 N stk).1 (pDa (tkK x.1) x.2.2 x.2.1 N stk).2
section TOK
variable {t : Nat → Nat} {n : Nat}
theorem tkK_inj {x y : Nat} (hx : 5 ≤ x ∧ x ≤ 8) (hy : 5 ≤ y ∧ y ≤ 8) (h : tkK x = tkK y) : x = y := by
  have key : ∀ x, x < 9 → ∀ y, y < 9 → 5 ≤ x → 5 ≤ y → tkK x = tkK y → x = y := by decide
  exact key x (by omega) y (by omega) hx.1 hy.1 h
theorem nd_get {K : List KY} (hK : K.Nodup) {i j : Nat} {k : KY} (hi : K[i]? = some k) (hj : K[j]? = some k) : i = j := by
  have h1 := g_lt hi
  exact (List.getElem?_inj h1 hK).mp (hi.trans hj.symm)
theorem wdb_g {p e : Nat} {K K' : List KY} {mt mt' : List Nat} {k v : Int32} (b : WDb t p e) (g : WDg t p e K mt k v K' mt') : False := by
  rcases b with ⟨b1, b2⟩ | ⟨b1, b2, b3⟩ | ⟨b1, b2, b3⟩
  · rcases g with ⟨_, g2, g3, _⟩ | ⟨g1, _⟩ | ⟨g1, _⟩
    · rcases b2 with ⟨i, b4, b5, b6⟩ | b2
      · rw [g2 i b4 b5] at b6; cases b6
      · omega
    · exact g1 b1
    · exact g1 b1
  · rcases g with ⟨g1, _⟩ | ⟨_, _, g3, g4, _⟩ | ⟨_, g2, _⟩
    · exact b1 g1
    · exact b3 ⟨g3, g4.elim (fun g => Or.inl g.1) (fun g => Or.inr g.1)⟩
    · exact g2 b2
  · rcases g with ⟨g1, _⟩ | ⟨_, g2, _⟩ | ⟨_, _, g3, _⟩
    · exact b1 g1
    · exact b2 g2
    · omega
theorem wdg_det {p e : Nat} {K K1 K2 : List KY} {mt m1 m2 : List Nat} {k1 v1 k2 v2 : Int32} (hK : K.Nodup) (a : WDg t p e K mt k1 v1 K1 m1) (b : WDg t p e K mt k2 v2 K2 m2) : k1 = k2 ∧ v1 = v2 ∧ K1 = K2 ∧ m1 = m2 := by
  rcases a with ⟨a1, a2, a3, a4, a5, a6, a7⟩ | ⟨a1, a2, a3, a4, a5, a6, a7⟩ | ⟨a1, a2, a3, a4, i, a5, a6, a7⟩
  · rcases b with ⟨b1, b2, b3, b4, b5, b6, b7⟩ | ⟨b1, _⟩ | ⟨b1, _⟩
    · exact ⟨a4.trans b4.symm, a5.trans b5.symm, a6.trans b6.symm, a7.trans b7.symm⟩
    · exact absurd a1 b1
    · exact absurd a1 b1
  · rcases b with ⟨b1, _⟩ | ⟨b1, b2, b3, b4, b5, b6, b7⟩ | ⟨b1, b2, _⟩
    · exact absurd b1 a1
    · refine ⟨?_, a5.trans b5.symm, a6.trans b6.symm, a7.trans b7.symm⟩
      rcases a4 with ⟨a8, a9⟩ | ⟨a8, a9⟩ <;> rcases b4 with ⟨b8, b9⟩ | ⟨b8, b9⟩
      · exact a9.trans b9.symm
      · omega
      · omega
      · exact a9.trans b9.symm
    · exact absurd a2 b2
  · rcases b with ⟨b1, _⟩ | ⟨b1, b2, _⟩ | ⟨b1, b2, b3, b4, j, b5, b6, b7⟩
    · exact absurd b1 a1
    · exact absurd b2 a2
    · have e : i = j ∧ K1 = K2 := by
        rcases a6 with ⟨a8, a9⟩ | ⟨a8, a9, a10⟩ <;> rcases b6 with ⟨b8, b9⟩ | ⟨b8, b9, b10⟩
        · exact ⟨nd_get hK a8 b8, a9.trans b9.symm⟩
        · exact absurd (List.mem_of_getElem? a8) b8
        · exact absurd (List.mem_of_getElem? b8) a8
        · exact ⟨a9.trans b9.symm, a10.trans b10.symm⟩
      obtain ⟨rfl, e2⟩ := e
      exact ⟨a4.trans b4.symm, a5.trans b5.symm, e2, a7.trans b7.symm⟩
theorem wdg_nd {p e : Nat} {K K1 : List KY} {mt m1 : List Nat} {k v : Int32} (hK : K.Nodup) (a : WDg t p e K mt k v K1 m1) : K1.Nodup := by
  rcases a with ⟨_, _, _, _, _, rfl, _⟩ | ⟨_, _, _, _, _, rfl, _⟩ | ⟨_, _, _, _, i, _, ⟨_, rfl⟩ | ⟨a8, _, rfl⟩, _⟩
  · exact hK
  · exact hK
  · exact hK
  · exact List.nodup_append.mpr ⟨hK, by simp, fun a ha b hb e => by
      simp only [List.mem_cons, List.not_mem_nil, or_false] at hb
      subst hb
      exact a8 (e ▸ ha)⟩
theorem w_ex {c : Nat} (h : isW c = true) : ¬ bkC c ∧ c ≠ 59 ∧ c ≠ 40 ∧ c ≠ 41 ∧ c ≠ 39 := by
  refine ⟨fun b => ?_, fun e => ?_, fun e => ?_, fun e => ?_, fun e => ?_⟩
  · rcases b with rfl | rfl | rfl <;> exact absurd h (by decide)
  all_goals (subst e; exact absurd h (by decide))
theorem bk_ex {c : Nat} (h : bkC c) : c ≠ 59 ∧ c ≠ 40 ∧ c ≠ 41 ∧ c ≠ 39 := by
  rcases h with rfl | rfl | rfl <;> decide
theorem cq_ne0 : ∀ l : List SE, l ≠ [] → cq l ≠ []
  | [], h => absurd rfl h
  | [e], _ => by unfold cq; simp
  | e :: e' :: l, _ => by
    unfold cq
    split
    · exact cq_ne0 (e' :: l) (by simp)
    · simp
/-- the steps of the program under proof read the tokens so -/
theorem crn_prun : ∀ (f p : Nat) (K : List KY) (mt : List Nat) (T : List TK) (K' : List KY) (mt' : List Nat), Scn t n f p K mt T K' mt' → p ≤ n → K.Nodup → ∀ (g : Nat) (N : NS) (stk : List SE) (r : Option (Nat × Nat)) (K2 : List KY) (m2 : List Nat) (N2 : NS) (s2 : List SE), stk ≠ [] → CRn t n g p K mt N stk r K2 m2 N2 s2 → (r = none → K2 = K' ∧ m2 = mt' ∧ prun T N stk = (if s2.length = 1 then none else some (1, n), N2, s2)) ∧ ∀ x, r = some x → (prun T N stk).1 = some x := by
  intro f
  induction f with
  | zero => intro p K mt T K' mt' h; exact h.elim
  | succ f ih =>
    intro p K mt T K' mt' hS hp hK g N stk r K2 m2 N2 s2 hne hC
    cases g with
    | zero => exact hC.elim
    | succ g =>
      obtain ⟨e0, l0, rfl⟩ : ∃ e0 l0, stk = e0 :: l0 := by
        cases stk with
        | nil => exact absurd rfl hne
        | cons a b => exact ⟨a, b, rfl⟩
      rcases hC with ⟨c1, rfl, rfl, rfl, rfl, rfl⟩ | ⟨c1, k, c2, cf, rfl, rfl, rfl, rfl, rfl⟩ | ⟨c1, p1, K1, mt1, N1, stk1, cg, cr⟩
      · rcases hS with ⟨_, rfl, rfl, rfl⟩ | ⟨h, _⟩
        · exact ⟨fun _ => ⟨rfl, rfl, rfl⟩, fun x hx => by cases hx⟩
        · omega
      · refine ⟨fun e => (by cases e), fun x hx => ?_⟩
        injection hx with hx
        subst hx
        obtain ⟨f1, f2, f3⟩ := cf
        rcases hS with ⟨h, _⟩ | ⟨_, hS⟩
        · omega
        rcases hS with ⟨h, _⟩ | ⟨h, _⟩ | ⟨h, hb, rfl⟩ | ⟨h, x, v, Ka, ma, T1, _, _, hg, rfl, _⟩ | ⟨h, T1, rfl, _⟩ | ⟨h, T1, rfl, _⟩ | ⟨h, T1, rfl, _⟩ | ⟨_, _, h1, h2, h3, h4, rfl⟩
        · exact absurd h f1
        · exact absurd h f2
        · rcases f3 with ⟨_, _, rfl⟩ | ⟨h2, _⟩
          · rfl
          · rw [h] at h2; cases h2
        · rcases f3 with ⟨_, h2, _⟩ | ⟨h2, _⟩
          · exact (wdb_g h2 hg).elim
          · rw [h] at h2; cases h2
        · rcases f3 with ⟨h2, _⟩ | ⟨_, ⟨_, h2, rfl⟩ | ⟨h2, _⟩⟩
          · exact absurd h (w_ex h2).2.2.1
          · show (prun ((2, p, 0) :: T1) _ (e0 :: l0)).1 = _
            unfold prun
            dsimp only
            rw [if_neg (by decide), if_neg (by decide), if_pos rfl, if_pos h2]
          · exact absurd h h2
        · rcases f3 with ⟨h2, _⟩ | ⟨_, ⟨h2, _⟩ | ⟨_, _, h2, rfl⟩⟩
          · exact absurd h (w_ex h2).2.2.2.1
          · omega
          · show (prun ((3, p, 0) :: T1) _ (e0 :: l0)).1 = _
            unfold prun
            dsimp only
            rw [if_neg (by decide), if_neg (by decide), if_neg (by decide), if_pos rfl, if_neg]
            rintro ⟨a1, a2⟩
            cases l0 with
            | nil => simp at a1
            | cons e' l => exact h2 ⟨h, e0, e', l, rfl, a2⟩
        · rcases f3 with ⟨h2, _⟩ | ⟨_, ⟨_, h2, rfl⟩ | ⟨_, h2, _⟩⟩
          · exact absurd h (w_ex h2).2.2.2.2
          · show (prun ((4, p, 0) :: T1) _ (e0 :: l0)).1 = _
            unfold prun
            dsimp only
            rw [if_neg (by decide), if_neg (by decide), if_neg (by decide), if_neg (by decide), if_pos rfl, if_pos h2]
          · exact absurd h h2
        · rcases f3 with ⟨h5, _⟩ | ⟨_, ⟨h5, _⟩ | ⟨_, _, _, rfl⟩⟩
          · rw [h1] at h5; cases h5
          · omega
          · rfl
      · rcases hS with ⟨h, _⟩ | ⟨_, hS⟩
        · omega
        have hle : p1 ≤ n := (ctg_p c1 cg).2
        rcases cg with ⟨cg, rfl, rfl, rfl, rfl⟩ | ⟨g1, g2, g3, rfl, k, v, e, l, wg, es, rfl, rfl⟩ | ⟨g1, rfl, rfl, rfl, e, l, es, hl, rfl, rfl⟩ | ⟨g1, rfl, rfl, rfl, e, l, es, hl, rfl, rfl⟩ | ⟨g1, rfl, rfl, rfl, rfl, e, e', l, es, hq, rfl⟩
        · rcases hS with ⟨h, hs⟩ | ⟨h, hs⟩ | ⟨h, _⟩ | ⟨h, _⟩ | ⟨h, _⟩ | ⟨h, _⟩ | ⟨h, _⟩ | ⟨h1, h2, _⟩
          · rcases cg with ⟨_, rfl⟩ | ⟨h2, _⟩
            · exact ih _ _ _ _ _ _ hs hle hK g N1 _ r K2 m2 N2 s2 hne cr
            · exact absurd h h2
          · rcases cg with ⟨h2, rfl⟩ | ⟨_, _, rfl⟩
            · exact absurd h (bk_ex h2).1
            · exact ih _ _ _ _ _ _ hs hle hK g N1 _ r K2 m2 N2 s2 hne cr
          · exact absurd cg (fun cg => cg.elim (fun c => (w_ex h).1 c.1) (fun c => (w_ex h).2.1 c.2.1))
          · exact absurd cg (fun cg => cg.elim (fun c => (w_ex h).1 c.1) (fun c => (w_ex h).2.1 c.2.1))
          · exact absurd cg (fun cg => cg.elim (fun c => (bk_ex c.1).2.1 h) (fun c => by omega))
          · exact absurd cg (fun cg => cg.elim (fun c => (bk_ex c.1).2.2.1 h) (fun c => by omega))
          · exact absurd cg (fun cg => cg.elim (fun c => (bk_ex c.1).2.2.2 h) (fun c => by omega))
          · exact absurd cg (fun cg => cg.elim (fun c => h1 c.1) (fun c => h2 c.2.1))
        · injection es with e1 e2
          subst e1; subst e2
          rcases hS with ⟨h, hs⟩ | ⟨h, hs⟩ | ⟨_, h, _⟩ | ⟨_, x, v', K3, m3, T1, hx1, hx2, h, rfl, hs⟩ | ⟨h, _⟩ | ⟨h, _⟩ | ⟨h, _⟩ | ⟨_, _, h, _⟩
          · exact absurd h g1
          · exact absurd h g2
          · exact (wdb_g h wg).elim
          · obtain ⟨rfl, rfl, rfl, rfl⟩ := wdg_det hK wg h
            have := ih _ _ _ _ _ _ hs hle (wdg_nd hK h) g _ _ r K2 m2 N2 s2 (cq_ne0 _ (by simp)) cr
            have ep : prun ((x, p, v) :: T1) N (e0 :: l0) = prun T1 (pDa (tkK x) v p N (e0 :: l0)).1 (pDa (tkK x) v p N (e0 :: l0)).2 := by
              show (if x = 0 then _ else if x = 1 then _ else if x = 2 then _ else if x = 3 then _ else if x = 4 then _ else _) = _
              rw [if_neg (by omega), if_neg (by omega), if_neg (by omega), if_neg (by omega), if_neg (by omega)]
            rw [ep]
            exact this
          · exact absurd h (w_ex g3).2.2.1
          · exact absurd h (w_ex g3).2.2.2.1
          · exact absurd h (w_ex g3).2.2.2.2
          · rw [g3] at h; cases h
        · injection es with e1 e2
          subst e1; subst e2
          rcases hS with ⟨h, hs⟩ | ⟨h, hs⟩ | ⟨h, _⟩ | ⟨h, _⟩ | ⟨h, T1, rfl, hs⟩ | ⟨h, _⟩ | ⟨h, _⟩ | ⟨_, _, _, h, _⟩
          · exact absurd g1 (bk_ex h).2.1
          · omega
          · exact absurd g1 (w_ex h).2.2.1
          · exact absurd g1 (w_ex h).2.2.1
          · have := ih _ _ _ _ _ _ hs hle hK g _ _ r K2 m2 N2 s2 (by simp) cr
            have ep : prun ((2, p, 0) :: T1) N (e0 :: l0) = prun T1 (pOp p N (e0 :: l0)).1 (pOp p N (e0 :: l0)).2 := by
              show (if (2 : Nat) = 0 then _ else if (2 : Nat) = 1 then _ else if (2 : Nat) = 2 then _ else _) = _
              rw [if_neg (by decide), if_neg (by decide), if_pos rfl, if_neg (by simp only [List.length_cons]; omega)]
            rw [ep]
            exact this
          · omega
          · omega
          · exact absurd g1 h
        · injection es with e1 e2
          subst e1; subst e2
          rcases hS with ⟨h, hs⟩ | ⟨h, hs⟩ | ⟨h, _⟩ | ⟨h, _⟩ | ⟨h, _⟩ | ⟨h, _⟩ | ⟨h, T1, rfl, hs⟩ | ⟨_, _, _, _, _, h, _⟩
          · exact absurd g1 (bk_ex h).2.2.2
          · omega
          · exact absurd g1 (w_ex h).2.2.2.2
          · exact absurd g1 (w_ex h).2.2.2.2
          · omega
          · omega
          · have := ih _ _ _ _ _ _ hs hle hK g _ _ r K2 m2 N2 s2 (by simp) cr
            have ep : prun ((4, p, 0) :: T1) N (e0 :: l0) = prun T1 (pQu p N (e0 :: l0)).1 (pQu p N (e0 :: l0)).2 := by
              show (if (4 : Nat) = 0 then _ else if (4 : Nat) = 1 then _ else if (4 : Nat) = 2 then _ else if (4 : Nat) = 3 then _ else if (4 : Nat) = 4 then _ else _) = _
              rw [if_neg (by decide), if_neg (by decide), if_neg (by decide), if_neg (by decide), if_pos rfl, if_neg (by simp only [List.length_cons]; omega)]
            rw [ep]
            exact this
          · exact absurd g1 h
        · injection es with e1 e2
          subst e1; subst e2
          rcases hS with ⟨h, hs⟩ | ⟨h, hs⟩ | ⟨h, _⟩ | ⟨h, _⟩ | ⟨h, _⟩ | ⟨h, T1, rfl, hs⟩ | ⟨h, _⟩ | ⟨_, _, _, _, h, _⟩
          · exact absurd g1 (bk_ex h).2.2.1
          · omega
          · exact absurd g1 (w_ex h).2.2.2.1
          · exact absurd g1 (w_ex h).2.2.2.1
          · omega
          · have := ih _ _ _ _ _ _ hs hle hK g _ _ r K2 m2 N2 s2 (cq_ne0 _ (by simp)) cr
            have ep : prun ((3, p, 0) :: T1) N1 (e0 :: e' :: l) = prun T1 N1 (cq (e' :: l)) := by
              show (if (3 : Nat) = 0 then _ else if (3 : Nat) = 1 then _ else if (3 : Nat) = 2 then _ else if (3 : Nat) = 3 then _ else _) = _
              rw [if_neg (by decide), if_neg (by decide), if_neg (by decide), if_pos rfl, if_pos ⟨by simp, hq⟩]
              rfl
            rw [ep]
            exact this
          · omega
          · exact absurd g1 h
end TOK
