/-! BUILD. What was read is a tree: its nodes lie in their order -/
def nK (N : NS) (i : Nat) : Int32 := N.2.1 i
def nC (N : NS) (i : Nat) : Int32 := N.2.2.1 i
def nP (N : NS) (i : Nat) : Int32 := N.2.2.2.1 i
def nF (N : NS) (i : Nat) : Int32 := N.2.2.2.2.1 i
def nX (N : NS) (i : Nat) : Int32 := N.2.2.2.2.2 i
def Frs (R : Nat → Nat → Prop) (X : Nat → Int32) : List Nat → Nat → Nat → Prop
  | [], a, b => a = b
  | c :: ps, a, b => c = a ∧ ∃ m, R a m ∧ a < m ∧ m ≤ b ∧ X c = oI ps.head? ∧ Frs R X ps m b
/-- the nodes from a to b are one datum, nested so deep at the most -/
def Tr : Nat → NS → Nat → Nat → Prop
  | 0, _, _, _ => False
  | f + 1, N, a, b => (nK N a ≠ 6 ∧ b = a + 1) ∨ (nK N a = 6 ∧ ∃ ps : List Nat, nC N a = nI ps.length ∧ nF N a = oI ps.head? ∧ a < b ∧ Frs (Tr f N) (nX N) ps (a + 1) b)
/-- the nodes below are the same but for what a new part of e changes -/
def Dm (N : NS) (e : SE) (N' : NS) : Prop := N.1 < N'.1 ∧ ∀ i, i < N.1 → nK N' i = nK N i ∧ nP N' i = nP N i ∧ nC N' i = (if i = e.1 then nC N i + 1 else nC N i) ∧ nF N' i = (if i = e.1 ∧ e.2.1 = none then nI N.1 else nF N i) ∧ nX N' i = (if e.2.1 = some i then nI N.1 else nX N i)
/-- the same of a list's parts -/
def Lm (N : NS) (e : SE) (ps : List Nat) (N' : NS) : Prop := N.1 ≤ N'.1 ∧ ∀ i, i < N.1 → nK N' i = nK N i ∧ nP N' i = nP N i ∧ nC N' i = (if i = e.1 then nC N i + nI ps.length else nC N i) ∧ nF N' i = (if i = e.1 ∧ e.2.1 = none then oI ps.head? else nF N i) ∧ nX N' i = (if e.2.1 = some i then oI ps.head? else nX N i)
/-- the list e has its latest part at the end -/
def Eo (N : NS) (e : SE) : Prop := e.1 < N.1 ∧ (e.2.1 = none → nF N e.1 = -1) ∧ ∀ x, e.2.1 = some x → x < N.1 ∧ nX N x = -1
theorem frs_le {R : Nat → Nat → Prop} {X : Nat → Int32} : ∀ (ps : List Nat) (a b : Nat), Frs R X ps a b → a ≤ b
  | [], _, _, h => Nat.le_of_eq h
  | c :: ps, a, b, h => by
    obtain ⟨_, m, _, h1, h2, _, _⟩ := h
    omega
theorem frs_cg {R R' : Nat → Nat → Prop} {X X' : Nat → Int32} : ∀ (ps : List Nat) (a b : Nat), Frs R X ps a b → (∀ u v, a ≤ u → v ≤ b → R u v → R' u v) → (∀ i, a ≤ i → i < b → X' i = X i) → Frs R' X' ps a b
  | [], _, _, h, _, _ => h
  | c :: ps, a, b, h, hR, hX => by
    obtain ⟨h0, m, h1, h2, h3, h4, h5⟩ := h
    exact ⟨h0, m, hR a m (Nat.le_refl _) h3 h1, h2, h3, by rw [hX c (by omega) (by omega)]; exact h4, frs_cg ps m b h5 (fun u v hu hv => hR u v (by omega) hv) (fun i hi1 hi2 => hX i (by omega) hi2)⟩
theorem tr_lt : ∀ (f : Nat) (N : NS) (a b : Nat), Tr f N a b → a < b
  | 0, _, _, _, h => h.elim
  | f + 1, N, a, b, h => by
    rcases h with ⟨_, h⟩ | ⟨_, _, _, _, h, _⟩
    · omega
    · exact h
theorem tr_cg : ∀ (f : Nat) (N N' : NS) (a b : Nat), Tr f N a b → (∀ i, a ≤ i → i < b → nK N' i = nK N i ∧ nC N' i = nC N i ∧ nF N' i = nF N i) → (∀ i, a < i → i < b → nX N' i = nX N i) → Tr f N' a b
  | 0, _, _, _, _, h, _, _ => h.elim
  | f + 1, N, N', a, b, h, hA, hX => by
    have hab := tr_lt (f + 1) N a b h
    have h0 := hA a (Nat.le_refl _) hab
    rcases h with ⟨h1, h2⟩ | ⟨h1, ps, h2, h3, h4, h5⟩
    · exact Or.inl ⟨by rw [h0.1]; exact h1, h2⟩
    · exact Or.inr ⟨by rw [h0.1]; exact h1, ps, by rw [h0.2.1]; exact h2, by rw [h0.2.2]; exact h3, h4, frs_cg ps (a + 1) b h5 (fun u v hu hv hr => tr_cg f N N' u v hr (fun i hi1 hi2 => hA i (by omega) (by omega)) (fun i hi1 hi2 => hX i (by omega) (by omega))) (fun i hi1 hi2 => hX i (by omega) hi2)⟩
theorem frs_w {R : Nat → Nat → Prop} {X : Nat → Int32} : ∀ (ps : List Nat) (a b c : Nat), Frs R X ps a b → c = b → Frs R X ps a c
  | _, _, _, _, h, e => by subst e; exact h
theorem nI_s (a : Nat) : nI a + 1 = nI (a + 1) := by simp only [nI_1]
section TRE
variable {N N1 N2 : NS} {e : SE}
theorem dm_ad {k v p : Int32} : Dm N e (adN (nwN N k v p) e N.1) ∧ (adN (nwN N k v p) e N.1).1 = N.1 + 1 := by
  obtain ⟨e1, e2, e3⟩ := e
  cases e2 with
  | none =>
    refine ⟨⟨Nat.lt_succ_self _, fun i hi => ?_⟩, rfl⟩
    have c : ¬ i = N.1 := by omega
    show upd N.2.1 N.1 k i = _ ∧ upd N.2.2.2.1 N.1 p i = _ ∧ upd (upd N.2.2.1 N.1 v) e1 (upd N.2.2.1 N.1 v e1 + 1) i = _ ∧ upd (upd N.2.2.2.2.1 N.1 (-1)) e1 (nI N.1) i = _ ∧ upd N.2.2.2.2.2 N.1 (-1) i = _
    unfold upd
    simp only [if_neg c]
    refine ⟨rfl, rfl, ?_, ?_, ?_⟩
    · by_cases c1 : i = e1
      · subst c1; rw [if_pos rfl, if_pos rfl, if_neg c]; rfl
      · rw [if_neg c1, if_neg c1]; rfl
    · by_cases c1 : i = e1
      · rw [if_pos c1, if_pos (by simp [c1])]
      · rw [if_neg c1, if_neg (by simp [c1])]; rfl
    · rw [if_neg (by simp)]; rfl
  | some x =>
    refine ⟨⟨Nat.lt_succ_self _, fun i hi => ?_⟩, rfl⟩
    have c : ¬ i = N.1 := by omega
    show upd N.2.1 N.1 k i = _ ∧ upd N.2.2.2.1 N.1 p i = _ ∧ upd (upd N.2.2.1 N.1 v) e1 (upd N.2.2.1 N.1 v e1 + 1) i = _ ∧ upd N.2.2.2.2.1 N.1 (-1) i = _ ∧ upd (upd N.2.2.2.2.2 N.1 (-1)) x (nI N.1) i = _
    unfold upd
    simp only [if_neg c]
    refine ⟨rfl, rfl, ?_, ?_, ?_⟩
    · by_cases c1 : i = e1
      · subst c1; rw [if_pos rfl, if_pos rfl, if_neg c]; rfl
      · rw [if_neg c1, if_neg c1]; rfl
    · rw [if_neg (by simp)]; rfl
    · by_cases c1 : i = x
      · rw [if_pos c1, if_pos (by rw [c1])]
      · rw [if_neg c1, if_neg (fun h => c1 (by injection h with h; exact h.symm))]; rfl
/-- the new node itself -/
theorem nw_at {k v p : Int32} (he : e.1 < N.1) (hx : ∀ x, e.2.1 = some x → x < N.1) : nK (adN (nwN N k v p) e N.1) N.1 = k ∧ nC (adN (nwN N k v p) e N.1) N.1 = v ∧ nP (adN (nwN N k v p) e N.1) N.1 = p ∧ nF (adN (nwN N k v p) e N.1) N.1 = -1 ∧ nX (adN (nwN N k v p) e N.1) N.1 = -1 := by
  obtain ⟨e1, e2, e3⟩ := e
  have he : e1 < N.1 := he
  have c : ¬ N.1 = e1 := by omega
  cases e2 with
  | none =>
    show upd N.2.1 N.1 k N.1 = _ ∧ upd (upd N.2.2.1 N.1 v) e1 _ N.1 = _ ∧ upd N.2.2.2.1 N.1 p N.1 = _ ∧ upd (upd N.2.2.2.2.1 N.1 (-1)) e1 (nI N.1) N.1 = _ ∧ upd N.2.2.2.2.2 N.1 (-1) N.1 = _
    unfold upd
    simp only [if_neg c, if_true, and_self]
  | some x =>
    have hx : x < N.1 := hx x rfl
    have c2 : ¬ N.1 = x := by omega
    show upd N.2.1 N.1 k N.1 = _ ∧ upd (upd N.2.2.1 N.1 v) e1 _ N.1 = _ ∧ upd N.2.2.2.1 N.1 p N.1 = _ ∧ upd N.2.2.2.2.1 N.1 (-1) N.1 = _ ∧ upd (upd N.2.2.2.2.2 N.1 (-1)) x (nI N.1) N.1 = _
    unfold upd
    simp only [if_neg c, if_neg c2, if_true, and_self]
/-- a part, then a list that lies in it -/
theorem dm_lm {e' : SE} {ps : List Nat} (a : Dm N e N1) (b : Lm N1 e' ps N2) (h1 : N.1 ≤ e'.1) (h2 : ∀ x, e'.2.1 = some x → N.1 ≤ x) : Dm N e N2 := by
  obtain ⟨a1, a2⟩ := a
  obtain ⟨b1, b2⟩ := b
  refine ⟨by omega, fun i hi => ?_⟩
  obtain ⟨p1, p2, p3, p4, p5⟩ := a2 i hi
  obtain ⟨q1, q2, q3, q4, q5⟩ := b2 i (by omega)
  rw [if_neg (by omega)] at q3
  rw [if_neg (by omega)] at q4
  rw [if_neg (fun h => by have := h2 i h; omega)] at q5
  exact ⟨q1.trans p1, q2.trans p2, q3.trans p3, q4.trans p4, q5.trans p5⟩
theorem dm_dm {e' : SE} (a : Dm N e N1) (b : Dm N1 e' N2) (h1 : N.1 ≤ e'.1) (h2 : ∀ x, e'.2.1 = some x → N.1 ≤ x) : Dm N e N2 := by
  obtain ⟨a1, a2⟩ := a
  obtain ⟨b1, b2⟩ := b
  refine ⟨by omega, fun i hi => ?_⟩
  obtain ⟨p1, p2, p3, p4, p5⟩ := a2 i hi
  obtain ⟨q1, q2, q3, q4, q5⟩ := b2 i (by omega)
  rw [if_neg (by omega)] at q3
  rw [if_neg (by omega)] at q4
  rw [if_neg (fun h => by have := h2 i h; omega)] at q5
  exact ⟨q1.trans p1, q2.trans p2, q3.trans p3, q4.trans p4, q5.trans p5⟩
/-- behind the new part the list has its latest part at the end -/
theorem dm_eo (a : Dm N e N1) (h : nX N1 N.1 = -1) (he : e.1 < N.1) : Eo N1 (e.1, some N.1, e.2.2) :=
  ⟨Nat.lt_trans he a.1, fun h => (by cases h), fun x hx => by injection hx with hx; subst hx; exact ⟨a.1, h⟩⟩
/-- a part, then the parts behind it -/
theorem dm_lm2 {ps : List Nat} (a : Dm N e N1) (b : Lm N1 (e.1, some N.1, e.2.2) ps N2) : Lm N e (N.1 :: ps) N2 := by
  obtain ⟨a1, a2⟩ := a
  obtain ⟨b1, b2⟩ := b
  refine ⟨by omega, fun i hi => ?_⟩
  obtain ⟨p1, p2, p3, p4, p5⟩ := a2 i hi
  obtain ⟨q1, q2, q3, q4, q5⟩ := b2 i (by omega)
  rw [if_neg (fun h => by cases h.2)] at q4
  rw [if_neg (fun h => by injection h with h; omega)] at q5
  refine ⟨q1.trans p1, q2.trans p2, ?_, q4.trans p4, q5.trans p5⟩
  rw [q3, p3]
  dsimp only
  by_cases c : i = e.1
  · rw [if_pos c, if_pos c, if_pos c, List.length_cons, ← nI_s, Int32.add_assoc, Int32.add_comm 1]
  · rw [if_neg c, if_neg c, if_neg c]
/-- what is read is a tree -/
theorem rd_tr : ∀ (f m : Nat) (T : List TK) (N : NS) (e : SE) (lv : Nat), WT T → Eo N e → lv ≤ 30 → (m = 9 ∨ m = 3 ∨ m = 0) → (rd f m T N e lv).1 = none →
    (m = 9 → Dm N e (rd f m T N e lv).2.2.1 ∧ Tr (31 - lv) (rd f m T N e lv).2.2.1 N.1 (rd f m T N e lv).2.2.1.1 ∧ nX (rd f m T N e lv).2.2.1 N.1 = -1) ∧
    (m ≠ 9 → ∃ ps, Lm N e ps (rd f m T N e lv).2.2.1 ∧ Frs (Tr (31 - lv) (rd f m T N e lv).2.2.1) (nX (rd f m T N e lv).2.2.1) ps N.1 (rd f m T N e lv).2.2.1.1) := by
  intro f
  induction f with
  | zero => intro m T N e lv _ _ _ _ h; cases h
  | succ f ih =>
    intro m T N e lv hT he hlv hm hn
    cases T with
    | nil => exact hT.elim
    | cons x T =>
      by_cases h9 : m = 9
      · subst h9
        refine ⟨fun _ => ?_, fun h => absurd rfl h⟩
        by_cases c1 : x.1 ≤ 1 ∨ x.1 = 3
        · rw [rd_9b c1] at hn; cases hn
        · have ⟨w1, w2⟩ := wt_c hT (by omega)
          obtain ⟨he1, he2, he3⟩ := he
          by_cases c2 : x.1 = 2
          · by_cases cl : lv < 30
            · rw [rd_92 c2 cl] at hn ⊢
              obtain ⟨d1, d2⟩ := dm_ad (N := N) (e := e) (k := 6) (v := 0) (p := nI x.2.1)
              obtain ⟨n1, n2, n3, n4, n5⟩ := nw_at (N := N) (e := e) (k := 6) (v := 0) (p := nI x.2.1) he1 (fun y hy => (he3 y hy).1)
              have d2 : (nLs x.2.1 N e).1 = N.1 + 1 := d2
              have eo : Eo (nLs x.2.1 N e) (N.1, none, false) := ⟨by rw [d2]; exact Nat.lt_succ_self _, fun _ => n4, fun y hy => by cases hy⟩
              obtain ⟨ps, l1, l2⟩ := (ih 3 T _ _ (lv + 1) w2 eo (by omega) (Or.inr (Or.inl rfl)) hn).2 (by decide)
              have D := dm_lm (show Dm N e (nLs x.2.1 N e) from d1) l1 (Nat.le_refl _) (fun y hy => by cases hy)
              refine ⟨D, ?_, ?_⟩
              · obtain ⟨q1, q2, q3, q4, q5⟩ := l1.2 N.1 (by omega)
                have e31 : 31 - lv = (31 - (lv + 1)) + 1 := by omega
                rw [e31]
                refine Or.inr ⟨q1.trans n1, ps, ?_, ?_, D.1, ?_⟩
                · rw [q3, if_pos rfl]
                  show nC (adN (nwN N 6 0 (nI x.2.1)) e N.1) N.1 + _ = _
                  rw [n2, Int32.zero_add]
                · rw [q4, if_pos ⟨rfl, rfl⟩]
                · rw [d2] at l2; exact l2
              · obtain ⟨q1, q2, q3, q4, q5⟩ := l1.2 N.1 (by omega)
                rw [if_neg (by simp)] at q5
                exact q5.trans n5
            · rw [rd_92f c2 (by omega)] at hn; cases hn
          · by_cases c4 : x.1 = 4
            · by_cases cl : lv < 30
              · rw [rd_94 c4 cl] at hn ⊢
                obtain ⟨d1, d2⟩ := dm_ad (N := N) (e := e) (k := 6) (v := 0) (p := nI x.2.1)
                obtain ⟨n1, n2, n3, n4, n5⟩ := nw_at (N := N) (e := e) (k := 6) (v := 0) (p := nI x.2.1) he1 (fun y hy => (he3 y hy).1)
                have d2 : (nLs x.2.1 N e).1 = N.1 + 1 := d2
                have d1 : Dm N e (nLs x.2.1 N e) := d1
                obtain ⟨g1, g2⟩ := dm_ad (N := nLs x.2.1 N e) (e := (N.1, none, true)) (k := 5) (v := 0) (p := nI x.2.1)
                obtain ⟨r1, r2, r3, r4, r5⟩ := nw_at (N := nLs x.2.1 N e) (e := (N.1, none, true)) (k := 5) (v := 0) (p := nI x.2.1) (by rw [d2]; exact Nat.lt_succ_self _) (fun y hy => by cases hy)
                have eq : adN (nwN (nLs x.2.1 N e) 5 0 (nI x.2.1)) (N.1, none, true) (nLs x.2.1 N e).1 = nQu x.2.1 N e := by rw [d2]; rfl
                rw [eq] at g1 g2 r1 r2 r3 r4 r5
                rw [d2] at g2 r1 r2 r3 r4 r5
                have eo : Eo (nQu x.2.1 N e) (N.1, some (N.1 + 1), true) := ⟨by rw [g2]; omega, fun h => (by cases h), fun y hy => by injection hy with hy; subst hy; exact ⟨by rw [g2]; omega, r5⟩⟩
                obtain ⟨D3, T3, X3⟩ := (ih 9 T _ _ (lv + 1) w2 eo (by omega) (Or.inl rfl) hn).1 rfl
                have D2 := dm_dm d1 g1 (Nat.le_refl _) (fun y hy => by cases hy)
                have D := dm_dm D2 D3 (Nat.le_refl _) (fun y hy => by injection hy with hy; omega)
                obtain ⟨q1, q2, q3, q4, q5⟩ := D3.2 N.1 (by omega)
                obtain ⟨u1, u2, u3, u4, u5⟩ := D3.2 (N.1 + 1) (by omega)
                obtain ⟨v1, v2, v3, v4, v5⟩ := g1.2 N.1 (by omega)
                rw [if_pos rfl] at q3 v3
                rw [if_neg (fun h => by cases h.2)] at q4
                rw [if_neg (fun h => by injection h with h; omega)] at q5
                rw [if_pos ⟨rfl, rfl⟩, d2] at v4
                rw [if_neg (by simp)] at v5
                rw [if_pos rfl, g2] at u5
                refine ⟨D, ?_, q5.trans (v5.trans n5)⟩
                have e31 : 31 - lv = (31 - (lv + 1)) + 1 := by omega
                rw [e31]
                refine Or.inr ⟨q1.trans (v1.trans n1), [N.1 + 1, N.1 + 1 + 1], ?_, q4.trans v4, D.1, rfl, N.1 + 1 + 1, ?_, by omega, ?_, u5, rfl, _, ?_, ?_, Nat.le_refl _, ?_, rfl⟩
                · rw [q3, v3]
                  show nC (adN (nwN N 6 0 (nI x.2.1)) e N.1) N.1 + 1 + 1 = _
                  rw [n2]
                  rfl
                · obtain ⟨k, hk⟩ : ∃ k, 31 - (lv + 1) = k + 1 := ⟨30 - lv - 1, by omega⟩
                  rw [hk]
                  exact Or.inl ⟨by rw [u1, r1]; decide, rfl⟩
                · have := D3.1
                  rw [g2] at this
                  exact Nat.le_of_lt this
                · rw [g2] at T3
                  exact T3
                · have := D3.1
                  rw [g2] at this
                  exact this
                · rw [g2] at X3
                  exact X3
              · rw [rd_94f c4 (by omega)] at hn; cases hn
            · rw [rd_95 (by omega)]
              obtain ⟨d1, d2⟩ := dm_ad (N := N) (e := e) (k := tkK x.1) (v := x.2.2) (p := nI x.2.1)
              obtain ⟨n1, n2, n3, n4, n5⟩ := nw_at (N := N) (e := e) (k := tkK x.1) (v := x.2.2) (p := nI x.2.1) he1 (fun y hy => (he3 y hy).1)
              refine ⟨d1, ?_, n5⟩
              obtain ⟨k, hk⟩ : ∃ k, 31 - lv = k + 1 := ⟨31 - lv - 1, by omega⟩
              rw [hk]
              refine Or.inl ⟨?_, d2⟩
              rw [n1]
              have key : ∀ x, x < 9 → tkK x ≠ 6 := by decide
              exact key _ (by omega)
      · refine ⟨fun h => absurd h h9, fun _ => ?_⟩
        by_cases ce : x.1 = m
        · rw [rd_me h9 ce]
          refine ⟨[], ⟨Nat.le_refl _, fun i hi => ⟨rfl, rfl, ?_, ?_, ?_⟩⟩, rfl⟩
          · by_cases c : i = e.1
            · rw [if_pos c]
              show _ = nC N i + 0
              rw [Int32.add_zero]
            · rw [if_neg c]
          · by_cases c : i = e.1 ∧ e.2.1 = none
            · rw [if_pos c, c.1]
              exact he.2.1 c.2
            · rw [if_neg c]
          · by_cases c : e.2.1 = some i
            · rw [if_pos c]
              exact (he.2.2 i c).2
            · rw [if_neg c]
        · by_cases c9 : (rd f 9 (x :: T) N e lv).1 = none
          · rw [rd_mn h9 ce c9] at hn ⊢
            obtain ⟨a1, a2, a3, a4, a5⟩ := rd_wt f 9 (x :: T) N e lv (Or.inl rfl) hT c9
            obtain ⟨D, TR, X⟩ := (ih 9 (x :: T) N e lv hT he hlv (Or.inl rfl) c9).1 rfl
            rw [(a1 rfl).1] at hn ⊢
            obtain ⟨ps, l1, l2⟩ := (ih m _ _ _ lv (a5 (by decide)) (dm_eo D X he.1) hlv hm hn).2 h9
            refine ⟨N.1 :: ps, dm_lm2 D l1, rfl, (rd f 9 (x :: T) N e lv).2.2.1.1, ?_, D.1, l1.1, ?_, l2⟩
            · refine tr_cg _ _ _ _ _ TR (fun i hi1 hi2 => ?_) (fun i hi1 hi2 => ?_)
              · obtain ⟨q1, q2, q3, q4, q5⟩ := l1.2 i hi2
                have := he.1
                rw [if_neg (by dsimp only; omega)] at q3
                rw [if_neg (fun h => by cases h.2)] at q4
                exact ⟨q1, q3, q4⟩
              · obtain ⟨q1, q2, q3, q4, q5⟩ := l1.2 i hi2
                rw [if_neg (fun h => by injection h with h; omega)] at q5
                exact q5
            · obtain ⟨q1, q2, q3, q4, q5⟩ := l1.2 N.1 D.1
              rw [if_pos rfl] at q5
              exact q5
          · rw [rd_mf h9 ce c9] at hn; exact absurd hn c9
end TRE
