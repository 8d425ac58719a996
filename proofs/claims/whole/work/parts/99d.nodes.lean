/-! BUILD. Kinds, contents and places of what was read -/
/-- where a node begins -/
def nQ (N : NS) (i : Nat) : Nat := (nP N i).toInt.toNat
def nKc (mt : List Nat) (k v : Int32) : Prop := k = 1 ∨ ((k = 2 ∨ k = 3) ∧ v = 0) ∨ (k = 5 ∧ ∃ j, j ∈ mt ∧ v = nI j) ∨ k = 6
def Nds (mt : List Nat) (N : NS) (b : Nat) : Prop := (∀ i, 1 ≤ i → i < N.1 → nQ N i < b ∧ nP N i = nI (nQ N i) ∧ nKc mt (nK N i) (nC N i)) ∧
  ∀ i j, 1 ≤ i → i < j → j < N.1 → nQ N i < nQ N j ∨ (nQ N i = nQ N j ∧ j = i + 1 ∧ nK N i = 6 ∧ nF N i = nI j ∧ nK N j = 5 ∧ nC N j = 0)
/-- the tokens lie in their order, and their contents are sound -/
def TPs (mt : List Nat) : Nat → List TK → Prop
  | _, [] => True
  | b, x :: T => b ≤ x.2.1 ∧ x.2.1 < 10000 ∧ (x.1 = 8 → ∃ j, j ∈ mt ∧ x.2.2 = nI j) ∧ (x.1 = 6 ∨ x.1 = 7 → x.2.2 = 0) ∧ (x.1 = 4 → 0 ∈ mt) ∧ TPs mt (x.2.1 + 1) T
theorem tps_le {mt : List Nat} {b c : Nat} {T : List TK} (h : TPs mt b T) (hc : c ≤ b) : TPs mt c T := by
  cases T with
  | nil => exact h
  | cons x T => exact ⟨Nat.le_trans hc h.1, h.2⟩
section NDS
variable {mt : List Nat} {N : NS} {e : SE} {b p : Nat}
theorem nds_add {k v : Int32} (H : Nds mt N b) (he : Eo N e) (h6 : nK N e.1 = 6) (hl : e.2.1 = none → N.1 = e.1 + 1) (hp : p < 10000) (hk : nKc mt k v) (hpl : ∀ i, 1 ≤ i → i < N.1 → nQ N i < p ∨ (nQ N i = p ∧ N.1 = i + 1 ∧ nK N i = 6 ∧ e.1 = i ∧ e.2.1 = none ∧ k = 5 ∧ v = 0)) : Nds mt (adN (nwN N k v (nI p)) e N.1) (p + 1) ∧ nQ (adN (nwN N k v (nI p)) e N.1) N.1 = p ∧ ∀ i, i < N.1 → nQ (adN (nwN N k v (nI p)) e N.1) i = nQ N i := by
  obtain ⟨H1, H2⟩ := H
  obtain ⟨he1, he2, he3⟩ := he
  obtain ⟨d1, d2⟩ := dm_ad (N := N) (e := e) (k := k) (v := v) (p := nI p)
  obtain ⟨n1, n2, n3, n4, n5⟩ := nw_at (N := N) (e := e) (k := k) (v := v) (p := nI p) he1 (fun y hy => (he3 y hy).1)
  have hq : nQ (adN (nwN N k v (nI p)) e N.1) N.1 = p := by
    unfold nQ
    rw [n3, nI_toInt (by omega)]
    exact Int.toNat_natCast p
  have hqi : ∀ i, i < N.1 → nQ (adN (nwN N k v (nI p)) e N.1) i = nQ N i := fun i hi => by
    unfold nQ
    rw [(d1.2 i hi).2.1]
  refine ⟨⟨fun i h1 hi => ?_, fun i j h1 hij hj => ?_⟩, hq, hqi⟩
  · rw [d2] at hi
    by_cases c : i = N.1
    · subst c
      rw [hq, n1, n2, n3]
      exact ⟨by omega, rfl, hk⟩
    · have hi : i < N.1 := by omega
      obtain ⟨a1, a2, a3⟩ := H1 i h1 hi
      obtain ⟨q1, q2, q3, q4, q5⟩ := d1.2 i hi
      refine ⟨?_, ?_, ?_⟩
      · rw [hqi i hi]
        rcases hpl i h1 hi with h | h
        · omega
        · omega
      · rw [q2, hqi i hi]; exact a2
      · rw [q1, q3]
        by_cases ce : i = e.1
        · rw [ce, h6]
          exact Or.inr (Or.inr (Or.inr rfl))
        · rw [if_neg ce]
          exact a3
  · rw [d2] at hj
    by_cases c : j = N.1
    · subst c
      rw [hq, hqi i hij]
      rcases hpl i h1 hij with h | ⟨h, r1, r2, r3, r4, r5, r6⟩
      · exact Or.inl h
      · obtain ⟨q1, q2, q3, q4, q5⟩ := d1.2 i hij
        refine Or.inr ⟨h, r1, q1.trans r2, ?_, n1.trans r5, n2.trans r6⟩
        rw [q4, if_pos ⟨r3.symm, r4⟩]
    · have hj : j < N.1 := by omega
      obtain ⟨q1, q2, q3, q4, q5⟩ := d1.2 i (by omega)
      obtain ⟨u1, u2, u3, u4, u5⟩ := d1.2 j hj
      rw [hqi i (by omega), hqi j hj]
      rcases H2 i j h1 hij hj with h | ⟨r1, r2, r3, r4, r5, r6⟩
      · exact Or.inl h
      · refine Or.inr ⟨r1, r2, q1.trans r3, ?_, u1.trans r5, ?_⟩
        · rw [q4, if_neg]
          · exact r4
          · rintro ⟨c1, c2⟩
            have := hl c2
            omega
        · rw [u3, if_neg]
          · exact r6
          · intro c1
            rw [c1, h6] at r5
            exact absurd r5 (by decide)
/-- reading keeps this -/
theorem rd_nds : ∀ (f m : Nat) (T : List TK) (N : NS) (e : SE) (lv b : Nat), WT T → Eo N e → lv ≤ 30 → (m = 9 ∨ m = 3 ∨ m = 0) → (rd f m T N e lv).1 = none → nK N e.1 = 6 → (e.2.1 = none → N.1 = e.1 + 1) → Nds mt N b → TPs mt b T → ∃ b', Nds mt (rd f m T N e lv).2.2.1 b' ∧ TPs mt b' (rd f m T N e lv).2.1 := by
  intro f
  induction f with
  | zero => intro m T N e lv b _ _ _ _ h; cases h
  | succ f ih =>
    intro m T N e lv b hT he hlv hm hn h6 hl H hp
    cases T with
    | nil => exact hT.elim
    | cons x T =>
      obtain ⟨p1, p2, p3, p4, p5, p6⟩ := hp
      by_cases h9 : m = 9
      · subst h9
        have hpl : ∀ (k v : Int32) i, 1 ≤ i → i < N.1 → nQ N i < x.2.1 ∨ (nQ N i = x.2.1 ∧ N.1 = i + 1 ∧ nK N i = 6 ∧ e.1 = i ∧ e.2.1 = none ∧ k = 5 ∧ v = 0) := fun k v i h1 hi => Or.inl (by have := (H.1 i h1 hi).1; omega)
        by_cases c1 : x.1 ≤ 1 ∨ x.1 = 3
        · rw [rd_9b c1] at hn; cases hn
        · have ⟨w1, w2⟩ := wt_c hT (by omega)
          by_cases c2 : x.1 = 2
          · by_cases cl : lv < 30
            · rw [rd_92 c2 cl] at hn ⊢
              obtain ⟨A1, A2, A3⟩ := nds_add (k := 6) (v := 0) H he h6 hl p2 (Or.inr (Or.inr (Or.inr rfl))) (hpl 6 0)
              obtain ⟨d1, d2⟩ := dm_ad (N := N) (e := e) (k := 6) (v := 0) (p := nI x.2.1)
              obtain ⟨n1, n2, n3, n4, n5⟩ := nw_at (N := N) (e := e) (k := 6) (v := 0) (p := nI x.2.1) he.1 (fun y hy => (he.2.2 y hy).1)
              have d2 : (nLs x.2.1 N e).1 = N.1 + 1 := d2
              have eo : Eo (nLs x.2.1 N e) (N.1, none, false) := ⟨by rw [d2]; exact Nat.lt_succ_self _, fun _ => n4, fun y hy => by cases hy⟩
              exact ih 3 T (nLs x.2.1 N e) (N.1, none, false) (lv + 1) _ w2 eo (by omega) (Or.inr (Or.inl rfl)) hn n1 (fun _ => d2) A1 p6
            · rw [rd_92f c2 (by omega)] at hn; cases hn
          · by_cases c4 : x.1 = 4
            · by_cases cl : lv < 30
              · rw [rd_94 c4 cl] at hn ⊢
                obtain ⟨A1, A2, A3⟩ := nds_add (k := 6) (v := 0) H he h6 hl p2 (Or.inr (Or.inr (Or.inr rfl))) (hpl 6 0)
                obtain ⟨d1, d2⟩ := dm_ad (N := N) (e := e) (k := 6) (v := 0) (p := nI x.2.1)
                obtain ⟨n1, n2, n3, n4, n5⟩ := nw_at (N := N) (e := e) (k := 6) (v := 0) (p := nI x.2.1) he.1 (fun y hy => (he.2.2 y hy).1)
                have d2 : (nLs x.2.1 N e).1 = N.1 + 1 := d2
                have eo1 : Eo (nLs x.2.1 N e) (N.1, none, true) := ⟨by rw [d2]; exact Nat.lt_succ_self _, fun _ => n4, fun y hy => by cases hy⟩
                obtain ⟨B1, B2, B3⟩ := nds_add (e := (N.1, none, true)) (k := 5) (v := 0) (p := x.2.1) A1 eo1 n1 (fun _ => d2) p2 (Or.inr (Or.inr (Or.inl ⟨rfl, 0, p5 c4, rfl⟩))) (fun i h1 hi => by
                  have hi : i < N.1 + 1 := by
                    have e1 : (adN (nwN N 6 0 (nI x.2.1)) e N.1).1 = N.1 + 1 := d2
                    omega
                  by_cases c : i = N.1
                  · subst c
                    exact Or.inr ⟨A2, d2, n1, rfl, rfl, rfl, rfl⟩
                  · refine Or.inl ?_
                    rw [A3 i (by omega)]
                    have := (H.1 i h1 (by omega)).1
                    omega)
                obtain ⟨g1, g2⟩ := dm_ad (N := nLs x.2.1 N e) (e := (N.1, none, true)) (k := 5) (v := 0) (p := nI x.2.1)
                obtain ⟨r1, r2, r3, r4, r5⟩ := nw_at (N := nLs x.2.1 N e) (e := (N.1, none, true)) (k := 5) (v := 0) (p := nI x.2.1) (by rw [d2]; exact Nat.lt_succ_self _) (fun y hy => by cases hy)
                have eq : adN (nwN (nLs x.2.1 N e) 5 0 (nI x.2.1)) (N.1, none, true) (nLs x.2.1 N e).1 = nQu x.2.1 N e := by rw [d2]; rfl
                have B1 : Nds mt (adN (nwN (nLs x.2.1 N e) 5 0 (nI x.2.1)) (N.1, none, true) (nLs x.2.1 N e).1) (x.2.1 + 1) := B1
                rw [eq] at g1 g2 r1 r2 r3 r4 r5 B1
                rw [d2] at g2 r1 r2 r3 r4 r5
                have eo : Eo (nQu x.2.1 N e) (N.1, some (N.1 + 1), true) := ⟨by rw [g2]; omega, fun h => (by cases h), fun y hy => by injection hy with hy; subst hy; exact ⟨by rw [g2]; omega, r5⟩⟩
                exact ih 9 T (nQu x.2.1 N e) (N.1, some (N.1 + 1), true) (lv + 1) _ w2 eo (by omega) (Or.inl rfl) hn ((g1.2 N.1 (by omega)).1.trans n1) (fun h => by cases h) B1 p6
              · rw [rd_94f c4 (by omega)] at hn; cases hn
            · rw [rd_95 (by omega)]
              have hk : nKc mt (tkK x.1) x.2.2 := by
                have c8 : x.1 = 5 ∨ x.1 = 6 ∨ x.1 = 7 ∨ x.1 = 8 := by omega
                rcases c8 with c | c | c | c
                · rw [c]; exact Or.inl rfl
                · rw [p4 (Or.inl c), c]; exact Or.inr (Or.inl ⟨Or.inr rfl, rfl⟩)
                · rw [p4 (Or.inr c), c]; exact Or.inr (Or.inl ⟨Or.inl rfl, rfl⟩)
                · obtain ⟨j, hj, hj2⟩ := p3 c
                  rw [c]; exact Or.inr (Or.inr (Or.inl ⟨rfl, j, hj, hj2⟩))
              exact ⟨_, (nds_add H he h6 hl p2 hk (hpl _ _)).1, p6⟩
      · by_cases ce : x.1 = m
        · rw [rd_me h9 ce]
          exact ⟨b, H, tps_le p6 (by omega)⟩
        · by_cases c9 : (rd f 9 (x :: T) N e lv).1 = none
          · rw [rd_mn h9 ce c9] at hn ⊢
            obtain ⟨a1, a2, a3, a4, a5⟩ := rd_wt f 9 (x :: T) N e lv (Or.inl rfl) hT c9
            obtain ⟨D, TR, X⟩ := (rd_tr f 9 (x :: T) N e lv hT he hlv (Or.inl rfl) c9).1 rfl
            obtain ⟨b1, H1, P1⟩ := ih 9 (x :: T) N e lv b hT he hlv (Or.inl rfl) c9 h6 hl H ⟨p1, p2, p3, p4, p5, p6⟩
            rw [(a1 rfl).1] at hn ⊢
            exact ih m _ _ _ lv b1 (a5 (by decide)) (dm_eo D X he.1) hlv hm hn ((D.2 e.1 he.1).1.trans h6) (fun h => by cases h) H1 P1
          · rw [rd_mf h9 ce c9] at hn; exact absurd hn c9
end NDS
