/-! BUILD. Both readers read one tree -/
def LfN (N : NS) : Prop := ∀ i, 1 ≤ i → i < N.1 → nK N i ≠ 6 → nF N i = -1
def nR : NS := nwN (0, fun _ => 0, fun _ => 0, fun _ => 0, fun _ => -1, fun _ => -1) 6 0 0
section GLU
variable {t : Nat → Nat} {n : Nat} {N : NS} {e : SE}
theorem lf_ad {k v p : Int32} (he : Eo N e) (h6 : nK N e.1 = 6) (H : LfN N) : LfN (adN (nwN N k v p) e N.1) := by
  obtain ⟨⟨d1, d2⟩, d3⟩ := dm_ad (N := N) (e := e) (k := k) (v := v) (p := p)
  obtain ⟨w1, w2, w3, w4, w5⟩ := nw_at (N := N) (e := e) (k := k) (v := v) (p := p) he.1 (fun x hx => (he.2.2 x hx).1)
  intro i i1 i2 hk
  rw [d3] at i2
  by_cases c : i = N.1
  · rw [c]; exact w4
  · obtain ⟨b1, _, _, b4, _⟩ := d2 i (by omega)
    rw [b1] at hk
    rw [b4, if_neg (fun w => hk (by rw [w.1]; exact h6))]
    exact H i i1 (by omega) hk
theorem rd_lf : ∀ (f m : Nat) (T : List TK) (N : NS) (e : SE) (lv : Nat), WT T → Eo N e → lv ≤ 30 → (m = 9 ∨ m = 3 ∨ m = 0) → (rd f m T N e lv).1 = none → nK N e.1 = 6 → LfN N → LfN (rd f m T N e lv).2.2.1 := by
  intro f
  induction f with
  | zero => intro m T N e lv _ _ _ _ h; cases h
  | succ f ih =>
    intro m T N e lv hT he hlv hm hn h6 H
    cases T with
    | nil => exact hT.elim
    | cons x T =>
      by_cases h9 : m = 9
      · subst h9
        by_cases c1 : x.1 ≤ 1 ∨ x.1 = 3
        · rw [rd_9b c1] at hn; cases hn
        · have ⟨w1, w2⟩ := wt_c hT (by omega)
          by_cases c2 : x.1 = 2
          · by_cases cl : lv < 30
            · rw [rd_92 c2 cl] at hn ⊢
              obtain ⟨d1, d2⟩ := dm_ad (N := N) (e := e) (k := 6) (v := 0) (p := nI x.2.1)
              obtain ⟨n1, n2, n3, n4, n5⟩ := nw_at (N := N) (e := e) (k := 6) (v := 0) (p := nI x.2.1) he.1 (fun y hy => (he.2.2 y hy).1)
              have d2 : (nLs x.2.1 N e).1 = N.1 + 1 := d2
              have eo : Eo (nLs x.2.1 N e) (N.1, none, false) := ⟨by rw [d2]; exact Nat.lt_succ_self _, fun _ => n4, fun y hy => by cases hy⟩
              exact ih 3 T (nLs x.2.1 N e) (N.1, none, false) (lv + 1) w2 eo (by omega) (Or.inr (Or.inl rfl)) hn n1 (lf_ad he h6 H)
            · rw [rd_92f c2 (by omega)] at hn; cases hn
          · by_cases c4 : x.1 = 4
            · by_cases cl : lv < 30
              · rw [rd_94 c4 cl] at hn ⊢
                obtain ⟨d1, d2⟩ := dm_ad (N := N) (e := e) (k := 6) (v := 0) (p := nI x.2.1)
                obtain ⟨n1, n2, n3, n4, n5⟩ := nw_at (N := N) (e := e) (k := 6) (v := 0) (p := nI x.2.1) he.1 (fun y hy => (he.2.2 y hy).1)
                have d2 : (nLs x.2.1 N e).1 = N.1 + 1 := d2
                have eo1 : Eo (nLs x.2.1 N e) (N.1, none, true) := ⟨by rw [d2]; exact Nat.lt_succ_self _, fun _ => n4, fun y hy => by cases hy⟩
                obtain ⟨g1, g2⟩ := dm_ad (N := nLs x.2.1 N e) (e := (N.1, none, true)) (k := 5) (v := 0) (p := nI x.2.1)
                obtain ⟨r1, r2, r3, r4, r5⟩ := nw_at (N := nLs x.2.1 N e) (e := (N.1, none, true)) (k := 5) (v := 0) (p := nI x.2.1) (by rw [d2]; exact Nat.lt_succ_self _) (fun y hy => by cases hy)
                have B1 := lf_ad (k := 5) (v := 0) (p := nI x.2.1) eo1 n1 (lf_ad (k := 6) (v := 0) (p := nI x.2.1) he h6 H)
                have eq : adN (nwN (nLs x.2.1 N e) 5 0 (nI x.2.1)) (N.1, none, true) (nLs x.2.1 N e).1 = nQu x.2.1 N e := by rw [d2]; rfl
                have B1 : LfN (adN (nwN (nLs x.2.1 N e) 5 0 (nI x.2.1)) (N.1, none, true) (nLs x.2.1 N e).1) := B1
                rw [eq] at g1 g2 r1 r2 r3 r4 r5 B1
                rw [d2] at g2 r1 r2 r3 r4 r5
                have eo : Eo (nQu x.2.1 N e) (N.1, some (N.1 + 1), true) := ⟨by rw [g2]; omega, fun h => (by cases h), fun y hy => by injection hy with hy; subst hy; exact ⟨by rw [g2]; omega, r5⟩⟩
                exact ih 9 T (nQu x.2.1 N e) (N.1, some (N.1 + 1), true) (lv + 1) w2 eo (by omega) (Or.inl rfl) hn ((g1.2 N.1 (by omega)).1.trans n1) B1
              · rw [rd_94f c4 (by omega)] at hn; cases hn
            · rw [rd_95 (by omega)]
              exact lf_ad he h6 H
      · by_cases ce : x.1 = m
        · rw [rd_me h9 ce]
          exact H
        · by_cases c9 : (rd f 9 (x :: T) N e lv).1 = none
          · rw [rd_mn h9 ce c9] at hn ⊢
            obtain ⟨a1, a2, a3, a4, a5⟩ := rd_wt f 9 (x :: T) N e lv (Or.inl rfl) hT c9
            obtain ⟨D, TR, X⟩ := (rd_tr f 9 (x :: T) N e lv hT he hlv (Or.inl rfl) c9).1 rfl
            have H1 := ih 9 (x :: T) N e lv hT he hlv (Or.inl rfl) c9 h6 H
            rw [(a1 rfl).1] at hn ⊢
            exact ih m _ _ _ lv (a5 (by decide)) (dm_eo D X he.1) hlv hm hn ((D.2 e.1 he.1).1.trans h6) H1
          · rw [rd_mf h9 ce c9] at hn; exact absurd hn c9
theorem we_endN : ∀ (m i : Nat), i + m = n → ¬ (we t n i < n ∧ isW (t (we t n i)) = true) := by
  intro m
  induction m with
  | zero =>
    intro i hi
    rw [we_0 (by omega)]
    omega
  | succ m ih =>
    intro i hi
    by_cases c : isW (t i) = true
    · rw [we_s (by omega) c]
      exact ih (i + 1) (by omega)
    · rw [we_0 (fun w => c w.2)]
      exact fun w => c w.2
/-- half the signs bound the names -/
theorem crn_len : ∀ (f p : Nat) (K : List KY) (mt : List Nat) (N : NS) (stk : List SE) (K' : List KY) (mt' : List Nat) (N' : NS) (stk' : List SE), CRn t n f p K mt N stk none K' mt' N' stk' → p ≤ n → (¬ (p < n ∧ isW (t p) = true) → 2 * K'.length ≤ 2 * K.length + (n - p)) ∧ 2 * K'.length ≤ 2 * K.length + (n - p) + 1 := by
  intro f
  induction f with
  | zero => intro p K mt N stk K' mt' N' stk' h; exact h.elim
  | succ f ih =>
    intro p K mt N stk K' mt' N' stk' h hp
    rcases h with ⟨c1, _, rfl, _⟩ | ⟨_, k, _, _, h, _⟩ | ⟨c1, p1, K1, mt1, N1, stk1, cg, cr⟩
    · exact ⟨fun _ => by omega, by omega⟩
    · cases h
    · obtain ⟨q1, q2⟩ := ctg_p c1 cg
      obtain ⟨i1, i2⟩ := ih p1 K1 mt1 N1 stk1 K' mt' N' stk' cr q2
      rcases cg with ⟨_, rfl, _⟩ | ⟨_, _, g3, rfl, k, v, e, l, wg, _⟩ | ⟨_, rfl, rfl, _⟩ | ⟨_, rfl, rfl, _⟩ | ⟨_, rfl, rfl, _⟩
      · exact ⟨fun _ => by omega, by omega⟩
      · have hk : K1.length ≤ K.length + 1 := by
          rcases wg with ⟨_, _, _, _, _, rfl, _⟩ | ⟨_, _, _, _, _, rfl, _⟩ | ⟨_, _, _, _, i, _, ⟨_, rfl⟩ | ⟨_, _, rfl⟩, _⟩
          · omega
          · omega
          · omega
          · rw [List.length_append]; exact Nat.le_refl _
        have := i1 (we_endN (n - (p + 1)) (p + 1) (by omega))
        exact ⟨fun w => absurd ⟨c1, g3⟩ w, by omega⟩
      · exact ⟨fun _ => by omega, by omega⟩
      · exact ⟨fun _ => by omega, by omega⟩
      · exact ⟨fun _ => by omega, by omega⟩
/-- a row of tokens, in their order -/
theorem scn_wt (hn : n ≤ 3000) : ∀ (f p : Nat) (K : List KY) (mt : List Nat) (T : List TK) (K' : List KY) (mt' : List Nat), Scn t n f p K mt T K' mt' → p ≤ n → WT T := by
  intro f
  induction f with
  | zero => intro p K mt T K' mt' h; exact h.elim
  | succ f ih =>
    intro p K mt T K' mt' h hp
    have cons : ∀ (x : TK) (T1 : List TK), 2 ≤ x.1 → x.1 ≤ 8 → WT T1 → WT (x :: T1) := fun x T1 h1 h2 h3 => by
      cases T1 with
      | nil => exact h3.elim
      | cons y T1 => exact ⟨h1, h2, h3⟩
    rcases h with ⟨_, rfl, _, _⟩ | ⟨hlt, h⟩
    · exact (by decide : (0 : Nat) ≤ 1)
    rcases h with ⟨_, h⟩ | ⟨_, h⟩ | ⟨_, _, rfl⟩ | ⟨_, x, v, K1, mt1, T1, h1, h2, _, rfl, h⟩ | ⟨_, T1, rfl, h⟩ | ⟨_, T1, rfl, h⟩ | ⟨_, T1, rfl, h⟩ | ⟨_, _, _, _, _, _, rfl⟩
    · exact ih _ _ _ _ _ _ h (by omega)
    · exact ih _ _ _ _ _ _ h (lne_gt hlt).2
    · exact Nat.le_refl 1
    · exact cons _ _ (by show 2 ≤ x; omega) h2 (ih _ _ _ _ _ _ h ((we_rng (t := t) (n := n) (n - (p + 1)) (p + 1) (by omega)).2.1))
    · exact cons _ _ (Nat.le_refl 2) (by decide : (2 : Nat) ≤ 8) (ih _ _ _ _ _ _ h (by omega))
    · exact cons _ _ (by decide : (2 : Nat) ≤ 3) (by decide : (3 : Nat) ≤ 8) (ih _ _ _ _ _ _ h (by omega))
    · exact cons _ _ (by decide : (2 : Nat) ≤ 4) (by decide : (4 : Nat) ≤ 8) (ih _ _ _ _ _ _ h (by omega))
    · exact Nat.le_refl 1
/-- both readers: one fault, or one tree -/
theorem glue {T : List TK} {K K2 : List KY} {mt mt2 : List Nat} {N : NS} {stk : List SE} {r : Option (Nat × Nat)} (hn : n ≤ 3000) (hS : ∃ f, Scn t n f 0 K30 [] T K mt) (hR : RDt t n r K2 mt2 N stk) : WT T ∧ (r = none → (rd (2 * T.length + 1) 0 T nR (0, none, false) 0).1 = none ∧ (rd (2 * T.length + 1) 0 T nR (0, none, false) 0).2.2.1 = N ∧ K2 = K ∧ mt2 = mt ∧ 2 * K2.length ≤ n + 61) ∧ ∀ x, r = some x → (rd (2 * T.length + 1) 0 T nR (0, none, false) 0).1 = some x := by
  obtain ⟨f, hS⟩ := hS
  have nd30 : K30.Nodup := by decide +kernel
  have wt := scn_wt hn f 0 K30 [] T K mt hS (Nat.zero_le _)
  obtain ⟨r0, hC, hr⟩ := hR
  have hC' : CRn t n (n + 1) 0 K30 [] nR [(0, none, false)] r0 K2 mt2 N stk := hC
  obtain ⟨A1, A2⟩ := crn_prun f 0 K30 [] T K mt hS (Nat.zero_le _) nd30 (n + 1) nR [(0, none, false)] r0 K2 mt2 N stk (by simp) hC'
  obtain ⟨B1, B2⟩ := (rd_prun (2 * T.length + 1) 0 T nR (0, none, false) [] wt (by rw [if_neg (by decide)]; exact Nat.le_refl _) (Nat.zero_le _)).2.2 rfl rfl rfl
  have e0 : ([] : List SE).length = 0 := rfl
  rw [e0] at B1 B2
  refine ⟨wt, fun hnone => ?_, fun x hx => ?_⟩
  · rcases hr with ⟨x, h1, h2⟩ | ⟨h1, h2, h3⟩ | ⟨h1, h2, h3⟩
    · rw [hnone] at h2
      rw [← h2] at h1
      cases h1
    · obtain ⟨a1, a2, a3⟩ := A1 h1
      rw [if_pos h2] at a3
      cases hc : (rd (2 * T.length + 1) 0 T nR (0, none, false) 0).1 with
      | none =>
        have b := B1 hc
        rw [a3] at b
        have b2 := congrArg (fun z => z.2.1) b
        subst h1
        have l := (crn_len (n + 1) 0 K30 [] nR [(0, none, false)] K2 mt2 N stk hC' (Nat.zero_le _)).2
        have l30 : K30.length = 30 := k30_len.2.2.2
        exact ⟨rfl, b2.symm, a1, a2, by omega⟩
      | some y =>
        have b := B2 y hc
        rw [a3] at b
        cases b
    · rw [hnone] at h3; cases h3
  · rcases hr with ⟨y, h1, h2⟩ | ⟨h1, h2, h3⟩ | ⟨h1, h2, h3⟩
    · rw [h1] at h2
      rw [hx] at h2
      have hp := A2 y h1
      injection h2 with h2
      subst h2
      cases hc : (rd (2 * T.length + 1) 0 T nR (0, none, false) 0).1 with
      | none =>
        have b := B1 hc
        rw [b] at hp
        cases hp
      | some z =>
        have b := B2 z hc
        rw [hp] at b
        exact b.symm
    · rw [hx] at h3; cases h3
    · obtain ⟨a1, a2, a3⟩ := A1 h1
      rw [if_neg (by omega)] at a3
      rw [hx] at h3
      injection h3 with h3
      subst h3
      cases hc : (rd (2 * T.length + 1) 0 T nR (0, none, false) 0).1 with
      | none =>
        have b := B1 hc
        rw [a3] at b
        have b1 := congrArg (fun z => z.1) b
        cases b1
      | some z =>
        have b := B2 z hc
        rw [a3] at b
        exact b.symm
end GLU
