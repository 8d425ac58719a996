/-! BUILD. What was read is fit to be built -/
def PQn (N : NS) : Prop := ∀ i, 1 ≤ i → i < N.1 → nP N i = nI (nQ N i) ∧ nQ N i < 3001
def TP0 (n : Nat) : Nat → List TK → Prop
  | _, [] => True
  | b, x :: T => b ≤ x.2.1 ∧ x.2.1 ≤ n ∧ (x.1 = 8 → ∃ j, x.2.2 = nI j ∧ j < 100000) ∧ (x.1 = 6 ∨ x.1 = 7 → x.2.2 = 0) ∧ TP0 n (x.2.1 + 1) T
section BKF
variable {t : Nat → Nat} {n : Nat} {N : NS} {e : SE} {mt : List Nat}
theorem tp0_le {b c : Nat} {T : List TK} (h : TP0 n b T) (hc : c ≤ b) : TP0 n c T := by
  cases T with
  | nil => exact trivial
  | cons x T => exact ⟨Nat.le_trans hc h.1, h.2⟩
theorem ar_k {p k1 k w : Nat} (g1 : k1 ≤ k + 1) (g2 : p + 1 ≤ w) (g3 : w ≤ n) (g4 : k + (n - p) < 99999) : k1 + (n - w) < 99999 := by
  have : n - w + 1 ≤ n - p := by omega
  omega
theorem scn_tp : ∀ (f p : Nat) (K : List KY) (mt : List Nat) (T : List TK) (K' : List KY) (mt' : List Nat), Scn t n f p K mt T K' mt' → p ≤ n → K.length + (n - p) < 99999 → TP0 n p T := by
  intro f
  induction f with
  | zero => intro p K mt T K' mt' h; exact h.elim
  | succ f ih =>
    intro p K mt T K' mt' h hp hK
    rcases h with ⟨h1, rfl, _, _⟩ | ⟨hlt, h⟩
    · exact ⟨by show p ≤ n; omega, Nat.le_refl n, fun w => absurd w (by decide : ¬ (0 : Nat) = 8), fun w => rfl, trivial⟩
    rcases h with ⟨_, h⟩ | ⟨_, h⟩ | ⟨_, _, rfl⟩ | ⟨_, x, v, K1, mt1, T1, h1, h2, hg, rfl, h⟩ | ⟨_, T1, rfl, h⟩ | ⟨_, T1, rfl, h⟩ | ⟨_, T1, rfl, h⟩ | ⟨_, _, _, _, _, _, rfl⟩
    · exact tp0_le (ih _ _ _ _ _ _ h (by omega) (by omega)) (by omega)
    · obtain ⟨a, b⟩ := lne_gt (t := t) hlt
      exact tp0_le (ih _ _ _ _ _ _ h b (by omega)) (by omega)
    · exact ⟨Nat.le_refl p, Nat.le_of_lt hlt, fun w => absurd w (by decide : ¬ (1 : Nat) = 8), fun w => rfl, trivial⟩
    · obtain ⟨a, b, _⟩ := we_rng (t := t) (n := n) (n - (p + 1)) (p + 1) (by omega)
      have hk : K1.length ≤ K.length + 1 ∧ (x = 8 → ∃ j, v = nI j ∧ j < 100000) ∧ (x = 6 ∨ x = 7 → v = 0) := by
        rcases hg with ⟨_, _, _, e1, _, rfl, _⟩ | ⟨_, _, _, e1, e2, rfl, _⟩ | ⟨_, _, _, e1, i, e2, e3, _⟩
        · have : x = 5 := tkK_inj ⟨h1, h2⟩ (by decide) (e1.trans (by decide))
          exact ⟨by omega, fun w => by omega, fun w => by omega⟩
        · refine ⟨by omega, fun w => ?_, fun _ => e2⟩
          subst w
          rcases e1 with ⟨_, e1⟩ | ⟨_, e1⟩
          · exact absurd e1 (by decide)
          · exact absurd e1 (by decide)
        · have : x = 8 := tkK_inj ⟨h1, h2⟩ (by decide) (e1.trans (by decide))
          rcases e3 with ⟨e3, rfl⟩ | ⟨_, e3, rfl⟩
          · have := g_lt e3
            exact ⟨by omega, fun _ => ⟨i, e2, by omega⟩, fun w => by omega⟩
          · exact ⟨by rw [List.length_append]; exact Nat.le_refl _, fun _ => ⟨i, e2, by omega⟩, fun w => by omega⟩
      have hk1 := hk.1
      have r := ih (we t n (p + 1)) _ _ _ _ _ h b (ar_k hk1 a b hK)
      exact ⟨Nat.le_refl p, Nat.le_of_lt hlt, hk.2.1, hk.2.2, tp0_le r a⟩
    · exact ⟨Nat.le_refl p, Nat.le_of_lt hlt, fun w => absurd w (by decide : ¬ (2 : Nat) = 8), fun w => rfl, ih (p + 1) _ _ _ _ _ h (by omega) (by omega)⟩
    · exact ⟨Nat.le_refl p, Nat.le_of_lt hlt, fun w => absurd w (by decide : ¬ (3 : Nat) = 8), fun w => rfl, ih (p + 1) _ _ _ _ _ h (by omega) (by omega)⟩
    · exact ⟨Nat.le_refl p, Nat.le_of_lt hlt, fun w => absurd w (by decide : ¬ (4 : Nat) = 8), fun w => rfl, ih (p + 1) _ _ _ _ _ h (by omega) (by omega)⟩
    · exact ⟨Nat.le_refl p, Nat.le_of_lt hlt, fun w => absurd w (by decide : ¬ (1 : Nat) = 8), fun w => rfl, trivial⟩
theorem tps_of (hn : n ≤ 3000) : ∀ (T : List TK) (b : Nat), TP0 n b T → (∀ x, x ∈ T → x.1 ≤ 8 ∧ (x.1 = 8 → x.2.2.toInt.toNat ∈ mt) ∧ (x.1 = 4 → 0 ∈ mt)) → TPs mt b T
  | [], _, _, _ => trivial
  | x :: T, b, h, hm => by
    obtain ⟨h1, h2, h3, h4, h5⟩ := h
    obtain ⟨m1, m2, m3⟩ := hm x (by simp)
    refine ⟨h1, by omega, fun w => ?_, h4, m3, tps_of hn T _ h5 (fun y hy => hm y (List.mem_cons_of_mem _ hy))⟩
    obtain ⟨j, e1, e2⟩ := h3 w
    have := m2 w
    rw [e1, nI_toInt (by omega)] at this
    exact ⟨j, this, e1⟩
theorem tp0_m : ∀ (T : List TK) (b : Nat), TP0 n b T → ∀ x, x ∈ T → x.2.1 ≤ n
  | [], _, _, x, hx => by cases hx
  | y :: T, b, h, x, hx => by
    rcases List.mem_cons.mp hx with rfl | hx
    · exact h.2.1
    · exact tp0_m T _ h.2.2.2.2 x hx
theorem pq_ad {k v : Int32} {p : Nat} (he : Eo N e) (hp : p < 3001) (H : PQn N) : PQn (adN (nwN N k v (nI p)) e N.1) := by
  obtain ⟨⟨d1, d2⟩, d3⟩ := dm_ad (N := N) (e := e) (k := k) (v := v) (p := nI p)
  obtain ⟨w1, w2, w3, w4, w5⟩ := nw_at (N := N) (e := e) (k := k) (v := v) (p := nI p) he.1 (fun x hx => (he.2.2 x hx).1)
  intro i i1 i2
  rw [d3] at i2
  by_cases c : i = N.1
  · subst c
    unfold nQ
    rw [w3, nI_toInt (by omega)]
    exact ⟨rfl, hp⟩
  · obtain ⟨_, b2, _, _, _⟩ := d2 i (by omega)
    unfold nQ
    rw [b2]
    exact H i i1 (by omega)
theorem rd_suf : ∀ (f m : Nat) (T : List TK) (N : NS) (e : SE) (lv : Nat), ∃ l, T = l ++ (rd f m T N e lv).2.1 := by
  intro f
  induction f with
  | zero => intro m T N e lv; exact ⟨[], rfl⟩
  | succ f ih =>
    intro m T N e lv
    cases T with
    | nil => exact ⟨[], rfl⟩
    | cons x T =>
      by_cases h9 : m = 9
      · subst h9
        by_cases c1 : x.1 ≤ 1 ∨ x.1 = 3
        · rw [rd_9b c1]; exact ⟨[], rfl⟩
        · by_cases c2 : x.1 = 2
          · by_cases cl : lv < 30
            · rw [rd_92 c2 cl]
              obtain ⟨l, hl⟩ := ih 3 T (nLs x.2.1 N e) (N.1, none, false) (lv + 1)
              exact ⟨x :: l, by rw [List.cons_append]; exact congrArg _ hl⟩
            · rw [rd_92f c2 (by omega)]; exact ⟨[], rfl⟩
          · by_cases c4 : x.1 = 4
            · by_cases cl : lv < 30
              · rw [rd_94 c4 cl]
                obtain ⟨l, hl⟩ := ih 9 T (nQu x.2.1 N e) (N.1, some (N.1 + 1), true) (lv + 1)
                exact ⟨x :: l, by rw [List.cons_append]; exact congrArg _ hl⟩
              · rw [rd_94f c4 (by omega)]; exact ⟨[], rfl⟩
            · rw [rd_95 (by omega)]; exact ⟨[x], rfl⟩
      · by_cases ce : x.1 = m
        · rw [rd_me h9 ce]; exact ⟨[x], rfl⟩
        · by_cases c9 : (rd f 9 (x :: T) N e lv).1 = none
          · rw [rd_mn h9 ce c9]
            obtain ⟨l1, h1⟩ := ih 9 (x :: T) N e lv
            obtain ⟨l2, h2⟩ := ih m (rd f 9 (x :: T) N e lv).2.1 (rd f 9 (x :: T) N e lv).2.2.1 (rd f 9 (x :: T) N e lv).2.2.2 lv
            exact ⟨l1 ++ l2, by rw [List.append_assoc, ← h2]; exact h1⟩
          · rw [rd_mf h9 ce c9]; exact ih 9 (x :: T) N e lv
theorem rd_pq : ∀ (f m : Nat) (T : List TK) (N : NS) (e : SE) (lv : Nat), WT T → Eo N e → lv ≤ 30 → (m = 9 ∨ m = 3 ∨ m = 0) → (rd f m T N e lv).1 = none → (∀ x, x ∈ T → x.2.1 < 3001) → PQn N → PQn (rd f m T N e lv).2.2.1 := by
  intro f
  induction f with
  | zero => intro m T N e lv _ _ _ _ h; cases h
  | succ f ih =>
    intro m T N e lv hT he hlv hm hn hx H
    cases T with
    | nil => exact hT.elim
    | cons x T =>
      have hxx := hx x (by simp)
      have hxT : ∀ y, y ∈ T → y.2.1 < 3001 := fun y hy => hx y (List.mem_cons_of_mem _ hy)
      by_cases h9 : m = 9
      · subst h9
        by_cases c1 : x.1 ≤ 1 ∨ x.1 = 3
        · rw [rd_9b c1] at hn; cases hn
        · have ⟨w1, w2⟩ := wt_c hT (by omega)
          by_cases c2 : x.1 = 2
          · by_cases cl : lv < 30
            · rw [rd_92 c2 cl] at hn ⊢
              obtain ⟨d1, d2⟩ := dm_ad (N := N) (e := e) (k := 6) (v := 0) (p := nI x.2.1)
              obtain ⟨n1, n2, n3, n4, n5⟩ := nw_at (N := N) (e := e) (k := 6) (v := 0) (p := nI x.2.1) he.1 (fun y hy => (he.2.2 y hy).1)
              have d2 : (nLs x.2.1 N e).1 = N.1 + 1 := d2
              have eo : Eo (nLs x.2.1 N e) (N.1, none, false) := ⟨by rw [d2]; exact Nat.lt_succ_self _, fun _ => n4, fun y hy => by cases hy⟩
              exact ih 3 T (nLs x.2.1 N e) (N.1, none, false) (lv + 1) w2 eo (by omega) (Or.inr (Or.inl rfl)) hn hxT (pq_ad he hxx H)
            · rw [rd_92f c2 (by omega)] at hn; cases hn
          · by_cases c4 : x.1 = 4
            · by_cases cl : lv < 30
              · rw [rd_94 c4 cl] at hn ⊢
                obtain ⟨d1, d2⟩ := dm_ad (N := N) (e := e) (k := 6) (v := 0) (p := nI x.2.1)
                obtain ⟨n1, n2, n3, n4, n5⟩ := nw_at (N := N) (e := e) (k := 6) (v := 0) (p := nI x.2.1) he.1 (fun y hy => (he.2.2 y hy).1)
                have d2 : (nLs x.2.1 N e).1 = N.1 + 1 := d2
                have eo1 : Eo (nLs x.2.1 N e) (N.1, none, true) := ⟨by rw [d2]; exact Nat.lt_succ_self _, fun _ => n4, fun y hy => by cases hy⟩
                obtain ⟨g1, g2⟩ := dm_ad (N := nLs x.2.1 N e) (e := (N.1, none, true)) (k := 5) (v := 0) (p := nI x.2.1)
                obtain ⟨r1, r2, r3, r4, r5⟩ := nw_at (N := nLs x.2.1 N e) (e := (N.1, none, true)) (k := 5) (v := 0) (p := nI x.2.1) (by rw [d2]; exact Nat.lt_succ_self _) (fun y hy => by cases hy)
                have B1 : PQn (adN (nwN (nLs x.2.1 N e) 5 0 (nI x.2.1)) (N.1, none, true) (nLs x.2.1 N e).1) := pq_ad (k := 5) (v := 0) eo1 hxx (pq_ad (k := 6) (v := 0) he hxx H)
                have eq : adN (nwN (nLs x.2.1 N e) 5 0 (nI x.2.1)) (N.1, none, true) (nLs x.2.1 N e).1 = nQu x.2.1 N e := by rw [d2]; rfl
                rw [eq] at g1 g2 r1 r2 r3 r4 r5 B1
                rw [d2] at g2 r1 r2 r3 r4 r5
                have eo : Eo (nQu x.2.1 N e) (N.1, some (N.1 + 1), true) := ⟨by rw [g2]; omega, fun h => (by cases h), fun y hy => by injection hy with hy; subst hy; exact ⟨by rw [g2]; omega, r5⟩⟩
                exact ih 9 T (nQu x.2.1 N e) (N.1, some (N.1 + 1), true) (lv + 1) w2 eo (by omega) (Or.inl rfl) hn hxT B1
              · rw [rd_94f c4 (by omega)] at hn; cases hn
            · rw [rd_95 (by omega)]
              exact pq_ad he hxx H
      · by_cases ce : x.1 = m
        · rw [rd_me h9 ce]
          exact H
        · by_cases c9 : (rd f 9 (x :: T) N e lv).1 = none
          · rw [rd_mn h9 ce c9] at hn ⊢
            obtain ⟨a1, a2, a3, a4, a5⟩ := rd_wt f 9 (x :: T) N e lv (Or.inl rfl) hT c9
            obtain ⟨D, TR, X⟩ := (rd_tr f 9 (x :: T) N e lv hT he hlv (Or.inl rfl) c9).1 rfl
            have H1 := ih 9 (x :: T) N e lv hT he hlv (Or.inl rfl) c9 hx H
            obtain ⟨l, hl⟩ := rd_suf f 9 (x :: T) N e lv
            rw [(a1 rfl).1] at hn ⊢
            exact ih m _ _ _ lv (a5 (by decide)) (dm_eo D X he.1) hlv hm hn (fun y hy => hx y (by rw [hl]; exact List.mem_append_right _ hy)) H1
          · rw [rd_mf h9 ce c9] at hn; exact absurd hn c9
/-- all that the builders want of the tree -/
theorem bk_of {T : List TK} {nw : Nat → Int32} (hn : n ≤ 3000) (wt : WT T) (tp : TP0 n 0 T) (hm : ∀ x, x ∈ T → x.1 ≤ 8 ∧ (x.1 = 8 → x.2.2.toInt.toNat ∈ mt) ∧ (x.1 = 4 → 0 ∈ mt)) (hr : (rd (2 * T.length + 1) 0 T nR (0, none, false) 0).1 = none) (hN : N = (rd (2 * T.length + 1) 0 T nR (0, none, false) 0).2.2.1) (hNb : N.1 ≤ 6001) (hmt : ∀ j, j ∈ mt → j < 100000) (hnw : ∀ j, j ∈ mt → mt.idxOf j < 3000 ∧ nw (mt.idxOf j) = nI (if j < 30 then j + 1 else 0)) : BK1 N mt nw ∧ Tr 32 N 0 N.1 ∧ nK N 0 = 6 ∧ LfN N ∧ PQn N ∧ nC N 0 = nI (pts N 0).length := by
  have k6 : nK nR 0 = 6 := rfl
  have eo : Eo nR (0, none, false) := ⟨by decide, fun _ => rfl, fun y hy => by cases hy⟩
  have n1 : nR.1 = 1 := rfl
  obtain ⟨ps, ⟨L1, L2⟩, fr⟩ := (rd_tr (2 * T.length + 1) 0 T nR (0, none, false) 0 wt eo (Nat.zero_le _) (Or.inr (Or.inr rfl)) hr).2 (by decide)
  have lf := rd_lf (2 * T.length + 1) 0 T nR (0, none, false) 0 wt eo (Nat.zero_le _) (Or.inr (Or.inr rfl)) hr k6 (fun i i1 i2 => by rw [n1] at i2; omega)
  have pq := rd_pq (2 * T.length + 1) 0 T nR (0, none, false) 0 wt eo (Nat.zero_le _) (Or.inr (Or.inr rfl)) hr (fun x hx => by have := tp0_m T 0 tp x hx; omega) (fun i i1 i2 => by rw [n1] at i2; omega)
  obtain ⟨b', nds, _⟩ := rd_nds (mt := mt) (2 * T.length + 1) 0 T nR (0, none, false) 0 0 wt eo (Nat.zero_le _) (Or.inr (Or.inr rfl)) hr k6 (fun _ => rfl) ⟨fun i i1 i2 => by rw [n1] at i2; omega, fun i j i1 ij j2 => by rw [n1] at j2; omega⟩ (tps_of hn T 0 tp hm)
  rw [← hN] at L1 L2 fr lf pq nds
  rw [n1] at L1 L2 fr
  obtain ⟨a1, a2, a3, a4, a5⟩ := L2 0 (by decide)
  rw [if_pos rfl] at a3
  rw [if_pos ⟨rfl, rfl⟩] at a4
  have hK0 : nK N 0 = 6 := a1.trans k6
  have c0 : nC nR 0 = 0 := rfl
  rw [c0, Int32.zero_add] at a3
  have tr : Tr 32 N 0 N.1 := Or.inr ⟨hK0, ps, a3, a4, L1, fr⟩
  obtain ⟨p1, p2, p3⟩ := tr_pts tr hK0 (by omega)
  refine ⟨⟨⟨fun i i1 i2 => (nds.1 i i1 i2).2.2, hmt, by omega⟩, nds.2, ⟨31, by decide, by decide, p3⟩, p2, L1, hnw⟩, tr, hK0, lf, pq, ?_⟩
  have hl := frs_len ps _ _ fr
  have e : ps.length = (pts N 0).length := by
    rw [← p1]
    unfold nCn
    rw [a3, nI_toInt (by omega)]
    rfl
  rw [a3, e]
end BKF
