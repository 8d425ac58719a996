/-! BUILD. The reference's build, from the text on -/
section BLE
variable {h h' h0 : Hp} {Q : Option Value → Hp → Prop} {d n q : Nat} {t : Nat → Nat} {K K2 : List KY} {mt mt2 : List Nat} {N : NS} {stk : List SE} {r : Option (Nat × Nat)}
theorem sp_b67 {x1 x2 : Int32} (m : SMt t n q h) (ec : hI h q 0 = 0 ∧ hI h q 1 = 0 ∧ hI h q 2 = 0 ∧ hI h q 3 = -1 ∧ hI h q 4 = 0 ∧ hI h q 5 = 0) (e13 : hI h 59 13 = 0) (e15 : hI h 59 15 = 0) (hn : n ≤ 3000) (hR : RDt t n r K2 mt2 N stk) (hNb : N.1 ≤ 1 + 2 * n) (hd : 500 < d)
    (hq : ∀ (h' : Hp) (L : ALS), (L = [(2, .int x2), (0, .ref 59), (1, .int x1)] ∨ L = [(0, .ref 59), (1, .int x1)]) → FrB q h h' → hI h' 59 1 = hI h 59 1 → ((∃ k p, r = some (k, p) ∧ hI h' 59 13 = nI k ∧ hI h' 59 14 = nI p ∧ hI h' 59 15 = 0) ∨ (r = none ∧ hI h' 59 13 = 0 ∧ MWx (mAll N) h' ∧ (rFl (cAll N mt2) = none → ∃ nw, BK1 N mt2 nw ∧ PM (gOf N mt2 nw) q h'))) → aWP d 290 98 L [] h' Q) : aWP d 290 67 [(2, .int x2), (0, .ref 59), (1, .int x1)] [] h Q := by
  have h00 : 0 < d := by omega
  have hq66 := sm_q m
  have s := m.1.1
  obtain ⟨c0, c1, c2, c3, c4, c5⟩ := ec
  simp only [lv_args, z_v, z_lg, z_h, z_u, z_u1, z_c, z_ct, z_sk, sbne, lst1_d, ldel, lst2_d, ldel2, z_sw, z_rok, zi, eq_self, List.map_cons, List.map_nil, List.append_nil, List.nil_append, List.cons_append, Int32.reduceLT, Int32.reduceLE, Int32.reduceAdd, Int32.reduceSub, Int32.reduceMul, Int32.reduceToInt, Int32.reduceToNatClampNeg, Int.reduceLT, Int.reduceLE, Int.reduceNeg, true_and, and_true, or_self, or_false, false_or, false_and, and_false, true_or, or_true, if_true, if_false, ne_eq, Classical.not_not, not_true_eq_false, not_false_eq_true, true_implies, false_implies, implies_true, Nat.reduceEqDiff, Nat.reduceAdd, Nat.reduceLeDiff, Nat.reduceSub, reduceCtorEq, reduceIte, b290_45, skM s, h00]
  refine sp_scans m c1 (by omega) (fun T K mt h3 hS k3 M3 T3 l1 l2 => ?_)
  have m3 := sm_k k3 m
  have s3 := m3.1.1
  obtain ⟨wt, g1, g2⟩ := glue hn hS hR
  have i3 : ∀ i, i ≠ 1 → hI h3 q i = hI h q i := fun i hi => k3.2.1 q i (by omega)
  -- the tokens are there
  have k4 : FrB q h (pI (pI h3 59 10 0) 59 11 0) := fb_I (fb_I (fb_s k3) (by omega)) (by omega)
  have rmt : RMt T mt q (pI (pI h3 59 10 0) 59 11 0) := by
    refine ⟨⟨sk_u1 (sk_u1 s3), rm_same rfl rfl rfl m3.1.2⟩, m3.2.1, l1, fun x hx => (T3.2.2 x hx).1, T3.2.1⟩
  have s4 := rmt.1.1
  have ei : hI (pI (pI h3 59 10 0) 59 11 0) q 0 = 0 ∧ hI (pI (pI h3 59 10 0) 59 11 0) q 2 = 0 ∧ hI (pI (pI h3 59 10 0) 59 11 0) q 3 = -1 ∧ hI (pI (pI h3 59 10 0) 59 11 0) 59 10 = 0 ∧ hI (pI (pI h3 59 10 0) 59 11 0) 59 11 = 0 := by
    have a0 := (i3 0 (by decide)).trans c0
    have a2 := (i3 2 (by decide)).trans c2
    have a3 := (i3 3 (by decide)).trans c3
    rcases hq66 with rfl | rfl <;> exact ⟨a0, a2, a3, rfl, rfl⟩
  have i4 : ∀ i, i ≠ 10 → i ≠ 11 → i ≠ 9 → hI (pI (pI h3 59 10 0) 59 11 0) 59 i = hI h 59 i := fun i h1 h2 h9 => ((up2_ne (fun e => h2 e.2)).trans (up2_ne (fun e => h1 e.2))).trans (k3.2.1 59 i (by omega))
  have hvv : hv h3 = hv h := k3.1.2.2.2.2.2.1
  simp only [lv_args, z_v, z_lg, z_h, z_u, z_u1, z_c, z_ct, z_sk, sbne, lst1_d, ldel, lst2_d, ldel2, z_sw, z_rok, zi, eq_self, List.map_cons, List.map_nil, List.append_nil, List.nil_append, List.cons_append, Int32.reduceLT, Int32.reduceLE, Int32.reduceAdd, Int32.reduceSub, Int32.reduceMul, Int32.reduceToInt, Int32.reduceToNatClampNeg, Int.reduceLT, Int.reduceLE, Int.reduceNeg, true_and, and_true, or_self, or_false, false_or, false_and, and_false, true_or, or_true, if_true, if_false, ne_eq, Classical.not_not, not_true_eq_false, not_false_eq_true, true_implies, false_implies, implies_true, Nat.reduceEqDiff, Nat.reduceAdd, Nat.reduceLeDiff, Nat.reduceSub, reduceCtorEq, reduceIte, b290_45, skM s, skM s3, h00, Nat.reduceLT]
  refine sp_rows rmt wt (by omega) nR rfl rfl rfl rfl ei (by omega) (fun hrd h5 k5 H5 u3 u2 => Or.inr ⟨rfl, Or.inl k5.1.2.2.2.2.2.1, ?_⟩) (fun k p hrd h5 k5 f13 f14 => Or.inl ⟨rfl, Or.inl k5.1.2.2.2.2.2.1, ?_⟩)
  · -- a tree
    have hr : r = none := by
      cases hc : r with
      | none => rfl
      | some x => rw [g2 x hc] at hrd; cases hrd
    obtain ⟨_, eN, eK, em, _⟩ := g1 hr
    subst hr
    subst em
    rw [eN] at H5 u3 u2
    have m5 := rm_k k5 rmt
    obtain ⟨⟨nw0, bk⟩, tr, k6, lf, pq, _, nd, eC⟩ := bk_x s m.1.2 m.2.1 hn m.2.2.2.2.2 hR hNb
    have s5 := m5.1.1
    have a5 : ∀ a, ¬ (q + 1 ≤ a ∧ a ≤ q + 7) → hA h5 a = hA h3 a := fun a ha => k5.2.2 a ha
    have hx : ∀ j, j ∈ mt2 → mt2.idxOf j < 3000 ∧ hA h5 (q + 10) (mt2.idxOf j) = nI (if j < 30 then j + 1 else 0) ∧ hA h5 (q + 11) (mt2.idxOf j) = -1 := fun j hj => by
      have h1 := List.idxOf_lt_length_iff.mpr hj
      have h2 : mt2[mt2.idxOf j]? = some j := by rw [List.getElem?_eq_getElem h1, List.getElem_idxOf]
      obtain ⟨_, b1, b2, _⟩ := M3.2.1 _ j h2
      rw [a5 (q + 10) (by omega), a5 (q + 11) (by omega)]
      exact ⟨by have := M3.1.2.1; omega, b1, b2⟩
    have mc : MC N mt2 q h5 := ⟨m5.1, m5.2.1, ⟨fun n n1 n2 => by
      obtain ⟨o1, o2, o3, o4, o5, _, _⟩ := H5.2 n n1 n2
      exact ⟨o1, o2, o3, o4 (fun w => w), o5 (fun w => w)⟩, fun j hj => ⟨(hx j hj).1, (hx j hj).2.1⟩, u3⟩, bk.1⟩
    have i5 : ∀ i, i ≠ 0 → i ≠ 1 → i ≠ 2 → i ≠ 3 → hI h5 q i = hI h q i := fun i h0 h1 h2 h3' => by
      rw [k5.2.1 q i (by omega)]
      have e1 := i3 i h1
      rw [← e1]
      rcases hq66 with rfl | rfl <;> rfl
    have j5 : ∀ i, i ≠ 9 → i ≠ 10 → i ≠ 11 → i ≠ 13 → i ≠ 14 → hI h5 59 i = hI h 59 i := fun i h9 h10 h11 h13 h14 => (k5.2.1 59 i (by omega)).trans (i4 i h10 h11 h9)
    simp only [Option.toList, List.nil_append]
    simp only [lv_args, z_v, z_lg, z_h, z_u, z_u1, z_c, z_ct, z_sk, sbne, lst1_d, ldel, lst2_d, ldel2, z_sw, z_rok, zi, eq_self, List.map_cons, List.map_nil, List.append_nil, List.nil_append, List.cons_append, Int32.reduceLT, Int32.reduceLE, Int32.reduceAdd, Int32.reduceSub, Int32.reduceMul, Int32.reduceToInt, Int32.reduceToNatClampNeg, Int.reduceLT, Int.reduceLE, Int.reduceNeg, true_and, and_true, or_self, or_false, false_or, false_and, and_false, true_or, or_true, if_true, if_false, ne_eq, Classical.not_not, not_true_eq_false, not_false_eq_true, true_implies, false_implies, implies_true, Nat.reduceEqDiff, Nat.reduceAdd, Nat.reduceLeDiff, Nat.reduceSub, reduceCtorEq, reduceIte, b290_45, skM s5, h00]
    refine sp_analyses (g := 31) mc nd pq tr k6 (by decide) (by omega) ((i5 5 (by decide) (by decide) (by decide) (by decide)).trans c5) ((i5 4 (by decide) (by decide) (by decide) (by decide)).trans c4) ((j5 15 (by decide) (by decide) (by decide) (by decide) (by decide)).trans e15) (fun j hj => (hx j hj).2.2) (fun i hi => by
      obtain ⟨_, _, _, _, _, o6, o7⟩ := H5.2 (i + 1) (by omega) hi
      exact ⟨o6, o7⟩) (by omega) (fun h6 k6' mw pm => ?_)
    have s6 : Sk h6 := (sk_same k6'.1.1 k6'.1.2.1 k6'.1.2.2.2.1 : Sk _ = Sk h5) ▸ s5
    have fr : FrB q h h6 := fb_tr (fb_tr k4 (fb_r k5)) (fb_a k6')
    have i13 : hI h6 59 13 = 0 := by
      rw [k6'.2.1 59 13 (by unfold YI; omega), k5.2.1 59 13 (by omega), i4 13 (by decide) (by decide) (by decide)]
      exact e13
    have i01 : hI h6 59 1 = hI h 59 1 := by
      rw [k6'.2.1 59 1 (by unfold YI; omega), k5.2.1 59 1 (by omega), i4 1 (by decide) (by decide) (by decide)]
    have G := hq h6 _ (Or.inl rfl) fr i01 (Or.inr ⟨rfl, i13, mw, fun hfl => ⟨_, bk_nw bk (fun j hj => ⟨(hx j hj).1, (hx j hj).2.1⟩), pm hfl (bk_nw bk (fun j hj => ⟨(hx j hj).1, (hx j hj).2.1⟩)) H5.1 (u2.trans eC)⟩⟩)
    simp only [lv_args, z_v, z_lg, z_h, z_u, z_u1, z_c, z_ct, z_sk, sbne, lst1_d, ldel, lst2_d, ldel2, z_sw, z_rok, zi, eq_self, List.map_cons, List.map_nil, List.append_nil, List.nil_append, List.cons_append, Int32.reduceLT, Int32.reduceLE, Int32.reduceAdd, Int32.reduceSub, Int32.reduceMul, Int32.reduceToInt, Int32.reduceToNatClampNeg, Int.reduceLT, Int.reduceLE, Int.reduceNeg, true_and, and_true, or_self, or_false, false_or, false_and, and_false, true_or, or_true, if_true, if_false, ne_eq, Classical.not_not, not_true_eq_false, not_false_eq_true, true_implies, false_implies, implies_true, Nat.reduceEqDiff, Nat.reduceAdd, Nat.reduceLeDiff, Nat.reduceSub, reduceCtorEq, reduceIte, b290_45, skM s5, skM s6, Nat.reduceLT]
    exact G
  · -- none
    have hr : r = some (k, p) := by
      cases hc : r with
      | none => rw [(g1 hc).1] at hrd; cases hrd
      | some x =>
        rw [g2 x hc] at hrd
        exact hrd
    have s5 := (rm_t k5 rmt).1.1
    have fr : FrB q h (pI h5 59 15 0) := fb_I (fb_tr k4 (fb_t k5)) (by omega)
    have i01 : hI h5 59 1 = hI h 59 1 := by
      rw [k5.2.1 59 1 (by omega), i4 1 (by decide) (by decide) (by decide)]
    have G := hq (pI h5 59 15 0) _ (Or.inr rfl) fr i01 (Or.inl ⟨k, p, hr, f13, f14, rfl⟩)
    show aWP d 290 93 [(0, .ref 59), (1, .int x1)] [] h5 Q
    simp only [lv_args, z_v, z_lg, z_h, z_u, z_u1, z_c, z_ct, z_sk, sbne, lst1_d, ldel, lst2_d, ldel2, z_sw, z_rok, zi, eq_self, List.map_cons, List.map_nil, List.append_nil, List.nil_append, List.cons_append, Int32.reduceLT, Int32.reduceLE, Int32.reduceAdd, Int32.reduceSub, Int32.reduceMul, Int32.reduceToInt, Int32.reduceToNatClampNeg, Int.reduceLT, Int.reduceLE, Int.reduceNeg, true_and, and_true, or_self, or_false, false_or, false_and, and_false, true_or, or_true, if_true, if_false, ne_eq, Classical.not_not, not_true_eq_false, not_false_eq_true, true_implies, false_implies, implies_true, Nat.reduceEqDiff, Nat.reduceAdd, Nat.reduceLeDiff, Nat.reduceSub, reduceCtorEq, reduceIte, b290_92, skM s5]
    exact G
end BLE
