/-! BUILD. Room for nodes -/
theorem rt_r : (∀ e, e ∈ RTl → e.2 = 10 → e.1 = (3, 2)) ∧ (∀ e, e ∈ RTl → e.2 = 11 → e.1 = (3, 3)) ∧ (∀ e, e ∈ RTl → e.2 = 12 → e.1 = (3, 4)) ∧ (∀ e, e ∈ RTl → e.2 = 13 → e.1 = (3, 5)) ∧ (∀ e, e ∈ RTl → e.2 = 14 → e.1 = (3, 6)) := by decide +kernel
section RBG
variable {h h' : Hp} {Q : Option Value → Hp → Prop} {d n : Nat}
theorem sp_beginNodes (c : CB h) (e13 : hI h 3 13 = nI n) (hn : n ≤ 3000) (hd : 10 < d) (hq : ∀ h', CB h' → (1 + 2 * n ≤ hN h' 10 ∧ 1 + 2 * n ≤ hN h' 11 ∧ 1 + 2 * n ≤ hN h' 12 ∧ 1 + 2 * n ≤ hN h' 13 ∧ 1 + 2 * n ≤ hN h' 14) → hI h' 3 7 = 0 → (∀ a i, ¬ (a = 3 ∧ i = 7) → hI h' a i = hI h a i) → (∀ a, a < 130 → (a < 10 ∨ 14 < a) → hA h' a = hA h a ∧ hB h' a = hB h a ∧ hN h' a = hN h a) → hL h' = hL h → hR h' = hR h → hv h' 1 = hv h 1 → Q none h') : aEv d 110 [.ref 3] h Q := by
  have em : (1 : Int32) + 2 * nI n = nI (1 + 2 * n) := by
    have e1 : (1 : Int32) = nI 1 := rfl
    have e2 : (2 : Int32) * nI n = nI (2 * n) := (Int32.ofNat_mul 2 n).symm
    rw [e1, e2, nI_add]
  have y10 : cpR 10 = 12100 := rfl
  have y11 : cpR 11 = 12100 := rfl
  have y12 : cpR 12 = 12100 := rfl
  have y13 : cpR 13 = 12100 := rfl
  have y14 : cpR 14 = 12100 := rfl
  have lL : ∀ {f : Nat}, f ≠ 3 → ∀ z ∈ [((1 : Nat), Value.int (nI (1 + 2 * n))), (0, Value.ref 3)], ∀ q, z.2 = .ref q → q ≠ f ∧ q < 130 := fun {f} hf z hz q e => by
    simp only [List.mem_cons, List.not_mem_nil, or_false] at hz
    rcases hz with rfl | rfl
    · cases e
    · injection e with e
      subst e
      exact ⟨Ne.symm hf, by decide⟩
  obtain ⟨c1, m1, g1, _⟩ := cb_I (n := 1 + 2 * n) c (r := 10) (by decide) (by omega) (by omega)
  have l1 := (c.2.2.2.2 10 (by decide)).2
  unfold aEv
  simp only [lv_args, z_v, z_lg, z_h, z_u, z_u1, z_c, z_ct, z_sk, sbne, lst1_d, ldel, lst2_d, ldel2, z_sw, z_rok, zi, eq_self, List.map_cons, List.map_nil, List.append_nil, List.nil_append, List.cons_append, Int32.reduceLT, Int32.reduceLE, Int32.reduceAdd, Int32.reduceSub, Int32.reduceMul, Int32.reduceToInt, Int32.reduceToNatClampNeg, Int.reduceLT, Int.reduceLE, Int.reduceNeg, true_and, and_true, or_self, or_false, false_or, false_and, and_false, true_or, or_true, if_true, if_false, ne_eq, Classical.not_not, not_true_eq_false, not_false_eq_true, true_implies, false_implies, implies_true, Nat.reduceEqDiff, Nat.reduceAdd, Nat.reduceLeDiff, Nat.reduceSub, reduceCtorEq, reduceIte, b110_0, skX c.1, srX c.1, e13, em]
  refine grw_I (st := []) mm_110 dX7_beginNodes_15 ml_7_90 dX7_beginNodes_18 fl_7_18 rfl (by unfold finOK; decide +kernel) (by omega) c.1 c.2.1 c.2.2 (c.1.1 3 (by decide)) (by decide) (c.1.2.1 3 2 rfl) (c.1.1 10 (by decide)) (by decide) (by decide) rt_r.1 (lL (by decide)) (by omega) (by omega) ?_
  have u1 : hv (rmI h 10 (1 + 2 * n)) 1 = hv h 1 := rmI_v (by have := c.1.2.2; omega) (by decide)
  generalize rmI h 10 (1 + 2 * n) = h1 at *
  obtain ⟨c2, m2, g2, _⟩ := cb_I (n := 1 + 2 * n) c1 (r := 11) (by decide) (by omega) (by omega)
  have l2 := (c1.2.2.2.2 11 (by decide)).2
  simp only [lv_args, z_v, z_lg, z_h, z_u, z_u1, z_c, z_ct, z_sk, sbne, lst1_d, ldel, lst2_d, ldel2, z_sw, z_rok, zi, eq_self, List.map_cons, List.map_nil, List.append_nil, List.nil_append, List.cons_append, Int32.reduceLT, Int32.reduceLE, Int32.reduceAdd, Int32.reduceSub, Int32.reduceMul, Int32.reduceToInt, Int32.reduceToNatClampNeg, Int.reduceLT, Int.reduceLE, Int.reduceNeg, true_and, and_true, or_self, or_false, false_or, false_and, and_false, true_or, or_true, if_true, if_false, ne_eq, Classical.not_not, not_true_eq_false, not_false_eq_true, true_implies, false_implies, implies_true, Nat.reduceEqDiff, Nat.reduceAdd, Nat.reduceLeDiff, Nat.reduceSub, reduceCtorEq, reduceIte, b110_21, skX c1.1, srX c1.1]
  refine grw_I (st := []) mm_110 dX7_beginNodes_27 ml_7_90 dX7_beginNodes_30 fl_7_22 rfl (by unfold finOK; decide +kernel) (by omega) c1.1 c1.2.1 c1.2.2 (c1.1.1 3 (by decide)) (by decide) (c1.1.2.1 3 3 rfl) (c1.1.1 11 (by decide)) (by decide) (by decide) rt_r.2.1 (lL (by decide)) (by omega) (by omega) ?_
  have u2 : hv (rmI h1 11 (1 + 2 * n)) 1 = hv h1 1 := rmI_v (by have := c1.1.2.2; omega) (by decide)
  generalize rmI h1 11 (1 + 2 * n) = h2 at *
  obtain ⟨c3, m3, g3, _⟩ := cb_I (n := 1 + 2 * n) c2 (r := 12) (by decide) (by omega) (by omega)
  have l3 := (c2.2.2.2.2 12 (by decide)).2
  simp only [lv_args, z_v, z_lg, z_h, z_u, z_u1, z_c, z_ct, z_sk, sbne, lst1_d, ldel, lst2_d, ldel2, z_sw, z_rok, zi, eq_self, List.map_cons, List.map_nil, List.append_nil, List.nil_append, List.cons_append, Int32.reduceLT, Int32.reduceLE, Int32.reduceAdd, Int32.reduceSub, Int32.reduceMul, Int32.reduceToInt, Int32.reduceToNatClampNeg, Int.reduceLT, Int.reduceLE, Int.reduceNeg, true_and, and_true, or_self, or_false, false_or, false_and, and_false, true_or, or_true, if_true, if_false, ne_eq, Classical.not_not, not_true_eq_false, not_false_eq_true, true_implies, false_implies, implies_true, Nat.reduceEqDiff, Nat.reduceAdd, Nat.reduceLeDiff, Nat.reduceSub, reduceCtorEq, reduceIte, b110_33, skX c2.1, srX c2.1]
  refine grw_I (st := []) mm_110 dX7_beginNodes_39 ml_7_90 dX7_beginNodes_42 fl_7_25 rfl (by unfold finOK; decide +kernel) (by omega) c2.1 c2.2.1 c2.2.2 (c2.1.1 3 (by decide)) (by decide) (c2.1.2.1 3 4 rfl) (c2.1.1 12 (by decide)) (by decide) (by decide) rt_r.2.2.1 (lL (by decide)) (by omega) (by omega) ?_
  have u3 : hv (rmI h2 12 (1 + 2 * n)) 1 = hv h2 1 := rmI_v (by have := c2.1.2.2; omega) (by decide)
  generalize rmI h2 12 (1 + 2 * n) = h3 at *
  obtain ⟨c4, m4, g4, _⟩ := cb_I (n := 1 + 2 * n) c3 (r := 13) (by decide) (by omega) (by omega)
  have l4 := (c3.2.2.2.2 13 (by decide)).2
  simp only [lv_args, z_v, z_lg, z_h, z_u, z_u1, z_c, z_ct, z_sk, sbne, lst1_d, ldel, lst2_d, ldel2, z_sw, z_rok, zi, eq_self, List.map_cons, List.map_nil, List.append_nil, List.nil_append, List.cons_append, Int32.reduceLT, Int32.reduceLE, Int32.reduceAdd, Int32.reduceSub, Int32.reduceMul, Int32.reduceToInt, Int32.reduceToNatClampNeg, Int.reduceLT, Int.reduceLE, Int.reduceNeg, true_and, and_true, or_self, or_false, false_or, false_and, and_false, true_or, or_true, if_true, if_false, ne_eq, Classical.not_not, not_true_eq_false, not_false_eq_true, true_implies, false_implies, implies_true, Nat.reduceEqDiff, Nat.reduceAdd, Nat.reduceLeDiff, Nat.reduceSub, reduceCtorEq, reduceIte, b110_45, skX c3.1, srX c3.1]
  refine grw_I (st := []) mm_110 dX7_beginNodes_51 ml_7_90 dX7_beginNodes_54 fl_7_28 rfl (by unfold finOK; decide +kernel) (by omega) c3.1 c3.2.1 c3.2.2 (c3.1.1 3 (by decide)) (by decide) (c3.1.2.1 3 5 rfl) (c3.1.1 13 (by decide)) (by decide) (by decide) rt_r.2.2.2.1 (lL (by decide)) (by omega) (by omega) ?_
  have u4 : hv (rmI h3 13 (1 + 2 * n)) 1 = hv h3 1 := rmI_v (by have := c3.1.2.2; omega) (by decide)
  generalize rmI h3 13 (1 + 2 * n) = h4 at *
  obtain ⟨c5, m5, g5, _⟩ := cb_I (n := 1 + 2 * n) c4 (r := 14) (by decide) (by omega) (by omega)
  have l5 := (c4.2.2.2.2 14 (by decide)).2
  simp only [lv_args, z_v, z_lg, z_h, z_u, z_u1, z_c, z_ct, z_sk, sbne, lst1_d, ldel, lst2_d, ldel2, z_sw, z_rok, zi, eq_self, List.map_cons, List.map_nil, List.append_nil, List.nil_append, List.cons_append, Int32.reduceLT, Int32.reduceLE, Int32.reduceAdd, Int32.reduceSub, Int32.reduceMul, Int32.reduceToInt, Int32.reduceToNatClampNeg, Int.reduceLT, Int.reduceLE, Int.reduceNeg, true_and, and_true, or_self, or_false, false_or, false_and, and_false, true_or, or_true, if_true, if_false, ne_eq, Classical.not_not, not_true_eq_false, not_false_eq_true, true_implies, false_implies, implies_true, Nat.reduceEqDiff, Nat.reduceAdd, Nat.reduceLeDiff, Nat.reduceSub, reduceCtorEq, reduceIte, b110_57, skX c4.1, srX c4.1]
  refine grw_I (st := []) mm_110 dX7_beginNodes_63 ml_7_90 dX7_beginNodes_66 fl_7_31 rfl (by unfold finOK; decide +kernel) (by omega) c4.1 c4.2.1 c4.2.2 (c4.1.1 3 (by decide)) (by decide) (c4.1.2.1 3 6 rfl) (c4.1.1 14 (by decide)) (by decide) (by decide) rt_r.2.2.2.2 (lL (by decide)) (by omega) (by omega) ?_
  have u5 : hv (rmI h4 14 (1 + 2 * n)) 1 = hv h4 1 := rmI_v (by have := c4.1.2.2; omega) (by decide)
  generalize rmI h4 14 (1 + 2 * n) = h5 at *
  have s5 := c5.1
  simp only [lv_args, z_v, z_lg, z_h, z_u, z_u1, z_c, z_ct, z_sk, sbne, lst1_d, ldel, lst2_d, ldel2, z_sw, z_rok, zi, eq_self, List.map_cons, List.map_nil, List.append_nil, List.nil_append, List.cons_append, Int32.reduceLT, Int32.reduceLE, Int32.reduceAdd, Int32.reduceSub, Int32.reduceMul, Int32.reduceToInt, Int32.reduceToNatClampNeg, Int.reduceLT, Int.reduceLE, Int.reduceNeg, true_and, and_true, or_self, or_false, false_or, false_and, and_false, true_or, or_true, if_true, if_false, ne_eq, Classical.not_not, not_true_eq_false, not_false_eq_true, true_implies, false_implies, implies_true, Nat.reduceEqDiff, Nat.reduceAdd, Nat.reduceLeDiff, Nat.reduceSub, reduceCtorEq, reduceIte, b110_69, skX s5]
  have x10 : hN h5 10 = hN h1 10 := by rw [(g5.2.2.2.2.1 10 (by decide) (by decide)).2.2, (g4.2.2.2.2.1 10 (by decide) (by decide)).2.2, (g3.2.2.2.2.1 10 (by decide) (by decide)).2.2, (g2.2.2.2.2.1 10 (by decide) (by decide)).2.2]
  have x11 : hN h5 11 = hN h2 11 := by rw [(g5.2.2.2.2.1 11 (by decide) (by decide)).2.2, (g4.2.2.2.2.1 11 (by decide) (by decide)).2.2, (g3.2.2.2.2.1 11 (by decide) (by decide)).2.2]
  have x12 : hN h5 12 = hN h3 12 := by rw [(g5.2.2.2.2.1 12 (by decide) (by decide)).2.2, (g4.2.2.2.2.1 12 (by decide) (by decide)).2.2]
  have x13 : hN h5 13 = hN h4 13 := (g5.2.2.2.2.1 13 (by decide) (by decide)).2.2
  have iE : hI h5 = hI h := g5.2.1.trans (g4.2.1.trans (g3.2.1.trans (g2.2.1.trans g1.2.1)))
  refine hq _ ⟨sk_u1 s5, c5.2.1, rm_same rfl rfl rfl c5.2.2⟩ ⟨?_, ?_, ?_, ?_, m5⟩ rfl (fun a i cc => (up2_ne cc).trans (congrFun (congrFun iE a) i)) (fun a ha cc => ?_) (g5.2.2.1.trans (g4.2.2.1.trans (g3.2.2.1.trans (g2.2.2.1.trans g1.2.2.1)))) (g5.1.trans (g4.1.trans (g3.1.trans (g2.1.trans g1.1)))) (u5.trans (u4.trans (u3.trans (u2.trans u1))))
  · show 1 + 2 * n ≤ hN h5 10
    rw [x10]; exact m1
  · show 1 + 2 * n ≤ hN h5 11
    rw [x11]; exact m2
  · show 1 + 2 * n ≤ hN h5 12
    rw [x12]; exact m3
  · show 1 + 2 * n ≤ hN h5 13
    rw [x13]; exact m4
  · have a1 := g1.2.2.2.2.1 a ha (by omega)
    have a2 := g2.2.2.2.2.1 a ha (by omega)
    have a3 := g3.2.2.2.2.1 a ha (by omega)
    have a4 := g4.2.2.2.2.1 a ha (by omega)
    have a5 := g5.2.2.2.2.1 a ha (by omega)
    exact ⟨a5.1.trans (a4.1.trans (a3.1.trans (a2.1.trans a1.1))), a5.2.1.trans (a4.2.1.trans (a3.2.1.trans (a2.2.1.trans a1.2.1))), a5.2.2.trans (a4.2.2.trans (a3.2.2.trans (a2.2.2.trans a1.2.2)))⟩
end RBG
