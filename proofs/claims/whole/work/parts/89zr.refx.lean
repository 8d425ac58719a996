/-! primitives' values -/
section REX
variable {h h' : Hp} {Q : Option Value → Hp → Prop} {d : Nat} {G : PG} {q : Nat} {qv : Nat → Int64} {f : Nat} {x y v : Int64} {A : Option Nat × Int64 × List TD × List Int64} {e : List Nat × Nat × Option Nat} {bx : List Int64} {ps : List (Nat × List Nat)} {pa : List (Int64 × Int64)} {ce : Nat} {gr : List Int64} {inp out : List Int32} {P : Nat × Nat × Nat × Int64 × Nat} {z : QSt}
theorem tr_q {b : Bool} {p : Prop} (hb : b = true ↔ p) (hq : Q (some (.long (tru b))) h) : (¬ p → Q (some (.long 8589934592)) h) ∧ (p → Q (some (.long 12884901888)) h) := by
  have t3 : (12884901888 : Int64) = tru true := by decide
  have t2 : (8589934592 : Int64) = tru false := by decide
  refine ⟨fun c => ?_, fun c => ?_⟩
  · have : b = false := by
      cases b
      · rfl
      · exact absurd (hb.mp rfl) c
    rw [t2, ← this]; exact hq
  · rw [t3, ← hb.mpr c]; exact hq
theorem sp_one (hp : Prl f x y (pa, ce, inp, out) v z) (hf : f < 7) (r : RM G q qv (A, e, (bx, ps, pa, ce, gr), (inp, out, P)) h) (hd : 0 < d) (hq : z = (pa, ce, inp, out) → Q (some (.long v)) h) : aEv d 243 [.ref 59, .int (nI (f + 11)), .long x] h Q := by
  have s := r.1.1
  obtain ⟨g1, g2, g3, g4, g5, g6, g7, _⟩ := r.2.2.2.2.2.1
  have g2 : hN h 112 = 46200 := g2
  have g3 : hN h 113 = 46200 := g3
  have g4 : pa.length ≤ 6200 + ce := g4
  have g7 : ce ≤ 40000 := g7
  have e4 : (17179869184 : Int64) = vof 4 0 := by decide
  have e2 : (8589934592 : Int64) = vof 2 0 := by decide
  rcases hp with ⟨rfl, a, u, rfl, ha, e1, hz⟩ | ⟨rfl, a, u, rfl, ha, e1, hz⟩ | ⟨rfl, rfl, hz⟩ | ⟨rfl, rfl, hz⟩ | ⟨rfl, rfl, hz⟩ | ⟨rfl, rfl, hz⟩ | ⟨rfl, rfl, hz⟩ | ⟨c, _⟩ | ⟨c, _⟩ | ⟨c, _⟩ | ⟨c, _⟩ | ⟨c, _⟩ | ⟨c, _⟩ | ⟨c, _⟩
  · have hl := g_lt e1
    obtain ⟨q1, q2⟩ := g5 a v u e1
    have w : nI (0 + 11) = 11 := rfl
    rw [w, e243_59 _ _ s]
    simp (decide := true) only [kd_s, vof_kd, vof_lo, hd, true_implies, false_implies, true_and, and_true]
    simp (disch := omega) only [nI_ti, nI_cl, le0N, ltNN, g2, q1, true_and]
    exact ⟨by omega, hq hz⟩
  · have hl := g_lt e1
    obtain ⟨q1, q2⟩ := g5 a u v e1
    have w : nI (1 + 11) = 12 := rfl
    rw [w, e243_59 _ _ s]
    simp (decide := true) only [kd_s, vof_kd, vof_lo, hd, true_implies, false_implies, true_and, and_true]
    simp (disch := omega) only [nI_ti, nI_cl, le0N, ltNN, g3, q2, true_and]
    exact ⟨by omega, hq hz⟩
  · have w : nI (2 + 11) = 13 := rfl
    rw [w, e243_59 _ _ s]
    simp (decide := true) only [kd_s, hd, true_implies, false_implies, true_and, and_true]
    exact tr_q beq_iff_eq (hq hz)
  · have w : nI (3 + 11) = 14 := rfl
    rw [w, e243_59 _ _ s]
    simp (decide := true) only [kd_s, hd, cmp_0, e4, true_implies, false_implies, true_and, and_true]
    have := tr_q beq_iff_eq (hq hz)
    rw [← e4] at this ⊢
    exact this
  · have w : nI (4 + 11) = 15 := rfl
    rw [w, e243_59 _ _ s]
    simp (decide := true) only [kd_s, hd, true_implies, false_implies, true_and, and_true]
    exact tr_q beq_iff_eq (hq hz)
  · have w : nI (5 + 11) = 16 := rfl
    have t3 : (12884901888 : Int64) = tru true := by decide
    have t2 : (8589934592 : Int64) = tru false := by decide
    have hq := hq hz
    rw [w, e243_59 _ _ s]
    simp (decide := true) only [kd_s, hd, true_implies, false_implies, true_and, and_true]
    refine ⟨fun c => ?_, fun c => ⟨fun c2 => ?_, fun c2 => ?_⟩⟩
    · have e : (vkd x == 7 || vkd x == 8) = true := by simp [c]
      rw [e] at hq; rw [t3]; exact hq
    · have e : (vkd x == 7 || vkd x == 8) = false := by simp [c, c2]
      rw [e] at hq; rw [t2]; exact hq
    · have e : (vkd x == 7 || vkd x == 8) = true := by simp [c2]
      rw [e] at hq; rw [t3]; exact hq
  · have w : nI (6 + 11) = 17 := rfl
    rw [w, e243_59 _ _ s]
    simp (decide := true) only [kd_s, hd, cmp_0, true_implies, false_implies, true_and, and_true]
    have := tr_q beq_iff_eq (hq hz)
    rw [← e2] at this
    exact this
  all_goals omega
theorem sp_oneE (s : Sk h) (hf : f = 0 ∨ f = 1) (hx : vkd x ≠ 6) (hd : 0 < d) (hq : Q (some (.long 0)) (pI h 59 68 3)) : aEv d 243 [.ref 59, .int (nI (f + 11)), .long x] h Q := by
  rcases hf with rfl | rfl
  · have w : nI (0 + 11) = 11 := rfl
    rw [w, e243_59 _ _ s]
    simp (decide := true) only [kd_s, hd, hx, true_implies, false_implies, true_and, and_true, not_false_eq_true]
    exact hq
  · have w : nI (1 + 11) = 12 := rfl
    rw [w, e243_59 _ _ s]
    simp (decide := true) only [kd_s, hd, hx, true_implies, false_implies, true_and, and_true, not_false_eq_true]
    exact hq
theorem sp_two {pa' : List (Int64 × Int64)} {ce' : Nat} {inp' out' : List Int32} (hp : Prl f x y (pa, ce, inp, out) v (pa', ce', inp', out')) (hf : 8 ≤ f) (hf2 : f ≤ 11) (r : RM G q qv (A, e, (bx, ps, pa, ce, gr), (inp, out, P)) h) (hd : 1 < d) (hq : ∀ h', RM G q qv (A, e, (bx, ps, pa', ce', gr), (inp', out', P)) h' → Q (some (.long v)) h') : aEv d 267 [.ref 59, .int (nI (f + 11)), .long x, .long y] h Q := by
  have s := r.1.1
  have h0 : 0 < d := by omega
  have ms := r.2.2.2.2.2.1
  obtain ⟨g1, g2, g3, g4, g5, g6, g7, g8⟩ := ms
  have g1 : hI h 59 31 = nI pa.length := g1
  have g2 : hN h 112 = 46200 := g2
  have g3 : hN h 113 = 46200 := g3
  have g4 : pa.length ≤ 6200 + ce := g4
  have g6 : hI h 59 39 = nI ce := g6
  have g7 : ce ≤ 40000 := g7
  have z40 : (40000 : Int32) = nI 40000 := rfl
  have n1 : ¬ (19 : Int32) = 22 := by decide
  have n2 : ¬ (20 : Int32) = 22 := by decide
  have n3 : ¬ (20 : Int32) = 19 := by decide
  have n4 : ¬ (21 : Int32) = 22 := by decide
  have n5 : ¬ (21 : Int32) = 19 := by decide
  have n6 : ¬ (21 : Int32) = 20 := by decide
  rcases hp with ⟨c, _⟩ | ⟨c, _⟩ | ⟨c, _⟩ | ⟨c, _⟩ | ⟨c, _⟩ | ⟨c, _⟩ | ⟨c, _⟩ | ⟨c, _⟩ | ⟨rfl, hc, rfl, hz⟩ | ⟨rfl, a, u, w, rfl, ha, e1, rfl, hz⟩ | ⟨rfl, a, u, w, rfl, ha, e1, rfl, hz⟩ | ⟨rfl, rfl, hz⟩ | ⟨c, _⟩ | ⟨c, _⟩
  · omega
  · omega
  · omega
  · omega
  · omega
  · omega
  · omega
  · omega
  · simp only [Prod.mk.injEq] at hz
    obtain ⟨rfl, rfl, rfl, rfl⟩ := hz
    have w : nI (8 + 11) = 19 := rfl
    have s1 : Sk (pI h 59 39 (nI (ce + 1))) := (sk_same rfl rfl rfl : Sk _ = Sk h) ▸ s
    have fin : RM G q qv (A, e, (bx, ps, pa ++ [(x, y)], ce + 1, gr), (inp', out', P)) (pI (pB (pB (pI h 59 39 (nI (ce + 1))) 112 (vp_updL (hB h 112) pa.length x)) 113 (vp_updL (hB h 113) pa.length y)) 59 31 (nI (pa.length + 1))) := by
      obtain ⟨a1, a2, a3, a4, a5, a6, a7, a8, a9, a10, a11, a12⟩ := r
      have a12 : ps.length + (kfl ps).length ≤ ce := a12
      refine ⟨sm_I (sm_B (by decide) (sm_B (by decide) (sm_I a1))), a2, a3, a4, a5, ⟨?_, g2, g3, ?_, fun i u w hi => ?_, rfl, hc, g8⟩, a7, a8, a9, a10, a11, show ps.length + (kfl ps).length ≤ ce + 1 by omega⟩
      · rw [List.length_append]; rfl
      · rw [List.length_append, List.length_singleton]; show pa.length + 1 ≤ 6200 + (ce + 1); omega
      · show (if i = pa.length then x else hB h 112 i) = u ∧ (if i = pa.length then y else hB h 113 i) = w
        by_cases c : i = pa.length
        · subst c
          rw [List.getElem?_append_right (Nat.le_refl _), Nat.sub_self] at hi
          simp only [List.getElem?_cons_zero, Option.some.injEq, Prod.mk.injEq] at hi
          rw [if_pos rfl, if_pos rfl]
          exact hi
        · have hl := g_lt hi
          rw [List.length_append, List.length_singleton] at hl
          rw [List.getElem?_append_left (by omega)] at hi
          rw [if_neg c, if_neg c]
          exact g5 i u w hi
    have fin := hq _ fin
    rw [w]
    unfold aEv
    simp only [lv_args, z_v, z_lg, z_h, z_u, z_u1, z_c, z_ct, z_sk, sbne, lst1_d, ldel, lst2_d, ldel2, z_sw, z_rok, zi, eq_self, List.map_cons, List.map_nil, List.append_nil, List.nil_append, List.cons_append, Int32.reduceLT, Int32.reduceLE, Int32.reduceAdd, Int32.reduceSub, Int32.reduceMul, Int32.reduceToInt, Int32.reduceToNatClampNeg, Int.reduceLT, Int.reduceLE, Int.reduceNeg, true_and, and_true, or_self, or_false, false_or, false_and, and_false, true_or, or_true, if_true, if_false, ne_eq, Classical.not_not, not_true_eq_false, not_false_eq_true, true_implies, false_implies, implies_true, Nat.reduceEqDiff, Nat.reduceAdd, Nat.reduceLeDiff, Nat.reduceSub, reduceCtorEq, reduceIte, b267_0, b267_22, n1]
    simp only [lv_args, z_v, z_lg, z_h, z_u, z_u1, z_c, z_ct, z_sk, sbne, lst1_d, ldel, lst2_d, ldel2, z_sw, z_rok, zi, eq_self, List.map_cons, List.map_nil, List.append_nil, List.nil_append, List.cons_append, Int32.reduceLT, Int32.reduceLE, Int32.reduceAdd, Int32.reduceSub, Int32.reduceMul, Int32.reduceToInt, Int32.reduceToNatClampNeg, Int.reduceLT, Int.reduceLE, Int.reduceNeg, true_and, and_true, or_self, or_false, false_or, false_and, and_false, true_or, or_true, if_true, if_false, ne_eq, Classical.not_not, not_true_eq_false, not_false_eq_true, true_implies, false_implies, implies_true, Nat.reduceEqDiff, Nat.reduceAdd, Nat.reduceLeDiff, Nat.reduceSub, reduceCtorEq, reduceIte, b267_28, skM s, g6, z40]
    simp (disch := omega) only [nI_eqN]
    refine ⟨fun _ => ?_, fun c => absurd c (by omega)⟩
    simp only [lv_args, z_v, z_lg, z_h, z_u, z_u1, z_c, z_ct, z_sk, sbne, lst1_d, ldel, lst2_d, ldel2, z_sw, z_rok, zi, eq_self, List.map_cons, List.map_nil, List.append_nil, List.nil_append, List.cons_append, Int32.reduceLT, Int32.reduceLE, Int32.reduceAdd, Int32.reduceSub, Int32.reduceMul, Int32.reduceToInt, Int32.reduceToNatClampNeg, Int.reduceLT, Int.reduceLE, Int.reduceNeg, true_and, and_true, or_self, or_false, false_or, false_and, and_false, true_or, or_true, if_true, if_false, ne_eq, Classical.not_not, not_true_eq_false, not_false_eq_true, true_implies, false_implies, implies_true, Nat.reduceEqDiff, Nat.reduceAdd, Nat.reduceLeDiff, Nat.reduceSub, reduceCtorEq, reduceIte, b267_46, skM s, g6, nI_1, h0, e245_59 _ _ s1, g1, nI_m1]
    simp (disch := omega) only [nI_ti, nI_cl, le0N, ltNN, g2, g3, true_and]
    refine ⟨by omega, by omega, by omega, ?_⟩
    try simp only [lv_args, z_v, z_lg, z_h, z_u, z_u1, z_c, z_ct, z_sk, sbne, lst1_d, ldel, lst2_d, ldel2, z_sw, z_rok, zi, eq_self, List.map_cons, List.map_nil, List.append_nil, List.nil_append, List.cons_append, Int32.reduceLT, Int32.reduceLE, Int32.reduceAdd, Int32.reduceSub, Int32.reduceMul, Int32.reduceToInt, Int32.reduceToNatClampNeg, Int.reduceLT, Int.reduceLE, Int.reduceNeg, true_and, and_true, or_self, or_false, false_or, false_and, and_false, true_or, or_true, if_true, if_false, ne_eq, Classical.not_not, not_true_eq_false, not_false_eq_true, true_implies, false_implies, implies_true, Nat.reduceEqDiff, Nat.reduceAdd, Nat.reduceLeDiff, Nat.reduceSub, reduceCtorEq, reduceIte, b267_46]
    exact fin
  · simp only [Prod.mk.injEq] at hz
    obtain ⟨rfl, rfl, rfl, rfl⟩ := hz
    have hl := g_lt e1
    have w20 : nI (9 + 11) = 20 := rfl
    have fin : RM G q qv (A, e, (bx, ps, pa.set a (y, w), ce', gr), (inp', out', P)) (pB h 112 (vp_updL (hB h 112) a y)) := by
      obtain ⟨a1, a2, a3, a4, a5, a6, a7, a8, a9, a10, a11, a12⟩ := r
      refine ⟨sm_B (by decide) a1, a2, a3, a4, a5, ⟨by rw [List.length_set]; exact g1, g2, g3, by rw [List.length_set]; exact g4, fun i u' w' hi => ?_, g6, g7, g8⟩, a7, a8, a9, a10, a11, a12⟩
      show (if i = a then y else hB h 112 i) = u' ∧ hB h 113 i = w'
      by_cases c : i = a
      · subst c
        rw [List.getElem?_set_self hl] at hi
        simp only [Option.some.injEq, Prod.mk.injEq] at hi
        rw [if_pos rfl]
        exact ⟨hi.1, hi.2 ▸ (g5 i u w e1).2⟩
      · rw [List.getElem?_set_ne (Ne.symm c)] at hi
        rw [if_neg c]
        exact g5 i u' w' hi
    have fin := hq _ fin
    rw [w20]
    unfold aEv
    simp only [lv_args, z_v, z_lg, z_h, z_u, z_u1, z_c, z_ct, z_sk, sbne, lst1_d, ldel, lst2_d, ldel2, z_sw, z_rok, zi, eq_self, List.map_cons, List.map_nil, List.append_nil, List.nil_append, List.cons_append, Int32.reduceLT, Int32.reduceLE, Int32.reduceAdd, Int32.reduceSub, Int32.reduceMul, Int32.reduceToInt, Int32.reduceToNatClampNeg, Int.reduceLT, Int.reduceLE, Int.reduceNeg, true_and, and_true, or_self, or_false, false_or, false_and, and_false, true_or, or_true, if_true, if_false, ne_eq, Classical.not_not, not_true_eq_false, not_false_eq_true, true_implies, false_implies, implies_true, Nat.reduceEqDiff, Nat.reduceAdd, Nat.reduceLeDiff, Nat.reduceSub, reduceCtorEq, reduceIte, b267_0, b267_22, n2, n3]
    simp only [lv_args, z_v, z_lg, z_h, z_u, z_u1, z_c, z_ct, z_sk, sbne, lst1_d, ldel, lst2_d, ldel2, z_sw, z_rok, zi, eq_self, List.map_cons, List.map_nil, List.append_nil, List.nil_append, List.cons_append, Int32.reduceLT, Int32.reduceLE, Int32.reduceAdd, Int32.reduceSub, Int32.reduceMul, Int32.reduceToInt, Int32.reduceToNatClampNeg, Int.reduceLT, Int.reduceLE, Int.reduceNeg, true_and, and_true, or_self, or_false, false_or, false_and, and_false, true_or, or_true, if_true, if_false, ne_eq, Classical.not_not, not_true_eq_false, not_false_eq_true, true_implies, false_implies, implies_true, Nat.reduceEqDiff, Nat.reduceAdd, Nat.reduceLeDiff, Nat.reduceSub, reduceCtorEq, reduceIte, b267_64, skM s, h0, e227, kd_s, vof_kd]
    simp only [lv_args, z_v, z_lg, z_h, z_u, z_u1, z_c, z_ct, z_sk, sbne, lst1_d, ldel, lst2_d, ldel2, z_sw, z_rok, zi, eq_self, List.map_cons, List.map_nil, List.append_nil, List.nil_append, List.cons_append, Int32.reduceLT, Int32.reduceLE, Int32.reduceAdd, Int32.reduceSub, Int32.reduceMul, Int32.reduceToInt, Int32.reduceToNatClampNeg, Int.reduceLT, Int.reduceLE, Int.reduceNeg, true_and, and_true, or_self, or_false, false_or, false_and, and_false, true_or, or_true, if_true, if_false, ne_eq, Classical.not_not, not_true_eq_false, not_false_eq_true, true_implies, false_implies, implies_true, Nat.reduceEqDiff, Nat.reduceAdd, Nat.reduceLeDiff, Nat.reduceSub, reduceCtorEq, reduceIte, b267_80]
    simp only [lv_args, z_v, z_lg, z_h, z_u, z_u1, z_c, z_ct, z_sk, sbne, lst1_d, ldel, lst2_d, ldel2, z_sw, z_rok, zi, eq_self, List.map_cons, List.map_nil, List.append_nil, List.nil_append, List.cons_append, Int32.reduceLT, Int32.reduceLE, Int32.reduceAdd, Int32.reduceSub, Int32.reduceMul, Int32.reduceToInt, Int32.reduceToNatClampNeg, Int.reduceLT, Int.reduceLE, Int.reduceNeg, true_and, and_true, or_self, or_false, false_or, false_and, and_false, true_or, or_true, if_true, if_false, ne_eq, Classical.not_not, not_true_eq_false, not_false_eq_true, true_implies, false_implies, implies_true, Nat.reduceEqDiff, Nat.reduceAdd, Nat.reduceLeDiff, Nat.reduceSub, reduceCtorEq, reduceIte, b267_86, skM s, srM s, h0, e272, vof_lo]
    simp (disch := omega) only [nI_ti, nI_cl, le0N, ltNN, g2, true_and]
    refine ⟨by omega, ?_⟩
    try simp only [lv_args, z_v, z_lg, z_h, z_u, z_u1, z_c, z_ct, z_sk, sbne, lst1_d, ldel, lst2_d, ldel2, z_sw, z_rok, zi, eq_self, List.map_cons, List.map_nil, List.append_nil, List.nil_append, List.cons_append, Int32.reduceLT, Int32.reduceLE, Int32.reduceAdd, Int32.reduceSub, Int32.reduceMul, Int32.reduceToInt, Int32.reduceToNatClampNeg, Int.reduceLT, Int.reduceLE, Int.reduceNeg, true_and, and_true, or_self, or_false, false_or, false_and, and_false, true_or, or_true, if_true, if_false, ne_eq, Classical.not_not, not_true_eq_false, not_false_eq_true, true_implies, false_implies, implies_true, Nat.reduceEqDiff, Nat.reduceAdd, Nat.reduceLeDiff, Nat.reduceSub, reduceCtorEq, reduceIte, b267_86, b267_111]
    exact fin
  · simp only [Prod.mk.injEq] at hz
    obtain ⟨rfl, rfl, rfl, rfl⟩ := hz
    have hl := g_lt e1
    have w21 : nI (10 + 11) = 21 := rfl
    have fin : RM G q qv (A, e, (bx, ps, pa.set a (u, y), ce', gr), (inp', out', P)) (pB h 113 (vp_updL (hB h 113) a y)) := by
      obtain ⟨a1, a2, a3, a4, a5, a6, a7, a8, a9, a10, a11, a12⟩ := r
      refine ⟨sm_B (by decide) a1, a2, a3, a4, a5, ⟨by rw [List.length_set]; exact g1, g2, g3, by rw [List.length_set]; exact g4, fun i u' w' hi => ?_, g6, g7, g8⟩, a7, a8, a9, a10, a11, a12⟩
      show hB h 112 i = u' ∧ (if i = a then y else hB h 113 i) = w'
      by_cases c : i = a
      · subst c
        rw [List.getElem?_set_self hl] at hi
        simp only [Option.some.injEq, Prod.mk.injEq] at hi
        rw [if_pos rfl]
        exact ⟨hi.1 ▸ (g5 i u w e1).1, hi.2⟩
      · rw [List.getElem?_set_ne (Ne.symm c)] at hi
        rw [if_neg c]
        exact g5 i u' w' hi
    have fin := hq _ fin
    rw [w21]
    unfold aEv
    simp only [lv_args, z_v, z_lg, z_h, z_u, z_u1, z_c, z_ct, z_sk, sbne, lst1_d, ldel, lst2_d, ldel2, z_sw, z_rok, zi, eq_self, List.map_cons, List.map_nil, List.append_nil, List.nil_append, List.cons_append, Int32.reduceLT, Int32.reduceLE, Int32.reduceAdd, Int32.reduceSub, Int32.reduceMul, Int32.reduceToInt, Int32.reduceToNatClampNeg, Int.reduceLT, Int.reduceLE, Int.reduceNeg, true_and, and_true, or_self, or_false, false_or, false_and, and_false, true_or, or_true, if_true, if_false, ne_eq, Classical.not_not, not_true_eq_false, not_false_eq_true, true_implies, false_implies, implies_true, Nat.reduceEqDiff, Nat.reduceAdd, Nat.reduceLeDiff, Nat.reduceSub, reduceCtorEq, reduceIte, b267_0, b267_22, n4, n5]
    simp only [lv_args, z_v, z_lg, z_h, z_u, z_u1, z_c, z_ct, z_sk, sbne, lst1_d, ldel, lst2_d, ldel2, z_sw, z_rok, zi, eq_self, List.map_cons, List.map_nil, List.append_nil, List.nil_append, List.cons_append, Int32.reduceLT, Int32.reduceLE, Int32.reduceAdd, Int32.reduceSub, Int32.reduceMul, Int32.reduceToInt, Int32.reduceToNatClampNeg, Int.reduceLT, Int.reduceLE, Int.reduceNeg, true_and, and_true, or_self, or_false, false_or, false_and, and_false, true_or, or_true, if_true, if_false, ne_eq, Classical.not_not, not_true_eq_false, not_false_eq_true, true_implies, false_implies, implies_true, Nat.reduceEqDiff, Nat.reduceAdd, Nat.reduceLeDiff, Nat.reduceSub, reduceCtorEq, reduceIte, b267_64, skM s, h0, e227, kd_s, vof_kd]
    simp only [lv_args, z_v, z_lg, z_h, z_u, z_u1, z_c, z_ct, z_sk, sbne, lst1_d, ldel, lst2_d, ldel2, z_sw, z_rok, zi, eq_self, List.map_cons, List.map_nil, List.append_nil, List.nil_append, List.cons_append, Int32.reduceLT, Int32.reduceLE, Int32.reduceAdd, Int32.reduceSub, Int32.reduceMul, Int32.reduceToInt, Int32.reduceToNatClampNeg, Int.reduceLT, Int.reduceLE, Int.reduceNeg, true_and, and_true, or_self, or_false, false_or, false_and, and_false, true_or, or_true, if_true, if_false, ne_eq, Classical.not_not, not_true_eq_false, not_false_eq_true, true_implies, false_implies, implies_true, Nat.reduceEqDiff, Nat.reduceAdd, Nat.reduceLeDiff, Nat.reduceSub, reduceCtorEq, reduceIte, b267_80, n6]
    simp only [lv_args, z_v, z_lg, z_h, z_u, z_u1, z_c, z_ct, z_sk, sbne, lst1_d, ldel, lst2_d, ldel2, z_sw, z_rok, zi, eq_self, List.map_cons, List.map_nil, List.append_nil, List.nil_append, List.cons_append, Int32.reduceLT, Int32.reduceLE, Int32.reduceAdd, Int32.reduceSub, Int32.reduceMul, Int32.reduceToInt, Int32.reduceToNatClampNeg, Int.reduceLT, Int.reduceLE, Int.reduceNeg, true_and, and_true, or_self, or_false, false_or, false_and, and_false, true_or, or_true, if_true, if_false, ne_eq, Classical.not_not, not_true_eq_false, not_false_eq_true, true_implies, false_implies, implies_true, Nat.reduceEqDiff, Nat.reduceAdd, Nat.reduceLeDiff, Nat.reduceSub, reduceCtorEq, reduceIte, b267_100, skM s, srM s, h0, e272, vof_lo]
    simp (disch := omega) only [nI_ti, nI_cl, le0N, ltNN, g3, true_and]
    refine ⟨by omega, ?_⟩
    try simp only [lv_args, z_v, z_lg, z_h, z_u, z_u1, z_c, z_ct, z_sk, sbne, lst1_d, ldel, lst2_d, ldel2, z_sw, z_rok, zi, eq_self, List.map_cons, List.map_nil, List.append_nil, List.nil_append, List.cons_append, Int32.reduceLT, Int32.reduceLE, Int32.reduceAdd, Int32.reduceSub, Int32.reduceMul, Int32.reduceToInt, Int32.reduceToNatClampNeg, Int.reduceLT, Int.reduceLE, Int.reduceNeg, true_and, and_true, or_self, or_false, false_or, false_and, and_false, true_or, or_true, if_true, if_false, ne_eq, Classical.not_not, not_true_eq_false, not_false_eq_true, true_implies, false_implies, implies_true, Nat.reduceEqDiff, Nat.reduceAdd, Nat.reduceLeDiff, Nat.reduceSub, reduceCtorEq, reduceIte, b267_100, b267_111]
    exact fin
  · simp only [Prod.mk.injEq] at hz
    obtain ⟨rfl, rfl, rfl, rfl⟩ := hz
    have w22 : nI (11 + 11) = 22 := rfl
    have z10 : ¬ (1 : Int32) = 0 := by decide
    have fin := tr_q beq_iff_eq (hq _ r)
    rw [w22]
    unfold aEv
    simp only [lv_args, z_v, z_lg, z_h, z_u, z_u1, z_c, z_ct, z_sk, sbne, lst1_d, ldel, lst2_d, ldel2, z_sw, z_rok, zi, eq_self, List.map_cons, List.map_nil, List.append_nil, List.nil_append, List.cons_append, Int32.reduceLT, Int32.reduceLE, Int32.reduceAdd, Int32.reduceSub, Int32.reduceMul, Int32.reduceToInt, Int32.reduceToNatClampNeg, Int.reduceLT, Int.reduceLE, Int.reduceNeg, true_and, and_true, or_self, or_false, false_or, false_and, and_false, true_or, or_true, if_true, if_false, ne_eq, Classical.not_not, not_true_eq_false, not_false_eq_true, true_implies, false_implies, implies_true, Nat.reduceEqDiff, Nat.reduceAdd, Nat.reduceLeDiff, Nat.reduceSub, reduceCtorEq, reduceIte, b267_0]
    simp only [lv_args, z_v, z_lg, z_h, z_u, z_u1, z_c, z_ct, z_sk, sbne, lst1_d, ldel, lst2_d, ldel2, z_sw, z_rok, zi, eq_self, List.map_cons, List.map_nil, List.append_nil, List.nil_append, List.cons_append, Int32.reduceLT, Int32.reduceLE, Int32.reduceAdd, Int32.reduceSub, Int32.reduceMul, Int32.reduceToInt, Int32.reduceToNatClampNeg, Int.reduceLT, Int.reduceLE, Int.reduceNeg, true_and, and_true, or_self, or_false, false_or, false_and, and_false, true_or, or_true, if_true, if_false, ne_eq, Classical.not_not, not_true_eq_false, not_false_eq_true, true_implies, false_implies, implies_true, Nat.reduceEqDiff, Nat.reduceAdd, Nat.reduceLeDiff, Nat.reduceSub, reduceCtorEq, reduceIte, b267_6, cmp_0]
    refine ⟨fun c => ?_, fun c => ?_⟩
    · simp only [lv_args, z_v, z_lg, z_h, z_u, z_u1, z_c, z_ct, z_sk, sbne, lst1_d, ldel, lst2_d, ldel2, z_sw, z_rok, zi, eq_self, List.map_cons, List.map_nil, List.append_nil, List.nil_append, List.cons_append, Int32.reduceLT, Int32.reduceLE, Int32.reduceAdd, Int32.reduceSub, Int32.reduceMul, Int32.reduceToInt, Int32.reduceToNatClampNeg, Int.reduceLT, Int.reduceLE, Int.reduceNeg, true_and, and_true, or_self, or_false, false_or, false_and, and_false, true_or, or_true, if_true, if_false, ne_eq, Classical.not_not, not_true_eq_false, not_false_eq_true, true_implies, false_implies, implies_true, Nat.reduceEqDiff, Nat.reduceAdd, Nat.reduceLeDiff, Nat.reduceSub, reduceCtorEq, reduceIte, b267_17, b267_18, h0, e266]
      exact fin.1 c
    · simp only [lv_args, z_v, z_lg, z_h, z_u, z_u1, z_c, z_ct, z_sk, sbne, lst1_d, ldel, lst2_d, ldel2, z_sw, z_rok, zi, eq_self, List.map_cons, List.map_nil, List.append_nil, List.nil_append, List.cons_append, Int32.reduceLT, Int32.reduceLE, Int32.reduceAdd, Int32.reduceSub, Int32.reduceMul, Int32.reduceToInt, Int32.reduceToNatClampNeg, Int.reduceLT, Int.reduceLE, Int.reduceNeg, true_and, and_true, or_self, or_false, false_or, false_and, and_false, true_or, or_true, if_true, if_false, ne_eq, Classical.not_not, not_true_eq_false, not_false_eq_true, true_implies, false_implies, implies_true, Nat.reduceEqDiff, Nat.reduceAdd, Nat.reduceLeDiff, Nat.reduceSub, reduceCtorEq, reduceIte, b267_13, b267_18, h0, e266, z10]
      exact fin.2 c
  · omega
  · omega
theorem sp_twoE {e3 : Int32} (s : Sk h) (hf : ((f = 9 ∨ f = 10) ∧ vkd x ≠ 6 ∧ e3 = 3) ∨ (f = 8 ∧ hI h 59 39 = 40000 ∧ e3 = 6)) (hd : 1 < d) (hq : Q (some (.long 0)) (pI h 59 68 e3)) : aEv d 267 [.ref 59, .int (nI (f + 11)), .long x, .long y] h Q := by
  have h0 : 0 < d := by omega
  have n1 : ¬ (19 : Int32) = 22 := by decide
  have n2 : ¬ (20 : Int32) = 22 := by decide
  have n3 : ¬ (20 : Int32) = 19 := by decide
  have n4 : ¬ (21 : Int32) = 22 := by decide
  have n5 : ¬ (21 : Int32) = 19 := by decide
  rcases hf with ⟨hf, hx, rfl⟩ | ⟨rfl, hc, rfl⟩
  · rcases hf with rfl | rfl
    · have w20 : nI (9 + 11) = 20 := rfl
      rw [w20]
      unfold aEv
      simp only [lv_args, z_v, z_lg, z_h, z_u, z_u1, z_c, z_ct, z_sk, sbne, lst1_d, ldel, lst2_d, ldel2, z_sw, z_rok, zi, eq_self, List.map_cons, List.map_nil, List.append_nil, List.nil_append, List.cons_append, Int32.reduceLT, Int32.reduceLE, Int32.reduceAdd, Int32.reduceSub, Int32.reduceMul, Int32.reduceToInt, Int32.reduceToNatClampNeg, Int.reduceLT, Int.reduceLE, Int.reduceNeg, true_and, and_true, or_self, or_false, false_or, false_and, and_false, true_or, or_true, if_true, if_false, ne_eq, Classical.not_not, not_true_eq_false, not_false_eq_true, true_implies, false_implies, implies_true, Nat.reduceEqDiff, Nat.reduceAdd, Nat.reduceLeDiff, Nat.reduceSub, reduceCtorEq, reduceIte, b267_0, b267_22, n2, n3]
      simp only [lv_args, z_v, z_lg, z_h, z_u, z_u1, z_c, z_ct, z_sk, sbne, lst1_d, ldel, lst2_d, ldel2, z_sw, z_rok, zi, eq_self, List.map_cons, List.map_nil, List.append_nil, List.nil_append, List.cons_append, Int32.reduceLT, Int32.reduceLE, Int32.reduceAdd, Int32.reduceSub, Int32.reduceMul, Int32.reduceToInt, Int32.reduceToNatClampNeg, Int.reduceLT, Int.reduceLE, Int.reduceNeg, true_and, and_true, or_self, or_false, false_or, false_and, and_false, true_or, or_true, if_true, if_false, ne_eq, Classical.not_not, not_true_eq_false, not_false_eq_true, true_implies, false_implies, implies_true, Nat.reduceEqDiff, Nat.reduceAdd, Nat.reduceLeDiff, Nat.reduceSub, reduceCtorEq, reduceIte, b267_64, skM s, h0, e227, kd_s, hx]
      simp only [lv_args, z_v, z_lg, z_h, z_u, z_u1, z_c, z_ct, z_sk, sbne, lst1_d, ldel, lst2_d, ldel2, z_sw, z_rok, zi, eq_self, List.map_cons, List.map_nil, List.append_nil, List.nil_append, List.cons_append, Int32.reduceLT, Int32.reduceLE, Int32.reduceAdd, Int32.reduceSub, Int32.reduceMul, Int32.reduceToInt, Int32.reduceToNatClampNeg, Int.reduceLT, Int.reduceLE, Int.reduceNeg, true_and, and_true, or_self, or_false, false_or, false_and, and_false, true_or, or_true, if_true, if_false, ne_eq, Classical.not_not, not_true_eq_false, not_false_eq_true, true_implies, false_implies, implies_true, Nat.reduceEqDiff, Nat.reduceAdd, Nat.reduceLeDiff, Nat.reduceSub, reduceCtorEq, reduceIte, b267_73, skM s]
      exact hq
    · have w21 : nI (10 + 11) = 21 := rfl
      rw [w21]
      unfold aEv
      simp only [lv_args, z_v, z_lg, z_h, z_u, z_u1, z_c, z_ct, z_sk, sbne, lst1_d, ldel, lst2_d, ldel2, z_sw, z_rok, zi, eq_self, List.map_cons, List.map_nil, List.append_nil, List.nil_append, List.cons_append, Int32.reduceLT, Int32.reduceLE, Int32.reduceAdd, Int32.reduceSub, Int32.reduceMul, Int32.reduceToInt, Int32.reduceToNatClampNeg, Int.reduceLT, Int.reduceLE, Int.reduceNeg, true_and, and_true, or_self, or_false, false_or, false_and, and_false, true_or, or_true, if_true, if_false, ne_eq, Classical.not_not, not_true_eq_false, not_false_eq_true, true_implies, false_implies, implies_true, Nat.reduceEqDiff, Nat.reduceAdd, Nat.reduceLeDiff, Nat.reduceSub, reduceCtorEq, reduceIte, b267_0, b267_22, n4, n5]
      simp only [lv_args, z_v, z_lg, z_h, z_u, z_u1, z_c, z_ct, z_sk, sbne, lst1_d, ldel, lst2_d, ldel2, z_sw, z_rok, zi, eq_self, List.map_cons, List.map_nil, List.append_nil, List.nil_append, List.cons_append, Int32.reduceLT, Int32.reduceLE, Int32.reduceAdd, Int32.reduceSub, Int32.reduceMul, Int32.reduceToInt, Int32.reduceToNatClampNeg, Int.reduceLT, Int.reduceLE, Int.reduceNeg, true_and, and_true, or_self, or_false, false_or, false_and, and_false, true_or, or_true, if_true, if_false, ne_eq, Classical.not_not, not_true_eq_false, not_false_eq_true, true_implies, false_implies, implies_true, Nat.reduceEqDiff, Nat.reduceAdd, Nat.reduceLeDiff, Nat.reduceSub, reduceCtorEq, reduceIte, b267_64, skM s, h0, e227, kd_s, hx]
      simp only [lv_args, z_v, z_lg, z_h, z_u, z_u1, z_c, z_ct, z_sk, sbne, lst1_d, ldel, lst2_d, ldel2, z_sw, z_rok, zi, eq_self, List.map_cons, List.map_nil, List.append_nil, List.nil_append, List.cons_append, Int32.reduceLT, Int32.reduceLE, Int32.reduceAdd, Int32.reduceSub, Int32.reduceMul, Int32.reduceToInt, Int32.reduceToNatClampNeg, Int.reduceLT, Int.reduceLE, Int.reduceNeg, true_and, and_true, or_self, or_false, false_or, false_and, and_false, true_or, or_true, if_true, if_false, ne_eq, Classical.not_not, not_true_eq_false, not_false_eq_true, true_implies, false_implies, implies_true, Nat.reduceEqDiff, Nat.reduceAdd, Nat.reduceLeDiff, Nat.reduceSub, reduceCtorEq, reduceIte, b267_73, skM s]
      exact hq
  · have w : nI (8 + 11) = 19 := rfl
    rw [w]
    unfold aEv
    simp only [lv_args, z_v, z_lg, z_h, z_u, z_u1, z_c, z_ct, z_sk, sbne, lst1_d, ldel, lst2_d, ldel2, z_sw, z_rok, zi, eq_self, List.map_cons, List.map_nil, List.append_nil, List.nil_append, List.cons_append, Int32.reduceLT, Int32.reduceLE, Int32.reduceAdd, Int32.reduceSub, Int32.reduceMul, Int32.reduceToInt, Int32.reduceToNatClampNeg, Int.reduceLT, Int.reduceLE, Int.reduceNeg, true_and, and_true, or_self, or_false, false_or, false_and, and_false, true_or, or_true, if_true, if_false, ne_eq, Classical.not_not, not_true_eq_false, not_false_eq_true, true_implies, false_implies, implies_true, Nat.reduceEqDiff, Nat.reduceAdd, Nat.reduceLeDiff, Nat.reduceSub, reduceCtorEq, reduceIte, b267_0, b267_22, n1]
    simp only [lv_args, z_v, z_lg, z_h, z_u, z_u1, z_c, z_ct, z_sk, sbne, lst1_d, ldel, lst2_d, ldel2, z_sw, z_rok, zi, eq_self, List.map_cons, List.map_nil, List.append_nil, List.nil_append, List.cons_append, Int32.reduceLT, Int32.reduceLE, Int32.reduceAdd, Int32.reduceSub, Int32.reduceMul, Int32.reduceToInt, Int32.reduceToNatClampNeg, Int.reduceLT, Int.reduceLE, Int.reduceNeg, true_and, and_true, or_self, or_false, false_or, false_and, and_false, true_or, or_true, if_true, if_false, ne_eq, Classical.not_not, not_true_eq_false, not_false_eq_true, true_implies, false_implies, implies_true, Nat.reduceEqDiff, Nat.reduceAdd, Nat.reduceLeDiff, Nat.reduceSub, reduceCtorEq, reduceIte, b267_28, skM s, hc]
    simp only [lv_args, z_v, z_lg, z_h, z_u, z_u1, z_c, z_ct, z_sk, sbne, lst1_d, ldel, lst2_d, ldel2, z_sw, z_rok, zi, eq_self, List.map_cons, List.map_nil, List.append_nil, List.nil_append, List.cons_append, Int32.reduceLT, Int32.reduceLE, Int32.reduceAdd, Int32.reduceSub, Int32.reduceMul, Int32.reduceToInt, Int32.reduceToNatClampNeg, Int.reduceLT, Int.reduceLE, Int.reduceNeg, true_and, and_true, or_self, or_false, false_or, false_and, and_false, true_or, or_true, if_true, if_false, ne_eq, Classical.not_not, not_true_eq_false, not_false_eq_true, true_implies, false_implies, implies_true, Nat.reduceEqDiff, Nat.reduceAdd, Nat.reduceLeDiff, Nat.reduceSub, reduceCtorEq, reduceIte, b267_38, skM s]
    exact hq
/-- two integers are there -/
theorem rk_in (s : Sk h) (hf : 12 ≤ f) (hf2 : f ≤ 18) (hd : 1 < d) (hx : vkd x = 1) (hy : vkd y = 1) (hz : f = 15 ∨ f = 16 → y.toInt32 ≠ 0) (hq : aWP d 253 54 [(7, .int y.toInt32), (6, .int x.toInt32), (0, .ref 59), (1, .int (nI (f + 11))), (2, .long x), (4, .long y)] [] h Q) : aEv d 253 [.ref 59, .int (nI (f + 11)), .long x, .long y] h Q := by
  have h0 : 0 < d := by omega
  have h01 : 0 < d - 1 := by omega
  have z10 : ¬ (1 : Int32) = 0 := by decide
  have z26 : (26 : Int32) = nI 26 := rfl
  have z27 : (27 : Int32) = nI 27 := rfl
  unfold aEv
  simp only [lv_args, z_v, z_lg, z_h, z_u, z_u1, z_c, z_ct, z_sk, sbne, lst1_d, ldel, lst2_d, ldel2, z_sw, z_rok, zi, eq_self, List.map_cons, List.map_nil, List.append_nil, List.nil_append, List.cons_append, Int32.reduceLT, Int32.reduceLE, Int32.reduceAdd, Int32.reduceSub, Int32.reduceMul, Int32.reduceToInt, Int32.reduceToNatClampNeg, Int.reduceLT, Int.reduceLE, Int.reduceNeg, true_and, and_true, or_self, or_false, false_or, false_and, and_false, true_or, or_true, if_true, if_false, ne_eq, Classical.not_not, not_true_eq_false, not_false_eq_true, true_implies, false_implies, implies_true, Nat.reduceEqDiff, Nat.reduceAdd, Nat.reduceLeDiff, Nat.reduceSub, reduceCtorEq, reduceIte, b253_0, skM s, h0, h01, e181_59 _ _ s, kd_s, hx, hy, z10]
  simp only [lv_args, z_v, z_lg, z_h, z_u, z_u1, z_c, z_ct, z_sk, sbne, lst1_d, ldel, lst2_d, ldel2, z_sw, z_rok, zi, eq_self, List.map_cons, List.map_nil, List.append_nil, List.nil_append, List.cons_append, Int32.reduceLT, Int32.reduceLE, Int32.reduceAdd, Int32.reduceSub, Int32.reduceMul, Int32.reduceToInt, Int32.reduceToNatClampNeg, Int.reduceLT, Int.reduceLE, Int.reduceNeg, true_and, and_true, or_self, or_false, false_or, false_and, and_false, true_or, or_true, if_true, if_false, ne_eq, Classical.not_not, not_true_eq_false, not_false_eq_true, true_implies, false_implies, implies_true, Nat.reduceEqDiff, Nat.reduceAdd, Nat.reduceLeDiff, Nat.reduceSub, reduceCtorEq, reduceIte, b253_17, skM s, h0, e272, z26]
  simp (disch := omega) only [nI_eqN]
  refine ⟨fun c => ?_, fun c => ?_⟩
  · simp only [lv_args, z_v, z_lg, z_h, z_u, z_u1, z_c, z_ct, z_sk, sbne, lst1_d, ldel, lst2_d, ldel2, z_sw, z_rok, zi, eq_self, List.map_cons, List.map_nil, List.append_nil, List.nil_append, List.cons_append, Int32.reduceLT, Int32.reduceLE, Int32.reduceAdd, Int32.reduceSub, Int32.reduceMul, Int32.reduceToInt, Int32.reduceToNatClampNeg, Int.reduceLT, Int.reduceLE, Int.reduceNeg, true_and, and_true, or_self, or_false, false_or, false_and, and_false, true_or, or_true, if_true, if_false, ne_eq, Classical.not_not, not_true_eq_false, not_false_eq_true, true_implies, false_implies, implies_true, Nat.reduceEqDiff, Nat.reduceAdd, Nat.reduceLeDiff, Nat.reduceSub, reduceCtorEq, reduceIte, b253_42, hz (Or.inl (by omega))]
    exact hq
  · simp only [lv_args, z_v, z_lg, z_h, z_u, z_u1, z_c, z_ct, z_sk, sbne, lst1_d, ldel, lst2_d, ldel2, z_sw, z_rok, zi, eq_self, List.map_cons, List.map_nil, List.append_nil, List.nil_append, List.cons_append, Int32.reduceLT, Int32.reduceLE, Int32.reduceAdd, Int32.reduceSub, Int32.reduceMul, Int32.reduceToInt, Int32.reduceToNatClampNeg, Int.reduceLT, Int.reduceLE, Int.reduceNeg, true_and, and_true, or_self, or_false, false_or, false_and, and_false, true_or, or_true, if_true, if_false, ne_eq, Classical.not_not, not_true_eq_false, not_false_eq_true, true_implies, false_implies, implies_true, Nat.reduceEqDiff, Nat.reduceAdd, Nat.reduceLeDiff, Nat.reduceSub, reduceCtorEq, reduceIte, b253_36, z27]
    simp (disch := omega) only [nI_eqN]
    refine ⟨fun c => hq, fun c => ?_⟩
    simp only [lv_args, z_v, z_lg, z_h, z_u, z_u1, z_c, z_ct, z_sk, sbne, lst1_d, ldel, lst2_d, ldel2, z_sw, z_rok, zi, eq_self, List.map_cons, List.map_nil, List.append_nil, List.nil_append, List.cons_append, Int32.reduceLT, Int32.reduceLE, Int32.reduceAdd, Int32.reduceSub, Int32.reduceMul, Int32.reduceToInt, Int32.reduceToNatClampNeg, Int.reduceLT, Int.reduceLE, Int.reduceNeg, true_and, and_true, or_self, or_false, false_or, false_and, and_false, true_or, or_true, if_true, if_false, ne_eq, Classical.not_not, not_true_eq_false, not_false_eq_true, true_implies, false_implies, implies_true, Nat.reduceEqDiff, Nat.reduceAdd, Nat.reduceLeDiff, Nat.reduceSub, reduceCtorEq, reduceIte, b253_42, hz (Or.inr (by omega))]
    exact hq
theorem sp_reck (s : Sk h) (hf : 12 ≤ f) (hf2 : f ≤ 18) (hd : 1 < d) (hx : vkd x = 1) (hy : vkd y = 1) (hz : f = 15 ∨ f = 16 → y.toInt32 ≠ 0) (hq : Q (some (.long (Rck f x.toInt32 y.toInt32))) h) : aEv d 253 [.ref 59, .int (nI (f + 11)), .long x, .long y] h Q := by
  have h0 : 0 < d := by omega
  have z10 : ¬ (1 : Int32) = 0 := by decide
  refine rk_in s hf hf2 hd hx hy hz ?_
  have hc : f = 12 ∨ f = 13 ∨ f = 14 ∨ f = 15 ∨ f = 16 ∨ f = 17 ∨ f = 18 := by omega
  rcases hc with rfl | rfl | rfl | rfl | rfl | rfl | rfl
  · simp only [lv_args, z_v, z_lg, z_h, z_u, z_u1, z_c, z_ct, z_sk, sbne, lst1_d, ldel, lst2_d, ldel2, z_rok, zi, eq_self, List.map_cons, List.map_nil, List.append_nil, List.nil_append, List.cons_append, Int32.reduceLT, Int32.reduceLE, Int32.reduceAdd, Int32.reduceSub, Int32.reduceMul, Int32.reduceToInt, Int32.reduceToNatClampNeg, Int.reduceLT, Int.reduceLE, Int.reduceNeg, true_and, and_true, or_self, or_false, false_or, false_and, and_false, true_or, or_true, if_true, if_false, ne_eq, Classical.not_not, not_true_eq_false, not_false_eq_true, true_implies, false_implies, implies_true, Nat.reduceEqDiff, Nat.reduceAdd, Nat.reduceLeDiff, Nat.reduceSub, reduceCtorEq, reduceIte, b253_54]
    refine sw_at ?_
    have e : swL [(23, 92), (24, 102), (25, 112), (26, 122), (27, 144), (28, 164)] (nI (12 + 11)) 180 = 92 := rfl
    rw [e]
    simp only [lv_args, z_v, z_lg, z_h, z_u, z_u1, z_c, z_ct, z_sk, sbne, lst1_d, ldel, lst2_d, ldel2, z_sw, z_rok, zi, eq_self, List.map_cons, List.map_nil, List.append_nil, List.nil_append, List.cons_append, Int32.reduceLT, Int32.reduceLE, Int32.reduceAdd, Int32.reduceSub, Int32.reduceMul, Int32.reduceToInt, Int32.reduceToNatClampNeg, Int.reduceLT, Int.reduceLE, Int.reduceNeg, true_and, and_true, or_self, or_false, false_or, false_and, and_false, true_or, or_true, if_true, if_false, ne_eq, Classical.not_not, not_true_eq_false, not_false_eq_true, true_implies, false_implies, implies_true, Nat.reduceEqDiff, Nat.reduceAdd, Nat.reduceLeDiff, Nat.reduceSub, reduceCtorEq, reduceIte, b253_92, h0, e269v]
    exact hq
  · simp only [lv_args, z_v, z_lg, z_h, z_u, z_u1, z_c, z_ct, z_sk, sbne, lst1_d, ldel, lst2_d, ldel2, z_rok, zi, eq_self, List.map_cons, List.map_nil, List.append_nil, List.nil_append, List.cons_append, Int32.reduceLT, Int32.reduceLE, Int32.reduceAdd, Int32.reduceSub, Int32.reduceMul, Int32.reduceToInt, Int32.reduceToNatClampNeg, Int.reduceLT, Int.reduceLE, Int.reduceNeg, true_and, and_true, or_self, or_false, false_or, false_and, and_false, true_or, or_true, if_true, if_false, ne_eq, Classical.not_not, not_true_eq_false, not_false_eq_true, true_implies, false_implies, implies_true, Nat.reduceEqDiff, Nat.reduceAdd, Nat.reduceLeDiff, Nat.reduceSub, reduceCtorEq, reduceIte, b253_54]
    refine sw_at ?_
    have e : swL [(23, 92), (24, 102), (25, 112), (26, 122), (27, 144), (28, 164)] (nI (13 + 11)) 180 = 102 := rfl
    rw [e]
    simp only [lv_args, z_v, z_lg, z_h, z_u, z_u1, z_c, z_ct, z_sk, sbne, lst1_d, ldel, lst2_d, ldel2, z_sw, z_rok, zi, eq_self, List.map_cons, List.map_nil, List.append_nil, List.nil_append, List.cons_append, Int32.reduceLT, Int32.reduceLE, Int32.reduceAdd, Int32.reduceSub, Int32.reduceMul, Int32.reduceToInt, Int32.reduceToNatClampNeg, Int.reduceLT, Int.reduceLE, Int.reduceNeg, true_and, and_true, or_self, or_false, false_or, false_and, and_false, true_or, or_true, if_true, if_false, ne_eq, Classical.not_not, not_true_eq_false, not_false_eq_true, true_implies, false_implies, implies_true, Nat.reduceEqDiff, Nat.reduceAdd, Nat.reduceLeDiff, Nat.reduceSub, reduceCtorEq, reduceIte, b253_102, h0, e269v]
    exact hq
  · simp only [lv_args, z_v, z_lg, z_h, z_u, z_u1, z_c, z_ct, z_sk, sbne, lst1_d, ldel, lst2_d, ldel2, z_rok, zi, eq_self, List.map_cons, List.map_nil, List.append_nil, List.nil_append, List.cons_append, Int32.reduceLT, Int32.reduceLE, Int32.reduceAdd, Int32.reduceSub, Int32.reduceMul, Int32.reduceToInt, Int32.reduceToNatClampNeg, Int.reduceLT, Int.reduceLE, Int.reduceNeg, true_and, and_true, or_self, or_false, false_or, false_and, and_false, true_or, or_true, if_true, if_false, ne_eq, Classical.not_not, not_true_eq_false, not_false_eq_true, true_implies, false_implies, implies_true, Nat.reduceEqDiff, Nat.reduceAdd, Nat.reduceLeDiff, Nat.reduceSub, reduceCtorEq, reduceIte, b253_54]
    refine sw_at ?_
    have e : swL [(23, 92), (24, 102), (25, 112), (26, 122), (27, 144), (28, 164)] (nI (14 + 11)) 180 = 112 := rfl
    rw [e]
    simp only [lv_args, z_v, z_lg, z_h, z_u, z_u1, z_c, z_ct, z_sk, sbne, lst1_d, ldel, lst2_d, ldel2, z_sw, z_rok, zi, eq_self, List.map_cons, List.map_nil, List.append_nil, List.nil_append, List.cons_append, Int32.reduceLT, Int32.reduceLE, Int32.reduceAdd, Int32.reduceSub, Int32.reduceMul, Int32.reduceToInt, Int32.reduceToNatClampNeg, Int.reduceLT, Int.reduceLE, Int.reduceNeg, true_and, and_true, or_self, or_false, false_or, false_and, and_false, true_or, or_true, if_true, if_false, ne_eq, Classical.not_not, not_true_eq_false, not_false_eq_true, true_implies, false_implies, implies_true, Nat.reduceEqDiff, Nat.reduceAdd, Nat.reduceLeDiff, Nat.reduceSub, reduceCtorEq, reduceIte, b253_112, h0, e269v]
    exact hq
  · have eR : Rck 15 x.toInt32 y.toInt32 = vof 1 (if y.toInt32 = -1 then -x.toInt32 else x.toInt32 / y.toInt32) := rfl
    rw [eR] at hq
    simp only [lv_args, z_v, z_lg, z_h, z_u, z_u1, z_c, z_ct, z_sk, sbne, lst1_d, ldel, lst2_d, ldel2, z_rok, zi, eq_self, List.map_cons, List.map_nil, List.append_nil, List.nil_append, List.cons_append, Int32.reduceLT, Int32.reduceLE, Int32.reduceAdd, Int32.reduceSub, Int32.reduceMul, Int32.reduceToInt, Int32.reduceToNatClampNeg, Int.reduceLT, Int.reduceLE, Int.reduceNeg, true_and, and_true, or_self, or_false, false_or, false_and, and_false, true_or, or_true, if_true, if_false, ne_eq, Classical.not_not, not_true_eq_false, not_false_eq_true, true_implies, false_implies, implies_true, Nat.reduceEqDiff, Nat.reduceAdd, Nat.reduceLeDiff, Nat.reduceSub, reduceCtorEq, reduceIte, b253_54]
    refine sw_at ?_
    have e : swL [(23, 92), (24, 102), (25, 112), (26, 122), (27, 144), (28, 164)] (nI (15 + 11)) 180 = 122 := rfl
    rw [e]
    simp only [lv_args, z_v, z_lg, z_h, z_u, z_u1, z_c, z_ct, z_sk, sbne, lst1_d, ldel, lst2_d, ldel2, z_sw, z_rok, zi, eq_self, List.map_cons, List.map_nil, List.append_nil, List.nil_append, List.cons_append, Int32.reduceLT, Int32.reduceLE, Int32.reduceAdd, Int32.reduceSub, Int32.reduceMul, Int32.reduceToInt, Int32.reduceToNatClampNeg, Int.reduceLT, Int.reduceLE, Int.reduceNeg, true_and, and_true, or_self, or_false, false_or, false_and, and_false, true_or, or_true, if_true, if_false, ne_eq, Classical.not_not, not_true_eq_false, not_false_eq_true, true_implies, false_implies, implies_true, Nat.reduceEqDiff, Nat.reduceAdd, Nat.reduceLeDiff, Nat.reduceSub, reduceCtorEq, reduceIte, b253_122]
    refine ⟨fun c => ?_, fun c => ?_⟩
    · rw [if_neg c] at hq
      simp only [lv_args, z_v, z_lg, z_h, z_u, z_u1, z_c, z_ct, z_sk, sbne, lst1_d, ldel, lst2_d, ldel2, z_sw, z_rok, zi, eq_self, List.map_cons, List.map_nil, List.append_nil, List.nil_append, List.cons_append, Int32.reduceLT, Int32.reduceLE, Int32.reduceAdd, Int32.reduceSub, Int32.reduceMul, Int32.reduceToInt, Int32.reduceToNatClampNeg, Int.reduceLT, Int.reduceLE, Int.reduceNeg, true_and, and_true, or_self, or_false, false_or, false_and, and_false, true_or, or_true, if_true, if_false, ne_eq, Classical.not_not, not_true_eq_false, not_false_eq_true, true_implies, false_implies, implies_true, Nat.reduceEqDiff, Nat.reduceAdd, Nat.reduceLeDiff, Nat.reduceSub, reduceCtorEq, reduceIte, b253_135, b253_140, h0, e269v, hz (Or.inl rfl)]
      exact hq
    · rw [if_pos c] at hq
      simp only [lv_args, z_v, z_lg, z_h, z_u, z_u1, z_c, z_ct, z_sk, sbne, lst1_d, ldel, lst2_d, ldel2, z_sw, z_rok, zi, eq_self, List.map_cons, List.map_nil, List.append_nil, List.nil_append, List.cons_append, Int32.reduceLT, Int32.reduceLE, Int32.reduceAdd, Int32.reduceSub, Int32.reduceMul, Int32.reduceToInt, Int32.reduceToNatClampNeg, Int.reduceLT, Int.reduceLE, Int.reduceNeg, true_and, and_true, or_self, or_false, false_or, false_and, and_false, true_or, or_true, if_true, if_false, ne_eq, Classical.not_not, not_true_eq_false, not_false_eq_true, true_implies, false_implies, implies_true, Nat.reduceEqDiff, Nat.reduceAdd, Nat.reduceLeDiff, Nat.reduceSub, reduceCtorEq, reduceIte, b253_129, b253_140, h0, e269v]
      exact hq
  · have eR : Rck 16 x.toInt32 y.toInt32 = vof 1 (if y.toInt32 = -1 then 0 else x.toInt32 - x.toInt32 / y.toInt32 * y.toInt32) := rfl
    rw [eR] at hq
    simp only [lv_args, z_v, z_lg, z_h, z_u, z_u1, z_c, z_ct, z_sk, sbne, lst1_d, ldel, lst2_d, ldel2, z_rok, zi, eq_self, List.map_cons, List.map_nil, List.append_nil, List.nil_append, List.cons_append, Int32.reduceLT, Int32.reduceLE, Int32.reduceAdd, Int32.reduceSub, Int32.reduceMul, Int32.reduceToInt, Int32.reduceToNatClampNeg, Int.reduceLT, Int.reduceLE, Int.reduceNeg, true_and, and_true, or_self, or_false, false_or, false_and, and_false, true_or, or_true, if_true, if_false, ne_eq, Classical.not_not, not_true_eq_false, not_false_eq_true, true_implies, false_implies, implies_true, Nat.reduceEqDiff, Nat.reduceAdd, Nat.reduceLeDiff, Nat.reduceSub, reduceCtorEq, reduceIte, b253_54]
    refine sw_at ?_
    have e : swL [(23, 92), (24, 102), (25, 112), (26, 122), (27, 144), (28, 164)] (nI (16 + 11)) 180 = 144 := rfl
    rw [e]
    simp only [lv_args, z_v, z_lg, z_h, z_u, z_u1, z_c, z_ct, z_sk, sbne, lst1_d, ldel, lst2_d, ldel2, z_sw, z_rok, zi, eq_self, List.map_cons, List.map_nil, List.append_nil, List.nil_append, List.cons_append, Int32.reduceLT, Int32.reduceLE, Int32.reduceAdd, Int32.reduceSub, Int32.reduceMul, Int32.reduceToInt, Int32.reduceToNatClampNeg, Int.reduceLT, Int.reduceLE, Int.reduceNeg, true_and, and_true, or_self, or_false, false_or, false_and, and_false, true_or, or_true, if_true, if_false, ne_eq, Classical.not_not, not_true_eq_false, not_false_eq_true, true_implies, false_implies, implies_true, Nat.reduceEqDiff, Nat.reduceAdd, Nat.reduceLeDiff, Nat.reduceSub, reduceCtorEq, reduceIte, b253_144]
    refine ⟨fun c => ?_, fun c => ?_⟩
    · rw [if_neg c] at hq
      simp only [lv_args, z_v, z_lg, z_h, z_u, z_u1, z_c, z_ct, z_sk, sbne, lst1_d, ldel, lst2_d, ldel2, z_sw, z_rok, zi, eq_self, List.map_cons, List.map_nil, List.append_nil, List.nil_append, List.cons_append, Int32.reduceLT, Int32.reduceLE, Int32.reduceAdd, Int32.reduceSub, Int32.reduceMul, Int32.reduceToInt, Int32.reduceToNatClampNeg, Int.reduceLT, Int.reduceLE, Int.reduceNeg, true_and, and_true, or_self, or_false, false_or, false_and, and_false, true_or, or_true, if_true, if_false, ne_eq, Classical.not_not, not_true_eq_false, not_false_eq_true, true_implies, false_implies, implies_true, Nat.reduceEqDiff, Nat.reduceAdd, Nat.reduceLeDiff, Nat.reduceSub, reduceCtorEq, reduceIte, b253_155, b253_160, h0, e269v, hz (Or.inr rfl)]
      exact hq
    · rw [if_pos c] at hq
      simp only [lv_args, z_v, z_lg, z_h, z_u, z_u1, z_c, z_ct, z_sk, sbne, lst1_d, ldel, lst2_d, ldel2, z_sw, z_rok, zi, eq_self, List.map_cons, List.map_nil, List.append_nil, List.nil_append, List.cons_append, Int32.reduceLT, Int32.reduceLE, Int32.reduceAdd, Int32.reduceSub, Int32.reduceMul, Int32.reduceToInt, Int32.reduceToNatClampNeg, Int.reduceLT, Int.reduceLE, Int.reduceNeg, true_and, and_true, or_self, or_false, false_or, false_and, and_false, true_or, or_true, if_true, if_false, ne_eq, Classical.not_not, not_true_eq_false, not_false_eq_true, true_implies, false_implies, implies_true, Nat.reduceEqDiff, Nat.reduceAdd, Nat.reduceLeDiff, Nat.reduceSub, reduceCtorEq, reduceIte, b253_151, b253_160, h0, e269v]
      exact hq
  · have fin := tr_q (b := x.toInt32 == y.toInt32) beq_iff_eq hq
    simp only [lv_args, z_v, z_lg, z_h, z_u, z_u1, z_c, z_ct, z_sk, sbne, lst1_d, ldel, lst2_d, ldel2, z_rok, zi, eq_self, List.map_cons, List.map_nil, List.append_nil, List.nil_append, List.cons_append, Int32.reduceLT, Int32.reduceLE, Int32.reduceAdd, Int32.reduceSub, Int32.reduceMul, Int32.reduceToInt, Int32.reduceToNatClampNeg, Int.reduceLT, Int.reduceLE, Int.reduceNeg, true_and, and_true, or_self, or_false, false_or, false_and, and_false, true_or, or_true, if_true, if_false, ne_eq, Classical.not_not, not_true_eq_false, not_false_eq_true, true_implies, false_implies, implies_true, Nat.reduceEqDiff, Nat.reduceAdd, Nat.reduceLeDiff, Nat.reduceSub, reduceCtorEq, reduceIte, b253_54]
    refine sw_at ?_
    have e : swL [(23, 92), (24, 102), (25, 112), (26, 122), (27, 144), (28, 164)] (nI (17 + 11)) 180 = 164 := rfl
    rw [e]
    simp only [lv_args, z_v, z_lg, z_h, z_u, z_u1, z_c, z_ct, z_sk, sbne, lst1_d, ldel, lst2_d, ldel2, z_sw, z_rok, zi, eq_self, List.map_cons, List.map_nil, List.append_nil, List.nil_append, List.cons_append, Int32.reduceLT, Int32.reduceLE, Int32.reduceAdd, Int32.reduceSub, Int32.reduceMul, Int32.reduceToInt, Int32.reduceToNatClampNeg, Int.reduceLT, Int.reduceLE, Int.reduceNeg, true_and, and_true, or_self, or_false, false_or, false_and, and_false, true_or, or_true, if_true, if_false, ne_eq, Classical.not_not, not_true_eq_false, not_false_eq_true, true_implies, false_implies, implies_true, Nat.reduceEqDiff, Nat.reduceAdd, Nat.reduceLeDiff, Nat.reduceSub, reduceCtorEq, reduceIte, b253_164]
    refine ⟨fun c => ?_, fun c => ?_⟩
    · simp only [lv_args, z_v, z_lg, z_h, z_u, z_u1, z_c, z_ct, z_sk, sbne, lst1_d, ldel, lst2_d, ldel2, z_sw, z_rok, zi, eq_self, List.map_cons, List.map_nil, List.append_nil, List.nil_append, List.cons_append, Int32.reduceLT, Int32.reduceLE, Int32.reduceAdd, Int32.reduceSub, Int32.reduceMul, Int32.reduceToInt, Int32.reduceToNatClampNeg, Int.reduceLT, Int.reduceLE, Int.reduceNeg, true_and, and_true, or_self, or_false, false_or, false_and, and_false, true_or, or_true, if_true, if_false, ne_eq, Classical.not_not, not_true_eq_false, not_false_eq_true, true_implies, false_implies, implies_true, Nat.reduceEqDiff, Nat.reduceAdd, Nat.reduceLeDiff, Nat.reduceSub, reduceCtorEq, reduceIte, b253_175, b253_176, h0, e266]
      exact fin.1 c
    · simp only [lv_args, z_v, z_lg, z_h, z_u, z_u1, z_c, z_ct, z_sk, sbne, lst1_d, ldel, lst2_d, ldel2, z_sw, z_rok, zi, eq_self, List.map_cons, List.map_nil, List.append_nil, List.nil_append, List.cons_append, Int32.reduceLT, Int32.reduceLE, Int32.reduceAdd, Int32.reduceSub, Int32.reduceMul, Int32.reduceToInt, Int32.reduceToNatClampNeg, Int.reduceLT, Int.reduceLE, Int.reduceNeg, true_and, and_true, or_self, or_false, false_or, false_and, and_false, true_or, or_true, if_true, if_false, ne_eq, Classical.not_not, not_true_eq_false, not_false_eq_true, true_implies, false_implies, implies_true, Nat.reduceEqDiff, Nat.reduceAdd, Nat.reduceLeDiff, Nat.reduceSub, reduceCtorEq, reduceIte, b253_171, b253_176, h0, e266, z10]
      exact fin.2 c
  · have fin := tr_q (b := decide (x.toInt32 < y.toInt32)) decide_eq_true_iff hq
    simp only [lv_args, z_v, z_lg, z_h, z_u, z_u1, z_c, z_ct, z_sk, sbne, lst1_d, ldel, lst2_d, ldel2, z_rok, zi, eq_self, List.map_cons, List.map_nil, List.append_nil, List.nil_append, List.cons_append, Int32.reduceLT, Int32.reduceLE, Int32.reduceAdd, Int32.reduceSub, Int32.reduceMul, Int32.reduceToInt, Int32.reduceToNatClampNeg, Int.reduceLT, Int.reduceLE, Int.reduceNeg, true_and, and_true, or_self, or_false, false_or, false_and, and_false, true_or, or_true, if_true, if_false, ne_eq, Classical.not_not, not_true_eq_false, not_false_eq_true, true_implies, false_implies, implies_true, Nat.reduceEqDiff, Nat.reduceAdd, Nat.reduceLeDiff, Nat.reduceSub, reduceCtorEq, reduceIte, b253_54]
    refine sw_at ?_
    have e : swL [(23, 92), (24, 102), (25, 112), (26, 122), (27, 144), (28, 164)] (nI (18 + 11)) 180 = 180 := rfl
    rw [e]
    simp only [lv_args, z_v, z_lg, z_h, z_u, z_u1, z_c, z_ct, z_sk, sbne, lst1_d, ldel, lst2_d, ldel2, z_sw, z_rok, zi, eq_self, List.map_cons, List.map_nil, List.append_nil, List.nil_append, List.cons_append, Int32.reduceLT, Int32.reduceLE, Int32.reduceAdd, Int32.reduceSub, Int32.reduceMul, Int32.reduceToInt, Int32.reduceToNatClampNeg, Int.reduceLT, Int.reduceLE, Int.reduceNeg, true_and, and_true, or_self, or_false, false_or, false_and, and_false, true_or, or_true, if_true, if_false, ne_eq, Classical.not_not, not_true_eq_false, not_false_eq_true, true_implies, false_implies, implies_true, Nat.reduceEqDiff, Nat.reduceAdd, Nat.reduceLeDiff, Nat.reduceSub, reduceCtorEq, reduceIte, b253_180]
    refine ⟨fun c => ?_, fun c => ?_⟩
    · simp only [lv_args, z_v, z_lg, z_h, z_u, z_u1, z_c, z_ct, z_sk, sbne, lst1_d, ldel, lst2_d, ldel2, z_sw, z_rok, zi, eq_self, List.map_cons, List.map_nil, List.append_nil, List.nil_append, List.cons_append, Int32.reduceLT, Int32.reduceLE, Int32.reduceAdd, Int32.reduceSub, Int32.reduceMul, Int32.reduceToInt, Int32.reduceToNatClampNeg, Int.reduceLT, Int.reduceLE, Int.reduceNeg, true_and, and_true, or_self, or_false, false_or, false_and, and_false, true_or, or_true, if_true, if_false, ne_eq, Classical.not_not, not_true_eq_false, not_false_eq_true, true_implies, false_implies, implies_true, Nat.reduceEqDiff, Nat.reduceAdd, Nat.reduceLeDiff, Nat.reduceSub, reduceCtorEq, reduceIte, b253_191, b253_192, h0, e266]
      exact fin.1 (Int32.not_lt.mpr c)
    · simp only [lv_args, z_v, z_lg, z_h, z_u, z_u1, z_c, z_ct, z_sk, sbne, lst1_d, ldel, lst2_d, ldel2, z_sw, z_rok, zi, eq_self, List.map_cons, List.map_nil, List.append_nil, List.nil_append, List.cons_append, Int32.reduceLT, Int32.reduceLE, Int32.reduceAdd, Int32.reduceSub, Int32.reduceMul, Int32.reduceToInt, Int32.reduceToNatClampNeg, Int.reduceLT, Int.reduceLE, Int.reduceNeg, true_and, and_true, or_self, or_false, false_or, false_and, and_false, true_or, or_true, if_true, if_false, ne_eq, Classical.not_not, not_true_eq_false, not_false_eq_true, true_implies, false_implies, implies_true, Nat.reduceEqDiff, Nat.reduceAdd, Nat.reduceLeDiff, Nat.reduceSub, reduceCtorEq, reduceIte, b253_187, b253_192, h0, e266, z10]
      exact fin.2 (Int32.not_le.mp c)
theorem sp_reckE {e3 : Int32} (s : Sk h) (hf : 12 ≤ f) (hf2 : f ≤ 18) (hd : 1 < d) (hc : ((vkd x ≠ 1 ∨ vkd y ≠ 1) ∧ e3 = 3) ∨ ((f = 15 ∨ f = 16) ∧ vkd x = 1 ∧ vkd y = 1 ∧ y.toInt32 = 0 ∧ e3 = 4)) (hq : Q (some (.long 0)) (pI h 59 68 e3)) : aEv d 253 [.ref 59, .int (nI (f + 11)), .long x, .long y] h Q := by
  have h0 : 0 < d := by omega
  have h01 : 0 < d - 1 := by omega
  have z10 : ¬ (1 : Int32) = 0 := by decide
  have z26 : (26 : Int32) = nI 26 := rfl
  have z27 : (27 : Int32) = nI 27 := rfl
  unfold aEv
  rcases hc with ⟨hc, rfl⟩ | ⟨hf3, hx, hy, hz, rfl⟩
  · by_cases cx : vkd x = 1
    · have cy : ¬ vkd y = 1 := hc.resolve_left (fun c => c cx)
      simp only [lv_args, z_v, z_lg, z_h, z_u, z_u1, z_c, z_ct, z_sk, sbne, lst1_d, ldel, lst2_d, ldel2, z_sw, z_rok, zi, eq_self, List.map_cons, List.map_nil, List.append_nil, List.nil_append, List.cons_append, Int32.reduceLT, Int32.reduceLE, Int32.reduceAdd, Int32.reduceSub, Int32.reduceMul, Int32.reduceToInt, Int32.reduceToNatClampNeg, Int.reduceLT, Int.reduceLE, Int.reduceNeg, true_and, and_true, or_self, or_false, false_or, false_and, and_false, true_or, or_true, if_true, if_false, ne_eq, Classical.not_not, not_true_eq_false, not_false_eq_true, true_implies, false_implies, implies_true, Nat.reduceEqDiff, Nat.reduceAdd, Nat.reduceLeDiff, Nat.reduceSub, reduceCtorEq, reduceIte, b253_0, skM s, h0, h01, e181_59 _ _ s, kd_s, cx, cy]
      simp only [lv_args, z_v, z_lg, z_h, z_u, z_u1, z_c, z_ct, z_sk, sbne, lst1_d, ldel, lst2_d, ldel2, z_sw, z_rok, zi, eq_self, List.map_cons, List.map_nil, List.append_nil, List.nil_append, List.cons_append, Int32.reduceLT, Int32.reduceLE, Int32.reduceAdd, Int32.reduceSub, Int32.reduceMul, Int32.reduceToInt, Int32.reduceToNatClampNeg, Int.reduceLT, Int.reduceLE, Int.reduceNeg, true_and, and_true, or_self, or_false, false_or, false_and, and_false, true_or, or_true, if_true, if_false, ne_eq, Classical.not_not, not_true_eq_false, not_false_eq_true, true_implies, false_implies, implies_true, Nat.reduceEqDiff, Nat.reduceAdd, Nat.reduceLeDiff, Nat.reduceSub, reduceCtorEq, reduceIte, b253_10, skM s]
      exact hq
    · simp only [lv_args, z_v, z_lg, z_h, z_u, z_u1, z_c, z_ct, z_sk, sbne, lst1_d, ldel, lst2_d, ldel2, z_sw, z_rok, zi, eq_self, List.map_cons, List.map_nil, List.append_nil, List.nil_append, List.cons_append, Int32.reduceLT, Int32.reduceLE, Int32.reduceAdd, Int32.reduceSub, Int32.reduceMul, Int32.reduceToInt, Int32.reduceToNatClampNeg, Int.reduceLT, Int.reduceLE, Int.reduceNeg, true_and, and_true, or_self, or_false, false_or, false_and, and_false, true_or, or_true, if_true, if_false, ne_eq, Classical.not_not, not_true_eq_false, not_false_eq_true, true_implies, false_implies, implies_true, Nat.reduceEqDiff, Nat.reduceAdd, Nat.reduceLeDiff, Nat.reduceSub, reduceCtorEq, reduceIte, b253_0, skM s, h0, h01, e181_59 _ _ s, kd_s, cx]
      simp only [lv_args, z_v, z_lg, z_h, z_u, z_u1, z_c, z_ct, z_sk, sbne, lst1_d, ldel, lst2_d, ldel2, z_sw, z_rok, zi, eq_self, List.map_cons, List.map_nil, List.append_nil, List.nil_append, List.cons_append, Int32.reduceLT, Int32.reduceLE, Int32.reduceAdd, Int32.reduceSub, Int32.reduceMul, Int32.reduceToInt, Int32.reduceToNatClampNeg, Int.reduceLT, Int.reduceLE, Int.reduceNeg, true_and, and_true, or_self, or_false, false_or, false_and, and_false, true_or, or_true, if_true, if_false, ne_eq, Classical.not_not, not_true_eq_false, not_false_eq_true, true_implies, false_implies, implies_true, Nat.reduceEqDiff, Nat.reduceAdd, Nat.reduceLeDiff, Nat.reduceSub, reduceCtorEq, reduceIte, b253_10, skM s]
      exact hq
  · simp only [lv_args, z_v, z_lg, z_h, z_u, z_u1, z_c, z_ct, z_sk, sbne, lst1_d, ldel, lst2_d, ldel2, z_sw, z_rok, zi, eq_self, List.map_cons, List.map_nil, List.append_nil, List.nil_append, List.cons_append, Int32.reduceLT, Int32.reduceLE, Int32.reduceAdd, Int32.reduceSub, Int32.reduceMul, Int32.reduceToInt, Int32.reduceToNatClampNeg, Int.reduceLT, Int.reduceLE, Int.reduceNeg, true_and, and_true, or_self, or_false, false_or, false_and, and_false, true_or, or_true, if_true, if_false, ne_eq, Classical.not_not, not_true_eq_false, not_false_eq_true, true_implies, false_implies, implies_true, Nat.reduceEqDiff, Nat.reduceAdd, Nat.reduceLeDiff, Nat.reduceSub, reduceCtorEq, reduceIte, b253_0, skM s, h0, h01, e181_59 _ _ s, kd_s, hx, hy, z10]
    simp only [lv_args, z_v, z_lg, z_h, z_u, z_u1, z_c, z_ct, z_sk, sbne, lst1_d, ldel, lst2_d, ldel2, z_sw, z_rok, zi, eq_self, List.map_cons, List.map_nil, List.append_nil, List.nil_append, List.cons_append, Int32.reduceLT, Int32.reduceLE, Int32.reduceAdd, Int32.reduceSub, Int32.reduceMul, Int32.reduceToInt, Int32.reduceToNatClampNeg, Int.reduceLT, Int.reduceLE, Int.reduceNeg, true_and, and_true, or_self, or_false, false_or, false_and, and_false, true_or, or_true, if_true, if_false, ne_eq, Classical.not_not, not_true_eq_false, not_false_eq_true, true_implies, false_implies, implies_true, Nat.reduceEqDiff, Nat.reduceAdd, Nat.reduceLeDiff, Nat.reduceSub, reduceCtorEq, reduceIte, b253_17, skM s, h0, e272, z26]
    simp (disch := omega) only [nI_eqN]
    refine ⟨fun c => ?_, fun c => ?_⟩
    · simp only [lv_args, z_v, z_lg, z_h, z_u, z_u1, z_c, z_ct, z_sk, sbne, lst1_d, ldel, lst2_d, ldel2, z_sw, z_rok, zi, eq_self, List.map_cons, List.map_nil, List.append_nil, List.nil_append, List.cons_append, Int32.reduceLT, Int32.reduceLE, Int32.reduceAdd, Int32.reduceSub, Int32.reduceMul, Int32.reduceToInt, Int32.reduceToNatClampNeg, Int.reduceLT, Int.reduceLE, Int.reduceNeg, true_and, and_true, or_self, or_false, false_or, false_and, and_false, true_or, or_true, if_true, if_false, ne_eq, Classical.not_not, not_true_eq_false, not_false_eq_true, true_implies, false_implies, implies_true, Nat.reduceEqDiff, Nat.reduceAdd, Nat.reduceLeDiff, Nat.reduceSub, reduceCtorEq, reduceIte, b253_42, hz]
      simp only [lv_args, z_v, z_lg, z_h, z_u, z_u1, z_c, z_ct, z_sk, sbne, lst1_d, ldel, lst2_d, ldel2, z_sw, z_rok, zi, eq_self, List.map_cons, List.map_nil, List.append_nil, List.nil_append, List.cons_append, Int32.reduceLT, Int32.reduceLE, Int32.reduceAdd, Int32.reduceSub, Int32.reduceMul, Int32.reduceToInt, Int32.reduceToNatClampNeg, Int.reduceLT, Int.reduceLE, Int.reduceNeg, true_and, and_true, or_self, or_false, false_or, false_and, and_false, true_or, or_true, if_true, if_false, ne_eq, Classical.not_not, not_true_eq_false, not_false_eq_true, true_implies, false_implies, implies_true, Nat.reduceEqDiff, Nat.reduceAdd, Nat.reduceLeDiff, Nat.reduceSub, reduceCtorEq, reduceIte, b253_47, skM s]
      exact hq
    · simp only [lv_args, z_v, z_lg, z_h, z_u, z_u1, z_c, z_ct, z_sk, sbne, lst1_d, ldel, lst2_d, ldel2, z_sw, z_rok, zi, eq_self, List.map_cons, List.map_nil, List.append_nil, List.nil_append, List.cons_append, Int32.reduceLT, Int32.reduceLE, Int32.reduceAdd, Int32.reduceSub, Int32.reduceMul, Int32.reduceToInt, Int32.reduceToNatClampNeg, Int.reduceLT, Int.reduceLE, Int.reduceNeg, true_and, and_true, or_self, or_false, false_or, false_and, and_false, true_or, or_true, if_true, if_false, ne_eq, Classical.not_not, not_true_eq_false, not_false_eq_true, true_implies, false_implies, implies_true, Nat.reduceEqDiff, Nat.reduceAdd, Nat.reduceLeDiff, Nat.reduceSub, reduceCtorEq, reduceIte, b253_36, z27]
      simp (disch := omega) only [nI_eqN]
      refine ⟨fun c => absurd (by omega) c, fun c => ?_⟩
      simp only [lv_args, z_v, z_lg, z_h, z_u, z_u1, z_c, z_ct, z_sk, sbne, lst1_d, ldel, lst2_d, ldel2, z_sw, z_rok, zi, eq_self, List.map_cons, List.map_nil, List.append_nil, List.nil_append, List.cons_append, Int32.reduceLT, Int32.reduceLE, Int32.reduceAdd, Int32.reduceSub, Int32.reduceMul, Int32.reduceToInt, Int32.reduceToNatClampNeg, Int.reduceLT, Int.reduceLE, Int.reduceNeg, true_and, and_true, or_self, or_false, false_or, false_and, and_false, true_or, or_true, if_true, if_false, ne_eq, Classical.not_not, not_true_eq_false, not_false_eq_true, true_implies, false_implies, implies_true, Nat.reduceEqDiff, Nat.reduceAdd, Nat.reduceLeDiff, Nat.reduceSub, reduceCtorEq, reduceIte, b253_42, hz]
      simp only [lv_args, z_v, z_lg, z_h, z_u, z_u1, z_c, z_ct, z_sk, sbne, lst1_d, ldel, lst2_d, ldel2, z_sw, z_rok, zi, eq_self, List.map_cons, List.map_nil, List.append_nil, List.nil_append, List.cons_append, Int32.reduceLT, Int32.reduceLE, Int32.reduceAdd, Int32.reduceSub, Int32.reduceMul, Int32.reduceToInt, Int32.reduceToNatClampNeg, Int.reduceLT, Int.reduceLE, Int.reduceNeg, true_and, and_true, or_self, or_false, false_or, false_and, and_false, true_or, or_true, if_true, if_false, ne_eq, Classical.not_not, not_true_eq_false, not_false_eq_true, true_implies, false_implies, implies_true, Nat.reduceEqDiff, Nat.reduceAdd, Nat.reduceLeDiff, Nat.reduceSub, reduceCtorEq, reduceIte, b253_47, skM s]
      exact hq
end REX
