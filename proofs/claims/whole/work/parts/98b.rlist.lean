/-! BUILD. Data taken, lists begun, quotes that end -/
section RLS
variable {h h' : Hp} {Q : Option Value → Hp → Prop} {d : Nat} {N : NS} {stk : List SE} {K : List KY} {mt : List Nat}
theorem rsk_pop {e e' : SE} {l : List SE} (r : RSk (e :: e' :: l) h) : RSk (e' :: l) (pI h 3 11 (nI l.length)) := by
  obtain ⟨q1, q2, q3⟩ := r
  refine ⟨by simp only [List.length_cons] at q1 ⊢; omega, rfl, fun j y hj => q3 j y ?_⟩
  rw [List.reverse_cons]
  exact g_app hj
/-- in no list that a quote began: the row itself -/
theorem sp_inQ0 {e : SE} (s : Sk h) (rs : RSk [e] h) (hq : Q (some (.int 0)) h) : aEv d 288 [.ref 3] h Q := by
  have q2 : hI h 3 11 = 0 := rs.2.1
  have c0 : ((0 : Int32) ≤ 0) = True := eq_true (by decide)
  unfold aEv
  simp only [lv_args, z_v, z_lg, z_h, z_u, z_u1, z_c, z_ct, z_sk, sbne, lst1_d, ldel, lst2_d, ldel2, z_sw, z_rok, zi, eq_self, List.map_cons, List.map_nil, List.append_nil, List.nil_append, List.cons_append, Int32.reduceLT, Int32.reduceLE, Int32.reduceAdd, Int32.reduceSub, Int32.reduceMul, Int32.reduceToInt, Int32.reduceToNatClampNeg, Int.reduceLT, Int.reduceLE, Int.reduceNeg, true_and, and_true, or_self, or_false, false_or, false_and, and_false, true_or, or_true, if_true, if_false, ne_eq, Classical.not_not, not_true_eq_false, not_false_eq_true, true_implies, false_implies, implies_true, Nat.reduceEqDiff, Nat.reduceAdd, Nat.reduceLeDiff, Nat.reduceSub, reduceCtorEq, reduceIte, b288_0, skX s, q2, c0]
  simp only [lv_args, z_v, z_lg, z_h, z_u, z_u1, z_c, z_ct, z_sk, sbne, lst1_d, ldel, lst2_d, ldel2, z_sw, z_rok, zi, eq_self, List.map_cons, List.map_nil, List.append_nil, List.nil_append, List.cons_append, Int32.reduceLT, Int32.reduceLE, Int32.reduceAdd, Int32.reduceSub, Int32.reduceMul, Int32.reduceToInt, Int32.reduceToNatClampNeg, Int.reduceLT, Int.reduceLE, Int.reduceNeg, true_and, and_true, or_self, or_false, false_or, false_and, and_false, true_or, or_true, if_true, if_false, ne_eq, Classical.not_not, not_true_eq_false, not_false_eq_true, true_implies, false_implies, implies_true, Nat.reduceEqDiff, Nat.reduceAdd, Nat.reduceLeDiff, Nat.reduceSub, reduceCtorEq, reduceIte, b288_32, b288_33]
  exact hq
theorem sp_inQ1 {e e' : SE} {l : List SE} (s : Sk h) (h17 : hN h 17 = 31) (rs : RSk (e :: e' :: l) h) (hq : Q (some (.int (if e.2.2 = true then 1 else 0))) h) : aEv d 288 [.ref 3] h Q := by
  have q2 : hI h 3 11 = nI (l.length + 1) := rs.2.1
  have hl : l.length + 2 ≤ 31 := rs.1
  have z30 : (30 : Int32) = nI 30 := rfl
  have c0 : (nI (l.length + 1) ≤ 0) = False := by rw [le_0N (by omega)]; exact eq_false (by omega)
  have c1 : (nI 30 < nI (l.length + 1)) = False := by rw [nI_ltN (by omega) (by omega)]; exact eq_false (by omega)
  have t3 := (rs.2.2 (l.length + 1) e rev_last).2.2
  unfold aEv
  simp only [lv_args, z_v, z_lg, z_h, z_u, z_u1, z_c, z_ct, z_sk, sbne, lst1_d, ldel, lst2_d, ldel2, z_sw, z_rok, zi, eq_self, List.map_cons, List.map_nil, List.append_nil, List.nil_append, List.cons_append, Int32.reduceLT, Int32.reduceLE, Int32.reduceAdd, Int32.reduceSub, Int32.reduceMul, Int32.reduceToInt, Int32.reduceToNatClampNeg, Int.reduceLT, Int.reduceLE, Int.reduceNeg, true_and, and_true, or_self, or_false, false_or, false_and, and_false, true_or, or_true, if_true, if_false, ne_eq, Classical.not_not, not_true_eq_false, not_false_eq_true, true_implies, false_implies, implies_true, Nat.reduceEqDiff, Nat.reduceAdd, Nat.reduceLeDiff, Nat.reduceSub, reduceCtorEq, reduceIte, b288_0, skX s, q2, c0]
  simp only [lv_args, z_v, z_lg, z_h, z_u, z_u1, z_c, z_ct, z_sk, sbne, lst1_d, ldel, lst2_d, ldel2, z_sw, z_rok, zi, eq_self, List.map_cons, List.map_nil, List.append_nil, List.nil_append, List.cons_append, Int32.reduceLT, Int32.reduceLE, Int32.reduceAdd, Int32.reduceSub, Int32.reduceMul, Int32.reduceToInt, Int32.reduceToNatClampNeg, Int.reduceLT, Int.reduceLE, Int.reduceNeg, true_and, and_true, or_self, or_false, false_or, false_and, and_false, true_or, or_true, if_true, if_false, ne_eq, Classical.not_not, not_true_eq_false, not_false_eq_true, true_implies, false_implies, implies_true, Nat.reduceEqDiff, Nat.reduceAdd, Nat.reduceLeDiff, Nat.reduceSub, reduceCtorEq, reduceIte, b288_7, skX s, q2, z30, c1]
  simp only [lv_args, z_v, z_lg, z_h, z_u, z_u1, z_c, z_ct, z_sk, sbne, lst1_d, ldel, lst2_d, ldel2, z_sw, z_rok, zi, eq_self, List.map_cons, List.map_nil, List.append_nil, List.nil_append, List.cons_append, Int32.reduceLT, Int32.reduceLE, Int32.reduceAdd, Int32.reduceSub, Int32.reduceMul, Int32.reduceToInt, Int32.reduceToNatClampNeg, Int.reduceLT, Int.reduceLE, Int.reduceNeg, true_and, and_true, or_self, or_false, false_or, false_and, and_false, true_or, or_true, if_true, if_false, ne_eq, Classical.not_not, not_true_eq_false, not_false_eq_true, true_implies, false_implies, implies_true, Nat.reduceEqDiff, Nat.reduceAdd, Nat.reduceLeDiff, Nat.reduceSub, reduceCtorEq, reduceIte, b288_16, skX s, srX s, q2, h17]
  simp (disch := omega) only [nI_ti, nI_cl, le0N, ltNN, t3, true_and]
  refine ⟨by omega, ?_⟩
  try simp only [lv_args, z_v, z_lg, z_h, z_u, z_u1, z_c, z_ct, z_sk, sbne, lst1_d, ldel, lst2_d, ldel2, z_sw, z_rok, zi, eq_self, List.map_cons, List.map_nil, List.append_nil, List.nil_append, List.cons_append, Int32.reduceLT, Int32.reduceLE, Int32.reduceAdd, Int32.reduceSub, Int32.reduceMul, Int32.reduceToInt, Int32.reduceToNatClampNeg, Int.reduceLT, Int.reduceLE, Int.reduceNeg, true_and, and_true, or_self, or_false, false_or, false_and, and_false, true_or, or_true, if_true, if_false, ne_eq, Classical.not_not, not_true_eq_false, not_false_eq_true, true_implies, false_implies, implies_true, Nat.reduceEqDiff, Nat.reduceAdd, Nat.reduceLeDiff, Nat.reduceSub, reduceCtorEq, reduceIte, b288_16]
  by_cases cb : e.2.2 = true
  · rw [if_pos cb] at hq
    rw [if_pos cb]
    have z10 : ¬ (1 : Int32) = 0 := by decide
    simp only [z10, false_imp_iff, not_false_eq_true, true_imp_iff, true_and]
    simp only [lv_args, z_v, z_lg, z_h, z_u, z_u1, z_c, z_ct, z_sk, sbne, lst1_d, ldel, lst2_d, ldel2, z_sw, z_rok, zi, eq_self, List.map_cons, List.map_nil, List.append_nil, List.nil_append, List.cons_append, Int32.reduceLT, Int32.reduceLE, Int32.reduceAdd, Int32.reduceSub, Int32.reduceMul, Int32.reduceToInt, Int32.reduceToNatClampNeg, Int.reduceLT, Int.reduceLE, Int.reduceNeg, true_and, and_true, or_self, or_false, false_or, false_and, and_false, true_or, or_true, if_true, if_false, ne_eq, Classical.not_not, not_true_eq_false, not_false_eq_true, true_implies, false_implies, implies_true, Nat.reduceEqDiff, Nat.reduceAdd, Nat.reduceLeDiff, Nat.reduceSub, reduceCtorEq, reduceIte, b288_28, b288_33]
    exact hq
  · rw [if_neg cb] at hq
    rw [if_neg cb]
    simp only [true_imp_iff, not_true_eq_false, false_imp_iff, and_true]
    simp only [lv_args, z_v, z_lg, z_h, z_u, z_u1, z_c, z_ct, z_sk, sbne, lst1_d, ldel, lst2_d, ldel2, z_sw, z_rok, zi, eq_self, List.map_cons, List.map_nil, List.append_nil, List.nil_append, List.cons_append, Int32.reduceLT, Int32.reduceLE, Int32.reduceAdd, Int32.reduceSub, Int32.reduceMul, Int32.reduceToInt, Int32.reduceToNatClampNeg, Int.reduceLT, Int.reduceLE, Int.reduceNeg, true_and, and_true, or_self, or_false, false_or, false_and, and_false, true_or, or_true, if_true, if_false, ne_eq, Classical.not_not, not_true_eq_false, not_false_eq_true, true_implies, false_implies, implies_true, Nat.reduceEqDiff, Nat.reduceAdd, Nat.reduceLeDiff, Nat.reduceSub, reduceCtorEq, reduceIte, b288_32, b288_33]
    exact hq
theorem cq_loop {n17 : Nat} (hd : 0 < d) (hn : n17 = 31) : ∀ (l : List SE) (i : Nat) (h : Hp), l ≠ [] → Sk h → hN h 17 = n17 → RNs N h → RSk l h → i + l.length ≤ 31 → (∀ h', RNs N h' → RSk (cq l) h' → FrR h h' → Q none h') → aWP d 114 2 [(1, .int (nI i)), (0, .ref 3)] [] h Q := by
  intro l
  have z30 : (30 : Int32) = nI 30 := rfl
  induction l with
  | nil => intro i h hne; exact absurd rfl hne
  | cons e l ih =>
    intro i h _ s h17 rn rs hi hq
    have q2 : hI h 3 11 = nI l.length := rs.2.1
    have hl : l.length + 1 ≤ 31 := rs.1
    simp only [List.length_cons] at hi
    cases l with
    | nil =>
      have fin := hq h rn rs frr_rf
      simp only [lv_args, z_v, z_lg, z_h, z_u, z_u1, z_c, z_ct, z_sk, sbne, lst1_d, ldel, lst2_d, ldel2, z_sw, z_rok, zi, eq_self, List.map_cons, List.map_nil, List.append_nil, List.nil_append, List.cons_append, Int32.reduceLT, Int32.reduceLE, Int32.reduceAdd, Int32.reduceSub, Int32.reduceMul, Int32.reduceToInt, Int32.reduceToNatClampNeg, Int.reduceLT, Int.reduceLE, Int.reduceNeg, true_and, and_true, or_self, or_false, false_or, false_and, and_false, true_or, or_true, if_true, if_false, ne_eq, Classical.not_not, not_true_eq_false, not_false_eq_true, true_implies, false_implies, implies_true, Nat.reduceEqDiff, Nat.reduceAdd, Nat.reduceLeDiff, Nat.reduceSub, reduceCtorEq, reduceIte, b114_2, z30]
      simp (disch := omega) only [nI_leN]
      refine ⟨fun _ => ?_, fun _ => ?_⟩
      · simp only [lv_args, z_v, z_lg, z_h, z_u, z_u1, z_c, z_ct, z_sk, sbne, lst1_d, ldel, lst2_d, ldel2, z_sw, z_rok, zi, eq_self, List.map_cons, List.map_nil, List.append_nil, List.nil_append, List.cons_append, Int32.reduceLT, Int32.reduceLE, Int32.reduceAdd, Int32.reduceSub, Int32.reduceMul, Int32.reduceToInt, Int32.reduceToNatClampNeg, Int.reduceLT, Int.reduceLE, Int.reduceNeg, true_and, and_true, or_self, or_false, false_or, false_and, and_false, true_or, or_true, if_true, if_false, ne_eq, Classical.not_not, not_true_eq_false, not_false_eq_true, true_implies, false_implies, implies_true, Nat.reduceEqDiff, Nat.reduceAdd, Nat.reduceLeDiff, Nat.reduceSub, reduceCtorEq, reduceIte, b114_31]
        exact fin
      · simp only [lv_args, z_v, z_lg, z_h, z_u, z_u1, z_c, z_ct, z_sk, sbne, lst1_d, ldel, lst2_d, ldel2, z_sw, z_rok, zi, eq_self, List.map_cons, List.map_nil, List.append_nil, List.nil_append, List.cons_append, Int32.reduceLT, Int32.reduceLE, Int32.reduceAdd, Int32.reduceSub, Int32.reduceMul, Int32.reduceToInt, Int32.reduceToNatClampNeg, Int.reduceLT, Int.reduceLE, Int.reduceNeg, true_and, and_true, or_self, or_false, false_or, false_and, and_false, true_or, or_true, if_true, if_false, ne_eq, Classical.not_not, not_true_eq_false, not_false_eq_true, true_implies, false_implies, implies_true, Nat.reduceEqDiff, Nat.reduceAdd, Nat.reduceLeDiff, Nat.reduceSub, reduceCtorEq, reduceIte, b114_8, skX s, hd]
        refine sp_inQ0 s rs ?_
        simp only [lv_args, z_v, z_lg, z_h, z_u, z_u1, z_c, z_ct, z_sk, sbne, lst1_d, ldel, lst2_d, ldel2, z_sw, z_rok, zi, eq_self, List.map_cons, List.map_nil, List.append_nil, List.nil_append, List.cons_append, Int32.reduceLT, Int32.reduceLE, Int32.reduceAdd, Int32.reduceSub, Int32.reduceMul, Int32.reduceToInt, Int32.reduceToNatClampNeg, Int.reduceLT, Int.reduceLE, Int.reduceNeg, true_and, and_true, or_self, or_false, false_or, false_and, and_false, true_or, or_true, if_true, if_false, ne_eq, Classical.not_not, not_true_eq_false, not_false_eq_true, true_implies, false_implies, implies_true, Nat.reduceEqDiff, Nat.reduceAdd, Nat.reduceLeDiff, Nat.reduceSub, reduceCtorEq, reduceIte, b114_8, skX s]
        simp only [lv_args, z_v, z_lg, z_h, z_u, z_u1, z_c, z_ct, z_sk, sbne, lst1_d, ldel, lst2_d, ldel2, z_sw, z_rok, zi, eq_self, List.map_cons, List.map_nil, List.append_nil, List.nil_append, List.cons_append, Int32.reduceLT, Int32.reduceLE, Int32.reduceAdd, Int32.reduceSub, Int32.reduceMul, Int32.reduceToInt, Int32.reduceToNatClampNeg, Int.reduceLT, Int.reduceLE, Int.reduceNeg, true_and, and_true, or_self, or_false, false_or, false_and, and_false, true_or, or_true, if_true, if_false, ne_eq, Classical.not_not, not_true_eq_false, not_false_eq_true, true_implies, false_implies, implies_true, Nat.reduceEqDiff, Nat.reduceAdd, Nat.reduceLeDiff, Nat.reduceSub, reduceCtorEq, reduceIte, b114_31]
        exact fin
    | cons e' l =>
      have q2 : hI h 3 11 = nI (l.length + 1) := q2
      have hl : l.length + 2 ≤ 31 := hl
      simp only [List.length_cons] at hi
      simp only [lv_args, z_v, z_lg, z_h, z_u, z_u1, z_c, z_ct, z_sk, sbne, lst1_d, ldel, lst2_d, ldel2, z_sw, z_rok, zi, eq_self, List.map_cons, List.map_nil, List.append_nil, List.nil_append, List.cons_append, Int32.reduceLT, Int32.reduceLE, Int32.reduceAdd, Int32.reduceSub, Int32.reduceMul, Int32.reduceToInt, Int32.reduceToNatClampNeg, Int.reduceLT, Int.reduceLE, Int.reduceNeg, true_and, and_true, or_self, or_false, false_or, false_and, and_false, true_or, or_true, if_true, if_false, ne_eq, Classical.not_not, not_true_eq_false, not_false_eq_true, true_implies, false_implies, implies_true, Nat.reduceEqDiff, Nat.reduceAdd, Nat.reduceLeDiff, Nat.reduceSub, reduceCtorEq, reduceIte, b114_2, z30]
      simp (disch := omega) only [nI_leN]
      refine ⟨fun c => absurd c (by omega), fun _ => ?_⟩
      simp only [lv_args, z_v, z_lg, z_h, z_u, z_u1, z_c, z_ct, z_sk, sbne, lst1_d, ldel, lst2_d, ldel2, z_sw, z_rok, zi, eq_self, List.map_cons, List.map_nil, List.append_nil, List.nil_append, List.cons_append, Int32.reduceLT, Int32.reduceLE, Int32.reduceAdd, Int32.reduceSub, Int32.reduceMul, Int32.reduceToInt, Int32.reduceToNatClampNeg, Int.reduceLT, Int.reduceLE, Int.reduceNeg, true_and, and_true, or_self, or_false, false_or, false_and, and_false, true_or, or_true, if_true, if_false, ne_eq, Classical.not_not, not_true_eq_false, not_false_eq_true, true_implies, false_implies, implies_true, Nat.reduceEqDiff, Nat.reduceAdd, Nat.reduceLeDiff, Nat.reduceSub, reduceCtorEq, reduceIte, b114_8, skX s, hd]
      refine sp_inQ1 s (h17.trans hn) rs ?_
      simp only [lv_args, z_v, z_lg, z_h, z_u, z_u1, z_c, z_ct, z_sk, sbne, lst1_d, ldel, lst2_d, ldel2, z_sw, z_rok, zi, eq_self, List.map_cons, List.map_nil, List.append_nil, List.nil_append, List.cons_append, Int32.reduceLT, Int32.reduceLE, Int32.reduceAdd, Int32.reduceSub, Int32.reduceMul, Int32.reduceToInt, Int32.reduceToNatClampNeg, Int.reduceLT, Int.reduceLE, Int.reduceNeg, true_and, and_true, or_self, or_false, false_or, false_and, and_false, true_or, or_true, if_true, if_false, ne_eq, Classical.not_not, not_true_eq_false, not_false_eq_true, true_implies, false_implies, implies_true, Nat.reduceEqDiff, Nat.reduceAdd, Nat.reduceLeDiff, Nat.reduceSub, reduceCtorEq, reduceIte, b114_8, skX s]
      by_cases cb : e.2.2 = true
      · have e1 : cq (e :: e' :: l) = cq (e' :: l) := if_pos cb
        rw [e1] at hq
        rw [if_pos cb]
        have z10 : ¬ (1 : Int32) = 0 := by decide
        simp only [z10, false_imp_iff, not_false_eq_true, true_imp_iff, true_and]
        simp only [lv_args, z_v, z_lg, z_h, z_u, z_u1, z_c, z_ct, z_sk, sbne, lst1_d, ldel, lst2_d, ldel2, z_sw, z_rok, zi, eq_self, List.map_cons, List.map_nil, List.append_nil, List.nil_append, List.cons_append, Int32.reduceLT, Int32.reduceLE, Int32.reduceAdd, Int32.reduceSub, Int32.reduceMul, Int32.reduceToInt, Int32.reduceToNatClampNeg, Int.reduceLT, Int.reduceLE, Int.reduceNeg, true_and, and_true, or_self, or_false, false_or, false_and, and_false, true_or, or_true, if_true, if_false, ne_eq, Classical.not_not, not_true_eq_false, not_false_eq_true, true_implies, false_implies, implies_true, Nat.reduceEqDiff, Nat.reduceAdd, Nat.reduceLeDiff, Nat.reduceSub, reduceCtorEq, reduceIte, b114_15, skX s, q2, nI_m1, nI_1]
        refine ih (i + 1) (pI h 3 11 (nI l.length)) (by simp) (sk_u1 s) h17 rn (rsk_pop rs) (by simp only [List.length_cons]; omega) (fun h' a b c => hq h' a b (frr_tr (h1 := pI h 3 11 (nI l.length)) ⟨rfl, rfl, rfl, rfl, rfl, rfl, fun a i c => up2_ne (by omega), rfl, fun _ _ => rfl, rfl⟩ c))
      · have e1 : cq (e :: e' :: l) = e :: e' :: l := if_neg cb
        rw [e1] at hq
        rw [if_neg cb]
        simp only [true_imp_iff, not_true_eq_false, false_imp_iff, and_true]
        simp only [lv_args, z_v, z_lg, z_h, z_u, z_u1, z_c, z_ct, z_sk, sbne, lst1_d, ldel, lst2_d, ldel2, z_sw, z_rok, zi, eq_self, List.map_cons, List.map_nil, List.append_nil, List.nil_append, List.cons_append, Int32.reduceLT, Int32.reduceLE, Int32.reduceAdd, Int32.reduceSub, Int32.reduceMul, Int32.reduceToInt, Int32.reduceToNatClampNeg, Int.reduceLT, Int.reduceLE, Int.reduceNeg, true_and, and_true, or_self, or_false, false_or, false_and, and_false, true_or, or_true, if_true, if_false, ne_eq, Classical.not_not, not_true_eq_false, not_false_eq_true, true_implies, false_implies, implies_true, Nat.reduceEqDiff, Nat.reduceAdd, Nat.reduceLeDiff, Nat.reduceSub, reduceCtorEq, reduceIte, b114_31]
        exact hq h rn rs frr_rf
theorem sp_closeQuotes (hd : 0 < d) (s : Sk h) (h17 : hN h 17 = 31) (rn : RNs N h) (rs : RSk stk h) (hne : stk ≠ []) (hq : ∀ h', RNs N h' → RSk (cq stk) h' → FrR h h' → Q none h') : aEv d 114 [.ref 3] h Q := by
  unfold aEv
  simp only [lv_args, z_v, z_lg, z_h, z_u, z_u1, z_c, z_ct, z_sk, sbne, lst1_d, ldel, lst2_d, ldel2, z_sw, z_rok, zi, eq_self, List.map_cons, List.map_nil, List.append_nil, List.nil_append, List.cons_append, Int32.reduceLT, Int32.reduceLE, Int32.reduceAdd, Int32.reduceSub, Int32.reduceMul, Int32.reduceToInt, Int32.reduceToNatClampNeg, Int.reduceLT, Int.reduceLE, Int.reduceNeg, true_and, and_true, or_self, or_false, false_or, false_and, and_false, true_or, or_true, if_true, if_false, ne_eq, Classical.not_not, not_true_eq_false, not_false_eq_true, true_implies, false_implies, implies_true, Nat.reduceEqDiff, Nat.reduceAdd, Nat.reduceLeDiff, Nat.reduceSub, reduceCtorEq, reduceIte, b114_0]
  exact cq_loop (N := N) hd rfl stk 0 h hne s h17 rn rs (by have := rs.1; omega) hq
theorem ws_nw {k c p : Int32} (ws : WS N stk) : WS (nwN N k c p) stk := fun e he => ⟨Nat.lt_succ_of_lt (ws e he).1, fun x hx => Nat.lt_succ_of_lt ((ws e he).2 x hx)⟩
theorem sp_takeDatum {k c p : Int32} {e : SE} (s : Sk h) (rm0 : Rm h) (rn : RNs N h) (rs : RSk (e :: stk) h) (ws : WS N (e :: stk)) (rm : roomN N h) (hl : N.1 < 7000) (hd : 3 < d) (hq : ∀ h', RNs (adN (nwN N k c p) e N.1) h' → RSk (cq ((e.1, some N.1, e.2.2) :: stk)) h' → FrR h h' → Q none h') : aEv d 134 [.ref 3, .int k, .int c, .int p] h Q := by
  have h0 : 0 < d := by omega
  have h10 := (rm0.2.2 10 (by decide)).2
  have y10 : cpR 10 = 12100 := rfl
  unfold aEv
  simp only [lv_args, z_v, z_lg, z_h, z_u, z_u1, z_c, z_ct, z_sk, sbne, lst1_d, ldel, lst2_d, ldel2, z_sw, z_rok, zi, eq_self, List.map_cons, List.map_nil, List.append_nil, List.nil_append, List.cons_append, Int32.reduceLT, Int32.reduceLE, Int32.reduceAdd, Int32.reduceSub, Int32.reduceMul, Int32.reduceToInt, Int32.reduceToNatClampNeg, Int.reduceLT, Int.reduceLE, Int.reduceNeg, true_and, and_true, or_self, or_false, false_or, false_and, and_false, true_or, or_true, if_true, if_false, ne_eq, Classical.not_not, not_true_eq_false, not_false_eq_true, true_implies, false_implies, implies_true, Nat.reduceEqDiff, Nat.reduceAdd, Nat.reduceLeDiff, Nat.reduceSub, reduceCtorEq, reduceIte, b134_0, skX s, h0]
  refine sp_newNode s rn rs rm hl (by omega) (fun h1 rn1 rs1 F1 => ?_)
  have s1 := frr_sk F1 s
  have hv1 : hv h1 = hv h := F1.2.2.2.2.2.1
  have n1 := F1.2.2.1
  simp only [lv_args, z_v, z_lg, z_h, z_u, z_u1, z_c, z_ct, z_sk, sbne, lst1_d, ldel, lst2_d, ldel2, z_sw, z_rok, zi, eq_self, List.map_cons, List.map_nil, List.append_nil, List.nil_append, List.cons_append, Int32.reduceLT, Int32.reduceLE, Int32.reduceAdd, Int32.reduceSub, Int32.reduceMul, Int32.reduceToInt, Int32.reduceToNatClampNeg, Int.reduceLT, Int.reduceLE, Int.reduceNeg, true_and, and_true, or_self, or_false, false_or, false_and, and_false, true_or, or_true, if_true, if_false, ne_eq, Classical.not_not, not_true_eq_false, not_false_eq_true, true_implies, false_implies, implies_true, Nat.reduceEqDiff, Nat.reduceAdd, Nat.reduceLeDiff, Nat.reduceSub, reduceCtorEq, reduceIte, b134_0, skX s, skX s1, h0, hv1, Nat.reduceLT]
  obtain ⟨m1, m2, m3, m4, m5⟩ := rm
  have n15 : hN h1 15 = 31 ∧ hN h1 16 = 31 := by rw [n1]; exact ⟨rm0.1.2 (15, 31) (by decide), rm0.1.2 (16, 31) (by decide)⟩
  refine sp_addPart s1 rn1 rs1 (ws_nw ws) (Nat.lt_succ_self _) n15 (by rw [n1]; exact ⟨m2, m4, m5⟩) (fun h2 rn2 rs2 F2 => ?_)
  have s2 := frr_sk F2 s1
  have hv2 : hv h2 = hv h1 := F2.2.2.2.2.2.1
  simp only [lv_args, z_v, z_lg, z_h, z_u, z_u1, z_c, z_ct, z_sk, sbne, lst1_d, ldel, lst2_d, ldel2, z_sw, z_rok, zi, eq_self, List.map_cons, List.map_nil, List.append_nil, List.nil_append, List.cons_append, Int32.reduceLT, Int32.reduceLE, Int32.reduceAdd, Int32.reduceSub, Int32.reduceMul, Int32.reduceToInt, Int32.reduceToNatClampNeg, Int.reduceLT, Int.reduceLE, Int.reduceNeg, true_and, and_true, or_self, or_false, false_or, false_and, and_false, true_or, or_true, if_true, if_false, ne_eq, Classical.not_not, not_true_eq_false, not_false_eq_true, true_implies, false_implies, implies_true, Nat.reduceEqDiff, Nat.reduceAdd, Nat.reduceLeDiff, Nat.reduceSub, reduceCtorEq, reduceIte, b134_0, skX s1, skX s2, h0, hv2, Nat.reduceLT]
  refine sp_closeQuotes (by omega) s2 (by rw [F2.2.2.1, n1]; exact rm0.1.2 (17, 31) (by decide)) rn2 rs2 (by simp) (fun h3 rn3 rs3 F3 => ?_)
  have hv3 : hv h3 = hv h2 := F3.2.2.2.2.2.1
  simp only [lv_args, z_v, z_lg, z_h, z_u, z_u1, z_c, z_ct, z_sk, sbne, lst1_d, ldel, lst2_d, ldel2, z_sw, z_rok, zi, eq_self, List.map_cons, List.map_nil, List.append_nil, List.nil_append, List.cons_append, Int32.reduceLT, Int32.reduceLE, Int32.reduceAdd, Int32.reduceSub, Int32.reduceMul, Int32.reduceToInt, Int32.reduceToNatClampNeg, Int.reduceLT, Int.reduceLE, Int.reduceNeg, true_and, and_true, or_self, or_false, false_or, false_and, and_false, true_or, or_true, if_true, if_false, ne_eq, Classical.not_not, not_true_eq_false, not_false_eq_true, true_implies, false_implies, implies_true, Nat.reduceEqDiff, Nat.reduceAdd, Nat.reduceLeDiff, Nat.reduceSub, reduceCtorEq, reduceIte, b134_0, skX s2, hv3, Nat.reduceLT]
  exact hq h3 rn3 rs3 (frr_tr F1 (frr_tr F2 F3))
theorem rsk_push {e : SE} {x : Nat} {b : Bool} {H : Hp} (r : RSk (e :: stk) h) (hl : (e :: stk).length < 31) (a1 : hI H 3 11 = nI (stk.length + 1)) (a2 : hA H 15 = upd (hA h 15) (stk.length + 1) (nI x)) (a3 : hA H 16 = upd (hA h 16) (stk.length + 1) (-1)) (a4 : hA H 17 = upd (hA h 17) (stk.length + 1) (if b then 1 else 0)) : RSk ((x, none, b) :: e :: stk) H := by
  obtain ⟨q1, q2, q3⟩ := r
  simp only [List.length_cons] at hl
  refine ⟨by simp only [List.length_cons]; omega, a1, fun j y hj => ?_⟩
  rw [a2, a3, a4]
  rw [List.reverse_cons] at hj
  by_cases c : j < stk.length + 1
  · rw [List.getElem?_append_left (by simpa using c)] at hj
    have := q3 j y hj
    exact ⟨(if_neg (by omega)).trans this.1, (if_neg (by omega)).trans this.2.1, (if_neg (by omega)).trans this.2.2⟩
  · have hj2 : j = stk.length + 1 := by
      have := g_lt hj
      simp at this
      omega
    subst hj2
    rw [List.getElem?_append_right (by simp)] at hj
    simp at hj
    subst hj
    exact ⟨if_pos rfl, if_pos rfl, if_pos rfl⟩
/-- a list begins, or the text is nested too deep -/
theorem sp_openList {p : Int32} {b : Bool} {e : SE} (s : Sk h) (rm0 : Rm h) (rn : RNs N h) (rs : RSk (e :: stk) h) (ws : WS N (e :: stk)) (rm : roomN N h) (hl : N.1 < 7000) (hd : 3 < d) (h20 : hI h 2 0 = 0) (q1 : 30 ≤ stk.length → Q (some (.int 0)) (pI (pI h 2 0 2) 2 1 p)) (q2 : stk.length < 30 → ∀ h', RNs (adN (nwN N 6 0 p) e N.1) h' → RSk ((N.1, none, b) :: (e.1, some N.1, e.2.2) :: stk) h' → FrR h h' → Q (some (.int 1)) h') : aEv d 126 [.ref 3, .int p, .int (if b then 1 else 0)] h Q := by
  have h0 : 0 < d := by omega
  have h10 := (rm0.2.2 10 (by decide)).2
  have y10 : cpR 10 = 12100 := rfl
  have i11 : hI h 3 11 = nI stk.length := rs.2.1
  have hs : stk.length + 1 ≤ 31 := rs.1
  have z30 : (30 : Int32) = nI 30 := rfl
  unfold aEv
  simp only [lv_args, z_v, z_lg, z_h, z_u, z_u1, z_c, z_ct, z_sk, sbne, lst1_d, ldel, lst2_d, ldel2, z_sw, z_rok, zi, eq_self, List.map_cons, List.map_nil, List.append_nil, List.nil_append, List.cons_append, Int32.reduceLT, Int32.reduceLE, Int32.reduceAdd, Int32.reduceSub, Int32.reduceMul, Int32.reduceToInt, Int32.reduceToNatClampNeg, Int.reduceLT, Int.reduceLE, Int.reduceNeg, true_and, and_true, or_self, or_false, false_or, false_and, and_false, true_or, or_true, if_true, if_false, ne_eq, Classical.not_not, not_true_eq_false, not_false_eq_true, true_implies, false_implies, implies_true, Nat.reduceEqDiff, Nat.reduceAdd, Nat.reduceLeDiff, Nat.reduceSub, reduceCtorEq, reduceIte, b126_0, skX s, i11, z30]
  simp (disch := omega) only [nI_ltN]
  refine ⟨fun c => ?_, fun c => ?_⟩
  · simp only [lv_args, z_v, z_lg, z_h, z_u, z_u1, z_c, z_ct, z_sk, sbne, lst1_d, ldel, lst2_d, ldel2, z_sw, z_rok, zi, eq_self, List.map_cons, List.map_nil, List.append_nil, List.nil_append, List.cons_append, Int32.reduceLT, Int32.reduceLE, Int32.reduceAdd, Int32.reduceSub, Int32.reduceMul, Int32.reduceToInt, Int32.reduceToNatClampNeg, Int.reduceLT, Int.reduceLE, Int.reduceNeg, true_and, and_true, or_self, or_false, false_or, false_and, and_false, true_or, or_true, if_true, if_false, ne_eq, Classical.not_not, not_true_eq_false, not_false_eq_true, true_implies, false_implies, implies_true, Nat.reduceEqDiff, Nat.reduceAdd, Nat.reduceLeDiff, Nat.reduceSub, reduceCtorEq, reduceIte, b126_20, skX s, h0]
    refine sp_newNode s rn rs rm hl (by omega) (fun h1 rn1 rs1 F1 => ?_)
    have s1 := frr_sk F1 s
    have hv1 : hv h1 = hv h := F1.2.2.2.2.2.1
    have n1 := F1.2.2.1
    simp only [lv_args, z_v, z_lg, z_h, z_u, z_u1, z_c, z_ct, z_sk, sbne, lst1_d, ldel, lst2_d, ldel2, z_sw, z_rok, zi, eq_self, List.map_cons, List.map_nil, List.append_nil, List.nil_append, List.cons_append, Int32.reduceLT, Int32.reduceLE, Int32.reduceAdd, Int32.reduceSub, Int32.reduceMul, Int32.reduceToInt, Int32.reduceToNatClampNeg, Int.reduceLT, Int.reduceLE, Int.reduceNeg, true_and, and_true, or_self, or_false, false_or, false_and, and_false, true_or, or_true, if_true, if_false, ne_eq, Classical.not_not, not_true_eq_false, not_false_eq_true, true_implies, false_implies, implies_true, Nat.reduceEqDiff, Nat.reduceAdd, Nat.reduceLeDiff, Nat.reduceSub, reduceCtorEq, reduceIte, b126_20, skX s, skX s1, h0, hv1, Nat.reduceLT]
    obtain ⟨m1, m2, m3, m4, m5⟩ := rm
    have n15 : hN h1 15 = 31 ∧ hN h1 16 = 31 := by rw [n1]; exact ⟨rm0.1.2 (15, 31) (by decide), rm0.1.2 (16, 31) (by decide)⟩
    refine sp_addPart s1 rn1 rs1 (ws_nw ws) (Nat.lt_succ_self _) n15 (by rw [n1]; exact ⟨m2, m4, m5⟩) (fun h2 rn2 rs2 F2 => ?_)
    have s2 := frr_sk F2 s1
    have hv2 : hv h2 = hv h1 := F2.2.2.2.2.2.1
    have n2 := F2.2.2.1
    have i2 : hI h2 3 11 = nI stk.length := rs2.2.1
    have l15 : hN h2 15 = 31 := by rw [n2]; exact n15.1
    have l16 : hN h2 16 = 31 := by rw [n2]; exact n15.2
    have l17 : hN h2 17 = 31 := by rw [n2, n1]; exact rm0.1.2 (17, 31) (by decide)
    have eb : (if b then (1 : Int32) else 0) &&& 1 = if b then 1 else 0 := by cases b <;> decide
    simp only [lv_args, z_v, z_lg, z_h, z_u, z_u1, z_c, z_ct, z_sk, sbne, lst1_d, ldel, lst2_d, ldel2, z_sw, z_rok, zi, eq_self, List.map_cons, List.map_nil, List.append_nil, List.nil_append, List.cons_append, Int32.reduceLT, Int32.reduceLE, Int32.reduceAdd, Int32.reduceSub, Int32.reduceMul, Int32.reduceToInt, Int32.reduceToNatClampNeg, Int.reduceLT, Int.reduceLE, Int.reduceNeg, true_and, and_true, or_self, or_false, false_or, false_and, and_false, true_or, or_true, if_true, if_false, ne_eq, Classical.not_not, not_true_eq_false, not_false_eq_true, true_implies, false_implies, implies_true, Nat.reduceEqDiff, Nat.reduceAdd, Nat.reduceLeDiff, Nat.reduceSub, reduceCtorEq, reduceIte, b126_20, skX s1, skX s2, srX s2, h0, hv2, Nat.reduceLT, i2, nI_1, l15, l16, l17, eb]
    simp (disch := omega) only [nI_ti, nI_cl, le0N, ltNN, true_and]
    refine ⟨by omega, by omega, by omega, ?_⟩
    try simp only [lv_args, z_v, z_lg, z_h, z_u, z_u1, z_c, z_ct, z_sk, sbne, lst1_d, ldel, lst2_d, ldel2, z_sw, z_rok, zi, eq_self, List.map_cons, List.map_nil, List.append_nil, List.nil_append, List.cons_append, Int32.reduceLT, Int32.reduceLE, Int32.reduceAdd, Int32.reduceSub, Int32.reduceMul, Int32.reduceToInt, Int32.reduceToNatClampNeg, Int.reduceLT, Int.reduceLE, Int.reduceNeg, true_and, and_true, or_self, or_false, false_or, false_and, and_false, true_or, or_true, if_true, if_false, ne_eq, Classical.not_not, not_true_eq_false, not_false_eq_true, true_implies, false_implies, implies_true, Nat.reduceEqDiff, Nat.reduceAdd, Nat.reduceLeDiff, Nat.reduceSub, reduceCtorEq, reduceIte, b126_20]
    refine q2 c _ rn2 (rsk_push rs2 (by simp only [List.length_cons]; omega) rfl rfl rfl rfl) (frr_tr F1 (frr_tr F2 ⟨rfl, rfl, rfl, rfl, rfl, rfl, fun a i c => up2_ne (by omega), rfl, fun a c => (up1_ne (by omega)).trans ((up1_ne (by omega)).trans (up1_ne (by omega))), rfl⟩))
  · have fin := q1 (by omega)
    simp only [lv_args, z_v, z_lg, z_h, z_u, z_u1, z_c, z_ct, z_sk, sbne, lst1_d, ldel, lst2_d, ldel2, z_sw, z_rok, zi, eq_self, List.map_cons, List.map_nil, List.append_nil, List.nil_append, List.cons_append, Int32.reduceLT, Int32.reduceLE, Int32.reduceAdd, Int32.reduceSub, Int32.reduceMul, Int32.reduceToInt, Int32.reduceToNatClampNeg, Int.reduceLT, Int.reduceLE, Int.reduceNeg, true_and, and_true, or_self, or_false, false_or, false_and, and_false, true_or, or_true, if_true, if_false, ne_eq, Classical.not_not, not_true_eq_false, not_false_eq_true, true_implies, false_implies, implies_true, Nat.reduceEqDiff, Nat.reduceAdd, Nat.reduceLeDiff, Nat.reduceSub, reduceCtorEq, reduceIte, b126_9, skX s, srX s, h0, e33_2 _ _ s, h20, Nat.reduceLT]
    exact fin
end RLS
