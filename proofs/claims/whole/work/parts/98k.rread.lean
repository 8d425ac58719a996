/-! BUILD. readText -/
/-- what was read: the fault, or none -/
def RDt (t : Nat → Nat) (n : Nat) (r : Option (Nat × Nat)) (K : List KY) (mt : List Nat) (N : NS) (stk : List SE) : Prop := ∃ r0, CRn t n (n + 1) 0 K30 [] (nwN (0, fun _ => 0, fun _ => 0, fun _ => 0, fun _ => -1, fun _ => -1) 6 0 0) [(0, none, false)] r0 K mt N stk ∧ ((∃ x, r0 = some x ∧ r = r0) ∨ (r0 = none ∧ stk.length = 1 ∧ r = none) ∨ (r0 = none ∧ 1 < stk.length ∧ r = some (1, n)))
section RDX
variable {h h' : Hp} {Q : Option Value → Hp → Prop} {d n : Nat} {t : Nat → Nat}
/-- behind the loop -/
theorem rt_end {K : List KY} {mt : List Nat} {N : NS} {stk : List SE} {x3 x4 : Int32} {r0 : Option (Nat × Nat)} (s : Sk h) (h0 : 0 < d) (e13 : hI h 3 13 = nI n) (hne : stk ≠ []) (rs : RSk stk h) (hr : (r0 = none ∧ hI h 2 0 = 0) ∨ (∃ x, r0 = some x) ∧ hI h 2 0 ≠ 0) (q1 : (∃ x, r0 = some x) ∨ stk.length = 1 → Q none h) (q2 : r0 = none → 1 < stk.length → Q none (pI (pI h 2 0 1) 2 1 (nI n))) : aWP d 130 107 [(4, .int x4), (3, .int x3), (0, .ref 3), (1, .ref 1), (2, .int (nI n))] [] h Q := by
  have i11 := rs.2.1
  have hl := rs.1
  have hl1 : 0 < stk.length := List.length_pos_iff.mpr hne
  simp only [lv_args, z_v, z_lg, z_h, z_u, z_u1, z_c, z_ct, z_sk, sbne, lst1_d, ldel, lst2_d, ldel2, z_sw, z_rok, zi, eq_self, List.map_cons, List.map_nil, List.append_nil, List.nil_append, List.cons_append, Int32.reduceLT, Int32.reduceLE, Int32.reduceAdd, Int32.reduceSub, Int32.reduceMul, Int32.reduceToInt, Int32.reduceToNatClampNeg, Int.reduceLT, Int.reduceLE, Int.reduceNeg, true_and, and_true, or_self, or_false, false_or, false_and, and_false, true_or, or_true, if_true, if_false, ne_eq, Classical.not_not, not_true_eq_false, not_false_eq_true, true_implies, false_implies, implies_true, Nat.reduceEqDiff, Nat.reduceAdd, Nat.reduceLeDiff, Nat.reduceSub, reduceCtorEq, reduceIte, b130_107, skX s, i11]
  by_cases c : stk.length = 1
  · have c0 : (nI (stk.length - 1) ≤ 0) = True := by rw [le_0N (by omega)]; exact eq_true (by omega)
    simp only [c0, true_imp_iff, not_true_eq_false, false_imp_iff, and_true]
    simp only [lv_args, z_v, z_lg, z_h, z_u, z_u1, z_c, z_ct, z_sk, sbne, lst1_d, ldel, lst2_d, ldel2, z_sw, z_rok, zi, eq_self, List.map_cons, List.map_nil, List.append_nil, List.nil_append, List.cons_append, Int32.reduceLT, Int32.reduceLE, Int32.reduceAdd, Int32.reduceSub, Int32.reduceMul, Int32.reduceToInt, Int32.reduceToNatClampNeg, Int.reduceLT, Int.reduceLE, Int.reduceNeg, true_and, and_true, or_self, or_false, false_or, false_and, and_false, true_or, or_true, if_true, if_false, ne_eq, Classical.not_not, not_true_eq_false, not_false_eq_true, true_implies, false_implies, implies_true, Nat.reduceEqDiff, Nat.reduceAdd, Nat.reduceLeDiff, Nat.reduceSub, reduceCtorEq, reduceIte, b130_126]
    exact q1 (Or.inr c)
  · have c0 : (nI (stk.length - 1) ≤ 0) = False := by rw [le_0N (by omega)]; exact eq_false (by omega)
    simp only [c0, false_imp_iff, not_false_eq_true, true_imp_iff, true_and]
    rcases hr with ⟨e, e20⟩ | ⟨hx, e20⟩
    · have fin := q2 e (by omega)
      simp only [lv_args, z_v, z_lg, z_h, z_u, z_u1, z_c, z_ct, z_sk, sbne, lst1_d, ldel, lst2_d, ldel2, z_sw, z_rok, zi, eq_self, List.map_cons, List.map_nil, List.append_nil, List.nil_append, List.cons_append, Int32.reduceLT, Int32.reduceLE, Int32.reduceAdd, Int32.reduceSub, Int32.reduceMul, Int32.reduceToInt, Int32.reduceToNatClampNeg, Int.reduceLT, Int.reduceLE, Int.reduceNeg, true_and, and_true, or_self, or_false, false_or, false_and, and_false, true_or, or_true, if_true, if_false, ne_eq, Classical.not_not, not_true_eq_false, not_false_eq_true, true_implies, false_implies, implies_true, Nat.reduceEqDiff, Nat.reduceAdd, Nat.reduceLeDiff, Nat.reduceSub, reduceCtorEq, reduceIte, b130_114, b130_126, skX s, srX s, h0, e13, e33_2 _ _ s, e20, Nat.reduceLT]
      exact fin
    · have fin := q1 (Or.inl hx)
      have e20' : ¬ hI h 2 0 = 0 := e20
      simp only [lv_args, z_v, z_lg, z_h, z_u, z_u1, z_c, z_ct, z_sk, sbne, lst1_d, ldel, lst2_d, ldel2, z_sw, z_rok, zi, eq_self, List.map_cons, List.map_nil, List.append_nil, List.nil_append, List.cons_append, Int32.reduceLT, Int32.reduceLE, Int32.reduceAdd, Int32.reduceSub, Int32.reduceMul, Int32.reduceToInt, Int32.reduceToNatClampNeg, Int.reduceLT, Int.reduceLE, Int.reduceNeg, true_and, and_true, or_self, or_false, false_or, false_and, and_false, true_or, or_true, if_true, if_false, ne_eq, Classical.not_not, not_true_eq_false, not_false_eq_true, true_implies, false_implies, implies_true, Nat.reduceEqDiff, Nat.reduceAdd, Nat.reduceLeDiff, Nat.reduceSub, reduceCtorEq, reduceIte, b130_114, b130_126, skX s, srX s, h0, e13, e33_2 _ _ s, e20', Nat.reduceLT]
      exact fin
abbrev Xn (k : Nat) : Prop := (4 ≤ k ∧ k ≤ 9) ∨ 130 ≤ k
theorem rtl_n : ∀ e, e ∈ RTl → Xn e.1.1 → Xn e.2 := by decide +kernel
theorem rg_n (s : Sk h) : Rg Xn h := by
  have h130 := s.2.2
  have sb : SB = 1000000 := rfl
  refine ⟨fun k hk => Or.inr (by omega), fun k hk => Or.inr (by omega), fun a b r ha e => ?_⟩
  cases c : isVr a b with
  | false =>
    rw [s.2.1 a b c] at e
    exact rtl_n _ (lkm_rt e) ha
  | true =>
    have hc := vr_is c
    unfold Xn at ha
    omega
end RDX
