/-! what is called moves down -/
def mvd (f : Nat → Int64) (A B j : Nat) : Nat → Int64 := fun i => if A ≤ i ∧ i < A + j then f (B + (i - A)) else f i
theorem mvd_s {f : Nat → Int64} {A B j : Nat} (h : A ≤ B) : vp_updL (mvd f A B j) (A + j) (mvd f A B j (B + j)) = mvd f A B (j + 1) := by
  funext i
  unfold vp_updL mvd
  by_cases c : i = A + j
  · subst c
    rw [if_pos rfl, if_neg (by omega), if_pos (by omega), Nat.add_sub_cancel_left]
  · rw [if_neg c]
    by_cases c2 : A ≤ i ∧ i < A + j
    · rw [if_pos c2, if_pos (by omega)]
    · rw [if_neg c2, if_neg (by omega)]
theorem mvd_0 {f : Nat → Int64} {A B : Nat} : mvd f A B 0 = f := by
  funext i
  exact if_neg (by omega)
section COR6
variable {h : Hp} {Q : Option Value → Hp → Prop} {d : Nat} {G : PG} {p pc : Nat} {cap : Nat} {s : List Int64} {v : Int64} {a o : Int32} {ba : Nat} {se : Int32} {bk : List BK} {F : List Int64} {ce : Nat} {gc : List Int64} {P : List Int32 × List Int32 × Nat × Nat × Int64 × Nat}
theorem pB_self (h : Hp) (k : Nat) : pB h k (hB h k) = h := by
  show (h.1, h.2.1, h.2.2.1, h.2.2.2.1, h.2.2.2.2.1, va_up (hB h) k (hB h k), h.2.2.2.2.2.2) = h
  have e2 : va_up (hB h) k (hB h k) = hB h := by
    funext a
    unfold va_up
    split
    · rename_i e; rw [e]
    · rfl
  rw [e2]; rfl
theorem mv_loop {A B g : Nat} (k : Sk h) (hd : 1 < d) (h5 : hI h 47 5 = nI (A + 1)) (hAB : A ≤ B) (hBg : B + g < hN h 53) (hb : hN h 53 < 1000000) (hq : ∀ L, LX 47 L → lgv L 0 = .ref 47 → lgv L 1 = .int (nI g) → aWP d 60 41 L [] (pB h 53 (mvd (hB h 53) A B (g + 1))) Q) : ∀ (m j : Nat) (L : ALS), j + m = g + 1 → LX 47 L → lgv L 0 = .ref 47 → lgv L 1 = .int (nI g) → lgv L 2 = .int (nI B) → lgv L 3 = .int (nI j) → aWP d 60 11 L [] (pB h 53 (mvd (hB h 53) A B j)) Q := by
  have h0 : 0 < d := by omega
  intro m
  induction m with
  | zero =>
    intro j L hj lx l0 l1 l2 l3
    have : j = g + 1 := by omega
    subst this
    simp (disch := omega) only [b60_11, z_v, l1, l3, nI_ltN, true_and]
    exact ⟨fun _ => hq L lx l0 l1, fun q => absurd (Nat.lt_succ_self g) q⟩
  | succ m ih =>
    intro j L hj lx l0 l1 l2 l3
    have kj : Sk (pB h 53 (mvd (hB h 53) A B j)) := (sk_same rfl rfl rfl : Sk _ = Sk h) ▸ k
    simp (disch := omega) only [b60_11, z_v, l1, l3, nI_ltN, true_and]
    refine ⟨fun q => absurd q (by omega), fun _ => ?_⟩
    simp only [lv_args, z_v, z_lg, z_h, z_u, z_u1, z_c, z_ct, z_sk, sbne, lst1_d, ldel, lst2_d, ldel2, z_rok, zi, eq_self, List.map_cons, List.map_nil, List.append_nil, List.nil_append, List.cons_append, Int32.reduceLT, Int32.reduceLE, Int32.reduceAdd, Int32.reduceSub, Int32.reduceMul, Int32.reduceToInt, Int32.reduceToNatClampNeg, Int.reduceLT, Int.reduceLE, Int.reduceNeg, true_and, and_true, or_self, or_false, false_or, false_and, and_false, true_or, or_true, if_true, if_false, ne_eq, Classical.not_not, not_true_eq_false, not_false_eq_true, true_implies, false_implies, implies_true, Nat.reduceEqDiff, Nat.reduceAdd, Nat.reduceLeDiff, Nat.reduceSub, reduceCtorEq, reduceIte, b60_16, skX k, h0, l0, l2, l3, h5, nI_m1, nI_add]
    refine sp_peek kj (show B + j < hN h 53 by omega) hb ?_
    refine ⟨rfl, Or.inl rfl, ?_⟩
    simp only [lv_args, z_v, z_lg, z_h, z_u, z_u1, z_c, z_ct, z_sk, sbne, lst1_d, ldel, lst2_d, ldel2, z_rok, zi, eq_self, List.map_cons, List.map_nil, List.append_nil, List.nil_append, List.cons_append, Int32.reduceLT, Int32.reduceLE, Int32.reduceAdd, Int32.reduceSub, Int32.reduceMul, Int32.reduceToInt, Int32.reduceToNatClampNeg, Int.reduceLT, Int.reduceLE, Int.reduceNeg, true_and, and_true, or_self, or_false, false_or, false_and, and_false, true_or, or_true, if_true, if_false, ne_eq, Classical.not_not, not_true_eq_false, not_false_eq_true, true_implies, false_implies, implies_true, Nat.reduceEqDiff, Nat.reduceAdd, Nat.reduceLeDiff, Nat.reduceSub, reduceCtorEq, reduceIte, b60_16, skX k, h0, Option.toList]
    refine sp_poke kj (show A + j < hN h 53 by omega) hb ?_
    have e1 : hB (pB h 53 (mvd (hB h 53) A B j)) 53 = mvd (hB h 53) A B j := (up1_eq : va_up (hB h) 53 (mvd (hB h 53) A B j) 53 = _)
    rw [e1, mvd_s hAB, pB_pB]
    refine ⟨rfl, Or.inl rfl, ?_⟩
    have m0 : lgv (lst1 L 3 (.int (nI (j + 1)))) 0 = .ref 47 := (lx_ot lx (by decide)).trans l0
    have m1 : lgv (lst1 L 3 (.int (nI (j + 1)))) 1 = .int (nI g) := (lx_ot lx (by decide)).trans l1
    have m2 : lgv (lst1 L 3 (.int (nI (j + 1)))) 2 = .int (nI B) := (lx_ot lx (by decide)).trans l2
    have := ih (j + 1) (lst1 L 3 (.int (nI (j + 1)))) (by omega) (lx_st lx) m0 m1 m2 lgv_st
    simp only [b60_16, z_v, l3, true_and, nI_1, Option.toList, List.append_nil]
    exact this
/-- what is called takes the place of the call that gives way -/
theorem sp_down {A B g : Nat} (k : Sk h) (hd : 2 < d) (h5 : hI h 47 5 = nI (A + 1)) (h4 : hI h 47 4 = nI (B + g + 1)) (hAB : A ≤ B) (hBg : B + g < hN h 53) (hb : hN h 53 < 1000000) (hq : Q none (pI (pB h 53 (mvd (hB h 53) A B (g + 1))) 47 4 (nI (A + 1 + g)))) : aEv d 60 [.ref 47, .int (nI g)] h Q := by
  have h0 : 0 < d := by omega
  have e1 : nI (B + g + 1) - nI g - 1 = nI B := by
    rw [show B + g + 1 = (B + 1) + g by omega, ← nI_add, Int32.add_sub_cancel, nI_m1]
  have := mv_loop (d := d) (Q := Q) k (by omega) h5 hAB hBg hb (fun L lx l0 l1 => by
    simp only [lv_args, z_v, z_lg, z_h, z_u, z_u1, z_c, z_ct, z_sk, sbne, lst1_d, ldel, lst2_d, ldel2, z_rok, zi, eq_self, List.map_cons, List.map_nil, List.append_nil, List.nil_append, List.cons_append, Int32.reduceLT, Int32.reduceLE, Int32.reduceAdd, Int32.reduceSub, Int32.reduceMul, Int32.reduceToInt, Int32.reduceToNatClampNeg, Int.reduceLT, Int.reduceLE, Int.reduceNeg, true_and, and_true, or_self, or_false, false_or, false_and, and_false, true_or, or_true, if_true, if_false, ne_eq, Classical.not_not, not_true_eq_false, not_false_eq_true, true_implies, false_implies, implies_true, Nat.reduceEqDiff, Nat.reduceAdd, Nat.reduceLeDiff, Nat.reduceSub, reduceCtorEq, reduceIte, b60_41, skX k, h0, l0, l1, h5, nI_add]
    exact hq) (g + 1) 0
  rw [mvd_0, pB_self] at this
  unfold aEv
  simp only [lv_args, z_v, z_lg, z_h, z_u, z_u1, z_c, z_ct, z_sk, sbne, lst1_d, ldel, lst2_d, ldel2, z_sw, z_rok, zi, eq_self, List.map_cons, List.map_nil, List.append_nil, List.nil_append, List.cons_append, Int32.reduceLT, Int32.reduceLE, Int32.reduceAdd, Int32.reduceSub, Int32.reduceMul, Int32.reduceToInt, Int32.reduceToNatClampNeg, Int.reduceLT, Int.reduceLE, Int.reduceNeg, true_and, and_true, or_self, or_false, false_or, false_and, and_false, true_or, or_true, if_true, if_false, ne_eq, Classical.not_not, not_true_eq_false, not_false_eq_true, true_implies, false_implies, implies_true, Nat.reduceEqDiff, Nat.reduceAdd, Nat.reduceLeDiff, Nat.reduceSub, reduceCtorEq, reduceIte, b60_0, skX k, h4, e1]
  refine this _ (by omega) ?_ rfl rfl rfl rfl
  intro q hq
  simp only [List.mem_cons, List.not_mem_nil, or_false] at hq
  rcases hq with rfl | rfl | rfl | rfl
  · exact Or.inr ⟨_, rfl⟩
  · exact Or.inr ⟨_, rfl⟩
  · exact Or.inl rfl
  · exact Or.inr ⟨_, rfl⟩
end COR6
