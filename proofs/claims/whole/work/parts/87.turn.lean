/-! turns, by operation -/
def swL : List (Int32 × Nat) → Int32 → Nat → Nat
  | [], _, df => df
  | q :: r, a, df => if a = q.1 then q.2 else swL r a df
theorem sw_at {P : Nat → Prop} {a : Int32} {df : Nat} : ∀ {T : List (Int32 × Nat)}, P (swL T a df) → swA T a P df
  | [], h => h
  | q :: r, h => by
    unfold swL at h
    refine ⟨fun c => ?_, fun c => ?_⟩
    · rw [if_pos c] at h; exact h
    · rw [if_neg c] at h; exact sw_at h
theorem i32_3233 : ((32 : Int32) = 33) = False := eq_false (by decide)
section TRN
variable {h : Hp} {Q : Option Value → Hp → Prop} {d : Nat} {G : PG} {p pc : Nat}
theorem tn_67 {t : Nat} {L : ALS} (T : Turn G p pc t d h L) (hp : pc < pCz G) (ho : G.1 1 pc = 16 ∨ G.1 1 pc = 17 ∨ G.1 1 pc = 18) (hq : aEv (d - 1) 67 [.ref 47, .int (G.1 1 pc), .int (G.1 2 pc)] h (fun r h1 => r = none ∧ NX d t Q h1)) : aWP d 76 29 L [] h Q := by
  refine tn_go T hp ?_
  obtain ⟨s, P, hz, r2, go, pl, hpc, ht, lx, l0, l2, hd⟩ := T
  have k47 : hK h 47 = 4 := s.1 47 (by decide)
  have h0 : 0 < d := by omega
  have m0 : lgv (lst1 (lst1 L 3 (.int (G.1 1 pc))) 4 (.int (G.1 2 pc))) 0 = .ref 47 := (lx_ot (lx_st lx) (by decide)).trans ((lx_ot lx (by decide)).trans l0)
  have m2 : lgv (lst1 (lst1 L 3 (.int (G.1 1 pc))) 4 (.int (G.1 2 pc))) 2 = .int (nI t) := (lx_ot (lx_st lx) (by decide)).trans ((lx_ot lx (by decide)).trans l2)
  have m3 : lgv (lst1 (lst1 L 3 (.int (G.1 1 pc))) 4 (.int (G.1 2 pc))) 3 = .int (G.1 1 pc) := (lx_ot (lx_st lx) (by decide)).trans lgv_st
  have m4 : lgv (lst1 (lst1 L 3 (.int (G.1 1 pc))) 4 (.int (G.1 2 pc))) 4 = .int (G.1 2 pc) := lgv_st
  have mx : LX 47 (lst1 (lst1 L 3 (.int (G.1 1 pc))) 4 (.int (G.1 2 pc))) := lx_st (lx_st lx)
  generalize lst1 (lst1 L 3 (.int (G.1 1 pc))) 4 (.int (G.1 2 pc)) = L2 at *
  have hce : ∀ h1, aWP d 76 175 L2 [] h1 Q ↔ aWP d 76 259 L2 [] h1 Q := fun h1 => by simp only [lv_args, z_v, z_lg, z_h, z_u, z_u1, z_c, z_ct, z_sk, sbne, lst1_d, ldel, lst2_d, ldel2, z_sw, z_rok, zi, eq_self, List.map_cons, List.map_nil, List.append_nil, List.nil_append, List.cons_append, Int32.reduceLT, Int32.reduceLE, Int32.reduceAdd, Int32.reduceSub, Int32.reduceMul, Int32.reduceToInt, Int32.reduceToNatClampNeg, Int.reduceLT, Int.reduceLE, Int.reduceNeg, true_and, and_true, or_self, or_false, false_or, false_and, and_false, true_or, or_true, if_true, if_false, ne_eq, Classical.not_not, not_true_eq_false, not_false_eq_true, true_implies, false_implies, implies_true, Nat.reduceEqDiff, Nat.reduceAdd, Nat.reduceLeDiff, Nat.reduceSub, reduceCtorEq, reduceIte, b76_168]
  rcases ho with ho | ho | ho <;>
  · try rw [ho] at hq
    rw [ho] at m3 ⊢
    refine sw_at (show aWP d 76 168 L2 [] h Q from ?_)
    simp only [lv_args, z_v, z_lg, z_h, z_u, z_u1, z_c, z_ct, z_sk, sbne, lst1_d, ldel, lst2_d, ldel2, z_sw, z_rok, zi, eq_self, List.map_cons, List.map_nil, List.append_nil, List.nil_append, List.cons_append, Int32.reduceLT, Int32.reduceLE, Int32.reduceAdd, Int32.reduceSub, Int32.reduceMul, Int32.reduceToInt, Int32.reduceToNatClampNeg, Int.reduceLT, Int.reduceLE, Int.reduceNeg, true_and, and_true, or_self, or_false, false_or, false_and, and_false, true_or, or_true, if_true, if_false, ne_eq, Classical.not_not, not_true_eq_false, not_false_eq_true, true_implies, false_implies, implies_true, Nat.reduceEqDiff, Nat.reduceAdd, Nat.reduceLeDiff, Nat.reduceSub, reduceCtorEq, reduceIte, b76_168, m0, m3, m4, k47, h0]
    refine aEv_mono hq ?_
    intro r h1 ⟨hr, q⟩
    exact tn_ct s mx m0 m2 hce hr q
theorem tn_71 {t : Nat} {L : ALS} (T : Turn G p pc t d h L) (hp : pc < pCz G) (ho : G.1 1 pc = 19 ∨ G.1 1 pc = 20 ∨ G.1 1 pc = 21) (hq : aEv (d - 1) 71 [.ref 47, .int (G.1 1 pc), .int (G.1 2 pc)] h (fun r h1 => r = none ∧ NX d t Q h1)) : aWP d 76 29 L [] h Q := by
  refine tn_go T hp ?_
  obtain ⟨s, P, hz, r2, go, pl, hpc, ht, lx, l0, l2, hd⟩ := T
  have k47 : hK h 47 = 4 := s.1 47 (by decide)
  have h0 : 0 < d := by omega
  have m0 : lgv (lst1 (lst1 L 3 (.int (G.1 1 pc))) 4 (.int (G.1 2 pc))) 0 = .ref 47 := (lx_ot (lx_st lx) (by decide)).trans ((lx_ot lx (by decide)).trans l0)
  have m2 : lgv (lst1 (lst1 L 3 (.int (G.1 1 pc))) 4 (.int (G.1 2 pc))) 2 = .int (nI t) := (lx_ot (lx_st lx) (by decide)).trans ((lx_ot lx (by decide)).trans l2)
  have m3 : lgv (lst1 (lst1 L 3 (.int (G.1 1 pc))) 4 (.int (G.1 2 pc))) 3 = .int (G.1 1 pc) := (lx_ot (lx_st lx) (by decide)).trans lgv_st
  have m4 : lgv (lst1 (lst1 L 3 (.int (G.1 1 pc))) 4 (.int (G.1 2 pc))) 4 = .int (G.1 2 pc) := lgv_st
  have mx : LX 47 (lst1 (lst1 L 3 (.int (G.1 1 pc))) 4 (.int (G.1 2 pc))) := lx_st (lx_st lx)
  generalize lst1 (lst1 L 3 (.int (G.1 1 pc))) 4 (.int (G.1 2 pc)) = L2 at *
  have hce : ∀ h1, aWP d 76 185 L2 [] h1 Q ↔ aWP d 76 259 L2 [] h1 Q := fun h1 => by simp only [lv_args, z_v, z_lg, z_h, z_u, z_u1, z_c, z_ct, z_sk, sbne, lst1_d, ldel, lst2_d, ldel2, z_sw, z_rok, zi, eq_self, List.map_cons, List.map_nil, List.append_nil, List.nil_append, List.cons_append, Int32.reduceLT, Int32.reduceLE, Int32.reduceAdd, Int32.reduceSub, Int32.reduceMul, Int32.reduceToInt, Int32.reduceToNatClampNeg, Int.reduceLT, Int.reduceLE, Int.reduceNeg, true_and, and_true, or_self, or_false, false_or, false_and, and_false, true_or, or_true, if_true, if_false, ne_eq, Classical.not_not, not_true_eq_false, not_false_eq_true, true_implies, false_implies, implies_true, Nat.reduceEqDiff, Nat.reduceAdd, Nat.reduceLeDiff, Nat.reduceSub, reduceCtorEq, reduceIte, b76_178]
  rcases ho with ho | ho | ho <;>
  · try rw [ho] at hq
    rw [ho] at m3 ⊢
    refine sw_at (show aWP d 76 178 L2 [] h Q from ?_)
    simp only [lv_args, z_v, z_lg, z_h, z_u, z_u1, z_c, z_ct, z_sk, sbne, lst1_d, ldel, lst2_d, ldel2, z_sw, z_rok, zi, eq_self, List.map_cons, List.map_nil, List.append_nil, List.nil_append, List.cons_append, Int32.reduceLT, Int32.reduceLE, Int32.reduceAdd, Int32.reduceSub, Int32.reduceMul, Int32.reduceToInt, Int32.reduceToNatClampNeg, Int.reduceLT, Int.reduceLE, Int.reduceNeg, true_and, and_true, or_self, or_false, false_or, false_and, and_false, true_or, or_true, if_true, if_false, ne_eq, Classical.not_not, not_true_eq_false, not_false_eq_true, true_implies, false_implies, implies_true, Nat.reduceEqDiff, Nat.reduceAdd, Nat.reduceLeDiff, Nat.reduceSub, reduceCtorEq, reduceIte, b76_178, m0, m3, m4, k47, h0]
    refine aEv_mono hq ?_
    intro r h1 ⟨hr, q⟩
    exact tn_ct s mx m0 m2 hce hr q
theorem tn_47 {t : Nat} {L : ALS} (T : Turn G p pc t d h L) (hp : pc < pCz G) (ho : G.1 1 pc = 22 ∨ G.1 1 pc = 23 ∨ G.1 1 pc = 24) (hq : aEv (d - 1) 47 [.ref 47, .int (G.1 1 pc), .int (G.1 2 pc)] h (fun r h1 => r = none ∧ NX d t Q h1)) : aWP d 76 29 L [] h Q := by
  refine tn_go T hp ?_
  obtain ⟨s, P, hz, r2, go, pl, hpc, ht, lx, l0, l2, hd⟩ := T
  have k47 : hK h 47 = 4 := s.1 47 (by decide)
  have h0 : 0 < d := by omega
  have m0 : lgv (lst1 (lst1 L 3 (.int (G.1 1 pc))) 4 (.int (G.1 2 pc))) 0 = .ref 47 := (lx_ot (lx_st lx) (by decide)).trans ((lx_ot lx (by decide)).trans l0)
  have m2 : lgv (lst1 (lst1 L 3 (.int (G.1 1 pc))) 4 (.int (G.1 2 pc))) 2 = .int (nI t) := (lx_ot (lx_st lx) (by decide)).trans ((lx_ot lx (by decide)).trans l2)
  have m3 : lgv (lst1 (lst1 L 3 (.int (G.1 1 pc))) 4 (.int (G.1 2 pc))) 3 = .int (G.1 1 pc) := (lx_ot (lx_st lx) (by decide)).trans lgv_st
  have m4 : lgv (lst1 (lst1 L 3 (.int (G.1 1 pc))) 4 (.int (G.1 2 pc))) 4 = .int (G.1 2 pc) := lgv_st
  have mx : LX 47 (lst1 (lst1 L 3 (.int (G.1 1 pc))) 4 (.int (G.1 2 pc))) := lx_st (lx_st lx)
  generalize lst1 (lst1 L 3 (.int (G.1 1 pc))) 4 (.int (G.1 2 pc)) = L2 at *
  have hce : ∀ h1, aWP d 76 195 L2 [] h1 Q ↔ aWP d 76 259 L2 [] h1 Q := fun h1 => by simp only [lv_args, z_v, z_lg, z_h, z_u, z_u1, z_c, z_ct, z_sk, sbne, lst1_d, ldel, lst2_d, ldel2, z_sw, z_rok, zi, eq_self, List.map_cons, List.map_nil, List.append_nil, List.nil_append, List.cons_append, Int32.reduceLT, Int32.reduceLE, Int32.reduceAdd, Int32.reduceSub, Int32.reduceMul, Int32.reduceToInt, Int32.reduceToNatClampNeg, Int.reduceLT, Int.reduceLE, Int.reduceNeg, true_and, and_true, or_self, or_false, false_or, false_and, and_false, true_or, or_true, if_true, if_false, ne_eq, Classical.not_not, not_true_eq_false, not_false_eq_true, true_implies, false_implies, implies_true, Nat.reduceEqDiff, Nat.reduceAdd, Nat.reduceLeDiff, Nat.reduceSub, reduceCtorEq, reduceIte, b76_188]
  rcases ho with ho | ho | ho <;>
  · try rw [ho] at hq
    rw [ho] at m3 ⊢
    refine sw_at (show aWP d 76 188 L2 [] h Q from ?_)
    simp only [lv_args, z_v, z_lg, z_h, z_u, z_u1, z_c, z_ct, z_sk, sbne, lst1_d, ldel, lst2_d, ldel2, z_sw, z_rok, zi, eq_self, List.map_cons, List.map_nil, List.append_nil, List.nil_append, List.cons_append, Int32.reduceLT, Int32.reduceLE, Int32.reduceAdd, Int32.reduceSub, Int32.reduceMul, Int32.reduceToInt, Int32.reduceToNatClampNeg, Int.reduceLT, Int.reduceLE, Int.reduceNeg, true_and, and_true, or_self, or_false, false_or, false_and, and_false, true_or, or_true, if_true, if_false, ne_eq, Classical.not_not, not_true_eq_false, not_false_eq_true, true_implies, false_implies, implies_true, Nat.reduceEqDiff, Nat.reduceAdd, Nat.reduceLeDiff, Nat.reduceSub, reduceCtorEq, reduceIte, b76_188, m0, m3, m4, k47, h0]
    refine aEv_mono hq ?_
    intro r h1 ⟨hr, q⟩
    exact tn_ct s mx m0 m2 hce hr q
theorem tn_52 {t : Nat} {L : ALS} (T : Turn G p pc t d h L) (hp : pc < pCz G) (ho : G.1 1 pc = 25) (hq : aEv (d - 1) 52 [.ref 47, .int (G.1 2 pc)] h (fun r h1 => r = none ∧ NX d t Q h1)) : aWP d 76 29 L [] h Q := by
  refine tn_go T hp ?_
  obtain ⟨s, P, hz, r2, go, pl, hpc, ht, lx, l0, l2, hd⟩ := T
  have k47 : hK h 47 = 4 := s.1 47 (by decide)
  have h0 : 0 < d := by omega
  have m0 : lgv (lst1 (lst1 L 3 (.int (G.1 1 pc))) 4 (.int (G.1 2 pc))) 0 = .ref 47 := (lx_ot (lx_st lx) (by decide)).trans ((lx_ot lx (by decide)).trans l0)
  have m2 : lgv (lst1 (lst1 L 3 (.int (G.1 1 pc))) 4 (.int (G.1 2 pc))) 2 = .int (nI t) := (lx_ot (lx_st lx) (by decide)).trans ((lx_ot lx (by decide)).trans l2)
  have m3 : lgv (lst1 (lst1 L 3 (.int (G.1 1 pc))) 4 (.int (G.1 2 pc))) 3 = .int (G.1 1 pc) := (lx_ot (lx_st lx) (by decide)).trans lgv_st
  have m4 : lgv (lst1 (lst1 L 3 (.int (G.1 1 pc))) 4 (.int (G.1 2 pc))) 4 = .int (G.1 2 pc) := lgv_st
  have mx : LX 47 (lst1 (lst1 L 3 (.int (G.1 1 pc))) 4 (.int (G.1 2 pc))) := lx_st (lx_st lx)
  generalize lst1 (lst1 L 3 (.int (G.1 1 pc))) 4 (.int (G.1 2 pc)) = L2 at *
  have hce : ∀ h1, aWP d 76 204 L2 [] h1 Q ↔ aWP d 76 259 L2 [] h1 Q := fun h1 => by simp only [lv_args, z_v, z_lg, z_h, z_u, z_u1, z_c, z_ct, z_sk, sbne, lst1_d, ldel, lst2_d, ldel2, z_sw, z_rok, zi, eq_self, List.map_cons, List.map_nil, List.append_nil, List.nil_append, List.cons_append, Int32.reduceLT, Int32.reduceLE, Int32.reduceAdd, Int32.reduceSub, Int32.reduceMul, Int32.reduceToInt, Int32.reduceToNatClampNeg, Int.reduceLT, Int.reduceLE, Int.reduceNeg, true_and, and_true, or_self, or_false, false_or, false_and, and_false, true_or, or_true, if_true, if_false, ne_eq, Classical.not_not, not_true_eq_false, not_false_eq_true, true_implies, false_implies, implies_true, Nat.reduceEqDiff, Nat.reduceAdd, Nat.reduceLeDiff, Nat.reduceSub, reduceCtorEq, reduceIte, b76_198]
  rcases ho with ho <;>
  · try rw [ho] at hq
    rw [ho] at m3 ⊢
    refine sw_at (show aWP d 76 198 L2 [] h Q from ?_)
    simp only [lv_args, z_v, z_lg, z_h, z_u, z_u1, z_c, z_ct, z_sk, sbne, lst1_d, ldel, lst2_d, ldel2, z_sw, z_rok, zi, eq_self, List.map_cons, List.map_nil, List.append_nil, List.nil_append, List.cons_append, Int32.reduceLT, Int32.reduceLE, Int32.reduceAdd, Int32.reduceSub, Int32.reduceMul, Int32.reduceToInt, Int32.reduceToNatClampNeg, Int.reduceLT, Int.reduceLE, Int.reduceNeg, true_and, and_true, or_self, or_false, false_or, false_and, and_false, true_or, or_true, if_true, if_false, ne_eq, Classical.not_not, not_true_eq_false, not_false_eq_true, true_implies, false_implies, implies_true, Nat.reduceEqDiff, Nat.reduceAdd, Nat.reduceLeDiff, Nat.reduceSub, reduceCtorEq, reduceIte, b76_198, m0, m3, m4, k47, h0]
    refine aEv_mono hq ?_
    intro r h1 ⟨hr, q⟩
    exact tn_ct s mx m0 m2 hce hr q
theorem tn_49a {t : Nat} {L : ALS} (T : Turn G p pc t d h L) (hp : pc < pCz G) (ho : G.1 1 pc = 32) (hq : aEv (d - 1) 49 [.ref 47, .int (G.1 2 pc), .int 0] h (fun r h1 => r = none ∧ NX d t Q h1)) : aWP d 76 29 L [] h Q := by
  refine tn_go T hp ?_
  obtain ⟨s, P, hz, r2, go, pl, hpc, ht, lx, l0, l2, hd⟩ := T
  have k47 : hK h 47 = 4 := s.1 47 (by decide)
  have h0 : 0 < d := by omega
  have m0 : lgv (lst1 (lst1 L 3 (.int (G.1 1 pc))) 4 (.int (G.1 2 pc))) 0 = .ref 47 := (lx_ot (lx_st lx) (by decide)).trans ((lx_ot lx (by decide)).trans l0)
  have m2 : lgv (lst1 (lst1 L 3 (.int (G.1 1 pc))) 4 (.int (G.1 2 pc))) 2 = .int (nI t) := (lx_ot (lx_st lx) (by decide)).trans ((lx_ot lx (by decide)).trans l2)
  have m3 : lgv (lst1 (lst1 L 3 (.int (G.1 1 pc))) 4 (.int (G.1 2 pc))) 3 = .int (G.1 1 pc) := (lx_ot (lx_st lx) (by decide)).trans lgv_st
  have m4 : lgv (lst1 (lst1 L 3 (.int (G.1 1 pc))) 4 (.int (G.1 2 pc))) 4 = .int (G.1 2 pc) := lgv_st
  have mx : LX 47 (lst1 (lst1 L 3 (.int (G.1 1 pc))) 4 (.int (G.1 2 pc))) := lx_st (lx_st lx)
  generalize lst1 (lst1 L 3 (.int (G.1 1 pc))) 4 (.int (G.1 2 pc)) = L2 at *
  have hce : ∀ h1, aWP d 76 224 L2 [] h1 Q ↔ aWP d 76 259 L2 [] h1 Q := fun h1 => by simp only [lv_args, z_v, z_lg, z_h, z_u, z_u1, z_c, z_ct, z_sk, sbne, lst1_d, ldel, lst2_d, ldel2, z_sw, z_rok, zi, eq_self, List.map_cons, List.map_nil, List.append_nil, List.nil_append, List.cons_append, Int32.reduceLT, Int32.reduceLE, Int32.reduceAdd, Int32.reduceSub, Int32.reduceMul, Int32.reduceToInt, Int32.reduceToNatClampNeg, Int.reduceLT, Int.reduceLE, Int.reduceNeg, true_and, and_true, or_self, or_false, false_or, false_and, and_false, true_or, or_true, if_true, if_false, ne_eq, Classical.not_not, not_true_eq_false, not_false_eq_true, true_implies, false_implies, implies_true, Nat.reduceEqDiff, Nat.reduceAdd, Nat.reduceLeDiff, Nat.reduceSub, reduceCtorEq, reduceIte, b76_221]
  rcases ho with ho <;>
  · try rw [ho] at hq
    rw [ho] at m3 ⊢
    refine sw_at (show aWP d 76 207 L2 [] h Q from ?_)
    simp only [lv_args, z_v, z_lg, z_h, z_u, z_u1, z_c, z_ct, z_sk, sbne, lst1_d, ldel, lst2_d, ldel2, z_sw, z_rok, zi, eq_self, List.map_cons, List.map_nil, List.append_nil, List.nil_append, List.cons_append, Int32.reduceLT, Int32.reduceLE, Int32.reduceAdd, Int32.reduceSub, Int32.reduceMul, Int32.reduceToInt, Int32.reduceToNatClampNeg, Int.reduceLT, Int.reduceLE, Int.reduceNeg, true_and, and_true, or_self, or_false, false_or, false_and, and_false, true_or, or_true, if_true, if_false, ne_eq, Classical.not_not, not_true_eq_false, not_false_eq_true, true_implies, false_implies, implies_true, Nat.reduceEqDiff, Nat.reduceAdd, Nat.reduceLeDiff, Nat.reduceSub, reduceCtorEq, reduceIte, b76_207, b76_216, b76_220, b76_221, m0, m3, m4, k47, h0, i32_3233]
    refine aEv_mono hq ?_
    intro r h1 ⟨hr, q⟩
    exact tn_ct s mx m0 m2 hce hr q
theorem tn_49b {t : Nat} {L : ALS} (T : Turn G p pc t d h L) (hp : pc < pCz G) (ho : G.1 1 pc = 33) (hq : aEv (d - 1) 49 [.ref 47, .int (G.1 2 pc), .int 1] h (fun r h1 => r = none ∧ NX d t Q h1)) : aWP d 76 29 L [] h Q := by
  refine tn_go T hp ?_
  obtain ⟨s, P, hz, r2, go, pl, hpc, ht, lx, l0, l2, hd⟩ := T
  have k47 : hK h 47 = 4 := s.1 47 (by decide)
  have h0 : 0 < d := by omega
  have m0 : lgv (lst1 (lst1 L 3 (.int (G.1 1 pc))) 4 (.int (G.1 2 pc))) 0 = .ref 47 := (lx_ot (lx_st lx) (by decide)).trans ((lx_ot lx (by decide)).trans l0)
  have m2 : lgv (lst1 (lst1 L 3 (.int (G.1 1 pc))) 4 (.int (G.1 2 pc))) 2 = .int (nI t) := (lx_ot (lx_st lx) (by decide)).trans ((lx_ot lx (by decide)).trans l2)
  have m3 : lgv (lst1 (lst1 L 3 (.int (G.1 1 pc))) 4 (.int (G.1 2 pc))) 3 = .int (G.1 1 pc) := (lx_ot (lx_st lx) (by decide)).trans lgv_st
  have m4 : lgv (lst1 (lst1 L 3 (.int (G.1 1 pc))) 4 (.int (G.1 2 pc))) 4 = .int (G.1 2 pc) := lgv_st
  have mx : LX 47 (lst1 (lst1 L 3 (.int (G.1 1 pc))) 4 (.int (G.1 2 pc))) := lx_st (lx_st lx)
  generalize lst1 (lst1 L 3 (.int (G.1 1 pc))) 4 (.int (G.1 2 pc)) = L2 at *
  have hce : ∀ h1, aWP d 76 224 L2 [] h1 Q ↔ aWP d 76 259 L2 [] h1 Q := fun h1 => by simp only [lv_args, z_v, z_lg, z_h, z_u, z_u1, z_c, z_ct, z_sk, sbne, lst1_d, ldel, lst2_d, ldel2, z_sw, z_rok, zi, eq_self, List.map_cons, List.map_nil, List.append_nil, List.nil_append, List.cons_append, Int32.reduceLT, Int32.reduceLE, Int32.reduceAdd, Int32.reduceSub, Int32.reduceMul, Int32.reduceToInt, Int32.reduceToNatClampNeg, Int.reduceLT, Int.reduceLE, Int.reduceNeg, true_and, and_true, or_self, or_false, false_or, false_and, and_false, true_or, or_true, if_true, if_false, ne_eq, Classical.not_not, not_true_eq_false, not_false_eq_true, true_implies, false_implies, implies_true, Nat.reduceEqDiff, Nat.reduceAdd, Nat.reduceLeDiff, Nat.reduceSub, reduceCtorEq, reduceIte, b76_221]
  rcases ho with ho <;>
  · try rw [ho] at hq
    rw [ho] at m3 ⊢
    refine sw_at (show aWP d 76 207 L2 [] h Q from ?_)
    simp only [lv_args, z_v, z_lg, z_h, z_u, z_u1, z_c, z_ct, z_sk, sbne, lst1_d, ldel, lst2_d, ldel2, z_sw, z_rok, zi, eq_self, List.map_cons, List.map_nil, List.append_nil, List.nil_append, List.cons_append, Int32.reduceLT, Int32.reduceLE, Int32.reduceAdd, Int32.reduceSub, Int32.reduceMul, Int32.reduceToInt, Int32.reduceToNatClampNeg, Int.reduceLT, Int.reduceLE, Int.reduceNeg, true_and, and_true, or_self, or_false, false_or, false_and, and_false, true_or, or_true, if_true, if_false, ne_eq, Classical.not_not, not_true_eq_false, not_false_eq_true, true_implies, false_implies, implies_true, Nat.reduceEqDiff, Nat.reduceAdd, Nat.reduceLeDiff, Nat.reduceSub, reduceCtorEq, reduceIte, b76_207, b76_216, b76_220, b76_221, m0, m3, m4, k47, h0, i32_3233]
    refine aEv_mono hq ?_
    intro r h1 ⟨hr, q⟩
    exact tn_ct s mx m0 m2 hce hr q
theorem tn_56 {t : Nat} {L : ALS} (T : Turn G p pc t d h L) (hp : pc < pCz G) (ho : G.1 1 pc = 34) (hq : aEv (d - 1) 56 [.ref 47] h (fun r h1 => r = none ∧ NX d t Q h1)) : aWP d 76 29 L [] h Q := by
  refine tn_go T hp ?_
  obtain ⟨s, P, hz, r2, go, pl, hpc, ht, lx, l0, l2, hd⟩ := T
  have k47 : hK h 47 = 4 := s.1 47 (by decide)
  have h0 : 0 < d := by omega
  have m0 : lgv (lst1 (lst1 L 3 (.int (G.1 1 pc))) 4 (.int (G.1 2 pc))) 0 = .ref 47 := (lx_ot (lx_st lx) (by decide)).trans ((lx_ot lx (by decide)).trans l0)
  have m2 : lgv (lst1 (lst1 L 3 (.int (G.1 1 pc))) 4 (.int (G.1 2 pc))) 2 = .int (nI t) := (lx_ot (lx_st lx) (by decide)).trans ((lx_ot lx (by decide)).trans l2)
  have m3 : lgv (lst1 (lst1 L 3 (.int (G.1 1 pc))) 4 (.int (G.1 2 pc))) 3 = .int (G.1 1 pc) := (lx_ot (lx_st lx) (by decide)).trans lgv_st
  have m4 : lgv (lst1 (lst1 L 3 (.int (G.1 1 pc))) 4 (.int (G.1 2 pc))) 4 = .int (G.1 2 pc) := lgv_st
  have mx : LX 47 (lst1 (lst1 L 3 (.int (G.1 1 pc))) 4 (.int (G.1 2 pc))) := lx_st (lx_st lx)
  generalize lst1 (lst1 L 3 (.int (G.1 1 pc))) 4 (.int (G.1 2 pc)) = L2 at *
  have hce : ∀ h1, aWP d 76 231 L2 [] h1 Q ↔ aWP d 76 259 L2 [] h1 Q := fun h1 => by simp only [lv_args, z_v, z_lg, z_h, z_u, z_u1, z_c, z_ct, z_sk, sbne, lst1_d, ldel, lst2_d, ldel2, z_sw, z_rok, zi, eq_self, List.map_cons, List.map_nil, List.append_nil, List.nil_append, List.cons_append, Int32.reduceLT, Int32.reduceLE, Int32.reduceAdd, Int32.reduceSub, Int32.reduceMul, Int32.reduceToInt, Int32.reduceToNatClampNeg, Int.reduceLT, Int.reduceLE, Int.reduceNeg, true_and, and_true, or_self, or_false, false_or, false_and, and_false, true_or, or_true, if_true, if_false, ne_eq, Classical.not_not, not_true_eq_false, not_false_eq_true, true_implies, false_implies, implies_true, Nat.reduceEqDiff, Nat.reduceAdd, Nat.reduceLeDiff, Nat.reduceSub, reduceCtorEq, reduceIte, b76_227]
  rcases ho with ho <;>
  · try rw [ho] at hq
    rw [ho] at m3 ⊢
    refine sw_at (show aWP d 76 227 L2 [] h Q from ?_)
    simp only [lv_args, z_v, z_lg, z_h, z_u, z_u1, z_c, z_ct, z_sk, sbne, lst1_d, ldel, lst2_d, ldel2, z_sw, z_rok, zi, eq_self, List.map_cons, List.map_nil, List.append_nil, List.nil_append, List.cons_append, Int32.reduceLT, Int32.reduceLE, Int32.reduceAdd, Int32.reduceSub, Int32.reduceMul, Int32.reduceToInt, Int32.reduceToNatClampNeg, Int.reduceLT, Int.reduceLE, Int.reduceNeg, true_and, and_true, or_self, or_false, false_or, false_and, and_false, true_or, or_true, if_true, if_false, ne_eq, Classical.not_not, not_true_eq_false, not_false_eq_true, true_implies, false_implies, implies_true, Nat.reduceEqDiff, Nat.reduceAdd, Nat.reduceLeDiff, Nat.reduceSub, reduceCtorEq, reduceIte, b76_227, m0, m3, m4, k47, h0]
    refine aEv_mono hq ?_
    intro r h1 ⟨hr, q⟩
    exact tn_ct s mx m0 m2 hce hr q
theorem tn_59 {t : Nat} {L : ALS} (T : Turn G p pc t d h L) (hp : pc < pCz G) (ho : G.1 1 pc = 30 ∨ G.1 1 pc = 31 ∨ G.1 1 pc = 35) (hq : aEv (d - 1) 59 [.ref 47, .int (G.1 1 pc), .int (G.1 2 pc)] h (fun r h1 => r = none ∧ NX d t Q h1)) : aWP d 76 29 L [] h Q := by
  refine tn_go T hp ?_
  obtain ⟨s, P, hz, r2, go, pl, hpc, ht, lx, l0, l2, hd⟩ := T
  have k47 : hK h 47 = 4 := s.1 47 (by decide)
  have h0 : 0 < d := by omega
  have m0 : lgv (lst1 (lst1 L 3 (.int (G.1 1 pc))) 4 (.int (G.1 2 pc))) 0 = .ref 47 := (lx_ot (lx_st lx) (by decide)).trans ((lx_ot lx (by decide)).trans l0)
  have m2 : lgv (lst1 (lst1 L 3 (.int (G.1 1 pc))) 4 (.int (G.1 2 pc))) 2 = .int (nI t) := (lx_ot (lx_st lx) (by decide)).trans ((lx_ot lx (by decide)).trans l2)
  have m3 : lgv (lst1 (lst1 L 3 (.int (G.1 1 pc))) 4 (.int (G.1 2 pc))) 3 = .int (G.1 1 pc) := (lx_ot (lx_st lx) (by decide)).trans lgv_st
  have m4 : lgv (lst1 (lst1 L 3 (.int (G.1 1 pc))) 4 (.int (G.1 2 pc))) 4 = .int (G.1 2 pc) := lgv_st
  have mx : LX 47 (lst1 (lst1 L 3 (.int (G.1 1 pc))) 4 (.int (G.1 2 pc))) := lx_st (lx_st lx)
  generalize lst1 (lst1 L 3 (.int (G.1 1 pc))) 4 (.int (G.1 2 pc)) = L2 at *
  have hce : ∀ h1, aWP d 76 241 L2 [] h1 Q ↔ aWP d 76 259 L2 [] h1 Q := fun h1 => by simp only [lv_args, z_v, z_lg, z_h, z_u, z_u1, z_c, z_ct, z_sk, sbne, lst1_d, ldel, lst2_d, ldel2, z_sw, z_rok, zi, eq_self, List.map_cons, List.map_nil, List.append_nil, List.nil_append, List.cons_append, Int32.reduceLT, Int32.reduceLE, Int32.reduceAdd, Int32.reduceSub, Int32.reduceMul, Int32.reduceToInt, Int32.reduceToNatClampNeg, Int.reduceLT, Int.reduceLE, Int.reduceNeg, true_and, and_true, or_self, or_false, false_or, false_and, and_false, true_or, or_true, if_true, if_false, ne_eq, Classical.not_not, not_true_eq_false, not_false_eq_true, true_implies, false_implies, implies_true, Nat.reduceEqDiff, Nat.reduceAdd, Nat.reduceLeDiff, Nat.reduceSub, reduceCtorEq, reduceIte, b76_234]
  rcases ho with ho | ho | ho <;>
  · try rw [ho] at hq
    rw [ho] at m3 ⊢
    refine sw_at (show aWP d 76 234 L2 [] h Q from ?_)
    simp only [lv_args, z_v, z_lg, z_h, z_u, z_u1, z_c, z_ct, z_sk, sbne, lst1_d, ldel, lst2_d, ldel2, z_sw, z_rok, zi, eq_self, List.map_cons, List.map_nil, List.append_nil, List.nil_append, List.cons_append, Int32.reduceLT, Int32.reduceLE, Int32.reduceAdd, Int32.reduceSub, Int32.reduceMul, Int32.reduceToInt, Int32.reduceToNatClampNeg, Int.reduceLT, Int.reduceLE, Int.reduceNeg, true_and, and_true, or_self, or_false, false_or, false_and, and_false, true_or, or_true, if_true, if_false, ne_eq, Classical.not_not, not_true_eq_false, not_false_eq_true, true_implies, false_implies, implies_true, Nat.reduceEqDiff, Nat.reduceAdd, Nat.reduceLeDiff, Nat.reduceSub, reduceCtorEq, reduceIte, b76_234, m0, m3, m4, k47, h0]
    refine aEv_mono hq ?_
    intro r h1 ⟨hr, q⟩
    exact tn_ct s mx m0 m2 hce hr q
theorem tn_go36 {t : Nat} {L : ALS} (T : Turn G p pc t d h L) (hp : pCz G ≤ pc) (hq : swA [(16, 168), (17, 168), (18, 168), (19, 178), (20, 178), (21, 178), (22, 188), (23, 188), (24, 188), (25, 198), (26, 252), (27, 252), (28, 252), (29, 252), (30, 234), (31, 234), (32, 207), (33, 207), (34, 227), (35, 234), (36, 244)] (36) (fun t => aWP d 76 t (lst1 (lst1 L 3 (.int (36))) 4 (.int (0))) [] h Q) 252) : aWP d 76 29 L [] h Q := by
  obtain ⟨s, P, hz, r2, go, pl, hpc, ht, lx, l0, l2, hd⟩ := T
  have k47 : hK h 47 = 4 := s.1 47 (by decide)
  have kp : hK h p = 7 := by rcases P.1 with rfl | rfl <;> exact s.1 _ (by decide)
  have h0 : 0 < d := by omega
  simp (disch := omega) only [b76_29, l2, z_v, nI_e9, nI_leN, true_and]
  refine ⟨fun c => absurd c (by omega), fun _ => ?_⟩
  simp only [b76_35, l0, z_v, k47, go, true_and]
  refine ⟨fun c => absurd c (by decide), fun _ => ?_⟩
  simp only [lv_args, z_v, z_lg, z_h, z_u, z_u1, z_c, z_ct, z_sk, sbne, lst1_d, ldel, lst2_d, ldel2, z_sw, z_rok, zi, eq_self, List.map_cons, List.map_nil, List.append_nil, List.nil_append, List.cons_append, Int32.reduceLT, Int32.reduceLE, Int32.reduceAdd, Int32.reduceSub, Int32.reduceMul, Int32.reduceToInt, Int32.reduceToNatClampNeg, Int.reduceLT, Int.reduceLE, Int.reduceNeg, true_and, and_true, or_self, or_false, false_or, false_and, and_false, true_or, or_true, if_true, if_false, ne_eq, Classical.not_not, not_true_eq_false, not_false_eq_true, true_implies, false_implies, implies_true, Nat.reduceEqDiff, Nat.reduceAdd, Nat.reduceLeDiff, Nat.reduceSub, reduceCtorEq, reduceIte, b76_42, l0, k47, r2, pl, h0, kp]
  refine px_op36 s P hz hp hpc ⟨rfl, Or.inl rfl, (b76_42.2.2.2.2.2.1 _ _ _ _ _ _).mpr ⟨trivial, ?_⟩⟩
  show aWP d 76 54 (lst1 L 3 (.int (36))) [] h Q
  have m0 : lgv (lst1 L 3 (.int (36))) 0 = .ref 47 := (lx_ot lx (by decide)).trans l0
  have m3 : lgv (lst1 L 3 (.int (36))) 3 = .int (36) := lgv_st
  have mx : LX 47 (lst1 L 3 (.int (36))) := lx_st lx
  generalize lst1 L 3 (.int (36)) = L1 at *
  simp only [lv_args, z_v, z_lg, z_h, z_u, z_u1, z_c, z_ct, z_sk, sbne, lst1_d, ldel, lst2_d, ldel2, z_sw, z_rok, zi, eq_self, List.map_cons, List.map_nil, List.append_nil, List.nil_append, List.cons_append, Int32.reduceLT, Int32.reduceLE, Int32.reduceAdd, Int32.reduceSub, Int32.reduceMul, Int32.reduceToInt, Int32.reduceToNatClampNeg, Int.reduceLT, Int.reduceLE, Int.reduceNeg, true_and, and_true, or_self, or_false, false_or, false_and, and_false, true_or, or_true, if_true, if_false, ne_eq, Classical.not_not, not_true_eq_false, not_false_eq_true, true_implies, false_implies, implies_true, Nat.reduceEqDiff, Nat.reduceAdd, Nat.reduceLeDiff, Nat.reduceSub, reduceCtorEq, reduceIte, b76_42, m0, k47, r2, pl, h0, kp]
  refine px_ar36 s P hz hp hpc ?_
  refine ⟨rfl, Or.inl rfl, (b76_42.2.2.2.2.2.2.2.2.2.2.2.1 _ _ _ _ _ _).mpr ⟨trivial, ?_⟩⟩
  show aWP d 76 67 (lst1 L1 4 (.int (0))) [] h Q
  have n3 : lgv (lst1 L1 4 (.int (0))) 3 = .int (36) := (lx_ot mx (by decide)).trans m3
  generalize lst1 L1 4 (.int (0)) = L2 at *
  refine (b76_42.2.2.2.2.2.2.2.2.2.2.2.2.1 _ _ _ _ _).mpr ⟨by rw [n3]; trivial, ?_⟩
  rw [n3]
  exact (b76_42.2.2.2.2.2.2.2.2.2.2.2.2.2 _ _ _ _ _ _).mpr hq
theorem tn_57 {t : Nat} {L : ALS} (T : Turn G p pc t d h L) (hp : pc < pCz G) (ho : G.1 1 pc = 36) (hq : aEv (d - 1) 57 [.ref 47, .int 0] h (fun r h1 => r = none ∧ NX d t Q h1)) : aWP d 76 29 L [] h Q := by
  refine tn_go T hp ?_
  obtain ⟨s, P, hz, r2, go, pl, hpc, ht, lx, l0, l2, hd⟩ := T
  have k47 : hK h 47 = 4 := s.1 47 (by decide)
  have h0 : 0 < d := by omega
  have m0 : lgv (lst1 (lst1 L 3 (.int (G.1 1 pc))) 4 (.int (G.1 2 pc))) 0 = .ref 47 := (lx_ot (lx_st lx) (by decide)).trans ((lx_ot lx (by decide)).trans l0)
  have m2 : lgv (lst1 (lst1 L 3 (.int (G.1 1 pc))) 4 (.int (G.1 2 pc))) 2 = .int (nI t) := (lx_ot (lx_st lx) (by decide)).trans ((lx_ot lx (by decide)).trans l2)
  have m3 : lgv (lst1 (lst1 L 3 (.int (G.1 1 pc))) 4 (.int (G.1 2 pc))) 3 = .int (G.1 1 pc) := (lx_ot (lx_st lx) (by decide)).trans lgv_st
  have m4 : lgv (lst1 (lst1 L 3 (.int (G.1 1 pc))) 4 (.int (G.1 2 pc))) 4 = .int (G.1 2 pc) := lgv_st
  have mx : LX 47 (lst1 (lst1 L 3 (.int (G.1 1 pc))) 4 (.int (G.1 2 pc))) := lx_st (lx_st lx)
  generalize lst1 (lst1 L 3 (.int (G.1 1 pc))) 4 (.int (G.1 2 pc)) = L2 at *
  have hce : ∀ h1, aWP d 76 249 L2 [] h1 Q ↔ aWP d 76 259 L2 [] h1 Q := fun h1 => by simp only [lv_args, z_v, z_lg, z_h, z_u, z_u1, z_c, z_ct, z_sk, sbne, lst1_d, ldel, lst2_d, ldel2, z_sw, z_rok, zi, eq_self, List.map_cons, List.map_nil, List.append_nil, List.nil_append, List.cons_append, Int32.reduceLT, Int32.reduceLE, Int32.reduceAdd, Int32.reduceSub, Int32.reduceMul, Int32.reduceToInt, Int32.reduceToNatClampNeg, Int.reduceLT, Int.reduceLE, Int.reduceNeg, true_and, and_true, or_self, or_false, false_or, false_and, and_false, true_or, or_true, if_true, if_false, ne_eq, Classical.not_not, not_true_eq_false, not_false_eq_true, true_implies, false_implies, implies_true, Nat.reduceEqDiff, Nat.reduceAdd, Nat.reduceLeDiff, Nat.reduceSub, reduceCtorEq, reduceIte, b76_244]
  rcases ho with ho <;>
  · try rw [ho] at hq
    rw [ho] at m3 ⊢
    refine sw_at (show aWP d 76 244 L2 [] h Q from ?_)
    simp only [lv_args, z_v, z_lg, z_h, z_u, z_u1, z_c, z_ct, z_sk, sbne, lst1_d, ldel, lst2_d, ldel2, z_sw, z_rok, zi, eq_self, List.map_cons, List.map_nil, List.append_nil, List.nil_append, List.cons_append, Int32.reduceLT, Int32.reduceLE, Int32.reduceAdd, Int32.reduceSub, Int32.reduceMul, Int32.reduceToInt, Int32.reduceToNatClampNeg, Int.reduceLT, Int.reduceLE, Int.reduceNeg, true_and, and_true, or_self, or_false, false_or, false_and, and_false, true_or, or_true, if_true, if_false, ne_eq, Classical.not_not, not_true_eq_false, not_false_eq_true, true_implies, false_implies, implies_true, Nat.reduceEqDiff, Nat.reduceAdd, Nat.reduceLeDiff, Nat.reduceSub, reduceCtorEq, reduceIte, b76_244, m0, m3, m4, k47, h0]
    refine aEv_mono hq ?_
    intro r h1 ⟨hr, q⟩
    exact tn_ct s mx m0 m2 hce hr q
theorem tn_57e {t : Nat} {L : ALS} (T : Turn G p pc t d h L) (hp : pCz G ≤ pc) (hq : aEv (d - 1) 57 [.ref 47, .int 0] h (fun r h1 => r = none ∧ NX d t Q h1)) : aWP d 76 29 L [] h Q := by
  refine tn_go36 T hp ?_
  obtain ⟨s, P, hz, r2, go, pl, hpc, ht, lx, l0, l2, hd⟩ := T
  have k47 : hK h 47 = 4 := s.1 47 (by decide)
  have h0 : 0 < d := by omega
  have m0 : lgv (lst1 (lst1 L 3 (.int (36))) 4 (.int (0))) 0 = .ref 47 := (lx_ot (lx_st lx) (by decide)).trans ((lx_ot lx (by decide)).trans l0)
  have m2 : lgv (lst1 (lst1 L 3 (.int (36))) 4 (.int (0))) 2 = .int (nI t) := (lx_ot (lx_st lx) (by decide)).trans ((lx_ot lx (by decide)).trans l2)
  have m3 : lgv (lst1 (lst1 L 3 (.int (36))) 4 (.int (0))) 3 = .int (36) := (lx_ot (lx_st lx) (by decide)).trans lgv_st
  have m4 : lgv (lst1 (lst1 L 3 (.int (36))) 4 (.int (0))) 4 = .int (0) := lgv_st
  have mx : LX 47 (lst1 (lst1 L 3 (.int (36))) 4 (.int (0))) := lx_st (lx_st lx)
  generalize lst1 (lst1 L 3 (.int (36))) 4 (.int (0)) = L2 at *
  have hce : ∀ h1, aWP d 76 249 L2 [] h1 Q ↔ aWP d 76 259 L2 [] h1 Q := fun h1 => by simp only [lv_args, z_v, z_lg, z_h, z_u, z_u1, z_c, z_ct, z_sk, sbne, lst1_d, ldel, lst2_d, ldel2, z_sw, z_rok, zi, eq_self, List.map_cons, List.map_nil, List.append_nil, List.nil_append, List.cons_append, Int32.reduceLT, Int32.reduceLE, Int32.reduceAdd, Int32.reduceSub, Int32.reduceMul, Int32.reduceToInt, Int32.reduceToNatClampNeg, Int.reduceLT, Int.reduceLE, Int.reduceNeg, true_and, and_true, or_self, or_false, false_or, false_and, and_false, true_or, or_true, if_true, if_false, ne_eq, Classical.not_not, not_true_eq_false, not_false_eq_true, true_implies, false_implies, implies_true, Nat.reduceEqDiff, Nat.reduceAdd, Nat.reduceLeDiff, Nat.reduceSub, reduceCtorEq, reduceIte, b76_244]
  refine sw_at (show aWP d 76 244 L2 [] h Q from ?_)
  simp only [lv_args, z_v, z_lg, z_h, z_u, z_u1, z_c, z_ct, z_sk, sbne, lst1_d, ldel, lst2_d, ldel2, z_sw, z_rok, zi, eq_self, List.map_cons, List.map_nil, List.append_nil, List.nil_append, List.cons_append, Int32.reduceLT, Int32.reduceLE, Int32.reduceAdd, Int32.reduceSub, Int32.reduceMul, Int32.reduceToInt, Int32.reduceToNatClampNeg, Int.reduceLT, Int.reduceLE, Int.reduceNeg, true_and, and_true, or_self, or_false, false_or, false_and, and_false, true_or, or_true, if_true, if_false, ne_eq, Classical.not_not, not_true_eq_false, not_false_eq_true, true_implies, false_implies, implies_true, Nat.reduceEqDiff, Nat.reduceAdd, Nat.reduceLeDiff, Nat.reduceSub, reduceCtorEq, reduceIte, b76_244, m0, m3, m4, k47, h0]
  refine aEv_mono hq ?_
  intro r h1 ⟨hr, q⟩
  exact tn_ct s mx m0 m2 hce hr q
theorem tn_66 {t : Nat} {L : ALS} (T : Turn G p pc t d h L) (hp : pc < pCz G) (ho : G.1 1 pc = 1 ∨ G.1 1 pc = 2 ∨ G.1 1 pc = 3 ∨ G.1 1 pc = 4 ∨ G.1 1 pc = 5 ∨ G.1 1 pc = 6 ∨ G.1 1 pc = 8 ∨ G.1 1 pc = 26 ∨ G.1 1 pc = 27 ∨ G.1 1 pc = 28 ∨ G.1 1 pc = 29) (hq : aEv (d - 1) 66 [.ref 47, .int (G.1 1 pc), .int (G.1 2 pc)] h (fun r h1 => r = none ∧ NX d t Q h1)) : aWP d 76 29 L [] h Q := by
  refine tn_go T hp ?_
  obtain ⟨s, P, hz, r2, go, pl, hpc, ht, lx, l0, l2, hd⟩ := T
  have k47 : hK h 47 = 4 := s.1 47 (by decide)
  have h0 : 0 < d := by omega
  have m0 : lgv (lst1 (lst1 L 3 (.int (G.1 1 pc))) 4 (.int (G.1 2 pc))) 0 = .ref 47 := (lx_ot (lx_st lx) (by decide)).trans ((lx_ot lx (by decide)).trans l0)
  have m2 : lgv (lst1 (lst1 L 3 (.int (G.1 1 pc))) 4 (.int (G.1 2 pc))) 2 = .int (nI t) := (lx_ot (lx_st lx) (by decide)).trans ((lx_ot lx (by decide)).trans l2)
  have m3 : lgv (lst1 (lst1 L 3 (.int (G.1 1 pc))) 4 (.int (G.1 2 pc))) 3 = .int (G.1 1 pc) := (lx_ot (lx_st lx) (by decide)).trans lgv_st
  have m4 : lgv (lst1 (lst1 L 3 (.int (G.1 1 pc))) 4 (.int (G.1 2 pc))) 4 = .int (G.1 2 pc) := lgv_st
  have mx : LX 47 (lst1 (lst1 L 3 (.int (G.1 1 pc))) 4 (.int (G.1 2 pc))) := lx_st (lx_st lx)
  generalize lst1 (lst1 L 3 (.int (G.1 1 pc))) 4 (.int (G.1 2 pc)) = L2 at *
  have hce : ∀ h1, aWP d 76 259 L2 [] h1 Q ↔ aWP d 76 259 L2 [] h1 Q := fun h1 => by exact Iff.rfl
  rcases ho with ho | ho | ho | ho | ho | ho | ho | ho | ho | ho | ho <;>
  · try rw [ho] at hq
    rw [ho] at m3 ⊢
    refine sw_at (show aWP d 76 252 L2 [] h Q from ?_)
    simp only [lv_args, z_v, z_lg, z_h, z_u, z_u1, z_c, z_ct, z_sk, sbne, lst1_d, ldel, lst2_d, ldel2, z_sw, z_rok, zi, eq_self, List.map_cons, List.map_nil, List.append_nil, List.nil_append, List.cons_append, Int32.reduceLT, Int32.reduceLE, Int32.reduceAdd, Int32.reduceSub, Int32.reduceMul, Int32.reduceToInt, Int32.reduceToNatClampNeg, Int.reduceLT, Int.reduceLE, Int.reduceNeg, true_and, and_true, or_self, or_false, false_or, false_and, and_false, true_or, or_true, if_true, if_false, ne_eq, Classical.not_not, not_true_eq_false, not_false_eq_true, true_implies, false_implies, implies_true, Nat.reduceEqDiff, Nat.reduceAdd, Nat.reduceLeDiff, Nat.reduceSub, reduceCtorEq, reduceIte, b76_252, m0, m3, m4, k47, h0]
    refine aEv_mono hq ?_
    intro r h1 ⟨hr, q⟩
    exact tn_ct s mx m0 m2 hce hr q
end TRN
