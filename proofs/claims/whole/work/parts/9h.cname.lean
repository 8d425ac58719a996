/-! BUILD. Names as forms -/
theorem fdU_lt {j b : Nat} {sc : List SCe} : ∀ {k : Nat}, fdU j sc k = some b → b < k
  | 0, h => by simp [fdU] at h
  | k + 1, h => by
    rw [fdU_s] at h
    split at h
    · injection h with h
      omega
    · have := fdU_lt h
      omega
section CNM
variable {h h' h0 : Hp} {Q : Option Value → Hp → Prop} {d p c1 c2 n j : Nat} {N : NS} {mt op : List Nat} {K : List KY} {z : CR}
theorem dA_m1 (hl : (gdf N).length ≤ 7000) : (dA N j = -1) = (j ∉ gdf N) := by
  unfold dA
  by_cases c : j ∈ gdf N
  · rw [if_pos c]
    exact propext ⟨fun e => absurd e (nI_m1' (by have := List.idxOf_lt_length_iff.mpr c; omega)), fun w => absurd c w⟩
  · rw [if_neg c]
    exact propext ⟨fun _ => c, fun _ => rfl⟩
theorem oI_m1 {o : Option Nat} (h : ∀ b, o = some b → b < 10000) : (oI o = -1) = (o = none) := by
  cases o with
  | none => exact propext ⟨fun _ => rfl, fun _ => rfl⟩
  | some b => exact propext ⟨fun e => absurd e (nI_m1' (h b rfl)), fun e => by cases e⟩
/-- the number of what a name is defined as -/
theorem sp_dnum (s : Sk h) (da : DAx N K h) (hj : j < K.length) (b46 : hN h 46 ≤ 1000000) (hq : Q (some (.int (dA N j))) h) : aEv d 287 [.ref 39, .int (nI j)] h Q := by
  have e46 := da.2 j hj
  have hl := da.1
  have x1 : (nI j < 0) = False := nI_lt0 (by omega)
  have x2 : (nI (hN h 46) ≤ nI j) = False := by rw [nI_leN (by omega) (by omega)]; exact eq_false (by omega)
  unfold aEv
  simp only [lv_args, z_v, z_lg, z_h, z_u, z_u1, z_c, z_ct, z_sk, sbne, lst1_d, ldel, lst2_d, ldel2, z_sw, z_rok, zi, eq_self, List.map_cons, List.map_nil, List.append_nil, List.nil_append, List.cons_append, Int32.reduceLT, Int32.reduceLE, Int32.reduceAdd, Int32.reduceSub, Int32.reduceMul, Int32.reduceToInt, Int32.reduceToNatClampNeg, Int.reduceLT, Int.reduceLE, Int.reduceNeg, true_and, and_true, or_self, or_false, false_or, false_and, and_false, true_or, or_true, if_true, if_false, ne_eq, Classical.not_not, not_true_eq_false, not_false_eq_true, true_implies, false_implies, implies_true, Nat.reduceEqDiff, Nat.reduceAdd, Nat.reduceLeDiff, Nat.reduceSub, reduceCtorEq, reduceIte, b287_0, x1]
  simp only [lv_args, z_v, z_lg, z_h, z_u, z_u1, z_c, z_ct, z_sk, sbne, lst1_d, ldel, lst2_d, ldel2, z_sw, z_rok, zi, eq_self, List.map_cons, List.map_nil, List.append_nil, List.nil_append, List.cons_append, Int32.reduceLT, Int32.reduceLE, Int32.reduceAdd, Int32.reduceSub, Int32.reduceMul, Int32.reduceToInt, Int32.reduceToNatClampNeg, Int.reduceLT, Int.reduceLE, Int.reduceNeg, true_and, and_true, or_self, or_false, false_or, false_and, and_false, true_or, or_true, if_true, if_false, ne_eq, Classical.not_not, not_true_eq_false, not_false_eq_true, true_implies, false_implies, implies_true, Nat.reduceEqDiff, Nat.reduceAdd, Nat.reduceLeDiff, Nat.reduceSub, reduceCtorEq, reduceIte, b287_4, skX s, srX s, x2]
  simp only [lv_args, z_v, z_lg, z_h, z_u, z_u1, z_c, z_ct, z_sk, sbne, lst1_d, ldel, lst2_d, ldel2, z_sw, z_rok, zi, eq_self, List.map_cons, List.map_nil, List.append_nil, List.nil_append, List.cons_append, Int32.reduceLT, Int32.reduceLE, Int32.reduceAdd, Int32.reduceSub, Int32.reduceMul, Int32.reduceToInt, Int32.reduceToNatClampNeg, Int.reduceLT, Int.reduceLE, Int.reduceNeg, true_and, and_true, or_self, or_false, false_or, false_and, and_false, true_or, or_true, if_true, if_false, ne_eq, Classical.not_not, not_true_eq_false, not_false_eq_true, true_implies, false_implies, implies_true, Nat.reduceEqDiff, Nat.reduceAdd, Nat.reduceLeDiff, Nat.reduceSub, reduceCtorEq, reduceIte, b287_13, b287_23, skX s, srX s]
  simp (disch := omega) only [nI_ti, nI_cl, le0N, ltNN, e46, true_and]
  refine ⟨by omega, ?_⟩
  try simp only [lv_args, z_v, z_lg, z_h, z_u, z_u1, z_c, z_ct, z_sk, sbne, lst1_d, ldel, lst2_d, ldel2, z_sw, z_rok, zi, eq_self, List.map_cons, List.map_nil, List.append_nil, List.nil_append, List.cons_append, Int32.reduceLT, Int32.reduceLE, Int32.reduceAdd, Int32.reduceSub, Int32.reduceMul, Int32.reduceToInt, Int32.reduceToNatClampNeg, Int.reduceLT, Int.reduceLE, Int.reduceNeg, true_and, and_true, or_self, or_false, false_or, false_and, and_false, true_or, or_true, if_true, if_false, ne_eq, Classical.not_not, not_true_eq_false, not_false_eq_true, true_implies, false_implies, implies_true, Nat.reduceEqDiff, Nat.reduceAdd, Nat.reduceLeDiff, Nat.reduceSub, reduceCtorEq, reduceIte, b287_13, b287_23]
  exact hq
theorem sp_mean (cc : CC N mt K p c1 c2 h0) (H : CH0 N K p c1 c2 h0 op z h) (hj : j < K.length) (hd : 1 < d) (hq : Q (some (.int (bI (cMn N j z)))) h) : aEv d 15 [.ref 39, .int (nI j)] h Q := by
  have h00 : 0 < d := by omega
  have s := H.1.1.1
  have sc := H.2.2.2.2.1
  have da := H.2.2.1
  have hK : K.length ≤ 3000 := cc.2.2.2.1.1.1.2
  have e46 := da.2 j hj
  have c46 : (j < hN h 46) = True := eq_true (by have := da.1; omega)
  have hl := cc.2.2.2.2.2.1.2.2
  have hb : ∀ b, cFd j (rSc z) = some b → b < 10000 := fun b hb => by
    have := fdU_lt (k := (rSc z).length) hb
    have := sc.2.1
    omega
  have o1 : Q (some (.int 1)) h → aWP d 15 21 [(0, .ref 39), (1, .int (nI j))] [] h Q := fun q => by
    simp only [lv_args, z_v, z_lg, z_h, z_u, z_u1, z_c, z_ct, z_sk, sbne, lst1_d, ldel, lst2_d, ldel2, z_sw, z_rok, zi, eq_self, List.map_cons, List.map_nil, List.append_nil, List.nil_append, List.cons_append, Int32.reduceLT, Int32.reduceLE, Int32.reduceAdd, Int32.reduceSub, Int32.reduceMul, Int32.reduceToInt, Int32.reduceToNatClampNeg, Int.reduceLT, Int.reduceLE, Int.reduceNeg, true_and, and_true, or_self, or_false, false_or, false_and, and_false, true_or, or_true, if_true, if_false, ne_eq, Classical.not_not, not_true_eq_false, not_false_eq_true, true_implies, false_implies, implies_true, Nat.reduceEqDiff, Nat.reduceAdd, Nat.reduceLeDiff, Nat.reduceSub, reduceCtorEq, reduceIte, b15_21, b15_26]
    exact q
  unfold aEv
  simp only [lv_args, z_v, z_lg, z_h, z_u, z_u1, z_c, z_ct, z_sk, sbne, lst1_d, ldel, lst2_d, ldel2, z_sw, z_rok, zi, eq_self, List.map_cons, List.map_nil, List.append_nil, List.nil_append, List.cons_append, Int32.reduceLT, Int32.reduceLE, Int32.reduceAdd, Int32.reduceSub, Int32.reduceMul, Int32.reduceToInt, Int32.reduceToNatClampNeg, Int.reduceLT, Int.reduceLE, Int.reduceNeg, true_and, and_true, or_self, or_false, false_or, false_and, and_false, true_or, or_true, if_true, if_false, ne_eq, Classical.not_not, not_true_eq_false, not_false_eq_true, true_implies, false_implies, implies_true, Nat.reduceEqDiff, Nat.reduceAdd, Nat.reduceLeDiff, Nat.reduceSub, reduceCtorEq, reduceIte, b15_0, skX s, srX s, h00]
  refine sp_find s sc (by omega) ?_
  simp only [lv_args, z_v, z_lg, z_h, z_u, z_u1, z_c, z_ct, z_sk, sbne, lst1_d, ldel, lst2_d, ldel2, z_sw, z_rok, zi, eq_self, List.map_cons, List.map_nil, List.append_nil, List.nil_append, List.cons_append, Int32.reduceLT, Int32.reduceLE, Int32.reduceAdd, Int32.reduceSub, Int32.reduceMul, Int32.reduceToInt, Int32.reduceToNatClampNeg, Int.reduceLT, Int.reduceLE, Int.reduceNeg, true_and, and_true, or_self, or_false, false_or, false_and, and_false, true_or, or_true, if_true, if_false, ne_eq, Classical.not_not, not_true_eq_false, not_false_eq_true, true_implies, false_implies, implies_true, Nat.reduceEqDiff, Nat.reduceAdd, Nat.reduceLeDiff, Nat.reduceSub, reduceCtorEq, reduceIte, b15_0, skX s, Nat.reduceLT, oI_m1 hb]
  unfold cMn at hq
  refine ⟨fun c => ?_, fun c => ?_⟩
  · obtain ⟨b, eb⟩ := Option.ne_none_iff_exists'.mp c
    rw [eb] at hq
    exact o1 hq
  · rw [c] at hq
    have b46 := (H.1.1.2.2.2.2 46 (by decide)).2
    have y46 : cpR 46 = 3100 := rfl
    simp only [lv_args, z_v, z_lg, z_h, z_u, z_u1, z_c, z_ct, z_sk, sbne, lst1_d, ldel, lst2_d, ldel2, z_sw, z_rok, zi, eq_self, List.map_cons, List.map_nil, List.append_nil, List.nil_append, List.cons_append, Int32.reduceLT, Int32.reduceLE, Int32.reduceAdd, Int32.reduceSub, Int32.reduceMul, Int32.reduceToInt, Int32.reduceToNatClampNeg, Int.reduceLT, Int.reduceLE, Int.reduceNeg, true_and, and_true, or_self, or_false, false_or, false_and, and_false, true_or, or_true, if_true, if_false, ne_eq, Classical.not_not, not_true_eq_false, not_false_eq_true, true_implies, false_implies, implies_true, Nat.reduceEqDiff, Nat.reduceAdd, Nat.reduceLeDiff, Nat.reduceSub, reduceCtorEq, reduceIte, b15_12, skX s, h00]
    refine sp_dnum s da hj (by omega) ?_
    simp only [lv_args, z_v, z_lg, z_h, z_u, z_u1, z_c, z_ct, z_sk, sbne, lst1_d, ldel, lst2_d, ldel2, z_sw, z_rok, zi, eq_self, List.map_cons, List.map_nil, List.append_nil, List.nil_append, List.cons_append, Int32.reduceLT, Int32.reduceLE, Int32.reduceAdd, Int32.reduceSub, Int32.reduceMul, Int32.reduceToInt, Int32.reduceToNatClampNeg, Int.reduceLT, Int.reduceLE, Int.reduceNeg, true_and, and_true, or_self, or_false, false_or, false_and, and_false, true_or, or_true, if_true, if_false, ne_eq, Classical.not_not, not_true_eq_false, not_false_eq_true, true_implies, false_implies, implies_true, Nat.reduceEqDiff, Nat.reduceAdd, Nat.reduceLeDiff, Nat.reduceSub, reduceCtorEq, reduceIte, b15_12, skX s, dA_m1 hl]
    refine ⟨fun c2 => ?_, fun c2 => ?_⟩
    · rw [decide_eq_false c2] at hq
      simp only [lv_args, z_v, z_lg, z_h, z_u, z_u1, z_c, z_ct, z_sk, sbne, lst1_d, ldel, lst2_d, ldel2, z_sw, z_rok, zi, eq_self, List.map_cons, List.map_nil, List.append_nil, List.nil_append, List.cons_append, Int32.reduceLT, Int32.reduceLE, Int32.reduceAdd, Int32.reduceSub, Int32.reduceMul, Int32.reduceToInt, Int32.reduceToNatClampNeg, Int.reduceLT, Int.reduceLE, Int.reduceNeg, true_and, and_true, or_self, or_false, false_or, false_and, and_false, true_or, or_true, if_true, if_false, ne_eq, Classical.not_not, not_true_eq_false, not_false_eq_true, true_implies, false_implies, implies_true, Nat.reduceEqDiff, Nat.reduceAdd, Nat.reduceLeDiff, Nat.reduceSub, reduceCtorEq, reduceIte, b15_25, b15_26]
      exact hq
    · rw [decide_eq_true c2] at hq
      exact o1 hq
theorem gd_Kp {b : Nat} : gd c1 c2 (cKp b z) ↔ gd c1 c2 z := Iff.rfl
theorem sp_var {o dp : Nat} {a : Int32} (cc : CC N mt K p c1 c2 h0) (H : CH N K p c1 c2 h0 op z h) (hk : KI z.2.1) (hj : j < K.length) (hv : gd c1 c2 z → nI (rDp z) + a = nI dp ∧ dp < 1000000 ∧ rDx z < 1000000) (hd : 7 < d) (hq : ∀ h', CH N K p c1 c2 h0 op (cVr N j o dp z) h' → Q none h') : aEv d 29 [.ref 39, .int (nI j), .int (nI o), .int a] h Q := by
  have h00 : 0 < d := by omega
  have s := H.1.1.1.1
  have sc := H.1.2.2.2.2.1
  have da := H.1.2.2.1
  have hK : K.length ≤ 3000 := cc.2.2.2.1.1.1.2
  have e46 := da.2 j hj
  have c46 : (j < hN h 46) = True := eq_true (by have := da.1; omega)
  have hb : ∀ b, cFd j (rSc z) = some b → b < (rSc z).length := fun b hb => fdU_lt (k := (rSc z).length) hb
  have hb2 : ∀ b, cFd j (rSc z) = some b → b < 10000 := fun b e => by
    have := hb b e
    have := sc.2.1
    omega
  have out : ∀ x h', CH N K p c1 c2 h0 op (cVr N j o dp z) h' → aWP d 29 82 [(4, x), (0, .ref 39), (1, .int (nI j)), (2, .int (nI o)), (3, .int a)] [] h' Q := fun x h' w => by
    simp only [lv_args, z_v, z_lg, z_h, z_u, z_u1, z_c, z_ct, z_sk, sbne, lst1_d, ldel, lst2_d, ldel2, z_sw, z_rok, zi, eq_self, List.map_cons, List.map_nil, List.append_nil, List.nil_append, List.cons_append, Int32.reduceLT, Int32.reduceLE, Int32.reduceAdd, Int32.reduceSub, Int32.reduceMul, Int32.reduceToInt, Int32.reduceToNatClampNeg, Int.reduceLT, Int.reduceLE, Int.reduceNeg, true_and, and_true, or_self, or_false, false_or, false_and, and_false, true_or, or_true, if_true, if_false, ne_eq, Classical.not_not, not_true_eq_false, not_false_eq_true, true_implies, false_implies, implies_true, Nat.reduceEqDiff, Nat.reduceAdd, Nat.reduceLeDiff, Nat.reduceSub, reduceCtorEq, reduceIte, b29_82]
    exact hq h' w
  have eo1 : nI o + 1 = nI (o + 1) := nI_s o
  have eo2 : nI o + 2 = nI (o + 2) := by
    have : (2 : Int32) = nI 2 := rfl
    rw [this, nI_add]
  unfold aEv
  simp only [lv_args, z_v, z_lg, z_h, z_u, z_u1, z_c, z_ct, z_sk, sbne, lst1_d, ldel, lst2_d, ldel2, z_sw, z_rok, zi, eq_self, List.map_cons, List.map_nil, List.append_nil, List.nil_append, List.cons_append, Int32.reduceLT, Int32.reduceLE, Int32.reduceAdd, Int32.reduceSub, Int32.reduceMul, Int32.reduceToInt, Int32.reduceToNatClampNeg, Int.reduceLT, Int.reduceLE, Int.reduceNeg, true_and, and_true, or_self, or_false, false_or, false_and, and_false, true_or, or_true, if_true, if_false, ne_eq, Classical.not_not, not_true_eq_false, not_false_eq_true, true_implies, false_implies, implies_true, Nat.reduceEqDiff, Nat.reduceAdd, Nat.reduceLeDiff, Nat.reduceSub, reduceCtorEq, reduceIte, b29_0, skX s, srX s, h00]
  refine sp_find s sc (by omega) ?_
  simp only [lv_args, z_v, z_lg, z_h, z_u, z_u1, z_c, z_ct, z_sk, sbne, lst1_d, ldel, lst2_d, ldel2, z_sw, z_rok, zi, eq_self, List.map_cons, List.map_nil, List.append_nil, List.nil_append, List.cons_append, Int32.reduceLT, Int32.reduceLE, Int32.reduceAdd, Int32.reduceSub, Int32.reduceMul, Int32.reduceToInt, Int32.reduceToNatClampNeg, Int.reduceLT, Int.reduceLE, Int.reduceNeg, true_and, and_true, or_self, or_false, false_or, false_and, and_false, true_or, or_true, if_true, if_false, ne_eq, Classical.not_not, not_true_eq_false, not_false_eq_true, true_implies, false_implies, implies_true, Nat.reduceEqDiff, Nat.reduceAdd, Nat.reduceLeDiff, Nat.reduceSub, reduceCtorEq, reduceIte, b29_0, skX s, Nat.reduceLT, oI_m1 hb2]
  unfold cVr at out
  refine ⟨fun c => ?_, fun c => ?_⟩
  · obtain ⟨b, eb⟩ := Option.ne_none_iff_exists'.mp c
    rw [eb] at out
    dsimp only at out
    have hbl := hb b eb
    have hbl2 := hb2 b eb
    obtain ⟨w1, w2, w3⟩ := sc.2.2.2.1 b _ (gdD (x := ((0, 0, 0) : SCe)) hbl)
    have e4 := sc.2.2.2.2.1
    have bd31 := sc.2.2.2.2.2.1
    have c43 : (b < hN h 43) = True := eq_true (by have := sc.2.2.1.2.2; omega)
    have c42 : (b < hN h 42) = True := eq_true (by have := sc.2.2.1.2.1; omega)
    have ob : ((rSc z).getD b (0, 0, 0)).2.2 ≤ rBd z := hk.2.1 b hbl
    have ho : oI (some b) = nI b := rfl
    rw [eb, ho]
    simp only [lv_args, z_v, z_lg, z_h, z_u, z_u1, z_c, z_ct, z_sk, sbne, lst1_d, ldel, lst2_d, ldel2, z_sw, z_rok, zi, eq_self, List.map_cons, List.map_nil, List.append_nil, List.nil_append, List.cons_append, Int32.reduceLT, Int32.reduceLE, Int32.reduceAdd, Int32.reduceSub, Int32.reduceMul, Int32.reduceToInt, Int32.reduceToNatClampNeg, Int.reduceLT, Int.reduceLE, Int.reduceNeg, true_and, and_true, or_self, or_false, false_or, false_and, and_false, true_or, or_true, if_true, if_false, ne_eq, Classical.not_not, not_true_eq_false, not_false_eq_true, true_implies, false_implies, implies_true, Nat.reduceEqDiff, Nat.reduceAdd, Nat.reduceLeDiff, Nat.reduceSub, reduceCtorEq, reduceIte, b29_33, skX s, srX s, h00]
    refine sp_isOwn s sc hbl (by omega) (by omega) ?_
    simp only [lv_args, z_v, z_lg, z_h, z_u, z_u1, z_c, z_ct, z_sk, sbne, lst1_d, ldel, lst2_d, ldel2, z_sw, z_rok, zi, eq_self, List.map_cons, List.map_nil, List.append_nil, List.nil_append, List.cons_append, Int32.reduceLT, Int32.reduceLE, Int32.reduceAdd, Int32.reduceSub, Int32.reduceMul, Int32.reduceToInt, Int32.reduceToNatClampNeg, Int.reduceLT, Int.reduceLE, Int.reduceNeg, true_and, and_true, or_self, or_false, false_or, false_and, and_false, true_or, or_true, if_true, if_false, ne_eq, Classical.not_not, not_true_eq_false, not_false_eq_true, true_implies, false_implies, implies_true, Nat.reduceEqDiff, Nat.reduceAdd, Nat.reduceLeDiff, Nat.reduceSub, reduceCtorEq, reduceIte, b29_33, skX s, Nat.reduceLT]
    by_cases c3 : ((rSc z).getD b (0, 0, 0)).2.2 = rBd z
    · rw [if_pos c3] at out
      have z10 : ¬ (1 : Int32) = 0 := by decide
      rw [if_pos c3]
      simp only [not_true_eq_false, false_imp_iff, true_imp_iff, true_and, and_true, z10, not_false_eq_true]
      try simp only [lv_args, z_v, z_lg, z_h, z_u, z_u1, z_c, z_ct, z_sk, sbne, lst1_d, ldel, lst2_d, ldel2, z_sw, z_rok, zi, eq_self, List.map_cons, List.map_nil, List.append_nil, List.nil_append, List.cons_append, Int32.reduceLT, Int32.reduceLE, Int32.reduceAdd, Int32.reduceSub, Int32.reduceMul, Int32.reduceToInt, Int32.reduceToNatClampNeg, Int.reduceLT, Int.reduceLE, Int.reduceNeg, true_and, and_true, or_self, or_false, false_or, false_and, and_false, true_or, or_true, if_true, if_false, ne_eq, Classical.not_not, not_true_eq_false, not_false_eq_true, true_implies, false_implies, implies_true, Nat.reduceEqDiff, Nat.reduceAdd, Nat.reduceLeDiff, Nat.reduceSub, reduceCtorEq, reduceIte, b29_33, skX s, z10, Nat.reduceLT]
      simp only [lv_args, z_v, z_lg, z_h, z_u, z_u1, z_c, z_ct, z_sk, sbne, lst1_d, ldel, lst2_d, ldel2, z_sw, z_rok, zi, eq_self, List.map_cons, List.map_nil, List.append_nil, List.nil_append, List.cons_append, Int32.reduceLT, Int32.reduceLE, Int32.reduceAdd, Int32.reduceSub, Int32.reduceMul, Int32.reduceToInt, Int32.reduceToNatClampNeg, Int.reduceLT, Int.reduceLE, Int.reduceNeg, true_and, and_true, or_self, or_false, false_or, false_and, and_false, true_or, or_true, if_true, if_false, ne_eq, Classical.not_not, not_true_eq_false, not_false_eq_true, true_implies, false_implies, implies_true, Nat.reduceEqDiff, Nat.reduceAdd, Nat.reduceLeDiff, Nat.reduceSub, reduceCtorEq, reduceIte, b29_45, skX s, srX s, h00]
      refine sp_slot s sc hbl ?_
      simp only [lv_args, z_v, z_lg, z_h, z_u, z_u1, z_c, z_ct, z_sk, sbne, lst1_d, ldel, lst2_d, ldel2, z_sw, z_rok, zi, eq_self, List.map_cons, List.map_nil, List.append_nil, List.nil_append, List.cons_append, Int32.reduceLT, Int32.reduceLE, Int32.reduceAdd, Int32.reduceSub, Int32.reduceMul, Int32.reduceToInt, Int32.reduceToNatClampNeg, Int.reduceLT, Int.reduceLE, Int.reduceNeg, true_and, and_true, or_self, or_false, false_or, false_and, and_false, true_or, or_true, if_true, if_false, ne_eq, Classical.not_not, not_true_eq_false, not_false_eq_true, true_implies, false_implies, implies_true, Nat.reduceEqDiff, Nat.reduceAdd, Nat.reduceLeDiff, Nat.reduceSub, reduceCtorEq, reduceIte, b29_45, skX s, srX s, h00, Nat.reduceLT]
      refine sp_emit (o := nI o) (v := nI ((rSc z).getD b (0, 0, 0)).2.1) (dp := dp) cc H (fun G => ⟨rfl, (H.1.2.2.2.2.2.2 (gd_E G).1).2.2.1 b _ (gdD (x := ((0, 0, 0) : SCe)) hbl), hv (gd_E G).1⟩) (by omega) (fun x h' w _ => ?_)
      have s1 := w.1.1.1.1
      simp only [lv_args, z_v, z_lg, z_h, z_u, z_u1, z_c, z_ct, z_sk, sbne, lst1_d, ldel, lst2_d, ldel2, z_sw, z_rok, zi, eq_self, List.map_cons, List.map_nil, List.append_nil, List.nil_append, List.cons_append, Int32.reduceLT, Int32.reduceLE, Int32.reduceAdd, Int32.reduceSub, Int32.reduceMul, Int32.reduceToInt, Int32.reduceToNatClampNeg, Int.reduceLT, Int.reduceLE, Int.reduceNeg, true_and, and_true, or_self, or_false, false_or, false_and, and_false, true_or, or_true, if_true, if_false, ne_eq, Classical.not_not, not_true_eq_false, not_false_eq_true, true_implies, false_implies, implies_true, Nat.reduceEqDiff, Nat.reduceAdd, Nat.reduceLeDiff, Nat.reduceSub, reduceCtorEq, reduceIte, b29_45, skX s, skX s1, Nat.reduceLT]
      exact out _ h' w
    · rw [if_neg c3] at out
      rw [if_neg c3]
      simp only [not_true_eq_false, not_false_eq_true, false_imp_iff, true_imp_iff, true_and, and_true]
      try simp only [lv_args, z_v, z_lg, z_h, z_u, z_u1, z_c, z_ct, z_sk, sbne, lst1_d, ldel, lst2_d, ldel2, z_sw, z_rok, zi, eq_self, List.map_cons, List.map_nil, List.append_nil, List.nil_append, List.cons_append, Int32.reduceLT, Int32.reduceLE, Int32.reduceAdd, Int32.reduceSub, Int32.reduceMul, Int32.reduceToInt, Int32.reduceToNatClampNeg, Int.reduceLT, Int.reduceLE, Int.reduceNeg, true_and, and_true, or_self, or_false, false_or, false_and, and_false, true_or, or_true, if_true, if_false, ne_eq, Classical.not_not, not_true_eq_false, not_false_eq_true, true_implies, false_implies, implies_true, Nat.reduceEqDiff, Nat.reduceAdd, Nat.reduceLeDiff, Nat.reduceSub, reduceCtorEq, reduceIte, b29_33, skX s, Nat.reduceLT]
      simp only [lv_args, z_v, z_lg, z_h, z_u, z_u1, z_c, z_ct, z_sk, sbne, lst1_d, ldel, lst2_d, ldel2, z_sw, z_rok, zi, eq_self, List.map_cons, List.map_nil, List.append_nil, List.nil_append, List.cons_append, Int32.reduceLT, Int32.reduceLE, Int32.reduceAdd, Int32.reduceSub, Int32.reduceMul, Int32.reduceToInt, Int32.reduceToNatClampNeg, Int.reduceLT, Int.reduceLE, Int.reduceNeg, true_and, and_true, or_self, or_false, false_or, false_and, and_false, true_or, or_true, if_true, if_false, ne_eq, Classical.not_not, not_true_eq_false, not_false_eq_true, true_implies, false_implies, implies_true, Nat.reduceEqDiff, Nat.reduceAdd, Nat.reduceLeDiff, Nat.reduceSub, reduceCtorEq, reduceIte, b29_64, skX s, srX s, h00, eo1]
      refine sp_keep cc H hk hbl rfl (by omega) (by omega) (fun h1 H1 => ?_)
      have s1 := H1.1.1.1.1
      simp only [lv_args, z_v, z_lg, z_h, z_u, z_u1, z_c, z_ct, z_sk, sbne, lst1_d, ldel, lst2_d, ldel2, z_sw, z_rok, zi, eq_self, List.map_cons, List.map_nil, List.append_nil, List.nil_append, List.cons_append, Int32.reduceLT, Int32.reduceLE, Int32.reduceAdd, Int32.reduceSub, Int32.reduceMul, Int32.reduceToInt, Int32.reduceToNatClampNeg, Int.reduceLT, Int.reduceLE, Int.reduceNeg, true_and, and_true, or_self, or_false, false_or, false_and, and_false, true_or, or_true, if_true, if_false, ne_eq, Classical.not_not, not_true_eq_false, not_false_eq_true, true_implies, false_implies, implies_true, Nat.reduceEqDiff, Nat.reduceAdd, Nat.reduceLeDiff, Nat.reduceSub, reduceCtorEq, reduceIte, b29_64, skX s, skX s1, h00, Nat.reduceLT]
      refine sp_emit (o := nI (o + 1)) (v := nI ((rKp (cKp b z) (rBd z)).idxOf b)) (dp := dp) cc H1 (fun G => ⟨rfl, rfl, hv (gd_E G).1⟩) (by omega) (fun x h' w _ => ?_)
      have s2 := w.1.1.1.1
      simp only [lv_args, z_v, z_lg, z_h, z_u, z_u1, z_c, z_ct, z_sk, sbne, lst1_d, ldel, lst2_d, ldel2, z_sw, z_rok, zi, eq_self, List.map_cons, List.map_nil, List.append_nil, List.nil_append, List.cons_append, Int32.reduceLT, Int32.reduceLE, Int32.reduceAdd, Int32.reduceSub, Int32.reduceMul, Int32.reduceToInt, Int32.reduceToNatClampNeg, Int.reduceLT, Int.reduceLE, Int.reduceNeg, true_and, and_true, or_self, or_false, false_or, false_and, and_false, true_or, or_true, if_true, if_false, ne_eq, Classical.not_not, not_true_eq_false, not_false_eq_true, true_implies, false_implies, implies_true, Nat.reduceEqDiff, Nat.reduceAdd, Nat.reduceLeDiff, Nat.reduceSub, reduceCtorEq, reduceIte, b29_64, skX s1, skX s2, Nat.reduceLT]
      exact out _ h' w
  · rw [c] at out
    dsimp only at out
    have b46 := (H.1.1.1.2.2.2.2 46 (by decide)).2
    have y46 : cpR 46 = 3100 := rfl
    simp only [lv_args, z_v, z_lg, z_h, z_u, z_u1, z_c, z_ct, z_sk, sbne, lst1_d, ldel, lst2_d, ldel2, z_sw, z_rok, zi, eq_self, List.map_cons, List.map_nil, List.append_nil, List.nil_append, List.cons_append, Int32.reduceLT, Int32.reduceLE, Int32.reduceAdd, Int32.reduceSub, Int32.reduceMul, Int32.reduceToInt, Int32.reduceToNatClampNeg, Int.reduceLT, Int.reduceLE, Int.reduceNeg, true_and, and_true, or_self, or_false, false_or, false_and, and_false, true_or, or_true, if_true, if_false, ne_eq, Classical.not_not, not_true_eq_false, not_false_eq_true, true_implies, false_implies, implies_true, Nat.reduceEqDiff, Nat.reduceAdd, Nat.reduceLeDiff, Nat.reduceSub, reduceCtorEq, reduceIte, b29_16, skX s, srX s, h00, eo2]
    refine sp_dnum s da hj (by omega) ?_
    simp only [lv_args, z_v, z_lg, z_h, z_u, z_u1, z_c, z_ct, z_sk, sbne, lst1_d, ldel, lst2_d, ldel2, z_sw, z_rok, zi, eq_self, List.map_cons, List.map_nil, List.append_nil, List.nil_append, List.cons_append, Int32.reduceLT, Int32.reduceLE, Int32.reduceAdd, Int32.reduceSub, Int32.reduceMul, Int32.reduceToInt, Int32.reduceToNatClampNeg, Int.reduceLT, Int.reduceLE, Int.reduceNeg, true_and, and_true, or_self, or_false, false_or, false_and, and_false, true_or, or_true, if_true, if_false, ne_eq, Classical.not_not, not_true_eq_false, not_false_eq_true, true_implies, false_implies, implies_true, Nat.reduceEqDiff, Nat.reduceAdd, Nat.reduceLeDiff, Nat.reduceSub, reduceCtorEq, reduceIte, b29_16, skX s, srX s, h00, Nat.reduceLT]
    refine sp_emit (o := nI (o + 2)) (v := dA N j) (dp := dp) cc H (fun G => ⟨rfl, rfl, hv (gd_E G).1⟩) (by omega) (fun x h' w _ => ?_)
    have s1 := w.1.1.1.1
    simp only [lv_args, z_v, z_lg, z_h, z_u, z_u1, z_c, z_ct, z_sk, sbne, lst1_d, ldel, lst2_d, ldel2, z_sw, z_rok, zi, eq_self, List.map_cons, List.map_nil, List.append_nil, List.nil_append, List.cons_append, Int32.reduceLT, Int32.reduceLE, Int32.reduceAdd, Int32.reduceSub, Int32.reduceMul, Int32.reduceToInt, Int32.reduceToNatClampNeg, Int.reduceLT, Int.reduceLE, Int.reduceNeg, true_and, and_true, or_self, or_false, false_or, false_and, and_false, true_or, or_true, if_true, if_false, ne_eq, Classical.not_not, not_true_eq_false, not_false_eq_true, true_implies, false_implies, implies_true, Nat.reduceEqDiff, Nat.reduceAdd, Nat.reduceLeDiff, Nat.reduceSub, reduceCtorEq, reduceIte, b29_16, skX s, skX s1, Nat.reduceLT]
    exact out _ h' w
theorem sp_nameForm (cc : CC N mt K p c1 c2 h0) (H : CH N K p c1 c2 h0 op z h) (hk : KI z.2.1) (hn1 : 1 ≤ n) (hn : n < N.1) (h5 : nK N n = 5) (hv : gd c1 c2 z → rDp z + 1 < 1000000 ∧ rDx z < 1000000) (hd : 9 < d) (hq : ∀ h', CH N K p c1 c2 h0 op (cNm N n z) h' → Q none h') : aEv d 24 [.ref 39, .int (nI n)] h Q := by
  have h00 : 0 < d := by omega
  have s := H.1.1.1.1
  have r := cc_rd cc H.1
  have nk := cc.2.2.2.2.1
  obtain ⟨j, hj, ej, ej2, hj3⟩ := nok_name nk hn1 hn h5
  have hjK : j < K.length := cc.2.2.2.1.1.2.2.2.2.2.1.2.2 j hj
  have z10 : (10 : Int32) = nI 10 := rfl
  have z30 : (30 : Int32) = nI 30 := rfl
  have z1 : ¬ (1 : Int32) = 0 := by decide
  have out : ∀ h', CH N K p c1 c2 h0 op (cNm N n z) h' → aWP d 24 70 [(2, .int (nI j)), (0, .ref 39), (1, .int (nI n))] [] h' Q := fun h' w => by
    simp only [lv_args, z_v, z_lg, z_h, z_u, z_u1, z_c, z_ct, z_sk, sbne, lst1_d, ldel, lst2_d, ldel2, z_sw, z_rok, zi, eq_self, List.map_cons, List.map_nil, List.append_nil, List.nil_append, List.cons_append, Int32.reduceLT, Int32.reduceLE, Int32.reduceAdd, Int32.reduceSub, Int32.reduceMul, Int32.reduceToInt, Int32.reduceToNatClampNeg, Int.reduceLT, Int.reduceLE, Int.reduceNeg, true_and, and_true, or_self, or_false, false_or, false_and, and_false, true_or, or_true, if_true, if_false, ne_eq, Classical.not_not, not_true_eq_false, not_false_eq_true, true_implies, false_implies, implies_true, Nat.reduceEqDiff, Nat.reduceAdd, Nat.reduceLeDiff, Nat.reduceSub, reduceCtorEq, reduceIte, b24_70]
    exact hq h' w
  unfold cNm at out
  rw [ej2] at out
  unfold aEv
  simp only [lv_args, z_v, z_lg, z_h, z_u, z_u1, z_c, z_ct, z_sk, sbne, lst1_d, ldel, lst2_d, ldel2, z_sw, z_rok, zi, eq_self, List.map_cons, List.map_nil, List.append_nil, List.nil_append, List.cons_append, Int32.reduceLT, Int32.reduceLE, Int32.reduceAdd, Int32.reduceSub, Int32.reduceMul, Int32.reduceToInt, Int32.reduceToNatClampNeg, Int.reduceLT, Int.reduceLE, Int.reduceNeg, true_and, and_true, or_self, or_false, false_or, false_and, and_false, true_or, or_true, if_true, if_false, ne_eq, Classical.not_not, not_true_eq_false, not_false_eq_true, true_implies, false_implies, implies_true, Nat.reduceEqDiff, Nat.reduceAdd, Nat.reduceLeDiff, Nat.reduceSub, reduceCtorEq, reduceIte, b24_0, skX s, srX s, h00, rd_c s r hn, ej, z10, Nat.reduceLT]
  simp (disch := omega) only [nI_leN]
  refine ⟨fun c => ?_, fun c => ?_⟩
  · rw [if_neg (by omega)] at out
    simp only [lv_args, z_v, z_lg, z_h, z_u, z_u1, z_c, z_ct, z_sk, sbne, lst1_d, ldel, lst2_d, ldel2, z_sw, z_rok, zi, eq_self, List.map_cons, List.map_nil, List.append_nil, List.nil_append, List.cons_append, Int32.reduceLT, Int32.reduceLE, Int32.reduceAdd, Int32.reduceSub, Int32.reduceMul, Int32.reduceToInt, Int32.reduceToNatClampNeg, Int.reduceLT, Int.reduceLE, Int.reduceNeg, true_and, and_true, or_self, or_false, false_or, false_and, and_false, true_or, or_true, if_true, if_false, ne_eq, Classical.not_not, not_true_eq_false, not_false_eq_true, true_implies, false_implies, implies_true, Nat.reduceEqDiff, Nat.reduceAdd, Nat.reduceLeDiff, Nat.reduceSub, reduceCtorEq, reduceIte, b24_24, z30]
    simp (disch := omega) only [nI_leN]
    refine ⟨fun c2 => ?_, fun c2 => ?_⟩
    · rw [if_neg (by omega)] at out
      simp only [lv_args, z_v, z_lg, z_h, z_u, z_u1, z_c, z_ct, z_sk, sbne, lst1_d, ldel, lst2_d, ldel2, z_sw, z_rok, zi, eq_self, List.map_cons, List.map_nil, List.append_nil, List.nil_append, List.cons_append, Int32.reduceLT, Int32.reduceLE, Int32.reduceAdd, Int32.reduceSub, Int32.reduceMul, Int32.reduceToInt, Int32.reduceToNatClampNeg, Int.reduceLT, Int.reduceLE, Int.reduceNeg, true_and, and_true, or_self, or_false, false_or, false_and, and_false, true_or, or_true, if_true, if_false, ne_eq, Classical.not_not, not_true_eq_false, not_false_eq_true, true_implies, false_implies, implies_true, Nat.reduceEqDiff, Nat.reduceAdd, Nat.reduceLeDiff, Nat.reduceSub, reduceCtorEq, reduceIte, b24_45, skX s, h00]
      refine sp_mean cc H.1 hjK (by omega) ?_
      cases hm : cMn N j z with
      | true =>
        rw [hm, if_pos rfl] at out
        have e : bI true = 1 := rfl
        simp only [lv_args, z_v, z_lg, z_h, z_u, z_u1, z_c, z_ct, z_sk, sbne, lst1_d, ldel, lst2_d, ldel2, z_sw, z_rok, zi, eq_self, List.map_cons, List.map_nil, List.append_nil, List.nil_append, List.cons_append, Int32.reduceLT, Int32.reduceLE, Int32.reduceAdd, Int32.reduceSub, Int32.reduceMul, Int32.reduceToInt, Int32.reduceToNatClampNeg, Int.reduceLT, Int.reduceLE, Int.reduceNeg, true_and, and_true, or_self, or_false, false_or, false_and, and_false, true_or, or_true, if_true, if_false, ne_eq, Classical.not_not, not_true_eq_false, not_false_eq_true, true_implies, false_implies, implies_true, Nat.reduceEqDiff, Nat.reduceAdd, Nat.reduceLeDiff, Nat.reduceSub, reduceCtorEq, reduceIte, b24_45, skX s, Nat.reduceLT, e, z1]
        simp only [lv_args, z_v, z_lg, z_h, z_u, z_u1, z_c, z_ct, z_sk, sbne, lst1_d, ldel, lst2_d, ldel2, z_sw, z_rok, zi, eq_self, List.map_cons, List.map_nil, List.append_nil, List.nil_append, List.cons_append, Int32.reduceLT, Int32.reduceLE, Int32.reduceAdd, Int32.reduceSub, Int32.reduceMul, Int32.reduceToInt, Int32.reduceToNatClampNeg, Int.reduceLT, Int.reduceLE, Int.reduceNeg, true_and, and_true, or_self, or_false, false_or, false_and, and_false, true_or, or_true, if_true, if_false, ne_eq, Classical.not_not, not_true_eq_false, not_false_eq_true, true_implies, false_implies, implies_true, Nat.reduceEqDiff, Nat.reduceAdd, Nat.reduceLeDiff, Nat.reduceSub, reduceCtorEq, reduceIte, b24_53, skX s, h00]
        refine sp_var (o := 16) (dp := rDp z + 1) cc H hk hjK (fun G => ⟨nI_s _, hv G⟩) (by omega) (fun h' w => ?_)
        have s1 := w.1.1.1.1
        simp only [lv_args, z_v, z_lg, z_h, z_u, z_u1, z_c, z_ct, z_sk, sbne, lst1_d, ldel, lst2_d, ldel2, z_sw, z_rok, zi, eq_self, List.map_cons, List.map_nil, List.append_nil, List.nil_append, List.cons_append, Int32.reduceLT, Int32.reduceLE, Int32.reduceAdd, Int32.reduceSub, Int32.reduceMul, Int32.reduceToInt, Int32.reduceToNatClampNeg, Int.reduceLT, Int.reduceLE, Int.reduceNeg, true_and, and_true, or_self, or_false, false_or, false_and, and_false, true_or, or_true, if_true, if_false, ne_eq, Classical.not_not, not_true_eq_false, not_false_eq_true, true_implies, false_implies, implies_true, Nat.reduceEqDiff, Nat.reduceAdd, Nat.reduceLeDiff, Nat.reduceSub, reduceCtorEq, reduceIte, b24_53, skX s, skX s1, Nat.reduceLT]
        exact out h' w
      | false =>
        rw [hm, if_neg (by decide)] at out
        have e : bI false = 0 := rfl
        simp only [lv_args, z_v, z_lg, z_h, z_u, z_u1, z_c, z_ct, z_sk, sbne, lst1_d, ldel, lst2_d, ldel2, z_sw, z_rok, zi, eq_self, List.map_cons, List.map_nil, List.append_nil, List.nil_append, List.cons_append, Int32.reduceLT, Int32.reduceLE, Int32.reduceAdd, Int32.reduceSub, Int32.reduceMul, Int32.reduceToInt, Int32.reduceToNatClampNeg, Int.reduceLT, Int.reduceLE, Int.reduceNeg, true_and, and_true, or_self, or_false, false_or, false_and, and_false, true_or, or_true, if_true, if_false, ne_eq, Classical.not_not, not_true_eq_false, not_false_eq_true, true_implies, false_implies, implies_true, Nat.reduceEqDiff, Nat.reduceAdd, Nat.reduceLeDiff, Nat.reduceSub, reduceCtorEq, reduceIte, b24_45, skX s, Nat.reduceLT, e]
        simp only [lv_args, z_v, z_lg, z_h, z_u, z_u1, z_c, z_ct, z_sk, sbne, lst1_d, ldel, lst2_d, ldel2, z_sw, z_rok, zi, eq_self, List.map_cons, List.map_nil, List.append_nil, List.nil_append, List.cons_append, Int32.reduceLT, Int32.reduceLE, Int32.reduceAdd, Int32.reduceSub, Int32.reduceMul, Int32.reduceToInt, Int32.reduceToNatClampNeg, Int.reduceLT, Int.reduceLE, Int.reduceNeg, true_and, and_true, or_self, or_false, false_or, false_and, and_false, true_or, or_true, if_true, if_false, ne_eq, Classical.not_not, not_true_eq_false, not_false_eq_true, true_implies, false_implies, implies_true, Nat.reduceEqDiff, Nat.reduceAdd, Nat.reduceLeDiff, Nat.reduceSub, reduceCtorEq, reduceIte, b24_64, skX s, h00]
        refine sp_ctell (k := 4) cc H.1 rfl (by decide) hn1 hn (by omega) (fun h' w => ?_)
        have s1 := w.1.1.1.1
        simp only [lv_args, z_v, z_lg, z_h, z_u, z_u1, z_c, z_ct, z_sk, sbne, lst1_d, ldel, lst2_d, ldel2, z_sw, z_rok, zi, eq_self, List.map_cons, List.map_nil, List.append_nil, List.nil_append, List.cons_append, Int32.reduceLT, Int32.reduceLE, Int32.reduceAdd, Int32.reduceSub, Int32.reduceMul, Int32.reduceToInt, Int32.reduceToNatClampNeg, Int.reduceLT, Int.reduceLE, Int.reduceNeg, true_and, and_true, or_self, or_false, false_or, false_and, and_false, true_or, or_true, if_true, if_false, ne_eq, Classical.not_not, not_true_eq_false, not_false_eq_true, true_implies, false_implies, implies_true, Nat.reduceEqDiff, Nat.reduceAdd, Nat.reduceLeDiff, Nat.reduceSub, reduceCtorEq, reduceIte, b24_64, skX s, skX s1, Nat.reduceLT]
        exact out h' w
    · rw [if_pos (by omega)] at out
      have es : nI j - 10 = nI (j - 10) := by rw [z10, nI_sub (by omega)]
      simp only [lv_args, z_v, z_lg, z_h, z_u, z_u1, z_c, z_ct, z_sk, sbne, lst1_d, ldel, lst2_d, ldel2, z_sw, z_rok, zi, eq_self, List.map_cons, List.map_nil, List.append_nil, List.nil_append, List.cons_append, Int32.reduceLT, Int32.reduceLE, Int32.reduceAdd, Int32.reduceSub, Int32.reduceMul, Int32.reduceToInt, Int32.reduceToNatClampNeg, Int.reduceLT, Int.reduceLE, Int.reduceNeg, true_and, and_true, or_self, or_false, false_or, false_and, and_false, true_or, or_true, if_true, if_false, ne_eq, Classical.not_not, not_true_eq_false, not_false_eq_true, true_implies, false_implies, implies_true, Nat.reduceEqDiff, Nat.reduceAdd, Nat.reduceLeDiff, Nat.reduceSub, reduceCtorEq, reduceIte, b24_30, skX s, h00, es]
      refine sp_emit (o := 8) (v := nI (j - 10)) (dp := rDp z + 1) cc H (fun G => ⟨rfl, rfl, nI_s _, hv (gd_E G).1⟩) (by omega) (fun x h' w _ => ?_)
      have s1 := w.1.1.1.1
      simp only [lv_args, z_v, z_lg, z_h, z_u, z_u1, z_c, z_ct, z_sk, sbne, lst1_d, ldel, lst2_d, ldel2, z_sw, z_rok, zi, eq_self, List.map_cons, List.map_nil, List.append_nil, List.nil_append, List.cons_append, Int32.reduceLT, Int32.reduceLE, Int32.reduceAdd, Int32.reduceSub, Int32.reduceMul, Int32.reduceToInt, Int32.reduceToNatClampNeg, Int.reduceLT, Int.reduceLE, Int.reduceNeg, true_and, and_true, or_self, or_false, false_or, false_and, and_false, true_or, or_true, if_true, if_false, ne_eq, Classical.not_not, not_true_eq_false, not_false_eq_true, true_implies, false_implies, implies_true, Nat.reduceEqDiff, Nat.reduceAdd, Nat.reduceLeDiff, Nat.reduceSub, reduceCtorEq, reduceIte, b24_30, skX s, skX s1, Nat.reduceLT]
      exact out h' w
  · rw [if_pos (by omega)] at out
    simp only [lv_args, z_v, z_lg, z_h, z_u, z_u1, z_c, z_ct, z_sk, sbne, lst1_d, ldel, lst2_d, ldel2, z_sw, z_rok, zi, eq_self, List.map_cons, List.map_nil, List.append_nil, List.nil_append, List.cons_append, Int32.reduceLT, Int32.reduceLE, Int32.reduceAdd, Int32.reduceSub, Int32.reduceMul, Int32.reduceToInt, Int32.reduceToNatClampNeg, Int.reduceLT, Int.reduceLE, Int.reduceNeg, true_and, and_true, or_self, or_false, false_or, false_and, and_false, true_or, or_true, if_true, if_false, ne_eq, Classical.not_not, not_true_eq_false, not_false_eq_true, true_implies, false_implies, implies_true, Nat.reduceEqDiff, Nat.reduceAdd, Nat.reduceLeDiff, Nat.reduceSub, reduceCtorEq, reduceIte, b24_15, skX s, h00]
    refine sp_ctell (k := 3) cc H.1 rfl (by decide) hn1 hn (by omega) (fun h' w => ?_)
    have s1 := w.1.1.1.1
    simp only [lv_args, z_v, z_lg, z_h, z_u, z_u1, z_c, z_ct, z_sk, sbne, lst1_d, ldel, lst2_d, ldel2, z_sw, z_rok, zi, eq_self, List.map_cons, List.map_nil, List.append_nil, List.nil_append, List.cons_append, Int32.reduceLT, Int32.reduceLE, Int32.reduceAdd, Int32.reduceSub, Int32.reduceMul, Int32.reduceToInt, Int32.reduceToNatClampNeg, Int.reduceLT, Int.reduceLE, Int.reduceNeg, true_and, and_true, or_self, or_false, false_or, false_and, and_false, true_or, or_true, if_true, if_false, ne_eq, Classical.not_not, not_true_eq_false, not_false_eq_true, true_implies, false_implies, implies_true, Nat.reduceEqDiff, Nat.reduceAdd, Nat.reduceLeDiff, Nat.reduceSub, reduceCtorEq, reduceIte, b24_15, skX s, skX s1, Nat.reduceLT]
    exact out h' w
end CNM
