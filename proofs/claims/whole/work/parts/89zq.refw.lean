/-! calls in the reference -/
theorem kd_s (a : Int64) : (a >>> (Int32.toInt64 32 &&& 63)).toInt32 = vkd a := by
  apply Int32.toBitVec_inj.mp
  have e1 : (vkd a).toBitVec = BitVec.signExtend 32 (a.toBitVec >>> 32) := by
    unfold vkd
    simp
  have e : ((a >>> ((32 : Int32).toInt64 &&& 63)).toInt32).toBitVec = BitVec.signExtend 32 (a.toBitVec.sshiftRight 32) := by
    simp
  rw [e, e1, BitVec.signExtend_eq_setWidth_of_le _ (by decide), BitVec.signExtend_eq_setWidth_of_le _ (by decide)]
  apply BitVec.eq_of_getLsbD_eq
  intro i hi
  rw [BitVec.getLsbD_setWidth, BitVec.getLsbD_setWidth, BitVec.getLsbD_sshiftRight, BitVec.getLsbD_ushiftRight]
  have h1 : 32 + i < 64 := by omega
  simp [h1, show ¬ 64 ≤ i by omega]
section REW
variable {h h' : Hp} {Q : Option Value → Hp → Prop} {d : Nat} {G : PG} {q : Nat} {qv : Nat → Int64} {N : Int32} {md : Option Nat} {nw v : Int64} {td : List TD} {wk wk' xs : List Int64} {sl : List Nat} {bs : Nat} {pr : Option Nat} {bx : List Int64} {ps : List (Nat × List Nat)} {pa : List (Int64 × Int64)} {ce : Nat} {gr : List Int64} {P : List Int32 × List Int32 × Nat × Nat × Nat × Int64 × Nat} {X : (List Nat × Nat × Option Nat) × (List Int64 × List (Nat × List Nat) × List (Int64 × Int64) × Nat × List Int64) × (List Int32 × List Int32 × Nat × Nat × Nat × Int64 × Nat)}
/-- a call's parts are worked -/
theorem ap_go {i : Nat} {y : RSt} (ha : Apx G i y td wk) (r : RM G q qv y h) (hb : Bnd y) (hd : 30 < d) (hq : ∀ h1, RM G q qv ((none, y.1.2.1, td, wk), y.2) h1 → aEv (d - 1 - 1) 180 [.ref 59, .int (nI i)] h1 (fun r h2 => r = none ∧ PR d N Q none h2)) : aWP d 257 35 (LR N) [] h Q := by
  obtain ⟨⟨md, nw, td0, wk0⟩, X⟩ := y
  obtain ⟨rfl, k, n, m, rfl, ha⟩ := ha
  have r' := rm_pop r
  have S := r'.1
  have s := r.1.1
  have h0 : 0 < d - 1 := by omega
  rcases ha with ⟨rfl, p, rfl, hp, e25, rfl, rfl⟩ | ⟨rfl, rfl, rfl⟩
  · have hb2 : wk0.length ≤ 305000 := by have hb2 : wk0.length ≤ 304000 := hb.2.1; omega
    have enw : hL h 59 65 = nw := r.2.1.1
    refine vl_go r (by omega) (t := 203) rfl ?_
    simp only [lv_args, z_v, z_lg, z_h, z_u, z_u1, z_c, z_ct, z_sk, sbne, lst1_d, ldel, lst2_d, ldel2, z_sw, z_rok, zi, eq_self, List.map_cons, List.map_nil, List.append_nil, List.nil_append, List.cons_append, Int32.reduceLT, Int32.reduceLE, Int32.reduceAdd, Int32.reduceSub, Int32.reduceMul, Int32.reduceToInt, Int32.reduceToNatClampNeg, Int.reduceLT, Int.reduceLE, Int.reduceNeg, true_and, and_true, or_self, or_false, false_or, false_and, and_false, true_or, or_true, if_true, if_false, ne_eq, Classical.not_not, not_true_eq_false, not_false_eq_true, true_implies, false_implies, implies_true, Nat.reduceEqDiff, Nat.reduceAdd, Nat.reduceLeDiff, Nat.reduceSub, reduceCtorEq, reduceIte, b213_203, skM s, h0, enw]
    refine sp_pushM (v := nw) S (by omega) r'.2.2.2.1 hb2 fun h1 S1 kk w1 => ?_
    have s1 := S1.1
    have P := S1.2.2.2.1
    have r17 := S1.2.2.2.2.1
    obtain ⟨⟨k0, k1, k2, k4, k5, _⟩, w7, w8, w10, w11, _⟩ := prf s1 P.1
    obtain ⟨p1, p2, p3⟩ := pm_n P (j := 5) (by decide) (by decide) hp
    have p2 : hA h1 (q + 5) p = -1 := p2.trans e25
    have r1 : RM G q qv ((none, nw, td, wk0 ++ [nw]), X) h1 := by
      obtain ⟨a1, a2, a3, a4, a5, a6, a7, a8, a9, a10, a11⟩ := r'
      exact ⟨S1, kk.1 _ _ a2, kk.2.1 _ a3, w1, kk.2.2.1 _ _ _ _ _ a5, kk.2.2.2.1 _ _ _ a6, kk.2.2.2.2.1 _ _ a7, kk.2.2.2.2.2.1 _ _ _ _ _ a8, kk.2.2.2.2.2.2.1.trans a9, kk.2.2.2.2.2.2.2.1.trans a10, kk.2.2.2.2.2.2.2.2.trans a11.1, a11.2⟩
    simp only [lv_args, z_v, z_lg, z_h, z_u, z_u1, z_c, z_ct, z_sk, sbne, lst1_d, ldel, lst2_d, ldel2, z_sw, z_rok, zi, eq_self, List.map_cons, List.map_nil, List.append_nil, List.nil_append, List.cons_append, Int32.reduceLT, Int32.reduceLE, Int32.reduceAdd, Int32.reduceSub, Int32.reduceMul, Int32.reduceToInt, Int32.reduceToNatClampNeg, Int.reduceLT, Int.reduceLE, Int.reduceNeg, true_and, and_true, or_self, or_false, false_or, false_and, and_false, true_or, or_true, if_true, if_false, ne_eq, Classical.not_not, not_true_eq_false, not_false_eq_true, true_implies, false_implies, implies_true, Nat.reduceEqDiff, Nat.reduceAdd, Nat.reduceLeDiff, Nat.reduceSub, reduceCtorEq, reduceIte, b213_203, skM s, skM s1, Nat.reduceLT, r17, k0, w11, k5]
    simp (disch := omega) only [nI_ti, nI_cl, le0N, ltNN, p1, p2, true_and]
    refine ⟨p3, ?_⟩
    try simp only [lv_args, z_v, z_lg, z_h, z_u, z_u1, z_c, z_ct, z_sk, sbne, lst1_d, ldel, lst2_d, ldel2, z_sw, z_rok, zi, eq_self, List.map_cons, List.map_nil, List.append_nil, List.nil_append, List.cons_append, Int32.reduceLT, Int32.reduceLE, Int32.reduceAdd, Int32.reduceSub, Int32.reduceMul, Int32.reduceToInt, Int32.reduceToNatClampNeg, Int.reduceLT, Int.reduceLE, Int.reduceNeg, true_and, and_true, or_self, or_false, false_or, false_and, and_false, true_or, or_true, if_true, if_false, ne_eq, Classical.not_not, not_true_eq_false, not_false_eq_true, true_implies, false_implies, implies_true, Nat.reduceEqDiff, Nat.reduceAdd, Nat.reduceLeDiff, Nat.reduceSub, reduceCtorEq, reduceIte, b213_203]
    simp only [lv_args, z_v, z_lg, z_h, z_u, z_u1, z_c, z_ct, z_sk, sbne, lst1_d, ldel, lst2_d, ldel2, z_sw, z_rok, zi, eq_self, List.map_cons, List.map_nil, List.append_nil, List.nil_append, List.cons_append, Int32.reduceLT, Int32.reduceLE, Int32.reduceAdd, Int32.reduceSub, Int32.reduceMul, Int32.reduceToInt, Int32.reduceToNatClampNeg, Int.reduceLT, Int.reduceLE, Int.reduceNeg, true_and, and_true, or_self, or_false, false_or, false_and, and_false, true_or, or_true, if_true, if_false, ne_eq, Classical.not_not, not_true_eq_false, not_false_eq_true, true_implies, false_implies, implies_true, Nat.reduceEqDiff, Nat.reduceAdd, Nat.reduceLeDiff, Nat.reduceSub, reduceCtorEq, reduceIte, b213_224, skM s1, h0]
    refine aEv_mono (hq h1 r1) ?_
    rintro r2 h2 ⟨rfl, p⟩
    simp only [lv_args, z_v, z_lg, z_h, z_u, z_u1, z_c, z_ct, z_sk, sbne, lst1_d, ldel, lst2_d, ldel2, z_sw, z_rok, zi, eq_self, List.map_cons, List.map_nil, List.append_nil, List.nil_append, List.cons_append, Int32.reduceLT, Int32.reduceLE, Int32.reduceAdd, Int32.reduceSub, Int32.reduceMul, Int32.reduceToInt, Int32.reduceToNatClampNeg, Int.reduceLT, Int.reduceLE, Int.reduceNeg, true_and, and_true, or_self, or_false, false_or, false_and, and_false, true_or, or_true, if_true, if_false, ne_eq, Classical.not_not, not_true_eq_false, not_false_eq_true, true_implies, false_implies, implies_true, Nat.reduceEqDiff, Nat.reduceAdd, Nat.reduceLeDiff, Nat.reduceSub, reduceCtorEq, reduceIte, b213_224, b213_300, skM s1, Nat.reduceLT]
    exact p
  · refine vl_go r (by omega) (t := 295) rfl ?_
    simp only [lv_args, z_v, z_lg, z_h, z_u, z_u1, z_c, z_ct, z_sk, sbne, lst1_d, ldel, lst2_d, ldel2, z_sw, z_rok, zi, eq_self, List.map_cons, List.map_nil, List.append_nil, List.nil_append, List.cons_append, Int32.reduceLT, Int32.reduceLE, Int32.reduceAdd, Int32.reduceSub, Int32.reduceMul, Int32.reduceToInt, Int32.reduceToNatClampNeg, Int.reduceLT, Int.reduceLE, Int.reduceNeg, true_and, and_true, or_self, or_false, false_or, false_and, and_false, true_or, or_true, if_true, if_false, ne_eq, Classical.not_not, not_true_eq_false, not_false_eq_true, true_implies, false_implies, implies_true, Nat.reduceEqDiff, Nat.reduceAdd, Nat.reduceLeDiff, Nat.reduceSub, reduceCtorEq, reduceIte, b213_295, skM s, h0]
    refine aEv_mono (hq _ r') ?_
    rintro r2 h2 ⟨rfl, p⟩
    simp only [lv_args, z_v, z_lg, z_h, z_u, z_u1, z_c, z_ct, z_sk, sbne, lst1_d, ldel, lst2_d, ldel2, z_sw, z_rok, zi, eq_self, List.map_cons, List.map_nil, List.append_nil, List.nil_append, List.cons_append, Int32.reduceLT, Int32.reduceLE, Int32.reduceAdd, Int32.reduceSub, Int32.reduceMul, Int32.reduceToInt, Int32.reduceToNatClampNeg, Int.reduceLT, Int.reduceLE, Int.reduceNeg, true_and, and_true, or_self, or_false, false_or, false_and, and_false, true_or, or_true, if_true, if_false, ne_eq, Classical.not_not, not_true_eq_false, not_false_eq_true, true_implies, false_implies, implies_true, Nat.reduceEqDiff, Nat.reduceAdd, Nat.reduceLeDiff, Nat.reduceSub, reduceCtorEq, reduceIte, b213_295, b213_300, skM s, Nat.reduceLT]
    exact p
theorem ap_cnt {K : Nat} {x1 : Int32} (S : SM G q qv h) (hK : K ≤ 1000) (hq : aWP d 180 41 [(3, .int (-1)), (2, .int (nI K)), (0, .ref 59), (1, .int x1)] [] h Q) : ∀ (l : List Nat) (k : Nat) (c : Int32), Chn G c l → k + l.length = K → aWP d 180 20 [(3, .int c), (2, .int (nI k)), (0, .ref 59), (1, .int x1)] [] h Q := by
  intro l
  have s := S.1
  have P := S.2.2.2.1
  have r17 := S.2.2.2.2.1
  have pn := P.2.2.1
  obtain ⟨⟨k0, k1, k2, k4, k5, _⟩, w7, w8, w10, w11, _⟩ := prf s P.1
  induction l with
  | nil =>
    intro k c hc hk
    have hc : c = -1 := hc
    subst hc
    have hk : k = K := by simpa using hk
    subst hk
    simp only [lv_args, z_v, z_lg, z_h, z_u, z_u1, z_c, z_ct, z_sk, sbne, lst1_d, ldel, lst2_d, ldel2, z_sw, z_rok, zi, eq_self, List.map_cons, List.map_nil, List.append_nil, List.nil_append, List.cons_append, Int32.reduceLT, Int32.reduceLE, Int32.reduceAdd, Int32.reduceSub, Int32.reduceMul, Int32.reduceToInt, Int32.reduceToNatClampNeg, Int.reduceLT, Int.reduceLE, Int.reduceNeg, true_and, and_true, or_self, or_false, false_or, false_and, and_false, true_or, or_true, if_true, if_false, ne_eq, Classical.not_not, not_true_eq_false, not_false_eq_true, true_implies, false_implies, implies_true, Nat.reduceEqDiff, Nat.reduceAdd, Nat.reduceLeDiff, Nat.reduceSub, reduceCtorEq, reduceIte, b180_20]
    exact hq
  | cons a l ih =>
    intro k c hc hk
    obtain ⟨rfl, ha, hc⟩ := hc
    simp only [List.length_cons] at hk
    have ne := nI_m1' (a := a) (by omega)
    obtain ⟨p1, p2, p3⟩ := pm_n P (j := 5) (by decide) (by decide) ha
    have p2 : hA h (q + 5) a = G.1 25 a := p2
    have next := ih (k + 1) (G.1 25 a) hc (by omega)
    simp only [lv_args, z_v, z_lg, z_h, z_u, z_u1, z_c, z_ct, z_sk, sbne, lst1_d, ldel, lst2_d, ldel2, z_sw, z_rok, zi, eq_self, List.map_cons, List.map_nil, List.append_nil, List.nil_append, List.cons_append, Int32.reduceLT, Int32.reduceLE, Int32.reduceAdd, Int32.reduceSub, Int32.reduceMul, Int32.reduceToInt, Int32.reduceToNatClampNeg, Int.reduceLT, Int.reduceLE, Int.reduceNeg, true_and, and_true, or_self, or_false, false_or, false_and, and_false, true_or, or_true, if_true, if_false, ne_eq, Classical.not_not, not_true_eq_false, not_false_eq_true, true_implies, false_implies, implies_true, Nat.reduceEqDiff, Nat.reduceAdd, Nat.reduceLeDiff, Nat.reduceSub, reduceCtorEq, reduceIte, b180_20, ne]
    simp only [lv_args, z_v, z_lg, z_h, z_u, z_u1, z_c, z_ct, z_sk, sbne, lst1_d, ldel, lst2_d, ldel2, z_sw, z_rok, zi, eq_self, List.map_cons, List.map_nil, List.append_nil, List.nil_append, List.cons_append, Int32.reduceLT, Int32.reduceLE, Int32.reduceAdd, Int32.reduceSub, Int32.reduceMul, Int32.reduceToInt, Int32.reduceToNatClampNeg, Int.reduceLT, Int.reduceLE, Int.reduceNeg, true_and, and_true, or_self, or_false, false_or, false_and, and_false, true_or, or_true, if_true, if_false, ne_eq, Classical.not_not, not_true_eq_false, not_false_eq_true, true_implies, false_implies, implies_true, Nat.reduceEqDiff, Nat.reduceAdd, Nat.reduceLeDiff, Nat.reduceSub, reduceCtorEq, reduceIte, b180_25, skM s, r17, k0, w11, k5]
    simp (disch := omega) only [nI_ti, nI_cl, le0N, ltNN, p1, p2, true_and]
    refine ⟨p3, ?_⟩
    try simp only [lv_args, z_v, z_lg, z_h, z_u, z_u1, z_c, z_ct, z_sk, sbne, lst1_d, ldel, lst2_d, ldel2, z_sw, z_rok, zi, eq_self, List.map_cons, List.map_nil, List.append_nil, List.nil_append, List.cons_append, Int32.reduceLT, Int32.reduceLE, Int32.reduceAdd, Int32.reduceSub, Int32.reduceMul, Int32.reduceToInt, Int32.reduceToNatClampNeg, Int.reduceLT, Int.reduceLE, Int.reduceNeg, true_and, and_true, or_self, or_false, false_or, false_and, and_false, true_or, or_true, if_true, if_false, ne_eq, Classical.not_not, not_true_eq_false, not_false_eq_true, true_implies, false_implies, implies_true, Nat.reduceEqDiff, Nat.reduceAdd, Nat.reduceLeDiff, Nat.reduceSub, reduceCtorEq, reduceIte, b180_25, nI_1]
    exact next
/-- what is called, and how -/
theorem ap_in {i c : Nat} {l : List Nat} {f : Int64} (hi : i < pNn G) (hc : Chn G (G.1 24 i) (c :: l)) (h8 : l.length ≤ 8) (hx : xs.length = l.length) (hb : wk'.length ≤ 400000) (r : RM G q qv ((md, nw, td, wk' ++ f :: xs), X) h) (hd : 1 < d) (q7 : vkd f = 7 → aWP d 180 64 [(3, .long f), (2, .int (nI xs.length)), (0, .ref 59), (1, .int (nI i))] [] h Q) (q8 : vkd f ≠ 7 → vkd f = 8 → aWP d 180 86 [(3, .long f), (2, .int (nI xs.length)), (0, .ref 59), (1, .int (nI i))] [] h Q) (q9 : vkd f ≠ 7 → vkd f ≠ 8 → aWP d 180 117 [(3, .long f), (2, .int (nI xs.length)), (0, .ref 59), (1, .int (nI i))] [] h Q) : aEv d 180 [.ref 59, .int (nI i)] h Q := by
  have S := r.1
  have s := S.1
  have P := S.2.2.2.1
  have r17 := S.2.2.2.2.1
  have pn := P.2.2.1
  have h0 : 0 < d := by omega
  obtain ⟨⟨k0, k1, k2, k4, k5, _⟩, w7, w8, w10, w11, _⟩ := prf s P.1
  obtain ⟨p1, p2, p3⟩ := pm_n P (j := 4) (by decide) (by decide) hi
  have p2 : hA h (q + 4) i = nI c := p2.trans hc.1
  have hcn : c < pNn G := hc.2.1
  obtain ⟨n1, n2, n3⟩ := pm_n P (j := 5) (by decide) (by decide) hcn
  have n2 : hA h (q + 5) c = G.1 25 c := n2
  obtain ⟨o1, o2, o3, o4⟩ := r.2.2.2.1
  have o1 : hI h 59 52 = nI (wk'.length + xs.length + 1) := by
    have : hI h 59 52 = nI (wk' ++ f :: xs).length := o1
    rw [this, List.length_append, List.length_cons, Nat.add_assoc]
  have o2 : wk'.length + xs.length + 1 ≤ hN h 125 := by
    have : (wk' ++ f :: xs).length ≤ hN h 125 := o2
    rw [List.length_append, List.length_cons] at this
    omega
  have o3 : hN h 125 ≤ 620000 := o3
  have o5 : hB h 125 wk'.length = f := o4 _ _ (by
    show (wk' ++ f :: xs)[wk'.length]? = _
    rw [List.getElem?_append_right (Nat.le_refl _), Nat.sub_self]
    rfl)
  unfold aEv
  simp only [lv_args, z_v, z_lg, z_h, z_u, z_u1, z_c, z_ct, z_sk, sbne, lst1_d, ldel, lst2_d, ldel2, z_sw, z_rok, zi, eq_self, List.map_cons, List.map_nil, List.append_nil, List.nil_append, List.cons_append, Int32.reduceLT, Int32.reduceLE, Int32.reduceAdd, Int32.reduceSub, Int32.reduceMul, Int32.reduceToInt, Int32.reduceToNatClampNeg, Int.reduceLT, Int.reduceLE, Int.reduceNeg, true_and, and_true, or_self, or_false, false_or, false_and, and_false, true_or, or_true, if_true, if_false, ne_eq, Classical.not_not, not_true_eq_false, not_false_eq_true, true_implies, false_implies, implies_true, Nat.reduceEqDiff, Nat.reduceAdd, Nat.reduceLeDiff, Nat.reduceSub, reduceCtorEq, reduceIte, b180_0, skM s, r17, k0, w10, k4, w11, k5]
  simp (disch := omega) only [nI_ti, nI_cl, le0N, ltNN, p1, p2, true_and]
  refine ⟨p3, ?_⟩
  try simp only [lv_args, z_v, z_lg, z_h, z_u, z_u1, z_c, z_ct, z_sk, sbne, lst1_d, ldel, lst2_d, ldel2, z_sw, z_rok, zi, eq_self, List.map_cons, List.map_nil, List.append_nil, List.nil_append, List.cons_append, Int32.reduceLT, Int32.reduceLE, Int32.reduceAdd, Int32.reduceSub, Int32.reduceMul, Int32.reduceToInt, Int32.reduceToNatClampNeg, Int.reduceLT, Int.reduceLE, Int.reduceNeg, true_and, and_true, or_self, or_false, false_or, false_and, and_false, true_or, or_true, if_true, if_false, ne_eq, Classical.not_not, not_true_eq_false, not_false_eq_true, true_implies, false_implies, implies_true, Nat.reduceEqDiff, Nat.reduceAdd, Nat.reduceLeDiff, Nat.reduceSub, reduceCtorEq, reduceIte, b180_0, skM s, r17, k0, w11, k5]
  simp (disch := omega) only [nI_ti, nI_cl, le0N, ltNN, n1, n2, true_and]
  refine ⟨n3, ?_⟩
  try simp only [lv_args, z_v, z_lg, z_h, z_u, z_u1, z_c, z_ct, z_sk, sbne, lst1_d, ldel, lst2_d, ldel2, z_sw, z_rok, zi, eq_self, List.map_cons, List.map_nil, List.append_nil, List.nil_append, List.cons_append, Int32.reduceLT, Int32.reduceLE, Int32.reduceAdd, Int32.reduceSub, Int32.reduceMul, Int32.reduceToInt, Int32.reduceToNatClampNeg, Int.reduceLT, Int.reduceLE, Int.reduceNeg, true_and, and_true, or_self, or_false, false_or, false_and, and_false, true_or, or_true, if_true, if_false, ne_eq, Classical.not_not, not_true_eq_false, not_false_eq_true, true_implies, false_implies, implies_true, Nat.reduceEqDiff, Nat.reduceAdd, Nat.reduceLeDiff, Nat.reduceSub, reduceCtorEq, reduceIte, b180_0]
  refine ap_cnt (K := xs.length) S (by omega) ?_ l 0 (G.1 25 c) hc.2.2 (by omega)
  simp only [lv_args, z_v, z_lg, z_h, z_u, z_u1, z_c, z_ct, z_sk, sbne, lst1_d, ldel, lst2_d, ldel2, z_sw, z_rok, zi, eq_self, List.map_cons, List.map_nil, List.append_nil, List.nil_append, List.cons_append, Int32.reduceLT, Int32.reduceLE, Int32.reduceAdd, Int32.reduceSub, Int32.reduceMul, Int32.reduceToInt, Int32.reduceToNatClampNeg, Int.reduceLT, Int.reduceLE, Int.reduceNeg, true_and, and_true, or_self, or_false, false_or, false_and, and_false, true_or, or_true, if_true, if_false, ne_eq, Classical.not_not, not_true_eq_false, not_false_eq_true, true_implies, false_implies, implies_true, Nat.reduceEqDiff, Nat.reduceAdd, Nat.reduceLeDiff, Nat.reduceSub, reduceCtorEq, reduceIte, b180_41, skM s, srM s, o1, nI_m1, nI_sb]
  simp (disch := omega) only [nI_ti, nI_cl, le0N, ltNN, o5, true_and]
  refine ⟨by omega, ?_⟩
  try simp only [lv_args, z_v, z_lg, z_h, z_u, z_u1, z_c, z_ct, z_sk, sbne, lst1_d, ldel, lst2_d, ldel2, z_sw, z_rok, zi, eq_self, List.map_cons, List.map_nil, List.append_nil, List.nil_append, List.cons_append, Int32.reduceLT, Int32.reduceLE, Int32.reduceAdd, Int32.reduceSub, Int32.reduceMul, Int32.reduceToInt, Int32.reduceToNatClampNeg, Int.reduceLT, Int.reduceLE, Int.reduceNeg, true_and, and_true, or_self, or_false, false_or, false_and, and_false, true_or, or_true, if_true, if_false, ne_eq, Classical.not_not, not_true_eq_false, not_false_eq_true, true_implies, false_implies, implies_true, Nat.reduceEqDiff, Nat.reduceAdd, Nat.reduceLeDiff, Nat.reduceSub, reduceCtorEq, reduceIte, b180_41, skM s, h0, e227, kd_s]
  refine ⟨fun c1 => ?_, fun c1 => q7 c1⟩
  simp only [lv_args, z_v, z_lg, z_h, z_u, z_u1, z_c, z_ct, z_sk, sbne, lst1_d, ldel, lst2_d, ldel2, z_sw, z_rok, zi, eq_self, List.map_cons, List.map_nil, List.append_nil, List.nil_append, List.cons_append, Int32.reduceLT, Int32.reduceLE, Int32.reduceAdd, Int32.reduceSub, Int32.reduceMul, Int32.reduceToInt, Int32.reduceToNatClampNeg, Int.reduceLT, Int.reduceLE, Int.reduceNeg, true_and, and_true, or_self, or_false, false_or, false_and, and_false, true_or, or_true, if_true, if_false, ne_eq, Classical.not_not, not_true_eq_false, not_false_eq_true, true_implies, false_implies, implies_true, Nat.reduceEqDiff, Nat.reduceAdd, Nat.reduceLeDiff, Nat.reduceSub, reduceCtorEq, reduceIte, b180_77, skM s, h0, e227, kd_s]
  exact ⟨fun c2 => q9 c1 c2, fun c2 => q8 c1 c2⟩
/-- a procedure is called: what speaks against it -/
theorem cl_in (hW : WG G) {i f M m : Nat} {ks : List Nat} {k : TD} {inp out : List Int32} {th op st : Nat} {lt : Int64} {bu : Nat} (r : RM G q qv ((md, nw, k :: td, wk), (sl, bs, pr), (bx, ps, pa, ce, gr), (inp, out, th, op, st, lt, bu)) h) (hf : ps[f]? = some (M, ks)) (hM1 : 1 ≤ M) (hM2 : M ≤ pLm G) (hm : m ≤ 8)
    (q2 : pWn G M ≠ m → Q none (pI h 59 68 2)) (q7 : pWn G M = m → k.1 ≠ 8 → op = 1000 → Q none (pI h 59 68 7)) (q0 : pWn G M = m → (k.1 = 8 ∨ op < 1000) → ∀ h1 x5, (k.1 = 8 ∧ x5 = 1 ∨ k.1 ≠ 8 ∧ x5 = 0) → hn h1 = hn h → hK h1 = hK h → RM G q qv ((md, nw, k :: td, wk), (sl, bs, pr), (bx, ps, pa, ce, gr), (inp, out, th, op, st, lt, bu)) h1 → aWP d 192 82 [(5, .int x5), (4, .int (nI M)), (0, .ref 59), (1, .int (nI i)), (2, .int (nI f)), (3, .int (nI m))] [] h1 Q) : aEv d 192 [.ref 59, .int (nI i), .int (nI f), .int (nI m)] h Q := by
  have S := r.1
  have s := S.1
  have P := S.2.2.2.1
  have r17 := S.2.2.2.2.1
  have hM : M ≤ 120 := Nat.le_trans hM2 hW.2.2.2.1
  have hwn : pWn G M ≤ 8 := (hW.2.2.2.2.2.2.2 M hM1 hM2).2.1
  obtain ⟨⟨k0, k1, k2, k4, k5, k6, k7, k10, k14, k15, k16, k17, k18, k19⟩, w7, w8, w10, w11, w12, w13, w16, w20, w21, w22, w23, w24, w25⟩ := prf s P.1
  have n15 : hN h (q + 15) = 3000 := P.2.2.2.2.2.1 15 (by decide) (by decide)
  obtain ⟨_, f15, _, _⟩ := P.2.2.2.2.2.2.1 M hM1 hM2
  obtain ⟨_, ⟨m8, m9, m10, m11, m12, m13, m14, m15⟩, _⟩ := r.2.2.2.2.1
  have m9 : ps.length ≤ 40000 := m9
  have hfl := g_lt hf
  have f116 : hA h 116 f = nI M := (m15 f M ks hf).1
  obtain ⟨t1, t2, ⟨t3, t3b⟩, t4, t5⟩ := r.2.2.1
  have t1 : hI h 59 50 = nI (td.length + 1) := t1
  have t2 : td.length + 1 ≤ hN h 122 := t2
  obtain ⟨g1, _, _, g4⟩ := t5 td.length k rev_last
  have e59 : hI h 59 59 = nI op := r.2.2.2.2.2.2.2.1.2.1
  have hop : op ≤ 1000 := r.2.2.2.2.2.2.2.1.2.2.1
  have c0 : ((0 : Int32) ≤ 0) = True := eq_true (by decide)
  have c2 : ((2 : Int32) ≤ 0) = False := eq_false (by decide)
  have c7 : ((7 : Int32) ≤ 0) = False := eq_false (by decide)
  have z10 : ¬ (1 : Int32) = 0 := by decide
  have z8 : (8 : Int32) = nI 8 := rfl
  have z1000 : (1000 : Int32) = nI 1000 := rfl
  have r0 : RM G q qv ((md, nw, k :: td, wk), (sl, bs, pr), (bx, ps, pa, ce, gr), (inp, out, th, op, st, lt, bu)) (pI h 59 68 0) := by
    obtain ⟨a1, a2, a3, a4, a5, a6, a7, a8, a9, a10, a11⟩ := r
    exact ⟨sm_I a1, a2, a3, a4, a5, a6, a7, a8, rfl, a10, a11⟩
  have tail : ∀ x5 : Int32, (k.1 = 8 ∧ x5 = 1 ∨ k.1 ≠ 8 ∧ x5 = 0) → aWP d 192 29 [(4, .int (nI M)), (0, .ref 59), (1, .int (nI i)), (2, .int (nI f)), (3, .int (nI m))] [.int x5] h Q := by
    intro x5 hx5
    have ok : pWn G M = m → (k.1 = 8 ∨ op < 1000) → aWP d 192 70 [(5, .int x5), (4, .int (nI M)), (0, .ref 59), (1, .int (nI i)), (2, .int (nI f)), (3, .int (nI m))] [.ref 59] h Q := by
      intro e1 e2
      simp only [lv_args, z_v, z_lg, z_h, z_u, z_u1, z_c, z_ct, z_sk, sbne, lst1_d, ldel, lst2_d, ldel2, z_sw, z_rok, zi, eq_self, List.map_cons, List.map_nil, List.append_nil, List.nil_append, List.cons_append, Int32.reduceLT, Int32.reduceLE, Int32.reduceAdd, Int32.reduceSub, Int32.reduceMul, Int32.reduceToInt, Int32.reduceToNatClampNeg, Int.reduceLT, Int.reduceLE, Int.reduceNeg, true_and, and_true, or_self, or_false, false_or, false_and, and_false, true_or, or_true, if_true, if_false, ne_eq, Classical.not_not, not_true_eq_false, not_false_eq_true, true_implies, false_implies, implies_true, Nat.reduceEqDiff, Nat.reduceAdd, Nat.reduceLeDiff, Nat.reduceSub, reduceCtorEq, reduceIte, b192_70, b192_71, skM s, c0]
      exact q0 e1 e2 _ x5 hx5 rfl rfl r0
    simp only [lv_args, z_v, z_lg, z_h, z_u, z_u1, z_c, z_ct, z_sk, sbne, lst1_d, ldel, lst2_d, ldel2, z_sw, z_rok, zi, eq_self, List.map_cons, List.map_nil, List.append_nil, List.nil_append, List.cons_append, Int32.reduceLT, Int32.reduceLE, Int32.reduceAdd, Int32.reduceSub, Int32.reduceMul, Int32.reduceToInt, Int32.reduceToNatClampNeg, Int.reduceLT, Int.reduceLE, Int.reduceNeg, true_and, and_true, or_self, or_false, false_or, false_and, and_false, true_or, or_true, if_true, if_false, ne_eq, Classical.not_not, not_true_eq_false, not_false_eq_true, true_implies, false_implies, implies_true, Nat.reduceEqDiff, Nat.reduceAdd, Nat.reduceLeDiff, Nat.reduceSub, reduceCtorEq, reduceIte, b192_29, skM s, r17, k0, w21, k15]
    simp (disch := omega) only [nI_ti, nI_cl, le0N, ltNN, n15, f15, true_and]
    refine ⟨by omega, ?_⟩
    try simp (disch := omega) only [nI_eqN]
    refine ⟨fun c => ?_, fun c => ?_⟩
    · rcases hx5 with ⟨e8, rfl⟩ | ⟨e8, rfl⟩
      · simp only [lv_args, z_v, z_lg, z_h, z_u, z_u1, z_c, z_ct, z_sk, sbne, lst1_d, ldel, lst2_d, ldel2, z_sw, z_rok, zi, eq_self, List.map_cons, List.map_nil, List.append_nil, List.nil_append, List.cons_append, Int32.reduceLT, Int32.reduceLE, Int32.reduceAdd, Int32.reduceSub, Int32.reduceMul, Int32.reduceToInt, Int32.reduceToNatClampNeg, Int.reduceLT, Int.reduceLE, Int.reduceNeg, true_and, and_true, or_self, or_false, false_or, false_and, and_false, true_or, or_true, if_true, if_false, ne_eq, Classical.not_not, not_true_eq_false, not_false_eq_true, true_implies, false_implies, implies_true, Nat.reduceEqDiff, Nat.reduceAdd, Nat.reduceLeDiff, Nat.reduceSub, reduceCtorEq, reduceIte, b192_50, z10]
        exact ok c (Or.inl e8)
      · simp only [lv_args, z_v, z_lg, z_h, z_u, z_u1, z_c, z_ct, z_sk, sbne, lst1_d, ldel, lst2_d, ldel2, z_sw, z_rok, zi, eq_self, List.map_cons, List.map_nil, List.append_nil, List.nil_append, List.cons_append, Int32.reduceLT, Int32.reduceLE, Int32.reduceAdd, Int32.reduceSub, Int32.reduceMul, Int32.reduceToInt, Int32.reduceToNatClampNeg, Int.reduceLT, Int.reduceLE, Int.reduceNeg, true_and, and_true, or_self, or_false, false_or, false_and, and_false, true_or, or_true, if_true, if_false, ne_eq, Classical.not_not, not_true_eq_false, not_false_eq_true, true_implies, false_implies, implies_true, Nat.reduceEqDiff, Nat.reduceAdd, Nat.reduceLeDiff, Nat.reduceSub, reduceCtorEq, reduceIte, b192_50]
        simp only [lv_args, z_v, z_lg, z_h, z_u, z_u1, z_c, z_ct, z_sk, sbne, lst1_d, ldel, lst2_d, ldel2, z_sw, z_rok, zi, eq_self, List.map_cons, List.map_nil, List.append_nil, List.nil_append, List.cons_append, Int32.reduceLT, Int32.reduceLE, Int32.reduceAdd, Int32.reduceSub, Int32.reduceMul, Int32.reduceToInt, Int32.reduceToNatClampNeg, Int.reduceLT, Int.reduceLE, Int.reduceNeg, true_and, and_true, or_self, or_false, false_or, false_and, and_false, true_or, or_true, if_true, if_false, ne_eq, Classical.not_not, not_true_eq_false, not_false_eq_true, true_implies, false_implies, implies_true, Nat.reduceEqDiff, Nat.reduceAdd, Nat.reduceLeDiff, Nat.reduceSub, reduceCtorEq, reduceIte, b192_55, skM s, e59, z1000]
        simp (disch := omega) only [nI_eqN]
        refine ⟨fun c3 => ok c (Or.inr (by omega)), fun c3 => ?_⟩
        simp only [lv_args, z_v, z_lg, z_h, z_u, z_u1, z_c, z_ct, z_sk, sbne, lst1_d, ldel, lst2_d, ldel2, z_sw, z_rok, zi, eq_self, List.map_cons, List.map_nil, List.append_nil, List.nil_append, List.cons_append, Int32.reduceLT, Int32.reduceLE, Int32.reduceAdd, Int32.reduceSub, Int32.reduceMul, Int32.reduceToInt, Int32.reduceToNatClampNeg, Int.reduceLT, Int.reduceLE, Int.reduceNeg, true_and, and_true, or_self, or_false, false_or, false_and, and_false, true_or, or_true, if_true, if_false, ne_eq, Classical.not_not, not_true_eq_false, not_false_eq_true, true_implies, false_implies, implies_true, Nat.reduceEqDiff, Nat.reduceAdd, Nat.reduceLeDiff, Nat.reduceSub, reduceCtorEq, reduceIte, b192_65, b192_71, skM s, c7]
        simp only [lv_args, z_v, z_lg, z_h, z_u, z_u1, z_c, z_ct, z_sk, sbne, lst1_d, ldel, lst2_d, ldel2, z_sw, z_rok, zi, eq_self, List.map_cons, List.map_nil, List.append_nil, List.nil_append, List.cons_append, Int32.reduceLT, Int32.reduceLE, Int32.reduceAdd, Int32.reduceSub, Int32.reduceMul, Int32.reduceToInt, Int32.reduceToNatClampNeg, Int.reduceLT, Int.reduceLE, Int.reduceNeg, true_and, and_true, or_self, or_false, false_or, false_and, and_false, true_or, or_true, if_true, if_false, ne_eq, Classical.not_not, not_true_eq_false, not_false_eq_true, true_implies, false_implies, implies_true, Nat.reduceEqDiff, Nat.reduceAdd, Nat.reduceLeDiff, Nat.reduceSub, reduceCtorEq, reduceIte, b192_81]
        exact q7 c e8 c3
    · simp only [lv_args, z_v, z_lg, z_h, z_u, z_u1, z_c, z_ct, z_sk, sbne, lst1_d, ldel, lst2_d, ldel2, z_sw, z_rok, zi, eq_self, List.map_cons, List.map_nil, List.append_nil, List.nil_append, List.cons_append, Int32.reduceLT, Int32.reduceLE, Int32.reduceAdd, Int32.reduceSub, Int32.reduceMul, Int32.reduceToInt, Int32.reduceToNatClampNeg, Int.reduceLT, Int.reduceLE, Int.reduceNeg, true_and, and_true, or_self, or_false, false_or, false_and, and_false, true_or, or_true, if_true, if_false, ne_eq, Classical.not_not, not_true_eq_false, not_false_eq_true, true_implies, false_implies, implies_true, Nat.reduceEqDiff, Nat.reduceAdd, Nat.reduceLeDiff, Nat.reduceSub, reduceCtorEq, reduceIte, b192_46, b192_71, skM s, c2]
      simp only [lv_args, z_v, z_lg, z_h, z_u, z_u1, z_c, z_ct, z_sk, sbne, lst1_d, ldel, lst2_d, ldel2, z_sw, z_rok, zi, eq_self, List.map_cons, List.map_nil, List.append_nil, List.nil_append, List.cons_append, Int32.reduceLT, Int32.reduceLE, Int32.reduceAdd, Int32.reduceSub, Int32.reduceMul, Int32.reduceToInt, Int32.reduceToNatClampNeg, Int.reduceLT, Int.reduceLE, Int.reduceNeg, true_and, and_true, or_self, or_false, false_or, false_and, and_false, true_or, or_true, if_true, if_false, ne_eq, Classical.not_not, not_true_eq_false, not_false_eq_true, true_implies, false_implies, implies_true, Nat.reduceEqDiff, Nat.reduceAdd, Nat.reduceLeDiff, Nat.reduceSub, reduceCtorEq, reduceIte, b192_81]
      exact q2 c
  unfold aEv
  simp only [lv_args, z_v, z_lg, z_h, z_u, z_u1, z_c, z_ct, z_sk, sbne, lst1_d, ldel, lst2_d, ldel2, z_sw, z_rok, zi, eq_self, List.map_cons, List.map_nil, List.append_nil, List.nil_append, List.cons_append, Int32.reduceLT, Int32.reduceLE, Int32.reduceAdd, Int32.reduceSub, Int32.reduceMul, Int32.reduceToInt, Int32.reduceToNatClampNeg, Int.reduceLT, Int.reduceLE, Int.reduceNeg, true_and, and_true, or_self, or_false, false_or, false_and, and_false, true_or, or_true, if_true, if_false, ne_eq, Classical.not_not, not_true_eq_false, not_false_eq_true, true_implies, false_implies, implies_true, Nat.reduceEqDiff, Nat.reduceAdd, Nat.reduceLeDiff, Nat.reduceSub, reduceCtorEq, reduceIte, b192_0, skM s, srM s, t1, nI_m1, z8]
  simp (disch := omega) only [nI_ti, nI_cl, le0N, ltNN, m10, f116, g1, nI_eqN, true_and]
  refine ⟨by omega, by omega, ?_⟩
  refine ⟨fun c => ?_, fun c => ?_⟩
  · simp only [lv_args, z_v, z_lg, z_h, z_u, z_u1, z_c, z_ct, z_sk, sbne, lst1_d, ldel, lst2_d, ldel2, z_sw, z_rok, zi, eq_self, List.map_cons, List.map_nil, List.append_nil, List.nil_append, List.cons_append, Int32.reduceLT, Int32.reduceLE, Int32.reduceAdd, Int32.reduceSub, Int32.reduceMul, Int32.reduceToInt, Int32.reduceToNatClampNeg, Int.reduceLT, Int.reduceLE, Int.reduceNeg, true_and, and_true, or_self, or_false, false_or, false_and, and_false, true_or, or_true, if_true, if_false, ne_eq, Classical.not_not, not_true_eq_false, not_false_eq_true, true_implies, false_implies, implies_true, Nat.reduceEqDiff, Nat.reduceAdd, Nat.reduceLeDiff, Nat.reduceSub, reduceCtorEq, reduceIte, b192_28]
    exact tail 0 (Or.inr ⟨c, rfl⟩)
  · simp only [lv_args, z_v, z_lg, z_h, z_u, z_u1, z_c, z_ct, z_sk, sbne, lst1_d, ldel, lst2_d, ldel2, z_sw, z_rok, zi, eq_self, List.map_cons, List.map_nil, List.append_nil, List.nil_append, List.cons_append, Int32.reduceLT, Int32.reduceLE, Int32.reduceAdd, Int32.reduceSub, Int32.reduceMul, Int32.reduceToInt, Int32.reduceToNatClampNeg, Int.reduceLT, Int.reduceLE, Int.reduceNeg, true_and, and_true, or_self, or_false, false_or, false_and, and_false, true_or, or_true, if_true, if_false, ne_eq, Classical.not_not, not_true_eq_false, not_false_eq_true, true_implies, false_implies, implies_true, Nat.reduceEqDiff, Nat.reduceAdd, Nat.reduceLeDiff, Nat.reduceSub, reduceCtorEq, reduceIte, b192_24]
    exact tail 1 (Or.inl ⟨c, rfl⟩)
theorem cm_loop {x1 x2 x4 x5 : Int32} (hd : 2 < d) (hK : bs + xs.length ≤ sl.length) (hx : xs.length ≤ 1000) (hl : sl.length ≤ 252000) (hq : ∀ h', RM G q qv ((md, nw, td, wk ++ xs), (nsl sl bs bx.length xs.length, bs, pr), (bx ++ xs, ps, pa, ce, gr), P) h' → aWP d 192 223 [(6, .int (nI xs.length)), (5, .int x5), (4, .int x4), (0, .ref 59), (1, .int x1), (2, .int x2), (3, .int (nI xs.length))] [] h' Q) : ∀ (m k : Nat) (h : Hp), k + m = xs.length → RM G q qv ((md, nw, td, wk ++ xs), (nsl sl bs bx.length k, bs, pr), (bx ++ xs.take k, ps, pa, ce, gr), P) h → aWP d 192 181 [(6, .int (nI k)), (5, .int x5), (4, .int x4), (0, .ref 59), (1, .int x1), (2, .int x2), (3, .int (nI xs.length))] [] h Q := by
  intro m
  induction m with
  | zero =>
    intro k h hk r
    have hk : k = xs.length := by omega
    subst hk
    rw [List.take_length] at r
    simp only [lv_args, z_v, z_lg, z_h, z_u, z_u1, z_c, z_ct, z_sk, sbne, lst1_d, ldel, lst2_d, ldel2, z_sw, z_rok, zi, eq_self, List.map_cons, List.map_nil, List.append_nil, List.nil_append, List.cons_append, Int32.reduceLT, Int32.reduceLE, Int32.reduceAdd, Int32.reduceSub, Int32.reduceMul, Int32.reduceToInt, Int32.reduceToNatClampNeg, Int.reduceLT, Int.reduceLE, Int.reduceNeg, true_and, and_true, or_self, or_false, false_or, false_and, and_false, true_or, or_true, if_true, if_false, ne_eq, Classical.not_not, not_true_eq_false, not_false_eq_true, true_implies, false_implies, implies_true, Nat.reduceEqDiff, Nat.reduceAdd, Nat.reduceLeDiff, Nat.reduceSub, reduceCtorEq, reduceIte, b192_181]
    simp (disch := omega) only [nI_leN]
    exact ⟨fun _ => hq h r, fun c => absurd (Nat.le_refl _) c⟩
  | succ m ih =>
    intro k h hk r
    have S := r.1
    have s := S.1
    have h0 : 0 < d := by omega
    obtain ⟨u1, u2, u3, u4⟩ := rm_121 r
    rw [nsl_len] at u1
    have hj : bs + k < sl.length := by omega
    have hkx : k < xs.length := by omega
    obtain ⟨o1, o2, o3, o4⟩ := r.2.2.2.1
    have o1 : hI h 59 52 = nI (wk.length + xs.length) := by rw [← List.length_append]; exact o1
    have o2 : wk.length + xs.length ≤ hN h 125 := by rw [← List.length_append]; exact o2
    have o3 : hN h 125 ≤ 620000 := o3
    have o5 : hB h 125 (wk.length + k) = xs[k] := o4 _ _ (by
      show (wk ++ xs)[wk.length + k]? = _
      rw [List.getElem?_append_right (by omega), Nat.add_sub_cancel_left]
      exact List.getElem?_eq_getElem hkx)
    simp only [lv_args, z_v, z_lg, z_h, z_u, z_u1, z_c, z_ct, z_sk, sbne, lst1_d, ldel, lst2_d, ldel2, z_sw, z_rok, zi, eq_self, List.map_cons, List.map_nil, List.append_nil, List.nil_append, List.cons_append, Int32.reduceLT, Int32.reduceLE, Int32.reduceAdd, Int32.reduceSub, Int32.reduceMul, Int32.reduceToInt, Int32.reduceToNatClampNeg, Int.reduceLT, Int.reduceLE, Int.reduceNeg, true_and, and_true, or_self, or_false, false_or, false_and, and_false, true_or, or_true, if_true, if_false, ne_eq, Classical.not_not, not_true_eq_false, not_false_eq_true, true_implies, false_implies, implies_true, Nat.reduceEqDiff, Nat.reduceAdd, Nat.reduceLeDiff, Nat.reduceSub, reduceCtorEq, reduceIte, b192_181]
    simp (disch := omega) only [nI_leN]
    refine ⟨fun c => absurd c (by omega), fun _ => ?_⟩
    simp only [lv_args, z_v, z_lg, z_h, z_u, z_u1, z_c, z_ct, z_sk, sbne, lst1_d, ldel, lst2_d, ldel2, z_sw, z_rok, zi, eq_self, List.map_cons, List.map_nil, List.append_nil, List.nil_append, List.cons_append, Int32.reduceLT, Int32.reduceLE, Int32.reduceAdd, Int32.reduceSub, Int32.reduceMul, Int32.reduceToInt, Int32.reduceToNatClampNeg, Int.reduceLT, Int.reduceLE, Int.reduceNeg, true_and, and_true, or_self, or_false, false_or, false_and, and_false, true_or, or_true, if_true, if_false, ne_eq, Classical.not_not, not_true_eq_false, not_false_eq_true, true_implies, false_implies, implies_true, Nat.reduceEqDiff, Nat.reduceAdd, Nat.reduceLeDiff, Nat.reduceSub, reduceCtorEq, reduceIte, b192_187, skM s, srM s, h0, u3, o1, nI_sb, nI_add]
    simp (disch := omega) only [nI_ti, nI_cl, le0N, ltNN, o5, true_and]
    refine ⟨by omega, ?_⟩
    try simp only [lv_args, z_v, z_lg, z_h, z_u, z_u1, z_c, z_ct, z_sk, sbne, lst1_d, ldel, lst2_d, ldel2, z_sw, z_rok, zi, eq_self, List.map_cons, List.map_nil, List.append_nil, List.nil_append, List.cons_append, Int32.reduceLT, Int32.reduceLE, Int32.reduceAdd, Int32.reduceSub, Int32.reduceMul, Int32.reduceToInt, Int32.reduceToNatClampNeg, Int.reduceLT, Int.reduceLE, Int.reduceNeg, true_and, and_true, or_self, or_false, false_or, false_and, and_false, true_or, or_true, if_true, if_false, ne_eq, Classical.not_not, not_true_eq_false, not_false_eq_true, true_implies, false_implies, implies_true, Nat.reduceEqDiff, Nat.reduceAdd, Nat.reduceLeDiff, Nat.reduceSub, reduceCtorEq, reduceIte, b192_187, skM s, srM s, h0]
    refine sp_newBox r (by rw [nsl_len]; exact hl) (by omega) (fun b h' r' nb hv' => ?_)
    have s' := r'.1.1
    obtain ⟨y1, y2, y3, y4⟩ := rm_121 r'
    rw [nsl_len] at y1
    have r1 : RM G q qv ((md, nw, td, wk ++ xs), (nsl sl bs bx.length (k + 1), bs, pr), (bx ++ xs.take (k + 1), ps, pa, ce, gr), P) (pA h' 121 (upd (hA h' 121) (bs + k) (nI b))) := by
      have := rm_slot (j := bs + k) r' nb (by rw [nsl_len]; exact hj)
      rw [List.length_append, List.length_take, Nat.min_eq_left (by omega), List.append_assoc, List.take_append_getElem hkx] at this
      exact this
    have next := ih (k + 1) _ (by omega) r1
    simp only [lv_args, z_v, z_lg, z_h, z_u, z_u1, z_c, z_ct, z_sk, sbne, lst1_d, ldel, lst2_d, ldel2, z_sw, z_rok, zi, eq_self, List.map_cons, List.map_nil, List.append_nil, List.nil_append, List.cons_append, Int32.reduceLT, Int32.reduceLE, Int32.reduceAdd, Int32.reduceSub, Int32.reduceMul, Int32.reduceToInt, Int32.reduceToNatClampNeg, Int.reduceLT, Int.reduceLE, Int.reduceNeg, true_and, and_true, or_self, or_false, false_or, false_and, and_false, true_or, or_true, if_true, if_false, ne_eq, Classical.not_not, not_true_eq_false, not_false_eq_true, true_implies, false_implies, implies_true, Nat.reduceEqDiff, Nat.reduceAdd, Nat.reduceLeDiff, Nat.reduceSub, reduceCtorEq, reduceIte, b192_187, skM s, skM s', srM s', hv', Nat.reduceLT]
    simp (disch := omega) only [nI_ti, nI_cl, le0N, ltNN, true_and]
    refine ⟨by omega, ?_⟩
    try simp only [lv_args, z_v, z_lg, z_h, z_u, z_u1, z_c, z_ct, z_sk, sbne, lst1_d, ldel, lst2_d, ldel2, z_sw, z_rok, zi, eq_self, List.map_cons, List.map_nil, List.append_nil, List.nil_append, List.cons_append, Int32.reduceLT, Int32.reduceLE, Int32.reduceAdd, Int32.reduceSub, Int32.reduceMul, Int32.reduceToInt, Int32.reduceToNatClampNeg, Int.reduceLT, Int.reduceLE, Int.reduceNeg, true_and, and_true, or_self, or_false, false_or, false_and, and_false, true_or, or_true, if_true, if_false, ne_eq, Classical.not_not, not_true_eq_false, not_false_eq_true, true_implies, false_implies, implies_true, Nat.reduceEqDiff, Nat.reduceAdd, Nat.reduceLeDiff, Nat.reduceSub, reduceCtorEq, reduceIte, b192_187, nI_1]
    exact next
/-- the call's slots are filled, its body begins -/
theorem cl_end (hW : WG G) {f M cc li b : Nat} {dd : List Nat} {x1 x5 : Int32} (r : RM G q qv ((none, nw, td, (wk' ++ [v]) ++ xs), (sl, sl.length, pr), (bx, ps, pa, ce, gr), P) h) (hsl : sl.length ≤ 251000) (htd : td.length ≤ 44990) (hx : xs.length = pWn G M) (hf : f < ps.length) (hM1 : 1 ≤ M) (hM2 : M ≤ pLm G) (hch : Chn G (G.1 24 (pNd G M)) (cc :: li :: b :: dd)) (hd : 20 < d) (hq : ∀ h', RM G q qv ((some b, nw, chs 0 (b :: dd) td, wk'), (nsl (sl ++ List.replicate (pSn G M) 0) sl.length bx.length xs.length, sl.length, some f), (bx ++ xs, ps, pa, ce, gr), P) h' → Q none h') : aWP d 192 164 [(5, .int x5), (4, .int (nI M)), (0, .ref 59), (1, .int x1), (2, .int (nI f)), (3, .int (nI xs.length))] [] h Q := by
  have S := r.1
  have s := S.1
  have P0 := S.2.2.2.1
  have r17 := S.2.2.2.2.1
  have h0 : 0 < d := by omega
  have hM : M ≤ 120 := Nat.le_trans hM2 hW.2.2.2.1
  have hsn : pSn G M ≤ 250 := (hW.2.2.2.2.2.1 M hM2).2.1
  obtain ⟨hnd, hwn, hws, _⟩ := hW.2.2.2.2.2.2.2 M hM1 hM2
  obtain ⟨⟨k0, k1, k2, k4, k5, k6, k7, k10, k14, k15, k16, k17, k18, k19⟩, w7, w8, w10, w11, w12, w13, w16, w20, w21, w22, w23, w24, w25⟩ := prf s P0.1
  have n16 : hN h (q + 16) = 3000 := P0.2.2.2.2.2.1 16 (by decide) (by decide)
  obtain ⟨_, _, f16, _⟩ := P0.2.2.2.2.2.2.1 M hM1 hM2
  simp only [lv_args, z_v, z_lg, z_h, z_u, z_u1, z_c, z_ct, z_sk, sbne, lst1_d, ldel, lst2_d, ldel2, z_sw, z_rok, zi, eq_self, List.map_cons, List.map_nil, List.append_nil, List.nil_append, List.cons_append, Int32.reduceLT, Int32.reduceLE, Int32.reduceAdd, Int32.reduceSub, Int32.reduceMul, Int32.reduceToInt, Int32.reduceToNatClampNeg, Int.reduceLT, Int.reduceLE, Int.reduceNeg, true_and, and_true, or_self, or_false, false_or, false_and, and_false, true_or, or_true, if_true, if_false, ne_eq, Classical.not_not, not_true_eq_false, not_false_eq_true, true_implies, false_implies, implies_true, Nat.reduceEqDiff, Nat.reduceAdd, Nat.reduceLeDiff, Nat.reduceSub, reduceCtorEq, reduceIte, b192_164, skM s, h0, r17, k0, w22, k16]
  simp (disch := omega) only [nI_ti, nI_cl, le0N, ltNN, n16, f16, true_and]
  refine ⟨by omega, ?_⟩
  try simp only [lv_args, z_v, z_lg, z_h, z_u, z_u1, z_c, z_ct, z_sk, sbne, lst1_d, ldel, lst2_d, ldel2, z_sw, z_rok, zi, eq_self, List.map_cons, List.map_nil, List.append_nil, List.nil_append, List.cons_append, Int32.reduceLT, Int32.reduceLE, Int32.reduceAdd, Int32.reduceSub, Int32.reduceMul, Int32.reduceToInt, Int32.reduceToNatClampNeg, Int.reduceLT, Int.reduceLE, Int.reduceNeg, true_and, and_true, or_self, or_false, false_or, false_and, and_false, true_or, or_true, if_true, if_false, ne_eq, Classical.not_not, not_true_eq_false, not_false_eq_true, true_implies, false_implies, implies_true, Nat.reduceEqDiff, Nat.reduceAdd, Nat.reduceLeDiff, Nat.reduceSub, reduceCtorEq, reduceIte, b192_164, skM s, h0]
  refine sp_slots S r.2.2.2.2.1 (by omega) (by show sl.length + pSn G M ≤ 252000; omega) (fun h1 F1 S1 M1 => ?_)
  have s1 := S1.1
  have r1 := rm_frs F1 S1 r M1
  simp only [lv_args, z_v, z_lg, z_h, z_u, z_u1, z_c, z_ct, z_sk, sbne, lst1_d, ldel, lst2_d, ldel2, z_sw, z_rok, zi, eq_self, List.map_cons, List.map_nil, List.append_nil, List.nil_append, List.cons_append, Int32.reduceLT, Int32.reduceLE, Int32.reduceAdd, Int32.reduceSub, Int32.reduceMul, Int32.reduceToInt, Int32.reduceToNatClampNeg, Int.reduceLT, Int.reduceLE, Int.reduceNeg, true_and, and_true, or_self, or_false, false_or, false_and, and_false, true_or, or_true, if_true, if_false, ne_eq, Classical.not_not, not_true_eq_false, not_false_eq_true, true_implies, false_implies, implies_true, Nat.reduceEqDiff, Nat.reduceAdd, Nat.reduceLeDiff, Nat.reduceSub, reduceCtorEq, reduceIte, b192_164, skM s, skM s1, Nat.reduceLT]
  refine cm_loop (md := none) (nw := nw) (td := td) (wk := wk' ++ [v]) (bx := bx) (sl := sl ++ List.replicate (pSn G M) 0) (bs := sl.length) (by omega) (by rw [List.length_append, List.length_replicate]; omega) (by omega) (by rw [List.length_append, List.length_replicate]; omega) (fun h2 r2 => ?_) xs.length 0 h1 (by omega) (by simpa [nsl] using r1)
  have S2 := r2.1
  have s2 := S2.1
  have P2 := S2.2.2.2.1
  have r172 := S2.2.2.2.2.1
  obtain ⟨⟨j0, j1, j2, j4, j5, j6, j7, j10, j14, j15, j16, j17, j18, j19⟩, x7, x8, x10, x11, x12, x13, x16, x20, x21, x22, x23, x24, x25⟩ := prf s2 P2.1
  have n14 : hN h2 (q + 14) = 3000 := P2.2.2.2.2.2.1 14 (by decide) (by decide)
  obtain ⟨f14, _, _, _⟩ := P2.2.2.2.2.2.2.1 M hM1 hM2
  obtain ⟨o1, o2, o3, o4⟩ := r2.2.2.2.1
  have o1 : hI h2 59 52 = nI (wk'.length + (xs.length + 1)) := by
    have : hI h2 59 52 = nI ((wk' ++ [v]) ++ xs).length := o1
    rw [this, List.length_append, List.length_append, List.length_singleton, Nat.add_assoc, Nat.add_comm 1]
  have o2 : wk'.length + (xs.length + 1) ≤ hN h2 125 := by
    have : ((wk' ++ [v]) ++ xs).length ≤ hN h2 125 := o2
    rw [List.length_append, List.length_append, List.length_singleton] at this
    omega
  have r3 : RM G q qv ((none, nw, td, wk'), (nsl (sl ++ List.replicate (pSn G M) 0) sl.length bx.length xs.length, sl.length, some f), (bx ++ xs, ps, pa, ce, gr), P) (pI (pI h2 59 52 (nI wk'.length)) 59 46 (nI f)) := by
    obtain ⟨a1, a2, a3, a4, ⟨⟨m1, m2, m3, m4, m5, m6, m7⟩, M2⟩, a6, a7, a8, a9, a10, a11⟩ := r2
    refine ⟨sm_I (sm_I a1), a2, a3, ⟨rfl, by show wk'.length ≤ hN h2 125; omega, o3, fun i x hx => o4 i x ?_⟩, ⟨⟨m1, m2, m3, m4, rfl, fun i e => ?_, m7⟩, M2⟩, a6, a7, a8, a9, a10, a11⟩
    · show ((wk' ++ [v]) ++ xs)[i]? = some x
      exact g_app (g_app hx)
    · injection e with e
      exact e ▸ hf
  have S3 := r3.1
  have z2 : (2 : Int32) = nI 2 := rfl
  simp only [lv_args, z_v, z_lg, z_h, z_u, z_u1, z_c, z_ct, z_sk, sbne, lst1_d, ldel, lst2_d, ldel2, z_sw, z_rok, zi, eq_self, List.map_cons, List.map_nil, List.append_nil, List.nil_append, List.cons_append, Int32.reduceLT, Int32.reduceLE, Int32.reduceAdd, Int32.reduceSub, Int32.reduceMul, Int32.reduceToInt, Int32.reduceToNatClampNeg, Int.reduceLT, Int.reduceLE, Int.reduceNeg, true_and, and_true, or_self, or_false, false_or, false_and, and_false, true_or, or_true, if_true, if_false, ne_eq, Classical.not_not, not_true_eq_false, not_false_eq_true, true_implies, false_implies, implies_true, Nat.reduceEqDiff, Nat.reduceAdd, Nat.reduceLeDiff, Nat.reduceSub, reduceCtorEq, reduceIte, b192_223, skM s2, h0, o1, nI_1, nI_sb, r172, j0, x20, j14]
  simp (disch := omega) only [nI_ti, nI_cl, le0N, ltNN, n14, f14, true_and]
  refine ⟨by omega, ?_⟩
  try simp only [lv_args, z_v, z_lg, z_h, z_u, z_u1, z_c, z_ct, z_sk, sbne, lst1_d, ldel, lst2_d, ldel2, z_sw, z_rok, zi, eq_self, List.map_cons, List.map_nil, List.append_nil, List.nil_append, List.cons_append, Int32.reduceLT, Int32.reduceLE, Int32.reduceAdd, Int32.reduceSub, Int32.reduceMul, Int32.reduceToInt, Int32.reduceToNatClampNeg, Int.reduceLT, Int.reduceLE, Int.reduceNeg, true_and, and_true, or_self, or_false, false_or, false_and, and_false, true_or, or_true, if_true, if_false, ne_eq, Classical.not_not, not_true_eq_false, not_false_eq_true, true_implies, false_implies, implies_true, Nat.reduceEqDiff, Nat.reduceAdd, Nat.reduceLeDiff, Nat.reduceSub, reduceCtorEq, reduceIte, b192_223, skM s2, h0, z2]
  refine sp_part S3 hnd hch (i := 2) (m := b) rfl (by decide) ?_
  simp only [lv_args, z_v, z_lg, z_h, z_u, z_u1, z_c, z_ct, z_sk, sbne, lst1_d, ldel, lst2_d, ldel2, z_sw, z_rok, zi, eq_self, List.map_cons, List.map_nil, List.append_nil, List.nil_append, List.cons_append, Int32.reduceLT, Int32.reduceLE, Int32.reduceAdd, Int32.reduceSub, Int32.reduceMul, Int32.reduceToInt, Int32.reduceToNatClampNeg, Int.reduceLT, Int.reduceLE, Int.reduceNeg, true_and, and_true, or_self, or_false, false_or, false_and, and_false, true_or, or_true, if_true, if_false, ne_eq, Classical.not_not, not_true_eq_false, not_false_eq_true, true_implies, false_implies, implies_true, Nat.reduceEqDiff, Nat.reduceAdd, Nat.reduceLeDiff, Nat.reduceSub, reduceCtorEq, reduceIte, b192_223, skM s2, h0, Nat.reduceLT]
  refine sp_forms S3 (by omega) r3.2.2.1 r3.2.1 htd hch.2.2.2.2 fun h4 S4 k2 k3 k4 k5 k6 k7 t' c' => ?_
  simp only [lv_args, z_v, z_lg, z_h, z_u, z_u1, z_c, z_ct, z_sk, sbne, lst1_d, ldel, lst2_d, ldel2, z_sw, z_rok, zi, eq_self, List.map_cons, List.map_nil, List.append_nil, List.nil_append, List.cons_append, Int32.reduceLT, Int32.reduceLE, Int32.reduceAdd, Int32.reduceSub, Int32.reduceMul, Int32.reduceToInt, Int32.reduceToNatClampNeg, Int.reduceLT, Int.reduceLE, Int.reduceNeg, true_and, and_true, or_self, or_false, false_or, false_and, and_false, true_or, or_true, if_true, if_false, ne_eq, Classical.not_not, not_true_eq_false, not_false_eq_true, true_implies, false_implies, implies_true, Nat.reduceEqDiff, Nat.reduceAdd, Nat.reduceLeDiff, Nat.reduceSub, reduceCtorEq, reduceIte, b192_223, skM s2, Nat.reduceLT]
  exact hq _ (rm_forms r3 S4 k2 k3 k4 k5 k6 k7 t' c')
theorem rs_22 (hW : WG G) {y y' : RSt} (hr : RS1 G qv 22 y y') (r : RM G q qv y h) (hb : Bnd y) (hd : 60 < d) (hq : ∀ h', RM G q qv y' h' → aWP d 257 35 (LR N) [] h' Q) : aWP d 257 35 (LR N) [] h Q := by
  obtain ⟨A, ⟨sl, bs, pr⟩, ⟨bx, ps, pa, ce, gr⟩, ⟨inp, out, th, op, st, lt, bu⟩⟩ := y
  obtain ⟨i, c, l, td, wk, wk', xs, f, M, ks, cc, li, b, dd, ha, hi, hc, h8, rfl, hx, hf, hM1, hM2, hwn, hch, hbu, hbs, hws, hz⟩ := hr
  obtain ⟨md, nw, td0, wk0⟩ := A
  have hsl : sl.length ≤ 251000 := hb.2.2
  have hb1 : td0.length ≤ 44000 := hb.1
  have hb2 : wk0.length ≤ 304000 := hb.2.1
  have htd : td.length ≤ 44000 := by
    obtain ⟨_, k, n, m, e, _⟩ := ha
    have e : td0 = (k, n, m) :: td := e
    rw [e] at hb1
    simp only [List.length_cons] at hb1
    omega
  have hwk : wk'.length ≤ 400000 := by
    have hle : (wk' ++ vof 7 (nI f) :: xs).length ≤ wk0.length + 1 := by
      obtain ⟨_, k, n, m, _, e⟩ := ha
      rcases e with ⟨_, p, _, _, _, _, e⟩ | ⟨_, _, e⟩
      · have e : wk' ++ vof 7 (nI f) :: xs = wk0 ++ [nw] := e
        rw [e, List.length_append, List.length_singleton]
        exact Nat.le_refl _
      · have e : wk' ++ vof 7 (nI f) :: xs = wk0 := e
        rw [e]; omega
    rw [List.length_append] at hle
    omega
  refine ap_go ha r hb (by omega) (fun h1 r1 => ?_)
  have s1 := r1.1.1
  have h0 : 0 < d - 1 - 1 := by omega
  refine ap_in hi hc h8 hx hwk r1 (by omega) (fun _ => ?_) (fun c7 => absurd (vof_kd _ _) c7) (fun c7 => absurd (vof_kd _ _) c7)
  have hfl := g_lt hf
  have ne0 : ¬ nI bu = 0 := fun e => by
    have hbu2 : bu ≤ 20000 := r1.2.2.2.2.2.2.2.1.2.2.2.2.2.2
    have := nI_inj (a := bu) (b := 0) (by omega) (by omega) e
    omega
  have z10 : ¬ (1 : Int32) = 0 := by decide
  have eb : nI bu - 1 = nI (bu - 1) := by
    obtain ⟨k, rfl⟩ : ∃ k, bu = k + 1 := ⟨bu - 1, by omega⟩
    exact nI_m1
  have es : Int64.ofNat st + 1 = Int64.ofNat (st + 1) := (Int64.ofNat_add st 1).symm
  have hfin : ∀ h', RM G q qv y' h' → aCt (d - 1 - 1) 180 74 [(3, .long (vof 7 (nI f))), (2, .int (nI xs.length)), (0, .ref 59), (1, .int (nI i))] [] h1 (fun r h2 => r = none ∧ PR d N Q none h2) none h' := fun h' r' => by
    simp only [lv_args, z_v, z_lg, z_h, z_u, z_u1, z_c, z_ct, z_sk, sbne, lst1_d, ldel, lst2_d, ldel2, z_sw, z_rok, zi, eq_self, List.map_cons, List.map_nil, List.append_nil, List.nil_append, List.cons_append, Int32.reduceLT, Int32.reduceLE, Int32.reduceAdd, Int32.reduceSub, Int32.reduceMul, Int32.reduceToInt, Int32.reduceToNatClampNeg, Int.reduceLT, Int.reduceLE, Int.reduceNeg, true_and, and_true, or_self, or_false, false_or, false_and, and_false, true_or, or_true, if_true, if_false, ne_eq, Classical.not_not, not_true_eq_false, not_false_eq_true, true_implies, false_implies, implies_true, Nat.reduceEqDiff, Nat.reduceAdd, Nat.reduceLeDiff, Nat.reduceSub, reduceCtorEq, reduceIte, b180_64, b180_122, skM s1, Nat.reduceLT]
    exact pr_ok r' hq
  have hcons : ∃ k t, td = k :: t := by
    rcases hz with ⟨n, m, t, rfl, _⟩ | ⟨⟨k, t, rfl, _⟩, _⟩
    · exact ⟨_, t, rfl⟩
    · exact ⟨k, t, rfl⟩
  obtain ⟨k, t, rfl⟩ := hcons
  simp only [lv_args, z_v, z_lg, z_h, z_u, z_u1, z_c, z_ct, z_sk, sbne, lst1_d, ldel, lst2_d, ldel2, z_sw, z_rok, zi, eq_self, List.map_cons, List.map_nil, List.append_nil, List.nil_append, List.cons_append, Int32.reduceLT, Int32.reduceLE, Int32.reduceAdd, Int32.reduceSub, Int32.reduceMul, Int32.reduceToInt, Int32.reduceToNatClampNeg, Int.reduceLT, Int.reduceLE, Int.reduceNeg, true_and, and_true, or_self, or_false, false_or, false_and, and_false, true_or, or_true, if_true, if_false, ne_eq, Classical.not_not, not_true_eq_false, not_false_eq_true, true_implies, false_implies, implies_true, Nat.reduceEqDiff, Nat.reduceAdd, Nat.reduceLeDiff, Nat.reduceSub, reduceCtorEq, reduceIte, b180_64, skM s1, h0, e272, vof_lo]
  rw [hx]
  refine cl_in hW r1 hf hM1 hM2 h8 (fun e => absurd hwn e) (fun _ k8 o1 => ?_) (fun _ _ h2 x5 hx5 _ _ r2 => ?_)
  · rcases hz with ⟨n, m, t', e, _⟩ | ⟨_, hop, _⟩
    · injection e with e _
      exact absurd (by rw [e]) k8
    · omega
  have s2 := r2.1.1
  have e61 : hI h2 59 61 = nI bu := r2.2.2.2.2.2.2.2.1.2.2.2.2.2.1
  have e62 : hL h2 59 62 = Int64.ofNat st := r2.2.2.2.2.2.2.2.1.2.2.2.1
  have e59 : hI h2 59 59 = nI op := r2.2.2.2.2.2.2.2.1.2.1
  have e45 : hI h2 59 45 = nI bs := r2.2.2.2.2.1.1.2.2.1
  have e46 : hI h2 59 46 = oI pr := r2.2.2.2.2.1.1.2.2.2.2.1
  have e44 : hI h2 59 44 = nI sl.length := r2.2.2.2.2.1.1.1
  have r3 : RM G q qv ((none, nw, k :: t, wk' ++ vof 7 (nI f) :: xs), (sl, bs, pr), (bx, ps, pa, ce, gr), (inp, out, th, op, st + 1, lt, bu - 1)) (pL (pI h2 59 61 (nI (bu - 1))) 59 62 (Int64.ofNat (st + 1))) := by
    obtain ⟨a1, a2, a3, a4, a5, a6, a7, ⟨d1, d2, d3, d4, d5, d6, d7⟩, a9, a10, a11⟩ := r2
    have d7 : bu ≤ 20000 := d7
    exact ⟨sm_L (sm_I a1), a2, a3, a4, a5, a6, a7, ⟨d1, d2, d3, rfl, d5, rfl, show bu - 1 ≤ 20000 by omega⟩, a9, a10, a11⟩
  have ewk : wk' ++ vof 7 (nI f) :: xs = (wk' ++ [vof 7 (nI f)]) ++ xs := by simp
  simp only [lv_args, z_v, z_lg, z_h, z_u, z_u1, z_c, z_ct, z_sk, sbne, lst1_d, ldel, lst2_d, ldel2, z_sw, z_rok, zi, eq_self, List.map_cons, List.map_nil, List.append_nil, List.nil_append, List.cons_append, Int32.reduceLT, Int32.reduceLE, Int32.reduceAdd, Int32.reduceSub, Int32.reduceMul, Int32.reduceToInt, Int32.reduceToNatClampNeg, Int.reduceLT, Int.reduceLE, Int.reduceNeg, true_and, and_true, or_self, or_false, false_or, false_and, and_false, true_or, or_true, if_true, if_false, ne_eq, Classical.not_not, not_true_eq_false, not_false_eq_true, true_implies, false_implies, implies_true, Nat.reduceEqDiff, Nat.reduceAdd, Nat.reduceLeDiff, Nat.reduceSub, reduceCtorEq, reduceIte, b192_82, skM s2, e61, ne0]
  simp only [lv_args, z_v, z_lg, z_h, z_u, z_u1, z_c, z_ct, z_sk, sbne, lst1_d, ldel, lst2_d, ldel2, z_sw, z_rok, zi, eq_self, List.map_cons, List.map_nil, List.append_nil, List.nil_append, List.cons_append, Int32.reduceLT, Int32.reduceLE, Int32.reduceAdd, Int32.reduceSub, Int32.reduceMul, Int32.reduceToInt, Int32.reduceToNatClampNeg, Int.reduceLT, Int.reduceLE, Int.reduceNeg, true_and, and_true, or_self, or_false, false_or, false_and, and_false, true_or, or_true, if_true, if_false, ne_eq, Classical.not_not, not_true_eq_false, not_false_eq_true, true_implies, false_implies, implies_true, Nat.reduceEqDiff, Nat.reduceAdd, Nat.reduceLeDiff, Nat.reduceSub, reduceCtorEq, reduceIte, b192_96, skM s2, e61, e62, eb, es]
  rcases hz with ⟨n, m, t', e, hz⟩ | ⟨⟨k', t', e, k8⟩, hop, hz⟩
  · injection e with e1 e2
    subst e1 e2
    rcases hx5 with ⟨_, rfl⟩ | ⟨k8, _⟩
    · subst hz
      simp only [z10]
      simp only [lv_args, z_v, z_lg, z_h, z_u, z_u1, z_c, z_ct, z_sk, sbne, lst1_d, ldel, lst2_d, ldel2, z_sw, z_rok, zi, eq_self, List.map_cons, List.map_nil, List.append_nil, List.nil_append, List.cons_append, Int32.reduceLT, Int32.reduceLE, Int32.reduceAdd, Int32.reduceSub, Int32.reduceMul, Int32.reduceToInt, Int32.reduceToNatClampNeg, Int.reduceLT, Int.reduceLE, Int.reduceNeg, true_and, and_true, or_self, or_false, false_or, false_and, and_false, true_or, or_true, if_true, if_false, ne_eq, Classical.not_not, not_true_eq_false, not_false_eq_true, true_implies, false_implies, implies_true, Nat.reduceEqDiff, Nat.reduceAdd, Nat.reduceLeDiff, Nat.reduceSub, reduceCtorEq, reduceIte, b192_121, skM s2, e45]
      have hlt : (sl.take bs).length = bs := by simp; omega
      have r4 : RM G q qv ((none, nw, (8, n, m) :: t, (wk' ++ [vof 7 (nI f)]) ++ xs), (sl.take bs, (sl.take bs).length, pr), (bx, ps, pa, ce, gr), (inp, out, th, op, st + 1, lt, bu - 1)) (pI (pL (pI h2 59 61 (nI (bu - 1))) 59 62 (Int64.ofNat (st + 1))) 59 44 (nI bs)) := by
        rw [← ewk, hlt]
        obtain ⟨a1, a2, a3, a4, a5, a6, a7, a8, a9, a10, a11⟩ := r3
        obtain ⟨⟨⟨m1, m2, m3, m4, m5, m6, m7⟩, M2, M3⟩, rl, fl, B⟩ := mxb_0.mp a5
        have m2 : sl.length ≤ hN h2 121 := m2
        refine ⟨sm_I a1, a2, a3, a4, mxb_0.mpr ⟨⟨⟨by rw [hlt]; rfl, ?_, m3, m4, m5, m6, m7⟩, M2, M3⟩, rl, fl, ?_⟩, a6, a7, a8, a9, a10, a11⟩
        · rw [hlt]
          show bs ≤ hN h2 121
          omega
        · obtain ⟨B1, B2, B3, B4, B5, B6, B7⟩ := B
          have live : ∀ b, (b + 2 ∈ sl.take bs ∨ b ∈ kfl ps) → (b + 2 ∈ sl ∨ b ∈ kfl ps) := fun b hb => hb.imp (fun z => List.mem_of_mem_take z) id
          refine ⟨fun j c e => B1 j c ?_, B2, fun b hb => B3 b (live b hb), fun b b' hb hb' e => B4 b b' (live b hb) (live b' hb') e, B5, B6, fun f hf => ⟨(B7 f hf).1, fun b hb => (B7 f hf).2 b (live b hb)⟩⟩
          have hj := g_lt e
          rw [hlt] at hj
          have e : (sl.take bs)[j]? = some c := e
          rwa [List.getElem?_take_of_lt hj] at e
      rw [← hx]
      refine cl_end hW r4 (by rw [hlt]; omega) (by omega) (by omega) hfl hM1 hM2 hch (by omega) (fun h' r' => ?_)
      rw [hlt, hx] at r'
      exact hfin h' r'
    · exact absurd rfl k8
  · injection e with e1 e2
    subst e1 e2
    rcases hx5 with ⟨c8, _⟩ | ⟨_, rfl⟩
    · exact absurd c8 k8
    · subst hz
      have S3 := r3.1
      have h01 : 0 < d - 1 - 1 - 1 := by omega
      have z8 : (8 : Int32) = nI 8 := rfl
      simp only [lv_args, z_v, z_lg, z_h, z_u, z_u1, z_c, z_ct, z_sk, sbne, lst1_d, ldel, lst2_d, ldel2, z_sw, z_rok, zi, eq_self, List.map_cons, List.map_nil, List.append_nil, List.nil_append, List.cons_append, Int32.reduceLT, Int32.reduceLE, Int32.reduceAdd, Int32.reduceSub, Int32.reduceMul, Int32.reduceToInt, Int32.reduceToNatClampNeg, Int.reduceLT, Int.reduceLE, Int.reduceNeg, true_and, and_true, or_self, or_false, false_or, false_and, and_false, true_or, or_true, if_true, if_false, ne_eq, Classical.not_not, not_true_eq_false, not_false_eq_true, true_implies, false_implies, implies_true, Nat.reduceEqDiff, Nat.reduceAdd, Nat.reduceLeDiff, Nat.reduceSub, reduceCtorEq, reduceIte, b192_132, skM s2, e45, e46, h01, z8]
      refine sp_todo (k := 8) S3 (by omega) r3.2.2.1 (show (k :: t).length ≤ 44990 by omega) (by decide) fun h4 S4 kk t4 => ?_
      have r4 := rm_todo r3 S4 kk t4
      have s4 := S4.1
      have f44 : hI h4 59 44 = nI sl.length := r4.2.2.2.2.1.1.1
      have f59 : hI h4 59 59 = nI op := r4.2.2.2.2.2.2.2.1.2.1
      simp only [lv_args, z_v, z_lg, z_h, z_u, z_u1, z_c, z_ct, z_sk, sbne, lst1_d, ldel, lst2_d, ldel2, z_sw, z_rok, zi, eq_self, List.map_cons, List.map_nil, List.append_nil, List.nil_append, List.cons_append, Int32.reduceLT, Int32.reduceLE, Int32.reduceAdd, Int32.reduceSub, Int32.reduceMul, Int32.reduceToInt, Int32.reduceToNatClampNeg, Int.reduceLT, Int.reduceLE, Int.reduceNeg, true_and, and_true, or_self, or_false, false_or, false_and, and_false, true_or, or_true, if_true, if_false, ne_eq, Classical.not_not, not_true_eq_false, not_false_eq_true, true_implies, false_implies, implies_true, Nat.reduceEqDiff, Nat.reduceAdd, Nat.reduceLeDiff, Nat.reduceSub, reduceCtorEq, reduceIte, b192_132, skM s2, skM s4, f44, f59, nI_1, Nat.reduceLT]
      have r5 : RM G q qv ((none, nw, (8, nI bs, oI pr) :: k :: t, (wk' ++ [vof 7 (nI f)]) ++ xs), (sl, sl.length, pr), (bx, ps, pa, ce, gr), (inp, out, th, op + 1, st + 1, lt, bu - 1)) (pI (pI h4 59 45 (nI sl.length)) 59 59 (nI (op + 1))) := by
        rw [← ewk]
        obtain ⟨a1, a2, a3, a4, ⟨⟨m1, m2, m3, m4, m5, m6, m7⟩, M2⟩, a6, a7, ⟨d1, d2, d3, d4, d5, d6, d7⟩, a9, a10, a11⟩ := r4
        exact ⟨sm_I (sm_I a1), a2, a3, a4, ⟨⟨m1, m2, rfl, show sl.length ≤ 252000 by omega, m5, m6, m7⟩, M2⟩, a6, a7, ⟨d1, rfl, show op + 1 ≤ 1000 by omega, d4, d5, d6, d7⟩, a9, a10, a11⟩
      rw [← hx]
      refine cl_end hW r5 hsl (by simp only [List.length_cons] at htd ⊢; omega) (by omega) hfl hM1 hM2 hch (by omega) (fun h' r' => ?_)
      rw [hx] at r'
      exact hfin h' r'
end REW
