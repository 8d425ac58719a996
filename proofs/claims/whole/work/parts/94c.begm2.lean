/-! BEGIN: the reference's machine as a run begins -/
def y0 (G : PG) (pa : List (Int64 × Int64)) (bu : Nat) : RSt := ((none, 0, [(9, pF1 G, 0)], []), (List.replicate (pSn G 0) 0, 0, none), ([], [], pa, 0, List.replicate (pDf G) (vof 9 0)), ([], [], 0, 0, 0, 0, bu))
section BGN
variable {h h' : Hp} {Q : Option Value → Hp → Prop} {d : Nat} {G : PG} {q : Nat} {qv : Nat → Int64}
theorem sp_listOf {n : Nat} {l : List Nat} {pa : List (Int64 × Int64)} (b : BQ G q h) (hn : n < pNn G) (hc : Chn G (G.1 24 n) l) (hd : 2 < d) (hpa : (qLs qv l pa).2.length ≤ 46000) (h114 : ∀ n, n < pNn G → hB h 114 n = qv n) (pq : PaQ pa h) (hq : ∀ h', FrQ h h' → hB h' 114 = hB h 114 → PaQ (qLs qv l pa).2 h' → Q (some (.long (qLs qv l pa).1)) h') : aEv d 235 [.ref 59, .int (nI n)] h Q := by
  obtain ⟨s, P, r17, n112, n113, n114, n115⟩ := id b
  have pn := P.2.2.1
  obtain ⟨⟨k0, k1, k2, k4, k5, _⟩, w7, w8, w10, w11, _⟩ := prf s P.1
  obtain ⟨p1, p2, p3⟩ := pm_n P (j := 4) (by decide) (by decide) hn
  have p2 : hA h (q + 4) n = G.1 24 n := p2
  have hlen := chn_len pn hc
  have e4 : (17179869184 : Int64) = vof 4 0 := by decide
  have lp := li_1 (d := d) (n := n) (Q := Q) b (l0 := l) (by omega) (fun f hf => by
    have F : FrQ h (pA h 115 f) := ⟨rfl, rfl, rfl, rfl, rfl, rfl, fun _ _ _ => rfl, fun a c => up1_ne c, fun _ _ _ _ => rfl, rfl⟩
    have l2 := li_2 (d := d) (n := n) (Q := Q) (qv := qv) (pa0 := pa) (l0 := l) (x2 := nI l.length) (frq_bq F b) (fun c hc' => by
      obtain ⟨i, e⟩ := List.mem_iff_getElem?.mp hc'
      exact chn_get hc e) (by omega) hd hpa (fun h' F' e14 pq' => hq h' (frq_tr F F') e14 pq') h114 l [] (pA h 115 f) (by simp) frq_rf rfl (fun i c hi => (congrFun (up1_eq : va_up (hA h) 115 f 115 = f) i).trans (hf i c hi)) pq
    have z0' : (qLs qv [] pa).1 = 17179869184 := e4.symm
    rw [z0'] at l2
    simp only [lv_args, z_v, z_lg, z_h, z_u, z_u1, z_c, z_ct, z_sk, sbne, lst1_d, ldel, lst2_d, ldel2, z_sw, z_rok, zi, eq_self, List.map_cons, List.map_nil, List.append_nil, List.nil_append, List.cons_append, Int32.reduceLT, Int32.reduceLE, Int32.reduceAdd, Int32.reduceSub, Int32.reduceMul, Int32.reduceToInt, Int32.reduceToNatClampNeg, Int.reduceLT, Int.reduceLE, Int.reduceNeg, true_and, and_true, or_self, or_false, false_or, false_and, and_false, true_or, or_true, if_true, if_false, ne_eq, Classical.not_not, not_true_eq_false, not_false_eq_true, true_implies, false_implies, implies_true, Nat.reduceEqDiff, Nat.reduceAdd, Nat.reduceLeDiff, Nat.reduceSub, reduceCtorEq, reduceIte, b235_40]
    exact l2) l [] (G.1 24 n) (hA h 115) rfl hc (fun i c e => by simp at e)
  rw [pA_id] at lp
  unfold aEv
  simp only [lv_args, z_v, z_lg, z_h, z_u, z_u1, z_c, z_ct, z_sk, sbne, lst1_d, ldel, lst2_d, ldel2, z_sw, z_rok, zi, eq_self, List.map_cons, List.map_nil, List.append_nil, List.nil_append, List.cons_append, Int32.reduceLT, Int32.reduceLE, Int32.reduceAdd, Int32.reduceSub, Int32.reduceMul, Int32.reduceToInt, Int32.reduceToNatClampNeg, Int.reduceLT, Int.reduceLE, Int.reduceNeg, true_and, and_true, or_self, or_false, false_or, false_and, and_false, true_or, or_true, if_true, if_false, ne_eq, Classical.not_not, not_true_eq_false, not_false_eq_true, true_implies, false_implies, implies_true, Nat.reduceEqDiff, Nat.reduceAdd, Nat.reduceLeDiff, Nat.reduceSub, reduceCtorEq, reduceIte, b235_0, skM s, r17, k0, w10, k4]
  simp (disch := omega) only [nI_ti, nI_cl, le0N, ltNN, p1, p2, true_and]
  refine ⟨p3, ?_⟩
  try simp only [lv_args, z_v, z_lg, z_h, z_u, z_u1, z_c, z_ct, z_sk, sbne, lst1_d, ldel, lst2_d, ldel2, z_sw, z_rok, zi, eq_self, List.map_cons, List.map_nil, List.append_nil, List.nil_append, List.cons_append, Int32.reduceLT, Int32.reduceLE, Int32.reduceAdd, Int32.reduceSub, Int32.reduceMul, Int32.reduceToInt, Int32.reduceToNatClampNeg, Int.reduceLT, Int.reduceLE, Int.reduceNeg, true_and, and_true, or_self, or_false, false_or, false_and, and_false, true_or, or_true, if_true, if_false, ne_eq, Classical.not_not, not_true_eq_false, not_false_eq_true, true_implies, false_implies, implies_true, Nat.reduceEqDiff, Nat.reduceAdd, Nat.reduceLeDiff, Nat.reduceSub, reduceCtorEq, reduceIte, b235_0]
  exact lp
theorem sp_dataOf {n : Nat} {v : Int64} {pa pa' : List (Int64 × Int64)} (b : BQ G q h) (hn : n < pNn G) (hD : Dt1 G n qv pa v pa') (hd : 4 < d) (hpa : pa'.length ≤ 46000) (h114 : ∀ n, n < pNn G → hB h 114 n = qv n) (pq : PaQ pa h) (hq : ∀ h', FrQ h h' → hB h' 114 = hB h 114 → PaQ pa' h' → Q (some (.long v)) h') : aEv d 198 [.ref 59, .int (nI n)] h Q := by
  obtain ⟨s, P, r17, n112, n113, n114, n115⟩ := id b
  have pn := P.2.2.1
  have h0 : 0 < d := by omega
  obtain ⟨⟨k0, k1, k2, k4, k5, _⟩, w7, w8, w10, w11, _⟩ := prf s P.1
  obtain ⟨p1, p2, p3⟩ := pm_n P (j := 1) (by decide) (by decide) hn
  obtain ⟨v1, v2, v3⟩ := pm_n P (j := 2) (by decide) (by decide) hn
  have p2 : hA h (q + 1) n = G.1 21 n := p2
  have v2 : hA h (q + 2) n = G.1 22 n := v2
  have e3 : (12884901888 : Int64) = vof 3 0 := by decide
  have e2 : (8589934592 : Int64) = vof 2 0 := by decide
  unfold aEv
  simp only [lv_args, z_v, z_lg, z_h, z_u, z_u1, z_c, z_ct, z_sk, sbne, lst1_d, ldel, lst2_d, ldel2, z_rok, zi, eq_self, List.map_cons, List.map_nil, List.append_nil, List.nil_append, List.cons_append, Int32.reduceLT, Int32.reduceLE, Int32.reduceAdd, Int32.reduceSub, Int32.reduceMul, Int32.reduceToInt, Int32.reduceToNatClampNeg, Int.reduceLT, Int.reduceLE, Int.reduceNeg, true_and, and_true, or_self, or_false, false_or, false_and, and_false, true_or, or_true, if_true, if_false, ne_eq, Classical.not_not, not_true_eq_false, not_false_eq_true, true_implies, false_implies, implies_true, Nat.reduceEqDiff, Nat.reduceAdd, Nat.reduceLeDiff, Nat.reduceSub, reduceCtorEq, reduceIte, b198_0, skM s, r17, k0, w7, k1]
  simp (disch := omega) only [nI_ti, nI_cl, le0N, ltNN, p1, p2, true_and]
  refine ⟨p3, ?_⟩
  try simp only [lv_args, z_v, z_lg, z_h, z_u, z_u1, z_c, z_ct, z_sk, sbne, lst1_d, ldel, lst2_d, ldel2, z_rok, zi, eq_self, List.map_cons, List.map_nil, List.append_nil, List.nil_append, List.cons_append, Int32.reduceLT, Int32.reduceLE, Int32.reduceAdd, Int32.reduceSub, Int32.reduceMul, Int32.reduceToInt, Int32.reduceToNatClampNeg, Int.reduceLT, Int.reduceLE, Int.reduceNeg, true_and, and_true, or_self, or_false, false_or, false_and, and_false, true_or, or_true, if_true, if_false, ne_eq, Classical.not_not, not_true_eq_false, not_false_eq_true, true_implies, false_implies, implies_true, Nat.reduceEqDiff, Nat.reduceAdd, Nat.reduceLeDiff, Nat.reduceSub, reduceCtorEq, reduceIte, b198_0]
  refine sw_at ?_
  rcases hD with ⟨c, rfl, rfl⟩ | ⟨c, rfl, rfl⟩ | ⟨c, rfl, rfl⟩ | ⟨c, rfl, rfl⟩ | ⟨c, l, hc, e⟩
  · have e : swL [(0, 40), (1, 54), (2, 58), (3, 62)] (G.1 21 n) 76 = 40 := by rw [c]; rfl
    rw [e]
    simp only [lv_args, z_v, z_lg, z_h, z_u, z_u1, z_c, z_ct, z_sk, sbne, lst1_d, ldel, lst2_d, ldel2, z_sw, z_rok, zi, eq_self, List.map_cons, List.map_nil, List.append_nil, List.nil_append, List.cons_append, Int32.reduceLT, Int32.reduceLE, Int32.reduceAdd, Int32.reduceSub, Int32.reduceMul, Int32.reduceToInt, Int32.reduceToNatClampNeg, Int.reduceLT, Int.reduceLE, Int.reduceNeg, true_and, and_true, or_self, or_false, false_or, false_and, and_false, true_or, or_true, if_true, if_false, ne_eq, Classical.not_not, not_true_eq_false, not_false_eq_true, true_implies, false_implies, implies_true, Nat.reduceEqDiff, Nat.reduceAdd, Nat.reduceLeDiff, Nat.reduceSub, reduceCtorEq, reduceIte, b198_40, skM s, r17, k0, w8, k2, h0]
    simp (disch := omega) only [nI_ti, nI_cl, le0N, ltNN, v1, v2, true_and]
    refine ⟨v3, ?_⟩
    try simp only [lv_args, z_v, z_lg, z_h, z_u, z_u1, z_c, z_ct, z_sk, sbne, lst1_d, ldel, lst2_d, ldel2, z_sw, z_rok, zi, eq_self, List.map_cons, List.map_nil, List.append_nil, List.nil_append, List.cons_append, Int32.reduceLT, Int32.reduceLE, Int32.reduceAdd, Int32.reduceSub, Int32.reduceMul, Int32.reduceToInt, Int32.reduceToNatClampNeg, Int.reduceLT, Int.reduceLE, Int.reduceNeg, true_and, and_true, or_self, or_false, false_or, false_and, and_false, true_or, or_true, if_true, if_false, ne_eq, Classical.not_not, not_true_eq_false, not_false_eq_true, true_implies, false_implies, implies_true, Nat.reduceEqDiff, Nat.reduceAdd, Nat.reduceLeDiff, Nat.reduceSub, reduceCtorEq, reduceIte, b198_40, h0, e269v]
    exact hq h frq_rf rfl pq
  · have e : swL [(0, 40), (1, 54), (2, 58), (3, 62)] (G.1 21 n) 76 = 54 := by rw [c]; rfl
    rw [e]
    simp only [lv_args, z_v, z_lg, z_h, z_u, z_u1, z_c, z_ct, z_sk, sbne, lst1_d, ldel, lst2_d, ldel2, z_sw, z_rok, zi, eq_self, List.map_cons, List.map_nil, List.append_nil, List.nil_append, List.cons_append, Int32.reduceLT, Int32.reduceLE, Int32.reduceAdd, Int32.reduceSub, Int32.reduceMul, Int32.reduceToInt, Int32.reduceToNatClampNeg, Int.reduceLT, Int.reduceLE, Int.reduceNeg, true_and, and_true, or_self, or_false, false_or, false_and, and_false, true_or, or_true, if_true, if_false, ne_eq, Classical.not_not, not_true_eq_false, not_false_eq_true, true_implies, false_implies, implies_true, Nat.reduceEqDiff, Nat.reduceAdd, Nat.reduceLeDiff, Nat.reduceSub, reduceCtorEq, reduceIte, b198_54]
    rw [e3]
    exact hq h frq_rf rfl pq
  · have e : swL [(0, 40), (1, 54), (2, 58), (3, 62)] (G.1 21 n) 76 = 58 := by rw [c]; rfl
    rw [e]
    simp only [lv_args, z_v, z_lg, z_h, z_u, z_u1, z_c, z_ct, z_sk, sbne, lst1_d, ldel, lst2_d, ldel2, z_sw, z_rok, zi, eq_self, List.map_cons, List.map_nil, List.append_nil, List.nil_append, List.cons_append, Int32.reduceLT, Int32.reduceLE, Int32.reduceAdd, Int32.reduceSub, Int32.reduceMul, Int32.reduceToInt, Int32.reduceToNatClampNeg, Int.reduceLT, Int.reduceLE, Int.reduceNeg, true_and, and_true, or_self, or_false, false_or, false_and, and_false, true_or, or_true, if_true, if_false, ne_eq, Classical.not_not, not_true_eq_false, not_false_eq_true, true_implies, false_implies, implies_true, Nat.reduceEqDiff, Nat.reduceAdd, Nat.reduceLeDiff, Nat.reduceSub, reduceCtorEq, reduceIte, b198_58]
    rw [e2]
    exact hq h frq_rf rfl pq
  · have e : swL [(0, 40), (1, 54), (2, 58), (3, 62)] (G.1 21 n) 76 = 62 := by rw [c]; rfl
    rw [e]
    simp only [lv_args, z_v, z_lg, z_h, z_u, z_u1, z_c, z_ct, z_sk, sbne, lst1_d, ldel, lst2_d, ldel2, z_sw, z_rok, zi, eq_self, List.map_cons, List.map_nil, List.append_nil, List.nil_append, List.cons_append, Int32.reduceLT, Int32.reduceLE, Int32.reduceAdd, Int32.reduceSub, Int32.reduceMul, Int32.reduceToInt, Int32.reduceToNatClampNeg, Int.reduceLT, Int.reduceLE, Int.reduceNeg, true_and, and_true, or_self, or_false, false_or, false_and, and_false, true_or, or_true, if_true, if_false, ne_eq, Classical.not_not, not_true_eq_false, not_false_eq_true, true_implies, false_implies, implies_true, Nat.reduceEqDiff, Nat.reduceAdd, Nat.reduceLeDiff, Nat.reduceSub, reduceCtorEq, reduceIte, b198_62, skM s, r17, k0, w8, k2, h0]
    simp (disch := omega) only [nI_ti, nI_cl, le0N, ltNN, v1, v2, true_and]
    refine ⟨v3, ?_⟩
    try simp only [lv_args, z_v, z_lg, z_h, z_u, z_u1, z_c, z_ct, z_sk, sbne, lst1_d, ldel, lst2_d, ldel2, z_sw, z_rok, zi, eq_self, List.map_cons, List.map_nil, List.append_nil, List.nil_append, List.cons_append, Int32.reduceLT, Int32.reduceLE, Int32.reduceAdd, Int32.reduceSub, Int32.reduceMul, Int32.reduceToInt, Int32.reduceToNatClampNeg, Int.reduceLT, Int.reduceLE, Int.reduceNeg, true_and, and_true, or_self, or_false, false_or, false_and, and_false, true_or, or_true, if_true, if_false, ne_eq, Classical.not_not, not_true_eq_false, not_false_eq_true, true_implies, false_implies, implies_true, Nat.reduceEqDiff, Nat.reduceAdd, Nat.reduceLeDiff, Nat.reduceSub, reduceCtorEq, reduceIte, b198_62, h0, e269v]
    exact hq h frq_rf rfl pq
  · have e' : swL [(0, 40), (1, 54), (2, 58), (3, 62)] (G.1 21 n) 76 = 76 := by rw [c]; rfl
    rw [e']
    have ev : v = (qLs qv l pa).1 := congrArg Prod.fst e
    have ep : pa' = (qLs qv l pa).2 := congrArg Prod.snd e
    rw [ep] at hpa hq
    rw [ev] at hq
    simp only [lv_args, z_v, z_lg, z_h, z_u, z_u1, z_c, z_ct, z_sk, sbne, lst1_d, ldel, lst2_d, ldel2, z_sw, z_rok, zi, eq_self, List.map_cons, List.map_nil, List.append_nil, List.nil_append, List.cons_append, Int32.reduceLT, Int32.reduceLE, Int32.reduceAdd, Int32.reduceSub, Int32.reduceMul, Int32.reduceToInt, Int32.reduceToNatClampNeg, Int.reduceLT, Int.reduceLE, Int.reduceNeg, true_and, and_true, or_self, or_false, false_or, false_and, and_false, true_or, or_true, if_true, if_false, ne_eq, Classical.not_not, not_true_eq_false, not_false_eq_true, true_implies, false_implies, implies_true, Nat.reduceEqDiff, Nat.reduceAdd, Nat.reduceLeDiff, Nat.reduceSub, reduceCtorEq, reduceIte, b198_76, skM s, h0]
    refine sp_listOf b hn hc (by omega) hpa h114 pq (fun h' F e14 pq' => ?_)
    simp only [lv_args, z_v, z_lg, z_h, z_u, z_u1, z_c, z_ct, z_sk, sbne, lst1_d, ldel, lst2_d, ldel2, z_sw, z_rok, zi, eq_self, List.map_cons, List.map_nil, List.append_nil, List.nil_append, List.cons_append, Int32.reduceLT, Int32.reduceLE, Int32.reduceAdd, Int32.reduceSub, Int32.reduceMul, Int32.reduceToInt, Int32.reduceToNatClampNeg, Int.reduceLT, Int.reduceLE, Int.reduceNeg, true_and, and_true, or_self, or_false, false_or, false_and, and_false, true_or, or_true, if_true, if_false, ne_eq, Classical.not_not, not_true_eq_false, not_false_eq_true, true_implies, false_implies, implies_true, Nat.reduceEqDiff, Nat.reduceAdd, Nat.reduceLeDiff, Nat.reduceSub, reduceCtorEq, reduceIte, b198_76, skM s, Nat.reduceLT]
    exact hq h' F e14 pq'
theorem dt1_len {n : Nat} {v : Int64} {pa pa' : List (Int64 × Int64)} (hD : Dt1 G n qv pa v pa') : pa.length ≤ pa'.length := by
  rcases hD with ⟨c, rfl, rfl⟩ | ⟨c, rfl, rfl⟩ | ⟨c, rfl, rfl⟩ | ⟨c, rfl, rfl⟩ | ⟨c, l, hc, e⟩
  · exact Nat.le_refl _
  · exact Nat.le_refl _
  · exact Nat.le_refl _
  · exact Nat.le_refl _
  · have ep : pa' = (qLs qv l pa).2 := congrArg Prod.snd e
    rw [ep]
    exact qls_len
/-- node by node, from the last on -/
theorem qs_loop {h0 : Hp} (b : BQ G q h0) (hd : 6 < d) : ∀ (j : Nat) (qv : Nat → Int64) (pa : List (Int64 × Int64)), j ≤ pNn G → Qst G j qv pa → pa.length ≤ 46000 → (∀ h', FrQ h0 h' → (∀ n, n < pNn G → hB h' 114 n = qv n) → PaQ pa h' → aWP d 252 41 [(1, .int (nI (pNn G - j) - 1)), (0, .ref 59)] [] h' Q) → ∀ h1, FrQ h0 h1 → (∀ n, n < pNn G → hB h1 114 n = 0) → PaQ [] h1 → aWP d 252 41 [(1, .int (nI (pNn G) - 1)), (0, .ref 59)] [] h1 Q := by
  intro j
  induction j with
  | zero =>
    intro qv pa _ hQ _ hq h1 F e14 pq
    obtain ⟨rfl, hv⟩ := hQ
    exact hq h1 F (fun n hn => by rw [hv n]; exact e14 n hn) pq
  | succ j ih =>
    intro qv pa hj hQ hpa hq
    obtain ⟨qv0, pa0, v, hQ0, hD, rfl⟩ := hQ
    have hl := dt1_len hD
    refine ih qv0 pa0 (by omega) hQ0 (by omega) (fun h' F e14 pq => ?_)
    obtain ⟨m, hm⟩ : ∃ m, pNn G - j = m + 1 := ⟨pNn G - j - 1, by omega⟩
    have hm2 : pNn G - (j + 1) = m := by omega
    rw [hm2] at hq hD
    rw [hm]
    have b' := frq_bq F b
    obtain ⟨s, P, r17, n112, n113, n114, n115⟩ := id b'
    have pn := P.2.2.1
    have hd0 : 0 < d := by omega
    simp only [lv_args, z_v, z_lg, z_h, z_u, z_u1, z_c, z_ct, z_sk, sbne, lst1_d, ldel, lst2_d, ldel2, z_sw, z_rok, zi, eq_self, List.map_cons, List.map_nil, List.append_nil, List.nil_append, List.cons_append, Int32.reduceLT, Int32.reduceLE, Int32.reduceAdd, Int32.reduceSub, Int32.reduceMul, Int32.reduceToInt, Int32.reduceToNatClampNeg, Int.reduceLT, Int.reduceLE, Int.reduceNeg, true_and, and_true, or_self, or_false, false_or, false_and, and_false, true_or, or_true, if_true, if_false, ne_eq, Classical.not_not, not_true_eq_false, not_false_eq_true, true_implies, false_implies, implies_true, Nat.reduceEqDiff, Nat.reduceAdd, Nat.reduceLeDiff, Nat.reduceSub, reduceCtorEq, reduceIte, b252_41, nI_m1]
    simp (disch := omega) only [nI_lt0, not_false_eq_true, false_imp_iff, true_imp_iff, true_and]
    simp only [lv_args, z_v, z_lg, z_h, z_u, z_u1, z_c, z_ct, z_sk, sbne, lst1_d, ldel, lst2_d, ldel2, z_sw, z_rok, zi, eq_self, List.map_cons, List.map_nil, List.append_nil, List.nil_append, List.cons_append, Int32.reduceLT, Int32.reduceLE, Int32.reduceAdd, Int32.reduceSub, Int32.reduceMul, Int32.reduceToInt, Int32.reduceToNatClampNeg, Int.reduceLT, Int.reduceLE, Int.reduceNeg, true_and, and_true, or_self, or_false, false_or, false_and, and_false, true_or, or_true, if_true, if_false, ne_eq, Classical.not_not, not_true_eq_false, not_false_eq_true, true_implies, false_implies, implies_true, Nat.reduceEqDiff, Nat.reduceAdd, Nat.reduceLeDiff, Nat.reduceSub, reduceCtorEq, reduceIte, b252_45, skM s, srM s, hd0]
    refine sp_dataOf b' (by omega) hD (by omega) hpa e14 pq (fun h2 F2 e14' pq' => ?_)
    obtain ⟨s2, P2, _, _, _, n1142, _⟩ := frq_bq F2 b'
    have hv2 : hv h2 = hv h' := F2.2.2.2.2.2.2.2.2.2
    have next := hq (pB h2 114 (vp_updL (hB h2 114) m v)) (frq_tr F (frq_tr F2 ⟨rfl, rfl, rfl, rfl, rfl, rfl, fun _ _ _ => rfl, fun _ _ => rfl, fun a c1 c2 c3 => up1_ne c3, rfl⟩)) (fun n hn => by
      show (if n = m then v else hB h2 114 n) = if n = m then v else qv0 n
      by_cases c : n = m
      · rw [if_pos c, if_pos c]
      · rw [if_neg c, if_neg c, e14']; exact e14 n hn) pq'
    simp only [lv_args, z_v, z_lg, z_h, z_u, z_u1, z_c, z_ct, z_sk, sbne, lst1_d, ldel, lst2_d, ldel2, z_sw, z_rok, zi, eq_self, List.map_cons, List.map_nil, List.append_nil, List.nil_append, List.cons_append, Int32.reduceLT, Int32.reduceLE, Int32.reduceAdd, Int32.reduceSub, Int32.reduceMul, Int32.reduceToInt, Int32.reduceToNatClampNeg, Int.reduceLT, Int.reduceLE, Int.reduceNeg, true_and, and_true, or_self, or_false, false_or, false_and, and_false, true_or, or_true, if_true, if_false, ne_eq, Classical.not_not, not_true_eq_false, not_false_eq_true, true_implies, false_implies, implies_true, Nat.reduceEqDiff, Nat.reduceAdd, Nat.reduceLeDiff, Nat.reduceSub, reduceCtorEq, reduceIte, b252_45, skM s, skM s2, srM s2, hv2, Nat.reduceLT, n1142]
    simp (disch := omega) only [nI_ti, nI_cl, le0N, ltNN, true_and]
    refine ⟨by omega, ?_⟩
    try simp only [lv_args, z_v, z_lg, z_h, z_u, z_u1, z_c, z_ct, z_sk, sbne, lst1_d, ldel, lst2_d, ldel2, z_sw, z_rok, zi, eq_self, List.map_cons, List.map_nil, List.append_nil, List.nil_append, List.cons_append, Int32.reduceLT, Int32.reduceLE, Int32.reduceAdd, Int32.reduceSub, Int32.reduceMul, Int32.reduceToInt, Int32.reduceToNatClampNeg, Int.reduceLT, Int.reduceLE, Int.reduceNeg, true_and, and_true, or_self, or_false, false_or, false_and, and_false, true_or, or_true, if_true, if_false, ne_eq, Classical.not_not, not_true_eq_false, not_false_eq_true, true_implies, false_implies, implies_true, Nat.reduceEqDiff, Nat.reduceAdd, Nat.reduceLeDiff, Nat.reduceSub, reduceCtorEq, reduceIte, b252_45, dn_1]
    exact next
theorem q1_loop {N : Nat} (s : Sk h) (r17 : hR h 59 17 = some q) (kq : hK h q = 11) (e0 : hI h q 0 = nI N) (n114 : hN h 114 = 6200) (hN0 : N ≤ 6200) (hq : ∀ f, (∀ n, n < N → f n = 0) → aWP d 252 31 [(1, .int (nI N)), (0, .ref 59)] [] (pB h 114 f) Q) : ∀ (m j : Nat) (f : Nat → Int64), j + m = N → (∀ n, n < j → f n = 0) → aWP d 252 7 [(1, .int (nI j)), (0, .ref 59)] [] (pB h 114 f) Q := by
  intro m
  induction m with
  | zero =>
    intro j f hj hf
    have hj : j = N := by omega
    subst hj
    simp only [lv_args, z_v, z_lg, z_h, z_u, z_u1, z_c, z_ct, z_sk, sbne, lst1_d, ldel, lst2_d, ldel2, z_sw, z_rok, zi, eq_self, List.map_cons, List.map_nil, List.append_nil, List.nil_append, List.cons_append, Int32.reduceLT, Int32.reduceLE, Int32.reduceAdd, Int32.reduceSub, Int32.reduceMul, Int32.reduceToInt, Int32.reduceToNatClampNeg, Int.reduceLT, Int.reduceLE, Int.reduceNeg, true_and, and_true, or_self, or_false, false_or, false_and, and_false, true_or, or_true, if_true, if_false, ne_eq, Classical.not_not, not_true_eq_false, not_false_eq_true, true_implies, false_implies, implies_true, Nat.reduceEqDiff, Nat.reduceAdd, Nat.reduceLeDiff, Nat.reduceSub, reduceCtorEq, reduceIte, b252_7, skM s, r17, kq, e0]
    simp (disch := omega) only [nI_leN]
    exact ⟨fun _ => hq f hf, fun c => absurd (Nat.le_refl _) c⟩
  | succ m ih =>
    intro j f hj hf
    have next := ih (j + 1) (vp_updL f j 0) (by omega) (fun n hn => by
      by_cases c : n = j
      · exact if_pos c
      · exact (if_neg c).trans (hf n (by omega)))
    rw [← pB_pB h 114 f (vp_updL f j 0)] at next
    simp only [lv_args, z_v, z_lg, z_h, z_u, z_u1, z_c, z_ct, z_sk, sbne, lst1_d, ldel, lst2_d, ldel2, z_sw, z_rok, zi, eq_self, List.map_cons, List.map_nil, List.append_nil, List.nil_append, List.cons_append, Int32.reduceLT, Int32.reduceLE, Int32.reduceAdd, Int32.reduceSub, Int32.reduceMul, Int32.reduceToInt, Int32.reduceToNatClampNeg, Int.reduceLT, Int.reduceLE, Int.reduceNeg, true_and, and_true, or_self, or_false, false_or, false_and, and_false, true_or, or_true, if_true, if_false, ne_eq, Classical.not_not, not_true_eq_false, not_false_eq_true, true_implies, false_implies, implies_true, Nat.reduceEqDiff, Nat.reduceAdd, Nat.reduceLeDiff, Nat.reduceSub, reduceCtorEq, reduceIte, b252_7, skM s, r17, kq, e0]
    simp (disch := omega) only [nI_leN]
    refine ⟨fun c => absurd c (by omega), fun _ => ?_⟩
    simp only [lv_args, z_v, z_lg, z_h, z_u, z_u1, z_c, z_ct, z_sk, sbne, lst1_d, ldel, lst2_d, ldel2, z_sw, z_rok, zi, eq_self, List.map_cons, List.map_nil, List.append_nil, List.nil_append, List.cons_append, Int32.reduceLT, Int32.reduceLE, Int32.reduceAdd, Int32.reduceSub, Int32.reduceMul, Int32.reduceToInt, Int32.reduceToNatClampNeg, Int.reduceLT, Int.reduceLE, Int.reduceNeg, true_and, and_true, or_self, or_false, false_or, false_and, and_false, true_or, or_true, if_true, if_false, ne_eq, Classical.not_not, not_true_eq_false, not_false_eq_true, true_implies, false_implies, implies_true, Nat.reduceEqDiff, Nat.reduceAdd, Nat.reduceLeDiff, Nat.reduceSub, reduceCtorEq, reduceIte, b252_18, skM s, srM s, n114]
    simp (disch := omega) only [nI_ti, nI_cl, le0N, ltNN, true_and]
    refine ⟨by omega, ?_⟩
    try simp only [lv_args, z_v, z_lg, z_h, z_u, z_u1, z_c, z_ct, z_sk, sbne, lst1_d, ldel, lst2_d, ldel2, z_sw, z_rok, zi, eq_self, List.map_cons, List.map_nil, List.append_nil, List.nil_append, List.cons_append, Int32.reduceLT, Int32.reduceLE, Int32.reduceAdd, Int32.reduceSub, Int32.reduceMul, Int32.reduceToInt, Int32.reduceToNatClampNeg, Int.reduceLT, Int.reduceLE, Int.reduceNeg, true_and, and_true, or_self, or_false, false_or, false_and, and_false, true_or, or_true, if_true, if_false, ne_eq, Classical.not_not, not_true_eq_false, not_false_eq_true, true_implies, false_implies, implies_true, Nat.reduceEqDiff, Nat.reduceAdd, Nat.reduceLeDiff, Nat.reduceSub, reduceCtorEq, reduceIte, b252_18, nI_1]
    exact next
theorem sp_quotes {pa : List (Int64 × Int64)} (b : BQ G q h) (hd : 6 < d) (hQ : Qst G (pNn G) qv pa) (hpa : pa.length ≤ 6200) (hq : ∀ h', FrQ h h' → (∀ n, n < pNn G → hB h' 114 n = qv n) → PaQ pa h' → Q none h') : aEv d 252 [.ref 59] h Q := by
  obtain ⟨s, P, r17, n112, n113, n114, n115⟩ := id b
  have pn := P.2.2.1
  obtain ⟨⟨k0, _⟩, _⟩ := prf s P.1
  have hq66 : q ≠ 59 := by rcases P.1 with e | e <;> omega
  have F0 : FrQ h (pI h 59 31 0) := ⟨rfl, rfl, rfl, rfl, rfl, rfl, fun a i c => up2_ne c, fun _ _ => rfl, fun _ _ _ _ => rfl, rfl⟩
  have s1 : Sk (pI h 59 31 0) := (sk_same rfl rfl rfl : Sk _ = Sk h) ▸ s
  have e0 : hI (pI h 59 31 0) q 0 = nI (pNn G) := (up2_ne (fun c => hq66 c.1)).trans P.2.1
  have lp := q1_loop (h := pI h 59 31 0) (d := d) (Q := Q) (N := pNn G) s1 r17 k0 e0 n114 pn (fun f hf => by
    have F1 : FrQ h (pB (pI h 59 31 0) 114 f) := frq_tr F0 ⟨rfl, rfl, rfl, rfl, rfl, rfl, fun _ _ _ => rfl, fun _ _ => rfl, fun a c1 c2 c3 => up1_ne c3, rfl⟩
    have l2 := qs_loop (d := d) (Q := Q) b hd (pNn G) qv pa (Nat.le_refl _) hQ (by omega) (fun h' F e14 pq => by
      have fin := hq h' F e14 pq
      rw [Nat.sub_self]
      simp only [lv_args, z_v, z_lg, z_h, z_u, z_u1, z_c, z_ct, z_sk, sbne, lst1_d, ldel, lst2_d, ldel2, z_sw, z_rok, zi, eq_self, List.map_cons, List.map_nil, List.append_nil, List.nil_append, List.cons_append, Int32.reduceLT, Int32.reduceLE, Int32.reduceAdd, Int32.reduceSub, Int32.reduceMul, Int32.reduceToInt, Int32.reduceToNatClampNeg, Int.reduceLT, Int.reduceLE, Int.reduceNeg, true_and, and_true, or_self, or_false, false_or, false_and, and_false, true_or, or_true, if_true, if_false, ne_eq, Classical.not_not, not_true_eq_false, not_false_eq_true, true_implies, false_implies, implies_true, Nat.reduceEqDiff, Nat.reduceAdd, Nat.reduceLeDiff, Nat.reduceSub, reduceCtorEq, reduceIte, b252_41, dn_0]
      simp only [lv_args, z_v, z_lg, z_h, z_u, z_u1, z_c, z_ct, z_sk, sbne, lst1_d, ldel, lst2_d, ldel2, z_sw, z_rok, zi, eq_self, List.map_cons, List.map_nil, List.append_nil, List.nil_append, List.cons_append, Int32.reduceLT, Int32.reduceLE, Int32.reduceAdd, Int32.reduceSub, Int32.reduceMul, Int32.reduceToInt, Int32.reduceToNatClampNeg, Int.reduceLT, Int.reduceLE, Int.reduceNeg, true_and, and_true, or_self, or_false, false_or, false_and, and_false, true_or, or_true, if_true, if_false, ne_eq, Classical.not_not, not_true_eq_false, not_false_eq_true, true_implies, false_implies, implies_true, Nat.reduceEqDiff, Nat.reduceAdd, Nat.reduceLeDiff, Nat.reduceSub, reduceCtorEq, reduceIte, b252_62]
      exact fin) (pB (pI h 59 31 0) 114 f) F1 (fun n hn => (congrFun (up1_eq : va_up (hB h) 114 f 114 = f) n).trans (hf n hn)) ⟨rfl, fun i u v e => by simp at e⟩
    have e0' : hI (pB (pI h 59 31 0) 114 f) q 0 = nI (pNn G) := e0
    simp only [lv_args, z_v, z_lg, z_h, z_u, z_u1, z_c, z_ct, z_sk, sbne, lst1_d, ldel, lst2_d, ldel2, z_sw, z_rok, zi, eq_self, List.map_cons, List.map_nil, List.append_nil, List.nil_append, List.cons_append, Int32.reduceLT, Int32.reduceLE, Int32.reduceAdd, Int32.reduceSub, Int32.reduceMul, Int32.reduceToInt, Int32.reduceToNatClampNeg, Int.reduceLT, Int.reduceLE, Int.reduceNeg, true_and, and_true, or_self, or_false, false_or, false_and, and_false, true_or, or_true, if_true, if_false, ne_eq, Classical.not_not, not_true_eq_false, not_false_eq_true, true_implies, false_implies, implies_true, Nat.reduceEqDiff, Nat.reduceAdd, Nat.reduceLeDiff, Nat.reduceSub, reduceCtorEq, reduceIte, b252_31, skM s, r17, k0]
    have q59 : ¬ (q = 59) := hq66
    try simp only [q59, false_and, if_false]
    rw [show hI h q 0 = nI (pNn G) from P.2.1]
    exact l2) (pNn G) 0 (hB (pI h 59 31 0) 114) (by omega) (fun n hn => absurd hn (Nat.not_lt_zero n))
  have eid : pB (pI h 59 31 0) 114 (hB (pI h 59 31 0) 114) = pI h 59 31 0 := pB_self _ _
  rw [eid] at lp
  unfold aEv
  simp only [lv_args, z_v, z_lg, z_h, z_u, z_u1, z_c, z_ct, z_sk, sbne, lst1_d, ldel, lst2_d, ldel2, z_sw, z_rok, zi, eq_self, List.map_cons, List.map_nil, List.append_nil, List.nil_append, List.cons_append, Int32.reduceLT, Int32.reduceLE, Int32.reduceAdd, Int32.reduceSub, Int32.reduceMul, Int32.reduceToInt, Int32.reduceToNatClampNeg, Int.reduceLT, Int.reduceLE, Int.reduceNeg, true_and, and_true, or_self, or_false, false_or, false_and, and_false, true_or, or_true, if_true, if_false, ne_eq, Classical.not_not, not_true_eq_false, not_false_eq_true, true_implies, false_implies, implies_true, Nat.reduceEqDiff, Nat.reduceAdd, Nat.reduceLeDiff, Nat.reduceSub, reduceCtorEq, reduceIte, b252_0, skM s]
  exact lp
/-- all boxes are free -/
theorem fa_loop {len : Nat} (s : Sk h) (hl2 : hN h 120 = len) (hn : len ≤ 300000) (hq : ∀ f c fl, Fch f c fl → fl.Nodup → (∀ x, x ∈ fl → x < len) → Q none (pI (pA h 120 f) 59 42 c)) : ∀ (m : Nat) (f : Nat → Int32) (c : Int32) (fl : List Nat), m ≤ len → Fch f c fl → fl.Nodup → (∀ x, x ∈ fl → m ≤ x ∧ x < len) → aWP d 210 13 [(1, .int (nI m - 1)), (0, .ref 59)] [] (pI (pA h 120 f) 59 42 c) Q := by
  intro m
  induction m with
  | zero =>
    intro f c fl _ h1 h2 h3
    have fin := hq f c fl h1 h2 (fun x hx => (h3 x hx).2)
    simp only [lv_args, z_v, z_lg, z_h, z_u, z_u1, z_c, z_ct, z_sk, sbne, lst1_d, ldel, lst2_d, ldel2, z_sw, z_rok, zi, eq_self, List.map_cons, List.map_nil, List.append_nil, List.nil_append, List.cons_append, Int32.reduceLT, Int32.reduceLE, Int32.reduceAdd, Int32.reduceSub, Int32.reduceMul, Int32.reduceToInt, Int32.reduceToNatClampNeg, Int.reduceLT, Int.reduceLE, Int.reduceNeg, true_and, and_true, or_self, or_false, false_or, false_and, and_false, true_or, or_true, if_true, if_false, ne_eq, Classical.not_not, not_true_eq_false, not_false_eq_true, true_implies, false_implies, implies_true, Nat.reduceEqDiff, Nat.reduceAdd, Nat.reduceLeDiff, Nat.reduceSub, reduceCtorEq, reduceIte, b210_13, dn_0]
    simp only [lv_args, z_v, z_lg, z_h, z_u, z_u1, z_c, z_ct, z_sk, sbne, lst1_d, ldel, lst2_d, ldel2, z_sw, z_rok, zi, eq_self, List.map_cons, List.map_nil, List.append_nil, List.nil_append, List.cons_append, Int32.reduceLT, Int32.reduceLE, Int32.reduceAdd, Int32.reduceSub, Int32.reduceMul, Int32.reduceToInt, Int32.reduceToNatClampNeg, Int.reduceLT, Int.reduceLE, Int.reduceNeg, true_and, and_true, or_self, or_false, false_or, false_and, and_false, true_or, or_true, if_true, if_false, ne_eq, Classical.not_not, not_true_eq_false, not_false_eq_true, true_implies, false_implies, implies_true, Nat.reduceEqDiff, Nat.reduceAdd, Nat.reduceLeDiff, Nat.reduceSub, reduceCtorEq, reduceIte, b210_38]
    exact fin
  | succ m ih =>
    intro f c fl hm h1 h2 h3
    have hnm : m ∉ fl := fun e => by
      have := (h3 m e).1
      omega
    have next := ih (upd f m c) (nI m) (m :: fl) (by omega) (fch_add hnm (by omega) h1) (List.nodup_cons.mpr ⟨hnm, h2⟩) (fun x hx => by
      rcases List.mem_cons.mp hx with rfl | hx
      · exact ⟨Nat.le_refl _, by omega⟩
      · have := h3 x hx
        omega)
    have hcl : pI (pA (pI (pA h 120 f) 59 42 c) 120 (upd f m c)) 59 42 (nI m) = pI (pA h 120 (upd f m c)) 59 42 (nI m) := by
      show pI (pI (pA (pA h 120 f) 120 (upd f m c)) 59 42 c) 59 42 (nI m) = _
      rw [pA_pA, pI_pI]
    rw [← hcl] at next
    simp only [lv_args, z_v, z_lg, z_h, z_u, z_u1, z_c, z_ct, z_sk, sbne, lst1_d, ldel, lst2_d, ldel2, z_sw, z_rok, zi, eq_self, List.map_cons, List.map_nil, List.append_nil, List.nil_append, List.cons_append, Int32.reduceLT, Int32.reduceLE, Int32.reduceAdd, Int32.reduceSub, Int32.reduceMul, Int32.reduceToInt, Int32.reduceToNatClampNeg, Int.reduceLT, Int.reduceLE, Int.reduceNeg, true_and, and_true, or_self, or_false, false_or, false_and, and_false, true_or, or_true, if_true, if_false, ne_eq, Classical.not_not, not_true_eq_false, not_false_eq_true, true_implies, false_implies, implies_true, Nat.reduceEqDiff, Nat.reduceAdd, Nat.reduceLeDiff, Nat.reduceSub, reduceCtorEq, reduceIte, b210_13, nI_m1]
    simp (disch := omega) only [nI_lt0, not_false_eq_true, false_imp_iff, true_imp_iff, true_and]
    simp only [lv_args, z_v, z_lg, z_h, z_u, z_u1, z_c, z_ct, z_sk, sbne, lst1_d, ldel, lst2_d, ldel2, z_sw, z_rok, zi, eq_self, List.map_cons, List.map_nil, List.append_nil, List.nil_append, List.cons_append, Int32.reduceLT, Int32.reduceLE, Int32.reduceAdd, Int32.reduceSub, Int32.reduceMul, Int32.reduceToInt, Int32.reduceToNatClampNeg, Int.reduceLT, Int.reduceLE, Int.reduceNeg, true_and, and_true, or_self, or_false, false_or, false_and, and_false, true_or, or_true, if_true, if_false, ne_eq, Classical.not_not, not_true_eq_false, not_false_eq_true, true_implies, false_implies, implies_true, Nat.reduceEqDiff, Nat.reduceAdd, Nat.reduceLeDiff, Nat.reduceSub, reduceCtorEq, reduceIte, b210_17, skM s, srM s, hl2]
    simp (disch := omega) only [nI_ti, nI_cl, le0N, ltNN, true_and]
    refine ⟨by omega, ?_⟩
    try simp only [lv_args, z_v, z_lg, z_h, z_u, z_u1, z_c, z_ct, z_sk, sbne, lst1_d, ldel, lst2_d, ldel2, z_sw, z_rok, zi, eq_self, List.map_cons, List.map_nil, List.append_nil, List.nil_append, List.cons_append, Int32.reduceLT, Int32.reduceLE, Int32.reduceAdd, Int32.reduceSub, Int32.reduceMul, Int32.reduceToInt, Int32.reduceToNatClampNeg, Int.reduceLT, Int.reduceLE, Int.reduceNeg, true_and, and_true, or_self, or_false, false_or, false_and, and_false, true_or, or_true, if_true, if_false, ne_eq, Classical.not_not, not_true_eq_false, not_false_eq_true, true_implies, false_implies, implies_true, Nat.reduceEqDiff, Nat.reduceAdd, Nat.reduceLeDiff, Nat.reduceSub, reduceCtorEq, reduceIte, b210_17, dn_1]
    exact next
theorem sp_freesAll (s : Sk h) (e1 : hN h 120 = hN h 119) (hn : hN h 119 ≤ 300000) (hq : ∀ f c fl, Fch f c fl → fl.Nodup → (∀ x, x ∈ fl → x < hN h 119) → Q none (pI (pA h 120 f) 59 42 c)) : aEv d 210 [.ref 59] h Q := by
  have lp := fa_loop (d := d) (Q := Q) (len := hN h 119) s e1 hn hq (hN h 119) (hA h 120) (-1) [] (Nat.le_refl _) rfl List.nodup_nil (fun x hx => by cases hx)
  rw [pA_id] at lp
  unfold aEv
  simp only [lv_args, z_v, z_lg, z_h, z_u, z_u1, z_c, z_ct, z_sk, sbne, lst1_d, ldel, lst2_d, ldel2, z_sw, z_rok, zi, eq_self, List.map_cons, List.map_nil, List.append_nil, List.nil_append, List.cons_append, Int32.reduceLT, Int32.reduceLE, Int32.reduceAdd, Int32.reduceSub, Int32.reduceMul, Int32.reduceToInt, Int32.reduceToNatClampNeg, Int.reduceLT, Int.reduceLE, Int.reduceNeg, true_and, and_true, or_self, or_false, false_or, false_and, and_false, true_or, or_true, if_true, if_false, ne_eq, Classical.not_not, not_true_eq_false, not_false_eq_true, true_implies, false_implies, implies_true, Nat.reduceEqDiff, Nat.reduceAdd, Nat.reduceLeDiff, Nat.reduceSub, reduceCtorEq, reduceIte, b210_0, skM s, srM s, Nat.reduceLeDiff]
  exact lp
end BGN
