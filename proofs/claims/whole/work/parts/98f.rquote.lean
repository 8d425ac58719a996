/-! BUILD. A quote begins -/
section RQT
variable {h h' : Hp} {Q : Option Value → Hp → Prop} {d n : Nat} {t : Nat → Nat} {N : NS} {stk : List SE} {K : List KY} {mt : List Nat}
theorem adN_1 {e : SE} {x : Nat} : (adN N e x).1 = N.1 := by
  unfold adN
  cases e.2.1 <;> rfl
theorem ws_ad {e : SE} {x : Nat} (hx : x < N.1) (ws : WS N (e :: stk)) : WS (adN N e x) ((e.1, some x, e.2.2) :: stk) := fun y hy => by
  rw [adN_1]
  rcases List.mem_cons.mp hy with rfl | hy
  · refine ⟨(ws e (by simp)).1, fun z hz => ?_⟩
    injection hz with hz
    rw [← hz]; exact hx
  · exact ws y (by simp [hy])
theorem sp_openQuote {p : Nat} {e : SE} (s : Sk h) (rm0 : Rm h) (nt : NT K mt h) (hK0 : 0 < K.length) (hr8 : K.length ≤ hN h 8) (hm : mt.length < 3000) (rn : RNs N h) (rs : RSk (e :: stk) h) (ws : WS N (e :: stk)) (rm : N.1 + 1 < hN h 10 ∧ N.1 + 1 < hN h 11 ∧ N.1 + 1 < hN h 12 ∧ N.1 + 1 < hN h 13 ∧ N.1 + 1 < hN h 14) (hl : N.1 + 1 < 7000) (hd : 10 < d) (h20 : hI h 2 0 = 0) (q1 : 30 ≤ stk.length → Q none (pI (pI h 2 0 2) 2 1 (nI p)))
    (q2 : stk.length < 30 → ∀ h', NT K (if 0 ∈ mt then mt else mt ++ [0]) h' → RNs (adN (nwN (adN (nwN N 6 0 (nI p)) e N.1) 5 0 (nI p)) (N.1, none, true) (N.1 + 1)) h' → RSk ((N.1, some (N.1 + 1), true) :: (e.1, some N.1, e.2.2) :: stk) h' → FrW h h' → Q none h') : aEv d 127 [.ref 3, .int (nI p)] h Q := by
  have h0 : 0 < d := by omega
  have z10 : ¬ (1 : Int32) = 0 := by decide
  have zb : (1 : Int32) = (if true then 1 else 0) := rfl
  have e31 : hR h 3 1 = some 4 := s.2.1 3 1 rfl
  obtain ⟨m1, m2, m3, m4, m5⟩ := rm
  unfold aEv
  simp only [lv_args, z_v, z_lg, z_h, z_u, z_u1, z_c, z_ct, z_sk, sbne, lst1_d, ldel, lst2_d, ldel2, z_sw, z_rok, zi, eq_self, List.map_cons, List.map_nil, List.append_nil, List.nil_append, List.cons_append, Int32.reduceLT, Int32.reduceLE, Int32.reduceAdd, Int32.reduceSub, Int32.reduceMul, Int32.reduceToInt, Int32.reduceToNatClampNeg, Int.reduceLT, Int.reduceLE, Int.reduceNeg, true_and, and_true, or_self, or_false, false_or, false_and, and_false, true_or, or_true, if_true, if_false, ne_eq, Classical.not_not, not_true_eq_false, not_false_eq_true, true_implies, false_implies, implies_true, Nat.reduceEqDiff, Nat.reduceAdd, Nat.reduceLeDiff, Nat.reduceSub, reduceCtorEq, reduceIte, b127_0, skX s, h0]
  refine sp_openList (b := true) s rm0 rn rs ws ⟨by omega, by omega, by omega, by omega, by omega⟩ (by omega) (by omega) h20 (fun c => ?_) (fun c h1 rn1 rs1 F1 => ?_)
  · have fin := q1 c
    simp only [lv_args, z_v, z_lg, z_h, z_u, z_u1, z_c, z_ct, z_sk, sbne, lst1_d, ldel, lst2_d, ldel2, z_sw, z_rok, zi, eq_self, List.map_cons, List.map_nil, List.append_nil, List.nil_append, List.cons_append, Int32.reduceLT, Int32.reduceLE, Int32.reduceAdd, Int32.reduceSub, Int32.reduceMul, Int32.reduceToInt, Int32.reduceToNatClampNeg, Int.reduceLT, Int.reduceLE, Int.reduceNeg, true_and, and_true, or_self, or_false, false_or, false_and, and_false, true_or, or_true, if_true, if_false, ne_eq, Classical.not_not, not_true_eq_false, not_false_eq_true, true_implies, false_implies, implies_true, Nat.reduceEqDiff, Nat.reduceAdd, Nat.reduceLeDiff, Nat.reduceSub, reduceCtorEq, reduceIte, b127_0, skX s, Nat.reduceLT]
    simp only [lv_args, z_v, z_lg, z_h, z_u, z_u1, z_c, z_ct, z_sk, sbne, lst1_d, ldel, lst2_d, ldel2, z_sw, z_rok, zi, eq_self, List.map_cons, List.map_nil, List.append_nil, List.nil_append, List.cons_append, Int32.reduceLT, Int32.reduceLE, Int32.reduceAdd, Int32.reduceSub, Int32.reduceMul, Int32.reduceToInt, Int32.reduceToNatClampNeg, Int.reduceLT, Int.reduceLE, Int.reduceNeg, true_and, and_true, or_self, or_false, false_or, false_and, and_false, true_or, or_true, if_true, if_false, ne_eq, Classical.not_not, not_true_eq_false, not_false_eq_true, true_implies, false_implies, implies_true, Nat.reduceEqDiff, Nat.reduceAdd, Nat.reduceLeDiff, Nat.reduceSub, reduceCtorEq, reduceIte, b127_28]
    exact fin
  · have s1 := frr_sk F1 s
    have hv1 : hv h1 = hv h := F1.2.2.2.2.2.1
    have n1 := F1.2.2.1
    have rm1 : Rm h1 := rm_same F1.2.2.1 F1.2.2.2.1 F1.2.2.2.2.1 rm0
    simp only [lv_args, z_v, z_lg, z_h, z_u, z_u1, z_c, z_ct, z_sk, sbne, lst1_d, ldel, lst2_d, ldel2, z_sw, z_rok, zi, eq_self, List.map_cons, List.map_nil, List.append_nil, List.nil_append, List.cons_append, Int32.reduceLT, Int32.reduceLE, Int32.reduceAdd, Int32.reduceSub, Int32.reduceMul, Int32.reduceToInt, Int32.reduceToNatClampNeg, Int.reduceLT, Int.reduceLE, Int.reduceNeg, true_and, and_true, or_self, or_false, false_or, false_and, and_false, true_or, or_true, if_true, if_false, ne_eq, Classical.not_not, not_true_eq_false, not_false_eq_true, true_implies, false_implies, implies_true, Nat.reduceEqDiff, Nat.reduceAdd, Nat.reduceLeDiff, Nat.reduceSub, reduceCtorEq, reduceIte, b127_0, skX s, skX s1, hv1, Nat.reduceLT, z10]
    simp only [lv_args, z_v, z_lg, z_h, z_u, z_u1, z_c, z_ct, z_sk, sbne, lst1_d, ldel, lst2_d, ldel2, z_sw, z_rok, zi, eq_self, List.map_cons, List.map_nil, List.append_nil, List.nil_append, List.cons_append, Int32.reduceLT, Int32.reduceLE, Int32.reduceAdd, Int32.reduceSub, Int32.reduceMul, Int32.reduceToInt, Int32.reduceToNatClampNeg, Int.reduceLT, Int.reduceLE, Int.reduceNeg, true_and, and_true, or_self, or_false, false_or, false_and, and_false, true_or, or_true, if_true, if_false, ne_eq, Classical.not_not, not_true_eq_false, not_false_eq_true, true_implies, false_implies, implies_true, Nat.reduceEqDiff, Nat.reduceAdd, Nat.reduceLeDiff, Nat.reduceSub, reduceCtorEq, reduceIte, b127_9, skX s1, srX s1, h0]
    refine sp_meet (i := 0) s1 (frr_nt F1 nt) hK0 (by rw [n1]; exact hr8) hm (fun h2 nt2 F2 => ?_)
    have s2 := frn_sk F2 s1
    have hv2 : hv h2 = hv h1 := F2.2.2.2.2.2.1
    have n2 := F2.2.2.1
    have eN : (adN (nwN N 6 0 (nI p)) e N.1).1 = N.1 + 1 := adN_1
    have ws1 : WS (adN (nwN N 6 0 (nI p)) e N.1) ((N.1, none, true) :: (e.1, some N.1, e.2.2) :: stk) := fun y hy => by
      rcases List.mem_cons.mp hy with rfl | hy
      · rw [eN]; exact ⟨Nat.lt_succ_self _, fun x hx => by cases hx⟩
      · exact ws_ad (N := nwN N 6 0 (nI p)) (Nat.lt_succ_self _) (ws_nw ws) y hy
    simp only [lv_args, z_v, z_lg, z_h, z_u, z_u1, z_c, z_ct, z_sk, sbne, lst1_d, ldel, lst2_d, ldel2, z_sw, z_rok, zi, eq_self, List.map_cons, List.map_nil, List.append_nil, List.nil_append, List.cons_append, Int32.reduceLT, Int32.reduceLE, Int32.reduceAdd, Int32.reduceSub, Int32.reduceMul, Int32.reduceToInt, Int32.reduceToNatClampNeg, Int.reduceLT, Int.reduceLE, Int.reduceNeg, true_and, and_true, or_self, or_false, false_or, false_and, and_false, true_or, or_true, if_true, if_false, ne_eq, Classical.not_not, not_true_eq_false, not_false_eq_true, true_implies, false_implies, implies_true, Nat.reduceEqDiff, Nat.reduceAdd, Nat.reduceLeDiff, Nat.reduceSub, reduceCtorEq, reduceIte, b127_9, skX s1, skX s2, h0, hv2, Nat.reduceLT]
    have h10 := (rm0.2.2 10 (by decide)).2
    have y10 : cpR 10 = 12100 := rfl
    refine sp_newNode s2 (frn_rn F2 rn1) (frn_rs F2 rs1) (by unfold roomN; rw [eN, n2, n1]; exact ⟨m1, m2, m3, m4, m5⟩) (by rw [eN]; omega) (by rw [n2, n1]; omega) (fun h3 rn3 rs3 F3 => ?_)
    have s3 := frr_sk F3 s2
    have hv3 : hv h3 = hv h2 := F3.2.2.2.2.2.1
    have n3 := F3.2.2.1
    rw [eN]
    simp only [lv_args, z_v, z_lg, z_h, z_u, z_u1, z_c, z_ct, z_sk, sbne, lst1_d, ldel, lst2_d, ldel2, z_sw, z_rok, zi, eq_self, List.map_cons, List.map_nil, List.append_nil, List.nil_append, List.cons_append, Int32.reduceLT, Int32.reduceLE, Int32.reduceAdd, Int32.reduceSub, Int32.reduceMul, Int32.reduceToInt, Int32.reduceToNatClampNeg, Int.reduceLT, Int.reduceLE, Int.reduceNeg, true_and, and_true, or_self, or_false, false_or, false_and, and_false, true_or, or_true, if_true, if_false, ne_eq, Classical.not_not, not_true_eq_false, not_false_eq_true, true_implies, false_implies, implies_true, Nat.reduceEqDiff, Nat.reduceAdd, Nat.reduceLeDiff, Nat.reduceSub, reduceCtorEq, reduceIte, b127_9, skX s2, skX s3, h0, hv3, Nat.reduceLT]
    have eN2 : (nwN (adN (nwN N 6 0 (nI p)) e N.1) 5 0 (nI p)).1 = N.1 + 2 := by
      show (adN (nwN N 6 0 (nI p)) e N.1).1 + 1 = _
      rw [eN]
    refine sp_addPart (x := N.1 + 1) s3 rn3 rs3 (ws_nw ws1) (by rw [eN2]; omega) (by rw [n3, n2, n1]; exact ⟨rm0.1.2 (15, 31) (by decide), rm0.1.2 (16, 31) (by decide)⟩) (by rw [eN2, n3, n2, n1]; exact ⟨by omega, by omega, by omega⟩) (fun h4 rn4 rs4 F4 => ?_)
    have hv4 : hv h4 = hv h3 := F4.2.2.2.2.2.1
    have fin := q2 c h4 (frr_nt F4 (frr_nt F3 nt2)) rn4 rs4 (frw_tr (frw_r F1) (frw_tr (frw_n F2) (frw_tr (frw_r F3) (frw_r F4))))
    simp only [lv_args, z_v, z_lg, z_h, z_u, z_u1, z_c, z_ct, z_sk, sbne, lst1_d, ldel, lst2_d, ldel2, z_sw, z_rok, zi, eq_self, List.map_cons, List.map_nil, List.append_nil, List.nil_append, List.cons_append, Int32.reduceLT, Int32.reduceLE, Int32.reduceAdd, Int32.reduceSub, Int32.reduceMul, Int32.reduceToInt, Int32.reduceToNatClampNeg, Int.reduceLT, Int.reduceLE, Int.reduceNeg, true_and, and_true, or_self, or_false, false_or, false_and, and_false, true_or, or_true, if_true, if_false, ne_eq, Classical.not_not, not_true_eq_false, not_false_eq_true, true_implies, false_implies, implies_true, Nat.reduceEqDiff, Nat.reduceAdd, Nat.reduceLeDiff, Nat.reduceSub, reduceCtorEq, reduceIte, b127_9, b127_28, skX s3, hv4, Nat.reduceLT]
    exact fin
end RQT
