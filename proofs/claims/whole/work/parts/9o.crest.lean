/-! BUILD. set!, define, quote; one form -/
section CRS
variable {h h' h0 : Hp} {Q : Option Value → Hp → Prop} {d p c1 c2 n g b : Nat} {N : NS} {mt op : List Nat} {K : List KY} {z : CR} {F : Nat → Bool → CR → CR}
theorem cw_Tl {D k q : Nat} (w : CW D g z) : CW D g (cTl k q z) := ⟨w.1, w.2.1, w.2.2.1, fun hn => absurd hn tl_fl⟩
theorem cw_Ct {D : Nat} (w : CW D g z) : CW D g (cCt N n z) := by
  unfold cCt
  split
  · exact ⟨w.1, w.2.1, w.2.2.1, fun hn => absurd hn tl_fl⟩
  · exact w
theorem gd_Ct (G : gd c1 c2 (cCt N n z)) : gd c1 c2 z := by
  unfold cCt at G
  split at G
  · exact absurd G.1 tl_fl
  · exact G
theorem sp_setForm {lv : Nat} {la : Bool} (cc : CC N mt K p c1 c2 h0) (fb : FB N K p c1 c2 h0 g F) (ht : Tr (g + 1) N n b) (h6 : nK N n = 6) (hb : b ≤ N.1) (hn1 : 1 ≤ n) (hl : (pts N n).length = 3) (h5 : nK N (prt N n 1) = 5) (w : CW (9 * g + 9) (g + 1) z) (H : CH N K p c1 c2 h0 op z h) (hlv : 1 ≤ lv) (hlv2 : lv + g ≤ 32) (hd : 5 * g + 33 < d) (hq : ∀ h', CH N K p c1 c2 h0 op (cSt N F la (prt N n 1) (prt N n 2) z) h' → Q none h') : aEv d 26 [.ref 39, .int (nI n), .int (bI la), .int (nI lv)] h Q := by
  have h00 : 0 < d := by omega
  have nk := cc.2.2.2.2.1
  have hNm := nk.2.2
  obtain ⟨t1, t2, hn⟩ := tl_n ht h6 hb hNm
  have p1 := prt_get (N := N) (n := n) (k := 1) (by omega)
  have p2 := prt_get (N := N) (n := n) (k := 2) (by omega)
  obtain ⟨a1, a2, a3, m1, a4, a5⟩ := tl_get t2 p1
  obtain ⟨b1, b2, b3, m2, b4, b5⟩ := tl_get t2 p2
  rw [oI_g p2] at a3
  generalize prt N n 1 = u at *
  generalize prt N n 2 = v at *
  obtain ⟨j, hj, ej, ej2, hj3⟩ := nok_name nk a2 a1 h5
  have hjK : j < K.length := cc.2.2.2.1.1.2.2.2.2.2.1.2.2 j hj
  have s := H.1.1.1.1
  have r := cc_rd cc H.1
  have z30 : (30 : Int32) = nI 30 := rfl
  have z10 : ¬ (1 : Int32) = 0 := by decide
  have eb0 : bI false = 0 := rfl
  have eb1 : bI true = 1 := rfl
  unfold cSt at hq
  rw [ej2] at hq
  dsimp only at hq
  -- from the value on
  have rest : ∀ (z0 : CR) (h1 : Hp), z0 = (if j < 30 then cTl 5 (nQ N u) z else if cMn N j z then z else cTl 4 (nQ N u) z) → CH N K p c1 c2 h0 op z0 h1 → CW (9 * g + 9) (g + 1) z0 → aWP d 26 54 [(5, .int (nI j)), (4, .int (nI u)), (0, .ref 39), (1, .int (nI n)), (2, .int (bI la)), (3, .int (nI lv))] [] h1 Q := by
    intro z0 h1 e0 H1 w1
    rw [← e0] at hq
    have s1 := H1.1.1.1.1
    have r1 := cc_rd cc H1.1
    have w1' : CW (9 * g + 9) g z0 := cw_g w1 (Nat.le_succ g)
    obtain ⟨w2, gm, dp1, sc1, bd1⟩ := cw_F (D := 9 * g + 8) (la := false) fb hNm b4 b5 w1' (by omega)
    simp only [lv_args, z_v, z_lg, z_h, z_u, z_u1, z_c, z_ct, z_sk, sbne, lst1_d, ldel, lst2_d, ldel2, z_sw, z_rok, zi, eq_self, List.map_cons, List.map_nil, List.append_nil, List.nil_append, List.cons_append, Int32.reduceLT, Int32.reduceLE, Int32.reduceAdd, Int32.reduceSub, Int32.reduceMul, Int32.reduceToInt, Int32.reduceToNatClampNeg, Int.reduceLT, Int.reduceLE, Int.reduceNeg, true_and, and_true, or_self, or_false, false_or, false_and, and_false, true_or, or_true, if_true, if_false, ne_eq, Classical.not_not, not_true_eq_false, not_false_eq_true, true_implies, false_implies, implies_true, Nat.reduceEqDiff, Nat.reduceAdd, Nat.reduceLeDiff, Nat.reduceSub, reduceCtorEq, reduceIte, b26_54, skX s1, srX s1, h00, Nat.reduceLT, rd_x s1 r1 a1, a3]
    refine fb.2.2 v m2 lv false z0 h1 _ _ op b4 b5 b2 (cw_wk w1' (by omega)) H1 hlv hlv2 (by omega) (fun h2 H2 => ?_)
    generalize F v false z0 = z2 at *
    have s2 := H2.1.1.1.1
    have hbz : ∀ {z3 : CR}, rDp z3 = rDp z2 → rDx z3 ≤ max (rDx z2) (rDp z2) → (gd c1 c2 z3 → gd c1 c2 z2) → gd c1 c2 z3 → rDp z3 < 1000000 ∧ rDx z3 < 1000000 := fun {z3} y1 y2 y3 G => by
      have := w2.2.2.2 (y3 G).1
      omega
    have out : ∀ (z3 : CR) (h3 : Hp), CH N K p c1 c2 h0 op z3 h3 → (gd c1 c2 z3 → rDp z3 < 1000000 ∧ rDx z3 < 1000000) → z3 = (if rFl z2 = none then cVr N j 19 (rDp z2) z2 else z2) → aWP d 26 88 [(5, .int (nI j)), (4, .int (nI u)), (0, .ref 39), (1, .int (nI n)), (2, .int (bI la)), (3, .int (nI lv))] [] h3 Q := by
      intro z3 h3 H3 hz e3
      rw [← e3] at hq
      have s3 := H3.1.1.1.1
      simp only [lv_args, z_v, z_lg, z_h, z_u, z_u1, z_c, z_ct, z_sk, sbne, lst1_d, ldel, lst2_d, ldel2, z_sw, z_rok, zi, eq_self, List.map_cons, List.map_nil, List.append_nil, List.nil_append, List.cons_append, Int32.reduceLT, Int32.reduceLE, Int32.reduceAdd, Int32.reduceSub, Int32.reduceMul, Int32.reduceToInt, Int32.reduceToNatClampNeg, Int.reduceLT, Int.reduceLE, Int.reduceNeg, true_and, and_true, or_self, or_false, false_or, false_and, and_false, true_or, or_true, if_true, if_false, ne_eq, Classical.not_not, not_true_eq_false, not_false_eq_true, true_implies, false_implies, implies_true, Nat.reduceEqDiff, Nat.reduceAdd, Nat.reduceLeDiff, Nat.reduceSub, reduceCtorEq, reduceIte, b26_88, skX s3, h00]
      refine sp_gb cc H3 hz (by omega) (fun h4 H4 => ?_)
      have s4 := H4.1.1.1.1
      simp only [lv_args, z_v, z_lg, z_h, z_u, z_u1, z_c, z_ct, z_sk, sbne, lst1_d, ldel, lst2_d, ldel2, z_sw, z_rok, zi, eq_self, List.map_cons, List.map_nil, List.append_nil, List.nil_append, List.cons_append, Int32.reduceLT, Int32.reduceLE, Int32.reduceAdd, Int32.reduceSub, Int32.reduceMul, Int32.reduceToInt, Int32.reduceToNatClampNeg, Int.reduceLT, Int.reduceLE, Int.reduceNeg, true_and, and_true, or_self, or_false, false_or, false_and, and_false, true_or, or_true, if_true, if_false, ne_eq, Classical.not_not, not_true_eq_false, not_false_eq_true, true_implies, false_implies, implies_true, Nat.reduceEqDiff, Nat.reduceAdd, Nat.reduceLeDiff, Nat.reduceSub, reduceCtorEq, reduceIte, b26_88, skX s3, skX s4, Nat.reduceLT]
      exact hq h4 H4
    simp only [lv_args, z_v, z_lg, z_h, z_u, z_u1, z_c, z_ct, z_sk, sbne, lst1_d, ldel, lst2_d, ldel2, z_sw, z_rok, zi, eq_self, List.map_cons, List.map_nil, List.append_nil, List.nil_append, List.cons_append, Int32.reduceLT, Int32.reduceLE, Int32.reduceAdd, Int32.reduceSub, Int32.reduceMul, Int32.reduceToInt, Int32.reduceToNatClampNeg, Int.reduceLT, Int.reduceLE, Int.reduceNeg, true_and, and_true, or_self, or_false, false_or, false_and, and_false, true_or, or_true, if_true, if_false, ne_eq, Classical.not_not, not_true_eq_false, not_false_eq_true, true_implies, false_implies, implies_true, Nat.reduceEqDiff, Nat.reduceAdd, Nat.reduceLeDiff, Nat.reduceSub, reduceCtorEq, reduceIte, b26_54, skX s1, skX s2, srX s2, h00, Nat.reduceLT, e32_2 _ _ s2]
    by_cases cf : rFl z2 = none
    · have e20 : hI h2 2 0 = 0 := (H2.1.2.2.2.1.1 cf).1
      rw [if_pos cf] at out
      simp only [e20, not_true_eq_false, false_imp_iff, true_imp_iff, true_and]
      try simp only [lv_args, z_v, z_lg, z_h, z_u, z_u1, z_c, z_ct, z_sk, sbne, lst1_d, ldel, lst2_d, ldel2, z_sw, z_rok, zi, eq_self, List.map_cons, List.map_nil, List.append_nil, List.nil_append, List.cons_append, Int32.reduceLT, Int32.reduceLE, Int32.reduceAdd, Int32.reduceSub, Int32.reduceMul, Int32.reduceToInt, Int32.reduceToNatClampNeg, Int.reduceLT, Int.reduceLE, Int.reduceNeg, true_and, and_true, or_self, or_false, false_or, false_and, and_false, true_or, or_true, if_true, if_false, ne_eq, Classical.not_not, not_true_eq_false, not_false_eq_true, true_implies, false_implies, implies_true, Nat.reduceEqDiff, Nat.reduceAdd, Nat.reduceLeDiff, Nat.reduceSub, reduceCtorEq, reduceIte, b26_54, skX s2, z10, Nat.reduceLT]
      simp only [lv_args, z_v, z_lg, z_h, z_u, z_u1, z_c, z_ct, z_sk, sbne, lst1_d, ldel, lst2_d, ldel2, z_sw, z_rok, zi, eq_self, List.map_cons, List.map_nil, List.append_nil, List.nil_append, List.cons_append, Int32.reduceLT, Int32.reduceLE, Int32.reduceAdd, Int32.reduceSub, Int32.reduceMul, Int32.reduceToInt, Int32.reduceToNatClampNeg, Int.reduceLT, Int.reduceLE, Int.reduceNeg, true_and, and_true, or_self, or_false, false_or, false_and, and_false, true_or, or_true, if_true, if_false, ne_eq, Classical.not_not, not_true_eq_false, not_false_eq_true, true_implies, false_implies, implies_true, Nat.reduceEqDiff, Nat.reduceAdd, Nat.reduceLeDiff, Nat.reduceSub, reduceCtorEq, reduceIte, b26_79, skX s2, h00]
      refine sp_var (o := 19) (dp := rDp z2) cc H2 w2.1 hjK (fun G => by
        have := w2.2.2.2 G.1
        exact ⟨Int32.add_zero _, by omega, by omega⟩) (by omega) (fun h3 H3 => ?_)
      have s3 := H3.1.1.1.1
      have cv : rDp (cVr N j 19 (rDp z2) z2) = rDp z2 ∧ rDx (cVr N j 19 (rDp z2) z2) ≤ max (rDx z2) (rDp z2) ∧ (gd c1 c2 (cVr N j 19 (rDp z2) z2) → gd c1 c2 z2) := by
        unfold cVr
        split
        · exact ⟨rfl, Nat.le_refl _, fun G => (gd_E G).1⟩
        · split
          · exact ⟨rfl, Nat.le_refl _, fun G => (gd_E G).1⟩
          · exact ⟨rfl, Nat.le_refl _, fun G => (gd_E G).1⟩
      have o1 := out _ h3 H3 (hbz cv.1 cv.2.1 cv.2.2) rfl
      simp only [lv_args, z_v, z_lg, z_h, z_u, z_u1, z_c, z_ct, z_sk, sbne, lst1_d, ldel, lst2_d, ldel2, z_sw, z_rok, zi, eq_self, List.map_cons, List.map_nil, List.append_nil, List.nil_append, List.cons_append, Int32.reduceLT, Int32.reduceLE, Int32.reduceAdd, Int32.reduceSub, Int32.reduceMul, Int32.reduceToInt, Int32.reduceToNatClampNeg, Int.reduceLT, Int.reduceLE, Int.reduceNeg, true_and, and_true, or_self, or_false, false_or, false_and, and_false, true_or, or_true, if_true, if_false, ne_eq, Classical.not_not, not_true_eq_false, not_false_eq_true, true_implies, false_implies, implies_true, Nat.reduceEqDiff, Nat.reduceAdd, Nat.reduceLeDiff, Nat.reduceSub, reduceCtorEq, reduceIte, b26_79, skX s2, skX s3, Nat.reduceLT]
      exact o1
    · have e20 : ¬ hI h2 2 0 = 0 := fun e => by
        obtain ⟨⟨k0, f0⟩, e0⟩ := Option.ne_none_iff_exists'.mp cf
        obtain ⟨y1, y2, y3, y4⟩ := H2.1.2.2.2.1.2 k0 f0 e0
        rw [y1] at e
        have := nI_inj (a := k0) (b := 0) (by omega) (by omega) e
        omega
      rw [if_neg cf] at out
      have o1 := out _ h2 H2 (fun G => absurd G.1 cf) rfl
      simp only [e20, not_false_eq_true, false_imp_iff, true_imp_iff, and_true]
      try simp only [lv_args, z_v, z_lg, z_h, z_u, z_u1, z_c, z_ct, z_sk, sbne, lst1_d, ldel, lst2_d, ldel2, z_sw, z_rok, zi, eq_self, List.map_cons, List.map_nil, List.append_nil, List.nil_append, List.cons_append, Int32.reduceLT, Int32.reduceLE, Int32.reduceAdd, Int32.reduceSub, Int32.reduceMul, Int32.reduceToInt, Int32.reduceToNatClampNeg, Int.reduceLT, Int.reduceLE, Int.reduceNeg, true_and, and_true, or_self, or_false, false_or, false_and, and_false, true_or, or_true, if_true, if_false, ne_eq, Classical.not_not, not_true_eq_false, not_false_eq_true, true_implies, false_implies, implies_true, Nat.reduceEqDiff, Nat.reduceAdd, Nat.reduceLeDiff, Nat.reduceSub, reduceCtorEq, reduceIte, b26_54, skX s2, Nat.reduceLT]
      exact o1
  unfold aEv
  simp only [lv_args, z_v, z_lg, z_h, z_u, z_u1, z_c, z_ct, z_sk, sbne, lst1_d, ldel, lst2_d, ldel2, z_sw, z_rok, zi, eq_self, List.map_cons, List.map_nil, List.append_nil, List.nil_append, List.cons_append, Int32.reduceLT, Int32.reduceLE, Int32.reduceAdd, Int32.reduceSub, Int32.reduceMul, Int32.reduceToInt, Int32.reduceToNatClampNeg, Int.reduceLT, Int.reduceLE, Int.reduceNeg, true_and, and_true, or_self, or_false, false_or, false_and, and_false, true_or, or_true, if_true, if_false, ne_eq, Classical.not_not, not_true_eq_false, not_false_eq_true, true_implies, false_implies, implies_true, Nat.reduceEqDiff, Nat.reduceAdd, Nat.reduceLeDiff, Nat.reduceSub, reduceCtorEq, reduceIte, b26_0, skX s, srX s, h00, rd_2 s r ht h6 hb hNm (by omega : 0 < d - 1), oI_g p1, rd_c s r a1, ej, z30, Nat.reduceLT]
  simp (disch := omega) only [nI_leN]
  refine ⟨fun c => ?_, fun c => ?_⟩
  · rw [if_neg (by omega)] at rest
    simp only [lv_args, z_v, z_lg, z_h, z_u, z_u1, z_c, z_ct, z_sk, sbne, lst1_d, ldel, lst2_d, ldel2, z_sw, z_rok, zi, eq_self, List.map_cons, List.map_nil, List.append_nil, List.nil_append, List.cons_append, Int32.reduceLT, Int32.reduceLE, Int32.reduceAdd, Int32.reduceSub, Int32.reduceMul, Int32.reduceToInt, Int32.reduceToNatClampNeg, Int.reduceLT, Int.reduceLE, Int.reduceNeg, true_and, and_true, or_self, or_false, false_or, false_and, and_false, true_or, or_true, if_true, if_false, ne_eq, Classical.not_not, not_true_eq_false, not_false_eq_true, true_implies, false_implies, implies_true, Nat.reduceEqDiff, Nat.reduceAdd, Nat.reduceLeDiff, Nat.reduceSub, reduceCtorEq, reduceIte, b26_38, skX s, h00]
    refine sp_mean cc H.1 hjK (by omega) ?_
    cases hm : cMn N j z with
    | true =>
      rw [hm, if_pos rfl] at rest
      have o1 := rest z h rfl H w
      simp only [lv_args, z_v, z_lg, z_h, z_u, z_u1, z_c, z_ct, z_sk, sbne, lst1_d, ldel, lst2_d, ldel2, z_sw, z_rok, zi, eq_self, List.map_cons, List.map_nil, List.append_nil, List.nil_append, List.cons_append, Int32.reduceLT, Int32.reduceLE, Int32.reduceAdd, Int32.reduceSub, Int32.reduceMul, Int32.reduceToInt, Int32.reduceToNatClampNeg, Int.reduceLT, Int.reduceLE, Int.reduceNeg, true_and, and_true, or_self, or_false, false_or, false_and, and_false, true_or, or_true, if_true, if_false, ne_eq, Classical.not_not, not_true_eq_false, not_false_eq_true, true_implies, false_implies, implies_true, Nat.reduceEqDiff, Nat.reduceAdd, Nat.reduceLeDiff, Nat.reduceSub, reduceCtorEq, reduceIte, b26_38, skX s, Nat.reduceLT, eb1, z10]
      exact o1
    | false =>
      rw [hm, if_neg (by decide)] at rest
      simp only [lv_args, z_v, z_lg, z_h, z_u, z_u1, z_c, z_ct, z_sk, sbne, lst1_d, ldel, lst2_d, ldel2, z_sw, z_rok, zi, eq_self, List.map_cons, List.map_nil, List.append_nil, List.nil_append, List.cons_append, Int32.reduceLT, Int32.reduceLE, Int32.reduceAdd, Int32.reduceSub, Int32.reduceMul, Int32.reduceToInt, Int32.reduceToNatClampNeg, Int.reduceLT, Int.reduceLE, Int.reduceNeg, true_and, and_true, or_self, or_false, false_or, false_and, and_false, true_or, or_true, if_true, if_false, ne_eq, Classical.not_not, not_true_eq_false, not_false_eq_true, true_implies, false_implies, implies_true, Nat.reduceEqDiff, Nat.reduceAdd, Nat.reduceLeDiff, Nat.reduceSub, reduceCtorEq, reduceIte, b26_38, skX s, Nat.reduceLT, eb0]
      simp only [lv_args, z_v, z_lg, z_h, z_u, z_u1, z_c, z_ct, z_sk, sbne, lst1_d, ldel, lst2_d, ldel2, z_sw, z_rok, zi, eq_self, List.map_cons, List.map_nil, List.append_nil, List.nil_append, List.cons_append, Int32.reduceLT, Int32.reduceLE, Int32.reduceAdd, Int32.reduceSub, Int32.reduceMul, Int32.reduceToInt, Int32.reduceToNatClampNeg, Int.reduceLT, Int.reduceLE, Int.reduceNeg, true_and, and_true, or_self, or_false, false_or, false_and, and_false, true_or, or_true, if_true, if_false, ne_eq, Classical.not_not, not_true_eq_false, not_false_eq_true, true_implies, false_implies, implies_true, Nat.reduceEqDiff, Nat.reduceAdd, Nat.reduceLeDiff, Nat.reduceSub, reduceCtorEq, reduceIte, b26_47, skX s, h00]
      refine sp_ctell (k := 4) cc H.1 rfl (by decide) a2 a1 (by omega) (fun h1 H1 => ?_)
      have s1 := H1.1.1.1.1
      have o1 := rest _ h1 rfl H1 (cw_Tl w)
      simp only [lv_args, z_v, z_lg, z_h, z_u, z_u1, z_c, z_ct, z_sk, sbne, lst1_d, ldel, lst2_d, ldel2, z_sw, z_rok, zi, eq_self, List.map_cons, List.map_nil, List.append_nil, List.nil_append, List.cons_append, Int32.reduceLT, Int32.reduceLE, Int32.reduceAdd, Int32.reduceSub, Int32.reduceMul, Int32.reduceToInt, Int32.reduceToNatClampNeg, Int.reduceLT, Int.reduceLE, Int.reduceNeg, true_and, and_true, or_self, or_false, false_or, false_and, and_false, true_or, or_true, if_true, if_false, ne_eq, Classical.not_not, not_true_eq_false, not_false_eq_true, true_implies, false_implies, implies_true, Nat.reduceEqDiff, Nat.reduceAdd, Nat.reduceLeDiff, Nat.reduceSub, reduceCtorEq, reduceIte, b26_47, skX s, skX s1, Nat.reduceLT]
      exact o1
  · rw [if_pos (by omega)] at rest
    simp only [lv_args, z_v, z_lg, z_h, z_u, z_u1, z_c, z_ct, z_sk, sbne, lst1_d, ldel, lst2_d, ldel2, z_sw, z_rok, zi, eq_self, List.map_cons, List.map_nil, List.append_nil, List.nil_append, List.cons_append, Int32.reduceLT, Int32.reduceLE, Int32.reduceAdd, Int32.reduceSub, Int32.reduceMul, Int32.reduceToInt, Int32.reduceToNatClampNeg, Int.reduceLT, Int.reduceLE, Int.reduceNeg, true_and, and_true, or_self, or_false, false_or, false_and, and_false, true_or, or_true, if_true, if_false, ne_eq, Classical.not_not, not_true_eq_false, not_false_eq_true, true_implies, false_implies, implies_true, Nat.reduceEqDiff, Nat.reduceAdd, Nat.reduceLeDiff, Nat.reduceSub, reduceCtorEq, reduceIte, b26_28, skX s, h00]
    refine sp_ctell (k := 5) cc H.1 rfl (by decide) a2 a1 (by omega) (fun h1 H1 => ?_)
    have s1 := H1.1.1.1.1
    have o1 := rest _ h1 rfl H1 (cw_Tl w)
    simp only [lv_args, z_v, z_lg, z_h, z_u, z_u1, z_c, z_ct, z_sk, sbne, lst1_d, ldel, lst2_d, ldel2, z_sw, z_rok, zi, eq_self, List.map_cons, List.map_nil, List.append_nil, List.nil_append, List.cons_append, Int32.reduceLT, Int32.reduceLE, Int32.reduceAdd, Int32.reduceSub, Int32.reduceMul, Int32.reduceToInt, Int32.reduceToNatClampNeg, Int.reduceLT, Int.reduceLE, Int.reduceNeg, true_and, and_true, or_self, or_false, false_or, false_and, and_false, true_or, or_true, if_true, if_false, ne_eq, Classical.not_not, not_true_eq_false, not_false_eq_true, true_implies, false_implies, implies_true, Nat.reduceEqDiff, Nat.reduceAdd, Nat.reduceLeDiff, Nat.reduceSub, reduceCtorEq, reduceIte, b26_28, skX s, skX s1, Nat.reduceLT]
    exact o1
theorem sp_defineForm {lv : Nat} (cc : CC N mt K p c1 c2 h0) (fb : FB N K p c1 c2 h0 g F) (ht : Tr (g + 1) N n b) (h6 : nK N n = 6) (hb : b ≤ N.1) (hn1 : 1 ≤ n) (hl : (pts N n).length = 3) (h5 : nK N (prt N n 1) = 5) (w : CW (9 * g + 9) (g + 1) z) (H : CH N K p c1 c2 h0 op z h) (hlv : 1 ≤ lv) (hlv2 : lv + g ≤ 32) (hd : 5 * g + 33 < d) (hq : ∀ h', CH N K p c1 c2 h0 op (cDf N F (prt N n 1) (prt N n 2) z) h' → Q none h') : aEv d 10 [.ref 39, .int (nI n), .int (nI lv)] h Q := by
  have h00 : 0 < d := by omega
  have nk := cc.2.2.2.2.1
  have hNm := nk.2.2
  obtain ⟨t1, t2, hn⟩ := tl_n ht h6 hb hNm
  have p1 := prt_get (N := N) (n := n) (k := 1) (by omega)
  have p2 := prt_get (N := N) (n := n) (k := 2) (by omega)
  obtain ⟨a1, a2, a3, m1, a4, a5⟩ := tl_get t2 p1
  obtain ⟨b1, b2, b3, m2, b4, b5⟩ := tl_get t2 p2
  rw [oI_g p2] at a3
  generalize prt N n 1 = u at *
  generalize prt N n 2 = v at *
  obtain ⟨j, hj, ej, ej2, hj3⟩ := nok_name nk a2 a1 h5
  have hjK : j < K.length := cc.2.2.2.1.1.2.2.2.2.2.1.2.2 j hj
  have hK : K.length ≤ 3000 := cc.2.2.2.1.1.1.2
  have hgl := cc.2.2.2.2.2.1.2.2
  have s := H.1.1.1.1
  have r := cc_rd cc H.1
  have z30 : (30 : Int32) = nI 30 := rfl
  have z100 : (100 : Int32) = nI 100 := rfl
  unfold cDf at hq
  rw [ej2] at hq
  dsimp only at hq
  have rest : ∀ (z0 : CR) (h1 : Hp), z0 = (if j < 30 then cTl 5 (nQ N u) z else if 100 ≤ (gdf N).idxOf j ∧ j ∈ gdf N then cTl 6 (nQ N u) z else z) → CH N K p c1 c2 h0 op z0 h1 → CW (9 * g + 9) (g + 1) z0 → aWP d 10 53 [(4, .int (nI j)), (3, .int (nI u)), (0, .ref 39), (1, .int (nI n)), (2, .int (nI lv))] [] h1 Q := by
    intro z0 h1 e0 H1 w1
    rw [← e0] at hq
    have s1 := H1.1.1.1.1
    have r1 := cc_rd cc H1.1
    have w1' : CW (9 * g + 9) g z0 := cw_g w1 (Nat.le_succ g)
    obtain ⟨w2, gm, dp1, sc1, bd1⟩ := cw_F (D := 9 * g + 8) (la := false) fb hNm b4 b5 w1' (by omega)
    simp only [lv_args, z_v, z_lg, z_h, z_u, z_u1, z_c, z_ct, z_sk, sbne, lst1_d, ldel, lst2_d, ldel2, z_sw, z_rok, zi, eq_self, List.map_cons, List.map_nil, List.append_nil, List.nil_append, List.cons_append, Int32.reduceLT, Int32.reduceLE, Int32.reduceAdd, Int32.reduceSub, Int32.reduceMul, Int32.reduceToInt, Int32.reduceToNatClampNeg, Int.reduceLT, Int.reduceLE, Int.reduceNeg, true_and, and_true, or_self, or_false, false_or, false_and, and_false, true_or, or_true, if_true, if_false, ne_eq, Classical.not_not, not_true_eq_false, not_false_eq_true, true_implies, false_implies, implies_true, Nat.reduceEqDiff, Nat.reduceAdd, Nat.reduceLeDiff, Nat.reduceSub, reduceCtorEq, reduceIte, b10_53, skX s1, srX s1, h00, Nat.reduceLT, rd_x s1 r1 a1, a3]
    refine fb.2.2 v m2 lv false z0 h1 _ _ op b4 b5 b2 (cw_wk w1' (by omega)) H1 hlv hlv2 (by omega) (fun h2 H2 => ?_)
    generalize F v false z0 = z2 at *
    have s2 := H2.1.1.1.1
    have da := H2.1.2.2.1
    have e46 := da.2 j hjK
    have c46 : (j < hN h2 46) = True := eq_true (by have := da.1; omega)
    have b46 := (H2.1.1.1.2.2.2.2 46 (by decide)).2
    have y46 : cpR 46 = 3100 := rfl
    simp only [lv_args, z_v, z_lg, z_h, z_u, z_u1, z_c, z_ct, z_sk, sbne, lst1_d, ldel, lst2_d, ldel2, z_sw, z_rok, zi, eq_self, List.map_cons, List.map_nil, List.append_nil, List.nil_append, List.cons_append, Int32.reduceLT, Int32.reduceLE, Int32.reduceAdd, Int32.reduceSub, Int32.reduceMul, Int32.reduceToInt, Int32.reduceToNatClampNeg, Int.reduceLT, Int.reduceLE, Int.reduceNeg, true_and, and_true, or_self, or_false, false_or, false_and, and_false, true_or, or_true, if_true, if_false, ne_eq, Classical.not_not, not_true_eq_false, not_false_eq_true, true_implies, false_implies, implies_true, Nat.reduceEqDiff, Nat.reduceAdd, Nat.reduceLeDiff, Nat.reduceSub, reduceCtorEq, reduceIte, b10_53, skX s1, skX s2, srX s2, h00, Nat.reduceLT]
    refine sp_dnum s2 da hjK (by omega) ?_
    simp only [lv_args, z_v, z_lg, z_h, z_u, z_u1, z_c, z_ct, z_sk, sbne, lst1_d, ldel, lst2_d, ldel2, z_sw, z_rok, zi, eq_self, List.map_cons, List.map_nil, List.append_nil, List.nil_append, List.cons_append, Int32.reduceLT, Int32.reduceLE, Int32.reduceAdd, Int32.reduceSub, Int32.reduceMul, Int32.reduceToInt, Int32.reduceToNatClampNeg, Int.reduceLT, Int.reduceLE, Int.reduceNeg, true_and, and_true, or_self, or_false, false_or, false_and, and_false, true_or, or_true, if_true, if_false, ne_eq, Classical.not_not, not_true_eq_false, not_false_eq_true, true_implies, false_implies, implies_true, Nat.reduceEqDiff, Nat.reduceAdd, Nat.reduceLeDiff, Nat.reduceSub, reduceCtorEq, reduceIte, b10_53, skX s2, srX s2, h00, Nat.reduceLT]
    refine sp_emit (o := 24) (v := dA N j) (dp := rDp z2) cc H2 (fun G => by
      have := w2.2.2.2 G.1
      exact ⟨rfl, rfl, Int32.add_zero _, by omega, by omega⟩) (by omega) (fun x h3 H3 _ => ?_)
    have s3 := H3.1.1.1.1
    simp only [lv_args, z_v, z_lg, z_h, z_u, z_u1, z_c, z_ct, z_sk, sbne, lst1_d, ldel, lst2_d, ldel2, z_sw, z_rok, zi, eq_self, List.map_cons, List.map_nil, List.append_nil, List.nil_append, List.cons_append, Int32.reduceLT, Int32.reduceLE, Int32.reduceAdd, Int32.reduceSub, Int32.reduceMul, Int32.reduceToInt, Int32.reduceToNatClampNeg, Int.reduceLT, Int.reduceLE, Int.reduceNeg, true_and, and_true, or_self, or_false, false_or, false_and, and_false, true_or, or_true, if_true, if_false, ne_eq, Classical.not_not, not_true_eq_false, not_false_eq_true, true_implies, false_implies, implies_true, Nat.reduceEqDiff, Nat.reduceAdd, Nat.reduceLeDiff, Nat.reduceSub, reduceCtorEq, reduceIte, b10_53, skX s2, skX s3, Nat.reduceLT]
    exact hq h3 H3
  unfold aEv
  simp only [lv_args, z_v, z_lg, z_h, z_u, z_u1, z_c, z_ct, z_sk, sbne, lst1_d, ldel, lst2_d, ldel2, z_sw, z_rok, zi, eq_self, List.map_cons, List.map_nil, List.append_nil, List.nil_append, List.cons_append, Int32.reduceLT, Int32.reduceLE, Int32.reduceAdd, Int32.reduceSub, Int32.reduceMul, Int32.reduceToInt, Int32.reduceToNatClampNeg, Int.reduceLT, Int.reduceLE, Int.reduceNeg, true_and, and_true, or_self, or_false, false_or, false_and, and_false, true_or, or_true, if_true, if_false, ne_eq, Classical.not_not, not_true_eq_false, not_false_eq_true, true_implies, false_implies, implies_true, Nat.reduceEqDiff, Nat.reduceAdd, Nat.reduceLeDiff, Nat.reduceSub, reduceCtorEq, reduceIte, b10_0, skX s, srX s, h00, rd_2 s r ht h6 hb hNm (by omega : 0 < d - 1), oI_g p1, rd_c s r a1, ej, z30, Nat.reduceLT]
  simp (disch := omega) only [nI_leN]
  refine ⟨fun c => ?_, fun c => ?_⟩
  · rw [if_neg (by omega)] at rest
    have da := H.1.2.2.1
    have e46 := da.2 j hjK
    have c46 : (j < hN h 46) = True := eq_true (by have := da.1; omega)
    have ed : (dA N j < 100) = ¬ (100 ≤ (gdf N).idxOf j ∧ j ∈ gdf N) := by
      unfold dA
      by_cases cm : j ∈ gdf N
      · have := List.idxOf_lt_length_iff.mpr cm
        rw [if_pos cm, z100, nI_ltN (by omega) (by omega)]
        exact propext ⟨fun a c => by omega, fun c => Nat.lt_of_not_le (fun w => c ⟨w, cm⟩)⟩
      · rw [if_neg cm]
        exact propext ⟨fun _ c => cm c.2, fun _ => by decide⟩
    have b46 := (H.1.1.1.2.2.2.2 46 (by decide)).2
    have y46 : cpR 46 = 3100 := rfl
    simp only [lv_args, z_v, z_lg, z_h, z_u, z_u1, z_c, z_ct, z_sk, sbne, lst1_d, ldel, lst2_d, ldel2, z_sw, z_rok, zi, eq_self, List.map_cons, List.map_nil, List.append_nil, List.nil_append, List.cons_append, Int32.reduceLT, Int32.reduceLE, Int32.reduceAdd, Int32.reduceSub, Int32.reduceMul, Int32.reduceToInt, Int32.reduceToNatClampNeg, Int.reduceLT, Int.reduceLE, Int.reduceNeg, true_and, and_true, or_self, or_false, false_or, false_and, and_false, true_or, or_true, if_true, if_false, ne_eq, Classical.not_not, not_true_eq_false, not_false_eq_true, true_implies, false_implies, implies_true, Nat.reduceEqDiff, Nat.reduceAdd, Nat.reduceLeDiff, Nat.reduceSub, reduceCtorEq, reduceIte, b10_35, skX s, h00]
    refine sp_dnum s da hjK (by omega) ?_
    simp only [lv_args, z_v, z_lg, z_h, z_u, z_u1, z_c, z_ct, z_sk, sbne, lst1_d, ldel, lst2_d, ldel2, z_sw, z_rok, zi, eq_self, List.map_cons, List.map_nil, List.append_nil, List.nil_append, List.cons_append, Int32.reduceLT, Int32.reduceLE, Int32.reduceAdd, Int32.reduceSub, Int32.reduceMul, Int32.reduceToInt, Int32.reduceToNatClampNeg, Int.reduceLT, Int.reduceLE, Int.reduceNeg, true_and, and_true, or_self, or_false, false_or, false_and, and_false, true_or, or_true, if_true, if_false, ne_eq, Classical.not_not, not_true_eq_false, not_false_eq_true, true_implies, false_implies, implies_true, Nat.reduceEqDiff, Nat.reduceAdd, Nat.reduceLeDiff, Nat.reduceSub, reduceCtorEq, reduceIte, b10_35, skX s, ed, Nat.reduceLT]
    refine ⟨fun c2 => ?_, fun c2 => ?_⟩
    · rw [if_neg c2] at rest
      exact rest z h rfl H w
    · first | rw [if_pos c2] at rest | rw [if_pos (Classical.not_not.mp c2)] at rest
      simp only [lv_args, z_v, z_lg, z_h, z_u, z_u1, z_c, z_ct, z_sk, sbne, lst1_d, ldel, lst2_d, ldel2, z_sw, z_rok, zi, eq_self, List.map_cons, List.map_nil, List.append_nil, List.nil_append, List.cons_append, Int32.reduceLT, Int32.reduceLE, Int32.reduceAdd, Int32.reduceSub, Int32.reduceMul, Int32.reduceToInt, Int32.reduceToNatClampNeg, Int.reduceLT, Int.reduceLE, Int.reduceNeg, true_and, and_true, or_self, or_false, false_or, false_and, and_false, true_or, or_true, if_true, if_false, ne_eq, Classical.not_not, not_true_eq_false, not_false_eq_true, true_implies, false_implies, implies_true, Nat.reduceEqDiff, Nat.reduceAdd, Nat.reduceLeDiff, Nat.reduceSub, reduceCtorEq, reduceIte, b10_46, skX s, h00]
      refine sp_ctell (k := 6) cc H.1 rfl (by decide) a2 a1 (by omega) (fun h1 H1 => ?_)
      have s1 := H1.1.1.1.1
      have o1 := rest _ h1 rfl H1 (cw_Tl w)
      simp only [lv_args, z_v, z_lg, z_h, z_u, z_u1, z_c, z_ct, z_sk, sbne, lst1_d, ldel, lst2_d, ldel2, z_sw, z_rok, zi, eq_self, List.map_cons, List.map_nil, List.append_nil, List.nil_append, List.cons_append, Int32.reduceLT, Int32.reduceLE, Int32.reduceAdd, Int32.reduceSub, Int32.reduceMul, Int32.reduceToInt, Int32.reduceToNatClampNeg, Int.reduceLT, Int.reduceLE, Int.reduceNeg, true_and, and_true, or_self, or_false, false_or, false_and, and_false, true_or, or_true, if_true, if_false, ne_eq, Classical.not_not, not_true_eq_false, not_false_eq_true, true_implies, false_implies, implies_true, Nat.reduceEqDiff, Nat.reduceAdd, Nat.reduceLeDiff, Nat.reduceSub, reduceCtorEq, reduceIte, b10_46, skX s, skX s1, Nat.reduceLT]
      exact o1
  · rw [if_pos (by omega)] at rest
    simp only [lv_args, z_v, z_lg, z_h, z_u, z_u1, z_c, z_ct, z_sk, sbne, lst1_d, ldel, lst2_d, ldel2, z_sw, z_rok, zi, eq_self, List.map_cons, List.map_nil, List.append_nil, List.nil_append, List.cons_append, Int32.reduceLT, Int32.reduceLE, Int32.reduceAdd, Int32.reduceSub, Int32.reduceMul, Int32.reduceToInt, Int32.reduceToNatClampNeg, Int.reduceLT, Int.reduceLE, Int.reduceNeg, true_and, and_true, or_self, or_false, false_or, false_and, and_false, true_or, or_true, if_true, if_false, ne_eq, Classical.not_not, not_true_eq_false, not_false_eq_true, true_implies, false_implies, implies_true, Nat.reduceEqDiff, Nat.reduceAdd, Nat.reduceLeDiff, Nat.reduceSub, reduceCtorEq, reduceIte, b10_26, skX s, h00]
    refine sp_ctell (k := 5) cc H.1 rfl (by decide) a2 a1 (by omega) (fun h1 H1 => ?_)
    have s1 := H1.1.1.1.1
    have o1 := rest _ h1 rfl H1 (cw_Tl w)
    simp only [lv_args, z_v, z_lg, z_h, z_u, z_u1, z_c, z_ct, z_sk, sbne, lst1_d, ldel, lst2_d, ldel2, z_sw, z_rok, zi, eq_self, List.map_cons, List.map_nil, List.append_nil, List.nil_append, List.cons_append, Int32.reduceLT, Int32.reduceLE, Int32.reduceAdd, Int32.reduceSub, Int32.reduceMul, Int32.reduceToInt, Int32.reduceToNatClampNeg, Int.reduceLT, Int.reduceLE, Int.reduceNeg, true_and, and_true, or_self, or_false, false_or, false_and, and_false, true_or, or_true, if_true, if_false, ne_eq, Classical.not_not, not_true_eq_false, not_false_eq_true, true_implies, false_implies, implies_true, Nat.reduceEqDiff, Nat.reduceAdd, Nat.reduceLeDiff, Nat.reduceSub, reduceCtorEq, reduceIte, b10_26, skX s, skX s1, Nat.reduceLT]
    exact o1
theorem sp_quoteForm {lv : Nat} {la : Bool} (cc : CC N mt K p c1 c2 h0) (ht : Tr (g + 1) N n b) (h6 : nK N n = 6) (hb : b ≤ N.1) (hn1 : 1 ≤ n) (hl : (pts N n).length = 2) (hg : g ≤ 31) (w : CW (9 * g + 9) (g + 1) z) (H : CH N K p c1 c2 h0 op z h) (hlv2 : lv + g ≤ 32) (hd : 5 * g + 33 < d) (hq : ∀ h', CH N K p c1 c2 h0 op (cQt N mt 40 la (prt N n 1) z) h' → Q none h') : aEv d 25 [.ref 39, .int (nI n), .int (bI la), .int (nI lv)] h Q := by
  have h00 : 0 < d := by omega
  have nk := cc.2.2.2.2.1
  have hNm := nk.2.2
  obtain ⟨t1, t2, hn⟩ := tl_n ht h6 hb hNm
  have p1 := prt_get (N := N) (n := n) (k := 1) (by omega)
  obtain ⟨a1, a2, a3, m1, a4, a5⟩ := tl_get t2 p1
  generalize prt N n 1 = u at *
  have s := H.1.1.1.1
  have r := cc_rd cc H.1
  have hz : gd c1 c2 (cDt (cDm N mt 40 u (rDt z)).2 z) → rDp z + 1 < 1000000 ∧ rDx z < 1000000 := fun G => by
    have := w.2.2.2 G.1
    omega
  unfold aEv
  simp only [lv_args, z_v, z_lg, z_h, z_u, z_u1, z_c, z_ct, z_sk, sbne, lst1_d, ldel, lst2_d, ldel2, z_sw, z_rok, zi, eq_self, List.map_cons, List.map_nil, List.append_nil, List.nil_append, List.cons_append, Int32.reduceLT, Int32.reduceLE, Int32.reduceAdd, Int32.reduceSub, Int32.reduceMul, Int32.reduceToInt, Int32.reduceToNatClampNeg, Int.reduceLT, Int.reduceLE, Int.reduceNeg, true_and, and_true, or_self, or_false, false_or, false_and, and_false, true_or, or_true, if_true, if_false, ne_eq, Classical.not_not, not_true_eq_false, not_false_eq_true, true_implies, false_implies, implies_true, Nat.reduceEqDiff, Nat.reduceAdd, Nat.reduceLeDiff, Nat.reduceSub, reduceCtorEq, reduceIte, b25_0, skX s, srX s, h00, rd_2 s r ht h6 hb hNm (by omega : 0 < d - 1), oI_g p1, Nat.reduceLT]
  refine sp_datum cc 40 g u m1 lv z h _ _ (by omega) a4 a5 a2 (by omega) H (by omega) (fun v h1 H1 hv => ?_)
  have s1 := H1.1.1.1.1
  simp only [lv_args, z_v, z_lg, z_h, z_u, z_u1, z_c, z_ct, z_sk, sbne, lst1_d, ldel, lst2_d, ldel2, z_sw, z_rok, zi, eq_self, List.map_cons, List.map_nil, List.append_nil, List.nil_append, List.cons_append, Int32.reduceLT, Int32.reduceLE, Int32.reduceAdd, Int32.reduceSub, Int32.reduceMul, Int32.reduceToInt, Int32.reduceToNatClampNeg, Int.reduceLT, Int.reduceLE, Int.reduceNeg, true_and, and_true, or_self, or_false, false_or, false_and, and_false, true_or, or_true, if_true, if_false, ne_eq, Classical.not_not, not_true_eq_false, not_false_eq_true, true_implies, false_implies, implies_true, Nat.reduceEqDiff, Nat.reduceAdd, Nat.reduceLeDiff, Nat.reduceSub, reduceCtorEq, reduceIte, b25_0, skX s, skX s1, h00, Nat.reduceLT, e156, e155]
  refine sp_emit (o := vkd (cDm N mt 40 u (rDt z)).1) (v := (cDm N mt 40 u (rDt z)).1.toInt32) (dp := rDp z + 1) cc H1 (fun G => by
    have G1 := (gd_E G).1
    rw [hv G1]
    exact ⟨rfl, rfl, nI_s _, hz G1⟩) (by omega) (fun x h2 H2 _ => ?_)
  have s2 := H2.1.1.1.1
  simp only [lv_args, z_v, z_lg, z_h, z_u, z_u1, z_c, z_ct, z_sk, sbne, lst1_d, ldel, lst2_d, ldel2, z_sw, z_rok, zi, eq_self, List.map_cons, List.map_nil, List.append_nil, List.nil_append, List.cons_append, Int32.reduceLT, Int32.reduceLE, Int32.reduceAdd, Int32.reduceSub, Int32.reduceMul, Int32.reduceToInt, Int32.reduceToNatClampNeg, Int.reduceLT, Int.reduceLE, Int.reduceNeg, true_and, and_true, or_self, or_false, false_or, false_and, and_false, true_or, or_true, if_true, if_false, ne_eq, Classical.not_not, not_true_eq_false, not_false_eq_true, true_implies, false_implies, implies_true, Nat.reduceEqDiff, Nat.reduceAdd, Nat.reduceLeDiff, Nat.reduceSub, reduceCtorEq, reduceIte, b25_0, skX s1, skX s2, h00, Nat.reduceLT]
  refine sp_gb cc H2 (fun G => by
    have := hz (gd_E G).1
    refine ⟨this.1, ?_⟩
    show max (rDx z) (rDp z + 1) < 1000000
    omega) (by omega) (fun h3 H3 => ?_)
  have s3 := H3.1.1.1.1
  simp only [lv_args, z_v, z_lg, z_h, z_u, z_u1, z_c, z_ct, z_sk, sbne, lst1_d, ldel, lst2_d, ldel2, z_sw, z_rok, zi, eq_self, List.map_cons, List.map_nil, List.append_nil, List.nil_append, List.cons_append, Int32.reduceLT, Int32.reduceLE, Int32.reduceAdd, Int32.reduceSub, Int32.reduceMul, Int32.reduceToInt, Int32.reduceToNatClampNeg, Int.reduceLT, Int.reduceLE, Int.reduceNeg, true_and, and_true, or_self, or_false, false_or, false_and, and_false, true_or, or_true, if_true, if_false, ne_eq, Classical.not_not, not_true_eq_false, not_false_eq_true, true_implies, false_implies, implies_true, Nat.reduceEqDiff, Nat.reduceAdd, Nat.reduceLeDiff, Nat.reduceSub, reduceCtorEq, reduceIte, b25_0, skX s2, skX s3, Nat.reduceLT]
  exact hq h3 H3
end CRS
