/-! BUILD. Forms: if, and, or -/
section CF2
variable {h h' h0 : Hp} {Q : Option Value → Hp → Prop} {d p c1 c2 n g b : Nat} {N : NS} {mt op : List Nat} {K : List KY} {z : CR} {F : Nat → Bool → CR → CR}
theorem oI_g {l : List Nat} {k c : Nat} (h : l[k]? = some c) : oI (l[k]?) = nI c := by rw [h]; rfl
theorem gd_Ld {x : Nat} (G : gd c1 c2 (cLd x z)) : gd c1 c2 z := ⟨G.1, by have := G.2.1; rw [cd_Ld] at this; exact this, G.2.2⟩
theorem sp_landN (hp : p = 19 ∨ p = 29) (s : Sk h) (hq : Q (some (.int (-1))) h) : aEv d 102 [.ref p, .int (-1)] h Q := by
  have cm : ((-1 : Int32) < 0) := by decide
  rcases hp with rfl | rfl
  · rw [e102_19 _ _ s]
    exact ⟨fun _ => hq, fun c => absurd cm c⟩
  · rw [e102_29 _ _ s]
    exact ⟨fun _ => hq, fun c => absurd cm c⟩
theorem sp_ifForm {lv : Nat} {la : Bool} (cc : CC N mt K p c1 c2 h0) (fb : FB N K p c1 c2 h0 g F) (ht : Tr (g + 1) N n b) (h6 : nK N n = 6) (hb : b ≤ N.1) (hn1 : 1 ≤ n) (hps : (pts N n).length = 4) (w : CW (9 * g + 9) g z) (H : CH N K p c1 c2 h0 op z h) (hlv : 1 ≤ lv) (hlv2 : lv + g ≤ 32) (hd : 5 * g + 32 < d) (hq : ∀ h', CH N K p c1 c2 h0 op (cIf F la (prt N n 1) (prt N n 2) (prt N n 3) z) h' → Q none h') : aEv d 16 [.ref 39, .int (nI n), .int (bI la), .int (nI lv)] h Q := by
  have h00 : 0 < d := by omega
  have hNm := cc.2.2.2.2.1.2.2
  obtain ⟨t1, t2, hn⟩ := tl_n ht h6 hb hNm
  have p1 := prt_get (N := N) (n := n) (k := 1) (by omega)
  have p2 := prt_get (N := N) (n := n) (k := 2) (by omega)
  have p3 := prt_get (N := N) (n := n) (k := 3) (by omega)
  obtain ⟨a1, a2, a3, m1, a4, a5⟩ := tl_get t2 p1
  obtain ⟨b1, b2, b3, m2, b4, b5⟩ := tl_get t2 p2
  obtain ⟨d1, d2, d3, m3, d4, d5⟩ := tl_get t2 p3
  rw [oI_g p2] at a3
  rw [oI_g p3] at b3
  generalize prt N n 1 = u at *
  generalize prt N n 2 = v at *
  generalize prt N n 3 = x at *
  have s := H.1.1.1.1
  have r := cc_rd cc H.1
  have eb0 : bI false = 0 := rfl
  have eb1 : bI true = 1 := rfl
  have z10 : ¬ (1 : Int32) = 0 := by decide
  -- the states
  obtain ⟨w1, gm1, dp1, sc1, bd1⟩ := cw_F (D := 9 * g + 8) (la := false) fb hNm a4 a5 w (by omega)
  have w2 : CW (9 * g + 9) g (cE 27 0 (rDp (F u false z) - 1) (F u false z)) := cw_E w1 (fun hn => by
    have x1 := dp1 hn
    have x2 := w.2.2.2 x1.1
    omega)
  obtain ⟨w3, gm3, dp3, sc3, bd3⟩ := cw_F (D := 9 * g + 8) (la := la) fb hNm b4 b5 w2 (by omega)
  have E3 := (fb.1 v m2 la _ ⟨b4, by omega⟩ w2.1).2.2.2
  have pf3 : gd c1 c2 (F v la (cE 27 0 (rDp (F u false z) - 1) (F u false z))) → (rCd (F u false z)).length < (rCd (F v la (cE 27 0 (rDp (F u false z) - 1) (F u false z)))).length := fun G => by
    have := (E3.1.2 G.1).1.1.length_le
    rw [cd_E] at this
    omega
  have depth3 : rFl (F v la (cE 27 0 (rDp (F u false z) - 1) (F u false z))) = none → rDp (F v la (cE 27 0 (rDp (F u false z) - 1) (F u false z))) = rDp z + 1 := fun hn => by
    have x1 := dp3 hn
    have x2 : rFl (F u false z) = none := x1.1
    have x3 := dp1 x2
    have x4 : rDp (cE 27 0 (rDp (F u false z) - 1) (F u false z)) = rDp (F u false z) - 1 := rfl
    omega
  unfold aEv
  simp only [lv_args, z_v, z_lg, z_h, z_u, z_u1, z_c, z_ct, z_sk, sbne, lst1_d, ldel, lst2_d, ldel2, z_sw, z_rok, zi, eq_self, List.map_cons, List.map_nil, List.append_nil, List.nil_append, List.cons_append, Int32.reduceLT, Int32.reduceLE, Int32.reduceAdd, Int32.reduceSub, Int32.reduceMul, Int32.reduceToInt, Int32.reduceToNatClampNeg, Int.reduceLT, Int.reduceLE, Int.reduceNeg, true_and, and_true, or_self, or_false, false_or, false_and, and_false, true_or, or_true, if_true, if_false, ne_eq, Classical.not_not, not_true_eq_false, not_false_eq_true, true_implies, false_implies, implies_true, Nat.reduceEqDiff, Nat.reduceAdd, Nat.reduceLeDiff, Nat.reduceSub, reduceCtorEq, reduceIte, b16_0, skX s, srX s, h00, rd_2 s r ht h6 hb hNm (by omega : 0 < d - 1), oI_g p1, rd_x s r a1, a3, Nat.reduceLT]
  refine fb.2.2 u m1 lv false z h _ _ op a4 a5 a2 (cw_wk w (by omega)) H hlv hlv2 (by omega) (fun h1 H1 => ?_)
  have s1 := H1.1.1.1.1
  simp only [lv_args, z_v, z_lg, z_h, z_u, z_u1, z_c, z_ct, z_sk, sbne, lst1_d, ldel, lst2_d, ldel2, z_sw, z_rok, zi, eq_self, List.map_cons, List.map_nil, List.append_nil, List.nil_append, List.cons_append, Int32.reduceLT, Int32.reduceLE, Int32.reduceAdd, Int32.reduceSub, Int32.reduceMul, Int32.reduceToInt, Int32.reduceToNatClampNeg, Int.reduceLT, Int.reduceLE, Int.reduceNeg, true_and, and_true, or_self, or_false, false_or, false_and, and_false, true_or, or_true, if_true, if_false, ne_eq, Classical.not_not, not_true_eq_false, not_false_eq_true, true_implies, false_implies, implies_true, Nat.reduceEqDiff, Nat.reduceAdd, Nat.reduceLeDiff, Nat.reduceSub, reduceCtorEq, reduceIte, b16_0, skX s, skX s1, h00, Nat.reduceLT]
  refine sp_emit (o := 27) (v := 0) (dp := rDp (F u false z) - 1) cc H1 (fun G => by
    have hn : rFl (F u false z) = none := G.1
    have x1 := dp1 hn
    have x2 := w1.2.2.2 hn
    exact ⟨rfl, rfl, i32_m1 (by omega), by omega, by omega⟩) (by omega) (fun xe h2 H2 ex => ?_)
  have s2 := H2.1.1.1.1
  simp only [lv_args, z_v, z_lg, z_h, z_u, z_u1, z_c, z_ct, z_sk, sbne, lst1_d, ldel, lst2_d, ldel2, z_sw, z_rok, zi, eq_self, List.map_cons, List.map_nil, List.append_nil, List.nil_append, List.cons_append, Int32.reduceLT, Int32.reduceLE, Int32.reduceAdd, Int32.reduceSub, Int32.reduceMul, Int32.reduceToInt, Int32.reduceToNatClampNeg, Int.reduceLT, Int.reduceLE, Int.reduceNeg, true_and, and_true, or_self, or_false, false_or, false_and, and_false, true_or, or_true, if_true, if_false, ne_eq, Classical.not_not, not_true_eq_false, not_false_eq_true, true_implies, false_implies, implies_true, Nat.reduceEqDiff, Nat.reduceAdd, Nat.reduceLeDiff, Nat.reduceSub, reduceCtorEq, reduceIte, b16_0, skX s1, skX s2, h00, Nat.reduceLT]
  refine fb.2.2 v m2 lv la _ h2 _ _ op b4 b5 b2 (cw_wk w2 (by omega)) H2 hlv hlv2 (by omega) (fun h3 H3 => ?_)
  have s3 := H3.1.1.1.1
  have R3 := cc_R cc H3.1
  have kp : hK h3 p = 7 := by rcases cc.1 with rfl | rfl <;> exact s3.1 _ (by decide)
  generalize ez1 : F u false z = z1 at *
  generalize ez2 : F v la (cE 27 0 (rDp z1 - 1) z1) = z2 at *
  -- from the jump over the second value on
  have rest : ∀ (z3 : CR) (h4 : Hp) (xj : Int32), (z3 = if la then z2 else cE 26 0 (rDp z2) z2) → CH N K p c1 c2 h0 op z3 h4 → (la = false → gd c1 c2 z3 → xj = nI (rCd z2).length) → (la = true → xj = -1) → aWP d 16 63 [(6, .int xe), (5, .int (nI v)), (4, .int (nI u)), (0, .ref 39), (1, .int (nI n)), (2, .int (bI la)), (3, .int (nI lv))] [.int xj] h4 Q := by
    intro z3 h4 xj e3 H4 ej1 ej2
    have s4 := H4.1.1.1.1
    have R4 := cc_R cc H4.1
    have kp4 : hK h4 p = 7 := by rcases cc.1 with rfl | rfl <;> exact s4.1 _ (by decide)
    have g34 : gd c1 c2 z3 → gd c1 c2 z2 := fun G => by
      rw [e3] at G
      cases la with
      | true => exact G
      | false => exact (gd_E G).1
    have dz3 : rFl z3 = rFl z2 ∧ rDp z3 = rDp z2 ∧ rSc z3 = rSc z2 ∧ z3.2.1 = z2.2.1 ∧ rDx z3 ≤ max (rDx z2) (rDp z2) ∧ (rCd z2).length ≤ (rCd z3).length := by
      rw [e3]
      cases la with
      | true => exact ⟨rfl, rfl, rfl, rfl, Nat.le_max_left _ _, Nat.le_refl _⟩
      | false => exact ⟨rfl, rfl, rfl, rfl, Nat.le_refl _, by show _ ≤ (rCd (cE 26 0 (rDp z2) z2)).length; rw [cd_E]; omega⟩
    obtain ⟨y1, y2, y3, y4, y5, y6⟩ := dz3
    have H5 := ch_dp (dp := rDp z3 - 1) (v := hI h4 39 6 - 1) cc H4 (fun G => by
      rw [(H4.1.2.2.2.2.2.2 G).1, y2, depth3 (by rw [← y1]; exact G.1), nI_m1]; rfl)
    have w4 : CW (9 * g) g (cLd (rCd z1).length (cDp (rDp z3 - 1) z3)) := by
      refine ⟨?_, ?_, ?_, fun hn => ?_⟩
      · show KI z3.2.1
        rw [y4]; exact w3.1
      · show (rSc z3).length + 8 * g ≤ 248
        rw [y3]; exact w3.2.1
      · show z3.2.1.2.1 + g ≤ 31
        rw [y4]; exact w3.2.2.1
      · have hn : rFl z3 = none := hn
        rw [y1] at hn
        have y := w3.2.2.2 hn
        refine ⟨?_, ?_⟩
        · show rDp z3 - 1 + 9 * g ≤ 300
          omega
        · show rDx z3 ≤ 300
          omega
    simp only [lv_args, z_v, z_lg, z_h, z_u, z_u1, z_c, z_ct, z_sk, sbne, lst1_d, ldel, lst2_d, ldel2, z_sw, z_rok, zi, eq_self, List.map_cons, List.map_nil, List.append_nil, List.nil_append, List.cons_append, Int32.reduceLT, Int32.reduceLE, Int32.reduceAdd, Int32.reduceSub, Int32.reduceMul, Int32.reduceToInt, Int32.reduceToNatClampNeg, Int.reduceLT, Int.reduceLE, Int.reduceNeg, true_and, and_true, or_self, or_false, false_or, false_and, and_false, true_or, or_true, if_true, if_false, ne_eq, Classical.not_not, not_true_eq_false, not_false_eq_true, true_implies, false_implies, implies_true, Nat.reduceEqDiff, Nat.reduceAdd, Nat.reduceLeDiff, Nat.reduceSub, reduceCtorEq, reduceIte, b16_63, skX s4, srX s4, h00, R4, kp4]
    refine sp_land (x := (rCd z1).length) cc H5 (fun G => ?_) (fun r5 h5 H6 _ => ?_)
    · have G3 : gd c1 c2 z3 := G
      have G2 := g34 G3
      refine ⟨ex (gm3 G2), ?_⟩
      show _ < (rCd z3).length
      have := pf3 G2
      omega
    have s5 := H6.1.1.1.1
    have r5' := cc_rd cc H6.1
    simp only [lv_args, z_v, z_lg, z_h, z_u, z_u1, z_c, z_ct, z_sk, sbne, lst1_d, ldel, lst2_d, ldel2, z_sw, z_rok, zi, eq_self, List.map_cons, List.map_nil, List.append_nil, List.nil_append, List.cons_append, Int32.reduceLT, Int32.reduceLE, Int32.reduceAdd, Int32.reduceSub, Int32.reduceMul, Int32.reduceToInt, Int32.reduceToNatClampNeg, Int.reduceLT, Int.reduceLE, Int.reduceNeg, true_and, and_true, or_self, or_false, false_or, false_and, and_false, true_or, or_true, if_true, if_false, ne_eq, Classical.not_not, not_true_eq_false, not_false_eq_true, true_implies, false_implies, implies_true, Nat.reduceEqDiff, Nat.reduceAdd, Nat.reduceLeDiff, Nat.reduceSub, reduceCtorEq, reduceIte, b16_63, skX s4, skX s5, srX s5, h00, Nat.reduceLT, rd_x s5 r5' b1, b3]
    refine fb.2.2 x m3 lv la _ h5 _ _ op d4 d5 d2 w4 H6 hlv hlv2 (by omega) (fun h6 H7 => ?_)
    have s6 := H7.1.1.1.1
    have R6 := cc_R cc H7.1
    have kp6 : hK h6 p = 7 := by rcases cc.1 with rfl | rfl <;> exact s6.1 _ (by decide)
    simp only [lv_args, z_v, z_lg, z_h, z_u, z_u1, z_c, z_ct, z_sk, sbne, lst1_d, ldel, lst2_d, ldel2, z_sw, z_rok, zi, eq_self, List.map_cons, List.map_nil, List.append_nil, List.nil_append, List.cons_append, Int32.reduceLT, Int32.reduceLE, Int32.reduceAdd, Int32.reduceSub, Int32.reduceMul, Int32.reduceToInt, Int32.reduceToNatClampNeg, Int.reduceLT, Int.reduceLE, Int.reduceNeg, true_and, and_true, or_self, or_false, false_or, false_and, and_false, true_or, or_true, if_true, if_false, ne_eq, Classical.not_not, not_true_eq_false, not_false_eq_true, true_implies, false_implies, implies_true, Nat.reduceEqDiff, Nat.reduceAdd, Nat.reduceLeDiff, Nat.reduceSub, reduceCtorEq, reduceIte, b16_63, skX s5, skX s6, srX s6, h00, Nat.reduceLT, R6, kp6]
    have E7 := (fb.1 x m3 la _ ⟨d4, by omega⟩ w4.1).2.2.2
    cases la with
    | true =>
      rw [ej2 rfl]
      have e3 : z3 = z2 := e3
      refine sp_landN cc.1 s6 ?_
      simp only [lv_args, z_v, z_lg, z_h, z_u, z_u1, z_c, z_ct, z_sk, sbne, lst1_d, ldel, lst2_d, ldel2, z_sw, z_rok, zi, eq_self, List.map_cons, List.map_nil, List.append_nil, List.nil_append, List.cons_append, Int32.reduceLT, Int32.reduceLE, Int32.reduceAdd, Int32.reduceSub, Int32.reduceMul, Int32.reduceToInt, Int32.reduceToNatClampNeg, Int.reduceLT, Int.reduceLE, Int.reduceNeg, true_and, and_true, or_self, or_false, false_or, false_and, and_false, true_or, or_true, if_true, if_false, ne_eq, Classical.not_not, not_true_eq_false, not_false_eq_true, true_implies, false_implies, implies_true, Nat.reduceEqDiff, Nat.reduceAdd, Nat.reduceLeDiff, Nat.reduceSub, reduceCtorEq, reduceIte, b16_63, skX s6, Nat.reduceLT]
      refine hq h6 ?_
      unfold cIf
      simp only [ez1, ez2, if_true]
      rw [← e3]
      exact H7
    | false =>
      have e3 : z3 = cE 26 0 (rDp z2) z2 := e3
      refine sp_land (x := (rCd z2).length) cc H7 (fun G => ?_) (fun r7 h7 H8 _ => ?_)
      · have G5 : gd c1 c2 z3 := gd_Ld (gd_ef E7.1 G)
        refine ⟨ej1 rfl G5, ?_⟩
        have l1 := (E7.1.2 G.1).1.1.length_le
        have l2 : (rCd (cLd (rCd z1).length (cDp (rDp z3 - 1) z3))).length = (rCd z3).length := cd_Ld
        have l3 : (rCd z3).length = (rCd z2).length + 1 := by rw [e3]; exact cd_E
        omega
      have s7 := H8.1.1.1.1
      simp only [lv_args, z_v, z_lg, z_h, z_u, z_u1, z_c, z_ct, z_sk, sbne, lst1_d, ldel, lst2_d, ldel2, z_sw, z_rok, zi, eq_self, List.map_cons, List.map_nil, List.append_nil, List.nil_append, List.cons_append, Int32.reduceLT, Int32.reduceLE, Int32.reduceAdd, Int32.reduceSub, Int32.reduceMul, Int32.reduceToInt, Int32.reduceToNatClampNeg, Int.reduceLT, Int.reduceLE, Int.reduceNeg, true_and, and_true, or_self, or_false, false_or, false_and, and_false, true_or, or_true, if_true, if_false, ne_eq, Classical.not_not, not_true_eq_false, not_false_eq_true, true_implies, false_implies, implies_true, Nat.reduceEqDiff, Nat.reduceAdd, Nat.reduceLeDiff, Nat.reduceSub, reduceCtorEq, reduceIte, b16_63, skX s6, skX s7, Nat.reduceLT]
      refine hq h7 ?_
      unfold cIf
      simp only [ez1, ez2, Bool.false_eq_true, if_false]
      rw [← e3]
      exact H8
  cases la with
  | true =>
    simp only [lv_args, z_v, z_lg, z_h, z_u, z_u1, z_c, z_ct, z_sk, sbne, lst1_d, ldel, lst2_d, ldel2, z_sw, z_rok, zi, eq_self, List.map_cons, List.map_nil, List.append_nil, List.nil_append, List.cons_append, Int32.reduceLT, Int32.reduceLE, Int32.reduceAdd, Int32.reduceSub, Int32.reduceMul, Int32.reduceToInt, Int32.reduceToNatClampNeg, Int.reduceLT, Int.reduceLE, Int.reduceNeg, true_and, and_true, or_self, or_false, false_or, false_and, and_false, true_or, or_true, if_true, if_false, ne_eq, Classical.not_not, not_true_eq_false, not_false_eq_true, true_implies, false_implies, implies_true, Nat.reduceEqDiff, Nat.reduceAdd, Nat.reduceLeDiff, Nat.reduceSub, reduceCtorEq, reduceIte, b16_0, skX s2, skX s3, h00, Nat.reduceLT, eb1, z10]
    simp only [lv_args, z_v, z_lg, z_h, z_u, z_u1, z_c, z_ct, z_sk, sbne, lst1_d, ldel, lst2_d, ldel2, z_sw, z_rok, zi, eq_self, List.map_cons, List.map_nil, List.append_nil, List.nil_append, List.cons_append, Int32.reduceLT, Int32.reduceLE, Int32.reduceAdd, Int32.reduceSub, Int32.reduceMul, Int32.reduceToInt, Int32.reduceToNatClampNeg, Int.reduceLT, Int.reduceLE, Int.reduceNeg, true_and, and_true, or_self, or_false, false_or, false_and, and_false, true_or, or_true, if_true, if_false, ne_eq, Classical.not_not, not_true_eq_false, not_false_eq_true, true_implies, false_implies, implies_true, Nat.reduceEqDiff, Nat.reduceAdd, Nat.reduceLeDiff, Nat.reduceSub, reduceCtorEq, reduceIte, b16_51]
    exact rest z2 h3 (-1) rfl H3 (fun e => by cases e) (fun _ => rfl)
  | false =>
    simp only [lv_args, z_v, z_lg, z_h, z_u, z_u1, z_c, z_ct, z_sk, sbne, lst1_d, ldel, lst2_d, ldel2, z_sw, z_rok, zi, eq_self, List.map_cons, List.map_nil, List.append_nil, List.nil_append, List.cons_append, Int32.reduceLT, Int32.reduceLE, Int32.reduceAdd, Int32.reduceSub, Int32.reduceMul, Int32.reduceToInt, Int32.reduceToNatClampNeg, Int.reduceLT, Int.reduceLE, Int.reduceNeg, true_and, and_true, or_self, or_false, false_or, false_and, and_false, true_or, or_true, if_true, if_false, ne_eq, Classical.not_not, not_true_eq_false, not_false_eq_true, true_implies, false_implies, implies_true, Nat.reduceEqDiff, Nat.reduceAdd, Nat.reduceLeDiff, Nat.reduceSub, reduceCtorEq, reduceIte, b16_0, skX s2, skX s3, h00, Nat.reduceLT, eb0]
    simp only [lv_args, z_v, z_lg, z_h, z_u, z_u1, z_c, z_ct, z_sk, sbne, lst1_d, ldel, lst2_d, ldel2, z_sw, z_rok, zi, eq_self, List.map_cons, List.map_nil, List.append_nil, List.nil_append, List.cons_append, Int32.reduceLT, Int32.reduceLE, Int32.reduceAdd, Int32.reduceSub, Int32.reduceMul, Int32.reduceToInt, Int32.reduceToNatClampNeg, Int.reduceLT, Int.reduceLE, Int.reduceNeg, true_and, and_true, or_self, or_false, false_or, false_and, and_false, true_or, or_true, if_true, if_false, ne_eq, Classical.not_not, not_true_eq_false, not_false_eq_true, true_implies, false_implies, implies_true, Nat.reduceEqDiff, Nat.reduceAdd, Nat.reduceLeDiff, Nat.reduceSub, reduceCtorEq, reduceIte, b16_55, skX s3, h00]
    refine sp_emit (o := 26) (v := 0) (dp := rDp z2) cc H3 (fun G => by
      have y := w3.2.2.2 G.1
      exact ⟨rfl, rfl, Int32.add_zero _, by omega, by omega⟩) (by omega) (fun xj h4 H4 ej => ?_)
    have s4 := H4.1.1.1.1
    simp only [lv_args, z_v, z_lg, z_h, z_u, z_u1, z_c, z_ct, z_sk, sbne, lst1_d, ldel, lst2_d, ldel2, z_sw, z_rok, zi, eq_self, List.map_cons, List.map_nil, List.append_nil, List.nil_append, List.cons_append, Int32.reduceLT, Int32.reduceLE, Int32.reduceAdd, Int32.reduceSub, Int32.reduceMul, Int32.reduceToInt, Int32.reduceToNatClampNeg, Int.reduceLT, Int.reduceLE, Int.reduceNeg, true_and, and_true, or_self, or_false, false_or, false_and, and_false, true_or, or_true, if_true, if_false, ne_eq, Classical.not_not, not_true_eq_false, not_false_eq_true, true_implies, false_implies, implies_true, Nat.reduceEqDiff, Nat.reduceAdd, Nat.reduceLeDiff, Nat.reduceSub, reduceCtorEq, reduceIte, b16_55, skX s3, skX s4, Nat.reduceLT]
    exact rest _ h4 xj rfl H4 (fun _ G => ej G) (fun e => by cases e)
/-- the stops of an and, an or lead to one another -/
def Chx (cd : List (Int32 × Int32)) : List Nat → Prop
  | [] => True
  | x :: xs => x < cd.length ∧ (cd.getD x (0, 0)).2 = oI xs.head? ∧ (∀ y, y ∈ xs → y < x) ∧ Chx cd xs
theorem chx_pf {cd cd' : List (Int32 × Int32)} (hp : cd <+: cd') : ∀ {xs : List Nat}, Chx cd xs → Chx cd' xs
  | [], _ => trivial
  | x :: xs, ⟨a1, a2, a3, a4⟩ => by
    have hl := hp.length_le
    refine ⟨by omega, ?_, a3, chx_pf hp a4⟩
    obtain ⟨t, rfl⟩ := hp
    rw [List.getD_eq_getElem?_getD, List.getElem?_append_left a1, ← List.getD_eq_getElem?_getD]
    exact a2
theorem chx_ld {x : Nat} : ∀ {xs : List Nat}, (∀ y, y ∈ xs → y < x) → Chx (rCd z) xs → Chx (rCd (cLd x z)) xs
  | [], _, _ => trivial
  | y :: xs, hx, ⟨a1, a2, a3, a4⟩ => by
    have hy := hx y (by simp)
    refine ⟨by rw [cd_Ld]; exact a1, ?_, a3, chx_ld (fun w hw => hx w (List.mem_cons_of_mem _ hw)) a4⟩
    show (((rCd z).set x _).getD y (0, 0)).2 = _
    rw [List.getD_eq_getElem?_getD, List.getElem?_set_ne (by omega), ← List.getD_eq_getElem?_getD]
    exact a2
theorem chx_lt {cd : List (Int32 × Int32)} : ∀ {xs : List Nat}, Chx cd xs → ∀ y, y ∈ xs → y < cd.length
  | [], _, y, hy => by cases hy
  | x :: xs, ⟨a1, a2, a3, a4⟩, y, hy => by
    rcases List.mem_cons.mp hy with rfl | hy
    · exact a1
    · exact chx_lt a4 y hy
theorem sp_untilForm {lv : Nat} {la : Bool} {o : Int32} (cc : CC N mt K p c1 c2 h0) (fb : FB N K p c1 c2 h0 g F) (ht : Tr (g + 1) N n b) (h6 : nK N n = 6) (hb : b ≤ N.1) (hn1 : 1 ≤ n) (hps : 2 ≤ (pts N n).length) (w : CW (9 * g) g z) (H : CH N K p c1 c2 h0 op z h) (hlv : 1 ≤ lv) (hlv2 : lv + g ≤ 32) (hd : 5 * g + 32 < d) (hq : ∀ h', CH N K p c1 c2 h0 op (cUn2 F la o ((pts N n).drop 1) z) h' → Q none h') : aEv d 28 [.ref 39, .int (nI n), .int o, .int (bI la), .int (nI lv)] h Q := by
  have h00 : 0 < d := by omega
  have hNm := cc.2.2.2.2.1.2.2
  obtain ⟨t1, t2, hn⟩ := tl_n ht h6 hb hNm
  have hlen := tl_len t2
  obtain ⟨a0, t3⟩ := tl_drop 1 t2
  have eL : ((pts N n).drop 1).length = (pts N n).length - 1 := List.length_drop
  have ehd : ((pts N n).drop 1).head? = (pts N n)[1]? := hd_dr
  generalize hps' : (pts N n).drop 1 = ps at *
  have z10 : ¬ (1 : Int32) = 0 := by decide
  have e1 : (1 : Int32) = nI 1 := rfl
  have es : nI ps.length - 1 = nI (ps.length - 1) := by rw [e1, nI_sub (by omega)]
  have eb0 : bI false = 0 := rfl
  have eb1 : bI true = 1 := rfl
  -- the end
  have fin : ∀ (z : CR) (h : Hp) (y8 y7 y6 : Int32) (T : ALS), (T = [(7, .int y7), (6, .int y6)] ∨ T = [(6, .int y6), (7, .int y7)]) → CH N K p c1 c2 h0 op z h → (gd c1 c2 z → rDp z < 1000000 ∧ rDx z < 1000000) → (∀ h', CH N K p c1 c2 h0 op (cGb (la && decide (1 < ps.length)) z) h' → Q none h') → aWP d 28 111 ((8, .int y8) :: (T ++ [(5, .int (nI ps.length)), (0, .ref 39), (1, .int (nI n)), (2, .int o), (3, .int (bI la)), (4, .int (nI lv))])) [] h Q := by
    intro z h y8 y7 y6 T hT H hz q
    have s := H.1.1.1.1
    have gb : ∀ {Q' : Option Value → Hp → Prop}, (∀ h', CH N K p c1 c2 h0 op (cGb (la && decide (1 < ps.length)) z) h' → Q' none h') → aEv (d - 1) 14 [.ref 39, .int (bI (la && decide (1 < ps.length)))] h Q' := fun hq' => sp_gb cc H hz (by omega) hq'
    rcases hT with rfl | rfl
    all_goals
      simp only [List.nil_append, List.cons_append]
      cases la with
      | false =>
        have gb : ∀ {Q' : Option Value → Hp → Prop}, (∀ h', CH N K p c1 c2 h0 op (cGb (false && decide (1 < ps.length)) z) h' → Q' none h') → aEv (d - 1) 14 [.ref 39, .int 0] h Q' := gb
        simp only [lv_args, z_v, z_lg, z_h, z_u, z_u1, z_c, z_ct, z_sk, sbne, lst1_d, ldel, lst2_d, ldel2, z_sw, z_rok, zi, eq_self, List.map_cons, List.map_nil, List.append_nil, List.nil_append, List.cons_append, Int32.reduceLT, Int32.reduceLE, Int32.reduceAdd, Int32.reduceSub, Int32.reduceMul, Int32.reduceToInt, Int32.reduceToNatClampNeg, Int.reduceLT, Int.reduceLE, Int.reduceNeg, true_and, and_true, or_self, or_false, false_or, false_and, and_false, true_or, or_true, if_true, if_false, ne_eq, Classical.not_not, not_true_eq_false, not_false_eq_true, true_implies, false_implies, implies_true, Nat.reduceEqDiff, Nat.reduceAdd, Nat.reduceLeDiff, Nat.reduceSub, reduceCtorEq, reduceIte, b28_111, eb0]
        simp only [lv_args, z_v, z_lg, z_h, z_u, z_u1, z_c, z_ct, z_sk, sbne, lst1_d, ldel, lst2_d, ldel2, z_sw, z_rok, zi, eq_self, List.map_cons, List.map_nil, List.append_nil, List.nil_append, List.cons_append, Int32.reduceLT, Int32.reduceLE, Int32.reduceAdd, Int32.reduceSub, Int32.reduceMul, Int32.reduceToInt, Int32.reduceToNatClampNeg, Int.reduceLT, Int.reduceLE, Int.reduceNeg, true_and, and_true, or_self, or_false, false_or, false_and, and_false, true_or, or_true, if_true, if_false, ne_eq, Classical.not_not, not_true_eq_false, not_false_eq_true, true_implies, false_implies, implies_true, Nat.reduceEqDiff, Nat.reduceAdd, Nat.reduceLeDiff, Nat.reduceSub, reduceCtorEq, reduceIte, b28_126, b28_127, skX s, h00]
        refine gb (fun h1 H1 => ?_)
        have s1 := H1.1.1.1.1
        simp only [lv_args, z_v, z_lg, z_h, z_u, z_u1, z_c, z_ct, z_sk, sbne, lst1_d, ldel, lst2_d, ldel2, z_sw, z_rok, zi, eq_self, List.map_cons, List.map_nil, List.append_nil, List.nil_append, List.cons_append, Int32.reduceLT, Int32.reduceLE, Int32.reduceAdd, Int32.reduceSub, Int32.reduceMul, Int32.reduceToInt, Int32.reduceToNatClampNeg, Int.reduceLT, Int.reduceLE, Int.reduceNeg, true_and, and_true, or_self, or_false, false_or, false_and, and_false, true_or, or_true, if_true, if_false, ne_eq, Classical.not_not, not_true_eq_false, not_false_eq_true, true_implies, false_implies, implies_true, Nat.reduceEqDiff, Nat.reduceAdd, Nat.reduceLeDiff, Nat.reduceSub, reduceCtorEq, reduceIte, b28_127, skX s, skX s1, Nat.reduceLT]
        exact q h1 H1
      | true =>
        simp only [lv_args, z_v, z_lg, z_h, z_u, z_u1, z_c, z_ct, z_sk, sbne, lst1_d, ldel, lst2_d, ldel2, z_sw, z_rok, zi, eq_self, List.map_cons, List.map_nil, List.append_nil, List.nil_append, List.cons_append, Int32.reduceLT, Int32.reduceLE, Int32.reduceAdd, Int32.reduceSub, Int32.reduceMul, Int32.reduceToInt, Int32.reduceToNatClampNeg, Int.reduceLT, Int.reduceLE, Int.reduceNeg, true_and, and_true, or_self, or_false, false_or, false_and, and_false, true_or, or_true, if_true, if_false, ne_eq, Classical.not_not, not_true_eq_false, not_false_eq_true, true_implies, false_implies, implies_true, Nat.reduceEqDiff, Nat.reduceAdd, Nat.reduceLeDiff, Nat.reduceSub, reduceCtorEq, reduceIte, b28_111, eb1, z10]
        simp only [lv_args, z_v, z_lg, z_h, z_u, z_u1, z_c, z_ct, z_sk, sbne, lst1_d, ldel, lst2_d, ldel2, z_sw, z_rok, zi, eq_self, List.map_cons, List.map_nil, List.append_nil, List.nil_append, List.cons_append, Int32.reduceLT, Int32.reduceLE, Int32.reduceAdd, Int32.reduceSub, Int32.reduceMul, Int32.reduceToInt, Int32.reduceToNatClampNeg, Int.reduceLT, Int.reduceLE, Int.reduceNeg, true_and, and_true, or_self, or_false, false_or, false_and, and_false, true_or, or_true, if_true, if_false, ne_eq, Classical.not_not, not_true_eq_false, not_false_eq_true, true_implies, false_implies, implies_true, Nat.reduceEqDiff, Nat.reduceAdd, Nat.reduceLeDiff, Nat.reduceSub, reduceCtorEq, reduceIte, b28_116, e1]
        simp (disch := omega) only [nI_leN]
        refine ⟨fun c => ?_, fun c => ?_⟩
        · rw [decide_eq_false (by omega)] at gb q
          have gb : ∀ {Q' : Option Value → Hp → Prop}, (∀ h', CH N K p c1 c2 h0 op (cGb (true && false) z) h' → Q' none h') → aEv (d - 1) 14 [.ref 39, .int 0] h Q' := gb
          simp only [lv_args, z_v, z_lg, z_h, z_u, z_u1, z_c, z_ct, z_sk, sbne, lst1_d, ldel, lst2_d, ldel2, z_sw, z_rok, zi, eq_self, List.map_cons, List.map_nil, List.append_nil, List.nil_append, List.cons_append, Int32.reduceLT, Int32.reduceLE, Int32.reduceAdd, Int32.reduceSub, Int32.reduceMul, Int32.reduceToInt, Int32.reduceToNatClampNeg, Int.reduceLT, Int.reduceLE, Int.reduceNeg, true_and, and_true, or_self, or_false, false_or, false_and, and_false, true_or, or_true, if_true, if_false, ne_eq, Classical.not_not, not_true_eq_false, not_false_eq_true, true_implies, false_implies, implies_true, Nat.reduceEqDiff, Nat.reduceAdd, Nat.reduceLeDiff, Nat.reduceSub, reduceCtorEq, reduceIte, b28_126, b28_127, skX s, h00]
          refine gb (fun h1 H1 => ?_)
          have s1 := H1.1.1.1.1
          simp only [lv_args, z_v, z_lg, z_h, z_u, z_u1, z_c, z_ct, z_sk, sbne, lst1_d, ldel, lst2_d, ldel2, z_sw, z_rok, zi, eq_self, List.map_cons, List.map_nil, List.append_nil, List.nil_append, List.cons_append, Int32.reduceLT, Int32.reduceLE, Int32.reduceAdd, Int32.reduceSub, Int32.reduceMul, Int32.reduceToInt, Int32.reduceToNatClampNeg, Int.reduceLT, Int.reduceLE, Int.reduceNeg, true_and, and_true, or_self, or_false, false_or, false_and, and_false, true_or, or_true, if_true, if_false, ne_eq, Classical.not_not, not_true_eq_false, not_false_eq_true, true_implies, false_implies, implies_true, Nat.reduceEqDiff, Nat.reduceAdd, Nat.reduceLeDiff, Nat.reduceSub, reduceCtorEq, reduceIte, b28_127, skX s, skX s1, Nat.reduceLT]
          exact q h1 H1
        · rw [decide_eq_true (by omega)] at gb q
          have gb : ∀ {Q' : Option Value → Hp → Prop}, (∀ h', CH N K p c1 c2 h0 op (cGb (true && true) z) h' → Q' none h') → aEv (d - 1) 14 [.ref 39, .int 1] h Q' := gb
          simp only [lv_args, z_v, z_lg, z_h, z_u, z_u1, z_c, z_ct, z_sk, sbne, lst1_d, ldel, lst2_d, ldel2, z_sw, z_rok, zi, eq_self, List.map_cons, List.map_nil, List.append_nil, List.nil_append, List.cons_append, Int32.reduceLT, Int32.reduceLE, Int32.reduceAdd, Int32.reduceSub, Int32.reduceMul, Int32.reduceToInt, Int32.reduceToNatClampNeg, Int.reduceLT, Int.reduceLE, Int.reduceNeg, true_and, and_true, or_self, or_false, false_or, false_and, and_false, true_or, or_true, if_true, if_false, ne_eq, Classical.not_not, not_true_eq_false, not_false_eq_true, true_implies, false_implies, implies_true, Nat.reduceEqDiff, Nat.reduceAdd, Nat.reduceLeDiff, Nat.reduceSub, reduceCtorEq, reduceIte, b28_122, b28_127, skX s, h00]
          refine gb (fun h1 H1 => ?_)
          have s1 := H1.1.1.1.1
          simp only [lv_args, z_v, z_lg, z_h, z_u, z_u1, z_c, z_ct, z_sk, sbne, lst1_d, ldel, lst2_d, ldel2, z_sw, z_rok, zi, eq_self, List.map_cons, List.map_nil, List.append_nil, List.nil_append, List.cons_append, Int32.reduceLT, Int32.reduceLE, Int32.reduceAdd, Int32.reduceSub, Int32.reduceMul, Int32.reduceToInt, Int32.reduceToNatClampNeg, Int.reduceLT, Int.reduceLE, Int.reduceNeg, true_and, and_true, or_self, or_false, false_or, false_and, and_false, true_or, or_true, if_true, if_false, ne_eq, Classical.not_not, not_true_eq_false, not_false_eq_true, true_implies, false_implies, implies_true, Nat.reduceEqDiff, Nat.reduceAdd, Nat.reduceLeDiff, Nat.reduceSub, reduceCtorEq, reduceIte, b28_127, skX s, skX s1, Nat.reduceLT]
          exact q h1 H1
  have loop2 : ∀ (xs : List Nat) (j : Nat) (z : CR) (h : Hp) (sv : Int32) (y6 : Int32) (T : ALS), (T = [(7, .int sv), (6, .int y6)] ∨ T = [(6, .int y6), (7, .int sv)]) → (gd c1 c2 z → sv = oI xs.head?) → (rFl z = none → Chx (rCd z) xs) → j + xs.length + 1 = ps.length → CH N K p c1 c2 h0 op z h → (gd c1 c2 z → rDp z < 1000000 ∧ rDx z < 1000000) → (∀ h', CH N K p c1 c2 h0 op (cGb (la && decide (1 < ps.length)) (xs.foldl (fun z x => cLd x z) z)) h' → Q none h') → aWP d 28 85 ((8, .int (nI j)) :: (T ++ [(5, .int (nI ps.length)), (0, .ref 39), (1, .int (nI n)), (2, .int o), (3, .int (bI la)), (4, .int (nI lv))])) [] h Q := by
    intro xs
    induction xs with
    | nil =>
      intro j z h sv y6 T hT hs hc hj H hz q
      simp only [List.length_nil] at hj
      have go := fin z h (nI j) sv y6 T hT H hz q
      rcases hT with rfl | rfl
      all_goals
        simp only [List.nil_append, List.cons_append] at go ⊢
        simp only [lv_args, z_v, z_lg, z_h, z_u, z_u1, z_c, z_ct, z_sk, sbne, lst1_d, ldel, lst2_d, ldel2, z_sw, z_rok, zi, eq_self, List.map_cons, List.map_nil, List.append_nil, List.nil_append, List.cons_append, Int32.reduceLT, Int32.reduceLE, Int32.reduceAdd, Int32.reduceSub, Int32.reduceMul, Int32.reduceToInt, Int32.reduceToNatClampNeg, Int.reduceLT, Int.reduceLE, Int.reduceNeg, true_and, and_true, or_self, or_false, false_or, false_and, and_false, true_or, or_true, if_true, if_false, ne_eq, Classical.not_not, not_true_eq_false, not_false_eq_true, true_implies, false_implies, implies_true, Nat.reduceEqDiff, Nat.reduceAdd, Nat.reduceLeDiff, Nat.reduceSub, reduceCtorEq, reduceIte, b28_85, es]
        simp (disch := omega) only [nI_leN]
        exact ⟨fun _ => go, fun c => absurd (by omega) c⟩
    | cons x xs ih =>
      intro j z h sv y6 T hT hs hc hj H hz q
      simp only [List.length_cons] at hj
      have s := H.1.1.1.1
      have R := cc_R cc H.1
      have kp : hK h p = 7 := by rcases cc.1 with rfl | rfl <;> exact s.1 _ (by decide)
      rcases hT with rfl | rfl
      all_goals
        simp only [List.nil_append, List.cons_append]
        simp only [lv_args, z_v, z_lg, z_h, z_u, z_u1, z_c, z_ct, z_sk, sbne, lst1_d, ldel, lst2_d, ldel2, z_sw, z_rok, zi, eq_self, List.map_cons, List.map_nil, List.append_nil, List.nil_append, List.cons_append, Int32.reduceLT, Int32.reduceLE, Int32.reduceAdd, Int32.reduceSub, Int32.reduceMul, Int32.reduceToInt, Int32.reduceToNatClampNeg, Int.reduceLT, Int.reduceLE, Int.reduceNeg, true_and, and_true, or_self, or_false, false_or, false_and, and_false, true_or, or_true, if_true, if_false, ne_eq, Classical.not_not, not_true_eq_false, not_false_eq_true, true_implies, false_implies, implies_true, Nat.reduceEqDiff, Nat.reduceAdd, Nat.reduceLeDiff, Nat.reduceSub, reduceCtorEq, reduceIte, b28_85, es]
        simp (disch := omega) only [nI_leN]
        refine ⟨fun c => absurd c (by omega), fun _ => ?_⟩
        simp only [lv_args, z_v, z_lg, z_h, z_u, z_u1, z_c, z_ct, z_sk, sbne, lst1_d, ldel, lst2_d, ldel2, z_sw, z_rok, zi, eq_self, List.map_cons, List.map_nil, List.append_nil, List.nil_append, List.cons_append, Int32.reduceLT, Int32.reduceLE, Int32.reduceAdd, Int32.reduceSub, Int32.reduceMul, Int32.reduceToInt, Int32.reduceToNatClampNeg, Int.reduceLT, Int.reduceLE, Int.reduceNeg, true_and, and_true, or_self, or_false, false_or, false_and, and_false, true_or, or_true, if_true, if_false, ne_eq, Classical.not_not, not_true_eq_false, not_false_eq_true, true_implies, false_implies, implies_true, Nat.reduceEqDiff, Nat.reduceAdd, Nat.reduceLeDiff, Nat.reduceSub, reduceCtorEq, reduceIte, b28_94, skX s, srX s, h00, R, kp]
        refine sp_land (x := x) cc H (fun G => ⟨hs G, (hc G.1).1⟩) (fun r h1 H1 hr => ?_)
        have s1 := H1.1.1.1.1
        have nx := ih (j + 1) (cLd x z) h1 r y6 [(7, .int r), (6, .int y6)] (Or.inl rfl) (fun G => by rw [hr (gd_Ld G)]; exact (hc G.1).2.1) (fun hn => chx_ld (hc hn).2.2.1 (hc hn).2.2.2) (by omega) H1 (fun G => hz (gd_Ld G)) q
        simp only [lv_args, z_v, z_lg, z_h, z_u, z_u1, z_c, z_ct, z_sk, sbne, lst1_d, ldel, lst2_d, ldel2, z_sw, z_rok, zi, eq_self, List.map_cons, List.map_nil, List.append_nil, List.nil_append, List.cons_append, Int32.reduceLT, Int32.reduceLE, Int32.reduceAdd, Int32.reduceSub, Int32.reduceMul, Int32.reduceToInt, Int32.reduceToNatClampNeg, Int.reduceLT, Int.reduceLE, Int.reduceNeg, true_and, and_true, or_self, or_false, false_or, false_and, and_false, true_or, or_true, if_true, if_false, ne_eq, Classical.not_not, not_true_eq_false, not_false_eq_true, true_implies, false_implies, implies_true, Nat.reduceEqDiff, Nat.reduceAdd, Nat.reduceLeDiff, Nat.reduceSub, reduceCtorEq, reduceIte, b28_94, skX s, skX s1, Nat.reduceLT, nI_1]
        simp only [List.nil_append, List.cons_append] at nx
        exact nx
  have loop1 : ∀ (l : List Nat) (xs : List Nat) (i a : Nat) (z : CR) (h : Hp) (sv : Int32) (T : ALS), (T = [(7, .int sv), (6, .int (oI l.head?))] ∨ T = [(6, .int (oI l.head?)), (7, .int sv)]) → l ≠ [] → TL g N l a b → CW (9 * g) g z → i + l.length = ps.length → xs.length = i → (gd c1 c2 z → sv = oI xs.head?) → (rFl z = none → Chx (rCd z) xs) → CH N K p c1 c2 h0 op z h → (∀ h', CH N K p c1 c2 h0 op (cGb (la && decide (1 < ps.length)) (cUt F la o l xs z)) h' → Q none h') → aWP d 28 28 ((8, .int (nI i)) :: (T ++ [(5, .int (nI ps.length)), (0, .ref 39), (1, .int (nI n)), (2, .int o), (3, .int (bI la)), (4, .int (nI lv))])) [] h Q := by
    intro l
    induction l with
    | nil => intro xs i a z h sv T hT hl; exact absurd rfl hl
    | cons c l ih =>
      intro xs i a z h sv T hT _ tl w hi hx hs hc H q
      simp only [List.length_cons] at hi
      obtain ⟨x1, x2, x3, m, x4, x5, x6⟩ := tl_c tl
      have g1 : 1 ≤ g := by
        cases g with
        | zero => exact x4.elim
        | succ g => omega
      have s := H.1.1.1.1
      have ho : oI (List.head? (c :: l)) = nI c := rfl
      rcases hT with rfl | rfl
      all_goals
        simp only [List.nil_append, List.cons_append]
        simp only [lv_args, z_v, z_lg, z_h, z_u, z_u1, z_c, z_ct, z_sk, sbne, lst1_d, ldel, lst2_d, ldel2, z_sw, z_rok, zi, eq_self, List.map_cons, List.map_nil, List.append_nil, List.nil_append, List.cons_append, Int32.reduceLT, Int32.reduceLE, Int32.reduceAdd, Int32.reduceSub, Int32.reduceMul, Int32.reduceToInt, Int32.reduceToNatClampNeg, Int.reduceLT, Int.reduceLE, Int.reduceNeg, true_and, and_true, or_self, or_false, false_or, false_and, and_false, true_or, or_true, if_true, if_false, ne_eq, Classical.not_not, not_true_eq_false, not_false_eq_true, true_implies, false_implies, implies_true, Nat.reduceEqDiff, Nat.reduceAdd, Nat.reduceLeDiff, Nat.reduceSub, reduceCtorEq, reduceIte, b28_28, es, ho]
        simp (disch := omega) only [nI_leN]
        cases l with
        | nil =>
          simp only [List.length_nil] at hi
          refine ⟨fun _ => ?_, fun cc => absurd (by omega) cc⟩
          obtain ⟨w', gm, dp1, _⟩ := cw_F (D := 9 * g - 1) (la := la) fb hNm x4 x5 (cw_wk w (by omega)) (by omega)
          have E := (fb.1 c m la z ⟨x4, by omega⟩ w.1).2.2.2
          simp only [lv_args, z_v, z_lg, z_h, z_u, z_u1, z_c, z_ct, z_sk, sbne, lst1_d, ldel, lst2_d, ldel2, z_sw, z_rok, zi, eq_self, List.map_cons, List.map_nil, List.append_nil, List.nil_append, List.cons_append, Int32.reduceLT, Int32.reduceLE, Int32.reduceAdd, Int32.reduceSub, Int32.reduceMul, Int32.reduceToInt, Int32.reduceToNatClampNeg, Int.reduceLT, Int.reduceLE, Int.reduceNeg, true_and, and_true, or_self, or_false, false_or, false_and, and_false, true_or, or_true, if_true, if_false, ne_eq, Classical.not_not, not_true_eq_false, not_false_eq_true, true_implies, false_implies, implies_true, Nat.reduceEqDiff, Nat.reduceAdd, Nat.reduceLeDiff, Nat.reduceSub, reduceCtorEq, reduceIte, b28_73, skX s, h00]
          refine fb.2.2 c m lv la z h _ _ op x4 x5 x2 w H hlv hlv2 (by omega) (fun h1 H1 => ?_)
          have s1 := H1.1.1.1.1
          have nx := fun T hT => loop2 xs 0 (F c la z) h1 sv (nI c) T hT (fun G => hs (gm G)) (fun hn => chx_pf (E.1.2 hn).1.1 (hc (dp1 hn).1)) (by omega) H1 (fun G => by have := w'.2.2.2 G.1; exact ⟨by omega, by omega⟩) q
          simp only [lv_args, z_v, z_lg, z_h, z_u, z_u1, z_c, z_ct, z_sk, sbne, lst1_d, ldel, lst2_d, ldel2, z_sw, z_rok, zi, eq_self, List.map_cons, List.map_nil, List.append_nil, List.nil_append, List.cons_append, Int32.reduceLT, Int32.reduceLE, Int32.reduceAdd, Int32.reduceSub, Int32.reduceMul, Int32.reduceToInt, Int32.reduceToNatClampNeg, Int.reduceLT, Int.reduceLE, Int.reduceNeg, true_and, and_true, or_self, or_false, false_or, false_and, and_false, true_or, or_true, if_true, if_false, ne_eq, Classical.not_not, not_true_eq_false, not_false_eq_true, true_implies, false_implies, implies_true, Nat.reduceEqDiff, Nat.reduceAdd, Nat.reduceLeDiff, Nat.reduceSub, reduceCtorEq, reduceIte, b28_73, skX s, skX s1, Nat.reduceLT]
          first
            | exact nx [(7, .int sv), (6, .int (nI c))] (Or.inl rfl)
            | exact nx [(6, .int (nI c)), (7, .int sv)] (Or.inr rfl)
        | cons c' l' =>
          simp only [List.length_cons] at hi
          refine ⟨fun cc => absurd cc (by omega), fun _ => ?_⟩
          obtain ⟨w', gm, dp1, _⟩ := cw_F (D := 9 * g - 1) (la := false) fb hNm x4 x5 (cw_wk w (by omega)) (by omega)
          have E := (fb.1 c m false z ⟨x4, by omega⟩ w.1).2.2.2
          have w2 : CW (9 * g) g (cE o (oI xs.head?) (rDp (F c false z) - 1) (F c false z)) := cw_E w' (fun hn => by have := (w'.2.2.2 hn).1; have := (dp1 hn).2; omega)
          simp only [lv_args, z_v, z_lg, z_h, z_u, z_u1, z_c, z_ct, z_sk, sbne, lst1_d, ldel, lst2_d, ldel2, z_sw, z_rok, zi, eq_self, List.map_cons, List.map_nil, List.append_nil, List.nil_append, List.cons_append, Int32.reduceLT, Int32.reduceLE, Int32.reduceAdd, Int32.reduceSub, Int32.reduceMul, Int32.reduceToInt, Int32.reduceToNatClampNeg, Int.reduceLT, Int.reduceLE, Int.reduceNeg, true_and, and_true, or_self, or_false, false_or, false_and, and_false, true_or, or_true, if_true, if_false, ne_eq, Classical.not_not, not_true_eq_false, not_false_eq_true, true_implies, false_implies, implies_true, Nat.reduceEqDiff, Nat.reduceAdd, Nat.reduceLeDiff, Nat.reduceSub, reduceCtorEq, reduceIte, b28_37, skX s, h00]
          refine fb.2.2 c m lv false z h _ _ op x4 x5 x2 w H hlv hlv2 (by omega) (fun h1 H1 => ?_)
          have s1 := H1.1.1.1.1
          simp only [lv_args, z_v, z_lg, z_h, z_u, z_u1, z_c, z_ct, z_sk, sbne, lst1_d, ldel, lst2_d, ldel2, z_sw, z_rok, zi, eq_self, List.map_cons, List.map_nil, List.append_nil, List.nil_append, List.cons_append, Int32.reduceLT, Int32.reduceLE, Int32.reduceAdd, Int32.reduceSub, Int32.reduceMul, Int32.reduceToInt, Int32.reduceToNatClampNeg, Int.reduceLT, Int.reduceLE, Int.reduceNeg, true_and, and_true, or_self, or_false, false_or, false_and, and_false, true_or, or_true, if_true, if_false, ne_eq, Classical.not_not, not_true_eq_false, not_false_eq_true, true_implies, false_implies, implies_true, Nat.reduceEqDiff, Nat.reduceAdd, Nat.reduceLeDiff, Nat.reduceSub, reduceCtorEq, reduceIte, b28_37, skX s, skX s1, h00, Nat.reduceLT]
          refine sp_emit (o := o) (v := oI xs.head?) (dp := rDp (F c false z) - 1) cc H1 (fun G => by
            have hn : rFl (F c false z) = none := G.1
            have := (dp1 hn).2
            have := w'.2.2.2 hn
            exact ⟨rfl, hs (gm (gd_E G).1), i32_m1 (by omega), by omega, by omega⟩) (by omega) (fun x h2 H2 hx' => ?_)
          have s2 := H2.1.1.1.1
          have r2 := cc_rd cc H2.1
          have nx := ih ((rCd (F c false z)).length :: xs) (i + 1) m _ h2 x [(6, .int (oI (c' :: l').head?)), (7, .int x)] (Or.inr rfl) (by simp) x6 w2 (by simp only [List.length_cons]; omega) (by simp only [List.length_cons]; omega) (fun G => by rw [hx' G]; rfl) (fun hn => by
            have hn : rFl (F c false z) = none := hn
            have c1 := chx_pf (E.1.2 hn).1.1 (hc (dp1 hn).1)
            refine ⟨by rw [cd_E]; omega, ?_, fun y hy => chx_lt c1 y hy, chx_pf (List.prefix_append _ _) c1⟩
            show ((rCd (F c false z) ++ [(o, oI xs.head?)]).getD (rCd (F c false z)).length (0, 0)).2 = oI xs.head?
            rw [gd_app2]) H2 q
          simp only [lv_args, z_v, z_lg, z_h, z_u, z_u1, z_c, z_ct, z_sk, sbne, lst1_d, ldel, lst2_d, ldel2, z_sw, z_rok, zi, eq_self, List.map_cons, List.map_nil, List.append_nil, List.nil_append, List.cons_append, Int32.reduceLT, Int32.reduceLE, Int32.reduceAdd, Int32.reduceSub, Int32.reduceMul, Int32.reduceToInt, Int32.reduceToNatClampNeg, Int.reduceLT, Int.reduceLE, Int.reduceNeg, true_and, and_true, or_self, or_false, false_or, false_and, and_false, true_or, or_true, if_true, if_false, ne_eq, Classical.not_not, not_true_eq_false, not_false_eq_true, true_implies, false_implies, implies_true, Nat.reduceEqDiff, Nat.reduceAdd, Nat.reduceLeDiff, Nat.reduceSub, reduceCtorEq, reduceIte, b28_37, skX s1, skX s2, srX s2, h00, Nat.reduceLT, rd_x s2 r2 x1, x3, nI_1]
          exact nx
  have s := H.1.1.1.1
  have r := cc_rd cc H.1
  have hne : ps ≠ [] := fun e => by rw [e] at eL; simp only [List.length_nil] at eL; omega
  have go := loop1 ps [] 0 a0 z h (-1) [(7, .int (-1)), (6, .int (oI ps.head?))] (Or.inl rfl) hne t3 w (Nat.zero_add _) rfl (fun _ => rfl) (fun _ => trivial) H hq
  have es2 : nI (pts N n).length - 1 = nI ps.length := by rw [e1, nI_sub (by omega), eL]
  unfold aEv
  simp only [lv_args, z_v, z_lg, z_h, z_u, z_u1, z_c, z_ct, z_sk, sbne, lst1_d, ldel, lst2_d, ldel2, z_sw, z_rok, zi, eq_self, List.map_cons, List.map_nil, List.append_nil, List.nil_append, List.cons_append, Int32.reduceLT, Int32.reduceLE, Int32.reduceAdd, Int32.reduceSub, Int32.reduceMul, Int32.reduceToInt, Int32.reduceToNatClampNeg, Int.reduceLT, Int.reduceLE, Int.reduceNeg, true_and, and_true, or_self, or_false, false_or, false_and, and_false, true_or, or_true, if_true, if_false, ne_eq, Classical.not_not, not_true_eq_false, not_false_eq_true, true_implies, false_implies, implies_true, Nat.reduceEqDiff, Nat.reduceAdd, Nat.reduceLeDiff, Nat.reduceSub, reduceCtorEq, reduceIte, b28_0, skX s, srX s, h00, rd_m s r hn ht (by omega) (by omega : 0 < d - 1), rd_2 s r ht h6 hb hNm (by omega : 0 < d - 1), es2, ← ehd, Nat.reduceLT]
  exact go
end CF2
