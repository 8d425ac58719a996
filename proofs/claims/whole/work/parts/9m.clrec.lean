/-! BUILD. letrec, lambda -/
section CLR
variable {h h' h0 : Hp} {Q : Option Value → Hp → Prop} {d p c1 c2 n g b : Nat} {N : NS} {mt op : List Nat} {K : List KY} {z : CR} {F : Nat → Bool → CR → CR}
theorem sp_letrecForm {lv : Nat} {la : Bool} (cc : CC N mt K p c1 c2 h0) (fb : FB N K p c1 c2 h0 g F) (ht : Tr (g + 1) N n b) (h6 : nK N n = 6) (hb : b ≤ N.1) (hn1 : 1 ≤ n) (hl : 3 ≤ (pts N n).length) (hpr : arP N (prt N n 1) = true) (w : CW (9 * g + 9) (g + 1) z) (H : CH N K p c1 c2 h0 op z h) (hlv : 1 ≤ lv) (hlv2 : lv + g ≤ 32) (hd : 5 * g + 33 < d) (hq : ∀ h', CH N K p c1 c2 h0 op (cLrc N F la (pts N (prt N n 1)) ((pts N n).drop 2) z) h' → Q none h') : aEv d 22 [.ref 39, .int (nI n), .int (bI la), .int (nI lv)] h Q := by
  have h00 : 0 < d := by omega
  have nk := cc.2.2.2.2.1
  have hNm := nk.2.2
  have hn := (tl_n ht h6 hb hNm).2.2
  obtain ⟨L, gg, bb, mm, a0, a1, eL, eg, tL, bbN, k6, LN, L1, xL, fL, tl1, tl2, px, sq1, sq2, p8, gL⟩ := let_facts cc ht h6 hb hl hpr
  rw [eL] at hq
  have hlen := tl_len tl1
  have hlen2 := tl_len (tl_n ht h6 hb hNm).2.1
  have s := H.1.1.1.1
  have r := cc_rd cc H.1
  have dne : (pts N n).drop 2 ≠ [] := dr_ne (by omega)
  have ern : ∀ c, c ∈ pts N L → Ern N c := fun c hc => (prx_er (px c hc)).1
  obtain ⟨B1, B2, B3⟩ := bp_e (N := N) (pts N L) (rDp z) z w.1
  have eB := bnd_ef (a := a1) B1 B2 B3
  obtain ⟨tB1, tB2, tB3, tB4⟩ := t_of B3
  obtain ⟨nB1, nB2⟩ := bnd_b B1
  have lB : (rSc (cBp N (pts N L) (rDp z) z)).length = (rSc z).length + (pts N L).length := by
    obtain ⟨tt, x1, x2, _⟩ := B1
    rw [x1, List.length_append, x2]
  have wsc := w.2.1
  generalize ezb : cE 22 (nI (pts N L).length) (rDp z + (pts N L).length) (cBp N (pts N L) (rDp z) z) = zb
  have zb1 : KI zb.2.1 ∧ rSc zb = rSc (cBp N (pts N L) (rDp z) z) ∧ rBd zb = rBd z ∧ rFl zb = rFl z ∧ rDp zb = rDp z + (pts N L).length ∧ rDx zb = max (rDx z) (rDp z + (pts N L).length) ∧ (gd c1 c2 zb → gd c1 c2 z) := by
    rw [← ezb]
    exact ⟨nB2, rfl, nB1, tB4, rfl, by show max (rDx (cBp N (pts N L) (rDp z) z)) _ = _; rw [tB3], fun G => gd_ef eB (gd_E G).1⟩
  obtain ⟨zb1, zb2, zb3, zb4, zb5, zb6, zb7⟩ := zb1
  obtain ⟨p1, p2, p3, p4, p5⟩ := lr_e fb.1 (pts N L) [] (rDp z) a1 mm zb sq1 zb1
  obtain ⟨q1, q2, q3, q4, q5⟩ := bo_e fb.1 (la := la) ((pts N n).drop 2) mm b _ dne sq2 p3
  have es : nI (pts N n).length - 2 = nI ((pts N n).drop 2).length := by
    have e2 : (2 : Int32) = nI 2 := rfl
    rw [e2, nI_sub (by omega), List.length_drop]
  have hq2 : ∀ h', CH N K p c1 c2 h0 op (cLe la (rSc z).length (rDp z) (pts N L).length (cBo F la ((pts N n).drop 2) (cLr N F (pts N L) [] (rDp z) zb))) h' → Q none h' := by
    rw [← ezb]; exact hq
  have rest : ∀ h1, CW (9 * g) g (cLr N F (pts N L) [] (rDp z) zb) → CH N K p c1 c2 h0 op (cLr N F (pts N L) [] (rDp z) zb) h1 → aWP d 22 138 [(9, .int (nI (pts N L).length)), (8, .int (-1)), (7, .int (nI (pts N L).length)), (6, .int (nI L)), (5, .int (nI (rSc z).length)), (4, .int (hI h 39 6)), (0, .ref 39), (1, .int (nI n)), (2, .int (bI la)), (3, .int (nI lv))] [] h1 Q := by
    intro h1 w1 H1
    have s1 := H1.1.1.1.1
    have r1 := cc_rd cc H1.1
    have w3 := cw_Bo (la := la) fb hNm ((pts N n).drop 2) a0 _ dne tl2 w1
    simp only [lv_args, z_v, z_lg, z_h, z_u, z_u1, z_c, z_ct, z_sk, sbne, lst1_d, ldel, lst2_d, ldel2, z_sw, z_rok, zi, eq_self, List.map_cons, List.map_nil, List.append_nil, List.nil_append, List.cons_append, Int32.reduceLT, Int32.reduceLE, Int32.reduceAdd, Int32.reduceSub, Int32.reduceMul, Int32.reduceToInt, Int32.reduceToNatClampNeg, Int.reduceLT, Int.reduceLE, Int.reduceNeg, true_and, and_true, or_self, or_false, false_or, false_and, and_false, true_or, or_true, if_true, if_false, ne_eq, Classical.not_not, not_true_eq_false, not_false_eq_true, true_implies, false_implies, implies_true, Nat.reduceEqDiff, Nat.reduceAdd, Nat.reduceLeDiff, Nat.reduceSub, reduceCtorEq, reduceIte, b22_138, skX s1, srX s1, h00, Nat.reduceLT, rd_x s1 r1 LN, xL, rd_m s1 r1 hn ht (by omega) (by omega : 0 < d - 1), es, ← hd_dr]
    refine sp_bodyC cc fb hlv hlv2 (by omega) tl2 w1 H1 (fun h3 H3 => ?_)
    have s3 := H3.1.1.1.1
    simp only [lv_args, z_v, z_lg, z_h, z_u, z_u1, z_c, z_ct, z_sk, sbne, lst1_d, ldel, lst2_d, ldel2, z_sw, z_rok, zi, eq_self, List.map_cons, List.map_nil, List.append_nil, List.nil_append, List.cons_append, Int32.reduceLT, Int32.reduceLE, Int32.reduceAdd, Int32.reduceSub, Int32.reduceMul, Int32.reduceToInt, Int32.reduceToNatClampNeg, Int.reduceLT, Int.reduceLE, Int.reduceNeg, true_and, and_true, or_self, or_false, false_or, false_and, and_false, true_or, or_true, if_true, if_false, ne_eq, Classical.not_not, not_true_eq_false, not_false_eq_true, true_implies, false_implies, implies_true, Nat.reduceEqDiff, Nat.reduceAdd, Nat.reduceLeDiff, Nat.reduceSub, reduceCtorEq, reduceIte, b22_138, skX s1, skX s3, h00, Nat.reduceLT]
    refine sp_leaveB (ar := (rSc z).length) (st0 := rDp z) (k := (pts N L).length) cc H3 (by rw [q1, p1, zb2, lB]; omega) (fun G => (H.1.2.2.2.2.2.2 (zb7 (gd_ef p4 (gd_ef q4 G)))).1) (fun G => by have := w3.2.2.2 G.1; exact ⟨by omega, by omega⟩) (by omega) (fun h4 H4 => ?_)
    have s4 := H4.1.1.1.1
    simp only [lv_args, z_v, z_lg, z_h, z_u, z_u1, z_c, z_ct, z_sk, sbne, lst1_d, ldel, lst2_d, ldel2, z_sw, z_rok, zi, eq_self, List.map_cons, List.map_nil, List.append_nil, List.nil_append, List.cons_append, Int32.reduceLT, Int32.reduceLE, Int32.reduceAdd, Int32.reduceSub, Int32.reduceMul, Int32.reduceToInt, Int32.reduceToNatClampNeg, Int.reduceLT, Int.reduceLE, Int.reduceNeg, true_and, and_true, or_self, or_false, false_or, false_and, and_false, true_or, or_true, if_true, if_false, ne_eq, Classical.not_not, not_true_eq_false, not_false_eq_true, true_implies, false_implies, implies_true, Nat.reduceEqDiff, Nat.reduceAdd, Nat.reduceLeDiff, Nat.reduceSub, reduceCtorEq, reduceIte, b22_138, skX s3, skX s4, Nat.reduceLT]
    exact hq2 h4 H4
  have hst : gd c1 c2 zb → hI h 39 6 = nI (rDp z) := fun G => (H.1.2.2.2.2.2.2 (zb7 G)).1
  have loop : ∀ (l : List Nat) (i a : Nat) (z' : CR) (h' : Hp), TL gg N l a bb → (pts N L).drop i = l → i + l.length = (pts N L).length → CW (9 * g) g z' → (gd c1 c2 z' → hI h 39 6 = nI (rDp z)) → CH N K p c1 c2 h0 op z' h' → (∀ h'', CW (9 * g) g (cLr N F l (((pts N L).take i).map (fun c => nCn N (prt N c 0))) (rDp z + i) z') → CH N K p c1 c2 h0 op (cLr N F l (((pts N L).take i).map (fun c => nCn N (prt N c 0))) (rDp z + i) z') h'' → aWP d 22 138 [(9, .int (nI (pts N L).length)), (8, .int (-1)), (7, .int (nI (pts N L).length)), (6, .int (nI L)), (5, .int (nI (rSc z).length)), (4, .int (hI h 39 6)), (0, .ref 39), (1, .int (nI n)), (2, .int (bI la)), (3, .int (nI lv))] [] h'' Q) → aWP d 22 69 [(9, .int (nI i)), (8, .int (oI l.head?)), (7, .int (nI (pts N L).length)), (6, .int (nI L)), (5, .int (nI (rSc z).length)), (4, .int (hI h 39 6)), (0, .ref 39), (1, .int (nI n)), (2, .int (bI la)), (3, .int (nI lv))] [] h' Q := by
    intro l
    induction l with
    | nil =>
      intro i a z' h' tl hdr hi w' hs' H' q
      have hi : i = (pts N L).length := hi
      subst hi
      have fin := q h' w' H'
      simp only [lv_args, z_v, z_lg, z_h, z_u, z_u1, z_c, z_ct, z_sk, sbne, lst1_d, ldel, lst2_d, ldel2, z_sw, z_rok, zi, eq_self, List.map_cons, List.map_nil, List.append_nil, List.nil_append, List.cons_append, Int32.reduceLT, Int32.reduceLE, Int32.reduceAdd, Int32.reduceSub, Int32.reduceMul, Int32.reduceToInt, Int32.reduceToNatClampNeg, Int.reduceLT, Int.reduceLE, Int.reduceNeg, true_and, and_true, or_self, or_false, false_or, false_and, and_false, true_or, or_true, if_true, if_false, ne_eq, Classical.not_not, not_true_eq_false, not_false_eq_true, true_implies, false_implies, implies_true, Nat.reduceEqDiff, Nat.reduceAdd, Nat.reduceLeDiff, Nat.reduceSub, reduceCtorEq, reduceIte, b22_69]
      simp (disch := omega) only [nI_leN]
      exact ⟨fun _ => fin, fun c => absurd (Nat.le_refl _) c⟩
    | cons c l ih =>
      intro i a z' h' tl hdr hi w' hs' H' q
      simp only [List.length_cons] at hi
      obtain ⟨x1, x2, x3, m, x4, x5, x6⟩ := tl_c tl
      have hil : i < (pts N L).length := by omega
      have hcm : c ∈ pts N L := List.mem_of_mem_drop (by rw [hdr]; simp)
      have hdr2 : (pts N L).drop (i + 1) = l := by
        have := List.drop_eq_getElem_cons hil
        rw [hdr] at this
        injection this with _ e
        exact e.symm
      have hgi : (pts N L)[i] = c := by
        have := List.drop_eq_getElem_cons hil
        rw [hdr] at this
        injection this with e _
        exact e.symm
      have htk : ((pts N L).take (i + 1)).map (fun c => nCn N (prt N c 0)) = ((pts N L).take i).map (fun c => nCn N (prt N c 0)) ++ [nCn N (prt N c 0)] := by
        rw [List.take_succ_eq_append_getElem hil, hgi, List.map_append]; rfl
      have pc := px c hcm
      obtain ⟨u1, u2, u3⟩ := pc.2.2.2.1
      obtain ⟨v1, m', v2, v3⟩ := pc.2.2.2.2.1
      have s' := H'.1.1.1.1
      have r' := cc_rd cc H'.1
      have ho : oI (List.head? (c :: l)) = nI c := rfl
      simp only [lv_args, z_v, z_lg, z_h, z_u, z_u1, z_c, z_ct, z_sk, sbne, lst1_d, ldel, lst2_d, ldel2, z_sw, z_rok, zi, eq_self, List.map_cons, List.map_nil, List.append_nil, List.nil_append, List.cons_append, Int32.reduceLT, Int32.reduceLE, Int32.reduceAdd, Int32.reduceSub, Int32.reduceMul, Int32.reduceToInt, Int32.reduceToNatClampNeg, Int.reduceLT, Int.reduceLE, Int.reduceNeg, true_and, and_true, or_self, or_false, false_or, false_and, and_false, true_or, or_true, if_true, if_false, ne_eq, Classical.not_not, not_true_eq_false, not_false_eq_true, true_implies, false_implies, implies_true, Nat.reduceEqDiff, Nat.reduceAdd, Nat.reduceLeDiff, Nat.reduceSub, reduceCtorEq, reduceIte, b22_69, ho]
      simp (disch := omega) only [nI_leN]
      refine ⟨fun c => absurd c (by omega), fun _ => ?_⟩
      simp only [lv_args, z_v, z_lg, z_h, z_u, z_u1, z_c, z_ct, z_sk, sbne, lst1_d, ldel, lst2_d, ldel2, z_sw, z_rok, zi, eq_self, List.map_cons, List.map_nil, List.append_nil, List.nil_append, List.cons_append, Int32.reduceLT, Int32.reduceLE, Int32.reduceAdd, Int32.reduceSub, Int32.reduceMul, Int32.reduceToInt, Int32.reduceToNatClampNeg, Int.reduceLT, Int.reduceLE, Int.reduceNeg, true_and, and_true, or_self, or_false, false_or, false_and, and_false, true_or, or_true, if_true, if_false, ne_eq, Classical.not_not, not_true_eq_false, not_false_eq_true, true_implies, false_implies, implies_true, Nat.reduceEqDiff, Nat.reduceAdd, Nat.reduceLeDiff, Nat.reduceSub, reduceCtorEq, reduceIte, b22_76, skX s', srX s', h00, rd_f s' r' x1, pc.2.2.1, Nat.reduceLT]
      refine sp_ckb (L := L) (k := i) cc H' LN fL tl1 ern (by omega) u1 u2 u3 (by omega) (fun h2 H2 => ?_)
      rw [mp_er px] at H2
      have s2 := H2.1.1.1.1
      have r2 := cc_rd cc H2.1
      have w2 : CW (9 * g) g (cCk N (((pts N L).take i).map (fun c => nCn N (prt N c 0))) (prt N c 0) z') := cw_Ck w'
      obtain ⟨w3, gm3, dp3, _⟩ := cw_F (D := 9 * g - 1) (la := false) fb hNm v2 v3 (cw_wk w2 (by omega)) (by omega)
      simp only [lv_args, z_v, z_lg, z_h, z_u, z_u1, z_c, z_ct, z_sk, sbne, lst1_d, ldel, lst2_d, ldel2, z_sw, z_rok, zi, eq_self, List.map_cons, List.map_nil, List.append_nil, List.nil_append, List.cons_append, Int32.reduceLT, Int32.reduceLE, Int32.reduceAdd, Int32.reduceSub, Int32.reduceMul, Int32.reduceToInt, Int32.reduceToNatClampNeg, Int.reduceLT, Int.reduceLE, Int.reduceNeg, true_and, and_true, or_self, or_false, false_or, false_and, and_false, true_or, or_true, if_true, if_false, ne_eq, Classical.not_not, not_true_eq_false, not_false_eq_true, true_implies, false_implies, implies_true, Nat.reduceEqDiff, Nat.reduceAdd, Nat.reduceLeDiff, Nat.reduceSub, reduceCtorEq, reduceIte, b22_76, skX s', skX s2, srX s2, h00, Nat.reduceLT, prx_2 s2 r2 hNm pc (by omega : 0 < d - 1)]
      refine fb.2.2 (prt N c 1) m' lv false _ h2 _ _ op v2 v3 v1 w2 H2 hlv hlv2 (by omega) (fun h3 H3 => ?_)
      have s3 := H3.1.1.1.1
      generalize ez3 : F (prt N c 1) false (cCk N (((pts N L).take i).map (fun c => nCn N (prt N c 0))) (prt N c 0) z') = z3 at *
      have w4 : CW (9 * g) g (cE 23 (nI (rDp z + i)) (rDp z3 - 1) z3) := cw_E w3 (fun hn => by have := (w3.2.2.2 hn).1; have := (dp3 hn).2; omega)
      simp only [lv_args, z_v, z_lg, z_h, z_u, z_u1, z_c, z_ct, z_sk, sbne, lst1_d, ldel, lst2_d, ldel2, z_sw, z_rok, zi, eq_self, List.map_cons, List.map_nil, List.append_nil, List.nil_append, List.cons_append, Int32.reduceLT, Int32.reduceLE, Int32.reduceAdd, Int32.reduceSub, Int32.reduceMul, Int32.reduceToInt, Int32.reduceToNatClampNeg, Int.reduceLT, Int.reduceLE, Int.reduceNeg, true_and, and_true, or_self, or_false, false_or, false_and, and_false, true_or, or_true, if_true, if_false, ne_eq, Classical.not_not, not_true_eq_false, not_false_eq_true, true_implies, false_implies, implies_true, Nat.reduceEqDiff, Nat.reduceAdd, Nat.reduceLeDiff, Nat.reduceSub, reduceCtorEq, reduceIte, b22_76, skX s2, skX s3, h00, Nat.reduceLT]
      refine sp_emit (o := 23) (v := nI (rDp z + i)) (dp := rDp z3 - 1) cc H3 (fun G => by
        have G3 := (gd_E G).1
        have := (dp3 G3.1).2
        have := w3.2.2.2 G3.1
        exact ⟨rfl, by rw [hs' (gd_Ck (gm3 G3)), nI_add], i32_m1 (by omega), by omega, by omega⟩) (by omega) (fun x h4 H4 _ => ?_)
      have s4 := H4.1.1.1.1
      have r4 := cc_rd cc H4.1
      have nx := ih (i + 1) m _ h4 x6 hdr2 (by omega) w4 (fun G => hs' (gd_Ck (gm3 (gd_E G).1))) H4 (fun h'' w'' H'' => by
        rw [htk] at w'' H''
        rw [← ez3] at w'' H''
        exact q h'' w'' H'')
      simp only [lv_args, z_v, z_lg, z_h, z_u, z_u1, z_c, z_ct, z_sk, sbne, lst1_d, ldel, lst2_d, ldel2, z_sw, z_rok, zi, eq_self, List.map_cons, List.map_nil, List.append_nil, List.nil_append, List.cons_append, Int32.reduceLT, Int32.reduceLE, Int32.reduceAdd, Int32.reduceSub, Int32.reduceMul, Int32.reduceToInt, Int32.reduceToNatClampNeg, Int.reduceLT, Int.reduceLE, Int.reduceNeg, true_and, and_true, or_self, or_false, false_or, false_and, and_false, true_or, or_true, if_true, if_false, ne_eq, Classical.not_not, not_true_eq_false, not_false_eq_true, true_implies, false_implies, implies_true, Nat.reduceEqDiff, Nat.reduceAdd, Nat.reduceLeDiff, Nat.reduceSub, reduceCtorEq, reduceIte, b22_76, skX s3, skX s4, srX s4, h00, Nat.reduceLT, rd_x s4 r4 x1, x3, nI_1]
      exact nx
  have wz : CW (9 * g) g zb := ⟨zb1, by rw [zb2, lB]; omega, by rw [zb3]; have := w.2.2.1; omega, fun hn => by
    rw [zb4] at hn
    have := w.2.2.2 hn
    rw [zb5, zb6]
    omega⟩
  have z3 : hI h 40 3 = nI (rSc z).length := H.1.2.2.2.2.1.1
  unfold aEv
  simp only [lv_args, z_v, z_lg, z_h, z_u, z_u1, z_c, z_ct, z_sk, sbne, lst1_d, ldel, lst2_d, ldel2, z_sw, z_rok, zi, eq_self, List.map_cons, List.map_nil, List.append_nil, List.nil_append, List.cons_append, Int32.reduceLT, Int32.reduceLE, Int32.reduceAdd, Int32.reduceSub, Int32.reduceMul, Int32.reduceToInt, Int32.reduceToNatClampNeg, Int.reduceLT, Int.reduceLE, Int.reduceNeg, true_and, and_true, or_self, or_false, false_or, false_and, and_false, true_or, or_true, if_true, if_false, ne_eq, Classical.not_not, not_true_eq_false, not_false_eq_true, true_implies, false_implies, implies_true, Nat.reduceEqDiff, Nat.reduceAdd, Nat.reduceLeDiff, Nat.reduceSub, reduceCtorEq, reduceIte, b22_0, skX s, srX s, h00, e142_40 _ _ s, z3, rd_2 s r ht h6 hb hNm (by omega : 0 < d - 1), oI_g gL, rd_m s r LN tL (by omega) (by omega : 0 < d - 1), rd_f s r LN, fL, Nat.reduceLT]
  refine sp_bindPairs (g := g) (d0 := rDp z) cc tL bbN k6 px H (fun G => (H.1.2.2.2.2.2.2 G).1) (by omega) (by omega) (fun h2 H2 => ?_)
  have s2 := H2.1.1.1.1
  simp only [lv_args, z_v, z_lg, z_h, z_u, z_u1, z_c, z_ct, z_sk, sbne, lst1_d, ldel, lst2_d, ldel2, z_sw, z_rok, zi, eq_self, List.map_cons, List.map_nil, List.append_nil, List.nil_append, List.cons_append, Int32.reduceLT, Int32.reduceLE, Int32.reduceAdd, Int32.reduceSub, Int32.reduceMul, Int32.reduceToInt, Int32.reduceToNatClampNeg, Int.reduceLT, Int.reduceLE, Int.reduceNeg, true_and, and_true, or_self, or_false, false_or, false_and, and_false, true_or, or_true, if_true, if_false, ne_eq, Classical.not_not, not_true_eq_false, not_false_eq_true, true_implies, false_implies, implies_true, Nat.reduceEqDiff, Nat.reduceAdd, Nat.reduceLeDiff, Nat.reduceSub, reduceCtorEq, reduceIte, b22_0, skX s, skX s2, h00, Nat.reduceLT]
  refine sp_emit (o := 22) (v := nI (pts N L).length) (dp := rDp z + (pts N L).length) cc H2 (fun G => by
    have hn : rFl z = none := by rw [← tB4]; exact G.1
    have := w.2.2.2 hn
    refine ⟨rfl, rfl, by rw [tB2, nI_add], by omega, by rw [tB3]; omega⟩) (by omega) (fun x h3 H3 _ => ?_)
  rw [ezb] at H3
  have s3 := H3.1.1.1.1
  have go := loop (pts N L) 0 (L + 1) zb h3 tl1 rfl (Nat.zero_add _) wz hst H3 rest
  simp only [lv_args, z_v, z_lg, z_h, z_u, z_u1, z_c, z_ct, z_sk, sbne, lst1_d, ldel, lst2_d, ldel2, z_sw, z_rok, zi, eq_self, List.map_cons, List.map_nil, List.append_nil, List.nil_append, List.cons_append, Int32.reduceLT, Int32.reduceLE, Int32.reduceAdd, Int32.reduceSub, Int32.reduceMul, Int32.reduceToInt, Int32.reduceToNatClampNeg, Int.reduceLT, Int.reduceLE, Int.reduceNeg, true_and, and_true, or_self, or_false, false_or, false_and, and_false, true_or, or_true, if_true, if_false, ne_eq, Classical.not_not, not_true_eq_false, not_false_eq_true, true_implies, false_implies, implies_true, Nat.reduceEqDiff, Nat.reduceAdd, Nat.reduceLeDiff, Nat.reduceSub, reduceCtorEq, reduceIte, b22_0, skX s2, skX s3, h00, Nat.reduceLT]
  exact go
end CLR
