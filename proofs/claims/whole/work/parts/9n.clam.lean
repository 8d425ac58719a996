/-! BUILD. lambda -/
section CLM
variable {h h' h0 : Hp} {Q : Option Value → Hp → Prop} {d p c1 c2 n g b : Nat} {N : NS} {mt op : List Nat} {K : List KY} {z : CR} {F : Nat → Bool → CR → CR}
theorem nm_er {c : Nat} (h5 : nK N c = 5) (h1 : 1 ≤ c) (h2 : c < N.1) : Ern N c ∧ erN N c = c := by
  have e : erN N c = c := if_neg (by rw [h5]; decide)
  exact ⟨⟨fun h6 => by rw [h5] at h6; exact absurd h6 (by decide), by rw [e]; exact h1, by rw [e]; exact h2, by rw [e]; exact h5⟩, e⟩
theorem sp_bindNames {L gg bb : Nat} (cc : CC N mt K p c1 c2 h0) (hT : Tr (gg + 1) N L bb) (hTb : bb ≤ N.1) (h6 : nK N L = 6) (hx : ∀ c, c ∈ pts N L → nK N c = 5) (H : CH N K p c1 c2 h0 op z h) (hsc : (rSc z).length + (pts N L).length ≤ 248) (hd : 8 < d) (hq : ∀ h', CH N K p c1 c2 h0 op (cBn N (pts N L) [] 0 z) h' → Q none h') : aEv d 2 [.ref 39, .int (nI L)] h Q := by
  have h00 : 0 < d := by omega
  have nk := cc.2.2.2.2.1
  have hNm := nk.2.2
  obtain ⟨t1, t2, hL⟩ := tl_n hT h6 hTb hNm
  have hlen := tl_len t2
  have er : ∀ c, c ∈ pts N L → Ern N c ∧ erN N c = c := fun c hc => by
    obtain ⟨i, hi⟩ := List.mem_iff_getElem?.mp hc
    obtain ⟨b1, b2, _⟩ := tl_get t2 hi
    exact nm_er (hx c hc) b2 b1
  have mp : ∀ i, ((pts N L).take i).map (fun c => nCn N (erN N c)) = ((pts N L).take i).map (fun c => nCn N c) := fun i => List.map_congr_left fun c hc => by
    rw [(er c (List.mem_of_mem_take hc)).2]
  have loop : ∀ (l : List Nat) (i a : Nat) (z' : CR) (h' : Hp), TL gg N l a bb → (pts N L).drop i = l → i + l.length = (pts N L).length → (rSc z').length + l.length ≤ 248 → CH N K p c1 c2 h0 op z' h' → (∀ h'', CH N K p c1 c2 h0 op (cBn N l (((pts N L).take i).map (fun c => nCn N c)) i z') h'' → Q none h'') → aWP d 2 11 [(3, .int (nI i)), (2, .int (oI l.head?)), (0, .ref 39), (1, .int (nI L))] [] h' Q := by
    intro l
    induction l with
    | nil =>
      intro i a z' h' tl hdr hi hsc H' q
      have hi : i = (pts N L).length := hi
      have s := H'.1.1.1.1
      have r := cc_rd cc H'.1
      have fin := q h' H'
      simp only [lv_args, z_v, z_lg, z_h, z_u, z_u1, z_c, z_ct, z_sk, sbne, lst1_d, ldel, lst2_d, ldel2, z_sw, z_rok, zi, eq_self, List.map_cons, List.map_nil, List.append_nil, List.nil_append, List.cons_append, Int32.reduceLT, Int32.reduceLE, Int32.reduceAdd, Int32.reduceSub, Int32.reduceMul, Int32.reduceToInt, Int32.reduceToNatClampNeg, Int.reduceLT, Int.reduceLE, Int.reduceNeg, true_and, and_true, or_self, or_false, false_or, false_and, and_false, true_or, or_true, if_true, if_false, ne_eq, Classical.not_not, not_true_eq_false, not_false_eq_true, true_implies, false_implies, implies_true, Nat.reduceEqDiff, Nat.reduceAdd, Nat.reduceLeDiff, Nat.reduceSub, reduceCtorEq, reduceIte, b2_11, skX s, srX s, h00, rd_m s r hL hT (by omega) (by omega : 0 < d - 1), Nat.reduceLT]
      simp (disch := omega) only [nI_leN]
      refine ⟨fun _ => ?_, fun c => absurd (by omega) c⟩
      simp only [lv_args, z_v, z_lg, z_h, z_u, z_u1, z_c, z_ct, z_sk, sbne, lst1_d, ldel, lst2_d, ldel2, z_sw, z_rok, zi, eq_self, List.map_cons, List.map_nil, List.append_nil, List.nil_append, List.cons_append, Int32.reduceLT, Int32.reduceLE, Int32.reduceAdd, Int32.reduceSub, Int32.reduceMul, Int32.reduceToInt, Int32.reduceToNatClampNeg, Int.reduceLT, Int.reduceLE, Int.reduceNeg, true_and, and_true, or_self, or_false, false_or, false_and, and_false, true_or, or_true, if_true, if_false, ne_eq, Classical.not_not, not_true_eq_false, not_false_eq_true, true_implies, false_implies, implies_true, Nat.reduceEqDiff, Nat.reduceAdd, Nat.reduceLeDiff, Nat.reduceSub, reduceCtorEq, reduceIte, b2_61]
      exact fin
    | cons c l ih =>
      intro i a z' h' tl hdr hi hsc H' q
      simp only [List.length_cons] at hi hsc
      obtain ⟨x1, x2, x3, m, x4, x5, x6⟩ := tl_c tl
      have hil : i < (pts N L).length := by omega
      have hcm : c ∈ pts N L := List.mem_of_mem_drop (by rw [hdr]; simp)
      have hdr2 : (pts N L).drop (i + 1) = l := by
        have := List.drop_eq_getElem_cons hil
        rw [hdr] at this
        injection this with _ e
        exact e.symm
      have hgi : (pts N L)[i] = c := by
        have := List.drop_eq_getElem_cons hil
        rw [hdr] at this
        injection this with e _
        exact e.symm
      have htk : ((pts N L).take (i + 1)).map (fun c => nCn N c) = ((pts N L).take i).map (fun c => nCn N c) ++ [nCn N c] := by
        rw [List.take_succ_eq_append_getElem hil, hgi, List.map_append]; rfl
      obtain ⟨j, hj, ej, ej2, hj3⟩ := nok_name nk x2 x1 (hx c hcm)
      have s' := H'.1.1.1.1
      have r' := cc_rd cc H'.1
      have ho : oI (List.head? (c :: l)) = nI c := rfl
      simp only [lv_args, z_v, z_lg, z_h, z_u, z_u1, z_c, z_ct, z_sk, sbne, lst1_d, ldel, lst2_d, ldel2, z_sw, z_rok, zi, eq_self, List.map_cons, List.map_nil, List.append_nil, List.nil_append, List.cons_append, Int32.reduceLT, Int32.reduceLE, Int32.reduceAdd, Int32.reduceSub, Int32.reduceMul, Int32.reduceToInt, Int32.reduceToNatClampNeg, Int.reduceLT, Int.reduceLE, Int.reduceNeg, true_and, and_true, or_self, or_false, false_or, false_and, and_false, true_or, or_true, if_true, if_false, ne_eq, Classical.not_not, not_true_eq_false, not_false_eq_true, true_implies, false_implies, implies_true, Nat.reduceEqDiff, Nat.reduceAdd, Nat.reduceLeDiff, Nat.reduceSub, reduceCtorEq, reduceIte, b2_11, skX s', srX s', h00, ho, rd_m s' r' hL hT (by omega) (by omega : 0 < d - 1), Nat.reduceLT]
      simp (disch := omega) only [nI_leN]
      refine ⟨fun c => absurd c (by omega), fun _ => ?_⟩
      simp only [lv_args, z_v, z_lg, z_h, z_u, z_u1, z_c, z_ct, z_sk, sbne, lst1_d, ldel, lst2_d, ldel2, z_sw, z_rok, zi, eq_self, List.map_cons, List.map_nil, List.append_nil, List.nil_append, List.cons_append, Int32.reduceLT, Int32.reduceLE, Int32.reduceAdd, Int32.reduceSub, Int32.reduceMul, Int32.reduceToInt, Int32.reduceToNatClampNeg, Int.reduceLT, Int.reduceLE, Int.reduceNeg, true_and, and_true, or_self, or_false, false_or, false_and, and_false, true_or, or_true, if_true, if_false, ne_eq, Classical.not_not, not_true_eq_false, not_false_eq_true, true_implies, false_implies, implies_true, Nat.reduceEqDiff, Nat.reduceAdd, Nat.reduceLeDiff, Nat.reduceSub, reduceCtorEq, reduceIte, b2_23, skX s', h00]
      refine sp_ckb (L := L) (k := i) cc H' hL t1 t2 (fun c hc => (er c hc).1) (by omega) x2 x1 (hx c hcm) (by omega) (fun h2 H2 => ?_)
      rw [mp i] at H2
      have s2 := H2.1.1.1.1
      have r2 := cc_rd cc H2.1
      have escc : rSc (cCk N (((pts N L).take i).map (fun c => nCn N c)) c z') = rSc z' := by
        unfold cCk
        split <;> rfl
      simp only [lv_args, z_v, z_lg, z_h, z_u, z_u1, z_c, z_ct, z_sk, sbne, lst1_d, ldel, lst2_d, ldel2, z_sw, z_rok, zi, eq_self, List.map_cons, List.map_nil, List.append_nil, List.nil_append, List.cons_append, Int32.reduceLT, Int32.reduceLE, Int32.reduceAdd, Int32.reduceSub, Int32.reduceMul, Int32.reduceToInt, Int32.reduceToNatClampNeg, Int.reduceLT, Int.reduceLE, Int.reduceNeg, true_and, and_true, or_self, or_false, false_or, false_and, and_false, true_or, or_true, if_true, if_false, ne_eq, Classical.not_not, not_true_eq_false, not_false_eq_true, true_implies, false_implies, implies_true, Nat.reduceEqDiff, Nat.reduceAdd, Nat.reduceLeDiff, Nat.reduceSub, reduceCtorEq, reduceIte, b2_23, skX s', skX s2, srX s2, h00, Nat.reduceLT, rd_c s2 r2 x1, ej]
      refine sp_cbind (j := j) (sl := i) cc H2 rfl hj3 (fun _ => rfl) (by rw [escc]; omega) (by omega) (fun h3 H3 => ?_)
      have s3 := H3.1.1.1.1
      have r3 := cc_rd cc H3.1
      have nx := ih (i + 1) m _ h3 x6 hdr2 (by omega) (by
        have : (rSc (cBi j i (cCk N (((pts N L).take i).map (fun c => nCn N c)) c z'))).length = (rSc z').length + 1 := by
          show (rSc (cCk N (((pts N L).take i).map (fun c => nCn N c)) c z') ++ [_]).length = _
          rw [List.length_append, escc]; rfl
        omega) H3 (fun h'' H'' => by
        rw [htk] at H''
        refine q h'' ?_
        show CH N K p c1 c2 h0 op (cBn N l (((pts N L).take i).map (fun c => nCn N c) ++ [nCn N c]) (i + 1) (cBi (nCn N c) i (cCk N (((pts N L).take i).map (fun c => nCn N c)) c z'))) h''
        rw [ej2]
        rw [ej2] at H''
        exact H'')
      simp only [lv_args, z_v, z_lg, z_h, z_u, z_u1, z_c, z_ct, z_sk, sbne, lst1_d, ldel, lst2_d, ldel2, z_sw, z_rok, zi, eq_self, List.map_cons, List.map_nil, List.append_nil, List.nil_append, List.cons_append, Int32.reduceLT, Int32.reduceLE, Int32.reduceAdd, Int32.reduceSub, Int32.reduceMul, Int32.reduceToInt, Int32.reduceToNatClampNeg, Int.reduceLT, Int.reduceLE, Int.reduceNeg, true_and, and_true, or_self, or_false, false_or, false_and, and_false, true_or, or_true, if_true, if_false, ne_eq, Classical.not_not, not_true_eq_false, not_false_eq_true, true_implies, false_implies, implies_true, Nat.reduceEqDiff, Nat.reduceAdd, Nat.reduceLeDiff, Nat.reduceSub, reduceCtorEq, reduceIte, b2_23, skX s2, skX s3, srX s3, h00, Nat.reduceLT, rd_x s3 r3 x1, x3, nI_1]
      exact nx
  have s := H.1.1.1.1
  have r := cc_rd cc H.1
  have go := loop (pts N L) 0 (L + 1) z h t2 rfl (Nat.zero_add _) hsc H hq
  unfold aEv
  simp only [lv_args, z_v, z_lg, z_h, z_u, z_u1, z_c, z_ct, z_sk, sbne, lst1_d, ldel, lst2_d, ldel2, z_sw, z_rok, zi, eq_self, List.map_cons, List.map_nil, List.append_nil, List.nil_append, List.cons_append, Int32.reduceLT, Int32.reduceLE, Int32.reduceAdd, Int32.reduceSub, Int32.reduceMul, Int32.reduceToInt, Int32.reduceToNatClampNeg, Int.reduceLT, Int.reduceLE, Int.reduceNeg, true_and, and_true, or_self, or_false, false_or, false_and, and_false, true_or, or_true, if_true, if_false, ne_eq, Classical.not_not, not_true_eq_false, not_false_eq_true, true_implies, false_implies, implies_true, Nat.reduceEqDiff, Nat.reduceAdd, Nat.reduceLeDiff, Nat.reduceSub, reduceCtorEq, reduceIte, b2_0, skX s, srX s, h00, rd_f s r hL, t1, Nat.reduceLT]
  exact go
theorem sp_lambdaForm {lv : Nat} {la : Bool} (cc : CC N mt K p c1 c2 h0) (fb : FB N K p c1 c2 h0 g F) (ht : Tr (g + 1) N n b) (h6 : nK N n = 6) (hb : b ≤ N.1) (hn1 : 1 ≤ n) (hl : 3 ≤ (pts N n).length) (hpr : arN N (prt N n 1) = true) (w : CW (9 * g + 9) (g + 1) z) (H : CH N K p c1 c2 h0 op z h) (hlv : 1 ≤ lv) (hlv2 : lv + g ≤ 32) (hd : 5 * g + 33 < d) (hq : ∀ h', CH N K p c1 c2 h0 op (cLa N F la n (pts N (prt N n 1)) ((pts N n).drop 2) z) h' → Q none h') : aEv d 19 [.ref 39, .int (nI n), .int (bI la), .int (nI lv)] h Q := by
  have h00 : 0 < d := by omega
  have nk := cc.2.2.2.2.1
  have hNm := nk.2.2
  obtain ⟨t1, t2, hn⟩ := tl_n ht h6 hb hNm
  obtain ⟨a6, a8, a5⟩ := arN_2 hpr
  have g1 := prt_get (N := N) (n := n) (k := 1) (by omega)
  obtain ⟨x1, x2, x3, m1, x4, x5⟩ := tl_get t2 g1
  obtain ⟨a0, t3⟩ := tl_drop 2 t2
  have hsq := sqn_drop 2 _ _ _ (frs_sqn _ _ _ t2.1 (by omega))
  generalize prt N n 1 = L at *
  have hlen2 := tl_len t2
  have dne : (pts N n).drop 2 ≠ [] := dr_ne (by omega)
  have s := H.1.1.1.1
  have r := cc_rd cc H.1
  have hp := cc.1
  have R := cc_R cc H.1
  have kp : ∀ {h : Hp}, Sk h → hK h p = 7 := fun {h} s => by rcases hp with rfl | rfl <;> exact s.1 _ (by decide)
  have wsc := w.2.1
  have wbd := w.2.2.1
  obtain ⟨gg, eg, tL⟩ : ∃ gg, g = gg + 1 ∧ Tr (gg + 1) N L m1 := by
    cases g with
    | zero => exact x4.elim
    | succ gg => exact ⟨gg, rfl, x4⟩
  have es : nI (pts N n).length - 2 = nI ((pts N n).drop 2).length := by
    have e2 : (2 : Int32) = nI 2 := rfl
    rw [e2, nI_sub (by omega), List.length_drop]
  have z1m : ∀ {k : Nat}, k < 10000 → ¬ nI k = -1 := fun h => nI_m1' h
  unfold aEv
  simp only [lv_args, z_v, z_lg, z_h, z_u, z_u1, z_c, z_ct, z_sk, sbne, lst1_d, ldel, lst2_d, ldel2, z_sw, z_rok, zi, eq_self, List.map_cons, List.map_nil, List.append_nil, List.nil_append, List.cons_append, Int32.reduceLT, Int32.reduceLE, Int32.reduceAdd, Int32.reduceSub, Int32.reduceMul, Int32.reduceToInt, Int32.reduceToNatClampNeg, Int.reduceLT, Int.reduceLE, Int.reduceNeg, true_and, and_true, or_self, or_false, false_or, false_and, and_false, true_or, or_true, if_true, if_false, ne_eq, Classical.not_not, not_true_eq_false, not_false_eq_true, true_implies, false_implies, implies_true, Nat.reduceEqDiff, Nat.reduceAdd, Nat.reduceLeDiff, Nat.reduceSub, reduceCtorEq, reduceIte, b19_0, skX s, srX s, h00, rd_2 s r ht h6 hb hNm (by omega : 0 < d - 1), oI_g g1, rd_m s r x1 tL (by omega) (by omega : 0 < d - 1), R, kp s, Nat.reduceLT]
  refine sp_addl (w := (pts N L).length) cc H (fun c => ?_) (fun c h1 H1 => ?_)
  · unfold cLa at hq
    rw [if_pos c] at hq
    simp only [lv_args, z_v, z_lg, z_h, z_u, z_u1, z_c, z_ct, z_sk, sbne, lst1_d, ldel, lst2_d, ldel2, z_sw, z_rok, zi, eq_self, List.map_cons, List.map_nil, List.append_nil, List.nil_append, List.cons_append, Int32.reduceLT, Int32.reduceLE, Int32.reduceAdd, Int32.reduceSub, Int32.reduceMul, Int32.reduceToInt, Int32.reduceToNatClampNeg, Int.reduceLT, Int.reduceLE, Int.reduceNeg, true_and, and_true, or_self, or_false, false_or, false_and, and_false, true_or, or_true, if_true, if_false, ne_eq, Classical.not_not, not_true_eq_false, not_false_eq_true, true_implies, false_implies, implies_true, Nat.reduceEqDiff, Nat.reduceAdd, Nat.reduceLeDiff, Nat.reduceSub, reduceCtorEq, reduceIte, b19_0, skX s, Nat.reduceLT]
    simp only [lv_args, z_v, z_lg, z_h, z_u, z_u1, z_c, z_ct, z_sk, sbne, lst1_d, ldel, lst2_d, ldel2, z_sw, z_rok, zi, eq_self, List.map_cons, List.map_nil, List.append_nil, List.nil_append, List.cons_append, Int32.reduceLT, Int32.reduceLE, Int32.reduceAdd, Int32.reduceSub, Int32.reduceMul, Int32.reduceToInt, Int32.reduceToNatClampNeg, Int.reduceLT, Int.reduceLE, Int.reduceNeg, true_and, and_true, or_self, or_false, false_or, false_and, and_false, true_or, or_true, if_true, if_false, ne_eq, Classical.not_not, not_true_eq_false, not_false_eq_true, true_implies, false_implies, implies_true, Nat.reduceEqDiff, Nat.reduceAdd, Nat.reduceLeDiff, Nat.reduceSub, reduceCtorEq, reduceIte, b19_38, skX s, h00]
    refine sp_ctell (k := 6) cc H.1 rfl (by decide) hn1 hn (by omega) (fun h2 H2 => ?_)
    have s2 := H2.1.1.1.1
    simp only [lv_args, z_v, z_lg, z_h, z_u, z_u1, z_c, z_ct, z_sk, sbne, lst1_d, ldel, lst2_d, ldel2, z_sw, z_rok, zi, eq_self, List.map_cons, List.map_nil, List.append_nil, List.nil_append, List.cons_append, Int32.reduceLT, Int32.reduceLE, Int32.reduceAdd, Int32.reduceSub, Int32.reduceMul, Int32.reduceToInt, Int32.reduceToNatClampNeg, Int.reduceLT, Int.reduceLE, Int.reduceNeg, true_and, and_true, or_self, or_false, false_or, false_and, and_false, true_or, or_true, if_true, if_false, ne_eq, Classical.not_not, not_true_eq_false, not_false_eq_true, true_implies, false_implies, implies_true, Nat.reduceEqDiff, Nat.reduceAdd, Nat.reduceLeDiff, Nat.reduceSub, reduceCtorEq, reduceIte, b19_38, skX s, skX s2, Nat.reduceLT]
    exact hq h2 H2
  · unfold cLa at hq
    rw [if_neg (by omega)] at hq
    dsimp only at hq
    have s1 := H1.1.1.1.1
    simp only [lv_args, z_v, z_lg, z_h, z_u, z_u1, z_c, z_ct, z_sk, sbne, lst1_d, ldel, lst2_d, ldel2, z_sw, z_rok, zi, eq_self, List.map_cons, List.map_nil, List.append_nil, List.nil_append, List.cons_append, Int32.reduceLT, Int32.reduceLE, Int32.reduceAdd, Int32.reduceSub, Int32.reduceMul, Int32.reduceToInt, Int32.reduceToNatClampNeg, Int.reduceLT, Int.reduceLE, Int.reduceNeg, true_and, and_true, or_self, or_false, false_or, false_and, and_false, true_or, or_true, if_true, if_false, ne_eq, Classical.not_not, not_true_eq_false, not_false_eq_true, true_implies, false_implies, implies_true, Nat.reduceEqDiff, Nat.reduceAdd, Nat.reduceLeDiff, Nat.reduceSub, reduceCtorEq, reduceIte, b19_0, skX s, skX s1, Nat.reduceLT, z1m (show (rLm z).length < 10000 by omega)]
    simp only [lv_args, z_v, z_lg, z_h, z_u, z_u1, z_c, z_ct, z_sk, sbne, lst1_d, ldel, lst2_d, ldel2, z_sw, z_rok, zi, eq_self, List.map_cons, List.map_nil, List.append_nil, List.nil_append, List.cons_append, Int32.reduceLT, Int32.reduceLE, Int32.reduceAdd, Int32.reduceSub, Int32.reduceMul, Int32.reduceToInt, Int32.reduceToNatClampNeg, Int.reduceLT, Int.reduceLE, Int.reduceNeg, true_and, and_true, or_self, or_false, false_or, false_and, and_false, true_or, or_true, if_true, if_false, ne_eq, Classical.not_not, not_true_eq_false, not_false_eq_true, true_implies, false_implies, implies_true, Nat.reduceEqDiff, Nat.reduceAdd, Nat.reduceLeDiff, Nat.reduceSub, reduceCtorEq, reduceIte, b19_46, skX s1, h00]
    refine sp_emit (o := 25) (v := nI (rLm z).length) (dp := rDp z + 1) cc H1 (fun G => by
      have := w.2.2.2 G.1
      exact ⟨rfl, rfl, nI_s _, by omega, by show rDx z < _; omega⟩) (by omega) (fun xx h2 H2 _ => ?_)
    have s2 := H2.1.1.1.1
    simp only [lv_args, z_v, z_lg, z_h, z_u, z_u1, z_c, z_ct, z_sk, sbne, lst1_d, ldel, lst2_d, ldel2, z_sw, z_rok, zi, eq_self, List.map_cons, List.map_nil, List.append_nil, List.nil_append, List.cons_append, Int32.reduceLT, Int32.reduceLE, Int32.reduceAdd, Int32.reduceSub, Int32.reduceMul, Int32.reduceToInt, Int32.reduceToNatClampNeg, Int.reduceLT, Int.reduceLE, Int.reduceNeg, true_and, and_true, or_self, or_false, false_or, false_and, and_false, true_or, or_true, if_true, if_false, ne_eq, Classical.not_not, not_true_eq_false, not_false_eq_true, true_implies, false_implies, implies_true, Nat.reduceEqDiff, Nat.reduceAdd, Nat.reduceLeDiff, Nat.reduceSub, reduceCtorEq, reduceIte, b19_46, skX s1, skX s2, h00, Nat.reduceLT]
    refine sp_emit (o := 26) (v := 0) (dp := rDp z + 1) cc H2 (fun G => by
      have := w.2.2.2 G.1
      exact ⟨rfl, rfl, Int32.add_zero _, by omega, by show max (rDx z) (rDp z + 1) < _; omega⟩) (by omega) (fun ov h3 H3 hov => ?_)
    generalize ez1 : cE 26 0 (rDp z + 1) (cE 25 (nI (rLm z).length) (rDp z + 1) (cAl (pts N L).length z)) = z1 at *
    have f1 : rFl z1 = rFl z ∧ rSc z1 = rSc z ∧ rBd z1 = rBd z ∧ z1.2.1 = z.2.1 ∧ rDp z1 = rDp z + 1 ∧ rDx z1 = max (max (rDx z) (rDp z + 1)) (rDp z + 1) ∧ (rCd z1).length = (rCd z).length + 2 ∧ (rLm z1).length = (rLm z).length + 1 ∧ (gd c1 c2 z1 → gd c1 c2 z) := by
      rw [← ez1]
      refine ⟨rfl, rfl, rfl, rfl, rfl, rfl, by rw [cd_E, cd_E]; rfl, ?_, fun G => (gd_E (gd_E G).1).1⟩
      show (_ ++ [_]).length = _
      rw [List.length_append]; rfl
    obtain ⟨f1, f2, f3, f4, f5, f6, f7, f8, f9⟩ := f1
    have hov' : gd c1 c2 z1 → ov = nI ((rCd z).length + 1) := fun G => by
      rw [hov G, cd_E]; rfl
    have s3 := H3.1.1.1.1
    have e3 : hI h3 40 3 = nI (rSc z).length := by rw [H3.1.2.2.2.2.1.1, f2]
    simp only [lv_args, z_v, z_lg, z_h, z_u, z_u1, z_c, z_ct, z_sk, sbne, lst1_d, ldel, lst2_d, ldel2, z_sw, z_rok, zi, eq_self, List.map_cons, List.map_nil, List.append_nil, List.nil_append, List.cons_append, Int32.reduceLT, Int32.reduceLE, Int32.reduceAdd, Int32.reduceSub, Int32.reduceMul, Int32.reduceToInt, Int32.reduceToNatClampNeg, Int.reduceLT, Int.reduceLE, Int.reduceNeg, true_and, and_true, or_self, or_false, false_or, false_and, and_false, true_or, or_true, if_true, if_false, ne_eq, Classical.not_not, not_true_eq_false, not_false_eq_true, true_implies, false_implies, implies_true, Nat.reduceEqDiff, Nat.reduceAdd, Nat.reduceLeDiff, Nat.reduceSub, reduceCtorEq, reduceIte, b19_46, skX s2, skX s3, srX s3, h00, Nat.reduceLT, e142_40 _ _ s3, e3]
    refine sp_enter cc H3 (by rw [f3]; omega) (fun h4 H4 => ?_)
    have s4 := H4.1.1.1.1
    simp only [lv_args, z_v, z_lg, z_h, z_u, z_u1, z_c, z_ct, z_sk, sbne, lst1_d, ldel, lst2_d, ldel2, z_sw, z_rok, zi, eq_self, List.map_cons, List.map_nil, List.append_nil, List.nil_append, List.cons_append, Int32.reduceLT, Int32.reduceLE, Int32.reduceAdd, Int32.reduceSub, Int32.reduceMul, Int32.reduceToInt, Int32.reduceToNatClampNeg, Int.reduceLT, Int.reduceLE, Int.reduceNeg, true_and, and_true, or_self, or_false, false_or, false_and, and_false, true_or, or_true, if_true, if_false, ne_eq, Classical.not_not, not_true_eq_false, not_false_eq_true, true_implies, false_implies, implies_true, Nat.reduceEqDiff, Nat.reduceAdd, Nat.reduceLeDiff, Nat.reduceSub, reduceCtorEq, reduceIte, b19_46, skX s3, skX s4, h00, Nat.reduceLT]
    have esc4 : rSc (cEn z1) = rSc z := f2
    refine sp_bindNames cc tL x5 a6 a5 H4 (by rw [esc4]; omega) (by omega) (fun h5 H5 => ?_)
    have hk4 : KI (cEn z1).2.1 := ki_en (s := z1.2.1) (by rw [f4]; exact w.1)
    obtain ⟨B1, E5, B2, B3⟩ := bn_e (N := N) (a := n) (pts N L) [] 0 (cEn z1) hk4
    obtain ⟨nB1, nB2⟩ := bnd_b B1
    have lB : (rSc (cBn N (pts N L) [] 0 (cEn z1))).length = (rSc z).length + (pts N L).length := by
      obtain ⟨tt, y1, y2, _⟩ := B1
      rw [y1, List.length_append, y2, esc4]
    have g5 : gd c1 c2 (cBn N (pts N L) [] 0 (cEn z1)) → gd c1 c2 z1 := fun G => by
      have := gd_ef E5 G
      exact this
    generalize ez5 : cBn N (pts N L) [] 0 (cEn z1) = z5 at *
    have s5 := H5.1.1.1.1
    have r5 := cc_rd cc H5.1
    have H6 := ch_dd (dp := (pts N L).length) (dx := (pts N L).length) (v := nI (pts N L).length) (w := nI (pts N L).length) cc H5 (fun _ => ⟨rfl, rfl⟩)
    have w6 : CW (9 * g) g (cDD (pts N L).length (pts N L).length z5) := ⟨nB2, by show (rSc z5).length + _ ≤ _; rw [lB]; omega, by
      show rBd z5 + g ≤ 31
      rw [nB1]
      show rBd z1 + 1 + g ≤ 31
      rw [f3]; omega, fun hn => ⟨by show (pts N L).length + 9 * g ≤ 300; omega, by show (pts N L).length ≤ 300; omega⟩⟩
    have s6 := H6.1.1.1.1
    have r6 := cc_rd cc H6.1
    have hcd5 : rCd z5 = rCd z1 := (u_of B2).1
    obtain ⟨q1, q2, q3, q4, q5⟩ := bo_e fb.1 (la := true) ((pts N n).drop 2) (n + 1) b _ dne hsq w6.1
    have w7 := cw_Bo (la := true) fb hNm ((pts N n).drop 2) a0 _ dne t3 w6
    simp only [lv_args, z_v, z_lg, z_h, z_u, z_u1, z_c, z_ct, z_sk, sbne, lst1_d, ldel, lst2_d, ldel2, z_sw, z_rok, zi, eq_self, List.map_cons, List.map_nil, List.append_nil, List.nil_append, List.cons_append, Int32.reduceLT, Int32.reduceLE, Int32.reduceAdd, Int32.reduceSub, Int32.reduceMul, Int32.reduceToInt, Int32.reduceToNatClampNeg, Int.reduceLT, Int.reduceLE, Int.reduceNeg, true_and, and_true, or_self, or_false, false_or, false_and, and_false, true_or, or_true, if_true, if_false, ne_eq, Classical.not_not, not_true_eq_false, not_false_eq_true, true_implies, false_implies, implies_true, Nat.reduceEqDiff, Nat.reduceAdd, Nat.reduceLeDiff, Nat.reduceSub, reduceCtorEq, reduceIte, b19_46, skX s4, skX s5, srX s5, h00, Nat.reduceLT, rd_x s6 r6 x1, x3, rd_m s6 r6 hn ht (by omega) (by omega : 0 < d - 1), es, ← hd_dr]
    refine sp_bodyC (la := true) cc fb hlv hlv2 (by omega) t3 w6 H6 (fun h7 H7 => ?_)
    generalize ez7 : cBo F true ((pts N n).drop 2) (cDD (pts N L).length (pts N L).length z5) = z7 at *
    have s7 := H7.1.1.1.1
    have R7 := cc_R cc H7.1
    have g7 : gd c1 c2 z7 → gd c1 c2 z1 := fun G => g5 (gd_ef (z := cDD (pts N L).length (pts N L).length z5) q4 G)
    have bd7 : rBd z7 = rBd z + 1 := by
      rw [q2]
      show rBd z5 = _
      rw [nB1]
      show rBd z1 + 1 = _
      rw [f3]
    have sc7 : (rSc z7).length = (rSc z).length + (pts N L).length := by
      rw [q1]
      exact lB
    have hm7 : (rLm z).length < (rLm z7).length := H7.1.2.2.2.2.2.1.2.2.1.2.2 _ List.mem_cons_self
    have hmo : (rLm z).length ∉ op := fun hc => Nat.lt_irrefl _ (H.1.2.2.2.2.2.1.2.2.1.2.2 _ hc)
    have cd7 : gd c1 c2 z7 → (rCd z).length + 2 ≤ (rCd z7).length := fun G => by
      have l1 := (q4.2 G.1).1.1.length_le
      have l2 : (rCd (cDD (pts N L).length (pts N L).length z5)).length = (rCd z1).length := by show (rCd z5).length = _; rw [hcd5]
      omega
    simp only [lv_args, z_v, z_lg, z_h, z_u, z_u1, z_c, z_ct, z_sk, sbne, lst1_d, ldel, lst2_d, ldel2, z_sw, z_rok, zi, eq_self, List.map_cons, List.map_nil, List.append_nil, List.nil_append, List.cons_append, Int32.reduceLT, Int32.reduceLE, Int32.reduceAdd, Int32.reduceSub, Int32.reduceMul, Int32.reduceToInt, Int32.reduceToNatClampNeg, Int.reduceLT, Int.reduceLE, Int.reduceNeg, true_and, and_true, or_self, or_false, false_or, false_and, and_false, true_or, or_true, if_true, if_false, ne_eq, Classical.not_not, not_true_eq_false, not_false_eq_true, true_implies, false_implies, implies_true, Nat.reduceEqDiff, Nat.reduceAdd, Nat.reduceLeDiff, Nat.reduceSub, reduceCtorEq, reduceIte, b19_46, skX s6, skX s7, srX s7, h00, Nat.reduceLT, R7, kp s7]
    refine sp_endl (m := (rLm z).length) (en := (rCd z).length + 2) cc H7 q3 (by omega) hm7 hmo (fun G => ⟨by rw [hov' (g7 G), nI_s], (H7.1.2.2.2.2.2.2 G).2.1⟩) (by omega) (fun h8 H8 => ?_)
    have s8 := H8.1.1.1.1
    simp only [lv_args, z_v, z_lg, z_h, z_u, z_u1, z_c, z_ct, z_sk, sbne, lst1_d, ldel, lst2_d, ldel2, z_sw, z_rok, zi, eq_self, List.map_cons, List.map_nil, List.append_nil, List.nil_append, List.cons_append, Int32.reduceLT, Int32.reduceLE, Int32.reduceAdd, Int32.reduceSub, Int32.reduceMul, Int32.reduceToInt, Int32.reduceToNatClampNeg, Int.reduceLT, Int.reduceLE, Int.reduceNeg, true_and, and_true, or_self, or_false, false_or, false_and, and_false, true_or, or_true, if_true, if_false, ne_eq, Classical.not_not, not_true_eq_false, not_false_eq_true, true_implies, false_implies, implies_true, Nat.reduceEqDiff, Nat.reduceAdd, Nat.reduceLeDiff, Nat.reduceSub, reduceCtorEq, reduceIte, b19_46, skX s7, skX s8, srX s8, h00, Nat.reduceLT]
    refine sp_leave cc H8 (by show 1 ≤ rBd z7; omega) (fun h9 H9 => ?_)
    have s9 := H9.1.1.1.1
    simp only [lv_args, z_v, z_lg, z_h, z_u, z_u1, z_c, z_ct, z_sk, sbne, lst1_d, ldel, lst2_d, ldel2, z_sw, z_rok, zi, eq_self, List.map_cons, List.map_nil, List.append_nil, List.nil_append, List.cons_append, Int32.reduceLT, Int32.reduceLE, Int32.reduceAdd, Int32.reduceSub, Int32.reduceMul, Int32.reduceToInt, Int32.reduceToNatClampNeg, Int.reduceLT, Int.reduceLE, Int.reduceNeg, true_and, and_true, or_self, or_false, false_or, false_and, and_false, true_or, or_true, if_true, if_false, ne_eq, Classical.not_not, not_true_eq_false, not_false_eq_true, true_implies, false_implies, implies_true, Nat.reduceEqDiff, Nat.reduceAdd, Nat.reduceLeDiff, Nat.reduceSub, reduceCtorEq, reduceIte, b19_46, skX s8, skX s9, srX s9, h00, Nat.reduceLT]
    refine sp_unb (k := (rSc z).length) cc H9 (by show _ ≤ (rSc z7).length; omega) (by omega) (fun h10 H10 => ?_)
    have s10 := H10.1.1.1.1
    have R10 := cc_R cc H10.1
    have H11 := ch_dd (dp := rDp z1) (dx := rDx z1) (v := hI h3 39 6) (w := hI h3 39 7) cc H10 (fun G => ⟨(H3.1.2.2.2.2.2.2 (g7 G)).1, (H3.1.2.2.2.2.2.2 (g7 G)).2.1⟩)
    simp only [lv_args, z_v, z_lg, z_h, z_u, z_u1, z_c, z_ct, z_sk, sbne, lst1_d, ldel, lst2_d, ldel2, z_sw, z_rok, zi, eq_self, List.map_cons, List.map_nil, List.append_nil, List.nil_append, List.cons_append, Int32.reduceLT, Int32.reduceLE, Int32.reduceAdd, Int32.reduceSub, Int32.reduceMul, Int32.reduceToInt, Int32.reduceToNatClampNeg, Int.reduceLT, Int.reduceLE, Int.reduceNeg, true_and, and_true, or_self, or_false, false_or, false_and, and_false, true_or, or_true, if_true, if_false, ne_eq, Classical.not_not, not_true_eq_false, not_false_eq_true, true_implies, false_implies, implies_true, Nat.reduceEqDiff, Nat.reduceAdd, Nat.reduceLeDiff, Nat.reduceSub, reduceCtorEq, reduceIte, b19_46, skX s9, skX s10, srX s10, h00, Nat.reduceLT, R10, kp s10]
    refine sp_land (x := (rCd z).length + 1) cc H11 (fun G => ⟨hov' (g7 G), by show _ < (rCd z7).length; have := cd7 G; omega⟩) (fun xr h12 H12 _ => ?_)
    have s12 := H12.1.1.1.1
    simp only [lv_args, z_v, z_lg, z_h, z_u, z_u1, z_c, z_ct, z_sk, sbne, lst1_d, ldel, lst2_d, ldel2, z_sw, z_rok, zi, eq_self, List.map_cons, List.map_nil, List.append_nil, List.nil_append, List.cons_append, Int32.reduceLT, Int32.reduceLE, Int32.reduceAdd, Int32.reduceSub, Int32.reduceMul, Int32.reduceToInt, Int32.reduceToNatClampNeg, Int.reduceLT, Int.reduceLE, Int.reduceNeg, true_and, and_true, or_self, or_false, false_or, false_and, and_false, true_or, or_true, if_true, if_false, ne_eq, Classical.not_not, not_true_eq_false, not_false_eq_true, true_implies, false_implies, implies_true, Nat.reduceEqDiff, Nat.reduceAdd, Nat.reduceLeDiff, Nat.reduceSub, reduceCtorEq, reduceIte, b19_46, skX s10, skX s12, h00, Nat.reduceLT]
    refine sp_gb cc H12 (fun G => by
      have hz : rFl z = none := by
        have G7 : gd c1 c2 z7 := gd_Ld G
        exact (f9 (g7 G7)).1
      have := w.2.2.2 hz
      refine ⟨?_, ?_⟩
      · show rDp z1 < 1000000
        omega
      · show rDx z1 < 1000000
        omega) (by omega) (fun h13 H13 => ?_)
    have s13 := H13.1.1.1.1
    simp only [lv_args, z_v, z_lg, z_h, z_u, z_u1, z_c, z_ct, z_sk, sbne, lst1_d, ldel, lst2_d, ldel2, z_sw, z_rok, zi, eq_self, List.map_cons, List.map_nil, List.append_nil, List.nil_append, List.cons_append, Int32.reduceLT, Int32.reduceLE, Int32.reduceAdd, Int32.reduceSub, Int32.reduceMul, Int32.reduceToInt, Int32.reduceToNatClampNeg, Int.reduceLT, Int.reduceLE, Int.reduceNeg, true_and, and_true, or_self, or_false, false_or, false_and, and_false, true_or, or_true, if_true, if_false, ne_eq, Classical.not_not, not_true_eq_false, not_false_eq_true, true_implies, false_implies, implies_true, Nat.reduceEqDiff, Nat.reduceAdd, Nat.reduceLeDiff, Nat.reduceSub, reduceCtorEq, reduceIte, b19_46, skX s12, skX s13, Nat.reduceLT]
    exact hq h13 H13
end CLM
