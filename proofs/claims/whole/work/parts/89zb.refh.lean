/-! worked values in the reference -/
theorem cpyL_s {f : Nat → Int64} {j : Nat} : vp_updL (va_cpy f (fun _ => 0) 0 0 j) j (f j) = va_cpy f (fun _ => 0) 0 0 (j + 1) := by
  funext i
  unfold vp_updL va_cpy
  by_cases c : i = j
  · subst c
    rw [if_pos rfl, if_pos (by omega), Nat.sub_zero, Nat.zero_add]
  · rw [if_neg c]
    by_cases c2 : 0 ≤ i ∧ i < 0 + j
    · rw [if_pos c2, if_pos (by omega)]
    · rw [if_neg c2, if_neg (by omega)]
/-- all groups but the worked values -/
def KMw (h h' : Hp) : Prop := (∀ md nw, MXc md nw h → MXc md nw h') ∧ (∀ td, MXt td h → MXt td h') ∧ (∀ sl bs pr bx ps, MXb sl bs pr bx ps h → MXb sl bs pr bx ps h') ∧ (∀ pa ce gr, MXs pa ce gr h → MXs pa ce gr h') ∧ (∀ inp out, MXp inp out h → MXp inp out h') ∧ (∀ th op st lt bu, MXd th op st lt bu h → MXd th op st lt bu h') ∧ hI h' 59 68 = hI h 59 68 ∧ hI h' 59 69 = hI h 59 69 ∧ hI h' 59 71 = hI h 59 71
section REH
variable {h h' : Hp} {Q : Option Value → Hp → Prop} {d : Nat} {G : PG} {q : Nat} {qv : Nat → Int64} {r n : Nat} {td : List TD} {wk : List Int64} {v : Int64}
theorem kmw_tr {h1 h2 : Hp} (a : KMw h h1) (b : KMw h1 h2) : KMw h h2 := ⟨fun _ _ q => b.1 _ _ (a.1 _ _ q), fun _ q => b.2.1 _ (a.2.1 _ q), fun _ _ _ _ _ q => b.2.2.1 _ _ _ _ _ (a.2.2.1 _ _ _ _ _ q), fun _ _ _ q => b.2.2.2.1 _ _ _ (a.2.2.2.1 _ _ _ q), fun _ _ q => b.2.2.2.2.1 _ _ (a.2.2.2.2.1 _ _ q), fun _ _ _ _ _ q => b.2.2.2.2.2.1 _ _ _ _ _ (a.2.2.2.2.2.1 _ _ _ _ _ q), b.2.2.2.2.2.2.1.trans a.2.2.2.2.2.2.1, b.2.2.2.2.2.2.2.1.trans a.2.2.2.2.2.2.2.1, b.2.2.2.2.2.2.2.2.trans a.2.2.2.2.2.2.2.2⟩
theorem kmw_gro (g : Gro 125 n h h') : KMw h h' := by
  have q : ∀ b, b < 130 → b ≠ 125 → hA h' b = hA h b ∧ hB h' b = hB h b ∧ hN h' b = hN h b := fun b h1 h2 => g.2.2.2.2.1 b h1 h2
  have i1 := g.2.1
  have l1 := g.2.2.1
  have q122 := q 122 (by decide) (by decide)
  have q123 := q 123 (by decide) (by decide)
  have q124 := q 124 (by decide) (by decide)
  have q121 := q 121 (by decide) (by decide)
  have q116 := q 116 (by decide) (by decide)
  have q117 := q 117 (by decide) (by decide)
  have q118 := q 118 (by decide) (by decide)
  have q119 := q 119 (by decide) (by decide)
  have q120 := q 120 (by decide) (by decide)
  have q112 := q 112 (by decide) (by decide)
  have q113 := q 113 (by decide) (by decide)
  have q126 := q 126 (by decide) (by decide)
  have q127 := q 127 (by decide) (by decide)
  have q128 := q 128 (by decide) (by decide)
  refine ⟨fun _ _ q => ?_, fun _ q => ?_, fun _ _ _ _ _ q => ?_, fun _ _ _ q => ?_, fun _ _ q => ?_, fun _ _ _ _ _ q => ?_, by rw [i1], by rw [i1], by rw [i1]⟩
  · unfold MXc at q ⊢; rw [i1, l1]; exact q
  · unfold MXt at q ⊢; rw [i1, q122.1, q122.2.2, q123.1, q123.2.2, q124.1, q124.2.2]; exact q
  · unfold MXb Bxs at q ⊢
    rw [i1, q121.1, q121.2.2, q116.1, q116.2.2, q117.1, q117.2.2, q118.1, q118.2.2, q119.2.1, q119.2.2, q120.1, q120.2.2]; exact q
  · unfold MXs at q ⊢; rw [i1, q112.2.1, q112.2.2, q113.2.1, q113.2.2, q126.2.1, q126.2.2]; exact q
  · unfold MXp at q ⊢; rw [i1, q127.1, q127.2.2, q128.1, q128.2.2]; exact q
  · unfold MXd at q ⊢; rw [i1, l1]; exact q
theorem kmw_rf : KMw h h := ⟨fun _ _ q => q, fun _ q => q, fun _ _ _ _ _ q => q, fun _ _ _ q => q, fun _ _ q => q, fun _ _ _ _ _ q => q, rfl, rfl, rfl⟩
theorem kmw_w {f : Nat → Int64} {x : Int32} : KMw h (pI (pB h 125 f) 59 52 x) := ⟨fun _ _ q => q, fun _ q => q, fun _ _ _ _ _ q => q, fun _ _ _ q => q, fun _ _ q => q, fun _ _ _ _ _ q => q, rfl, rfl, rfl⟩
theorem ph_tail {h0 : Hp} {L : ALS} (S : SM G q qv h) (kk : KMw h0 h) (w : MXw wk h) (hl : wk.length < hN h 125) (l0 : lgv L 0 = .ref 59) (l1 : lgv L 1 = .long v) (hq : ∀ h', SM G q qv h' → KMw h0 h' → MXw (wk ++ [v]) h' → Q none h') : aWP d 250 55 L [] h Q := by
  have s := S.1
  obtain ⟨w1, w2, w3, w4⟩ := w
  simp only [lv_args, z_v, z_lg, z_h, z_u, z_u1, z_c, z_ct, z_sk, sbne, z_rok, zi, eq_self, List.map_cons, List.map_nil, List.append_nil, List.nil_append, List.cons_append, Int32.reduceLT, Int32.reduceLE, Int32.reduceAdd, Int32.reduceSub, Int32.reduceMul, Int32.reduceToInt, Int32.reduceToNatClampNeg, Int.reduceLT, Int.reduceLE, Int.reduceNeg, true_and, and_true, or_self, or_false, false_or, false_and, and_false, true_or, or_true, if_true, if_false, ne_eq, Classical.not_not, not_true_eq_false, not_false_eq_true, true_implies, false_implies, implies_true, Nat.reduceEqDiff, Nat.reduceAdd, Nat.reduceLeDiff, Nat.reduceSub, reduceCtorEq, reduceIte, b250_55, skM s, srM s, w1, l0, l1, nI_1]
  simp (disch := omega) only [nI_ti, nI_cl, le0N, ltNN, true_and]
  refine ⟨hl, ?_⟩
  try simp only [lv_args, z_v, z_lg, z_h, z_u, z_u1, z_c, z_ct, z_sk, sbne, z_rok, zi, eq_self, List.map_cons, List.map_nil, List.append_nil, List.nil_append, List.cons_append, Int32.reduceLT, Int32.reduceLE, Int32.reduceAdd, Int32.reduceSub, Int32.reduceMul, Int32.reduceToInt, Int32.reduceToNatClampNeg, Int.reduceLT, Int.reduceLE, Int.reduceNeg, true_and, and_true, or_self, or_false, false_or, false_and, and_false, true_or, or_true, if_true, if_false, ne_eq, Classical.not_not, not_true_eq_false, not_false_eq_true, true_implies, false_implies, implies_true, Nat.reduceEqDiff, Nat.reduceAdd, Nat.reduceLeDiff, Nat.reduceSub, reduceCtorEq, reduceIte, b250_55, skM s, srM s, w1, l0, l1, nI_1]
  refine hq _ (sm_I (sm_B (by decide) S)) (kmw_tr kk kmw_w) ⟨?_, ?_, w3, upd_app w4⟩
  · show nI (wk.length + 1) = _
    simp
  · simp only [List.length_append, List.length_singleton]
    exact hl
theorem sp_pushM (S : SM G q qv h) (hd : 4 < d) (w : MXw wk h) (hb : wk.length ≤ 305000) (hq : ∀ h', SM G q qv h' → KMw h h' → MXw (wk ++ [v]) h' → Q none h') : aEv d 250 [.ref 59, .long v] h Q := by
  have s := S.1
  have w' := w
  obtain ⟨w1, w2, w3, w4⟩ := w
  have h130 := s.2.2
  unfold aEv
  simp only [lv_args, z_v, z_lg, z_h, z_u, z_u1, z_c, z_ct, z_sk, sbne, lst1_d, ldel, lst2_d, ldel2, z_sw, z_rok, zi, eq_self, List.map_cons, List.map_nil, List.append_nil, List.nil_append, List.cons_append, Int32.reduceLT, Int32.reduceLE, Int32.reduceAdd, Int32.reduceSub, Int32.reduceMul, Int32.reduceToInt, Int32.reduceToNatClampNeg, Int.reduceLT, Int.reduceLE, Int.reduceNeg, true_and, and_true, or_self, or_false, false_or, false_and, and_false, true_or, or_true, if_true, if_false, ne_eq, Classical.not_not, not_true_eq_false, not_false_eq_true, true_implies, false_implies, implies_true, Nat.reduceEqDiff, Nat.reduceAdd, Nat.reduceLeDiff, Nat.reduceSub, reduceCtorEq, reduceIte, b250_0, skM s, srM s, w1, Nat.reduceLeDiff]
  simp (disch := omega) only [nI_eqN]
  refine ⟨fun c => ph_tail S kmw_rf w' (by omega) rfl rfl hq, fun c => ?_⟩
  have c : wk.length = hN h 125 := c
  have h16 := (S.2.2.1.2.2 125 (by decide)).1
  have hsb := rm_sb S.2.2.1
  have k125 : hK h 125 = 15 := s.1 125 (by decide)
  have hne : (125 : Nat) ≠ hn h := by omega
  have z2 : (2 : Int32) * nI (hN h 125) = nI (2 * hN h 125) := (Int32.ofNat_mul 2 (hN h 125)).symm
  obtain ⟨g1, g2⟩ := gro_J s (a := 125) (by decide) (2 * hN h 125)
  have e := (rmJ_r h 125 (2 * hN h 125) (by omega)).2.2.2.2.2.2.2.2.1
  rw [if_neg (by omega), Nat.max_self] at e
  have S1 : SM G q qv (rmJ h 125 (2 * hN h 125)) := sm_gro g1 S (by decide) (by decide) (by rw [e]; show 2 * hN h 125 ≤ 620000; omega)
  have wH : MXw wk (rmJ h 125 (2 * hN h 125)) := by
    refine ⟨by rw [g1.2.1]; exact w1, by omega, by omega, fun i x qe => ?_⟩
    have := g_lt qe
    rw [g2 i (by omega)]; exact w4 i x qe
  -- the copy
  have lp : ∀ (m j : Nat), j + m = hN h 125 → aWP d 250 24 [(4, .int (nI j)), (3, .ref (hn h)), (0, .ref 59), (1, .long v)] [] (pB (nA h 15 (2 * hN h 125)) (hn h) (va_cpy (hB h 125) (fun _ => 0) 0 0 j)) Q := by
    intro m
    induction m with
    | zero =>
      intro j hj
      have hj : j = hN h 125 := by omega
      subst hj
      have eC : cpJ h 125 (2 * hN h 125) = pB (nA h 15 (2 * hN h 125)) (hn h) (va_cpy (hB h 125) (fun _ => 0) 0 0 (hN h 125)) := by
        unfold cpJ
        rw [Nat.min_eq_left (by omega)]
      rw [← eC]
      have kC : hK (cpJ h 125 (2 * hN h 125)) 59 = 12 := (up1_ne (by omega)).trans (s.1 59 (by decide))
      have iC : hI (cpJ h 125 (2 * hN h 125)) 59 52 = nI (hN h 125) := by rw [c] at w1; exact w1
      have rC : hR (cpJ h 125 (2 * hN h 125)) 59 51 = some 125 := s.2.1 59 51 rfl
      have k1 : hK (cpJ h 125 (2 * hN h 125)) 125 = 15 := (up1_ne hne).trans k125
      have k2 : hK (cpJ h 125 (2 * hN h 125)) (hn h) = 15 := up1_eq
      have hsw : swOK (cpJ h 125 (2 * hN h 125)) [(4, .int (nI (hN h 125))), (3, .ref (hn h)), (0, .ref 59), (1, .long v)] [] 59 51 125 (hn h) := by
        refine ⟨hne, k1.trans k2.symm, by rw [k1]; decide, vy_cl s S.2.1, vy_uq s S.2.1 (by decide) rt_m.2.2.2.1, fun x hx e => ?_, fun x hx => by cases hx⟩
        simp only [List.mem_cons, List.not_mem_nil, or_false] at hx
        rcases hx with rfl | rfl | rfl | rfl
        · cases e
        · injection e with e; exact hne e.symm
        · injection e with e; exact absurd e (by decide)
        · cases e
      have ps := (k_putS (d := d) (L := [(4, .int (nI (hN h 125))), (3, .ref (hn h)), (0, .ref 59), (1, .long v)]) (st := []) (Q := Q) mm_250 dX13_push_52 fl_13_110 rfl (by unfold finOK; decide +kernel) rC hsw).mpr ⟨⟨kC, hsb⟩, ?_⟩
      · generalize cpJ h 125 (2 * hN h 125) = H at *
        simp only [lv_args, z_v, z_lg, z_h, z_u, z_u1, z_c, z_ct, z_sk, sbne, lst1_d, ldel, lst2_d, ldel2, z_sw, z_rok, zi, eq_self, List.map_cons, List.map_nil, List.append_nil, List.nil_append, List.cons_append, Int32.reduceLT, Int32.reduceLE, Int32.reduceAdd, Int32.reduceSub, Int32.reduceMul, Int32.reduceToInt, Int32.reduceToNatClampNeg, Int.reduceLT, Int.reduceLE, Int.reduceNeg, true_and, and_true, or_self, or_false, false_or, false_and, and_false, true_or, or_true, if_true, if_false, ne_eq, Classical.not_not, not_true_eq_false, not_false_eq_true, true_implies, false_implies, implies_true, Nat.reduceEqDiff, Nat.reduceAdd, Nat.reduceLeDiff, Nat.reduceSub, reduceCtorEq, reduceIte, b250_24, kC, iC]
        simp (disch := omega) only [nI_leN]
        refine ⟨fun _ => ?_, fun q => absurd (Nat.le_refl _) q⟩
        simp only [lv_args, z_v, z_lg, z_h, z_u, z_u1, z_c, z_ct, z_sk, sbne, lst1_d, ldel, lst2_d, ldel2, z_sw, z_rok, zi, eq_self, List.map_cons, List.map_nil, List.append_nil, List.nil_append, List.cons_append, Int32.reduceLT, Int32.reduceLE, Int32.reduceAdd, Int32.reduceSub, Int32.reduceMul, Int32.reduceToInt, Int32.reduceToNatClampNeg, Int.reduceLT, Int.reduceLE, Int.reduceNeg, true_and, and_true, or_self, or_false, false_or, false_and, and_false, true_or, or_true, if_true, if_false, ne_eq, Classical.not_not, not_true_eq_false, not_false_eq_true, true_implies, false_implies, implies_true, Nat.reduceEqDiff, Nat.reduceAdd, Nat.reduceLeDiff, Nat.reduceSub, reduceCtorEq, reduceIte, b250_50.1, b250_50.2.1]
        exact ps
      · have eR : rmJ h 125 (2 * hN h 125) = nS (cpJ h 125 (2 * hN h 125)) 125 (hn h) := by
          unfold rmJ
          rw [if_neg (by omega), Nat.max_self]
        rw [← eR]
        have n59 : ¬ (Value.ref 59 = Value.ref (hn h)) := fun e => by
          injection e with e
          have e : (59 : Nat) = hn h := e
          omega
        have rn : ([(4, Value.int (nI (hN h 125))), (3, .ref (hn h)), (0, .ref 59), (1, .long v)] : ALS).map (fun x => (x.1, rnm 125 (hn h) x.2)) = [(4, .int (nI (hN h 125))), (3, .ref 125), (0, .ref 59), (1, .long v)] := by
          simp only [List.map_cons, List.map_nil, rnm, if_neg n59, if_pos, reduceCtorEq, if_false]
        rw [rn]
        exact ph_tail S1 (kmw_gro g1) wH (by omega) rfl rfl hq
    | succ m ih =>
      intro j hj
      have next := ih (j + 1) (by omega)
      have eS : pB (nA h 15 (2 * hN h 125)) (hn h) (va_cpy (hB h 125) (fun _ => 0) 0 0 (j + 1)) = pB (pB (nA h 15 (2 * hN h 125)) (hn h) (va_cpy (hB h 125) (fun _ => 0) 0 0 j)) (hn h) (vp_updL (va_cpy (hB h 125) (fun _ => 0) 0 0 j) j (hB h 125 j)) := by rw [pB_pB, cpyL_s]
      rw [eS] at next
      have kC : hK (pB (nA h 15 (2 * hN h 125)) (hn h) (va_cpy (hB h 125) (fun _ => 0) 0 0 j)) 59 = 12 := (up1_ne (by omega)).trans (s.1 59 (by decide))
      have iC : hI (pB (nA h 15 (2 * hN h 125)) (hn h) (va_cpy (hB h 125) (fun _ => 0) 0 0 j)) 59 52 = nI (hN h 125) := by rw [c] at w1; exact w1
      have rC : hR (pB (nA h 15 (2 * hN h 125)) (hn h) (va_cpy (hB h 125) (fun _ => 0) 0 0 j)) 59 51 = some 125 := s.2.1 59 51 rfl
      have k1 : hK (pB (nA h 15 (2 * hN h 125)) (hn h) (va_cpy (hB h 125) (fun _ => 0) 0 0 j)) 125 = 15 := (up1_ne hne).trans k125
      have k2 : hK (pB (nA h 15 (2 * hN h 125)) (hn h) (va_cpy (hB h 125) (fun _ => 0) 0 0 j)) (hn h) = 15 := up1_eq
      have n1 : hN (pB (nA h 15 (2 * hN h 125)) (hn h) (va_cpy (hB h 125) (fun _ => 0) 0 0 j)) 125 = hN h 125 := up1_ne hne
      have n2 : hN (pB (nA h 15 (2 * hN h 125)) (hn h) (va_cpy (hB h 125) (fun _ => 0) 0 0 j)) (hn h) = 2 * hN h 125 := up1_eq
      have b1 : hB (pB (nA h 15 (2 * hN h 125)) (hn h) (va_cpy (hB h 125) (fun _ => 0) 0 0 j)) 125 = hB h 125 := (up1_ne hne).trans (up1_ne hne)
      have b2 : hB (pB (nA h 15 (2 * hN h 125)) (hn h) (va_cpy (hB h 125) (fun _ => 0) 0 0 j)) (hn h) = va_cpy (hB h 125) (fun _ => 0) 0 0 j := up1_eq
      generalize pB (nA h 15 (2 * hN h 125)) (hn h) (va_cpy (hB h 125) (fun _ => 0) 0 0 j) = H at *
      simp only [lv_args, z_v, z_lg, z_h, z_u, z_u1, z_c, z_ct, z_sk, sbne, lst1_d, ldel, lst2_d, ldel2, z_sw, z_rok, zi, eq_self, List.map_cons, List.map_nil, List.append_nil, List.nil_append, List.cons_append, Int32.reduceLT, Int32.reduceLE, Int32.reduceAdd, Int32.reduceSub, Int32.reduceMul, Int32.reduceToInt, Int32.reduceToNatClampNeg, Int.reduceLT, Int.reduceLE, Int.reduceNeg, true_and, and_true, or_self, or_false, false_or, false_and, and_false, true_or, or_true, if_true, if_false, ne_eq, Classical.not_not, not_true_eq_false, not_false_eq_true, true_implies, false_implies, implies_true, Nat.reduceEqDiff, Nat.reduceAdd, Nat.reduceLeDiff, Nat.reduceSub, reduceCtorEq, reduceIte, b250_24, kC, iC]
      simp (disch := omega) only [nI_leN]
      refine ⟨fun q => absurd q (by omega), fun _ => ?_⟩
      simp only [lv_args, z_v, z_lg, z_h, z_u, z_u1, z_c, z_ct, z_sk, sbne, lst1_d, ldel, lst2_d, ldel2, z_sw, z_rok, zi, eq_self, List.map_cons, List.map_nil, List.append_nil, List.nil_append, List.cons_append, Int32.reduceLT, Int32.reduceLE, Int32.reduceAdd, Int32.reduceSub, Int32.reduceMul, Int32.reduceToInt, Int32.reduceToNatClampNeg, Int.reduceLT, Int.reduceLE, Int.reduceNeg, true_and, and_true, or_self, or_false, false_or, false_and, and_false, true_or, or_true, if_true, if_false, ne_eq, Classical.not_not, not_true_eq_false, not_false_eq_true, true_implies, false_implies, implies_true, Nat.reduceEqDiff, Nat.reduceAdd, Nat.reduceLeDiff, Nat.reduceSub, reduceCtorEq, reduceIte, b250_33, kC, rC, k1, k2, n1, n2, b1, b2]
      simp (disch := omega) only [nI_ti, nI_cl, le0N, ltNN, true_and]
      refine ⟨by omega, by omega, ?_⟩
      try simp only [lv_args, z_v, z_lg, z_h, z_u, z_u1, z_c, z_ct, z_sk, sbne, lst1_d, ldel, lst2_d, ldel2, z_sw, z_rok, zi, eq_self, List.map_cons, List.map_nil, List.append_nil, List.nil_append, List.cons_append, Int32.reduceLT, Int32.reduceLE, Int32.reduceAdd, Int32.reduceSub, Int32.reduceMul, Int32.reduceToInt, Int32.reduceToNatClampNeg, Int.reduceLT, Int.reduceLE, Int.reduceNeg, true_and, and_true, or_self, or_false, false_or, false_and, and_false, true_or, or_true, if_true, if_false, ne_eq, Classical.not_not, not_true_eq_false, not_false_eq_true, true_implies, false_implies, implies_true, Nat.reduceEqDiff, Nat.reduceAdd, Nat.reduceLeDiff, Nat.reduceSub, reduceCtorEq, reduceIte, b250_33, nI_1]
      exact next
  have l0 := lp (hN h 125) 0 (by omega)
  have e0 : pB (nA h 15 (2 * hN h 125)) (hn h) (va_cpy (hB h 125) (fun _ => 0) 0 0 0) = nA h 15 (2 * hN h 125) := by
    have e1 : va_cpy (hB h 125) (fun _ => 0) 0 0 0 = hB (nA h 15 (2 * hN h 125)) (hn h) := by
      funext i
      exact (if_neg (by omega)).trans (congrFun (up1_eq : va_up (hB h) (hn h) (fun _ => (0 : Int64)) (hn h) = fun _ => 0) i).symm
    rw [e1]
    exact pB_self _ _
  rw [e0] at l0
  rw [c] at w1
  simp only [lv_args, z_v, z_lg, z_h, z_u, z_u1, z_c, z_ct, z_sk, sbne, lst1_d, ldel, lst2_d, ldel2, z_sw, z_rok, zi, eq_self, List.map_cons, List.map_nil, List.append_nil, List.nil_append, List.cons_append, Int32.reduceLT, Int32.reduceLE, Int32.reduceAdd, Int32.reduceSub, Int32.reduceMul, Int32.reduceToInt, Int32.reduceToNatClampNeg, Int.reduceLT, Int.reduceLE, Int.reduceNeg, true_and, and_true, or_self, or_false, false_or, false_and, and_false, true_or, or_true, if_true, if_false, ne_eq, Classical.not_not, not_true_eq_false, not_false_eq_true, true_implies, false_implies, implies_true, Nat.reduceEqDiff, Nat.reduceAdd, Nat.reduceLeDiff, Nat.reduceSub, reduceCtorEq, reduceIte, b250_12, skM s, w1, z2, hsb]
  simp (disch := omega) only [nI_ti, nI_cl, le0N, true_and]
  refine ⟨by omega, ?_⟩
  try simp only [lv_args, z_v, z_lg, z_h, z_u, z_u1, z_c, z_ct, z_sk, sbne, lst1_d, ldel, lst2_d, ldel2, z_sw, z_rok, zi, eq_self, List.map_cons, List.map_nil, List.append_nil, List.nil_append, List.cons_append, Int32.reduceLT, Int32.reduceLE, Int32.reduceAdd, Int32.reduceSub, Int32.reduceMul, Int32.reduceToInt, Int32.reduceToNatClampNeg, Int.reduceLT, Int.reduceLE, Int.reduceNeg, true_and, and_true, or_self, or_false, false_or, false_and, and_false, true_or, or_true, if_true, if_false, ne_eq, Classical.not_not, not_true_eq_false, not_false_eq_true, true_implies, false_implies, implies_true, Nat.reduceEqDiff, Nat.reduceAdd, Nat.reduceLeDiff, Nat.reduceSub, reduceCtorEq, reduceIte, b250_12]
  exact l0
end REH
