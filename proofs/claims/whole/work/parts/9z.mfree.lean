/-! BUILD. The reference: free names, uses -/
section MFR
variable {h h' h0 : Hp} {Q : Option Value → Hp → Prop} {d n q g a b : Nat} {N : NS} {mt : List Nat} {y : MR}
theorem fr_len (fi : FI y) (hs : (mSg y).length ≤ 250) {l s : Nat} (h1 : 1 ≤ l) (h2 : l ≤ mLv y) (hsl : s < (mSg y).length) (hn : s ∉ (mFe y (mAr y l)).map (·.1)) : (mFe y (mAr y l)).length < 250 := by
  obtain ⟨nd, hx⟩ := fi.2.2.2 l h1 h2
  have := pige_nd (mSg y).length (s :: fes y (mAr y l)) (List.nodup_cons.mpr ⟨hn, nd⟩) (fun x hx' => by
    rcases List.mem_cons.mp hx' with rfl | hx'
    · exact hsl
    · exact (hx x hx').1)
  have e : (fes y (mAr y l)).length = (mFe y (mAr y l)).length := List.length_map _
  simp only [List.length_cons] at this
  omega
theorem mfr_h1 : ∀ (l s : Nat) (y : MR) (M : Nat), (∀ l', 1 ≤ l' → l' ≤ l → M ≠ mAr y l') → mFe (mFr l s y).2 M = mFe y M
  | 0, _, _, _, _ => rfl
  | l + 1, s, y, M, h => by
    have hM := h (l + 1) (by omega) (Nat.le_refl _)
    rw [mFr]
    split
    · rfl
    · split
      · show (if M = mAr y (l + 1) then _ else mFe y M) = _
        rw [if_neg hM]
      · show (if M = mAr y (l + 1) then _ else mFe (mFr l s y).2 M) = _
        rw [if_neg hM]
        exact mfr_h1 l s y M (fun l' h1 h2 => h l' h1 (by omega))
theorem sp_free (md : MD N mt q h0) (hq66 : q = 66 ∨ q = 86) : ∀ (l s l0 : Nat) (y : MR) (h : Hp) (d : Nat) (Q : Option Value → Hp → Prop), MH N mt q h0 y h → FI y → s < (mSg y).length → (sgD y s).2.1 = mAr y l0 → l0 < l → l ≤ mLv y → (∀ M, 1 ≤ M → M ≤ mLa y → (mFe y M).length ≤ 250) → mLa y < 3000 → l + 1 < d → (∀ h', MH N mt q h0 (mFr l s y).2 h' → hv h' = hv h → Q (some (.int (nI (mFr l s y).1))) h') → aEv d 209 [.ref 59, .int (nI l), .int (nI s)] h Q
  | 0, _, _, _, _, _, _, _, _, _, _, hl, _, _, _, _, _ => absurd hl (Nat.not_lt_zero _)
  | l + 1, s, l0, y, h, d, Q, H, fi, hs, hl0, hl, hlv, hall, hla, hd, hq => by
    have h00 : 0 < d := by omega
    have m := md_m md H
    have sk := m.1.1
    have w := sq sk hq66
    have R := mc_R m
    have nn := nq m.1.2 hq66
    have n107 : hN h 107 = 6200 := m.1.2.1.2 (107, 6200) (by decide)
    have n108 : hN h 108 = 6200 := m.1.2.1.2 (108, 6200) (by decide)
    have n109 : hN h 109 = 32 := m.1.2.1.2 (109, 32) (by decide)
    have n111 : hN h 111 = 8192 := m.1.2.1.2 (111, 8192) (by decide)
    obtain ⟨ms1, ms2, ms3⟩ := H.2.2.1
    obtain ⟨ml1, ml2, ml3⟩ := H.2.2.2.1
    obtain ⟨mg1, mg2, mg3, mg4, mg5⟩ := H.2.2.2.2.1
    obtain ⟨a109, _⟩ := ml3 (l + 1) hlv
    obtain ⟨a109', _⟩ := ml3 l (by omega)
    have har := ar_lt fi hlv
    have har' := ar_lt fi (show l ≤ mLv y by omega)
    have a17 := (mg3 _ har).2
    have hg : (mSg y)[s]? = some (sgD y s) := gdD hs
    obtain ⟨_, s107, s108⟩ := ms3 s _ hg
    have hown := hall (mAr y (l + 1)) (by have := fi.2.1 0 (l + 1) (by omega) hlv; omega) har
    have c1 : (l + 1 < 32) = True := eq_true (by omega)
    have c1' : (l < 32) = True := eq_true (by omega)
    have c2 : (mAr y (l + 1) < 3000) = True := eq_true (by omega)
    have c3 : (s < 6200) = True := eq_true (by omega)
    have hAr0 := ar_lt fi (show l0 ≤ mLv y by omega)
    -- one is added
    have add : s ∉ (mFe y (mAr y (l + 1))).map (·.1) → ∀ (y1 : MR) (h1 : Hp) (kb : Int32) (kd fr : Nat), MH N mt q h0 y1 h1 → FI y1 → mAr y1 = mAr y → mLv y1 = mLv y → mLa y1 = mLa y → mFe y1 (mAr y (l + 1)) = mFe y (mAr y (l + 1)) → (∀ M, 1 ≤ M → M ≤ mLa y1 → (mFe y1 M).length ≤ 250) → ((kb = 1 ∧ kd = 1) ∨ (kb = 0 ∧ kd = 2)) → (∀ h', MH N mt q h0 (mFs y1 (mAr y (l + 1)) (mFe y1 (mAr y (l + 1)) ++ [(s, kd, fr)])) h' → hv h' = hv h1 → Q (some (.int (nI (mFe y (mAr y (l + 1))).length))) h') → aWP d 209 100 [(5, .int kb), (4, .int (nI (mAr y (l + 1)))), (3, .ref q), (0, .ref 59), (1, .int (nI (l + 1))), (2, .int (nI s))] [.int (nI fr)] h1 Q := by
      intro hns y1 h1 kb kd fr H1 fi1 e1 e2 e3 e4 hall1 hkb q'
      have m1 := md_m md H1
      have s1 := m1.1.1
      have nn1 := nq m1.1.2 hq66
      have n111' : hN h1 111 = 8192 := m1.1.2.1.2 (111, 8192) (by decide)
      have b17 := (H1.2.2.2.2.1.2.2.1 (mAr y (l + 1)) (by omega)).2
      rw [e4] at b17
      have hlen := fr_len fi ms2 (by omega) hlv hs hns
      have MA := fun (h' : Hp) (f18 f19 : Nat → Int32) (a18 : f18 = if mAr y (l + 1) ≤ 120 then upd (hA h1 (q + 18)) (256 * mAr y (l + 1) + (mFe y (mAr y (l + 1))).length) (nI kd) else hA h1 (q + 18)) (a19 : f19 = if mAr y (l + 1) ≤ 120 then upd (hA h1 (q + 19)) (256 * mAr y (l + 1) + (mFe y (mAr y (l + 1))).length) (nI fr) else hA h1 (q + 19)) (ky : KYf q h0 h') (hh : hI h' = hI h1 ∧ (∀ a, a ≠ q + 17 → a ≠ 111 → a ≠ q + 18 → a ≠ q + 19 → hA h' a = hA h1 a) ∧ hA h' (q + 17) = upd (hA h1 (q + 17)) (mAr y (l + 1)) (nI ((mFe y (mAr y (l + 1))).length + 1)) ∧ hA h' 111 = upd (hA h1 111) (256 * (l + 1) + (mFe y (mAr y (l + 1))).length) (nI s) ∧ hA h' (q + 18) = f18 ∧ hA h' (q + 19) = f19) => mh_add (l := l + 1) (s := s) (kd := kd) (fr := fr) (f18 := f18) (f19 := f19) (h' := h') H1 hq66 fi1 (by omega) (by rw [e2]; exact hlv) (by rw [e1, e4]; exact hlen) hall1 (by rw [e1, e4]; exact a18) (by rw [e1, e4]; exact a19) ky (by rw [e1, e4]; exact hh)
      have K1 := H1.1
      rw [e1] at MA
      have c4 : (256 * (l + 1) + (mFe y (mAr y (l + 1))).length < 8192) = True := eq_true (by omega)
      have z120 : (120 : Int32) = nI 120 := rfl
      have z10 : ¬ (1 : Int32) = 0 := by decide
      rcases hq66 with rfl | rfl
      · have b17 : hA h1 83 (mAr y (l + 1)) = nI (mFe y (mAr y (l + 1))).length := b17
        have n17 : hN h1 83 = 3000 := nn1.2.2.2.2.2.2.2.2.2.2.2.2.2.2.2.2.1
        have n18 : hN h1 84 = 30976 := nn1.2.2.2.2.2.2.2.2.2.2.2.2.2.2.2.2.2.1
        have n19 : hN h1 85 = 30976 := nn1.2.2.2.2.2.2.2.2.2.2.2.2.2.2.2.2.2.2
        have out : ∀ h', MH N mt 66 h0 (mFs y1 (mAr y (l + 1)) (mFe y1 (mAr y (l + 1)) ++ [(s, kd, fr)])) h' → hv h' = hv h1 → aWP d 209 183 [(7, .int (nI (mFe y (mAr y (l + 1))).length)), (6, .int (nI fr)), (5, .int kb), (4, .int (nI (mAr y (l + 1)))), (3, .ref 66), (0, .ref 59), (1, .int (nI (l + 1))), (2, .int (nI s))] [] h' Q := fun h' w1 w2 => by
          simp only [lv_args, z_v, z_lg, z_h, z_u, z_u1, z_c, z_ct, z_sk, sbne, lst1_d, ldel, lst2_d, ldel2, z_sw, z_rok, zi, eq_self, List.map_cons, List.map_nil, List.append_nil, List.nil_append, List.cons_append, Int32.reduceLT, Int32.reduceLE, Int32.reduceAdd, Int32.reduceSub, Int32.reduceMul, Int32.reduceToInt, Int32.reduceToNatClampNeg, Int.reduceLT, Int.reduceLE, Int.reduceNeg, true_and, and_true, or_self, or_false, false_or, false_and, and_false, true_or, or_true, if_true, if_false, ne_eq, Classical.not_not, not_true_eq_false, not_false_eq_true, true_implies, false_implies, implies_true, Nat.reduceEqDiff, Nat.reduceAdd, Nat.reduceLeDiff, Nat.reduceSub, reduceCtorEq, reduceIte, b209_183]
          exact q' h' w1 w2
        simp only [lv_args, z_v, z_lg, z_h, z_u, z_u1, z_c, z_ct, z_sk, sbne, lst1_d, ldel, lst2_d, ldel2, z_sw, z_rok, zi, eq_self, List.map_cons, List.map_nil, List.append_nil, List.nil_append, List.cons_append, Int32.reduceLT, Int32.reduceLE, Int32.reduceAdd, Int32.reduceSub, Int32.reduceMul, Int32.reduceToInt, Int32.reduceToNatClampNeg, Int.reduceLT, Int.reduceLE, Int.reduceNeg, true_and, and_true, or_self, or_false, false_or, false_and, and_false, true_or, or_true, if_true, if_false, ne_eq, Classical.not_not, not_true_eq_false, not_false_eq_true, true_implies, false_implies, implies_true, Nat.reduceEqDiff, Nat.reduceAdd, Nat.reduceLeDiff, Nat.reduceSub, reduceCtorEq, reduceIte, b209_100, skM s1, srM s1, n17, n111']
        simp (disch := omega) only [nI_ti, nI_cl, le0N, ltNN, c2, b17, true_and]
        try simp only [lv_args, z_v, z_lg, z_h, z_u, z_u1, z_c, z_ct, z_sk, sbne, lst1_d, ldel, lst2_d, ldel2, z_sw, z_rok, zi, eq_self, List.map_cons, List.map_nil, List.append_nil, List.nil_append, List.cons_append, Int32.reduceLT, Int32.reduceLE, Int32.reduceAdd, Int32.reduceSub, Int32.reduceMul, Int32.reduceToInt, Int32.reduceToNatClampNeg, Int.reduceLT, Int.reduceLE, Int.reduceNeg, true_and, and_true, or_self, or_false, false_or, false_and, and_false, true_or, or_true, if_true, if_false, ne_eq, Classical.not_not, not_true_eq_false, not_false_eq_true, true_implies, false_implies, implies_true, Nat.reduceEqDiff, Nat.reduceAdd, Nat.reduceLeDiff, Nat.reduceSub, reduceCtorEq, reduceIte, b209_100, skM s1, srM s1, n17, n111', em256, nI_s]
        try simp (disch := omega) only [nI_ti, nI_cl, le0N, ltNN, c2, c4, b17, em256, nI_s, true_and]
        try simp only [lv_args, z_v, z_lg, z_h, z_u, z_u1, z_c, z_ct, z_sk, sbne, lst1_d, ldel, lst2_d, ldel2, z_sw, z_rok, zi, eq_self, List.map_cons, List.map_nil, List.append_nil, List.nil_append, List.cons_append, Int32.reduceLT, Int32.reduceLE, Int32.reduceAdd, Int32.reduceSub, Int32.reduceMul, Int32.reduceToInt, Int32.reduceToNatClampNeg, Int.reduceLT, Int.reduceLE, Int.reduceNeg, true_and, and_true, or_self, or_false, false_or, false_and, and_false, true_or, or_true, if_true, if_false, ne_eq, Classical.not_not, not_true_eq_false, not_false_eq_true, true_implies, false_implies, implies_true, Nat.reduceEqDiff, Nat.reduceAdd, Nat.reduceLeDiff, Nat.reduceSub, reduceCtorEq, reduceIte, b209_100, skM s1, srM s1, n17, n111', z120]
        simp (disch := omega) only [nI_ltN]
        refine ⟨fun c => ?_, fun c => ?_⟩
        · refine out _ (MA _ _ _ (if_neg (by omega)).symm (if_neg (by omega)).symm (ky_A (ky_A K1 (by unfold YA; omega)) (by unfold YA; omega)) ⟨rfl, fun a b1 b2 b3 b4 => (up1_ne b2).trans (up1_ne b1), rfl, rfl, rfl, rfl⟩) rfl
        · have c5 : (256 * mAr y (l + 1) + (mFe y (mAr y (l + 1))).length < 30976) = True := eq_true (by omega)
          have o1 := fun kx (hkx : kx = nI kd) => out (pA (pA (pA (pA h1 83 (upd (hA h1 83) (mAr y (l + 1)) (nI ((mFe y (mAr y (l + 1))).length + 1)))) 111 (upd (hA h1 111) (256 * (l + 1) + (mFe y (mAr y (l + 1))).length) (nI s))) 84 (upd (hA h1 84) (256 * mAr y (l + 1) + (mFe y (mAr y (l + 1))).length) kx)) 85 (upd (hA h1 85) (256 * mAr y (l + 1) + (mFe y (mAr y (l + 1))).length) (nI fr))) (MA _ (upd (hA h1 84) (256 * mAr y (l + 1) + (mFe y (mAr y (l + 1))).length) kx) _ (by rw [if_pos (by omega), hkx]) (if_pos (by omega)).symm (ky_A (ky_A (ky_A (ky_A K1 (by unfold YA; omega)) (by unfold YA; omega)) (by unfold YA; omega)) (by unfold YA; omega)) ⟨rfl, fun a b1 b2 b3 b4 => (up1_ne b4).trans ((up1_ne b3).trans ((up1_ne b2).trans (up1_ne b1))), rfl, rfl, rfl, rfl⟩) rfl
          rcases hkb with ⟨rfl, rfl⟩ | ⟨rfl, rfl⟩
          · have o2 := o1 1 rfl
            simp only [lv_args, z_v, z_lg, z_h, z_u, z_u1, z_c, z_ct, z_sk, sbne, lst1_d, ldel, lst2_d, ldel2, z_sw, z_rok, zi, eq_self, List.map_cons, List.map_nil, List.append_nil, List.nil_append, List.cons_append, Int32.reduceLT, Int32.reduceLE, Int32.reduceAdd, Int32.reduceSub, Int32.reduceMul, Int32.reduceToInt, Int32.reduceToNatClampNeg, Int.reduceLT, Int.reduceLE, Int.reduceNeg, true_and, and_true, or_self, or_false, false_or, false_and, and_false, true_or, or_true, if_true, if_false, ne_eq, Classical.not_not, not_true_eq_false, not_false_eq_true, true_implies, false_implies, implies_true, Nat.reduceEqDiff, Nat.reduceAdd, Nat.reduceLeDiff, Nat.reduceSub, reduceCtorEq, reduceIte, b209_143, skM s1, srM s1, em256, z10]
            simp only [lv_args, z_v, z_lg, z_h, z_u, z_u1, z_c, z_ct, z_sk, sbne, lst1_d, ldel, lst2_d, ldel2, z_sw, z_rok, zi, eq_self, List.map_cons, List.map_nil, List.append_nil, List.nil_append, List.cons_append, Int32.reduceLT, Int32.reduceLE, Int32.reduceAdd, Int32.reduceSub, Int32.reduceMul, Int32.reduceToInt, Int32.reduceToNatClampNeg, Int.reduceLT, Int.reduceLE, Int.reduceNeg, true_and, and_true, or_self, or_false, false_or, false_and, and_false, true_or, or_true, if_true, if_false, ne_eq, Classical.not_not, not_true_eq_false, not_false_eq_true, true_implies, false_implies, implies_true, Nat.reduceEqDiff, Nat.reduceAdd, Nat.reduceLeDiff, Nat.reduceSub, reduceCtorEq, reduceIte, b209_161, b209_166, skM s1, srM s1, em256, n18, n19]
            simp (disch := omega) only [nI_ti, nI_cl, le0N, ltNN, c5, true_and]
            try simp only [lv_args, z_v, z_lg, z_h, z_u, z_u1, z_c, z_ct, z_sk, sbne, lst1_d, ldel, lst2_d, ldel2, z_sw, z_rok, zi, eq_self, List.map_cons, List.map_nil, List.append_nil, List.nil_append, List.cons_append, Int32.reduceLT, Int32.reduceLE, Int32.reduceAdd, Int32.reduceSub, Int32.reduceMul, Int32.reduceToInt, Int32.reduceToNatClampNeg, Int.reduceLT, Int.reduceLE, Int.reduceNeg, true_and, and_true, or_self, or_false, false_or, false_and, and_false, true_or, or_true, if_true, if_false, ne_eq, Classical.not_not, not_true_eq_false, not_false_eq_true, true_implies, false_implies, implies_true, Nat.reduceEqDiff, Nat.reduceAdd, Nat.reduceLeDiff, Nat.reduceSub, reduceCtorEq, reduceIte, b209_166, skM s1, srM s1, em256, n18, n19]
            try simp (disch := omega) only [nI_ti, nI_cl, le0N, ltNN, c5, true_and]
            exact o2
          · have o2 := o1 2 rfl
            simp only [lv_args, z_v, z_lg, z_h, z_u, z_u1, z_c, z_ct, z_sk, sbne, lst1_d, ldel, lst2_d, ldel2, z_sw, z_rok, zi, eq_self, List.map_cons, List.map_nil, List.append_nil, List.nil_append, List.cons_append, Int32.reduceLT, Int32.reduceLE, Int32.reduceAdd, Int32.reduceSub, Int32.reduceMul, Int32.reduceToInt, Int32.reduceToNatClampNeg, Int.reduceLT, Int.reduceLE, Int.reduceNeg, true_and, and_true, or_self, or_false, false_or, false_and, and_false, true_or, or_true, if_true, if_false, ne_eq, Classical.not_not, not_true_eq_false, not_false_eq_true, true_implies, false_implies, implies_true, Nat.reduceEqDiff, Nat.reduceAdd, Nat.reduceLeDiff, Nat.reduceSub, reduceCtorEq, reduceIte, b209_143, skM s1, srM s1, em256]
            simp only [lv_args, z_v, z_lg, z_h, z_u, z_u1, z_c, z_ct, z_sk, sbne, lst1_d, ldel, lst2_d, ldel2, z_sw, z_rok, zi, eq_self, List.map_cons, List.map_nil, List.append_nil, List.nil_append, List.cons_append, Int32.reduceLT, Int32.reduceLE, Int32.reduceAdd, Int32.reduceSub, Int32.reduceMul, Int32.reduceToInt, Int32.reduceToNatClampNeg, Int.reduceLT, Int.reduceLE, Int.reduceNeg, true_and, and_true, or_self, or_false, false_or, false_and, and_false, true_or, or_true, if_true, if_false, ne_eq, Classical.not_not, not_true_eq_false, not_false_eq_true, true_implies, false_implies, implies_true, Nat.reduceEqDiff, Nat.reduceAdd, Nat.reduceLeDiff, Nat.reduceSub, reduceCtorEq, reduceIte, b209_165, b209_166, skM s1, srM s1, em256, n18, n19]
            simp (disch := omega) only [nI_ti, nI_cl, le0N, ltNN, c5, true_and]
            try simp only [lv_args, z_v, z_lg, z_h, z_u, z_u1, z_c, z_ct, z_sk, sbne, lst1_d, ldel, lst2_d, ldel2, z_sw, z_rok, zi, eq_self, List.map_cons, List.map_nil, List.append_nil, List.nil_append, List.cons_append, Int32.reduceLT, Int32.reduceLE, Int32.reduceAdd, Int32.reduceSub, Int32.reduceMul, Int32.reduceToInt, Int32.reduceToNatClampNeg, Int.reduceLT, Int.reduceLE, Int.reduceNeg, true_and, and_true, or_self, or_false, false_or, false_and, and_false, true_or, or_true, if_true, if_false, ne_eq, Classical.not_not, not_true_eq_false, not_false_eq_true, true_implies, false_implies, implies_true, Nat.reduceEqDiff, Nat.reduceAdd, Nat.reduceLeDiff, Nat.reduceSub, reduceCtorEq, reduceIte, b209_166, skM s1, srM s1, em256, n18, n19]
            try simp (disch := omega) only [nI_ti, nI_cl, le0N, ltNN, c5, true_and]
            exact o2
      · have b17 : hA h1 103 (mAr y (l + 1)) = nI (mFe y (mAr y (l + 1))).length := b17
        have n17 : hN h1 103 = 3000 := nn1.2.2.2.2.2.2.2.2.2.2.2.2.2.2.2.2.1
        have n18 : hN h1 104 = 30976 := nn1.2.2.2.2.2.2.2.2.2.2.2.2.2.2.2.2.2.1
        have n19 : hN h1 105 = 30976 := nn1.2.2.2.2.2.2.2.2.2.2.2.2.2.2.2.2.2.2
        have out : ∀ h', MH N mt 86 h0 (mFs y1 (mAr y (l + 1)) (mFe y1 (mAr y (l + 1)) ++ [(s, kd, fr)])) h' → hv h' = hv h1 → aWP d 209 183 [(7, .int (nI (mFe y (mAr y (l + 1))).length)), (6, .int (nI fr)), (5, .int kb), (4, .int (nI (mAr y (l + 1)))), (3, .ref 86), (0, .ref 59), (1, .int (nI (l + 1))), (2, .int (nI s))] [] h' Q := fun h' w1 w2 => by
          simp only [lv_args, z_v, z_lg, z_h, z_u, z_u1, z_c, z_ct, z_sk, sbne, lst1_d, ldel, lst2_d, ldel2, z_sw, z_rok, zi, eq_self, List.map_cons, List.map_nil, List.append_nil, List.nil_append, List.cons_append, Int32.reduceLT, Int32.reduceLE, Int32.reduceAdd, Int32.reduceSub, Int32.reduceMul, Int32.reduceToInt, Int32.reduceToNatClampNeg, Int.reduceLT, Int.reduceLE, Int.reduceNeg, true_and, and_true, or_self, or_false, false_or, false_and, and_false, true_or, or_true, if_true, if_false, ne_eq, Classical.not_not, not_true_eq_false, not_false_eq_true, true_implies, false_implies, implies_true, Nat.reduceEqDiff, Nat.reduceAdd, Nat.reduceLeDiff, Nat.reduceSub, reduceCtorEq, reduceIte, b209_183]
          exact q' h' w1 w2
        simp only [lv_args, z_v, z_lg, z_h, z_u, z_u1, z_c, z_ct, z_sk, sbne, lst1_d, ldel, lst2_d, ldel2, z_sw, z_rok, zi, eq_self, List.map_cons, List.map_nil, List.append_nil, List.nil_append, List.cons_append, Int32.reduceLT, Int32.reduceLE, Int32.reduceAdd, Int32.reduceSub, Int32.reduceMul, Int32.reduceToInt, Int32.reduceToNatClampNeg, Int.reduceLT, Int.reduceLE, Int.reduceNeg, true_and, and_true, or_self, or_false, false_or, false_and, and_false, true_or, or_true, if_true, if_false, ne_eq, Classical.not_not, not_true_eq_false, not_false_eq_true, true_implies, false_implies, implies_true, Nat.reduceEqDiff, Nat.reduceAdd, Nat.reduceLeDiff, Nat.reduceSub, reduceCtorEq, reduceIte, b209_100, skM s1, srM s1, n17, n111']
        simp (disch := omega) only [nI_ti, nI_cl, le0N, ltNN, c2, b17, true_and]
        try simp only [lv_args, z_v, z_lg, z_h, z_u, z_u1, z_c, z_ct, z_sk, sbne, lst1_d, ldel, lst2_d, ldel2, z_sw, z_rok, zi, eq_self, List.map_cons, List.map_nil, List.append_nil, List.nil_append, List.cons_append, Int32.reduceLT, Int32.reduceLE, Int32.reduceAdd, Int32.reduceSub, Int32.reduceMul, Int32.reduceToInt, Int32.reduceToNatClampNeg, Int.reduceLT, Int.reduceLE, Int.reduceNeg, true_and, and_true, or_self, or_false, false_or, false_and, and_false, true_or, or_true, if_true, if_false, ne_eq, Classical.not_not, not_true_eq_false, not_false_eq_true, true_implies, false_implies, implies_true, Nat.reduceEqDiff, Nat.reduceAdd, Nat.reduceLeDiff, Nat.reduceSub, reduceCtorEq, reduceIte, b209_100, skM s1, srM s1, n17, n111', em256, nI_s]
        try simp (disch := omega) only [nI_ti, nI_cl, le0N, ltNN, c2, c4, b17, em256, nI_s, true_and]
        try simp only [lv_args, z_v, z_lg, z_h, z_u, z_u1, z_c, z_ct, z_sk, sbne, lst1_d, ldel, lst2_d, ldel2, z_sw, z_rok, zi, eq_self, List.map_cons, List.map_nil, List.append_nil, List.nil_append, List.cons_append, Int32.reduceLT, Int32.reduceLE, Int32.reduceAdd, Int32.reduceSub, Int32.reduceMul, Int32.reduceToInt, Int32.reduceToNatClampNeg, Int.reduceLT, Int.reduceLE, Int.reduceNeg, true_and, and_true, or_self, or_false, false_or, false_and, and_false, true_or, or_true, if_true, if_false, ne_eq, Classical.not_not, not_true_eq_false, not_false_eq_true, true_implies, false_implies, implies_true, Nat.reduceEqDiff, Nat.reduceAdd, Nat.reduceLeDiff, Nat.reduceSub, reduceCtorEq, reduceIte, b209_100, skM s1, srM s1, n17, n111', z120]
        simp (disch := omega) only [nI_ltN]
        refine ⟨fun c => ?_, fun c => ?_⟩
        · refine out _ (MA _ _ _ (if_neg (by omega)).symm (if_neg (by omega)).symm (ky_A (ky_A K1 (by unfold YA; omega)) (by unfold YA; omega)) ⟨rfl, fun a b1 b2 b3 b4 => (up1_ne b2).trans (up1_ne b1), rfl, rfl, rfl, rfl⟩) rfl
        · have c5 : (256 * mAr y (l + 1) + (mFe y (mAr y (l + 1))).length < 30976) = True := eq_true (by omega)
          have o1 := fun kx (hkx : kx = nI kd) => out (pA (pA (pA (pA h1 103 (upd (hA h1 103) (mAr y (l + 1)) (nI ((mFe y (mAr y (l + 1))).length + 1)))) 111 (upd (hA h1 111) (256 * (l + 1) + (mFe y (mAr y (l + 1))).length) (nI s))) 104 (upd (hA h1 104) (256 * mAr y (l + 1) + (mFe y (mAr y (l + 1))).length) kx)) 105 (upd (hA h1 105) (256 * mAr y (l + 1) + (mFe y (mAr y (l + 1))).length) (nI fr))) (MA _ (upd (hA h1 104) (256 * mAr y (l + 1) + (mFe y (mAr y (l + 1))).length) kx) _ (by rw [if_pos (by omega), hkx]) (if_pos (by omega)).symm (ky_A (ky_A (ky_A (ky_A K1 (by unfold YA; omega)) (by unfold YA; omega)) (by unfold YA; omega)) (by unfold YA; omega)) ⟨rfl, fun a b1 b2 b3 b4 => (up1_ne b4).trans ((up1_ne b3).trans ((up1_ne b2).trans (up1_ne b1))), rfl, rfl, rfl, rfl⟩) rfl
          rcases hkb with ⟨rfl, rfl⟩ | ⟨rfl, rfl⟩
          · have o2 := o1 1 rfl
            simp only [lv_args, z_v, z_lg, z_h, z_u, z_u1, z_c, z_ct, z_sk, sbne, lst1_d, ldel, lst2_d, ldel2, z_sw, z_rok, zi, eq_self, List.map_cons, List.map_nil, List.append_nil, List.nil_append, List.cons_append, Int32.reduceLT, Int32.reduceLE, Int32.reduceAdd, Int32.reduceSub, Int32.reduceMul, Int32.reduceToInt, Int32.reduceToNatClampNeg, Int.reduceLT, Int.reduceLE, Int.reduceNeg, true_and, and_true, or_self, or_false, false_or, false_and, and_false, true_or, or_true, if_true, if_false, ne_eq, Classical.not_not, not_true_eq_false, not_false_eq_true, true_implies, false_implies, implies_true, Nat.reduceEqDiff, Nat.reduceAdd, Nat.reduceLeDiff, Nat.reduceSub, reduceCtorEq, reduceIte, b209_143, skM s1, srM s1, em256, z10]
            simp only [lv_args, z_v, z_lg, z_h, z_u, z_u1, z_c, z_ct, z_sk, sbne, lst1_d, ldel, lst2_d, ldel2, z_sw, z_rok, zi, eq_self, List.map_cons, List.map_nil, List.append_nil, List.nil_append, List.cons_append, Int32.reduceLT, Int32.reduceLE, Int32.reduceAdd, Int32.reduceSub, Int32.reduceMul, Int32.reduceToInt, Int32.reduceToNatClampNeg, Int.reduceLT, Int.reduceLE, Int.reduceNeg, true_and, and_true, or_self, or_false, false_or, false_and, and_false, true_or, or_true, if_true, if_false, ne_eq, Classical.not_not, not_true_eq_false, not_false_eq_true, true_implies, false_implies, implies_true, Nat.reduceEqDiff, Nat.reduceAdd, Nat.reduceLeDiff, Nat.reduceSub, reduceCtorEq, reduceIte, b209_161, b209_166, skM s1, srM s1, em256, n18, n19]
            simp (disch := omega) only [nI_ti, nI_cl, le0N, ltNN, c5, true_and]
            try simp only [lv_args, z_v, z_lg, z_h, z_u, z_u1, z_c, z_ct, z_sk, sbne, lst1_d, ldel, lst2_d, ldel2, z_sw, z_rok, zi, eq_self, List.map_cons, List.map_nil, List.append_nil, List.nil_append, List.cons_append, Int32.reduceLT, Int32.reduceLE, Int32.reduceAdd, Int32.reduceSub, Int32.reduceMul, Int32.reduceToInt, Int32.reduceToNatClampNeg, Int.reduceLT, Int.reduceLE, Int.reduceNeg, true_and, and_true, or_self, or_false, false_or, false_and, and_false, true_or, or_true, if_true, if_false, ne_eq, Classical.not_not, not_true_eq_false, not_false_eq_true, true_implies, false_implies, implies_true, Nat.reduceEqDiff, Nat.reduceAdd, Nat.reduceLeDiff, Nat.reduceSub, reduceCtorEq, reduceIte, b209_166, skM s1, srM s1, em256, n18, n19]
            try simp (disch := omega) only [nI_ti, nI_cl, le0N, ltNN, c5, true_and]
            exact o2
          · have o2 := o1 2 rfl
            simp only [lv_args, z_v, z_lg, z_h, z_u, z_u1, z_c, z_ct, z_sk, sbne, lst1_d, ldel, lst2_d, ldel2, z_sw, z_rok, zi, eq_self, List.map_cons, List.map_nil, List.append_nil, List.nil_append, List.cons_append, Int32.reduceLT, Int32.reduceLE, Int32.reduceAdd, Int32.reduceSub, Int32.reduceMul, Int32.reduceToInt, Int32.reduceToNatClampNeg, Int.reduceLT, Int.reduceLE, Int.reduceNeg, true_and, and_true, or_self, or_false, false_or, false_and, and_false, true_or, or_true, if_true, if_false, ne_eq, Classical.not_not, not_true_eq_false, not_false_eq_true, true_implies, false_implies, implies_true, Nat.reduceEqDiff, Nat.reduceAdd, Nat.reduceLeDiff, Nat.reduceSub, reduceCtorEq, reduceIte, b209_143, skM s1, srM s1, em256]
            simp only [lv_args, z_v, z_lg, z_h, z_u, z_u1, z_c, z_ct, z_sk, sbne, lst1_d, ldel, lst2_d, ldel2, z_sw, z_rok, zi, eq_self, List.map_cons, List.map_nil, List.append_nil, List.nil_append, List.cons_append, Int32.reduceLT, Int32.reduceLE, Int32.reduceAdd, Int32.reduceSub, Int32.reduceMul, Int32.reduceToInt, Int32.reduceToNatClampNeg, Int.reduceLT, Int.reduceLE, Int.reduceNeg, true_and, and_true, or_self, or_false, false_or, false_and, and_false, true_or, or_true, if_true, if_false, ne_eq, Classical.not_not, not_true_eq_false, not_false_eq_true, true_implies, false_implies, implies_true, Nat.reduceEqDiff, Nat.reduceAdd, Nat.reduceLeDiff, Nat.reduceSub, reduceCtorEq, reduceIte, b209_165, b209_166, skM s1, srM s1, em256, n18, n19]
            simp (disch := omega) only [nI_ti, nI_cl, le0N, ltNN, c5, true_and]
            try simp only [lv_args, z_v, z_lg, z_h, z_u, z_u1, z_c, z_ct, z_sk, sbne, lst1_d, ldel, lst2_d, ldel2, z_sw, z_rok, zi, eq_self, List.map_cons, List.map_nil, List.append_nil, List.nil_append, List.cons_append, Int32.reduceLT, Int32.reduceLE, Int32.reduceAdd, Int32.reduceSub, Int32.reduceMul, Int32.reduceToInt, Int32.reduceToNatClampNeg, Int.reduceLT, Int.reduceLE, Int.reduceNeg, true_and, and_true, or_self, or_false, false_or, false_and, and_false, true_or, or_true, if_true, if_false, ne_eq, Classical.not_not, not_true_eq_false, not_false_eq_true, true_implies, false_implies, implies_true, Nat.reduceEqDiff, Nat.reduceAdd, Nat.reduceLeDiff, Nat.reduceSub, reduceCtorEq, reduceIte, b209_166, skM s1, srM s1, em256, n18, n19]
            try simp (disch := omega) only [nI_ti, nI_cl, le0N, ltNN, c5, true_and]
            exact o2
    -- not found
    have nf : s ∉ (mFe y (mAr y (l + 1))).map (·.1) → ∀ x5 : Int32, aWP d 209 54 [(5, .int x5), (4, .int (nI (mAr y (l + 1)))), (3, .ref q), (0, .ref 59), (1, .int (nI (l + 1))), (2, .int (nI s))] [] h Q := by
      intro hns x5
      rw [mFr, if_neg hns] at hq
      have es : ((mSg y).getD s (0, 0, 0)) = sgD y s := rfl
      rw [es] at hq
      have e11 : nI (l + 1) - 1 = nI l := nI_m1
      simp only [lv_args, z_v, z_lg, z_h, z_u, z_u1, z_c, z_ct, z_sk, sbne, lst1_d, ldel, lst2_d, ldel2, z_sw, z_rok, zi, eq_self, List.map_cons, List.map_nil, List.append_nil, List.nil_append, List.cons_append, Int32.reduceLT, Int32.reduceLE, Int32.reduceAdd, Int32.reduceSub, Int32.reduceMul, Int32.reduceToInt, Int32.reduceToNatClampNeg, Int.reduceLT, Int.reduceLE, Int.reduceNeg, true_and, and_true, or_self, or_false, false_or, false_and, and_false, true_or, or_true, if_true, if_false, ne_eq, Classical.not_not, not_true_eq_false, not_false_eq_true, true_implies, false_implies, implies_true, Nat.reduceEqDiff, Nat.reduceAdd, Nat.reduceLeDiff, Nat.reduceSub, reduceCtorEq, reduceIte, b209_54, skM sk, srM sk, n107, n109, e11]
      simp (disch := omega) only [nI_ti, nI_cl, le0N, ltNN, c3, c1', s107, a109', true_and]
      try simp only [lv_args, z_v, z_lg, z_h, z_u, z_u1, z_c, z_ct, z_sk, sbne, lst1_d, ldel, lst2_d, ldel2, z_sw, z_rok, zi, eq_self, List.map_cons, List.map_nil, List.append_nil, List.nil_append, List.cons_append, Int32.reduceLT, Int32.reduceLE, Int32.reduceAdd, Int32.reduceSub, Int32.reduceMul, Int32.reduceToInt, Int32.reduceToNatClampNeg, Int.reduceLT, Int.reduceLE, Int.reduceNeg, true_and, and_true, or_self, or_false, false_or, false_and, and_false, true_or, or_true, if_true, if_false, ne_eq, Classical.not_not, not_true_eq_false, not_false_eq_true, true_implies, false_implies, implies_true, Nat.reduceEqDiff, Nat.reduceAdd, Nat.reduceLeDiff, Nat.reduceSub, reduceCtorEq, reduceIte, b209_54, skM sk, srM sk, n107, n109, e11]
      try simp (disch := omega) only [nI_ti, nI_cl, le0N, ltNN, c3, c1', s107, a109', true_and]
      rw [hl0, nI_eqN (by omega) (by omega)]
      have z10 : ¬ (1 : Int32) = 0 := by decide
      refine ⟨fun c => ?_, fun c => ?_⟩
      · rw [if_neg (by rw [hl0]; exact c)] at hq
        have hne : l0 ≠ l := fun e => c (by rw [e])
        simp only [lv_args, z_v, z_lg, z_h, z_u, z_u1, z_c, z_ct, z_sk, sbne, lst1_d, ldel, lst2_d, ldel2, z_sw, z_rok, zi, eq_self, List.map_cons, List.map_nil, List.append_nil, List.nil_append, List.cons_append, Int32.reduceLT, Int32.reduceLE, Int32.reduceAdd, Int32.reduceSub, Int32.reduceMul, Int32.reduceToInt, Int32.reduceToNatClampNeg, Int.reduceLT, Int.reduceLE, Int.reduceNeg, true_and, and_true, or_self, or_false, false_or, false_and, and_false, true_or, or_true, if_true, if_false, ne_eq, Classical.not_not, not_true_eq_false, not_false_eq_true, true_implies, false_implies, implies_true, Nat.reduceEqDiff, Nat.reduceAdd, Nat.reduceLeDiff, Nat.reduceSub, reduceCtorEq, reduceIte, b209_75, b209_76]
        simp only [lv_args, z_v, z_lg, z_h, z_u, z_u1, z_c, z_ct, z_sk, sbne, lst1_d, ldel, lst2_d, ldel2, z_sw, z_rok, zi, eq_self, List.map_cons, List.map_nil, List.append_nil, List.nil_append, List.cons_append, Int32.reduceLT, Int32.reduceLE, Int32.reduceAdd, Int32.reduceSub, Int32.reduceMul, Int32.reduceToInt, Int32.reduceToNatClampNeg, Int.reduceLT, Int.reduceLE, Int.reduceNeg, true_and, and_true, or_self, or_false, false_or, false_and, and_false, true_or, or_true, if_true, if_false, ne_eq, Classical.not_not, not_true_eq_false, not_false_eq_true, true_implies, false_implies, implies_true, Nat.reduceEqDiff, Nat.reduceAdd, Nat.reduceLeDiff, Nat.reduceSub, reduceCtorEq, reduceIte, b209_92, skM sk, h00, e11]
        refine sp_free md hq66 l s l0 y h (d - 1) _ H fi hs hl0 (by omega) (by omega) hall hla (by omega) (fun h1 H1 hv1 => ?_)
        have fe := fr_e (N := N) (a := 0) (b := 0) l s y (by omega)
        have hlo : mFe (mFr l s y).2 (mAr y (l + 1)) = mFe y (mAr y (l + 1)) := mfr_hi l s y _ (fun l' hl' e => by
          have := fi.2.1 l' (l + 1) (by omega) hlv
          omega)
        have f1 := fi_fr l s l0 y fi hs hl0 (by omega) (by omega)
        have ear : mAr (mFr l s y).2 = mAr y := congrArg (fun t => t.2.2.1) fe.2.2.2.1
        have elv : mLv (mFr l s y).2 = mLv y := congrArg (fun t => t.2.1) fe.2.2.2.1
        have esg : mSg (mFr l s y).2 = mSg y := congrArg (fun t => t.1) fe.2.2.2.1
        have hall1 : ∀ M, 1 ≤ M → M ≤ mLa (mFr l s y).2 → (mFe (mFr l s y).2 M).length ≤ 250 := fun M M1 M2 => by
          rw [fe.2.1] at M2
          by_cases cM : ∃ l', 1 ≤ l' ∧ l' ≤ mLv y ∧ M = mAr y l'
          · obtain ⟨l', w1, w2, w3⟩ := cM
            have fx := f1.2.2.2 l' w1 (by rw [elv]; exact w2)
            rw [ear] at fx
            have := pige_nd (mSg (mFr l s y).2).length _ fx.1 (fun x hx => (fx.2 x hx).1)
            have e : (fes (mFr l s y).2 (mAr y l')).length = (mFe (mFr l s y).2 (mAr y l')).length := List.length_map _
            rw [w3]
            rw [esg] at this
            omega
          · have := mfr_h1 l s y M (fun l' hl1 hl' e => cM ⟨l', hl1, by omega, e⟩)
            rw [this]
            exact hall M M1 M2
        have s1 := (md_m md H1).1.1
        have w1 := sq s1 hq66
        have go := add hns (mFr l s y).2 h1 0 2 (mFr l s y).1 H1 f1 ear elv fe.2.1 hlo hall1 (Or.inr ⟨rfl, rfl⟩) (fun h' w1 w2 => by
          have := hq h' w1 (w2.trans hv1)
          rw [hlo] at this
          exact this)
        simp only [lv_args, z_v, z_lg, z_h, z_u, z_u1, z_c, z_ct, z_sk, sbne, lst1_d, ldel, lst2_d, ldel2, z_sw, z_rok, zi, eq_self, List.map_cons, List.map_nil, List.append_nil, List.nil_append, List.cons_append, Int32.reduceLT, Int32.reduceLE, Int32.reduceAdd, Int32.reduceSub, Int32.reduceMul, Int32.reduceToInt, Int32.reduceToNatClampNeg, Int.reduceLT, Int.reduceLE, Int.reduceNeg, true_and, and_true, or_self, or_false, false_or, false_and, and_false, true_or, or_true, if_true, if_false, ne_eq, Classical.not_not, not_true_eq_false, not_false_eq_true, true_implies, false_implies, implies_true, Nat.reduceEqDiff, Nat.reduceAdd, Nat.reduceLeDiff, Nat.reduceSub, reduceCtorEq, reduceIte, b209_92, skM sk, skM s1, w, w1, Nat.reduceLT, hv1]
        exact go
      · rw [if_pos (by rw [hl0]; exact c)] at hq
        have go := add hns y h 1 1 (sgD y s).2.2 H fi rfl rfl rfl rfl hall (Or.inl ⟨rfl, rfl⟩) (fun h' w1 w2 => hq h' w1 w2)
        simp only [lv_args, z_v, z_lg, z_h, z_u, z_u1, z_c, z_ct, z_sk, sbne, lst1_d, ldel, lst2_d, ldel2, z_sw, z_rok, zi, eq_self, List.map_cons, List.map_nil, List.append_nil, List.nil_append, List.cons_append, Int32.reduceLT, Int32.reduceLE, Int32.reduceAdd, Int32.reduceSub, Int32.reduceMul, Int32.reduceToInt, Int32.reduceToNatClampNeg, Int.reduceLT, Int.reduceLE, Int.reduceNeg, true_and, and_true, or_self, or_false, false_or, false_and, and_false, true_or, or_true, if_true, if_false, ne_eq, Classical.not_not, not_true_eq_false, not_false_eq_true, true_implies, false_implies, implies_true, Nat.reduceEqDiff, Nat.reduceAdd, Nat.reduceLeDiff, Nat.reduceSub, reduceCtorEq, reduceIte, b209_71, b209_76, z10]
        simp only [lv_args, z_v, z_lg, z_h, z_u, z_u1, z_c, z_ct, z_sk, sbne, lst1_d, ldel, lst2_d, ldel2, z_sw, z_rok, zi, eq_self, List.map_cons, List.map_nil, List.append_nil, List.nil_append, List.cons_append, Int32.reduceLT, Int32.reduceLE, Int32.reduceAdd, Int32.reduceSub, Int32.reduceMul, Int32.reduceToInt, Int32.reduceToNatClampNeg, Int.reduceLT, Int.reduceLE, Int.reduceNeg, true_and, and_true, or_self, or_false, false_or, false_and, and_false, true_or, or_true, if_true, if_false, ne_eq, Classical.not_not, not_true_eq_false, not_false_eq_true, true_implies, false_implies, implies_true, Nat.reduceEqDiff, Nat.reduceAdd, Nat.reduceLeDiff, Nat.reduceSub, reduceCtorEq, reduceIte, b209_83, skM sk, srM sk, n108]
        simp (disch := omega) only [nI_ti, nI_cl, le0N, ltNN, c3, s108, true_and]
        try simp only [lv_args, z_v, z_lg, z_h, z_u, z_u1, z_c, z_ct, z_sk, sbne, lst1_d, ldel, lst2_d, ldel2, z_sw, z_rok, zi, eq_self, List.map_cons, List.map_nil, List.append_nil, List.nil_append, List.cons_append, Int32.reduceLT, Int32.reduceLE, Int32.reduceAdd, Int32.reduceSub, Int32.reduceMul, Int32.reduceToInt, Int32.reduceToNatClampNeg, Int.reduceLT, Int.reduceLE, Int.reduceNeg, true_and, and_true, or_self, or_false, false_or, false_and, and_false, true_or, or_true, if_true, if_false, ne_eq, Classical.not_not, not_true_eq_false, not_false_eq_true, true_implies, false_implies, implies_true, Nat.reduceEqDiff, Nat.reduceAdd, Nat.reduceLeDiff, Nat.reduceSub, reduceCtorEq, reduceIte, b209_83]
        exact go
    have loop : ∀ (r i : Nat), i + r = (mFe y (mAr y (l + 1))).length → (∀ j, j < i → ((mFe y (mAr y (l + 1))).map (·.1))[j]? ≠ some s) → aWP d 209 16 [(5, .int (nI i)), (4, .int (nI (mAr y (l + 1)))), (3, .ref q), (0, .ref 59), (1, .int (nI (l + 1))), (2, .int (nI s))] [] h Q := by
      intro r
      induction r with
      | zero =>
        intro i hi hj
        have hi : i = (mFe y (mAr y (l + 1))).length := hi
        have go := nf (fun c => by
          obtain ⟨j, hj2⟩ := List.mem_iff_getElem?.mp c
          have := g_lt hj2
          rw [List.length_map] at this
          exact hj j (by omega) hj2) (nI i)
        simp only [lv_args, z_v, z_lg, z_h, z_u, z_u1, z_c, z_ct, z_sk, sbne, lst1_d, ldel, lst2_d, ldel2, z_sw, z_rok, zi, eq_self, List.map_cons, List.map_nil, List.append_nil, List.nil_append, List.cons_append, Int32.reduceLT, Int32.reduceLE, Int32.reduceAdd, Int32.reduceSub, Int32.reduceMul, Int32.reduceToInt, Int32.reduceToNatClampNeg, Int.reduceLT, Int.reduceLE, Int.reduceNeg, true_and, and_true, or_self, or_false, false_or, false_and, and_false, true_or, or_true, if_true, if_false, ne_eq, Classical.not_not, not_true_eq_false, not_false_eq_true, true_implies, false_implies, implies_true, Nat.reduceEqDiff, Nat.reduceAdd, Nat.reduceLeDiff, Nat.reduceSub, reduceCtorEq, reduceIte, b209_16, skM sk, srM sk, w, nn]
        simp (disch := omega) only [nI_ti, nI_cl, le0N, ltNN, c2, a17, nI_leN, true_and]
        exact ⟨fun _ => go, fun c => absurd (by omega) c⟩
      | succ r ih =>
        intro i hi hj
        have hil : i < (mFe y (mAr y (l + 1))).length := by omega
        have hx := List.getElem?_eq_getElem hil
        have f5 := mg5 (l + 1) (by omega) hlv i _ hx
        have hmx : ((mFe y (mAr y (l + 1))).map (·.1))[i]? = some ((mFe y (mAr y (l + 1)))[i]).1 := by rw [List.getElem?_map, hx]; rfl
        have hsm : ((mFe y (mAr y (l + 1)))[i]).1 < (mSg y).length := ((fi.2.2.2 (l + 1) (by omega) hlv).2 _ (List.mem_of_getElem? hmx)).1
        have c4 : (256 * (l + 1) + i < 8192) = True := eq_true (by omega)
        simp only [lv_args, z_v, z_lg, z_h, z_u, z_u1, z_c, z_ct, z_sk, sbne, lst1_d, ldel, lst2_d, ldel2, z_sw, z_rok, zi, eq_self, List.map_cons, List.map_nil, List.append_nil, List.nil_append, List.cons_append, Int32.reduceLT, Int32.reduceLE, Int32.reduceAdd, Int32.reduceSub, Int32.reduceMul, Int32.reduceToInt, Int32.reduceToNatClampNeg, Int.reduceLT, Int.reduceLE, Int.reduceNeg, true_and, and_true, or_self, or_false, false_or, false_and, and_false, true_or, or_true, if_true, if_false, ne_eq, Classical.not_not, not_true_eq_false, not_false_eq_true, true_implies, false_implies, implies_true, Nat.reduceEqDiff, Nat.reduceAdd, Nat.reduceLeDiff, Nat.reduceSub, reduceCtorEq, reduceIte, b209_16, skM sk, srM sk, w, nn]
        simp (disch := omega) only [nI_ti, nI_cl, le0N, ltNN, c2, a17, nI_leN, true_and]
        refine ⟨fun c => absurd c (by omega), fun _ => ?_⟩
        simp only [lv_args, z_v, z_lg, z_h, z_u, z_u1, z_c, z_ct, z_sk, sbne, lst1_d, ldel, lst2_d, ldel2, z_sw, z_rok, zi, eq_self, List.map_cons, List.map_nil, List.append_nil, List.nil_append, List.cons_append, Int32.reduceLT, Int32.reduceLE, Int32.reduceAdd, Int32.reduceSub, Int32.reduceMul, Int32.reduceToInt, Int32.reduceToNatClampNeg, Int.reduceLT, Int.reduceLE, Int.reduceNeg, true_and, and_true, or_self, or_false, false_or, false_and, and_false, true_or, or_true, if_true, if_false, ne_eq, Classical.not_not, not_true_eq_false, not_false_eq_true, true_implies, false_implies, implies_true, Nat.reduceEqDiff, Nat.reduceAdd, Nat.reduceLeDiff, Nat.reduceSub, reduceCtorEq, reduceIte, b209_28, skM sk, srM sk, em256, n111]
        simp (disch := omega) only [nI_ti, nI_cl, le0N, ltNN, c4, f5, nI_eqN, true_and]
        refine ⟨fun c => ?_, fun c => ?_⟩
        · have nx := ih (i + 1) (by omega) (fun j hj2 => by
            by_cases cj : j = i
            · subst cj
              rw [hmx]
              exact fun e => c (by injection e)
            · exact hj j (by omega))
          simp only [lv_args, z_v, z_lg, z_h, z_u, z_u1, z_c, z_ct, z_sk, sbne, lst1_d, ldel, lst2_d, ldel2, z_sw, z_rok, zi, eq_self, List.map_cons, List.map_nil, List.append_nil, List.nil_append, List.cons_append, Int32.reduceLT, Int32.reduceLE, Int32.reduceAdd, Int32.reduceSub, Int32.reduceMul, Int32.reduceToInt, Int32.reduceToNatClampNeg, Int.reduceLT, Int.reduceLE, Int.reduceNeg, true_and, and_true, or_self, or_false, false_or, false_and, and_false, true_or, or_true, if_true, if_false, ne_eq, Classical.not_not, not_true_eq_false, not_false_eq_true, true_implies, false_implies, implies_true, Nat.reduceEqDiff, Nat.reduceAdd, Nat.reduceLeDiff, Nat.reduceSub, reduceCtorEq, reduceIte, b209_48, nI_1]
          exact nx
        · have hmem : s ∈ (mFe y (mAr y (l + 1))).map (·.1) := List.mem_of_getElem? (by rw [hmx, c])
          rw [mFr, if_pos hmem, idx_at (by rw [hmx, c]) hj] at hq
          simp only [lv_args, z_v, z_lg, z_h, z_u, z_u1, z_c, z_ct, z_sk, sbne, lst1_d, ldel, lst2_d, ldel2, z_sw, z_rok, zi, eq_self, List.map_cons, List.map_nil, List.append_nil, List.nil_append, List.cons_append, Int32.reduceLT, Int32.reduceLE, Int32.reduceAdd, Int32.reduceSub, Int32.reduceMul, Int32.reduceToInt, Int32.reduceToNatClampNeg, Int.reduceLT, Int.reduceLE, Int.reduceNeg, true_and, and_true, or_self, or_false, false_or, false_and, and_false, true_or, or_true, if_true, if_false, ne_eq, Classical.not_not, not_true_eq_false, not_false_eq_true, true_implies, false_implies, implies_true, Nat.reduceEqDiff, Nat.reduceAdd, Nat.reduceLeDiff, Nat.reduceSub, reduceCtorEq, reduceIte, b209_45]
          exact hq h H rfl
    have go := loop _ 0 (Nat.zero_add _) (fun j hj => absurd hj (Nat.not_lt_zero j))
    unfold aEv
    simp only [lv_args, z_v, z_lg, z_h, z_u, z_u1, z_c, z_ct, z_sk, sbne, lst1_d, ldel, lst2_d, ldel2, z_sw, z_rok, zi, eq_self, List.map_cons, List.map_nil, List.append_nil, List.nil_append, List.cons_append, Int32.reduceLT, Int32.reduceLE, Int32.reduceAdd, Int32.reduceSub, Int32.reduceMul, Int32.reduceToInt, Int32.reduceToNatClampNeg, Int.reduceLT, Int.reduceLE, Int.reduceNeg, true_and, and_true, or_self, or_false, false_or, false_and, and_false, true_or, or_true, if_true, if_false, ne_eq, Classical.not_not, not_true_eq_false, not_false_eq_true, true_implies, false_implies, implies_true, Nat.reduceEqDiff, Nat.reduceAdd, Nat.reduceLeDiff, Nat.reduceSub, reduceCtorEq, reduceIte, b209_0, skM sk, srM sk, R, w, n109]
    simp (disch := omega) only [nI_ti, nI_cl, le0N, ltNN, c1, a109, true_and]
    exact go
/-- the meaning of a node is put; its number -/
def mM1 (n : Nat) (me : Int32) (y : MR) : MR := ((upd (mMe y) (n - 1) me, mNu y), y.2)
theorem mh_me {me : Int32} (hq66 : q = 66 ∨ q = 86) (H : MH N mt q h0 y h) : MH N mt q h0 (mM1 n me y) (pA h (q + 6) (upd (hA h (q + 6)) (n - 1) me)) := by
  obtain ⟨ky, mn, ms, ml, mg, mw⟩ := H
  refine ⟨ky_A ky (by unfold YA; omega), fun i hi => ?_, ?_, ?_, ?_, mw⟩
  · obtain ⟨b1, b2⟩ := mn i hi
    have x6 : hA (pA h (q + 6) (upd (hA h (q + 6)) (n - 1) me)) (q + 6) = upd (hA h (q + 6)) (n - 1) me := up1_eq
    have x7 : hA (pA h (q + 6) (upd (hA h (q + 6)) (n - 1) me)) (q + 7) = hA h (q + 7) := up1_ne (by omega)
    rw [x6, x7]
    refine ⟨?_, b2⟩
    show upd (hA h (q + 6)) (n - 1) me i = upd (mMe y) (n - 1) me i
    unfold upd
    by_cases c : i = n - 1
    · rw [if_pos c, if_pos c]
    · rw [if_neg c, if_neg c]; exact b1
  · rcases hq66 with rfl | rfl <;> exact ms
  · rcases hq66 with rfl | rfl <;> exact ml
  · rcases hq66 with rfl | rfl <;> exact mg
theorem mh_nu {nu : Int32} (hq66 : q = 66 ∨ q = 86) (H : MH N mt q h0 y h) : MH N mt q h0 (mN1 n nu y) (pA h (q + 7) (upd (hA h (q + 7)) (n - 1) nu)) := by
  obtain ⟨ky, mn, ms, ml, mg, mw⟩ := H
  refine ⟨ky_A ky (by unfold YA; omega), fun i hi => ?_, ?_, ?_, ?_, mw⟩
  · obtain ⟨b1, b2⟩ := mn i hi
    have x6 : hA (pA h (q + 7) (upd (hA h (q + 7)) (n - 1) nu)) (q + 6) = hA h (q + 6) := up1_ne (by omega)
    have x7 : hA (pA h (q + 7) (upd (hA h (q + 7)) (n - 1) nu)) (q + 7) = upd (hA h (q + 7)) (n - 1) nu := up1_eq
    rw [x6, x7]
    refine ⟨b1, ?_⟩
    show upd (hA h (q + 7)) (n - 1) nu i = upd (mNu y) (n - 1) nu i
    unfold upd
    by_cases c : i = n - 1
    · rw [if_pos c, if_pos c]
    · rw [if_neg c, if_neg c]; exact b2
  · rcases hq66 with rfl | rfl <;> exact ms
  · rcases hq66 with rfl | rfl <;> exact ml
  · rcases hq66 with rfl | rfl <;> exact mg
theorem mfr_1 {u : (Nat → Int32) × (Nat → Int32)} : ∀ (l s : Nat) (y : MR), mFr l s (u, y.2) = ((mFr l s y).1, (u, (mFr l s y).2.2))
  | 0, _, _ => rfl
  | l + 1, s, y => by
    have ih := mfr_1 (u := u) l s y
    have e1 : mFe (u, y.2) = mFe y := rfl
    have e2 : mAr (u, y.2) = mAr y := rfl
    have e3 : mSg (u, y.2) = mSg y := rfl
    rw [mFr, mFr, e1, e2, e3, ih]
    by_cases c : s ∈ (mFe y (mAr y (l + 1))).map (·.1)
    · rw [if_pos c, if_pos c]
    · rw [if_neg c, if_neg c]
      by_cases c2 : ((mSg y).getD s (0, 0, 0)).2.1 = mAr y l
      · rw [if_pos c2, if_pos c2]; rfl
      · rw [if_neg c2, if_neg c2]; rfl
/-- a name is used -/
theorem mfd_s {j : Nat} {sg : List SGe} : mFd j sg = fdU j sg sg.length := rfl
theorem sp_uses (md : MD N mt q h0) (H : MH N mt q h0 y h) (fi : FI y) (hall : ∀ M, 1 ≤ M → M ≤ mLa y → (mFe y M).length ≤ 250) (hla : mLa y < 3000) (h1 : 1 ≤ n) (hn : n < N.1) (h5 : nK N n = 5) (hd : 36 < d) (hq : ∀ h', MH N mt q h0 (mUs N n y) h' → Q none h') : aEv d 268 [.ref 59, .int (nI (n - 1))] h Q := by
  have h00 : 0 < d := by omega
  have m := md_m md H
  have s := m.1.1
  have hq66 := mc_q m
  have w := sq s hq66
  have R := mc_R m
  have nn := nq m.1.2 hq66
  have hN1 := m.2.2.2.2.2
  obtain ⟨j, hj, ej, ej2, hj3⟩ := nok_name m.2.2.2 h1 hn h5
  have ev : hA h (q + 2) (n - 1) = nI (mt.idxOf j) := by rw [(m.2.2.1.1 n h1 hn).2.1, if_pos h5, ej2]
  obtain ⟨jw1, jw2⟩ := m.2.2.1.2.1 j hj
  obtain ⟨pp1, pp2⟩ := md_p md H h1 hn
  obtain ⟨ms1, ms2, ms3⟩ := H.2.2.1
  obtain ⟨ml1, ml2, ml3⟩ := H.2.2.2.1
  have n106 : hN h 106 = 6200 := m.1.2.1.2 (106, 6200) (by decide)
  have n107 : hN h 107 = 6200 := m.1.2.1.2 (107, 6200) (by decide)
  have n108 : hN h 108 = 6200 := m.1.2.1.2 (108, 6200) (by decide)
  have n109 : hN h 109 = 32 := m.1.2.1.2 (109, 32) (by decide)
  have c2 : (n - 1 < 6200) = True := eq_true (by omega)
  have c3 : (mt.idxOf j < 3000) = True := eq_true jw1
  have e11 : hA h (q + 11) (mt.idxOf j) = dA N j := by
    rw [H.1.2.2 (q + 11) (by unfold YA; omega)]
    exact md.2.1 j hj
  have z0 : (0 : Int32) = nI 0 := rfl
  have z10' : (10 : Int32) = nI 10 := rfl
  unfold mUs at hq
  rw [ej2] at hq
  -- the word decides, or what is in sight
  have noW : 30 ≤ j → aWP d 268 65 [(4, .int (nI 0)), (3, .int (nI (mt.idxOf j))), (2, .ref q), (0, .ref 59), (1, .int (nI (n - 1)))] [] h Q := by
    intro hj30
    rw [if_neg (by omega), if_neg (by omega)] at hq
    -- nothing in sight
    have none' : mFd j (mSg y) = none → ∀ x5 : Int32, aWP d 268 178 [(5, .int x5), (4, .int (nI 0)), (3, .int (nI (mt.idxOf j))), (2, .ref q), (0, .ref 59), (1, .int (nI (n - 1)))] [] h Q := by
      intro hf x5
      rw [hf] at hq
      dsimp only at hq
      simp only [lv_args, z_v, z_lg, z_h, z_u, z_u1, z_c, z_ct, z_sk, sbne, lst1_d, ldel, lst2_d, ldel2, z_sw, z_rok, zi, eq_self, List.map_cons, List.map_nil, List.append_nil, List.nil_append, List.cons_append, Int32.reduceLT, Int32.reduceLE, Int32.reduceAdd, Int32.reduceSub, Int32.reduceMul, Int32.reduceToInt, Int32.reduceToNatClampNeg, Int.reduceLT, Int.reduceLE, Int.reduceNeg, true_and, and_true, or_self, or_false, false_or, false_and, and_false, true_or, or_true, if_true, if_false, ne_eq, Classical.not_not, not_true_eq_false, not_false_eq_true, true_implies, false_implies, implies_true, Nat.reduceEqDiff, Nat.reduceAdd, Nat.reduceLeDiff, Nat.reduceSub, reduceCtorEq, reduceIte, b268_178, skM s, srM s, w, nn]
      simp (disch := omega) only [nI_ti, nI_cl, le0N, ltNN, c3, e11, true_and]
      rw [dA_m1 md.2.2.2.1]
      refine ⟨fun c => ?_, fun c => ?_⟩
      · rw [if_neg c] at hq
        simp only [lv_args, z_v, z_lg, z_h, z_u, z_u1, z_c, z_ct, z_sk, sbne, lst1_d, ldel, lst2_d, ldel2, z_sw, z_rok, zi, eq_self, List.map_cons, List.map_nil, List.append_nil, List.nil_append, List.cons_append, Int32.reduceLT, Int32.reduceLE, Int32.reduceAdd, Int32.reduceSub, Int32.reduceMul, Int32.reduceToInt, Int32.reduceToNatClampNeg, Int.reduceLT, Int.reduceLE, Int.reduceNeg, true_and, and_true, or_self, or_false, false_or, false_and, and_false, true_or, or_true, if_true, if_false, ne_eq, Classical.not_not, not_true_eq_false, not_false_eq_true, true_implies, false_implies, implies_true, Nat.reduceEqDiff, Nat.reduceAdd, Nat.reduceLeDiff, Nat.reduceSub, reduceCtorEq, reduceIte, b268_210, skM s, srM s, w, nn, h00]
        simp (disch := omega) only [nI_ti, nI_cl, le0N, ltNN, c2, pp1, true_and]
        try simp only [lv_args, z_v, z_lg, z_h, z_u, z_u1, z_c, z_ct, z_sk, sbne, lst1_d, ldel, lst2_d, ldel2, z_sw, z_rok, zi, eq_self, List.map_cons, List.map_nil, List.append_nil, List.nil_append, List.cons_append, Int32.reduceLT, Int32.reduceLE, Int32.reduceAdd, Int32.reduceSub, Int32.reduceMul, Int32.reduceToInt, Int32.reduceToNatClampNeg, Int.reduceLT, Int.reduceLE, Int.reduceNeg, true_and, and_true, or_self, or_false, false_or, false_and, and_false, true_or, or_true, if_true, if_false, ne_eq, Classical.not_not, not_true_eq_false, not_false_eq_true, true_implies, false_implies, implies_true, Nat.reduceEqDiff, Nat.reduceAdd, Nat.reduceLeDiff, Nat.reduceSub, reduceCtorEq, reduceIte, b268_210, skM s, w, h00]
        refine sp_wr (k := 4) (p := nQ N n) md H rfl rfl (by decide) pp2 (fun h' H' => ?_)
        have s' := (md_m md H').1.1
        have w' := sq s' hq66
        simp only [lv_args, z_v, z_lg, z_h, z_u, z_u1, z_c, z_ct, z_sk, sbne, lst1_d, ldel, lst2_d, ldel2, z_sw, z_rok, zi, eq_self, List.map_cons, List.map_nil, List.append_nil, List.nil_append, List.cons_append, Int32.reduceLT, Int32.reduceLE, Int32.reduceAdd, Int32.reduceSub, Int32.reduceMul, Int32.reduceToInt, Int32.reduceToNatClampNeg, Int.reduceLT, Int.reduceLE, Int.reduceNeg, true_and, and_true, or_self, or_false, false_or, false_and, and_false, true_or, or_true, if_true, if_false, ne_eq, Classical.not_not, not_true_eq_false, not_false_eq_true, true_implies, false_implies, implies_true, Nat.reduceEqDiff, Nat.reduceAdd, Nat.reduceLeDiff, Nat.reduceSub, reduceCtorEq, reduceIte, b268_210, b268_221, skM s, skM s', w, w', Nat.reduceLT]
        exact hq h' H'
      · rw [if_pos (Classical.not_not.mp c)] at hq
        have P := hq _ (mh_nu (n := n) (nu := dA N j) hq66 (mh_me (n := n) (me := 3) hq66 H))
        rcases hq66 with rfl | rfl
        · have n6 : hN h 72 = 6200 := nn.2.2.2.2.2.1
          have n7 : hN h 73 = 6200 := nn.2.2.2.2.2.2.1
          have n11 : hN h 77 = 3000 := nn.2.2.2.2.2.2.2.2.2.2.1
          have e11 : hA h 77 (mt.idxOf j) = dA N j := e11
          simp only [lv_args, z_v, z_lg, z_h, z_u, z_u1, z_c, z_ct, z_sk, sbne, lst1_d, ldel, lst2_d, ldel2, z_sw, z_rok, zi, eq_self, List.map_cons, List.map_nil, List.append_nil, List.nil_append, List.cons_append, Int32.reduceLT, Int32.reduceLE, Int32.reduceAdd, Int32.reduceSub, Int32.reduceMul, Int32.reduceToInt, Int32.reduceToNatClampNeg, Int.reduceLT, Int.reduceLE, Int.reduceNeg, true_and, and_true, or_self, or_false, false_or, false_and, and_false, true_or, or_true, if_true, if_false, ne_eq, Classical.not_not, not_true_eq_false, not_false_eq_true, true_implies, false_implies, implies_true, Nat.reduceEqDiff, Nat.reduceAdd, Nat.reduceLeDiff, Nat.reduceSub, reduceCtorEq, reduceIte, b268_188, b268_221, skM s, srM s, n6, n7, n11]
          simp (disch := omega) only [nI_ti, nI_cl, le0N, ltNN, c2, c3, e11, true_and]
          try simp only [lv_args, z_v, z_lg, z_h, z_u, z_u1, z_c, z_ct, z_sk, sbne, lst1_d, ldel, lst2_d, ldel2, z_sw, z_rok, zi, eq_self, List.map_cons, List.map_nil, List.append_nil, List.nil_append, List.cons_append, Int32.reduceLT, Int32.reduceLE, Int32.reduceAdd, Int32.reduceSub, Int32.reduceMul, Int32.reduceToInt, Int32.reduceToNatClampNeg, Int.reduceLT, Int.reduceLE, Int.reduceNeg, true_and, and_true, or_self, or_false, false_or, false_and, and_false, true_or, or_true, if_true, if_false, ne_eq, Classical.not_not, not_true_eq_false, not_false_eq_true, true_implies, false_implies, implies_true, Nat.reduceEqDiff, Nat.reduceAdd, Nat.reduceLeDiff, Nat.reduceSub, reduceCtorEq, reduceIte, b268_188, b268_221, skM s, srM s, n6, n7, n11]
          try simp (disch := omega) only [nI_ti, nI_cl, le0N, ltNN, c2, c3, e11, true_and]
          exact P
        · have n6 : hN h 92 = 6200 := nn.2.2.2.2.2.1
          have n7 : hN h 93 = 6200 := nn.2.2.2.2.2.2.1
          have n11 : hN h 97 = 3000 := nn.2.2.2.2.2.2.2.2.2.2.1
          have e11 : hA h 97 (mt.idxOf j) = dA N j := e11
          simp only [lv_args, z_v, z_lg, z_h, z_u, z_u1, z_c, z_ct, z_sk, sbne, lst1_d, ldel, lst2_d, ldel2, z_sw, z_rok, zi, eq_self, List.map_cons, List.map_nil, List.append_nil, List.nil_append, List.cons_append, Int32.reduceLT, Int32.reduceLE, Int32.reduceAdd, Int32.reduceSub, Int32.reduceMul, Int32.reduceToInt, Int32.reduceToNatClampNeg, Int.reduceLT, Int.reduceLE, Int.reduceNeg, true_and, and_true, or_self, or_false, false_or, false_and, and_false, true_or, or_true, if_true, if_false, ne_eq, Classical.not_not, not_true_eq_false, not_false_eq_true, true_implies, false_implies, implies_true, Nat.reduceEqDiff, Nat.reduceAdd, Nat.reduceLeDiff, Nat.reduceSub, reduceCtorEq, reduceIte, b268_188, b268_221, skM s, srM s, n6, n7, n11]
          simp (disch := omega) only [nI_ti, nI_cl, le0N, ltNN, c2, c3, e11, true_and]
          try simp only [lv_args, z_v, z_lg, z_h, z_u, z_u1, z_c, z_ct, z_sk, sbne, lst1_d, ldel, lst2_d, ldel2, z_sw, z_rok, zi, eq_self, List.map_cons, List.map_nil, List.append_nil, List.nil_append, List.cons_append, Int32.reduceLT, Int32.reduceLE, Int32.reduceAdd, Int32.reduceSub, Int32.reduceMul, Int32.reduceToInt, Int32.reduceToNatClampNeg, Int.reduceLT, Int.reduceLE, Int.reduceNeg, true_and, and_true, or_self, or_false, false_or, false_and, and_false, true_or, or_true, if_true, if_false, ne_eq, Classical.not_not, not_true_eq_false, not_false_eq_true, true_implies, false_implies, implies_true, Nat.reduceEqDiff, Nat.reduceAdd, Nat.reduceLeDiff, Nat.reduceSub, reduceCtorEq, reduceIte, b268_188, b268_221, skM s, srM s, n6, n7, n11]
          try simp (disch := omega) only [nI_ti, nI_cl, le0N, ltNN, c2, c3, e11, true_and]
          exact P
    -- bound in sight
    have some' : ∀ i, mFd j (mSg y) = some i → aWP d 268 100 [(5, .int (nI i)), (4, .int (nI 0)), (3, .int (nI (mt.idxOf j))), (2, .ref q), (0, .ref 59), (1, .int (nI (n - 1)))] [] h Q := by
      intro i hf
      rw [hf] at hq
      dsimp only at hq
      have hil : i < (mSg y).length := fdU_lt (k := (mSg y).length) hf
      have hg : (mSg y)[i]? = some (sgD y i) := gdD hil
      have es : ((mSg y).getD i (0, 0, 0)) = sgD y i := rfl
      rw [es] at hq
      obtain ⟨_, s107, s108⟩ := ms3 i _ hg
      obtain ⟨a109, _⟩ := ml3 (mLv y) (Nat.le_refl _)
      obtain ⟨l0, hl0, el0⟩ := fi.1 i hil
      have b1 := ar_lt fi hl0
      have b2 := ar_lt fi (Nat.le_refl (mLv y))
      have c4 : (i < 6200) = True := eq_true (by omega)
      have c5 : (mLv y < 32) = True := eq_true (by omega)
      by_cases cl : (sgD y i).2.1 = mAr y (mLv y)
      · rw [if_pos cl] at hq
        have P := hq _ (mh_nu (n := n) (nu := nI (sgD y i).2.2) hq66 (mh_me (n := n) (me := 1) hq66 H))
        rcases hq66 with rfl | rfl
        · have n6 : hN h 72 = 6200 := nn.2.2.2.2.2.1
          have n7 : hN h 73 = 6200 := nn.2.2.2.2.2.2.1
          simp only [lv_args, z_v, z_lg, z_h, z_u, z_u1, z_c, z_ct, z_sk, sbne, lst1_d, ldel, lst2_d, ldel2, z_sw, z_rok, zi, eq_self, List.map_cons, List.map_nil, List.append_nil, List.nil_append, List.cons_append, Int32.reduceLT, Int32.reduceLE, Int32.reduceAdd, Int32.reduceSub, Int32.reduceMul, Int32.reduceToInt, Int32.reduceToNatClampNeg, Int.reduceLT, Int.reduceLE, Int.reduceNeg, true_and, and_true, or_self, or_false, false_or, false_and, and_false, true_or, or_true, if_true, if_false, ne_eq, Classical.not_not, not_true_eq_false, not_false_eq_true, true_implies, false_implies, implies_true, Nat.reduceEqDiff, Nat.reduceAdd, Nat.reduceLeDiff, Nat.reduceSub, reduceCtorEq, reduceIte, b268_100, skM s, srM s, n107, n109, ml1]
          simp (disch := omega) only [nI_ti, nI_cl, le0N, ltNN, c4, c5, s107, a109, cl, true_and]
          try simp only [lv_args, z_v, z_lg, z_h, z_u, z_u1, z_c, z_ct, z_sk, sbne, lst1_d, ldel, lst2_d, ldel2, z_sw, z_rok, zi, eq_self, List.map_cons, List.map_nil, List.append_nil, List.nil_append, List.cons_append, Int32.reduceLT, Int32.reduceLE, Int32.reduceAdd, Int32.reduceSub, Int32.reduceMul, Int32.reduceToInt, Int32.reduceToNatClampNeg, Int.reduceLT, Int.reduceLE, Int.reduceNeg, true_and, and_true, or_self, or_false, false_or, false_and, and_false, true_or, or_true, if_true, if_false, ne_eq, Classical.not_not, not_true_eq_false, not_false_eq_true, true_implies, false_implies, implies_true, Nat.reduceEqDiff, Nat.reduceAdd, Nat.reduceLeDiff, Nat.reduceSub, reduceCtorEq, reduceIte, b268_100, skM s, srM s, n107, n109, ml1]
          try simp (disch := omega) only [nI_ti, nI_cl, le0N, ltNN, c4, c5, s107, a109, cl, true_and, not_true_eq_false, false_imp_iff, true_imp_iff]
          simp only [lv_args, z_v, z_lg, z_h, z_u, z_u1, z_c, z_ct, z_sk, sbne, lst1_d, ldel, lst2_d, ldel2, z_sw, z_rok, zi, eq_self, List.map_cons, List.map_nil, List.append_nil, List.nil_append, List.cons_append, Int32.reduceLT, Int32.reduceLE, Int32.reduceAdd, Int32.reduceSub, Int32.reduceMul, Int32.reduceToInt, Int32.reduceToNatClampNeg, Int.reduceLT, Int.reduceLE, Int.reduceNeg, true_and, and_true, or_self, or_false, false_or, false_and, and_false, true_or, or_true, if_true, if_false, ne_eq, Classical.not_not, not_true_eq_false, not_false_eq_true, true_implies, false_implies, implies_true, Nat.reduceEqDiff, Nat.reduceAdd, Nat.reduceLeDiff, Nat.reduceSub, reduceCtorEq, reduceIte, b268_124, b268_129, skM s, srM s, n6, n107, n109, ml1]
          simp (disch := omega) only [nI_ti, nI_cl, le0N, ltNN, c2, c4, c5, s107, a109, cl, true_and]
          try simp only [lv_args, z_v, z_lg, z_h, z_u, z_u1, z_c, z_ct, z_sk, sbne, lst1_d, ldel, lst2_d, ldel2, z_sw, z_rok, zi, eq_self, List.map_cons, List.map_nil, List.append_nil, List.nil_append, List.cons_append, Int32.reduceLT, Int32.reduceLE, Int32.reduceAdd, Int32.reduceSub, Int32.reduceMul, Int32.reduceToInt, Int32.reduceToNatClampNeg, Int.reduceLT, Int.reduceLE, Int.reduceNeg, true_and, and_true, or_self, or_false, false_or, false_and, and_false, true_or, or_true, if_true, if_false, ne_eq, Classical.not_not, not_true_eq_false, not_false_eq_true, true_implies, false_implies, implies_true, Nat.reduceEqDiff, Nat.reduceAdd, Nat.reduceLeDiff, Nat.reduceSub, reduceCtorEq, reduceIte, b268_129, skM s, srM s, n6, n107, n109, ml1]
          try simp (disch := omega) only [nI_ti, nI_cl, le0N, ltNN, c2, c4, c5, s107, a109, cl, true_and, not_true_eq_false, false_imp_iff, true_imp_iff]
          try simp only [lv_args, z_v, z_lg, z_h, z_u, z_u1, z_c, z_ct, z_sk, sbne, lst1_d, ldel, lst2_d, ldel2, z_sw, z_rok, zi, eq_self, List.map_cons, List.map_nil, List.append_nil, List.nil_append, List.cons_append, Int32.reduceLT, Int32.reduceLE, Int32.reduceAdd, Int32.reduceSub, Int32.reduceMul, Int32.reduceToInt, Int32.reduceToNatClampNeg, Int.reduceLT, Int.reduceLE, Int.reduceNeg, true_and, and_true, or_self, or_false, false_or, false_and, and_false, true_or, or_true, if_true, if_false, ne_eq, Classical.not_not, not_true_eq_false, not_false_eq_true, true_implies, false_implies, implies_true, Nat.reduceEqDiff, Nat.reduceAdd, Nat.reduceLeDiff, Nat.reduceSub, reduceCtorEq, reduceIte, b268_129, skM s, srM s, n6, n107, n109, ml1]
          try simp (disch := omega) only [nI_ti, nI_cl, le0N, ltNN, c2, c4, c5, s107, a109, cl, true_and, not_true_eq_false, false_imp_iff, true_imp_iff]
          simp only [lv_args, z_v, z_lg, z_h, z_u, z_u1, z_c, z_ct, z_sk, sbne, lst1_d, ldel, lst2_d, ldel2, z_sw, z_rok, zi, eq_self, List.map_cons, List.map_nil, List.append_nil, List.nil_append, List.cons_append, Int32.reduceLT, Int32.reduceLE, Int32.reduceAdd, Int32.reduceSub, Int32.reduceMul, Int32.reduceToInt, Int32.reduceToNatClampNeg, Int.reduceLT, Int.reduceLE, Int.reduceNeg, true_and, and_true, or_self, or_false, false_or, false_and, and_false, true_or, or_true, if_true, if_false, ne_eq, Classical.not_not, not_true_eq_false, not_false_eq_true, true_implies, false_implies, implies_true, Nat.reduceEqDiff, Nat.reduceAdd, Nat.reduceLeDiff, Nat.reduceSub, reduceCtorEq, reduceIte, b268_154, b268_174, b268_221, skM s, srM s, n7, n108]
          simp (disch := omega) only [nI_ti, nI_cl, le0N, ltNN, c2, c4, s108, true_and]
          try simp only [lv_args, z_v, z_lg, z_h, z_u, z_u1, z_c, z_ct, z_sk, sbne, lst1_d, ldel, lst2_d, ldel2, z_sw, z_rok, zi, eq_self, List.map_cons, List.map_nil, List.append_nil, List.nil_append, List.cons_append, Int32.reduceLT, Int32.reduceLE, Int32.reduceAdd, Int32.reduceSub, Int32.reduceMul, Int32.reduceToInt, Int32.reduceToNatClampNeg, Int.reduceLT, Int.reduceLE, Int.reduceNeg, true_and, and_true, or_self, or_false, false_or, false_and, and_false, true_or, or_true, if_true, if_false, ne_eq, Classical.not_not, not_true_eq_false, not_false_eq_true, true_implies, false_implies, implies_true, Nat.reduceEqDiff, Nat.reduceAdd, Nat.reduceLeDiff, Nat.reduceSub, reduceCtorEq, reduceIte, b268_174, b268_221, skM s, srM s, n7, n108]
          try simp (disch := omega) only [nI_ti, nI_cl, le0N, ltNN, c2, c4, s108, true_and]
          exact P
        · have n6 : hN h 92 = 6200 := nn.2.2.2.2.2.1
          have n7 : hN h 93 = 6200 := nn.2.2.2.2.2.2.1
          simp only [lv_args, z_v, z_lg, z_h, z_u, z_u1, z_c, z_ct, z_sk, sbne, lst1_d, ldel, lst2_d, ldel2, z_sw, z_rok, zi, eq_self, List.map_cons, List.map_nil, List.append_nil, List.nil_append, List.cons_append, Int32.reduceLT, Int32.reduceLE, Int32.reduceAdd, Int32.reduceSub, Int32.reduceMul, Int32.reduceToInt, Int32.reduceToNatClampNeg, Int.reduceLT, Int.reduceLE, Int.reduceNeg, true_and, and_true, or_self, or_false, false_or, false_and, and_false, true_or, or_true, if_true, if_false, ne_eq, Classical.not_not, not_true_eq_false, not_false_eq_true, true_implies, false_implies, implies_true, Nat.reduceEqDiff, Nat.reduceAdd, Nat.reduceLeDiff, Nat.reduceSub, reduceCtorEq, reduceIte, b268_100, skM s, srM s, n107, n109, ml1]
          simp (disch := omega) only [nI_ti, nI_cl, le0N, ltNN, c4, c5, s107, a109, cl, true_and]
          try simp only [lv_args, z_v, z_lg, z_h, z_u, z_u1, z_c, z_ct, z_sk, sbne, lst1_d, ldel, lst2_d, ldel2, z_sw, z_rok, zi, eq_self, List.map_cons, List.map_nil, List.append_nil, List.nil_append, List.cons_append, Int32.reduceLT, Int32.reduceLE, Int32.reduceAdd, Int32.reduceSub, Int32.reduceMul, Int32.reduceToInt, Int32.reduceToNatClampNeg, Int.reduceLT, Int.reduceLE, Int.reduceNeg, true_and, and_true, or_self, or_false, false_or, false_and, and_false, true_or, or_true, if_true, if_false, ne_eq, Classical.not_not, not_true_eq_false, not_false_eq_true, true_implies, false_implies, implies_true, Nat.reduceEqDiff, Nat.reduceAdd, Nat.reduceLeDiff, Nat.reduceSub, reduceCtorEq, reduceIte, b268_100, skM s, srM s, n107, n109, ml1]
          try simp (disch := omega) only [nI_ti, nI_cl, le0N, ltNN, c4, c5, s107, a109, cl, true_and, not_true_eq_false, false_imp_iff, true_imp_iff]
          simp only [lv_args, z_v, z_lg, z_h, z_u, z_u1, z_c, z_ct, z_sk, sbne, lst1_d, ldel, lst2_d, ldel2, z_sw, z_rok, zi, eq_self, List.map_cons, List.map_nil, List.append_nil, List.nil_append, List.cons_append, Int32.reduceLT, Int32.reduceLE, Int32.reduceAdd, Int32.reduceSub, Int32.reduceMul, Int32.reduceToInt, Int32.reduceToNatClampNeg, Int.reduceLT, Int.reduceLE, Int.reduceNeg, true_and, and_true, or_self, or_false, false_or, false_and, and_false, true_or, or_true, if_true, if_false, ne_eq, Classical.not_not, not_true_eq_false, not_false_eq_true, true_implies, false_implies, implies_true, Nat.reduceEqDiff, Nat.reduceAdd, Nat.reduceLeDiff, Nat.reduceSub, reduceCtorEq, reduceIte, b268_124, b268_129, skM s, srM s, n6, n107, n109, ml1]
          simp (disch := omega) only [nI_ti, nI_cl, le0N, ltNN, c2, c4, c5, s107, a109, cl, true_and]
          try simp only [lv_args, z_v, z_lg, z_h, z_u, z_u1, z_c, z_ct, z_sk, sbne, lst1_d, ldel, lst2_d, ldel2, z_sw, z_rok, zi, eq_self, List.map_cons, List.map_nil, List.append_nil, List.nil_append, List.cons_append, Int32.reduceLT, Int32.reduceLE, Int32.reduceAdd, Int32.reduceSub, Int32.reduceMul, Int32.reduceToInt, Int32.reduceToNatClampNeg, Int.reduceLT, Int.reduceLE, Int.reduceNeg, true_and, and_true, or_self, or_false, false_or, false_and, and_false, true_or, or_true, if_true, if_false, ne_eq, Classical.not_not, not_true_eq_false, not_false_eq_true, true_implies, false_implies, implies_true, Nat.reduceEqDiff, Nat.reduceAdd, Nat.reduceLeDiff, Nat.reduceSub, reduceCtorEq, reduceIte, b268_129, skM s, srM s, n6, n107, n109, ml1]
          try simp (disch := omega) only [nI_ti, nI_cl, le0N, ltNN, c2, c4, c5, s107, a109, cl, true_and, not_true_eq_false, false_imp_iff, true_imp_iff]
          try simp only [lv_args, z_v, z_lg, z_h, z_u, z_u1, z_c, z_ct, z_sk, sbne, lst1_d, ldel, lst2_d, ldel2, z_sw, z_rok, zi, eq_self, List.map_cons, List.map_nil, List.append_nil, List.nil_append, List.cons_append, Int32.reduceLT, Int32.reduceLE, Int32.reduceAdd, Int32.reduceSub, Int32.reduceMul, Int32.reduceToInt, Int32.reduceToNatClampNeg, Int.reduceLT, Int.reduceLE, Int.reduceNeg, true_and, and_true, or_self, or_false, false_or, false_and, and_false, true_or, or_true, if_true, if_false, ne_eq, Classical.not_not, not_true_eq_false, not_false_eq_true, true_implies, false_implies, implies_true, Nat.reduceEqDiff, Nat.reduceAdd, Nat.reduceLeDiff, Nat.reduceSub, reduceCtorEq, reduceIte, b268_129, skM s, srM s, n6, n107, n109, ml1]
          try simp (disch := omega) only [nI_ti, nI_cl, le0N, ltNN, c2, c4, c5, s107, a109, cl, true_and, not_true_eq_false, false_imp_iff, true_imp_iff]
          simp only [lv_args, z_v, z_lg, z_h, z_u, z_u1, z_c, z_ct, z_sk, sbne, lst1_d, ldel, lst2_d, ldel2, z_sw, z_rok, zi, eq_self, List.map_cons, List.map_nil, List.append_nil, List.nil_append, List.cons_append, Int32.reduceLT, Int32.reduceLE, Int32.reduceAdd, Int32.reduceSub, Int32.reduceMul, Int32.reduceToInt, Int32.reduceToNatClampNeg, Int.reduceLT, Int.reduceLE, Int.reduceNeg, true_and, and_true, or_self, or_false, false_or, false_and, and_false, true_or, or_true, if_true, if_false, ne_eq, Classical.not_not, not_true_eq_false, not_false_eq_true, true_implies, false_implies, implies_true, Nat.reduceEqDiff, Nat.reduceAdd, Nat.reduceLeDiff, Nat.reduceSub, reduceCtorEq, reduceIte, b268_154, b268_174, b268_221, skM s, srM s, n7, n108]
          simp (disch := omega) only [nI_ti, nI_cl, le0N, ltNN, c2, c4, s108, true_and]
          try simp only [lv_args, z_v, z_lg, z_h, z_u, z_u1, z_c, z_ct, z_sk, sbne, lst1_d, ldel, lst2_d, ldel2, z_sw, z_rok, zi, eq_self, List.map_cons, List.map_nil, List.append_nil, List.nil_append, List.cons_append, Int32.reduceLT, Int32.reduceLE, Int32.reduceAdd, Int32.reduceSub, Int32.reduceMul, Int32.reduceToInt, Int32.reduceToNatClampNeg, Int.reduceLT, Int.reduceLE, Int.reduceNeg, true_and, and_true, or_self, or_false, false_or, false_and, and_false, true_or, or_true, if_true, if_false, ne_eq, Classical.not_not, not_true_eq_false, not_false_eq_true, true_implies, false_implies, implies_true, Nat.reduceEqDiff, Nat.reduceAdd, Nat.reduceLeDiff, Nat.reduceSub, reduceCtorEq, reduceIte, b268_174, b268_221, skM s, srM s, n7, n108]
          try simp (disch := omega) only [nI_ti, nI_cl, le0N, ltNN, c2, c4, s108, true_and]
          exact P
      · rw [if_neg cl] at hq
        have hll : l0 < mLv y := Nat.lt_of_le_of_ne hl0 (fun e => cl (by rw [el0, e]))
        have Hm := mh_me (n := n) (me := 2) hq66 H
        have fe := fr_e (N := N) (a := 0) (b := 0) (mLv y) i y (Nat.le_refl _)
        have eM : ∀ nu : Int32, mN1 n nu (mFr (mLv y) i (mM1 n 2 y)).2 = mMn n 2 nu (mFr (mLv y) i y).2 := fun nu => by
          have e1 : mM1 n 2 y = ((upd (mMe y) (n - 1) 2, mNu y), y.2) := rfl
          rw [e1, mfr_1]
          unfold mMn mN1 mMe mNu
          rw [fe.2.2.1]
        have eF : (mFr (mLv y) i (mM1 n 2 y)).1 = (mFr (mLv y) i y).1 := by
          have e1 : mM1 n 2 y = ((upd (mMe y) (n - 1) 2, mNu y), y.2) := rfl
          rw [e1, mfr_1]
        have cll : ¬ nI (sgD y i).2.1 = nI (mAr y (mLv y)) := by
          rw [el0] at cl ⊢
          rw [nI_eqN (by omega) (by omega)]
          exact cl
        have P := fun h2 (H2 : MH N mt q h0 (mFr (mLv y) i (mM1 n 2 y)).2 h2) => hq _ (eM (nI (mFr (mLv y) i y).1) ▸ mh_nu (n := n) (nu := nI (mFr (mLv y) i y).1) hq66 H2)
        have fr : ∀ {Q' : Option Value → Hp → Prop}, (∀ h', MH N mt q h0 (mFr (mLv y) i (mM1 n 2 y)).2 h' → hv h' = hv (pA h (q + 6) (upd (hA h (q + 6)) (n - 1) 2)) → Q' (some (.int (nI (mFr (mLv y) i y).1))) h') → aEv (d - 1) 209 [.ref 59, .int (nI (mLv y)), .int (nI i)] (pA h (q + 6) (upd (hA h (q + 6)) (n - 1) 2)) Q' := fun hq' =>
          sp_free md hq66 (mLv y) i l0 (mM1 n 2 y) _ (d - 1) _ Hm fi hil el0 hll (Nat.le_refl _) hall hla (by omega) (fun h' w1 w2 => by
            have := hq' h' w1 w2
            rw [eF]
            exact this)
        rcases hq66 with rfl | rfl
        · have n6 : hN h 72 = 6200 := nn.2.2.2.2.2.1
          simp only [lv_args, z_v, z_lg, z_h, z_u, z_u1, z_c, z_ct, z_sk, sbne, lst1_d, ldel, lst2_d, ldel2, z_sw, z_rok, zi, eq_self, List.map_cons, List.map_nil, List.append_nil, List.nil_append, List.cons_append, Int32.reduceLT, Int32.reduceLE, Int32.reduceAdd, Int32.reduceSub, Int32.reduceMul, Int32.reduceToInt, Int32.reduceToNatClampNeg, Int.reduceLT, Int.reduceLE, Int.reduceNeg, true_and, and_true, or_self, or_false, false_or, false_and, and_false, true_or, or_true, if_true, if_false, ne_eq, Classical.not_not, not_true_eq_false, not_false_eq_true, true_implies, false_implies, implies_true, Nat.reduceEqDiff, Nat.reduceAdd, Nat.reduceLeDiff, Nat.reduceSub, reduceCtorEq, reduceIte, b268_100, skM s, srM s, n107, n109, ml1]
          simp (disch := omega) only [nI_ti, nI_cl, le0N, ltNN, c4, c5, s107, a109, true_and]
          try simp only [lv_args, z_v, z_lg, z_h, z_u, z_u1, z_c, z_ct, z_sk, sbne, lst1_d, ldel, lst2_d, ldel2, z_sw, z_rok, zi, eq_self, List.map_cons, List.map_nil, List.append_nil, List.nil_append, List.cons_append, Int32.reduceLT, Int32.reduceLE, Int32.reduceAdd, Int32.reduceSub, Int32.reduceMul, Int32.reduceToInt, Int32.reduceToNatClampNeg, Int.reduceLT, Int.reduceLE, Int.reduceNeg, true_and, and_true, or_self, or_false, false_or, false_and, and_false, true_or, or_true, if_true, if_false, ne_eq, Classical.not_not, not_true_eq_false, not_false_eq_true, true_implies, false_implies, implies_true, Nat.reduceEqDiff, Nat.reduceAdd, Nat.reduceLeDiff, Nat.reduceSub, reduceCtorEq, reduceIte, b268_100, skM s, srM s, n107, n109, ml1]
          try simp (disch := omega) only [nI_ti, nI_cl, le0N, ltNN, c4, c5, s107, a109, true_and]
          simp only [cll, not_false_eq_true, false_imp_iff, true_imp_iff, and_true]
          simp only [lv_args, z_v, z_lg, z_h, z_u, z_u1, z_c, z_ct, z_sk, sbne, lst1_d, ldel, lst2_d, ldel2, z_sw, z_rok, zi, eq_self, List.map_cons, List.map_nil, List.append_nil, List.nil_append, List.cons_append, Int32.reduceLT, Int32.reduceLE, Int32.reduceAdd, Int32.reduceSub, Int32.reduceMul, Int32.reduceToInt, Int32.reduceToNatClampNeg, Int.reduceLT, Int.reduceLE, Int.reduceNeg, true_and, and_true, or_self, or_false, false_or, false_and, and_false, true_or, or_true, if_true, if_false, ne_eq, Classical.not_not, not_true_eq_false, not_false_eq_true, true_implies, false_implies, implies_true, Nat.reduceEqDiff, Nat.reduceAdd, Nat.reduceLeDiff, Nat.reduceSub, reduceCtorEq, reduceIte, b268_128, b268_129, skM s, srM s, n6, n107, n109, ml1]
          simp (disch := omega) only [nI_ti, nI_cl, le0N, ltNN, c2, c4, c5, s107, a109, true_and]
          try simp only [lv_args, z_v, z_lg, z_h, z_u, z_u1, z_c, z_ct, z_sk, sbne, lst1_d, ldel, lst2_d, ldel2, z_sw, z_rok, zi, eq_self, List.map_cons, List.map_nil, List.append_nil, List.nil_append, List.cons_append, Int32.reduceLT, Int32.reduceLE, Int32.reduceAdd, Int32.reduceSub, Int32.reduceMul, Int32.reduceToInt, Int32.reduceToNatClampNeg, Int.reduceLT, Int.reduceLE, Int.reduceNeg, true_and, and_true, or_self, or_false, false_or, false_and, and_false, true_or, or_true, if_true, if_false, ne_eq, Classical.not_not, not_true_eq_false, not_false_eq_true, true_implies, false_implies, implies_true, Nat.reduceEqDiff, Nat.reduceAdd, Nat.reduceLeDiff, Nat.reduceSub, reduceCtorEq, reduceIte, b268_129, skM s, srM s, n6, n107, n109, ml1]
          try simp (disch := omega) only [nI_ti, nI_cl, le0N, ltNN, c2, c4, c5, s107, a109, true_and]
          try simp only [lv_args, z_v, z_lg, z_h, z_u, z_u1, z_c, z_ct, z_sk, sbne, lst1_d, ldel, lst2_d, ldel2, z_sw, z_rok, zi, eq_self, List.map_cons, List.map_nil, List.append_nil, List.nil_append, List.cons_append, Int32.reduceLT, Int32.reduceLE, Int32.reduceAdd, Int32.reduceSub, Int32.reduceMul, Int32.reduceToInt, Int32.reduceToNatClampNeg, Int.reduceLT, Int.reduceLE, Int.reduceNeg, true_and, and_true, or_self, or_false, false_or, false_and, and_false, true_or, or_true, if_true, if_false, ne_eq, Classical.not_not, not_true_eq_false, not_false_eq_true, true_implies, false_implies, implies_true, Nat.reduceEqDiff, Nat.reduceAdd, Nat.reduceLeDiff, Nat.reduceSub, reduceCtorEq, reduceIte, b268_129, skM s, srM s, n6, n107, n109, ml1]
          try simp (disch := omega) only [nI_ti, nI_cl, le0N, ltNN, c2, c4, c5, s107, a109, true_and]
          simp only [cll, not_false_eq_true, false_imp_iff, true_imp_iff, and_true]
          simp only [lv_args, z_v, z_lg, z_h, z_u, z_u1, z_c, z_ct, z_sk, sbne, lst1_d, ldel, lst2_d, ldel2, z_sw, z_rok, zi, eq_self, List.map_cons, List.map_nil, List.append_nil, List.nil_append, List.cons_append, Int32.reduceLT, Int32.reduceLE, Int32.reduceAdd, Int32.reduceSub, Int32.reduceMul, Int32.reduceToInt, Int32.reduceToNatClampNeg, Int.reduceLT, Int.reduceLE, Int.reduceNeg, true_and, and_true, or_self, or_false, false_or, false_and, and_false, true_or, or_true, if_true, if_false, ne_eq, Classical.not_not, not_true_eq_false, not_false_eq_true, true_implies, false_implies, implies_true, Nat.reduceEqDiff, Nat.reduceAdd, Nat.reduceLeDiff, Nat.reduceSub, reduceCtorEq, reduceIte, b268_164, skM s, srM s, ml1, h00]
          refine fr (fun h2 H2 hv2 => ?_)
          have m2 := md_m md H2
          have s2 := m2.1.1
          have n7' : hN h2 73 = 6200 := (nq m2.1.2 (by omega)).2.2.2.2.2.2.1
          have hv2' : hv h2 = hv h := hv2
          have P2 := P h2 H2
          simp only [lv_args, z_v, z_lg, z_h, z_u, z_u1, z_c, z_ct, z_sk, sbne, lst1_d, ldel, lst2_d, ldel2, z_sw, z_rok, zi, eq_self, List.map_cons, List.map_nil, List.append_nil, List.nil_append, List.cons_append, Int32.reduceLT, Int32.reduceLE, Int32.reduceAdd, Int32.reduceSub, Int32.reduceMul, Int32.reduceToInt, Int32.reduceToNatClampNeg, Int.reduceLT, Int.reduceLE, Int.reduceNeg, true_and, and_true, or_self, or_false, false_or, false_and, and_false, true_or, or_true, if_true, if_false, ne_eq, Classical.not_not, not_true_eq_false, not_false_eq_true, true_implies, false_implies, implies_true, Nat.reduceEqDiff, Nat.reduceAdd, Nat.reduceLeDiff, Nat.reduceSub, reduceCtorEq, reduceIte, b268_164, b268_174, skM s, skM s2, srM s2, n7', hv2', Nat.reduceLT]
          simp (disch := omega) only [nI_ti, nI_cl, le0N, ltNN, c2, true_and]
          try simp only [lv_args, z_v, z_lg, z_h, z_u, z_u1, z_c, z_ct, z_sk, sbne, lst1_d, ldel, lst2_d, ldel2, z_sw, z_rok, zi, eq_self, List.map_cons, List.map_nil, List.append_nil, List.nil_append, List.cons_append, Int32.reduceLT, Int32.reduceLE, Int32.reduceAdd, Int32.reduceSub, Int32.reduceMul, Int32.reduceToInt, Int32.reduceToNatClampNeg, Int.reduceLT, Int.reduceLE, Int.reduceNeg, true_and, and_true, or_self, or_false, false_or, false_and, and_false, true_or, or_true, if_true, if_false, ne_eq, Classical.not_not, not_true_eq_false, not_false_eq_true, true_implies, false_implies, implies_true, Nat.reduceEqDiff, Nat.reduceAdd, Nat.reduceLeDiff, Nat.reduceSub, reduceCtorEq, reduceIte, b268_174, b268_221]
          exact P2
        · have n6 : hN h 92 = 6200 := nn.2.2.2.2.2.1
          simp only [lv_args, z_v, z_lg, z_h, z_u, z_u1, z_c, z_ct, z_sk, sbne, lst1_d, ldel, lst2_d, ldel2, z_sw, z_rok, zi, eq_self, List.map_cons, List.map_nil, List.append_nil, List.nil_append, List.cons_append, Int32.reduceLT, Int32.reduceLE, Int32.reduceAdd, Int32.reduceSub, Int32.reduceMul, Int32.reduceToInt, Int32.reduceToNatClampNeg, Int.reduceLT, Int.reduceLE, Int.reduceNeg, true_and, and_true, or_self, or_false, false_or, false_and, and_false, true_or, or_true, if_true, if_false, ne_eq, Classical.not_not, not_true_eq_false, not_false_eq_true, true_implies, false_implies, implies_true, Nat.reduceEqDiff, Nat.reduceAdd, Nat.reduceLeDiff, Nat.reduceSub, reduceCtorEq, reduceIte, b268_100, skM s, srM s, n107, n109, ml1]
          simp (disch := omega) only [nI_ti, nI_cl, le0N, ltNN, c4, c5, s107, a109, true_and]
          try simp only [lv_args, z_v, z_lg, z_h, z_u, z_u1, z_c, z_ct, z_sk, sbne, lst1_d, ldel, lst2_d, ldel2, z_sw, z_rok, zi, eq_self, List.map_cons, List.map_nil, List.append_nil, List.nil_append, List.cons_append, Int32.reduceLT, Int32.reduceLE, Int32.reduceAdd, Int32.reduceSub, Int32.reduceMul, Int32.reduceToInt, Int32.reduceToNatClampNeg, Int.reduceLT, Int.reduceLE, Int.reduceNeg, true_and, and_true, or_self, or_false, false_or, false_and, and_false, true_or, or_true, if_true, if_false, ne_eq, Classical.not_not, not_true_eq_false, not_false_eq_true, true_implies, false_implies, implies_true, Nat.reduceEqDiff, Nat.reduceAdd, Nat.reduceLeDiff, Nat.reduceSub, reduceCtorEq, reduceIte, b268_100, skM s, srM s, n107, n109, ml1]
          try simp (disch := omega) only [nI_ti, nI_cl, le0N, ltNN, c4, c5, s107, a109, true_and]
          simp only [cll, not_false_eq_true, false_imp_iff, true_imp_iff, and_true]
          simp only [lv_args, z_v, z_lg, z_h, z_u, z_u1, z_c, z_ct, z_sk, sbne, lst1_d, ldel, lst2_d, ldel2, z_sw, z_rok, zi, eq_self, List.map_cons, List.map_nil, List.append_nil, List.nil_append, List.cons_append, Int32.reduceLT, Int32.reduceLE, Int32.reduceAdd, Int32.reduceSub, Int32.reduceMul, Int32.reduceToInt, Int32.reduceToNatClampNeg, Int.reduceLT, Int.reduceLE, Int.reduceNeg, true_and, and_true, or_self, or_false, false_or, false_and, and_false, true_or, or_true, if_true, if_false, ne_eq, Classical.not_not, not_true_eq_false, not_false_eq_true, true_implies, false_implies, implies_true, Nat.reduceEqDiff, Nat.reduceAdd, Nat.reduceLeDiff, Nat.reduceSub, reduceCtorEq, reduceIte, b268_128, b268_129, skM s, srM s, n6, n107, n109, ml1]
          simp (disch := omega) only [nI_ti, nI_cl, le0N, ltNN, c2, c4, c5, s107, a109, true_and]
          try simp only [lv_args, z_v, z_lg, z_h, z_u, z_u1, z_c, z_ct, z_sk, sbne, lst1_d, ldel, lst2_d, ldel2, z_sw, z_rok, zi, eq_self, List.map_cons, List.map_nil, List.append_nil, List.nil_append, List.cons_append, Int32.reduceLT, Int32.reduceLE, Int32.reduceAdd, Int32.reduceSub, Int32.reduceMul, Int32.reduceToInt, Int32.reduceToNatClampNeg, Int.reduceLT, Int.reduceLE, Int.reduceNeg, true_and, and_true, or_self, or_false, false_or, false_and, and_false, true_or, or_true, if_true, if_false, ne_eq, Classical.not_not, not_true_eq_false, not_false_eq_true, true_implies, false_implies, implies_true, Nat.reduceEqDiff, Nat.reduceAdd, Nat.reduceLeDiff, Nat.reduceSub, reduceCtorEq, reduceIte, b268_129, skM s, srM s, n6, n107, n109, ml1]
          try simp (disch := omega) only [nI_ti, nI_cl, le0N, ltNN, c2, c4, c5, s107, a109, true_and]
          try simp only [lv_args, z_v, z_lg, z_h, z_u, z_u1, z_c, z_ct, z_sk, sbne, lst1_d, ldel, lst2_d, ldel2, z_sw, z_rok, zi, eq_self, List.map_cons, List.map_nil, List.append_nil, List.nil_append, List.cons_append, Int32.reduceLT, Int32.reduceLE, Int32.reduceAdd, Int32.reduceSub, Int32.reduceMul, Int32.reduceToInt, Int32.reduceToNatClampNeg, Int.reduceLT, Int.reduceLE, Int.reduceNeg, true_and, and_true, or_self, or_false, false_or, false_and, and_false, true_or, or_true, if_true, if_false, ne_eq, Classical.not_not, not_true_eq_false, not_false_eq_true, true_implies, false_implies, implies_true, Nat.reduceEqDiff, Nat.reduceAdd, Nat.reduceLeDiff, Nat.reduceSub, reduceCtorEq, reduceIte, b268_129, skM s, srM s, n6, n107, n109, ml1]
          try simp (disch := omega) only [nI_ti, nI_cl, le0N, ltNN, c2, c4, c5, s107, a109, true_and]
          simp only [cll, not_false_eq_true, false_imp_iff, true_imp_iff, and_true]
          simp only [lv_args, z_v, z_lg, z_h, z_u, z_u1, z_c, z_ct, z_sk, sbne, lst1_d, ldel, lst2_d, ldel2, z_sw, z_rok, zi, eq_self, List.map_cons, List.map_nil, List.append_nil, List.nil_append, List.cons_append, Int32.reduceLT, Int32.reduceLE, Int32.reduceAdd, Int32.reduceSub, Int32.reduceMul, Int32.reduceToInt, Int32.reduceToNatClampNeg, Int.reduceLT, Int.reduceLE, Int.reduceNeg, true_and, and_true, or_self, or_false, false_or, false_and, and_false, true_or, or_true, if_true, if_false, ne_eq, Classical.not_not, not_true_eq_false, not_false_eq_true, true_implies, false_implies, implies_true, Nat.reduceEqDiff, Nat.reduceAdd, Nat.reduceLeDiff, Nat.reduceSub, reduceCtorEq, reduceIte, b268_164, skM s, srM s, ml1, h00]
          refine fr (fun h2 H2 hv2 => ?_)
          have m2 := md_m md H2
          have s2 := m2.1.1
          have n7' : hN h2 93 = 6200 := (nq m2.1.2 (by omega)).2.2.2.2.2.2.1
          have hv2' : hv h2 = hv h := hv2
          have P2 := P h2 H2
          simp only [lv_args, z_v, z_lg, z_h, z_u, z_u1, z_c, z_ct, z_sk, sbne, lst1_d, ldel, lst2_d, ldel2, z_sw, z_rok, zi, eq_self, List.map_cons, List.map_nil, List.append_nil, List.nil_append, List.cons_append, Int32.reduceLT, Int32.reduceLE, Int32.reduceAdd, Int32.reduceSub, Int32.reduceMul, Int32.reduceToInt, Int32.reduceToNatClampNeg, Int.reduceLT, Int.reduceLE, Int.reduceNeg, true_and, and_true, or_self, or_false, false_or, false_and, and_false, true_or, or_true, if_true, if_false, ne_eq, Classical.not_not, not_true_eq_false, not_false_eq_true, true_implies, false_implies, implies_true, Nat.reduceEqDiff, Nat.reduceAdd, Nat.reduceLeDiff, Nat.reduceSub, reduceCtorEq, reduceIte, b268_164, b268_174, skM s, skM s2, srM s2, n7', hv2', Nat.reduceLT]
          simp (disch := omega) only [nI_ti, nI_cl, le0N, ltNN, c2, true_and]
          try simp only [lv_args, z_v, z_lg, z_h, z_u, z_u1, z_c, z_ct, z_sk, sbne, lst1_d, ldel, lst2_d, ldel2, z_sw, z_rok, zi, eq_self, List.map_cons, List.map_nil, List.append_nil, List.nil_append, List.cons_append, Int32.reduceLT, Int32.reduceLE, Int32.reduceAdd, Int32.reduceSub, Int32.reduceMul, Int32.reduceToInt, Int32.reduceToNatClampNeg, Int.reduceLT, Int.reduceLE, Int.reduceNeg, true_and, and_true, or_self, or_false, false_or, false_and, and_false, true_or, or_true, if_true, if_false, ne_eq, Classical.not_not, not_true_eq_false, not_false_eq_true, true_implies, false_implies, implies_true, Nat.reduceEqDiff, Nat.reduceAdd, Nat.reduceLeDiff, Nat.reduceSub, reduceCtorEq, reduceIte, b268_174, b268_221]
          exact P2
    have loop : ∀ k, k ≤ (mSg y).length → fdU j (mSg y) k = mFd j (mSg y) → aWP d 268 73 [(5, .int (nI k - 1)), (4, .int (nI 0)), (3, .int (nI (mt.idxOf j))), (2, .ref q), (0, .ref 59), (1, .int (nI (n - 1)))] [] h Q := by
      intro k
      induction k with
      | zero =>
        intro _ hf
        have go := none' (by rw [← hf]; rfl) (nI 0 - 1)
        have c : (nI 0 - 1 < 0) = True := eq_true (by decide)
        simp only [lv_args, z_v, z_lg, z_h, z_u, z_u1, z_c, z_ct, z_sk, sbne, lst1_d, ldel, lst2_d, ldel2, z_sw, z_rok, zi, eq_self, List.map_cons, List.map_nil, List.append_nil, List.nil_append, List.cons_append, Int32.reduceLT, Int32.reduceLE, Int32.reduceAdd, Int32.reduceSub, Int32.reduceMul, Int32.reduceToInt, Int32.reduceToNatClampNeg, Int.reduceLT, Int.reduceLE, Int.reduceNeg, true_and, and_true, or_self, or_false, false_or, false_and, and_false, true_or, or_true, if_true, if_false, ne_eq, Classical.not_not, not_true_eq_false, not_false_eq_true, true_implies, false_implies, implies_true, Nat.reduceEqDiff, Nat.reduceAdd, Nat.reduceLeDiff, Nat.reduceSub, reduceCtorEq, reduceIte, b268_73, c]
        simp only [lv_args, z_v, z_lg, z_h, z_u, z_u1, z_c, z_ct, z_sk, sbne, lst1_d, ldel, lst2_d, ldel2, z_sw, z_rok, zi, eq_self, List.map_cons, List.map_nil, List.append_nil, List.nil_append, List.cons_append, Int32.reduceLT, Int32.reduceLE, Int32.reduceAdd, Int32.reduceSub, Int32.reduceMul, Int32.reduceToInt, Int32.reduceToNatClampNeg, Int.reduceLT, Int.reduceLE, Int.reduceNeg, true_and, and_true, or_self, or_false, false_or, false_and, and_false, true_or, or_true, if_true, if_false, ne_eq, Classical.not_not, not_true_eq_false, not_false_eq_true, true_implies, false_implies, implies_true, Nat.reduceEqDiff, Nat.reduceAdd, Nat.reduceLeDiff, Nat.reduceSub, reduceCtorEq, reduceIte, b268_95, c]
        exact go
      | succ k ih =>
        intro hk hf
        rw [fdU_s] at hf
        have hx := gdD (l := mSg y) (x := ((0, 0, 0) : SGe)) (show k < (mSg y).length by omega)
        obtain ⟨⟨e1, e2⟩, _⟩ := ms3 k _ hx
        have c4 : (k < 6200) = True := eq_true (by omega)
        rw [nI_m1]
        simp only [lv_args, z_v, z_lg, z_h, z_u, z_u1, z_c, z_ct, z_sk, sbne, lst1_d, ldel, lst2_d, ldel2, z_sw, z_rok, zi, eq_self, List.map_cons, List.map_nil, List.append_nil, List.nil_append, List.cons_append, Int32.reduceLT, Int32.reduceLE, Int32.reduceAdd, Int32.reduceSub, Int32.reduceMul, Int32.reduceToInt, Int32.reduceToNatClampNeg, Int.reduceLT, Int.reduceLE, Int.reduceNeg, true_and, and_true, or_self, or_false, false_or, false_and, and_false, true_or, or_true, if_true, if_false, ne_eq, Classical.not_not, not_true_eq_false, not_false_eq_true, true_implies, false_implies, implies_true, Nat.reduceEqDiff, Nat.reduceAdd, Nat.reduceLeDiff, Nat.reduceSub, reduceCtorEq, reduceIte, b268_73]
        simp (disch := omega) only [nI_lt0, false_imp_iff, not_false_eq_true, true_imp_iff, true_and]
        simp only [lv_args, z_v, z_lg, z_h, z_u, z_u1, z_c, z_ct, z_sk, sbne, lst1_d, ldel, lst2_d, ldel2, z_sw, z_rok, zi, eq_self, List.map_cons, List.map_nil, List.append_nil, List.nil_append, List.cons_append, Int32.reduceLT, Int32.reduceLE, Int32.reduceAdd, Int32.reduceSub, Int32.reduceMul, Int32.reduceToInt, Int32.reduceToNatClampNeg, Int.reduceLT, Int.reduceLE, Int.reduceNeg, true_and, and_true, or_self, or_false, false_or, false_and, and_false, true_or, or_true, if_true, if_false, ne_eq, Classical.not_not, not_true_eq_false, not_false_eq_true, true_implies, false_implies, implies_true, Nat.reduceEqDiff, Nat.reduceAdd, Nat.reduceLeDiff, Nat.reduceSub, reduceCtorEq, reduceIte, b268_78, skM s, srM s, n106]
        simp (disch := omega) only [nI_ti, nI_cl, le0N, ltNN, c4, e2, true_and]
        rw [idx_eq md e1 hj]
        refine ⟨fun c => ?_, fun c => ?_⟩
        · rw [if_pos c] at hf
          have go := some' k hf.symm
          simp only [lv_args, z_v, z_lg, z_h, z_u, z_u1, z_c, z_ct, z_sk, sbne, lst1_d, ldel, lst2_d, ldel2, z_sw, z_rok, zi, eq_self, List.map_cons, List.map_nil, List.append_nil, List.nil_append, List.cons_append, Int32.reduceLT, Int32.reduceLE, Int32.reduceAdd, Int32.reduceSub, Int32.reduceMul, Int32.reduceToInt, Int32.reduceToNatClampNeg, Int.reduceLT, Int.reduceLE, Int.reduceNeg, true_and, and_true, or_self, or_false, false_or, false_and, and_false, true_or, or_true, if_true, if_false, ne_eq, Classical.not_not, not_true_eq_false, not_false_eq_true, true_implies, false_implies, implies_true, Nat.reduceEqDiff, Nat.reduceAdd, Nat.reduceLeDiff, Nat.reduceSub, reduceCtorEq, reduceIte, b268_95]
          simp (disch := omega) only [nI_lt0, false_imp_iff, not_false_eq_true, true_imp_iff, true_and]
          exact go
        · rw [if_neg c] at hf
          have go := ih (by omega) hf
          simp only [lv_args, z_v, z_lg, z_h, z_u, z_u1, z_c, z_ct, z_sk, sbne, lst1_d, ldel, lst2_d, ldel2, z_sw, z_rok, zi, eq_self, List.map_cons, List.map_nil, List.append_nil, List.nil_append, List.cons_append, Int32.reduceLT, Int32.reduceLE, Int32.reduceAdd, Int32.reduceSub, Int32.reduceMul, Int32.reduceToInt, Int32.reduceToNatClampNeg, Int.reduceLT, Int.reduceLE, Int.reduceNeg, true_and, and_true, or_self, or_false, false_or, false_and, and_false, true_or, or_true, if_true, if_false, ne_eq, Classical.not_not, not_true_eq_false, not_false_eq_true, true_implies, false_implies, implies_true, Nat.reduceEqDiff, Nat.reduceAdd, Nat.reduceLeDiff, Nat.reduceSub, reduceCtorEq, reduceIte, b268_89, i32_dec]
          exact go
    have go := loop (mSg y).length (Nat.le_refl _) rfl
    simp only [lv_args, z_v, z_lg, z_h, z_u, z_u1, z_c, z_ct, z_sk, sbne, lst1_d, ldel, lst2_d, ldel2, z_sw, z_rok, zi, eq_self, List.map_cons, List.map_nil, List.append_nil, List.nil_append, List.cons_append, Int32.reduceLT, Int32.reduceLE, Int32.reduceAdd, Int32.reduceSub, Int32.reduceMul, Int32.reduceToInt, Int32.reduceToNatClampNeg, Int.reduceLT, Int.reduceLE, Int.reduceNeg, true_and, and_true, or_self, or_false, false_or, false_and, and_false, true_or, or_true, if_true, if_false, ne_eq, Classical.not_not, not_true_eq_false, not_false_eq_true, true_implies, false_implies, implies_true, Nat.reduceEqDiff, Nat.reduceAdd, Nat.reduceLeDiff, Nat.reduceSub, reduceCtorEq, reduceIte, b268_65, skM s, ms1]
    exact go
  have prim : 10 ≤ j → j < 30 → aWP d 268 49 [(4, .int (nI (j + 1))), (3, .int (nI (mt.idxOf j))), (2, .ref q), (0, .ref 59), (1, .int (nI (n - 1)))] [] h Q := by
    intro w1 w2
    rw [if_neg (by omega), if_pos w2] at hq
    have P := hq _ (mh_nu (n := n) (nu := nI (j + 1)) hq66 (mh_me (n := n) (me := 4) hq66 H))
    rcases hq66 with rfl | rfl
    · have n6 : hN h 72 = 6200 := nn.2.2.2.2.2.1
      have n7 : hN h 73 = 6200 := nn.2.2.2.2.2.2.1
      simp only [lv_args, z_v, z_lg, z_h, z_u, z_u1, z_c, z_ct, z_sk, sbne, lst1_d, ldel, lst2_d, ldel2, z_sw, z_rok, zi, eq_self, List.map_cons, List.map_nil, List.append_nil, List.nil_append, List.cons_append, Int32.reduceLT, Int32.reduceLE, Int32.reduceAdd, Int32.reduceSub, Int32.reduceMul, Int32.reduceToInt, Int32.reduceToNatClampNeg, Int.reduceLT, Int.reduceLE, Int.reduceNeg, true_and, and_true, or_self, or_false, false_or, false_and, and_false, true_or, or_true, if_true, if_false, ne_eq, Classical.not_not, not_true_eq_false, not_false_eq_true, true_implies, false_implies, implies_true, Nat.reduceEqDiff, Nat.reduceAdd, Nat.reduceLeDiff, Nat.reduceSub, reduceCtorEq, reduceIte, b268_49, skM s, srM s, n6, n7]
      simp (disch := omega) only [nI_ti, nI_cl, le0N, ltNN, c2, true_and]
      try simp only [lv_args, z_v, z_lg, z_h, z_u, z_u1, z_c, z_ct, z_sk, sbne, lst1_d, ldel, lst2_d, ldel2, z_sw, z_rok, zi, eq_self, List.map_cons, List.map_nil, List.append_nil, List.nil_append, List.cons_append, Int32.reduceLT, Int32.reduceLE, Int32.reduceAdd, Int32.reduceSub, Int32.reduceMul, Int32.reduceToInt, Int32.reduceToNatClampNeg, Int.reduceLT, Int.reduceLE, Int.reduceNeg, true_and, and_true, or_self, or_false, false_or, false_and, and_false, true_or, or_true, if_true, if_false, ne_eq, Classical.not_not, not_true_eq_false, not_false_eq_true, true_implies, false_implies, implies_true, Nat.reduceEqDiff, Nat.reduceAdd, Nat.reduceLeDiff, Nat.reduceSub, reduceCtorEq, reduceIte, b268_49, skM s, srM s, n6, n7]
      try simp (disch := omega) only [nI_ti, nI_cl, le0N, ltNN, c2, true_and]
      exact P
    · have n6 : hN h 92 = 6200 := nn.2.2.2.2.2.1
      have n7 : hN h 93 = 6200 := nn.2.2.2.2.2.2.1
      simp only [lv_args, z_v, z_lg, z_h, z_u, z_u1, z_c, z_ct, z_sk, sbne, lst1_d, ldel, lst2_d, ldel2, z_sw, z_rok, zi, eq_self, List.map_cons, List.map_nil, List.append_nil, List.nil_append, List.cons_append, Int32.reduceLT, Int32.reduceLE, Int32.reduceAdd, Int32.reduceSub, Int32.reduceMul, Int32.reduceToInt, Int32.reduceToNatClampNeg, Int.reduceLT, Int.reduceLE, Int.reduceNeg, true_and, and_true, or_self, or_false, false_or, false_and, and_false, true_or, or_true, if_true, if_false, ne_eq, Classical.not_not, not_true_eq_false, not_false_eq_true, true_implies, false_implies, implies_true, Nat.reduceEqDiff, Nat.reduceAdd, Nat.reduceLeDiff, Nat.reduceSub, reduceCtorEq, reduceIte, b268_49, skM s, srM s, n6, n7]
      simp (disch := omega) only [nI_ti, nI_cl, le0N, ltNN, c2, true_and]
      try simp only [lv_args, z_v, z_lg, z_h, z_u, z_u1, z_c, z_ct, z_sk, sbne, lst1_d, ldel, lst2_d, ldel2, z_sw, z_rok, zi, eq_self, List.map_cons, List.map_nil, List.append_nil, List.nil_append, List.cons_append, Int32.reduceLT, Int32.reduceLE, Int32.reduceAdd, Int32.reduceSub, Int32.reduceMul, Int32.reduceToInt, Int32.reduceToNatClampNeg, Int.reduceLT, Int.reduceLE, Int.reduceNeg, true_and, and_true, or_self, or_false, false_or, false_and, and_false, true_or, or_true, if_true, if_false, ne_eq, Classical.not_not, not_true_eq_false, not_false_eq_true, true_implies, false_implies, implies_true, Nat.reduceEqDiff, Nat.reduceAdd, Nat.reduceLeDiff, Nat.reduceSub, reduceCtorEq, reduceIte, b268_49, skM s, srM s, n6, n7]
      try simp (disch := omega) only [nI_ti, nI_cl, le0N, ltNN, c2, true_and]
      exact P
  unfold aEv
  simp only [lv_args, z_v, z_lg, z_h, z_u, z_u1, z_c, z_ct, z_sk, sbne, lst1_d, ldel, lst2_d, ldel2, z_sw, z_rok, zi, eq_self, List.map_cons, List.map_nil, List.append_nil, List.nil_append, List.cons_append, Int32.reduceLT, Int32.reduceLE, Int32.reduceAdd, Int32.reduceSub, Int32.reduceMul, Int32.reduceToInt, Int32.reduceToNatClampNeg, Int.reduceLT, Int.reduceLE, Int.reduceNeg, true_and, and_true, or_self, or_false, false_or, false_and, and_false, true_or, or_true, if_true, if_false, ne_eq, Classical.not_not, not_true_eq_false, not_false_eq_true, true_implies, false_implies, implies_true, Nat.reduceEqDiff, Nat.reduceAdd, Nat.reduceLeDiff, Nat.reduceSub, reduceCtorEq, reduceIte, b268_0, skM s, srM s, R, w, nn]
  simp (disch := omega) only [nI_ti, nI_cl, le0N, ltNN, c2, ev, true_and]
  try simp only [lv_args, z_v, z_lg, z_h, z_u, z_u1, z_c, z_ct, z_sk, sbne, lst1_d, ldel, lst2_d, ldel2, z_sw, z_rok, zi, eq_self, List.map_cons, List.map_nil, List.append_nil, List.nil_append, List.cons_append, Int32.reduceLT, Int32.reduceLE, Int32.reduceAdd, Int32.reduceSub, Int32.reduceMul, Int32.reduceToInt, Int32.reduceToNatClampNeg, Int.reduceLT, Int.reduceLE, Int.reduceNeg, true_and, and_true, or_self, or_false, false_or, false_and, and_false, true_or, or_true, if_true, if_false, ne_eq, Classical.not_not, not_true_eq_false, not_false_eq_true, true_implies, false_implies, implies_true, Nat.reduceEqDiff, Nat.reduceAdd, Nat.reduceLeDiff, Nat.reduceSub, reduceCtorEq, reduceIte, b268_0, skM s, srM s, R, w, nn]
  try simp (disch := omega) only [nI_ti, nI_cl, le0N, ltNN, c2, c3, ev, jw2, true_and]
  by_cases c30 : j < 30
  · rw [if_pos c30, le_0N (by omega)]
    refine ⟨fun c => absurd c (by omega), fun _ => ?_⟩
    simp only [lv_args, z_v, z_lg, z_h, z_u, z_u1, z_c, z_ct, z_sk, sbne, lst1_d, ldel, lst2_d, ldel2, z_sw, z_rok, zi, eq_self, List.map_cons, List.map_nil, List.append_nil, List.nil_append, List.cons_append, Int32.reduceLT, Int32.reduceLE, Int32.reduceAdd, Int32.reduceSub, Int32.reduceMul, Int32.reduceToInt, Int32.reduceToNatClampNeg, Int.reduceLT, Int.reduceLE, Int.reduceNeg, true_and, and_true, or_self, or_false, false_or, false_and, and_false, true_or, or_true, if_true, if_false, ne_eq, Classical.not_not, not_true_eq_false, not_false_eq_true, true_implies, false_implies, implies_true, Nat.reduceEqDiff, Nat.reduceAdd, Nat.reduceLeDiff, Nat.reduceSub, reduceCtorEq, reduceIte, b268_25, z10']
    simp (disch := omega) only [nI_ltN]
    refine ⟨fun c => ?_, fun c => ?_⟩
    · have go := prim (by omega) c30
      simp only [lv_args, z_v, z_lg, z_h, z_u, z_u1, z_c, z_ct, z_sk, sbne, lst1_d, ldel, lst2_d, ldel2, z_sw, z_rok, zi, eq_self, List.map_cons, List.map_nil, List.append_nil, List.nil_append, List.cons_append, Int32.reduceLT, Int32.reduceLE, Int32.reduceAdd, Int32.reduceSub, Int32.reduceMul, Int32.reduceToInt, Int32.reduceToNatClampNeg, Int.reduceLT, Int.reduceLE, Int.reduceNeg, true_and, and_true, or_self, or_false, false_or, false_and, and_false, true_or, or_true, if_true, if_false, ne_eq, Classical.not_not, not_true_eq_false, not_false_eq_true, true_implies, false_implies, implies_true, Nat.reduceEqDiff, Nat.reduceAdd, Nat.reduceLeDiff, Nat.reduceSub, reduceCtorEq, reduceIte, b268_44]
      rw [le_0N (by omega)]
      exact ⟨fun c => absurd c (by omega), fun _ => go⟩
    · rw [if_pos (by omega)] at hq
      simp only [lv_args, z_v, z_lg, z_h, z_u, z_u1, z_c, z_ct, z_sk, sbne, lst1_d, ldel, lst2_d, ldel2, z_sw, z_rok, zi, eq_self, List.map_cons, List.map_nil, List.append_nil, List.nil_append, List.cons_append, Int32.reduceLT, Int32.reduceLE, Int32.reduceAdd, Int32.reduceSub, Int32.reduceMul, Int32.reduceToInt, Int32.reduceToNatClampNeg, Int.reduceLT, Int.reduceLE, Int.reduceNeg, true_and, and_true, or_self, or_false, false_or, false_and, and_false, true_or, or_true, if_true, if_false, ne_eq, Classical.not_not, not_true_eq_false, not_false_eq_true, true_implies, false_implies, implies_true, Nat.reduceEqDiff, Nat.reduceAdd, Nat.reduceLeDiff, Nat.reduceSub, reduceCtorEq, reduceIte, b268_32, skM s, srM s, w, nn, h00]
      simp (disch := omega) only [nI_ti, nI_cl, le0N, ltNN, c2, pp1, true_and]
      try simp only [lv_args, z_v, z_lg, z_h, z_u, z_u1, z_c, z_ct, z_sk, sbne, lst1_d, ldel, lst2_d, ldel2, z_sw, z_rok, zi, eq_self, List.map_cons, List.map_nil, List.append_nil, List.nil_append, List.cons_append, Int32.reduceLT, Int32.reduceLE, Int32.reduceAdd, Int32.reduceSub, Int32.reduceMul, Int32.reduceToInt, Int32.reduceToNatClampNeg, Int.reduceLT, Int.reduceLE, Int.reduceNeg, true_and, and_true, or_self, or_false, false_or, false_and, and_false, true_or, or_true, if_true, if_false, ne_eq, Classical.not_not, not_true_eq_false, not_false_eq_true, true_implies, false_implies, implies_true, Nat.reduceEqDiff, Nat.reduceAdd, Nat.reduceLeDiff, Nat.reduceSub, reduceCtorEq, reduceIte, b268_32, skM s, w, h00]
      refine sp_wr (k := 3) (p := nQ N n) md H rfl rfl (by decide) pp2 (fun h' H' => ?_)
      have s' := (md_m md H').1.1
      have w' := sq s' hq66
      simp only [lv_args, z_v, z_lg, z_h, z_u, z_u1, z_c, z_ct, z_sk, sbne, lst1_d, ldel, lst2_d, ldel2, z_sw, z_rok, zi, eq_self, List.map_cons, List.map_nil, List.append_nil, List.nil_append, List.cons_append, Int32.reduceLT, Int32.reduceLE, Int32.reduceAdd, Int32.reduceSub, Int32.reduceMul, Int32.reduceToInt, Int32.reduceToNatClampNeg, Int.reduceLT, Int.reduceLE, Int.reduceNeg, true_and, and_true, or_self, or_false, false_or, false_and, and_false, true_or, or_true, if_true, if_false, ne_eq, Classical.not_not, not_true_eq_false, not_false_eq_true, true_implies, false_implies, implies_true, Nat.reduceEqDiff, Nat.reduceAdd, Nat.reduceLeDiff, Nat.reduceSub, reduceCtorEq, reduceIte, b268_32, skM s, skM s', w, w', Nat.reduceLT]
      exact hq h' H'
  · have go := noW (by omega)
    rw [if_neg c30, le_0N (by omega)]
    refine ⟨fun _ => ?_, fun c => absurd rfl c⟩
    simp only [lv_args, z_v, z_lg, z_h, z_u, z_u1, z_c, z_ct, z_sk, sbne, lst1_d, ldel, lst2_d, ldel2, z_sw, z_rok, zi, eq_self, List.map_cons, List.map_nil, List.append_nil, List.nil_append, List.cons_append, Int32.reduceLT, Int32.reduceLE, Int32.reduceAdd, Int32.reduceSub, Int32.reduceMul, Int32.reduceToInt, Int32.reduceToNatClampNeg, Int.reduceLT, Int.reduceLE, Int.reduceNeg, true_and, and_true, or_self, or_false, false_or, false_and, and_false, true_or, or_true, if_true, if_false, ne_eq, Classical.not_not, not_true_eq_false, not_false_eq_true, true_implies, false_implies, implies_true, Nat.reduceEqDiff, Nat.reduceAdd, Nat.reduceLeDiff, Nat.reduceSub, reduceCtorEq, reduceIte, b268_44]
    rw [le_0N (by omega)]
    exact ⟨fun _ => go, fun c => absurd rfl c⟩
end MFR
