/-! BUILD. The reference's build: the text is taken -/
section BLF
variable {h h' h0 : Hp} {Q : Option Value → Hp → Prop} {d n q : Nat} {t : Nat → Nat}
theorem fb_sk (k : FrB q h0 h) (s : Sk h0) : Sk h := (sk_same k.1.1 k.1.2.1 k.1.2.2.2.1 : Sk _ = Sk h0) ▸ s
theorem fb_rm (k : FrB q h0 h) (r : Rm h0) : Rm h := rm_same k.1.2.2.1 k.1.2.2.2.1 k.1.2.2.2.2.1 r
theorem sp_b15 (s : Sk h) (rm : Rm h) (yy : YY q h) (hn : n ≤ 3000) (h60 : ∀ j, j < n → hA h 60 j = rb (t j)) (ht : ∀ j, t j < 256) (hd : 0 < d) (hq : ∀ h1, FrB q h h1 → SMt t n q h1 → hI h1 59 1 = 0 → hI h1 59 13 = 0 → hI h1 59 15 = 0 → (hI h1 q 0 = 0 ∧ hI h1 q 1 = 0 ∧ hI h1 q 2 = 0 ∧ hI h1 q 3 = -1 ∧ hI h1 q 4 = 0 ∧ hI h1 q 5 = 0) → aWP d 290 67 [(2, .int (nI n)), (0, .ref 59), (1, .int (nI n))] [] h1 Q) : aWP d 290 15 [(0, .ref 59), (1, .int (nI n))] [] h Q := by
  have hq66 : q = 66 ∨ q = 86 := yy.elim (fun w => Or.inl w.1) (fun w => Or.inr w.1)
  have loop : ∀ (r i : Nat) (h1 : Hp), i + r = n → FrB q h h1 → hI h1 59 5 = nI n → (∀ j, j < i → hA h1 61 j = rb (t j)) → aWP d 290 22 [(2, .int (nI i)), (0, .ref 59), (1, .int (nI n))] [] h1 Q := by
    intro r
    induction r with
    | zero =>
      intro i h1 hi F e5 hc
      have hi : i = n := hi
      subst hi
      have s1 := fb_sk F s
      have r1 := fb_rm F rm
      have y1 : YY q h1 := by unfold YY; rw [F.1.2.1]; exact yy
      simp only [lv_args, z_v, z_lg, z_h, z_u, z_u1, z_c, z_ct, z_sk, sbne, lst1_d, ldel, lst2_d, ldel2, z_sw, z_rok, zi, eq_self, List.map_cons, List.map_nil, List.append_nil, List.nil_append, List.cons_append, Int32.reduceLT, Int32.reduceLE, Int32.reduceAdd, Int32.reduceSub, Int32.reduceMul, Int32.reduceToInt, Int32.reduceToNatClampNeg, Int.reduceLT, Int.reduceLE, Int.reduceNeg, true_and, and_true, or_self, or_false, false_or, false_and, and_false, true_or, or_true, if_true, if_false, ne_eq, Classical.not_not, not_true_eq_false, not_false_eq_true, true_implies, false_implies, implies_true, Nat.reduceEqDiff, Nat.reduceAdd, Nat.reduceLeDiff, Nat.reduceSub, reduceCtorEq, reduceIte, b290_22]
      simp (disch := omega) only [nI_leN]
      refine ⟨fun _ => ?_, fun c => absurd (Nat.le_refl _) c⟩
      have hz : ∃ hz, hz = pI (pI (pI h1 59 1 0) 59 13 0) 59 15 0 := ⟨_, rfl⟩
      obtain ⟨hz, ehz⟩ := hz
      have sz : Sk hz := by rw [ehz]; exact sk_u1 (sk_u1 (sk_u1 s1))
      have Fz : FrB q h hz := by rw [ehz]; exact fb_I (fb_I (fb_I F (by omega)) (by omega)) (by omega)
      rcases hq66 with rfl | rfl
      · have R1 : hR h1 59 18 = some 66 := by
          rcases y1 with ⟨e, _, w⟩ | ⟨e, _, w⟩
          · first
            | exact w
            | exact absurd e (by decide)
          · first
            | exact w
            | exact absurd e (by decide)
        have Fc : FrB 66 h (pI (pI (pI (pI (pI (pI (pI (pI hz 66 0 0) 66 1 0) 66 2 0) 66 3 (-1)) 66 4 0) 66 5 0) 66 6 0) 66 26 0) := fb_I (fb_I (fb_I (fb_I (fb_I (fb_I (fb_I (fb_I Fz (by omega)) (by omega)) (by omega)) (by omega)) (by omega)) (by omega)) (by omega)) (by omega)
        have sc := fb_sk Fc s
        have G := hq _ Fc ⟨⟨sc, fb_rm Fc rm⟩, by unfold YY; rw [Fc.1.2.1]; exact yy, by rw [ehz]; exact e5, hn, by rw [ehz]; exact hc, ht⟩ (by rw [ehz]; rfl) (by rw [ehz]; rfl) (by rw [ehz]; rfl) ⟨rfl, rfl, rfl, rfl, rfl, rfl⟩
        simp only [lv_args, z_v, z_lg, z_h, z_u, z_u1, z_c, z_ct, z_sk, sbne, lst1_d, ldel, lst2_d, ldel2, z_sw, z_rok, zi, eq_self, List.map_cons, List.map_nil, List.append_nil, List.nil_append, List.cons_append, Int32.reduceLT, Int32.reduceLE, Int32.reduceAdd, Int32.reduceSub, Int32.reduceMul, Int32.reduceToInt, Int32.reduceToNatClampNeg, Int.reduceLT, Int.reduceLE, Int.reduceNeg, true_and, and_true, or_self, or_false, false_or, false_and, and_false, true_or, or_true, if_true, if_false, ne_eq, Classical.not_not, not_true_eq_false, not_false_eq_true, true_implies, false_implies, implies_true, Nat.reduceEqDiff, Nat.reduceAdd, Nat.reduceLeDiff, Nat.reduceSub, reduceCtorEq, reduceIte, b290_45, skM s1, R1, hd]
        rw [← ehz]
        rw [e177_66 _ _ sz]
        simp only [lv_args, z_v, z_lg, z_h, z_u, z_u1, z_c, z_ct, z_sk, sbne, lst1_d, ldel, lst2_d, ldel2, z_sw, z_rok, zi, eq_self, List.map_cons, List.map_nil, List.append_nil, List.nil_append, List.cons_append, Int32.reduceLT, Int32.reduceLE, Int32.reduceAdd, Int32.reduceSub, Int32.reduceMul, Int32.reduceToInt, Int32.reduceToNatClampNeg, Int.reduceLT, Int.reduceLE, Int.reduceNeg, true_and, and_true, or_self, or_false, false_or, false_and, and_false, true_or, or_true, if_true, if_false, ne_eq, Classical.not_not, not_true_eq_false, not_false_eq_true, true_implies, false_implies, implies_true, Nat.reduceEqDiff, Nat.reduceAdd, Nat.reduceLeDiff, Nat.reduceSub, reduceCtorEq, reduceIte, b290_45, skM sz, skM sc, Nat.reduceLT, hd] at G ⊢
        exact G
      · have R1 : hR h1 59 18 = some 86 := by
          rcases y1 with ⟨e, _, w⟩ | ⟨e, _, w⟩
          · first
            | exact w
            | exact absurd e (by decide)
          · first
            | exact w
            | exact absurd e (by decide)
        have Fc : FrB 86 h (pI (pI (pI (pI (pI (pI (pI (pI hz 86 0 0) 86 1 0) 86 2 0) 86 3 (-1)) 86 4 0) 86 5 0) 86 6 0) 86 26 0) := fb_I (fb_I (fb_I (fb_I (fb_I (fb_I (fb_I (fb_I Fz (by omega)) (by omega)) (by omega)) (by omega)) (by omega)) (by omega)) (by omega)) (by omega)
        have sc := fb_sk Fc s
        have G := hq _ Fc ⟨⟨sc, fb_rm Fc rm⟩, by unfold YY; rw [Fc.1.2.1]; exact yy, by rw [ehz]; exact e5, hn, by rw [ehz]; exact hc, ht⟩ (by rw [ehz]; rfl) (by rw [ehz]; rfl) (by rw [ehz]; rfl) ⟨rfl, rfl, rfl, rfl, rfl, rfl⟩
        simp only [lv_args, z_v, z_lg, z_h, z_u, z_u1, z_c, z_ct, z_sk, sbne, lst1_d, ldel, lst2_d, ldel2, z_sw, z_rok, zi, eq_self, List.map_cons, List.map_nil, List.append_nil, List.nil_append, List.cons_append, Int32.reduceLT, Int32.reduceLE, Int32.reduceAdd, Int32.reduceSub, Int32.reduceMul, Int32.reduceToInt, Int32.reduceToNatClampNeg, Int.reduceLT, Int.reduceLE, Int.reduceNeg, true_and, and_true, or_self, or_false, false_or, false_and, and_false, true_or, or_true, if_true, if_false, ne_eq, Classical.not_not, not_true_eq_false, not_false_eq_true, true_implies, false_implies, implies_true, Nat.reduceEqDiff, Nat.reduceAdd, Nat.reduceLeDiff, Nat.reduceSub, reduceCtorEq, reduceIte, b290_45, skM s1, R1, hd]
        rw [← ehz]
        rw [e177_86 _ _ sz]
        simp only [lv_args, z_v, z_lg, z_h, z_u, z_u1, z_c, z_ct, z_sk, sbne, lst1_d, ldel, lst2_d, ldel2, z_sw, z_rok, zi, eq_self, List.map_cons, List.map_nil, List.append_nil, List.nil_append, List.cons_append, Int32.reduceLT, Int32.reduceLE, Int32.reduceAdd, Int32.reduceSub, Int32.reduceMul, Int32.reduceToInt, Int32.reduceToNatClampNeg, Int.reduceLT, Int.reduceLE, Int.reduceNeg, true_and, and_true, or_self, or_false, false_or, false_and, and_false, true_or, or_true, if_true, if_false, ne_eq, Classical.not_not, not_true_eq_false, not_false_eq_true, true_implies, false_implies, implies_true, Nat.reduceEqDiff, Nat.reduceAdd, Nat.reduceLeDiff, Nat.reduceSub, reduceCtorEq, reduceIte, b290_45, skM sz, skM sc, Nat.reduceLT, hd] at G ⊢
        exact G
    | succ r ih =>
      intro i h1 hi F e5 hc
      have s1 := fb_sk F s
      have r1 := fb_rm F rm
      have n60 : hN h1 60 = 3000 := r1.1.2 (60, 3000) (by decide)
      have n61 : hN h1 61 = 3000 := r1.1.2 (61, 3000) (by decide)
      have c4 : (i < 3000) = True := eq_true (by omega)
      have e4 : hA h1 60 i = rb (t i) := by rw [F.2.2 60 (by omega)]; exact h60 i (by omega)
      have G := ih (i + 1) (pA h1 61 (upd (hA h1 61) i (rb (t i)))) (by omega) (fb_A F (by omega)) e5 (fun j hj => by
        show upd (hA h1 61) i (rb (t i)) j = _
        unfold upd
        by_cases cj : j = i
        · rw [if_pos cj, cj]
        · rw [if_neg cj]
          exact hc j (by omega))
      simp only [lv_args, z_v, z_lg, z_h, z_u, z_u1, z_c, z_ct, z_sk, sbne, lst1_d, ldel, lst2_d, ldel2, z_sw, z_rok, zi, eq_self, List.map_cons, List.map_nil, List.append_nil, List.nil_append, List.cons_append, Int32.reduceLT, Int32.reduceLE, Int32.reduceAdd, Int32.reduceSub, Int32.reduceMul, Int32.reduceToInt, Int32.reduceToNatClampNeg, Int.reduceLT, Int.reduceLE, Int.reduceNeg, true_and, and_true, or_self, or_false, false_or, false_and, and_false, true_or, or_true, if_true, if_false, ne_eq, Classical.not_not, not_true_eq_false, not_false_eq_true, true_implies, false_implies, implies_true, Nat.reduceEqDiff, Nat.reduceAdd, Nat.reduceLeDiff, Nat.reduceSub, reduceCtorEq, reduceIte, b290_22]
      simp (disch := omega) only [nI_leN]
      refine ⟨fun c => absurd c (by omega), fun _ => ?_⟩
      simp only [lv_args, z_v, z_lg, z_h, z_u, z_u1, z_c, z_ct, z_sk, sbne, lst1_d, ldel, lst2_d, ldel2, z_sw, z_rok, zi, eq_self, List.map_cons, List.map_nil, List.append_nil, List.nil_append, List.cons_append, Int32.reduceLT, Int32.reduceLE, Int32.reduceAdd, Int32.reduceSub, Int32.reduceMul, Int32.reduceToInt, Int32.reduceToNatClampNeg, Int.reduceLT, Int.reduceLE, Int.reduceNeg, true_and, and_true, or_self, or_false, false_or, false_and, and_false, true_or, or_true, if_true, if_false, ne_eq, Classical.not_not, not_true_eq_false, not_false_eq_true, true_implies, false_implies, implies_true, Nat.reduceEqDiff, Nat.reduceAdd, Nat.reduceLeDiff, Nat.reduceSub, reduceCtorEq, reduceIte, b290_27, skM s1, srM s1, n60, n61]
      simp (disch := omega) only [nI_ti, nI_cl, le0N, ltNN, c4, e4, true_and]
      try simp only [lv_args, z_v, z_lg, z_h, z_u, z_u1, z_c, z_ct, z_sk, sbne, lst1_d, ldel, lst2_d, ldel2, z_sw, z_rok, zi, eq_self, List.map_cons, List.map_nil, List.append_nil, List.nil_append, List.cons_append, Int32.reduceLT, Int32.reduceLE, Int32.reduceAdd, Int32.reduceSub, Int32.reduceMul, Int32.reduceToInt, Int32.reduceToNatClampNeg, Int.reduceLT, Int.reduceLE, Int.reduceNeg, true_and, and_true, or_self, or_false, false_or, false_and, and_false, true_or, or_true, if_true, if_false, ne_eq, Classical.not_not, not_true_eq_false, not_false_eq_true, true_implies, false_implies, implies_true, Nat.reduceEqDiff, Nat.reduceAdd, Nat.reduceLeDiff, Nat.reduceSub, reduceCtorEq, reduceIte, b290_27, skM s1, n61, rb_8 _ (ht i), nI_s]
      try simp (disch := omega) only [nI_ti, nI_cl, le0N, ltNN, c4, e4, true_and]
      try simp only [lv_args, z_v, z_lg, z_h, z_u, z_u1, z_c, z_ct, z_sk, sbne, lst1_d, ldel, lst2_d, ldel2, z_sw, z_rok, zi, eq_self, List.map_cons, List.map_nil, List.append_nil, List.nil_append, List.cons_append, Int32.reduceLT, Int32.reduceLE, Int32.reduceAdd, Int32.reduceSub, Int32.reduceMul, Int32.reduceToInt, Int32.reduceToNatClampNeg, Int.reduceLT, Int.reduceLE, Int.reduceNeg, true_and, and_true, or_self, or_false, false_or, false_and, and_false, true_or, or_true, if_true, if_false, ne_eq, Classical.not_not, not_true_eq_false, not_false_eq_true, true_implies, false_implies, implies_true, Nat.reduceEqDiff, Nat.reduceAdd, Nat.reduceLeDiff, Nat.reduceSub, reduceCtorEq, reduceIte, b290_27, skM s1, n61, rb_8 _ (ht i), nI_s]
      exact G
  have go := loop n 0 (pI h 59 5 (nI n)) (Nat.zero_add _) (fb_I fb_rf (by omega)) rfl (fun j hj => by omega)
  have z0 : (0 : Int32) = nI 0 := rfl
  simp only [lv_args, z_v, z_lg, z_h, z_u, z_u1, z_c, z_ct, z_sk, sbne, lst1_d, ldel, lst2_d, ldel2, z_sw, z_rok, zi, eq_self, List.map_cons, List.map_nil, List.append_nil, List.nil_append, List.cons_append, Int32.reduceLT, Int32.reduceLE, Int32.reduceAdd, Int32.reduceSub, Int32.reduceMul, Int32.reduceToInt, Int32.reduceToNatClampNeg, Int.reduceLT, Int.reduceLE, Int.reduceNeg, true_and, and_true, or_self, or_false, false_or, false_and, and_false, true_or, or_true, if_true, if_false, ne_eq, Classical.not_not, not_true_eq_false, not_false_eq_true, true_implies, false_implies, implies_true, Nat.reduceEqDiff, Nat.reduceAdd, Nat.reduceLeDiff, Nat.reduceSub, reduceCtorEq, reduceIte, b290_15, skM s, z0]
  exact go
end BLF
