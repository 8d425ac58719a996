/-! a procedure is made -/
theorem kfl_app {ps : List (Nat × List Nat)} {M : Nat} {ks : List Nat} : kfl (ps ++ [(M, ks)]) = kfl ps ++ ks := by
  unfold kfl
  rw [List.map_append, List.flatten_append]
  simp
section REU
variable {h h' : Hp} {Q : Option Value → Hp → Prop} {d : Nat} {G : PG} {q : Nat} {qv : Nat → Int64} {n : Nat} {N : Int32} {sl : List Nat} {bs : Nat} {pr : Option Nat} {bx : List Int64} {ps : List (Nat × List Nat)} {pa : List (Int64 × Int64)} {ce : Nat} {gr : List Int64} {P : List Int32 × List Int32 × Nat × Nat × Nat × Int64 × Nat}
theorem cl_loop {h1 : Hp} {F M kl pc : Nat} {g : Nat → Nat} (s : Sk h1) (r17 : hR h1 59 17 = some q) (hq0 : q = 66 ∨ q = 86) (n18 : hN h1 (q + 18) = 30976) (n19 : hN h1 (q + 19) = 30976) (hM : M ≤ 120) (hF : F ≤ 250) (e38 : ∀ j, j < F → hA h1 (q + 18) (256 * M + j) = G.1 38 (256 * M + j) ∧ hA h1 (q + 19) (256 * M + j) = G.1 39 (256 * M + j)) (n118 : hN h1 118 = 40001) (n117 : hN h1 117 = 40001) (hkl : kl + F ≤ 40000) (e45 : hI h1 59 45 = nI bs) (hbs : bs ≤ 252000) (n121 : hN h1 121 ≤ 262144)
    (val : ∀ j, j < F → g j < 300000 ∧ ((G.1 38 (256 * M + j) = 1 ∧ ∃ t, t < 100000 ∧ G.1 39 (256 * M + j) = nI t ∧ bs + t < hN h1 121 ∧ hA h1 121 (bs + t) = nI (g j)) ∨ (G.1 38 (256 * M + j) = 2 ∧ ∃ i p o, i < 100000 ∧ G.1 39 (256 * M + j) = nI i ∧ hI h1 59 46 = nI p ∧ p < 40001 ∧ hA h1 117 p = nI o ∧ o + i < kl ∧ hA h1 118 (o + i) = nI (g j))))
    (hq : ∀ f L, LX 59 L → lgv L 0 = .ref 59 → lgv L 4 = .int (nI pc) → (∀ x, x < kl → f x = hA h1 118 x) → (∀ j, j < F → f (kl + j) = nI (g j)) → aWP d 195 182 L [] (pI (pA h1 118 f) 59 38 (nI (kl + F))) Q) : ∀ (m k : Nat) (f : Nat → Int32) (L : ALS), k + m = F → LX 59 L → lgv L 0 = .ref 59 → lgv L 2 = .int (nI M) → lgv L 3 = .int (nI F) → lgv L 4 = .int (nI pc) → lgv L 5 = .int (nI k) → (∀ x, x < kl → f x = hA h1 118 x) → (∀ j, j < k → f (kl + j) = nI (g j)) → aWP d 195 81 L [] (pI (pA h1 118 f) 59 38 (nI (kl + k))) Q := by
  obtain ⟨⟨k0, _, _, _, _, _, _, _, _, _, _, _, k18, k19⟩, _, _, _, _, _, _, _, _, _, _, _, w24, w25⟩ := prf s hq0
  intro m
  induction m with
  | zero =>
    intro k f L hk lx l0 l2 l3 l4 l5 f1 f2
    have hk : k = F := by omega
    subst hk
    simp only [lv_args, z_v, z_lg, z_h, z_u, z_u1, z_c, z_ct, z_sk, sbne, z_rok, zi, eq_self, List.map_cons, List.map_nil, List.append_nil, List.nil_append, List.cons_append, Int32.reduceLT, Int32.reduceLE, Int32.reduceAdd, Int32.reduceSub, Int32.reduceMul, Int32.reduceToInt, Int32.reduceToNatClampNeg, Int.reduceLT, Int.reduceLE, Int.reduceNeg, true_and, and_true, or_self, or_false, false_or, false_and, and_false, true_or, or_true, if_true, if_false, ne_eq, Classical.not_not, not_true_eq_false, not_false_eq_true, true_implies, false_implies, implies_true, Nat.reduceEqDiff, Nat.reduceAdd, Nat.reduceLeDiff, Nat.reduceSub, reduceCtorEq, reduceIte, b195_81, l5, l3]
    simp (disch := omega) only [nI_leN]
    exact ⟨fun _ => hq f L lx l0 l4 f1 f2, fun c => absurd (Nat.le_refl _) c⟩
  | succ m ih =>
    intro k f L hk lx l0 l2 l3 l4 l5 f1 f2
    have hkF : k < F := by omega
    obtain ⟨e1, e2⟩ := e38 k hkF
    have z256 : (256 : Int32) * nI M = nI (256 * M) := (Int32.ofNat_mul 256 M).symm
    have a19 : ∀ f, va_up (hA h1) 118 f (q + 19) = hA h1 (q + 19) := fun f => up1_ne (by rcases hq0 with e | e <;> rw [e] <;> decide)
    have a18 : ∀ f, va_up (hA h1) 118 f (q + 18) = hA h1 (q + 18) := fun f => up1_ne (by rcases hq0 with e | e <;> rw [e] <;> decide)
    have q99 : ¬ q = 99 := by omega
    have q100 : ¬ q = 100 := by omega
    have b0 : ∀ v, lgv (lst1 L 6 v) 0 = .ref 59 := fun v => (lx_ot lx (by decide)).trans l0
    have b2 : ∀ v, lgv (lst1 L 6 v) 2 = .int (nI M) := fun v => (lx_ot lx (by decide)).trans l2
    have b5 : ∀ v, lgv (lst1 L 6 v) 5 = .int (nI k) := fun v => (lx_ot lx (by decide)).trans l5
    have b6 : ∀ v, lgv (lst1 L 6 v) 6 = v := fun v => lgv_st
    have hcl : ∀ f' x y, pI (pA (pI (pA h1 118 f) 59 38 x) 118 f') 59 38 y = pI (pA h1 118 f') 59 38 y := fun f' x y => by
      show pI (pI (pA (pA h1 118 f) 118 f') 59 38 x) 59 38 y = _
      rw [pA_pA, pI_pI]
    have tail : ∀ x : Int32, aWP d 195 165 (lst1 L 6 (.int x)) [.int (nI (g k)), .int (nI (kl + k)), .ref 118] (pI (pA h1 118 f) 59 38 (nI (kl + k))) Q := by
      intro x
      have lx6 : LX 59 (lst1 L 6 (.int x)) := lx_st lx
      have next := ih (k + 1) (upd f (kl + k) (nI (g k))) (lst1 (lst1 L 6 (.int x)) 5 (.int (nI (k + 1)))) (by omega) (lx_st lx6) ((lx_ot lx6 (by decide)).trans (b0 _)) ((lx_ot lx6 (by decide)).trans (b2 _)) ((lx_ot lx6 (by decide)).trans ((lx_ot lx (by decide)).trans l3)) ((lx_ot lx6 (by decide)).trans ((lx_ot lx (by decide)).trans l4)) lgv_st (fun y hy => by
          have : upd f (kl + k) (nI (g k)) y = f y := if_neg (by omega)
          rw [this]; exact f1 y hy) (fun j hj => by
          by_cases c : j = k
          · subst c; exact if_pos rfl
          · have : upd f (kl + k) (nI (g k)) (kl + j) = f (kl + j) := if_neg (by omega)
            rw [this]; exact f2 j (by omega))
      rw [← hcl _ (nI (kl + k))] at next
      simp only [lv_args, z_v, z_lg, z_h, z_u, z_u1, z_c, z_ct, z_sk, sbne, z_rok, zi, eq_self, List.map_cons, List.map_nil, List.append_nil, List.nil_append, List.cons_append, Int32.reduceLT, Int32.reduceLE, Int32.reduceAdd, Int32.reduceSub, Int32.reduceMul, Int32.reduceToInt, Int32.reduceToNatClampNeg, Int.reduceLT, Int.reduceLE, Int.reduceNeg, true_and, and_true, or_self, or_false, false_or, false_and, and_false, true_or, or_true, if_true, if_false, ne_eq, Classical.not_not, not_true_eq_false, not_false_eq_true, true_implies, false_implies, implies_true, Nat.reduceEqDiff, Nat.reduceAdd, Nat.reduceLeDiff, Nat.reduceSub, reduceCtorEq, reduceIte, b195_165, skM s, srM s, b0, n118]
      simp (disch := omega) only [nI_ti, nI_cl, le0N, ltNN, true_and]
      refine ⟨by omega, ?_⟩
      try simp only [lv_args, z_v, z_lg, z_h, z_u, z_u1, z_c, z_ct, z_sk, sbne, z_rok, zi, eq_self, List.map_cons, List.map_nil, List.append_nil, List.nil_append, List.cons_append, Int32.reduceLT, Int32.reduceLE, Int32.reduceAdd, Int32.reduceSub, Int32.reduceMul, Int32.reduceToInt, Int32.reduceToNatClampNeg, Int.reduceLT, Int.reduceLE, Int.reduceNeg, true_and, and_true, or_self, or_false, false_or, false_and, and_false, true_or, or_true, if_true, if_false, ne_eq, Classical.not_not, not_true_eq_false, not_false_eq_true, true_implies, false_implies, implies_true, Nat.reduceEqDiff, Nat.reduceAdd, Nat.reduceLeDiff, Nat.reduceSub, reduceCtorEq, reduceIte, b195_165, skM s, srM s, b0, b5, nI_1]
      exact next
    simp only [lv_args, z_v, z_lg, z_h, z_u, z_u1, z_c, z_ct, z_sk, sbne, z_rok, zi, eq_self, List.map_cons, List.map_nil, List.append_nil, List.nil_append, List.cons_append, Int32.reduceLT, Int32.reduceLE, Int32.reduceAdd, Int32.reduceSub, Int32.reduceMul, Int32.reduceToInt, Int32.reduceToNatClampNeg, Int.reduceLT, Int.reduceLE, Int.reduceNeg, true_and, and_true, or_self, or_false, false_or, false_and, and_false, true_or, or_true, if_true, if_false, ne_eq, Classical.not_not, not_true_eq_false, not_false_eq_true, true_implies, false_implies, implies_true, Nat.reduceEqDiff, Nat.reduceAdd, Nat.reduceLeDiff, Nat.reduceSub, reduceCtorEq, reduceIte, b195_81, l5, l3]
    simp (disch := omega) only [nI_leN]
    refine ⟨fun c => absurd c (by omega), fun _ => ?_⟩
    simp only [lv_args, z_v, z_lg, z_h, z_u, z_u1, z_c, z_ct, z_sk, sbne, z_rok, zi, eq_self, List.map_cons, List.map_nil, List.append_nil, List.nil_append, List.cons_append, Int32.reduceLT, Int32.reduceLE, Int32.reduceAdd, Int32.reduceSub, Int32.reduceMul, Int32.reduceToInt, Int32.reduceToNatClampNeg, Int.reduceLT, Int.reduceLE, Int.reduceNeg, true_and, and_true, or_self, or_false, false_or, false_and, and_false, true_or, or_true, if_true, if_false, ne_eq, Classical.not_not, not_true_eq_false, not_false_eq_true, true_implies, false_implies, implies_true, Nat.reduceEqDiff, Nat.reduceAdd, Nat.reduceLeDiff, Nat.reduceSub, reduceCtorEq, reduceIte, b195_87, skM s, l0, l2, l5, r17, k0, w25, k19, z256, nI_add, q99]
    simp (disch := omega) only [nI_ti, nI_cl, le0N, ltNN, n19, e2, true_and]
    refine ⟨by omega, ?_⟩
    try simp only [lv_args, z_v, z_lg, z_h, z_u, z_u1, z_c, z_ct, z_sk, sbne, z_rok, zi, eq_self, List.map_cons, List.map_nil, List.append_nil, List.nil_append, List.cons_append, Int32.reduceLT, Int32.reduceLE, Int32.reduceAdd, Int32.reduceSub, Int32.reduceMul, Int32.reduceToInt, Int32.reduceToNatClampNeg, Int.reduceLT, Int.reduceLE, Int.reduceNeg, true_and, and_true, or_self, or_false, false_or, false_and, and_false, true_or, or_true, if_true, if_false, ne_eq, Classical.not_not, not_true_eq_false, not_false_eq_true, true_implies, false_implies, implies_true, Nat.reduceEqDiff, Nat.reduceAdd, Nat.reduceLeDiff, Nat.reduceSub, reduceCtorEq, reduceIte, b195_87, skM s, srM s, b0, b2, b5, r17, k0, w24, k18, z256, nI_add, q100, q99]
    try simp (disch := omega) only [nI_ti, nI_cl, le0N, ltNN, n18, e1, true_and]
    refine ⟨by omega, ?_⟩
    obtain ⟨gb, v⟩ := val k hkF
    rcases v with ⟨c1, t, t1, t2, t3, t4⟩ | ⟨c2, i, p, o, i1, i2, i3, i4, i5, i6, i7⟩
    · have n11 : ¬ (1 : Int32) ≠ 1 := by decide
      try simp only [lv_args, z_v, z_lg, z_h, z_u, z_u1, z_c, z_ct, z_sk, sbne, z_rok, zi, eq_self, List.map_cons, List.map_nil, List.append_nil, List.nil_append, List.cons_append, Int32.reduceLT, Int32.reduceLE, Int32.reduceAdd, Int32.reduceSub, Int32.reduceMul, Int32.reduceToInt, Int32.reduceToNatClampNeg, Int.reduceLT, Int.reduceLE, Int.reduceNeg, true_and, and_true, or_self, or_false, false_or, false_and, and_false, true_or, or_true, if_true, if_false, ne_eq, Classical.not_not, not_true_eq_false, not_false_eq_true, true_implies, false_implies, implies_true, Nat.reduceEqDiff, Nat.reduceAdd, Nat.reduceLeDiff, Nat.reduceSub, reduceCtorEq, reduceIte, b195_87, c1]
      simp only [lv_args, z_v, z_lg, z_h, z_u, z_u1, z_c, z_ct, z_sk, sbne, z_rok, zi, eq_self, List.map_cons, List.map_nil, List.append_nil, List.nil_append, List.cons_append, Int32.reduceLT, Int32.reduceLE, Int32.reduceAdd, Int32.reduceSub, Int32.reduceMul, Int32.reduceToInt, Int32.reduceToNatClampNeg, Int.reduceLT, Int.reduceLE, Int.reduceNeg, true_and, and_true, or_self, or_false, false_or, false_and, and_false, true_or, or_true, if_true, if_false, ne_eq, Classical.not_not, not_true_eq_false, not_false_eq_true, true_implies, false_implies, implies_true, Nat.reduceEqDiff, Nat.reduceAdd, Nat.reduceLeDiff, Nat.reduceSub, reduceCtorEq, reduceIte, b195_133, skM s, srM s, b0, b6, e45, t2, nI_add]
      simp (disch := omega) only [nI_ti, nI_cl, le0N, ltNN, t4, true_and]
      refine ⟨t3, ?_⟩
      try simp only [lv_args, z_v, z_lg, z_h, z_u, z_u1, z_c, z_ct, z_sk, sbne, z_rok, zi, eq_self, List.map_cons, List.map_nil, List.append_nil, List.nil_append, List.cons_append, Int32.reduceLT, Int32.reduceLE, Int32.reduceAdd, Int32.reduceSub, Int32.reduceMul, Int32.reduceToInt, Int32.reduceToNatClampNeg, Int.reduceLT, Int.reduceLE, Int.reduceNeg, true_and, and_true, or_self, or_false, false_or, false_and, and_false, true_or, or_true, if_true, if_false, ne_eq, Classical.not_not, not_true_eq_false, not_false_eq_true, true_implies, false_implies, implies_true, Nat.reduceEqDiff, Nat.reduceAdd, Nat.reduceLeDiff, Nat.reduceSub, reduceCtorEq, reduceIte, b195_133]
      exact tail _
    · have n21 : ¬ (2 : Int32) = 1 := by decide
      try simp only [lv_args, z_v, z_lg, z_h, z_u, z_u1, z_c, z_ct, z_sk, sbne, z_rok, zi, eq_self, List.map_cons, List.map_nil, List.append_nil, List.nil_append, List.cons_append, Int32.reduceLT, Int32.reduceLE, Int32.reduceAdd, Int32.reduceSub, Int32.reduceMul, Int32.reduceToInt, Int32.reduceToNatClampNeg, Int.reduceLT, Int.reduceLE, Int.reduceNeg, true_and, and_true, or_self, or_false, false_or, false_and, and_false, true_or, or_true, if_true, if_false, ne_eq, Classical.not_not, not_true_eq_false, not_false_eq_true, true_implies, false_implies, implies_true, Nat.reduceEqDiff, Nat.reduceAdd, Nat.reduceLeDiff, Nat.reduceSub, reduceCtorEq, reduceIte, b195_87, c2, n21]
      simp only [lv_args, z_v, z_lg, z_h, z_u, z_u1, z_c, z_ct, z_sk, sbne, z_rok, zi, eq_self, List.map_cons, List.map_nil, List.append_nil, List.nil_append, List.cons_append, Int32.reduceLT, Int32.reduceLE, Int32.reduceAdd, Int32.reduceSub, Int32.reduceMul, Int32.reduceToInt, Int32.reduceToNatClampNeg, Int.reduceLT, Int.reduceLE, Int.reduceNeg, true_and, and_true, or_self, or_false, false_or, false_and, and_false, true_or, or_true, if_true, if_false, ne_eq, Classical.not_not, not_true_eq_false, not_false_eq_true, true_implies, false_implies, implies_true, Nat.reduceEqDiff, Nat.reduceAdd, Nat.reduceLeDiff, Nat.reduceSub, reduceCtorEq, reduceIte, b195_148, skM s, srM s, b0, b6, i2, i3, n117]
      simp (disch := omega) only [nI_ti, nI_cl, le0N, ltNN, i5, nI_add, true_and]
      refine ⟨by omega, ?_⟩
      try simp only [lv_args, z_v, z_lg, z_h, z_u, z_u1, z_c, z_ct, z_sk, sbne, z_rok, zi, eq_self, List.map_cons, List.map_nil, List.append_nil, List.nil_append, List.cons_append, Int32.reduceLT, Int32.reduceLE, Int32.reduceAdd, Int32.reduceSub, Int32.reduceMul, Int32.reduceToInt, Int32.reduceToNatClampNeg, Int.reduceLT, Int.reduceLE, Int.reduceNeg, true_and, and_true, or_self, or_false, false_or, false_and, and_false, true_or, or_true, if_true, if_false, ne_eq, Classical.not_not, not_true_eq_false, not_false_eq_true, true_implies, false_implies, implies_true, Nat.reduceEqDiff, Nat.reduceAdd, Nat.reduceLeDiff, Nat.reduceSub, reduceCtorEq, reduceIte, b195_148, skM s, srM s, n118, nI_add]
      have i8 : f (o + i) = nI (g k) := (f1 _ i6).trans i7
      try simp (disch := omega) only [nI_ti, nI_cl, le0N, ltNN, i8, true_and]
      refine ⟨by omega, ?_⟩
      try simp only [lv_args, z_v, z_lg, z_h, z_u, z_u1, z_c, z_ct, z_sk, sbne, z_rok, zi, eq_self, List.map_cons, List.map_nil, List.append_nil, List.nil_append, List.cons_append, Int32.reduceLT, Int32.reduceLE, Int32.reduceAdd, Int32.reduceSub, Int32.reduceMul, Int32.reduceToInt, Int32.reduceToNatClampNeg, Int.reduceLT, Int.reduceLE, Int.reduceNeg, true_and, and_true, or_self, or_false, false_or, false_and, and_false, true_or, or_true, if_true, if_false, ne_eq, Classical.not_not, not_true_eq_false, not_false_eq_true, true_implies, false_implies, implies_true, Nat.reduceEqDiff, Nat.reduceAdd, Nat.reduceLeDiff, Nat.reduceSub, reduceCtorEq, reduceIte, b195_148]
      exact tail _
theorem rs_3 (hW : WG G) {y y' : RSt} (hr : RS1 G qv 3 y y') (r : RM G q qv y h) (hb : Bnd y) (hd : 30 < d) (hq : ∀ h', RM G q qv y' h' → aWP d 257 35 (LR N) [] h' Q) : aWP d 257 35 (LR N) [] h Q := by
  obtain ⟨⟨md, nw, td, wk⟩, ⟨sl, bs, pr⟩, ⟨bx, ps, pa, ce, gr⟩, P⟩ := y
  cases md with
  | none => exact hr.elim
  | some n =>
    obtain ⟨hn, h4, c, l, M, ks, hc, hw, hM1, hM2, e27, hce, hkp, rfl⟩ := hr
    have S := r.1
    have s := S.1
    have h0 : 0 < d - 1 - 1 := by omega
    have h02 : 0 < d - 1 - 1 - 1 := by omega
    have P0 := S.2.2.2.1
    have r17 := S.2.2.2.2.1
    have hM : M ≤ 120 := Nat.le_trans hM2 hW.2.2.2.1
    have hF : pFr G M ≤ 250 := (hW.2.2.2.2.2.1 M hM2).2.2.1
    obtain ⟨⟨k0, k1, k2, k4, k5, k6, k7, k10, k14, k15, k16, k17, k18, k19⟩, w7, w8, w10, w11, w12, w13, w16, w20, w21, w22, w23, w24, w25⟩ := prf s P0.1
    obtain ⟨v1, v2, v3⟩ := pm_n P0 (j := 7) (by decide) (by decide) hn
    have v2 : hA h (q + 7) n = nI M := v2.trans e27
    have n17 : hN h (q + 17) = 3000 := P0.2.2.2.2.2.1 17 (by decide) (by decide)
    obtain ⟨_, _, _, f17⟩ := P0.2.2.2.2.2.2.1 M hM1 hM2
    have n18 := P0.2.2.2.2.2.2.2.1
    have n19 := P0.2.2.2.2.2.2.2.2.1
    have e38 := fun j hj => P0.2.2.2.2.2.2.2.2.2.1 M j hM1 hM2 hj
    obtain ⟨⟨M1, M2, M3⟩, rl, fl, B⟩ := mxb_0.mp r.2.2.2.2.1
    obtain ⟨m1, m2, m3, m4, m5, m6, m7⟩ := M1
    obtain ⟨m8, m9, m10, m11, m12, m13, m14, m15⟩ := M2
    obtain ⟨B1, B2, B3, B4, B5, B6, B7⟩ := B
    have m8 : hI h 59 37 = nI ps.length := m8
    have m13 : hI h 59 38 = nI (kfl ps).length := m13
    have hcel : ps.length + (kfl ps).length ≤ ce := r.2.2.2.2.2.2.2.2.2.2.2
    have x6 := r.2.2.2.2.2.1
    obtain ⟨x1, x2, x3, x4, x5, e39, x7, x8⟩ := x6
    have e39 : hI h 59 39 = nI ce := e39
    have x4 : pa.length ≤ 6200 + ce := x4
    have hce : ce + (1 + pFr G M) ≤ 40000 := hce
    have z40 : (40000 : Int32) = nI 40000 := rfl
    have z1 : (1 : Int32) = nI 1 := rfl
    have l121 : hN h 121 ≤ 262144 := by rcases m7 with e | e | e | e | e <;> (have e : hN h 121 = _ := e; omega)
    have n119 : hN h 119 ≤ 300000 := by rcases M3.2 with e | e | e | e <;> omega
    have m2 : sl.length ≤ hN h 121 := m2
    -- what is kept is alive
    have lv : ∀ j b, ks[j]? = some b → (b + 2 ∈ sl ∨ b ∈ kfl ps) := fun j b hb => by
      have hj := g_lt hb
      rw [hkp.1] at hj
      obtain ⟨b', e1, e2⟩ := hkp.2 j hj
      rw [hb] at e1
      injection e1 with e1
      subst e1
      rcases e2 with ⟨_, t, _, _, e⟩ | ⟨_, i, p, L, k, _, _, _, e3, e4⟩
      · exact Or.inl (List.mem_of_getElem? e)
      · obtain ⟨_, o, _, _, o2⟩ := m15 p L k e3
        exact Or.inr (List.mem_of_getElem? (o2 i b e4))
    have eC : nI ce + nI 1 + nI (pFr G M) = nI (ce + 1 + pFr G M) := by rw [nI_add, nI_add]
    refine ls_go r (by omega) (wl_w S hn (by omega) h4 hc hw (t := 78) rfl ?_)
    simp only [lv_args, z_v, z_lg, z_h, z_u, z_u1, z_c, z_ct, z_sk, sbne, lst1_d, ldel, lst2_d, ldel2, z_sw, z_rok, zi, eq_self, List.map_cons, List.map_nil, List.append_nil, List.nil_append, List.cons_append, Int32.reduceLT, Int32.reduceLE, Int32.reduceAdd, Int32.reduceSub, Int32.reduceMul, Int32.reduceToInt, Int32.reduceToNatClampNeg, Int.reduceLT, Int.reduceLE, Int.reduceNeg, true_and, and_true, or_self, or_false, false_or, false_and, and_false, true_or, or_true, if_true, if_false, ne_eq, Classical.not_not, not_true_eq_false, not_false_eq_true, true_implies, false_implies, implies_true, Nat.reduceEqDiff, Nat.reduceAdd, Nat.reduceLeDiff, Nat.reduceSub, reduceCtorEq, reduceIte, b277_78, skM s, h0]
    unfold aEv
    simp only [lv_args, z_v, z_lg, z_h, z_u, z_u1, z_c, z_ct, z_sk, sbne, lst1_d, ldel, lst2_d, ldel2, z_sw, z_rok, zi, eq_self, List.map_cons, List.map_nil, List.append_nil, List.nil_append, List.cons_append, Int32.reduceLT, Int32.reduceLE, Int32.reduceAdd, Int32.reduceSub, Int32.reduceMul, Int32.reduceToInt, Int32.reduceToNatClampNeg, Int.reduceLT, Int.reduceLE, Int.reduceNeg, true_and, and_true, or_self, or_false, false_or, false_and, and_false, true_or, or_true, if_true, if_false, ne_eq, Classical.not_not, not_true_eq_false, not_false_eq_true, true_implies, false_implies, implies_true, Nat.reduceEqDiff, Nat.reduceAdd, Nat.reduceLeDiff, Nat.reduceSub, reduceCtorEq, reduceIte, b195_0, skM s, r17, k0, w13, k7]
    simp (disch := omega) only [nI_ti, nI_cl, le0N, ltNN, v1, v2, true_and]
    refine ⟨v3, ?_⟩
    try simp only [lv_args, z_v, z_lg, z_h, z_u, z_u1, z_c, z_ct, z_sk, sbne, lst1_d, ldel, lst2_d, ldel2, z_sw, z_rok, zi, eq_self, List.map_cons, List.map_nil, List.append_nil, List.nil_append, List.cons_append, Int32.reduceLT, Int32.reduceLE, Int32.reduceAdd, Int32.reduceSub, Int32.reduceMul, Int32.reduceToInt, Int32.reduceToNatClampNeg, Int.reduceLT, Int.reduceLE, Int.reduceNeg, true_and, and_true, or_self, or_false, false_or, false_and, and_false, true_or, or_true, if_true, if_false, ne_eq, Classical.not_not, not_true_eq_false, not_false_eq_true, true_implies, false_implies, implies_true, Nat.reduceEqDiff, Nat.reduceAdd, Nat.reduceLeDiff, Nat.reduceSub, reduceCtorEq, reduceIte, b195_0, skM s, r17, k0, w23, k17]
    try simp (disch := omega) only [nI_ti, nI_cl, le0N, ltNN, n17, f17, true_and]
    refine ⟨by omega, ?_⟩
    try simp only [lv_args, z_v, z_lg, z_h, z_u, z_u1, z_c, z_ct, z_sk, sbne, lst1_d, ldel, lst2_d, ldel2, z_sw, z_rok, zi, eq_self, List.map_cons, List.map_nil, List.append_nil, List.nil_append, List.cons_append, Int32.reduceLT, Int32.reduceLE, Int32.reduceAdd, Int32.reduceSub, Int32.reduceMul, Int32.reduceToInt, Int32.reduceToNatClampNeg, Int.reduceLT, Int.reduceLE, Int.reduceNeg, true_and, and_true, or_self, or_false, false_or, false_and, and_false, true_or, or_true, if_true, if_false, ne_eq, Classical.not_not, not_true_eq_false, not_false_eq_true, true_implies, false_implies, implies_true, Nat.reduceEqDiff, Nat.reduceAdd, Nat.reduceLeDiff, Nat.reduceSub, reduceCtorEq, reduceIte, b195_0, skM s, e39, z1, eC, z40]
    simp (disch := omega) only [nI_leN]
    refine ⟨fun _ => ?_, fun c => absurd (by omega) c⟩
    simp only [lv_args, z_v, z_lg, z_h, z_u, z_u1, z_c, z_ct, z_sk, sbne, lst1_d, ldel, lst2_d, ldel2, z_sw, z_rok, zi, eq_self, List.map_cons, List.map_nil, List.append_nil, List.nil_append, List.cons_append, Int32.reduceLT, Int32.reduceLE, Int32.reduceAdd, Int32.reduceSub, Int32.reduceMul, Int32.reduceToInt, Int32.reduceToNatClampNeg, Int.reduceLT, Int.reduceLE, Int.reduceNeg, true_and, and_true, or_self, or_false, false_or, false_and, and_false, true_or, or_true, if_true, if_false, ne_eq, Classical.not_not, not_true_eq_false, not_false_eq_true, true_implies, false_implies, implies_true, Nat.reduceEqDiff, Nat.reduceAdd, Nat.reduceLeDiff, Nat.reduceSub, reduceCtorEq, reduceIte, b195_41, skM s, srM s, e39, z1, nI_add, m8, m10, m11, m13]
    simp (disch := omega) only [nI_ti, nI_cl, le0N, ltNN, true_and]
    refine ⟨by omega, by omega, ?_⟩
    try simp only [lv_args, z_v, z_lg, z_h, z_u, z_u1, z_c, z_ct, z_sk, sbne, lst1_d, ldel, lst2_d, ldel2, z_sw, z_rok, zi, eq_self, List.map_cons, List.map_nil, List.append_nil, List.nil_append, List.cons_append, Int32.reduceLT, Int32.reduceLE, Int32.reduceAdd, Int32.reduceSub, Int32.reduceMul, Int32.reduceToInt, Int32.reduceToNatClampNeg, Int.reduceLT, Int.reduceLE, Int.reduceNeg, true_and, and_true, or_self, or_false, false_or, false_and, and_false, true_or, or_true, if_true, if_false, ne_eq, Classical.not_not, not_true_eq_false, not_false_eq_true, true_implies, false_implies, implies_true, Nat.reduceEqDiff, Nat.reduceAdd, Nat.reduceLeDiff, Nat.reduceSub, reduceCtorEq, reduceIte, b195_41]
    have hch : ∀ {H : Hp}, H = pA (pA (pI h 59 39 (nI (ce + (1 + pFr G M)))) 116 (upd (hA h 116) ps.length (nI M))) 117 (upd (hA h 117) ps.length (nI (kfl ps).length)) → aWP (d - 1 - 1 - 1) 195 81 [(5, .int 0), (4, .int (nI ps.length)), (3, .int (nI (pFr G M))), (2, .int (nI M)), (0, .ref 59), (1, .int (nI n))] [] H (aCt (d - 1 - 1) 277 83 [(0, .ref 59), (1, .int (nI n))] [] h (fun r h1 => r = none ∧ PR d N Q none h1)) := by
      intro H eH
      have sH : Sk H := by rw [eH]; exact (sk_same rfl rfl rfl : Sk _ = Sk h) ▸ s
      have SH : SM G q qv H := by rw [eH]; exact sm_A (by decide) (sm_A (by decide) (sm_I S))
      have PH := SH.2.2.2.1
      have g118 : hA H 118 = hA h 118 := by rw [eH]; rfl
      have g121 : hA H 121 = hA h 121 := by rw [eH]; rfl
      have g117 : hA H 117 = upd (hA h 117) ps.length (nI (kfl ps).length) := by rw [eH]; rfl
      have g116 : hA H 116 = upd (hA h 116) ps.length (nI M) := by rw [eH]; rfl
      have gN : hN H = hN h := by rw [eH]; rfl
      have g38 : hI H 59 38 = nI (kfl ps).length := by rw [eH]; exact m13
      have gI : ∀ i, i ≠ 39 → hI H 59 i = hI h 59 i := fun i hi => by rw [eH]; exact up2_ne (fun c => hi c.2)
      have hfin : ∀ f L, LX 59 L → lgv L 0 = .ref 59 → lgv L 4 = .int (nI ps.length) → (∀ x, x < (kfl ps).length → f x = hA H 118 x) → (∀ j, j < pFr G M → f ((kfl ps).length + j) = nI (rl (ks.getD j 0))) → aWP (d - 1 - 1 - 1) 195 182 L [] (pI (pA H 118 f) 59 38 (nI ((kfl ps).length + pFr G M))) (aCt (d - 1 - 1) 277 83 [(0, .ref 59), (1, .int (nI n))] [] h (fun r h1 => r = none ∧ PR d N Q none h1)) := by
        intro f L lx l0 l4 f1 f2
        have s2 : Sk (pI (pI (pA H 118 f) 59 38 (nI ((kfl ps).length + pFr G M))) 59 37 (nI (ps.length + 1))) := (sk_same rfl rfl rfl : Sk _ = Sk H) ▸ sH
        have e37 : hI H 59 37 = nI ps.length := (gI 37 (by decide)).trans m8
        have z7 : (7 : Int32) = nI 7 := rfl
        have r1 : RM G q qv ((some n, nw, td, wk), (sl, bs, pr), (bx, ps ++ [(M, ks)], pa, ce + (1 + pFr G M), gr), P) (pI (pI (pA H 118 f) 59 38 (nI ((kfl ps).length + pFr G M))) 59 37 (nI (ps.length + 1))) := by
          obtain ⟨a1, a2, a3, a4, a5, a6, a7, a8, a9, a10, a11, a12⟩ := r
          have q118 : hA (pI (pI (pA H 118 f) 59 38 (nI ((kfl ps).length + pFr G M))) 59 37 (nI (ps.length + 1))) 118 = f := (up1_eq : va_up (hA H) 118 f 118 = f)
          have q117 : hA (pI (pI (pA H 118 f) 59 38 (nI ((kfl ps).length + pFr G M))) 59 37 (nI (ps.length + 1))) 117 = upd (hA h 117) ps.length (nI (kfl ps).length) := (up1_ne (by decide) : va_up (hA H) 118 f 117 = hA H 117).trans g117
          have q116 : hA (pI (pI (pA H 118 f) 59 38 (nI ((kfl ps).length + pFr G M))) 59 37 (nI (ps.length + 1))) 116 = upd (hA h 116) ps.length (nI M) := (up1_ne (by decide) : va_up (hA H) 118 f 116 = hA H 116).trans g116
          have hkl : ks.length = pFr G M := hkp.1
          refine ⟨sm_I (sm_I (sm_A (by decide) SH)), ?_, ?_, ?_, mxb_0.mpr ⟨⟨?_, ⟨?_, ?_, ?_, ?_, ?_, ?_, ?_, ?_⟩, ?_⟩, rl, fl, ?_⟩, ?_, ?_, ?_, ?_, ?_, ?_, ?_⟩
          · subst eH; exact a2
          · subst eH; exact a3
          · subst eH; exact a4
          · subst eH
            exact ⟨m1, m2, m3, m4, m5, fun i hi => by rw [List.length_append]; exact Nat.lt_of_lt_of_le (m6 i hi) (Nat.le_add_right _ _), m7⟩
          · rw [List.length_append]; rfl
          · rw [List.length_append]; simp only [List.length_singleton]; omega
          · subst eH; exact m10
          · subst eH; exact m11
          · subst eH; exact m12
          · rw [kfl_app, List.length_append, hkl]; rfl
          · rw [kfl_app, List.length_append]; omega
          · intro i L' ks' hi
            rw [q116, q117, kfl_app]
            by_cases c : i = ps.length
            · subst c
              rw [List.getElem?_append_right (Nat.le_refl _), Nat.sub_self] at hi
              simp only [List.getElem?_cons_zero, Option.some.injEq, Prod.mk.injEq] at hi
              obtain ⟨rfl, rfl⟩ := hi
              refine ⟨if_pos rfl, (kfl ps).length, if_pos rfl, by rw [List.length_append]; omega, fun k b hk => ?_⟩
              rw [List.getElem?_append_right (by omega), Nat.add_sub_cancel_left]
              exact hk
            · have hi2 := g_lt hi
              rw [List.length_append] at hi2
              simp only [List.length_singleton] at hi2
              rw [List.getElem?_append_left (by omega)] at hi
              obtain ⟨o1, o, o2, o3, o4⟩ := m15 i L' ks' hi
              have o3 : o + ks'.length ≤ (kfl ps).length := o3
              refine ⟨(if_neg c).trans o1, o, (if_neg c).trans o2, by rw [List.length_append]; omega, fun k b hk => g_app (o4 k b hk)⟩
          · subst eH; exact M3
          · have live : ∀ b, (b + 2 ∈ sl ∨ b ∈ kfl (ps ++ [(M, ks)])) → (b + 2 ∈ sl ∨ b ∈ kfl ps) := fun b hb => by
              rw [kfl_app] at hb
              rcases hb with hb | hb
              · exact Or.inl hb
              · rcases List.mem_append.mp hb with hb | hb
                · exact Or.inr hb
                · obtain ⟨j, e⟩ := List.mem_iff_getElem?.mp hb
                  exact lv j b e
            refine ⟨?_, fun j b hj => ?_, fun b hb => ?_, fun b b' hb hb' e => B4 b b' (live b hb) (live b' hb') e, ?_, B6, fun f' hf' => ?_⟩
            · subst eH; exact B1
            · rw [q118]
              rw [kfl_app] at hj
              by_cases c : j < (kfl ps).length
              · rw [List.getElem?_append_left c] at hj
                rw [f1 j c, g118]; exact B2 j b hj
              · rw [List.getElem?_append_right (by omega)] at hj
                have hj2 := g_lt hj
                have := f2 (j - (kfl ps).length) (by omega)
                rw [show (kfl ps).length + (j - (kfl ps).length) = j by omega] at this
                rw [this, List.getD_eq_getElem?_getD, hj]; rfl
            · have := B3 b (live b hb)
              subst eH; exact this
            · subst eH; exact B5
            · have := B7 f' hf'
              refine ⟨?_, fun b hb => this.2 b (live b hb)⟩
              have t1 := this.1
              subst eH; exact t1
          · refine ⟨?_, ?_, ?_, ?_, ?_, ?_, ?_, ?_⟩
            · subst eH; exact x1
            · subst eH; exact x2
            · subst eH; exact x3
            · show pa.length ≤ 6200 + (ce + (1 + pFr G M)); omega
            · subst eH; exact x5
            · subst eH; rfl
            · exact hce
            · subst eH; exact x8
          · subst eH; exact a7
          · subst eH; exact a8
          · subst eH; exact a9
          · subst eH; exact a10
          · subst eH; exact a11
          · rw [kfl_app, List.length_append, List.length_append]; simp only [List.length_singleton]; show ps.length + 1 + ((kfl ps).length + ks.length) ≤ ce + (1 + pFr G M); omega
        simp only [lv_args, z_v, z_lg, z_h, z_u, z_u1, z_c, z_ct, z_sk, sbne, z_rok, zi, eq_self, List.map_cons, List.map_nil, List.append_nil, List.nil_append, List.cons_append, Int32.reduceLT, Int32.reduceLE, Int32.reduceAdd, Int32.reduceSub, Int32.reduceMul, Int32.reduceToInt, Int32.reduceToNatClampNeg, Int.reduceLT, Int.reduceLE, Int.reduceNeg, true_and, and_true, or_self, or_false, false_or, false_and, and_false, true_or, or_true, if_true, if_false, ne_eq, Classical.not_not, not_true_eq_false, not_false_eq_true, true_implies, false_implies, implies_true, Nat.reduceEqDiff, Nat.reduceAdd, Nat.reduceLeDiff, Nat.reduceSub, reduceCtorEq, reduceIte, b195_182, skM sH, l0, l4, e37, nI_1, h02, e269v, e219_59 _ _ s2]
        simp only [lv_args, z_v, z_lg, z_h, z_u, z_u1, z_c, z_ct, z_sk, sbne, lst1_d, ldel, lst2_d, ldel2, z_sw, z_rok, zi, eq_self, List.map_cons, List.map_nil, List.append_nil, List.nil_append, List.cons_append, Int32.reduceLT, Int32.reduceLE, Int32.reduceAdd, Int32.reduceSub, Int32.reduceMul, Int32.reduceToInt, Int32.reduceToNatClampNeg, Int.reduceLT, Int.reduceLE, Int.reduceNeg, true_and, and_true, or_self, or_false, false_or, false_and, and_false, true_or, or_true, if_true, if_false, ne_eq, Classical.not_not, not_true_eq_false, not_false_eq_true, true_implies, false_implies, implies_true, Nat.reduceEqDiff, Nat.reduceAdd, Nat.reduceLeDiff, Nat.reduceSub, reduceCtorEq, reduceIte, b277_78, b277_218, skM s, Nat.reduceLT]
        exact pr_ok (rm_is r1) hq
      have lp := cl_loop (G := G) (q := q) (bs := bs) (d := d - 1 - 1 - 1) (h1 := H) (F := pFr G M) (M := M) (kl := (kfl ps).length) (pc := ps.length) (g := fun j => rl (ks.getD j 0)) sH SH.2.2.2.2.1 PH.1 (by rw [gN]; exact n18) (by rw [gN]; exact n19) hM hF (fun j hj => PH.2.2.2.2.2.2.2.2.2.1 M j hM1 hM2 hj) (by rw [gN]; exact m12) (by rw [gN]; exact m11) (by omega) ((gI 45 (by decide)).trans m3) m4 (by rw [gN]; exact l121) (fun j hj => by
          obtain ⟨b, e1, e2⟩ := hkp.2 j hj
          have eg : rl (ks.getD j 0) = rl b := by rw [List.getD_eq_getElem?_getD, e1]; rfl
          rw [eg, gN, g121, g117, g118, gI 46 (by decide)]
          have hb := (B3 b (lv j b e1)).1
          refine ⟨by omega, ?_⟩
          rcases e2 with ⟨c, t, t1, t2, e⟩ | ⟨c, i, p, L, k, i1, i2, i3, e3, e4⟩
          · have e : sl[bs + t]? = some (b + 2) := e
            have := g_lt e
            refine Or.inl ⟨c, t, t1, t2, by omega, ?_⟩
            rcases B1 _ _ e with ⟨e, _⟩ | ⟨b', e, e2⟩
            · omega
            · have : b' = b := by omega
              subst this
              exact e2
          · have i3 : pr = some p := i3
            have hp := g_lt e3
            obtain ⟨_, o, o1, _, o2⟩ := m15 p L k e3
            have ek := o2 i b e4
            refine Or.inr ⟨c, i, p, o, i1, i2, by rw [m5, i3]; rfl, by omega, (if_neg (by omega)).trans o1, g_lt ek, B2 _ _ ek⟩) hfin (pFr G M) 0 (hA H 118) [(5, .int 0), (4, .int (nI ps.length)), (3, .int (nI (pFr G M))), (2, .int (nI M)), (0, .ref 59), (1, .int (nI n))] (by omega) (fun z hz => by
          simp only [List.mem_cons, List.not_mem_nil, or_false] at hz
          rcases hz with rfl | rfl | rfl | rfl | rfl | rfl
          · exact Or.inr ⟨_, rfl⟩
          · exact Or.inr ⟨_, rfl⟩
          · exact Or.inr ⟨_, rfl⟩
          · exact Or.inr ⟨_, rfl⟩
          · exact Or.inl rfl
          · exact Or.inr ⟨_, rfl⟩) rfl rfl rfl rfl rfl (fun _ _ => rfl) (fun j hj => absurd hj (Nat.not_lt_zero j))
      have eid : pI (pA H 118 (hA H 118)) 59 38 (nI ((kfl ps).length + 0)) = H := by
        rw [pA_id, Nat.add_zero, ← g38]
        show (H.1, up2 (hI H) 59 38 (hI H 59 38), H.2.2) = H
        have e2 : up2 (hI H) 59 38 (hI H 59 38) = hI H := by
          funext a b
          unfold up2
          split
          · rename_i e; rw [e.1, e.2]
          · rfl
        rw [e2]; rfl
      rw [eid] at lp
      exact lp
    exact hch rfl
end REU
