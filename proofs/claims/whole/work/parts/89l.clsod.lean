/-! primitives called -/
def LPq (i g : Nat) (b : Int32) (x y : Int64) : ALS := [(6, .long y), (4, .long x), (0, .ref 47), (1, .int (nI i)), (2, .int (nI g)), (3, .int b)]
section CORD
variable {h h' : Hp} {Q : Option Value → Hp → Prop} {d : Nat} {G : PG} {p pc : Nat} {cap : Nat} {s t xs : List Int64} {v x y c : Int64} {a b o : Int32} {ba : Nat} {se : Int32} {bk : List BK} {F F' : List Int64} {ce ce' : Nat} {gc : List Int64} {r n M i g : Nat} {inp out inp' out' : List Int32} {th st lf : Nat} {lt : Int64}
theorem pr_pre (k : Sk h) (hd : 1 < d) (r : RXs cap (t ++ c :: xs) h) (hg : xs.length = g) (hg8 : g ≤ 8) (ha : Arg xs x y) (hq : ∀ y', (g ≤ 2 → y' = y) → aWP d 50 41 (LPq i g b x y') [] h Q) : aEv d 50 [.ref 47, .int (nI i), .int (nI g), .int b] h Q := by
  have h0 : 0 < d := by omega
  obtain ⟨a1, a2, a3, a4, a5⟩ := r
  have hl : (t ++ c :: xs).length = t.length + 1 + g := by simp; omega
  rw [hl] at a1 a2
  obtain ⟨rfl, rfl⟩ := ha
  have z1 : (1 : Int32) = nI 1 := rfl
  have e1 : nI (t.length + 1 + g) - nI g = nI (t.length + 1) := by rw [← nI_add]; exact Int32.add_sub_cancel _ _
  unfold LPq at hq
  unfold aEv
  match xs, hg with
  | [], hg =>
    have hg : g = 0 := hg.symm
    subst hg
    have c0 : (nI 0 ≤ 0) = True := eq_true (by decide)
    have c1 : (nI 0 ≤ 1) = True := eq_true (by decide)
    simp only [lv_args, z_v, z_lg, z_h, z_u, z_u1, z_c, z_ct, z_sk, sbne, lst1_d, ldel, lst2_d, ldel2, z_sw, z_rok, zi, eq_self, List.map_cons, List.map_nil, List.append_nil, List.nil_append, List.cons_append, Int32.reduceLT, Int32.reduceLE, Int32.reduceAdd, Int32.reduceSub, Int32.reduceMul, Int32.reduceToInt, Int32.reduceToNatClampNeg, Int.reduceLT, Int.reduceLE, Int.reduceNeg, true_and, and_true, or_self, or_false, false_or, false_and, and_false, true_or, or_true, if_true, if_false, ne_eq, Classical.not_not, not_true_eq_false, not_false_eq_true, true_implies, false_implies, implies_true, Nat.reduceEqDiff, Nat.reduceAdd, Nat.reduceLeDiff, Nat.reduceSub, reduceCtorEq, reduceIte, b50_0, b50_17, b50_18, b50_38, b50_39.1, c0, c1]
    exact hq _ (fun _ => rfl)
  | [x0], hg =>
    have hg : g = 1 := hg.symm
    subst hg
    have c0 : (nI 1 ≤ 0) = False := eq_false (by decide)
    have c1 : (nI 1 ≤ 1) = True := eq_true (by decide)
    have ex : hB h 53 (t.length + 1) = x0 := a5 _ _ (by rw [List.getElem?_append_right (by omega), show t.length + 1 - t.length = 1 by omega]; rfl)
    simp only [lv_args, z_v, z_lg, z_h, z_u, z_u1, z_c, z_ct, z_sk, sbne, lst1_d, ldel, lst2_d, ldel2, z_sw, z_rok, zi, eq_self, List.map_cons, List.map_nil, List.append_nil, List.nil_append, List.cons_append, Int32.reduceLT, Int32.reduceLE, Int32.reduceAdd, Int32.reduceSub, Int32.reduceMul, Int32.reduceToInt, Int32.reduceToNatClampNeg, Int.reduceLT, Int.reduceLE, Int.reduceNeg, true_and, and_true, or_self, or_false, false_or, false_and, and_false, true_or, or_true, if_true, if_false, ne_eq, Classical.not_not, not_true_eq_false, not_false_eq_true, true_implies, false_implies, implies_true, Nat.reduceEqDiff, Nat.reduceAdd, Nat.reduceLeDiff, Nat.reduceSub, reduceCtorEq, reduceIte, b50_0, b50_4, c0, skX k, h0, a1, e1]
    refine sp_peek k (by omega) a4 ?_
    rw [ex]
    simp only [lv_args, z_v, z_lg, z_h, z_u, z_u1, z_c, z_ct, z_sk, sbne, lst1_d, ldel, lst2_d, ldel2, z_sw, z_rok, zi, eq_self, List.map_cons, List.map_nil, List.append_nil, List.nil_append, List.cons_append, Int32.reduceLT, Int32.reduceLE, Int32.reduceAdd, Int32.reduceSub, Int32.reduceMul, Int32.reduceToInt, Int32.reduceToNatClampNeg, Int.reduceLT, Int.reduceLE, Int.reduceNeg, true_and, and_true, or_self, or_false, false_or, false_and, and_false, true_or, or_true, if_true, if_false, ne_eq, Classical.not_not, not_true_eq_false, not_false_eq_true, true_implies, false_implies, implies_true, Nat.reduceEqDiff, Nat.reduceAdd, Nat.reduceLeDiff, Nat.reduceSub, reduceCtorEq, reduceIte, b50_4, b50_18, b50_38, b50_39.1, c1]
    exact hq _ (fun _ => rfl)
  | x0 :: x1 :: xs, hg =>
    have c0 : (nI g ≤ 0) = False := eq_false (fun q => by
      have := (nI_leN (x := g) (y := 0) (by omega) (by omega)).mp q
      simp at hg; omega)
    have c1 : (nI g ≤ 1) = False := eq_false (fun q => by
      have := (nI_leN (x := g) (y := 1) (by omega) (by omega)).mp q
      simp at hg; omega)
    have hg4 : g = xs.length + 2 := hg.symm
    have ex : hB h 53 (t.length + 1) = x0 := a5 _ _ (by rw [List.getElem?_append_right (by omega), show t.length + 1 - t.length = 1 by omega]; rfl)
    have ey : g ≤ 2 → hB h 53 (t.length + g) = x1 := fun q => by
      have hg5 : g = 2 := by omega
      subst hg5
      exact a5 _ _ (by rw [List.getElem?_append_right (by omega), show t.length + 2 - t.length = 2 by omega]; rfl)
    have e2 : nI (t.length + 1 + g) - 1 = nI (t.length + g) := by
      rw [show t.length + 1 + g = t.length + g + 1 by omega]; exact nI_m1
    simp only [lv_args, z_v, z_lg, z_h, z_u, z_u1, z_c, z_ct, z_sk, sbne, lst1_d, ldel, lst2_d, ldel2, z_sw, z_rok, zi, eq_self, List.map_cons, List.map_nil, List.append_nil, List.nil_append, List.cons_append, Int32.reduceLT, Int32.reduceLE, Int32.reduceAdd, Int32.reduceSub, Int32.reduceMul, Int32.reduceToInt, Int32.reduceToNatClampNeg, Int.reduceLT, Int.reduceLE, Int.reduceNeg, true_and, and_true, or_self, or_false, false_or, false_and, and_false, true_or, or_true, if_true, if_false, ne_eq, Classical.not_not, not_true_eq_false, not_false_eq_true, true_implies, false_implies, implies_true, Nat.reduceEqDiff, Nat.reduceAdd, Nat.reduceLeDiff, Nat.reduceSub, reduceCtorEq, reduceIte, b50_0, b50_4, c0, skX k, h0, a1, e1]
    refine sp_peek k (by omega) a4 ?_
    rw [ex]
    simp only [lv_args, z_v, z_lg, z_h, z_u, z_u1, z_c, z_ct, z_sk, sbne, lst1_d, ldel, lst2_d, ldel2, z_sw, z_rok, zi, eq_self, List.map_cons, List.map_nil, List.append_nil, List.nil_append, List.cons_append, Int32.reduceLT, Int32.reduceLE, Int32.reduceAdd, Int32.reduceSub, Int32.reduceMul, Int32.reduceToInt, Int32.reduceToNatClampNeg, Int.reduceLT, Int.reduceLE, Int.reduceNeg, true_and, and_true, or_self, or_false, false_or, false_and, and_false, true_or, or_true, if_true, if_false, ne_eq, Classical.not_not, not_true_eq_false, not_false_eq_true, true_implies, false_implies, implies_true, Nat.reduceEqDiff, Nat.reduceAdd, Nat.reduceLeDiff, Nat.reduceSub, reduceCtorEq, reduceIte, b50_4, b50_18, b50_25, c1, skX k, h0, a1, e2]
    refine sp_peek k (by omega) a4 ?_
    simp only [lv_args, z_v, z_lg, z_h, z_u, z_u1, z_c, z_ct, z_sk, sbne, lst1_d, ldel, lst2_d, ldel2, z_sw, z_rok, zi, eq_self, List.map_cons, List.map_nil, List.append_nil, List.nil_append, List.cons_append, Int32.reduceLT, Int32.reduceLE, Int32.reduceAdd, Int32.reduceSub, Int32.reduceMul, Int32.reduceToInt, Int32.reduceToNatClampNeg, Int.reduceLT, Int.reduceLE, Int.reduceNeg, true_and, and_true, or_self, or_false, false_or, false_and, and_false, true_or, or_true, if_true, if_false, ne_eq, Classical.not_not, not_true_eq_false, not_false_eq_true, true_implies, false_implies, implies_true, Nat.reduceEqDiff, Nat.reduceAdd, Nat.reduceLeDiff, Nat.reduceSub, reduceCtorEq, reduceIte, b50_25, b50_39.1]
    exact hq _ ey
theorem e75w (hi : i < 20) (hq : Q (some (.int (nI (pwt i)))) h) : aEv d 75 [.int (nI i)] h Q := by
  have n19 : (19 : Int32) = nI 19 := rfl
  have n8 : (8 : Int32) = nI 8 := rfl
  rw [e75, n19, n8]
  simp (disch := omega) only [nI_eqN, nI_leN]
  unfold pwt at hq
  refine ⟨fun c => ⟨fun c2 => ?_, fun c2 => ?_⟩, fun c => ?_⟩
  · rw [if_neg c, if_neg (by omega)] at hq; exact hq
  · rw [if_neg c, if_pos (by omega)] at hq; exact hq
  · rw [if_pos c] at hq; exact hq
theorem pwt_le : pwt i ≤ 2 := by
  unfold pwt
  split
  · omega
  · split <;> omega
theorem pr_bad (k : Sk h) (hd : 1 < d) (hi : i < 20) (hg8 : g ≤ 8) (hne : g ≠ pwt i) (hq : Q none (pI (pI h 47 13 12) 47 14 0)) : aWP d 50 41 (LPq i g b x y) [] h Q := by
  have h0 : 0 < d := by omega
  have hw := pwt_le (i := i)
  unfold LPq
  simp only [lv_args, z_v, z_lg, z_h, z_u, z_u1, z_c, z_ct, z_sk, sbne, lst1_d, ldel, lst2_d, ldel2, z_sw, z_rok, zi, eq_self, List.map_cons, List.map_nil, List.append_nil, List.nil_append, List.cons_append, Int32.reduceLT, Int32.reduceLE, Int32.reduceAdd, Int32.reduceSub, Int32.reduceMul, Int32.reduceToInt, Int32.reduceToNatClampNeg, Int.reduceLT, Int.reduceLE, Int.reduceNeg, true_and, and_true, or_self, or_false, false_or, false_and, and_false, true_or, or_true, if_true, if_false, ne_eq, Classical.not_not, not_true_eq_false, not_false_eq_true, true_implies, false_implies, implies_true, Nat.reduceEqDiff, Nat.reduceAdd, Nat.reduceLeDiff, Nat.reduceSub, reduceCtorEq, reduceIte, b50_39, h0]
  refine e75w hi ?_
  simp only [lv_args, z_v, z_lg, z_h, z_u, z_u1, z_c, z_ct, z_sk, sbne, lst1_d, ldel, lst2_d, ldel2, z_sw, z_rok, zi, eq_self, List.map_cons, List.map_nil, List.append_nil, List.nil_append, List.cons_append, Int32.reduceLT, Int32.reduceLE, Int32.reduceAdd, Int32.reduceSub, Int32.reduceMul, Int32.reduceToInt, Int32.reduceToNatClampNeg, Int.reduceLT, Int.reduceLE, Int.reduceNeg, true_and, and_true, or_self, or_false, false_or, false_and, and_false, true_or, or_true, if_true, if_false, ne_eq, Classical.not_not, not_true_eq_false, not_false_eq_true, true_implies, false_implies, implies_true, Nat.reduceEqDiff, Nat.reduceAdd, Nat.reduceLeDiff, Nat.reduceSub, reduceCtorEq, reduceIte, b50_39]
  simp (disch := omega) only [nI_eqN]
  refine ⟨fun _ => ?_, fun c => absurd c hne⟩
  have z2 : ¬ (2 : Int32) = 0 := by decide
  simp only [lv_args, z_v, z_lg, z_h, z_u, z_u1, z_c, z_ct, z_sk, sbne, lst1_d, ldel, lst2_d, ldel2, z_sw, z_rok, zi, eq_self, List.map_cons, List.map_nil, List.append_nil, List.nil_append, List.cons_append, Int32.reduceLT, Int32.reduceLE, Int32.reduceAdd, Int32.reduceSub, Int32.reduceMul, Int32.reduceToInt, Int32.reduceToNatClampNeg, Int.reduceLT, Int.reduceLE, Int.reduceNeg, true_and, and_true, or_self, or_false, false_or, false_and, and_false, true_or, or_true, if_true, if_false, ne_eq, Classical.not_not, not_true_eq_false, not_false_eq_true, true_implies, false_implies, implies_true, Nat.reduceEqDiff, Nat.reduceAdd, Nat.reduceLeDiff, Nat.reduceSub, reduceCtorEq, reduceIte, b50_61, b50_62, z2, b50_69, b50_179, skX k, h0, e55_47 _ _ k]
  exact hq
theorem pr_err (k : Sk h) (hd : 4 < d) (hi : i < 20) (hg : g = pwt i) (hc : hI h 48 2 = nI ce) (hce : ce ≤ 40000) (h1 : erf i x y ce ≠ 0 → Q none (pI (pI h 47 13 (10 + erf i x y ce)) 47 14 0)) (h2 : erf i x y ce = 0 → aWP d 50 78 ((8, .int 0) :: LPq i g b x y) [] h Q) : aWP d 50 41 (LPq i g b x y) [] h Q := by
  have h0 : 0 < d := by omega
  have hw := pwt_le (i := i)
  unfold LPq at h2 ⊢
  simp only [lv_args, z_v, z_lg, z_h, z_u, z_u1, z_c, z_ct, z_sk, sbne, lst1_d, ldel, lst2_d, ldel2, z_sw, z_rok, zi, eq_self, List.map_cons, List.map_nil, List.append_nil, List.nil_append, List.cons_append, Int32.reduceLT, Int32.reduceLE, Int32.reduceAdd, Int32.reduceSub, Int32.reduceMul, Int32.reduceToInt, Int32.reduceToNatClampNeg, Int.reduceLT, Int.reduceLE, Int.reduceNeg, true_and, and_true, or_self, or_false, false_or, false_and, and_false, true_or, or_true, if_true, if_false, ne_eq, Classical.not_not, not_true_eq_false, not_false_eq_true, true_implies, false_implies, implies_true, Nat.reduceEqDiff, Nat.reduceAdd, Nat.reduceLeDiff, Nat.reduceSub, reduceCtorEq, reduceIte, b50_39, h0]
  refine e75w hi ?_
  simp only [lv_args, z_v, z_lg, z_h, z_u, z_u1, z_c, z_ct, z_sk, sbne, lst1_d, ldel, lst2_d, ldel2, z_sw, z_rok, zi, eq_self, List.map_cons, List.map_nil, List.append_nil, List.nil_append, List.cons_append, Int32.reduceLT, Int32.reduceLE, Int32.reduceAdd, Int32.reduceSub, Int32.reduceMul, Int32.reduceToInt, Int32.reduceToNatClampNeg, Int.reduceLT, Int.reduceLE, Int.reduceNeg, true_and, and_true, or_self, or_false, false_or, false_and, and_false, true_or, or_true, if_true, if_false, ne_eq, Classical.not_not, not_true_eq_false, not_false_eq_true, true_implies, false_implies, implies_true, Nat.reduceEqDiff, Nat.reduceAdd, Nat.reduceLeDiff, Nat.reduceSub, reduceCtorEq, reduceIte, b50_39]
  simp (disch := omega) only [nI_eqN]
  refine ⟨fun c => absurd hg c, fun _ => ?_⟩
  simp only [lv_args, z_v, z_lg, z_h, z_u, z_u1, z_c, z_ct, z_sk, sbne, lst1_d, ldel, lst2_d, ldel2, z_sw, z_rok, zi, eq_self, List.map_cons, List.map_nil, List.append_nil, List.nil_append, List.cons_append, Int32.reduceLT, Int32.reduceLE, Int32.reduceAdd, Int32.reduceSub, Int32.reduceMul, Int32.reduceToInt, Int32.reduceToNatClampNeg, Int.reduceLT, Int.reduceLE, Int.reduceNeg, true_and, and_true, or_self, or_false, false_or, false_and, and_false, true_or, or_true, if_true, if_false, ne_eq, Classical.not_not, not_true_eq_false, not_false_eq_true, true_implies, false_implies, implies_true, Nat.reduceEqDiff, Nat.reduceAdd, Nat.reduceLeDiff, Nat.reduceSub, reduceCtorEq, reduceIte, b50_49, skX k, h0]
  refine sp_err hi k (by omega) hc hce ?_
  simp only [lv_args, z_v, z_lg, z_h, z_u, z_u1, z_c, z_ct, z_sk, sbne, lst1_d, ldel, lst2_d, ldel2, z_sw, z_rok, zi, eq_self, List.map_cons, List.map_nil, List.append_nil, List.nil_append, List.cons_append, Int32.reduceLT, Int32.reduceLE, Int32.reduceAdd, Int32.reduceSub, Int32.reduceMul, Int32.reduceToInt, Int32.reduceToNatClampNeg, Int.reduceLT, Int.reduceLE, Int.reduceNeg, true_and, and_true, or_self, or_false, false_or, false_and, and_false, true_or, or_true, if_true, if_false, ne_eq, Classical.not_not, not_true_eq_false, not_false_eq_true, true_implies, false_implies, implies_true, Nat.reduceEqDiff, Nat.reduceAdd, Nat.reduceLeDiff, Nat.reduceSub, reduceCtorEq, reduceIte, b50_49, b50_62]
  refine ⟨fun c => ?_, fun c => ?_⟩
  · rw [c]; exact h2 c
  · simp only [lv_args, z_v, z_lg, z_h, z_u, z_u1, z_c, z_ct, z_sk, sbne, lst1_d, ldel, lst2_d, ldel2, z_sw, z_rok, zi, eq_self, List.map_cons, List.map_nil, List.append_nil, List.nil_append, List.cons_append, Int32.reduceLT, Int32.reduceLE, Int32.reduceAdd, Int32.reduceSub, Int32.reduceMul, Int32.reduceToInt, Int32.reduceToNatClampNeg, Int.reduceLT, Int.reduceLE, Int.reduceNeg, true_and, and_true, or_self, or_false, false_or, false_and, and_false, true_or, or_true, if_true, if_false, ne_eq, Classical.not_not, not_true_eq_false, not_false_eq_true, true_implies, false_implies, implies_true, Nat.reduceEqDiff, Nat.reduceAdd, Nat.reduceLeDiff, Nat.reduceSub, reduceCtorEq, reduceIte, b50_69, b50_179, skX k, h0, e55_47 _ _ k]
    exact h1 c
/-- what comes behind the errors: held up, or worked -/
theorem pr_hold (k : Sk h) (hd : 1 < d) (hi : i < 20) (hp : RXp inp out h) (h1 : i = 19 → inp = [] → Q none (pI (pI h 47 13 2) 47 14 0)) (h2 : i = 7 → 1000 ≤ out.length → Q none (pI (pI h 47 13 3) 47 14 0)) (h3 : (i = 19 → inp ≠ []) → (i = 7 → out.length < 1000) → aWP d 50 129 ((8, .int 0) :: LPq i g b x y) [] h Q) : aWP d 50 78 ((8, .int 0) :: LPq i g b x y) [] h Q := by
  have h0 : 0 < d := by omega
  obtain ⟨p1, ⟨f, p2, p3, p4, p5, p6⟩, p7, p8, p9, p10, p11⟩ := hp
  have n19 : (19 : Int32) = nI 19 := rfl
  have n7 : (7 : Int32) = nI 7 := rfl
  have n0 : (0 : Int32) = nI 0 := rfl
  have n1000 : (1000 : Int32) = nI 1000 := rfl
  unfold LPq at h3 ⊢
  have at102 : (i = 19 → inp ≠ []) → aWP d 50 102 ((8, .int 0) :: [(6, .long y), (4, .long x), (0, .ref 47), (1, .int (nI i)), (2, .int (nI g)), (3, .int b)]) [] h Q := fun c19 => by
    simp only [lv_args, z_v, z_lg, z_h, z_u, z_u1, z_c, z_ct, z_sk, sbne, lst1_d, ldel, lst2_d, ldel2, z_sw, z_rok, zi, eq_self, List.map_cons, List.map_nil, List.append_nil, List.nil_append, List.cons_append, Int32.reduceLT, Int32.reduceLE, Int32.reduceAdd, Int32.reduceSub, Int32.reduceMul, Int32.reduceToInt, Int32.reduceToNatClampNeg, Int.reduceLT, Int.reduceLE, Int.reduceNeg, true_and, and_true, or_self, or_false, false_or, false_and, and_false, true_or, or_true, if_true, if_false, ne_eq, Classical.not_not, not_true_eq_false, not_false_eq_true, true_implies, false_implies, implies_true, Nat.reduceEqDiff, Nat.reduceAdd, Nat.reduceLeDiff, Nat.reduceSub, reduceCtorEq, reduceIte, b50_102, n7]
    simp (disch := omega) only [nI_eqN]
    refine ⟨fun c => h3 c19 (fun e => absurd e c), fun c => ?_⟩
    simp only [lv_args, z_v, z_lg, z_h, z_u, z_u1, z_c, z_ct, z_sk, sbne, lst1_d, ldel, lst2_d, ldel2, z_sw, z_rok, zi, eq_self, List.map_cons, List.map_nil, List.append_nil, List.nil_append, List.cons_append, Int32.reduceLT, Int32.reduceLE, Int32.reduceAdd, Int32.reduceSub, Int32.reduceMul, Int32.reduceToInt, Int32.reduceToNatClampNeg, Int.reduceLT, Int.reduceLE, Int.reduceNeg, true_and, and_true, or_self, or_false, false_or, false_and, and_false, true_or, or_true, if_true, if_false, ne_eq, Classical.not_not, not_true_eq_false, not_false_eq_true, true_implies, false_implies, implies_true, Nat.reduceEqDiff, Nat.reduceAdd, Nat.reduceLeDiff, Nat.reduceSub, reduceCtorEq, reduceIte, b50_108, skX k, srX k, p7, n1000]
    simp (disch := omega) only [nI_ltN]
    refine ⟨fun c2 => h3 c19 (fun _ => c2), fun c2 => ?_⟩
    simp only [lv_args, z_v, z_lg, z_h, z_u, z_u1, z_c, z_ct, z_sk, sbne, lst1_d, ldel, lst2_d, ldel2, z_sw, z_rok, zi, eq_self, List.map_cons, List.map_nil, List.append_nil, List.nil_append, List.cons_append, Int32.reduceLT, Int32.reduceLE, Int32.reduceAdd, Int32.reduceSub, Int32.reduceMul, Int32.reduceToInt, Int32.reduceToNatClampNeg, Int.reduceLT, Int.reduceLE, Int.reduceNeg, true_and, and_true, or_self, or_false, false_or, false_and, and_false, true_or, or_true, if_true, if_false, ne_eq, Classical.not_not, not_true_eq_false, not_false_eq_true, true_implies, false_implies, implies_true, Nat.reduceEqDiff, Nat.reduceAdd, Nat.reduceLeDiff, Nat.reduceSub, reduceCtorEq, reduceIte, b50_121, b50_179, skX k, h0, e57_47 _ _ k]
    exact h2 c (by omega)
  simp only [lv_args, z_v, z_lg, z_h, z_u, z_u1, z_c, z_ct, z_sk, sbne, lst1_d, ldel, lst2_d, ldel2, z_sw, z_rok, zi, eq_self, List.map_cons, List.map_nil, List.append_nil, List.nil_append, List.cons_append, Int32.reduceLT, Int32.reduceLE, Int32.reduceAdd, Int32.reduceSub, Int32.reduceMul, Int32.reduceToInt, Int32.reduceToNatClampNeg, Int.reduceLT, Int.reduceLE, Int.reduceNeg, true_and, and_true, or_self, or_false, false_or, false_and, and_false, true_or, or_true, if_true, if_false, ne_eq, Classical.not_not, not_true_eq_false, not_false_eq_true, true_implies, false_implies, implies_true, Nat.reduceEqDiff, Nat.reduceAdd, Nat.reduceLeDiff, Nat.reduceSub, reduceCtorEq, reduceIte, b50_78, n19]
  simp (disch := omega) only [nI_eqN]
  refine ⟨fun c => at102 (fun e => absurd e c), fun c => ?_⟩
  simp only [lv_args, z_v, z_lg, z_h, z_u, z_u1, z_c, z_ct, z_sk, sbne, lst1_d, ldel, lst2_d, ldel2, z_sw, z_rok, zi, eq_self, List.map_cons, List.map_nil, List.append_nil, List.nil_append, List.cons_append, Int32.reduceLT, Int32.reduceLE, Int32.reduceAdd, Int32.reduceSub, Int32.reduceMul, Int32.reduceToInt, Int32.reduceToNatClampNeg, Int.reduceLT, Int.reduceLE, Int.reduceNeg, true_and, and_true, or_self, or_false, false_or, false_and, and_false, true_or, or_true, if_true, if_false, ne_eq, Classical.not_not, not_true_eq_false, not_false_eq_true, true_implies, false_implies, implies_true, Nat.reduceEqDiff, Nat.reduceAdd, Nat.reduceLeDiff, Nat.reduceSub, reduceCtorEq, reduceIte, b50_84, skX k, srX k, p4, n0]
  simp (disch := omega) only [nI_eqN]
  refine ⟨fun c2 => at102 (fun _ e => c2 (by rw [e]; rfl)), fun c2 => ?_⟩
  simp only [lv_args, z_v, z_lg, z_h, z_u, z_u1, z_c, z_ct, z_sk, sbne, lst1_d, ldel, lst2_d, ldel2, z_sw, z_rok, zi, eq_self, List.map_cons, List.map_nil, List.append_nil, List.nil_append, List.cons_append, Int32.reduceLT, Int32.reduceLE, Int32.reduceAdd, Int32.reduceSub, Int32.reduceMul, Int32.reduceToInt, Int32.reduceToNatClampNeg, Int.reduceLT, Int.reduceLE, Int.reduceNeg, true_and, and_true, or_self, or_false, false_or, false_and, and_false, true_or, or_true, if_true, if_false, ne_eq, Classical.not_not, not_true_eq_false, not_false_eq_true, true_implies, false_implies, implies_true, Nat.reduceEqDiff, Nat.reduceAdd, Nat.reduceLeDiff, Nat.reduceSub, reduceCtorEq, reduceIte, b50_94, b50_179, skX k, h0, e57_47 _ _ k]
  exact h1 c (List.length_eq_zero_iff.mp c2)
/-- worked: the value is pushed -/
theorem pr_val (S : SX G p h) (hd : 10 < d) (r : RXs cap (t ++ c :: xs) h) (hg : xs.length = g) (hg8 : g ≤ 8) (f : RXf pc ba se bk h) (hh : RXh F ce gc h) (hp : RXp inp out h) (hF : F.length ≤ 140000) (hcap : (t ++ c :: xs).length ≤ cap) (hv : Pcl i x y (F, ce, inp, out) v (F', ce', inp', out'))
    (hq0 : b = 0 → ∀ h', SX G p h' → Keep h h' → RXh F' ce' gc h' → RXp inp' out' h' → Q none (pI (hPs (pI h' 47 4 (nI t.length)) t.length v) 47 7 (nI (pc + 1))))
    (hq1 : b = 1 → ∃ pb bb sb bk', bk = (pb, bb, sb) :: bk' ∧ 1 ≤ ba ∧ ba ≤ t.length ∧ ∀ h', SX G p h' → Keep h h' → RXh F' ce' gc h' → RXp inp' out' h' → Q none (hBk (hPs (pI h' 47 4 (nI t.length)) t.length v) t.length ba v bk'.length pb bb sb)) (hb : b = 0 ∨ b = 1) : aWP d 50 129 ((8, .int 0) :: LPq i g b x y) [] h Q := by
  have h0 : 0 < d := by omega
  have k := S.1
  have hl : (t ++ c :: xs).length = t.length + 1 + g := by simp; omega
  unfold LPq
  simp only [lv_args, z_v, z_lg, z_h, z_u, z_u1, z_c, z_ct, z_sk, sbne, lst1_d, ldel, lst2_d, ldel2, z_sw, z_rok, zi, eq_self, List.map_cons, List.map_nil, List.append_nil, List.nil_append, List.cons_append, Int32.reduceLT, Int32.reduceLE, Int32.reduceAdd, Int32.reduceSub, Int32.reduceMul, Int32.reduceToInt, Int32.reduceToNatClampNeg, Int.reduceLT, Int.reduceLE, Int.reduceNeg, true_and, and_true, or_self, or_false, false_or, false_and, and_false, true_or, or_true, if_true, if_false, ne_eq, Classical.not_not, not_true_eq_false, not_false_eq_true, true_implies, false_implies, implies_true, Nat.reduceEqDiff, Nat.reduceAdd, Nat.reduceLeDiff, Nat.reduceSub, reduceCtorEq, reduceIte, b50_129, skX k, h0]
  refine sp_val (inp' := inp') S (by omega) hh hp hF (fun _ _ _ => trivial) hv fun h' S' kp rh rp => ?_
  have k' := S'.1
  have r' := kp.1 _ _ r
  have f' := kp.2.1 _ _ _ _ f
  obtain ⟨a1, a2, a3, a4, a5⟩ := r'
  rw [hl] at a1 a2 hcap
  have e1 : nI (t.length + 1 + g) - (nI g + 1) = nI t.length := by
    rw [nI_1, show t.length + 1 + g = t.length + (g + 1) by omega, ← nI_add]
    exact Int32.add_sub_cancel _ _
  simp only [lv_args, z_v, z_lg, z_h, z_u, z_u1, z_c, z_ct, z_sk, sbne, lst1_d, ldel, lst2_d, ldel2, z_sw, z_rok, zi, eq_self, List.map_cons, List.map_nil, List.append_nil, List.nil_append, List.cons_append, Int32.reduceLT, Int32.reduceLE, Int32.reduceAdd, Int32.reduceSub, Int32.reduceMul, Int32.reduceToInt, Int32.reduceToNatClampNeg, Int.reduceLT, Int.reduceLE, Int.reduceNeg, true_and, and_true, or_self, or_false, false_or, false_and, and_false, true_or, or_true, if_true, if_false, ne_eq, Classical.not_not, not_true_eq_false, not_false_eq_true, true_implies, false_implies, implies_true, Nat.reduceEqDiff, Nat.reduceAdd, Nat.reduceLeDiff, Nat.reduceSub, reduceCtorEq, reduceIte, b50_129, skX k, skX k', h0, Nat.reduceLT, a1, e1]
  refine sp_push (n := t.length) ((sk_same rfl rfl rfl : Sk _ = Sk h') ▸ k') rfl (show t.length < hN h' 53 by omega) a4 ?_
  rcases hb with rfl | rfl
  · simp only [lv_args, z_v, z_lg, z_h, z_u, z_u1, z_c, z_ct, z_sk, sbne, lst1_d, ldel, lst2_d, ldel2, z_sw, z_rok, zi, eq_self, List.map_cons, List.map_nil, List.append_nil, List.nil_append, List.cons_append, Int32.reduceLT, Int32.reduceLE, Int32.reduceAdd, Int32.reduceSub, Int32.reduceMul, Int32.reduceToInt, Int32.reduceToNatClampNeg, Int.reduceLT, Int.reduceLE, Int.reduceNeg, true_and, and_true, or_self, or_false, false_or, false_and, and_false, true_or, or_true, if_true, if_false, ne_eq, Classical.not_not, not_true_eq_false, not_false_eq_true, true_implies, false_implies, implies_true, Nat.reduceEqDiff, Nat.reduceAdd, Nat.reduceLeDiff, Nat.reduceSub, reduceCtorEq, reduceIte, b50_129, b50_169, b50_179, hPs, skX k', f'.2.2.1, nI_1]
    exact hq0 rfl h' S' kp rh rp
  · have z10 : ¬ (1 : Int32) = 0 := by decide
    obtain ⟨pb, bb, sb, bk', rfl, u1, u2, u3⟩ := hq1 rfl
    have rt : RXs cap t (pI h' 47 4 (nI t.length)) := ⟨rfl, show t.length ≤ hN h' 53 by omega, a3, a4, fun i x q => a5 i x (g_app q)⟩
    have rp2 := rxs_push (v := v) rt (by omega)
    have kk : Sk (hPs (pI h' 47 4 (nI t.length)) t.length v) := (sk_same rfl rfl rfl : Sk _ = Sk h') ▸ k'
    have fk : RXf pc ba se ((pb, bb, sb) :: bk') (hPs (pI h' 47 4 (nI t.length)) t.length v) := f'
    have fin := op_back (d := d - 1) (Q := aCt d 50 166 ((9, Value.long v) :: (8, .int 0) :: LPq i g 1 x y) [] (hPs (pI h' 47 4 (nI t.length)) t.length v) Q) kk (by omega) rp2 fk u1 u2 (by
      have := u3 h' S' kp rh rp
      unfold LPq
      simp only [lv_args, z_v, z_lg, z_h, z_u, z_u1, z_c, z_ct, z_sk, sbne, lst1_d, ldel, lst2_d, ldel2, z_sw, z_rok, zi, eq_self, List.map_cons, List.map_nil, List.append_nil, List.nil_append, List.cons_append, Int32.reduceLT, Int32.reduceLE, Int32.reduceAdd, Int32.reduceSub, Int32.reduceMul, Int32.reduceToInt, Int32.reduceToNatClampNeg, Int.reduceLT, Int.reduceLE, Int.reduceNeg, true_and, and_true, or_self, or_false, false_or, false_and, and_false, true_or, or_true, if_true, if_false, ne_eq, Classical.not_not, not_true_eq_false, not_false_eq_true, true_implies, false_implies, implies_true, Nat.reduceEqDiff, Nat.reduceAdd, Nat.reduceLeDiff, Nat.reduceSub, reduceCtorEq, reduceIte, b50_162, b50_179, skX k', Nat.reduceLT, hPs]
      exact this)
    unfold LPq at fin
    simp only [lv_args, z_v, z_lg, z_h, z_u, z_u1, z_c, z_ct, z_sk, sbne, lst1_d, ldel, lst2_d, ldel2, z_sw, z_rok, zi, eq_self, List.map_cons, List.map_nil, List.append_nil, List.nil_append, List.cons_append, Int32.reduceLT, Int32.reduceLE, Int32.reduceAdd, Int32.reduceSub, Int32.reduceMul, Int32.reduceToInt, Int32.reduceToNatClampNeg, Int.reduceLT, Int.reduceLE, Int.reduceNeg, true_and, and_true, or_self, or_false, false_or, false_and, and_false, true_or, or_true, if_true, if_false, ne_eq, Classical.not_not, not_true_eq_false, not_false_eq_true, true_implies, false_implies, implies_true, Nat.reduceEqDiff, Nat.reduceAdd, Nat.reduceLeDiff, Nat.reduceSub, reduceCtorEq, reduceIte, b50_129, b50_162, z10, hPs, skX k', h0] at fin ⊢
    exact fin
end CORD
