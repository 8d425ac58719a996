/-! letrec's blanks, first values, definitions -/
def hBl (h : Hp) (n : Nat) : Nat → Hp
  | 0 => h
  | j + 1 => hPs (hBl h n j) (n + j) (vof 9 0)
theorem hBl_same (h : Hp) (n : Nat) : ∀ j, hK (hBl h n j) = hK h ∧ hR (hBl h n j) = hR h ∧ hn (hBl h n j) = hn h ∧ hN (hBl h n j) = hN h
  | 0 => ⟨rfl, rfl, rfl, rfl⟩
  | j + 1 => hBl_same h n j
section COR5
variable {h : Hp} {Q : Option Value → Hp → Prop} {d : Nat} {G : PG} {p pc : Nat} {cap : Nat} {s : List Int64} {v : Int64} {a o : Int32} {ba : Nat} {se : Int32} {bk : List BK} {F : List Int64} {ce : Nat} {gc : List Int64} {P : List Int32 × List Int32 × Nat × Nat × Int64 × Nat}
theorem bl_loop {n c : Nat} (k : Sk h) (hd : 1 < d) (e : hI h 47 4 = nI n) (hn : n + c ≤ hN h 53) (hb : hN h 53 < 1000000) (hq : ∀ L, LX 47 L → lgv L 0 = .ref 47 → aWP d 47 69 L [] (hBl h n c) Q) : ∀ (m j : Nat) (L : ALS), j + m = c → LX 47 L → lgv L 0 = .ref 47 → lgv L 2 = .int (nI c) → lgv L 3 = .int (nI j) → aWP d 47 8 L [] (hBl h n j) Q := by
  have h0 : 0 < d := by omega
  intro m
  induction m with
  | zero =>
    intro j L hj lx l0 l2 l3
    have : j = c := by omega
    subst this
    simp (disch := omega) only [b47_8, z_v, l2, l3, nI_leN, true_and]
    refine ⟨fun _ => ?_, fun q => absurd (Nat.le_refl _) q⟩
    simp only [lv_args, z_v, z_lg, z_h, z_u, z_u1, z_c, z_ct, z_sk, sbne, lst1_d, ldel, lst2_d, ldel2, z_sw, z_rok, zi, eq_self, List.map_cons, List.map_nil, List.append_nil, List.nil_append, List.cons_append, Int32.reduceLT, Int32.reduceLE, Int32.reduceAdd, Int32.reduceSub, Int32.reduceMul, Int32.reduceToInt, Int32.reduceToNatClampNeg, Int.reduceLT, Int.reduceLE, Int.reduceNeg, true_and, and_true, or_self, or_false, false_or, false_and, and_false, true_or, or_true, if_true, if_false, ne_eq, Classical.not_not, not_true_eq_false, not_false_eq_true, true_implies, false_implies, implies_true, Nat.reduceEqDiff, Nat.reduceAdd, Nat.reduceLeDiff, Nat.reduceSub, reduceCtorEq, reduceIte, b47_29]
    exact hq L lx l0
  | succ m ih =>
    intro j L hj lx l0 l2 l3
    obtain ⟨s1, s2, s3, s4⟩ := hBl_same h n j
    have kj : Sk (hBl h n j) := (sk_same s1 s2 s3 : Sk _ = Sk h) ▸ k
    have ej : hI (hBl h n j) 47 4 = nI (n + j) := by
      cases j with
      | zero => exact e
      | succ j => rfl
    simp (disch := omega) only [b47_8, z_v, l2, l3, nI_leN, true_and]
    refine ⟨fun q => absurd q (by omega), fun _ => ?_⟩
    simp only [lv_args, z_v, z_lg, z_h, z_u, z_u1, z_c, z_ct, z_sk, sbne, lst1_d, ldel, lst2_d, ldel2, z_rok, zi, eq_self, List.map_cons, List.map_nil, List.append_nil, List.nil_append, List.cons_append, Int32.reduceLT, Int32.reduceLE, Int32.reduceAdd, Int32.reduceSub, Int32.reduceMul, Int32.reduceToInt, Int32.reduceToNatClampNeg, Int.reduceLT, Int.reduceLE, Int.reduceNeg, true_and, and_true, or_self, or_false, false_or, false_and, and_false, true_or, or_true, if_true, if_false, ne_eq, Classical.not_not, not_true_eq_false, not_false_eq_true, true_implies, false_implies, implies_true, Nat.reduceEqDiff, Nat.reduceAdd, Nat.reduceLeDiff, Nat.reduceSub, reduceCtorEq, reduceIte, b47_13, skX kj, h0, l0, e157v]
    refine sp_push kj ej (by rw [s4]; omega) (by rw [s4]; exact hb) ?_
    refine ⟨rfl, Or.inl rfl, ?_⟩
    show aWP d 47 23 L [] (hBl h n (j + 1)) Q
    have m0 : lgv (lst1 L 3 (.int (nI (j + 1)))) 0 = .ref 47 := (lx_ot lx (by decide)).trans l0
    have m2 : lgv (lst1 L 3 (.int (nI (j + 1)))) 2 = .int (nI c) := (lx_ot lx (by decide)).trans l2
    have := ih (j + 1) (lst1 L 3 (.int (nI (j + 1)))) (by omega) (lx_st lx) m0 m2 lgv_st
    simp only [b47_13, z_v, l3, true_and, nI_1]
    exact this
theorem hBl_oth (h : Hp) (n : Nat) : ∀ j, (∀ a b, ¬ (a = 47 ∧ b = 4) → hI (hBl h n j) a b = hI h a b) ∧ hL (hBl h n j) = hL h ∧ hA (hBl h n j) = hA h ∧ (∀ a, a ≠ 53 → hB (hBl h n j) a = hB h a) ∧ hu (hBl h n j) = hu h
  | 0 => ⟨fun _ _ _ => rfl, rfl, rfl, fun _ _ => rfl, rfl⟩
  | j + 1 => by
    obtain ⟨g1, g2, g3, g4, g5⟩ := hBl_oth h n j
    refine ⟨fun a b c => ?_, g2, g3, fun a c => ?_, g5⟩
    · show (if a = 47 ∧ b = 4 then _ else hI (hBl h n j) a b) = _
      rw [if_neg c]; exact g1 a b c
    · exact (up1_ne c).trans (g4 a c)
theorem rxs_bl (r : RXs cap s h) : ∀ {c : Nat}, s.length + c ≤ cap → RXs cap (s ++ List.replicate c (vof 9 0)) (hBl h s.length c)
  | 0, _ => by rw [List.replicate_zero, List.append_nil]; exact r
  | c + 1, hc => by
    have := rxs_push (v := vof 9 0) (rxs_bl r (c := c) (by omega)) (by simp; omega)
    rw [List.append_assoc, ← List.replicate_succ'] at this
    have e : (s ++ List.replicate c (vof 9 0)).length = s.length + c := by simp
    rw [e] at this
    exact this
theorem op_blk {c : Nat} (k : Sk h) (hd : 3 < d) (r : RXs cap s h) (hc : s.length + c ≤ cap) (h7 : hI h 47 7 = nI pc) (hq : Q none (pI (hBl h s.length c) 47 7 (nI (pc + 1)))) : aEv d 47 [.ref 47, .int 22, .int (nI c)] h Q := by
  have h0 : 0 < d := by omega
  obtain ⟨a1, a2, a3, a4, a5⟩ := r
  unfold aEv
  simp only [lv_args, z_v, z_lg, z_h, z_u, z_u1, z_c, z_ct, z_sk, sbne, lst1_d, ldel, lst2_d, ldel2, z_sw, z_rok, zi, eq_self, List.map_cons, List.map_nil, List.append_nil, List.nil_append, List.cons_append, Int32.reduceLT, Int32.reduceLE, Int32.reduceAdd, Int32.reduceSub, Int32.reduceMul, Int32.reduceToInt, Int32.reduceToNatClampNeg, Int.reduceLT, Int.reduceLE, Int.reduceNeg, true_and, and_true, or_self, or_false, false_or, false_and, and_false, true_or, or_true, if_true, if_false, ne_eq, Classical.not_not, not_true_eq_false, not_false_eq_true, true_implies, false_implies, implies_true, Nat.reduceEqDiff, Nat.reduceAdd, Nat.reduceLeDiff, Nat.reduceSub, reduceCtorEq, reduceIte, b47_0, b47_6]
  refine bl_loop (n := s.length) (c := c) k (by omega) a1 (by omega) a4 ?_ c 0 _ (by omega) ?_ rfl rfl rfl
  · intro L lx l0
    obtain ⟨s1, s2, s3, s4⟩ := hBl_same h s.length c
    have kj : Sk (hBl h s.length c) := (sk_same s1 s2 s3 : Sk _ = Sk h) ▸ k
    have e7 : hI (hBl h s.length c) 47 7 = nI pc := ((hBl_oth h s.length c).1 47 7 (by decide)).trans h7
    simp only [lv_args, z_v, z_lg, z_h, z_u, z_u1, z_c, z_ct, z_sk, sbne, lst1_d, ldel, lst2_d, ldel2, z_sw, z_rok, zi, eq_self, List.map_cons, List.map_nil, List.append_nil, List.nil_append, List.cons_append, Int32.reduceLT, Int32.reduceLE, Int32.reduceAdd, Int32.reduceSub, Int32.reduceMul, Int32.reduceToInt, Int32.reduceToNatClampNeg, Int.reduceLT, Int.reduceLE, Int.reduceNeg, true_and, and_true, or_self, or_false, false_or, false_and, and_false, true_or, or_true, if_true, if_false, ne_eq, Classical.not_not, not_true_eq_false, not_false_eq_true, true_implies, false_implies, implies_true, Nat.reduceEqDiff, Nat.reduceAdd, Nat.reduceLeDiff, Nat.reduceSub, reduceCtorEq, reduceIte, b47_69, l0, skX kj, e7, nI_1]
    exact hq
  · intro q hq
    simp only [List.mem_cons, List.not_mem_nil, or_false] at hq
    rcases hq with rfl | rfl | rfl | rfl
    · exact Or.inr ⟨_, rfl⟩
    · exact Or.inl rfl
    · exact Or.inr ⟨_, rfl⟩
    · exact Or.inr ⟨_, rfl⟩
theorem op_first {t : List Int64} {x : Int64} {j : Nat} (k : Sk h) (hd : 4 < d) (r : RXs cap (t ++ [x]) h) (f : RXf pc ba se bk h) (hh : RXh F ce gc h) (hj : j < 100000) {y : Int64} (hy : t[ba + j]? = some y)
    (h1 : vkd y ≠ 10 → Q none (pI (pB (pI h 47 4 (nI t.length)) 53 (vp_updL (hB h 53) (ba + j) x)) 47 7 (nI (pc + 1)))) (h2 : vkd y = 10 → ∃ m, y = vof 10 (nI m) ∧ m < F.length ∧ Q none (pI (pB (pI h 47 4 (nI t.length)) 49 (vp_updL (hB h 49) m x)) 47 7 (nI (pc + 1)))) : aEv d 47 [.ref 47, .int 23, .int (nI j)] h Q := by
  have h0 : 0 < d := by omega
  have h01 : 0 < d - 1 := by omega
  obtain ⟨q1, q2, q3, q4⟩ := rxs_pop r
  obtain ⟨a1, a2, a3, a4, a5⟩ := r
  have hne : ¬ ((23 : Int32) = 22) := by decide
  have rt : t.length ≤ hN h 53 ∧ hN h 53 < 1000000 ∧ ∀ (i : Nat) (x : Int64), t[i]? = some x → hB h 53 i = x := ⟨by omega, a4, fun i x q => a5 i x (g_app q)⟩
  unfold aEv
  simp only [lv_args, z_v, z_lg, z_h, z_u, z_u1, z_c, z_ct, z_sk, sbne, lst1_d, ldel, lst2_d, ldel2, z_sw, z_rok, zi, eq_self, List.map_cons, List.map_nil, List.append_nil, List.nil_append, List.cons_append, Int32.reduceLT, Int32.reduceLE, Int32.reduceAdd, Int32.reduceSub, Int32.reduceMul, Int32.reduceToInt, Int32.reduceToNatClampNeg, Int.reduceLT, Int.reduceLE, Int.reduceNeg, true_and, and_true, or_self, or_false, false_or, false_and, and_false, true_or, or_true, if_true, if_false, ne_eq, Classical.not_not, not_true_eq_false, not_false_eq_true, true_implies, false_implies, implies_true, Nat.reduceEqDiff, Nat.reduceAdd, Nat.reduceLeDiff, Nat.reduceSub, reduceCtorEq, reduceIte, b47_0, b47_32, b47_38, hne, skX k, h0, f.1, nI_add]
  refine sp_pop k h01 q2 q3 a4 ?_
  rw [q4]
  have kk : Sk (pI h 47 4 (nI t.length)) := (sk_same rfl rfl rfl : Sk _ = Sk h) ▸ k
  simp only [lv_args, z_v, z_lg, z_h, z_u, z_u1, z_c, z_ct, z_sk, sbne, lst1_d, ldel, lst2_d, ldel2, z_sw, z_rok, zi, eq_self, List.map_cons, List.map_nil, List.append_nil, List.nil_append, List.cons_append, Int32.reduceLT, Int32.reduceLE, Int32.reduceAdd, Int32.reduceSub, Int32.reduceMul, Int32.reduceToInt, Int32.reduceToNatClampNeg, Int.reduceLT, Int.reduceLE, Int.reduceNeg, true_and, and_true, or_self, or_false, false_or, false_and, and_false, true_or, or_true, if_true, if_false, ne_eq, Classical.not_not, not_true_eq_false, not_false_eq_true, true_implies, false_implies, implies_true, Nat.reduceEqDiff, Nat.reduceAdd, Nat.reduceLeDiff, Nat.reduceSub, reduceCtorEq, reduceIte, b47_38, skX k, h0]
  refine sp_sts (s := t) kk (by omega) rt hh hy (fun c2 => ?_) (fun c2 => ?_)
  · simp only [lv_args, z_v, z_lg, z_h, z_u, z_u1, z_c, z_ct, z_sk, sbne, lst1_d, ldel, lst2_d, ldel2, z_sw, z_rok, zi, eq_self, List.map_cons, List.map_nil, List.append_nil, List.nil_append, List.cons_append, Int32.reduceLT, Int32.reduceLE, Int32.reduceAdd, Int32.reduceSub, Int32.reduceMul, Int32.reduceToInt, Int32.reduceToNatClampNeg, Int.reduceLT, Int.reduceLE, Int.reduceNeg, true_and, and_true, or_self, or_false, false_or, false_and, and_false, true_or, or_true, if_true, if_false, ne_eq, Classical.not_not, not_true_eq_false, not_false_eq_true, true_implies, false_implies, implies_true, Nat.reduceEqDiff, Nat.reduceAdd, Nat.reduceLeDiff, Nat.reduceSub, reduceCtorEq, reduceIte, b47_38, b47_69, skX k, f.2.2.1, nI_1]
    exact h1 c2
  · obtain ⟨m, m1, m2, m3⟩ := h2 c2
    refine ⟨m, m1, m2, ?_⟩
    simp only [lv_args, z_v, z_lg, z_h, z_u, z_u1, z_c, z_ct, z_sk, sbne, lst1_d, ldel, lst2_d, ldel2, z_sw, z_rok, zi, eq_self, List.map_cons, List.map_nil, List.append_nil, List.nil_append, List.cons_append, Int32.reduceLT, Int32.reduceLE, Int32.reduceAdd, Int32.reduceSub, Int32.reduceMul, Int32.reduceToInt, Int32.reduceToNatClampNeg, Int.reduceLT, Int.reduceLE, Int.reduceNeg, true_and, and_true, or_self, or_false, false_or, false_and, and_false, true_or, or_true, if_true, if_false, ne_eq, Classical.not_not, not_true_eq_false, not_false_eq_true, true_implies, false_implies, implies_true, Nat.reduceEqDiff, Nat.reduceAdd, Nat.reduceLeDiff, Nat.reduceSub, reduceCtorEq, reduceIte, b47_38, b47_69, skX k, f.2.2.1, nI_1]
    exact m3
theorem op_def {t : List Int64} {x : Int64} {g : Nat} (k : Sk h) (hd : 4 < d) (r : RXs cap (t ++ [x]) h) (f : RXf pc ba se bk h) (hh : RXh F ce gc h) (hg : g < 100) (hc : (t ++ [x]).length ≤ cap) (hq : Q none (pI (hPs (pB (pI h 47 4 (nI t.length)) 57 (vp_updL (hB h 57) g x)) t.length 0) 47 7 (nI (pc + 1)))) : aEv d 47 [.ref 47, .int 24, .int (nI g)] h Q := by
  have h0 : 0 < d := by omega
  have h01 : 0 < d - 1 := by omega
  obtain ⟨q1, q2, q3, q4⟩ := rxs_pop r
  obtain ⟨a1, a2, a3, a4, a5⟩ := r
  have hne : ¬ ((24 : Int32) = 22) := by decide
  have hne2 : ¬ ((24 : Int32) = 23) := by decide
  have n100 : (100 : Int32) = nI 100 := rfl
  have n57 : hN h 57 = 100 := hh.2.2.2.2.2.2.1
  have kk : Sk (pI h 47 4 (nI t.length)) := (sk_same rfl rfl rfl : Sk _ = Sk h) ▸ k
  unfold aEv
  simp only [lv_args, z_v, z_lg, z_h, z_u, z_u1, z_c, z_ct, z_sk, sbne, lst1_d, ldel, lst2_d, ldel2, z_sw, z_rok, zi, eq_self, List.map_cons, List.map_nil, List.append_nil, List.nil_append, List.cons_append, Int32.reduceLT, Int32.reduceLE, Int32.reduceAdd, Int32.reduceSub, Int32.reduceMul, Int32.reduceToInt, Int32.reduceToNatClampNeg, Int.reduceLT, Int.reduceLE, Int.reduceNeg, true_and, and_true, or_self, or_false, false_or, false_and, and_false, true_or, or_true, if_true, if_false, ne_eq, Classical.not_not, not_true_eq_false, not_false_eq_true, true_implies, false_implies, implies_true, Nat.reduceEqDiff, Nat.reduceAdd, Nat.reduceLeDiff, Nat.reduceSub, reduceCtorEq, reduceIte, b47_0, b47_32, b47_55, hne, hne2, skX k, h0]
  refine sp_pop k h01 q2 q3 a4 ?_
  rw [q4]
  simp only [lv_args, z_v, z_lg, z_h, z_u, z_u1, z_c, z_ct, z_sk, sbne, lst1_d, ldel, lst2_d, ldel2, z_sw, z_rok, zi, eq_self, List.map_cons, List.map_nil, List.append_nil, List.nil_append, List.cons_append, Int32.reduceLT, Int32.reduceLE, Int32.reduceAdd, Int32.reduceSub, Int32.reduceMul, Int32.reduceToInt, Int32.reduceToNatClampNeg, Int.reduceLT, Int.reduceLE, Int.reduceNeg, true_and, and_true, or_self, or_false, false_or, false_and, and_false, true_or, or_true, if_true, if_false, ne_eq, Classical.not_not, not_true_eq_false, not_false_eq_true, true_implies, false_implies, implies_true, Nat.reduceEqDiff, Nat.reduceAdd, Nat.reduceLeDiff, Nat.reduceSub, reduceCtorEq, reduceIte, b47_55, skX k, h0, e69_47 _ _ kk]
  simp (disch := omega) only [nI_lt0, n100, nI_leN, nI_cl, nI_ti, le0N, ltNN, n57, true_and]
  refine ⟨fun c => c.elim, fun _ => ⟨fun c => absurd c (by omega), fun _ => ⟨by omega, ?_⟩⟩⟩
  try simp only [lv_args, z_v, z_lg, z_h, z_u, z_u1, z_c, z_ct, z_sk, sbne, lst1_d, ldel, lst2_d, ldel2, z_sw, z_rok, zi, eq_self, List.map_cons, List.map_nil, List.append_nil, List.nil_append, List.cons_append, Int32.reduceLT, Int32.reduceLE, Int32.reduceAdd, Int32.reduceSub, Int32.reduceMul, Int32.reduceToInt, Int32.reduceToNatClampNeg, Int.reduceLT, Int.reduceLE, Int.reduceNeg, true_and, and_true, or_self, or_false, false_or, false_and, and_false, true_or, or_true, if_true, if_false, ne_eq, Classical.not_not, not_true_eq_false, not_false_eq_true, true_implies, false_implies, implies_true, Nat.reduceEqDiff, Nat.reduceAdd, Nat.reduceLeDiff, Nat.reduceSub, reduceCtorEq, reduceIte, b47_55, skX k, h0]
  refine sp_push (n := t.length) ((sk_same rfl rfl rfl : Sk _ = Sk h) ▸ k) rfl (show t.length < hN h 53 by omega) a4 ?_
  simp only [lv_args, z_v, z_lg, z_h, z_u, z_u1, z_c, z_ct, z_sk, sbne, lst1_d, ldel, lst2_d, ldel2, z_sw, z_rok, zi, eq_self, List.map_cons, List.map_nil, List.append_nil, List.nil_append, List.cons_append, Int32.reduceLT, Int32.reduceLE, Int32.reduceAdd, Int32.reduceSub, Int32.reduceMul, Int32.reduceToInt, Int32.reduceToNatClampNeg, Int.reduceLT, Int.reduceLE, Int.reduceNeg, true_and, and_true, or_self, or_false, false_or, false_and, and_false, true_or, or_true, if_true, if_false, ne_eq, Classical.not_not, not_true_eq_false, not_false_eq_true, true_implies, false_implies, implies_true, Nat.reduceEqDiff, Nat.reduceAdd, Nat.reduceLeDiff, Nat.reduceSub, reduceCtorEq, reduceIte, b47_55, b47_69, hPs, skX k, f.2.2.1, nI_1]
  exact hq
end COR5
