/-! THE CLASS'S run -/
section COL
variable {h h' : Hp} {Q : Option Value → Hp → Prop} {d : Nat} {G : PG} {p : Nat}
theorem cls_loop (hW : WG G) {r : Nat} {z' : CSt} (hd : 40 ≤ d) (hz0 : z'.2.2.1.1.length ≤ 13000 + 3 * z'.2.2.1.2.1) (hq : ∀ h', RX G p z' h' → Q none (hEn h' r)) : ∀ (n t : Nat) (z : CSt) (h : Hp) (L : ALS), CSs G n z r z' → t + n ≤ 1000000000 → RX G p z h → LX 47 L → lgv L 0 = .ref 47 → lgv L 2 = .int (nI t) → aWP d 76 29 L [] h Q := by
  intro n
  induction n with
  | zero => intro t z h L hc; exact hc.elim
  | succ n ih =>
    intro t z h L hc ht rx lx l0 l2
    rcases hc with ⟨rfl, k, hc⟩ | ⟨k, y, hc, hs⟩
    · refine cls_end hW hc rx hz0 hd (by omega) lx l0 l2 (nx_end ((sk_same rfl rfl rfl : Sk _ = Sk h) ▸ rx.1.1) rfl (by omega) (hq h rx))
    · refine cls_step hW hc rx hd (by omega) lx l0 l2 fun h' rx' L' lx' l0' l2' => ?_
      exact ih (t + 1) y h' L' hs (by omega) rx' lx' l0' l2'
/-- the machine between runs -/
def RW (G : PG) (p : Nat) (z : CSt) (h : Hp) : Prop := SX G p h ∧ RXs z.2.1.2.2.2 z.1.2 h ∧ RXf z.1.1 z.2.1.1 z.2.1.2.1 z.2.1.2.2.1 h ∧ RXh z.2.2.1.1 z.2.2.1.2.1 z.2.2.1.2.2 h ∧ (hI h 47 18 = nI z.2.2.2.2.2.1 ∧ hI h 47 16 = nI z.2.2.2.2.2.2.1 ∧ hL h 47 17 = z.2.2.2.2.2.2.2.1) ∧ RXp z.2.2.2.1 z.2.2.2.2.1 h
theorem rw_x {pc : Nat} {s : List Int64} {E : Nat × Int32 × List BK × Nat} {H : List Int64 × Nat × List Int64} {inp out : List Int32} {th st lf n : Nat} {lt : Int64} (r : RW G p ((pc, s), E, H, (inp, out, th, st, lt, lf)) h) (hn : n ≤ 20000) : RX G p ((pc, s), E, H, (inp, out, th, st, lt, n)) (pI (pI h 47 15 (nI n)) 47 14 1) := by
  obtain ⟨r1, r2, r3, r4, ⟨r5, r6, r7⟩, r8⟩ := r
  exact ⟨sx_I (by decide) (sx_I (by decide) r1), rfl, r2, r3, r4, ⟨r5, r6, r7, rfl, hn⟩, r8⟩
theorem rx_w {z : CSt} {n : Nat} (r : RX G p z h) : RW G p z (hEn h n) := by
  obtain ⟨r1, r2, r3, r4, r5, ⟨d1, d2, d3, d4, d5⟩, r7⟩ := r
  exact ⟨sx_I (by decide) (sx_I (by decide) r1), r3, r4, r5, ⟨d1, d2, d3⟩, r7⟩
theorem sp_work (hW : WG G) {pc : Nat} {s : List Int64} {E : Nat × Int32 × List BK × Nat} {H : List Int64 × Nat × List Int64} {inp out : List Int32} {th st lf n m r : Nat} {lt : Int64} {z' : CSt} (hd : 41 ≤ d) (w : RW G p ((pc, s), E, H, (inp, out, th, st, lt, lf)) h) (hn : n ≤ 20000) (ha : hI h 47 13 ≠ 0 ∧ hI h 47 13 < 10) (hc : CSs G m ((pc, s), E, H, (inp, out, th, st, lt, n)) r z') (hm : m ≤ 1000000000) (hz0 : z'.2.2.1.1.length ≤ 13000 + 3 * z'.2.2.1.2.1) (hq : ∀ h', RX G p z' h' → Q none (hEn h' r)) : aEv d 76 [.ref 47, .int (nI n)] h Q := by
  have k := w.1.1
  have c1 : ¬ hI h 47 13 = 0 := ha.1
  have c2 : hI h 47 13 < 10 := ha.2
  unfold aEv
  simp only [lv_args, z_v, z_lg, z_h, z_u, z_u1, z_c, z_ct, z_sk, sbne, lst1_d, ldel, lst2_d, ldel2, z_sw, z_rok, zi, eq_self, List.map_cons, List.map_nil, List.append_nil, List.nil_append, List.cons_append, Int32.reduceLT, Int32.reduceLE, Int32.reduceAdd, Int32.reduceSub, Int32.reduceMul, Int32.reduceToInt, Int32.reduceToNatClampNeg, Int.reduceLT, Int.reduceLE, Int.reduceNeg, true_and, and_true, or_self, or_false, false_or, false_and, and_false, true_or, or_true, if_true, if_false, ne_eq, Classical.not_not, not_true_eq_false, not_false_eq_true, true_implies, false_implies, implies_true, Nat.reduceEqDiff, Nat.reduceAdd, Nat.reduceLeDiff, Nat.reduceSub, reduceCtorEq, reduceIte, b76_0, skX k, c1]
  simp only [lv_args, z_v, z_lg, z_h, z_u, z_u1, z_c, z_ct, z_sk, sbne, lst1_d, ldel, lst2_d, ldel2, z_sw, z_rok, zi, eq_self, List.map_cons, List.map_nil, List.append_nil, List.nil_append, List.cons_append, Int32.reduceLT, Int32.reduceLE, Int32.reduceAdd, Int32.reduceSub, Int32.reduceMul, Int32.reduceToInt, Int32.reduceToNatClampNeg, Int.reduceLT, Int.reduceLE, Int.reduceNeg, true_and, and_true, or_self, or_false, false_or, false_and, and_false, true_or, or_true, if_true, if_false, ne_eq, Classical.not_not, not_true_eq_false, not_false_eq_true, true_implies, false_implies, implies_true, Nat.reduceEqDiff, Nat.reduceAdd, Nat.reduceLeDiff, Nat.reduceSub, reduceCtorEq, reduceIte, b76_7, skX k, c2]
  simp only [lv_args, z_v, z_lg, z_h, z_u, z_u1, z_c, z_ct, z_sk, sbne, z_rok, zi, eq_self, List.map_cons, List.map_nil, List.append_nil, List.nil_append, List.cons_append, Int32.reduceLT, Int32.reduceLE, Int32.reduceAdd, Int32.reduceSub, Int32.reduceMul, Int32.reduceToInt, Int32.reduceToNatClampNeg, Int.reduceLT, Int.reduceLE, Int.reduceNeg, true_and, and_true, or_self, or_false, false_or, false_and, and_false, true_or, or_true, if_true, if_false, ne_eq, Classical.not_not, not_true_eq_false, not_false_eq_true, true_implies, false_implies, implies_true, Nat.reduceEqDiff, Nat.reduceAdd, Nat.reduceLeDiff, Nat.reduceSub, reduceCtorEq, reduceIte, b76_17, skX k]
  refine cls_loop (d := d) hW (show 40 ≤ d by omega) hz0 hq m 0 _ _ _ hc (by omega) (rw_x w hn) ?_ ?_ ?_
  · refine lx_st (fun q hq => ?_)
    simp only [lv_args, List.mem_cons, List.not_mem_nil, or_false] at hq
    rcases hq with rfl | rfl
    · exact Or.inl rfl
    · exact Or.inr ⟨_, rfl⟩
  · rfl
  · rfl
/-- a run that is refused, one that has ended before, and one that is worked -/
theorem sp_runX {n : Int32} (k : Sk h) (hd : 2 ≤ d) (h1 : hI h 0 8 = 0 ∨ n < 0 ∨ 20000 < n → Q (some (.int (-1))) h) (h2 : hI h 0 8 ≠ 0 → ¬ n < 0 → ¬ 20000 < n → aEv (d - 1) 76 [.ref 47, .int n] h (fun r h' => r = none ∧ Sk h' ∧ Q (some (.int (hI h' 47 13))) (pL h' 0 9 (hL h' 47 17)))) : aEv d 175 [.ref 0, .int n] h Q := by
  have h0 : 0 < d := by omega
  unfold aEv
  simp only [lv_args, z_v, z_lg, z_h, z_u, z_u1, z_c, z_ct, z_sk, sbne, lst1_d, ldel, lst2_d, ldel2, z_sw, z_rok, zi, eq_self, List.map_cons, List.map_nil, List.append_nil, List.nil_append, List.cons_append, Int32.reduceLT, Int32.reduceLE, Int32.reduceAdd, Int32.reduceSub, Int32.reduceMul, Int32.reduceToInt, Int32.reduceToNatClampNeg, Int.reduceLT, Int.reduceLE, Int.reduceNeg, true_and, and_true, or_self, or_false, false_or, false_and, and_false, true_or, or_true, if_true, if_false, ne_eq, Classical.not_not, not_true_eq_false, not_false_eq_true, true_implies, false_implies, implies_true, Nat.reduceEqDiff, Nat.reduceAdd, Nat.reduceLeDiff, Nat.reduceSub, reduceCtorEq, reduceIte, b175_0, skX k]
  refine ⟨fun c => ?_, fun c => ?_⟩
  · simp only [lv_args, z_v, z_lg, z_h, z_u, z_u1, z_c, z_ct, z_sk, sbne, lst1_d, ldel, lst2_d, ldel2, z_sw, z_rok, zi, eq_self, List.map_cons, List.map_nil, List.append_nil, List.nil_append, List.cons_append, Int32.reduceLT, Int32.reduceLE, Int32.reduceAdd, Int32.reduceSub, Int32.reduceMul, Int32.reduceToInt, Int32.reduceToNatClampNeg, Int.reduceLT, Int.reduceLE, Int.reduceNeg, true_and, and_true, or_self, or_false, false_or, false_and, and_false, true_or, or_true, if_true, if_false, ne_eq, Classical.not_not, not_true_eq_false, not_false_eq_true, true_implies, false_implies, implies_true, Nat.reduceEqDiff, Nat.reduceAdd, Nat.reduceLeDiff, Nat.reduceSub, reduceCtorEq, reduceIte, b175_18]
    exact h1 (Or.inl c)
  · simp only [lv_args, z_v, z_lg, z_h, z_u, z_u1, z_c, z_ct, z_sk, sbne, lst1_d, ldel, lst2_d, ldel2, z_sw, z_rok, zi, eq_self, List.map_cons, List.map_nil, List.append_nil, List.nil_append, List.cons_append, Int32.reduceLT, Int32.reduceLE, Int32.reduceAdd, Int32.reduceSub, Int32.reduceMul, Int32.reduceToInt, Int32.reduceToNatClampNeg, Int.reduceLT, Int.reduceLE, Int.reduceNeg, true_and, and_true, or_self, or_false, false_or, false_and, and_false, true_or, or_true, if_true, if_false, ne_eq, Classical.not_not, not_true_eq_false, not_false_eq_true, true_implies, false_implies, implies_true, Nat.reduceEqDiff, Nat.reduceAdd, Nat.reduceLeDiff, Nat.reduceSub, reduceCtorEq, reduceIte, b175_7]
    refine ⟨fun c2 => ?_, fun c2 => ?_⟩
    · simp only [lv_args, z_v, z_lg, z_h, z_u, z_u1, z_c, z_ct, z_sk, sbne, lst1_d, ldel, lst2_d, ldel2, z_sw, z_rok, zi, eq_self, List.map_cons, List.map_nil, List.append_nil, List.nil_append, List.cons_append, Int32.reduceLT, Int32.reduceLE, Int32.reduceAdd, Int32.reduceSub, Int32.reduceMul, Int32.reduceToInt, Int32.reduceToNatClampNeg, Int.reduceLT, Int.reduceLE, Int.reduceNeg, true_and, and_true, or_self, or_false, false_or, false_and, and_false, true_or, or_true, if_true, if_false, ne_eq, Classical.not_not, not_true_eq_false, not_false_eq_true, true_implies, false_implies, implies_true, Nat.reduceEqDiff, Nat.reduceAdd, Nat.reduceLeDiff, Nat.reduceSub, reduceCtorEq, reduceIte, b175_18]
      exact h1 (Or.inr (Or.inl c2))
    · simp only [lv_args, z_v, z_lg, z_h, z_u, z_u1, z_c, z_ct, z_sk, sbne, lst1_d, ldel, lst2_d, ldel2, z_sw, z_rok, zi, eq_self, List.map_cons, List.map_nil, List.append_nil, List.nil_append, List.cons_append, Int32.reduceLT, Int32.reduceLE, Int32.reduceAdd, Int32.reduceSub, Int32.reduceMul, Int32.reduceToInt, Int32.reduceToNatClampNeg, Int.reduceLT, Int.reduceLE, Int.reduceNeg, true_and, and_true, or_self, or_false, false_or, false_and, and_false, true_or, or_true, if_true, if_false, ne_eq, Classical.not_not, not_true_eq_false, not_false_eq_true, true_implies, false_implies, implies_true, Nat.reduceEqDiff, Nat.reduceAdd, Nat.reduceLeDiff, Nat.reduceSub, reduceCtorEq, reduceIte, b175_11]
      refine ⟨fun c3 => ?_, fun c3 => ?_⟩
      · simp only [lv_args, z_v, z_lg, z_h, z_u, z_u1, z_c, z_ct, z_sk, sbne, lst1_d, ldel, lst2_d, ldel2, z_sw, z_rok, zi, eq_self, List.map_cons, List.map_nil, List.append_nil, List.nil_append, List.cons_append, Int32.reduceLT, Int32.reduceLE, Int32.reduceAdd, Int32.reduceSub, Int32.reduceMul, Int32.reduceToInt, Int32.reduceToNatClampNeg, Int.reduceLT, Int.reduceLE, Int.reduceNeg, true_and, and_true, or_self, or_false, false_or, false_and, and_false, true_or, or_true, if_true, if_false, ne_eq, Classical.not_not, not_true_eq_false, not_false_eq_true, true_implies, false_implies, implies_true, Nat.reduceEqDiff, Nat.reduceAdd, Nat.reduceLeDiff, Nat.reduceSub, reduceCtorEq, reduceIte, b175_20, skX k, srX k, h0]
        refine aEv_mono (h2 c c2 (fun q => ?_)) ?_
        · rw [Int32.lt_iff_toInt_lt] at q
          rw [Int32.le_iff_toInt_le] at c3
          omega
        · rintro r h' ⟨rfl, k', q⟩
          simp only [lv_args, z_v, z_lg, z_h, z_u, z_u1, z_c, z_ct, z_sk, sbne, lst1_d, ldel, lst2_d, ldel2, z_sw, z_rok, zi, eq_self, List.map_cons, List.map_nil, List.append_nil, List.nil_append, List.cons_append, Int32.reduceLT, Int32.reduceLE, Int32.reduceAdd, Int32.reduceSub, Int32.reduceMul, Int32.reduceToInt, Int32.reduceToNatClampNeg, Int.reduceLT, Int.reduceLE, Int.reduceNeg, true_and, and_true, or_self, or_false, false_or, false_and, and_false, true_or, or_true, if_true, if_false, ne_eq, Classical.not_not, not_true_eq_false, not_false_eq_true, true_implies, false_implies, implies_true, Nat.reduceEqDiff, Nat.reduceAdd, Nat.reduceLeDiff, Nat.reduceSub, reduceCtorEq, reduceIte, b175_20, skX k, skX k', srX k', Nat.reduceLT]
          exact q
      · simp only [lv_args, z_v, z_lg, z_h, z_u, z_u1, z_c, z_ct, z_sk, sbne, lst1_d, ldel, lst2_d, ldel2, z_sw, z_rok, zi, eq_self, List.map_cons, List.map_nil, List.append_nil, List.nil_append, List.cons_append, Int32.reduceLT, Int32.reduceLE, Int32.reduceAdd, Int32.reduceSub, Int32.reduceMul, Int32.reduceToInt, Int32.reduceToNatClampNeg, Int.reduceLT, Int.reduceLE, Int.reduceNeg, true_and, and_true, or_self, or_false, false_or, false_and, and_false, true_or, or_true, if_true, if_false, ne_eq, Classical.not_not, not_true_eq_false, not_false_eq_true, true_implies, false_implies, implies_true, Nat.reduceEqDiff, Nat.reduceAdd, Nat.reduceLeDiff, Nat.reduceSub, reduceCtorEq, reduceIte, b175_18]
        refine h1 (Or.inr (Or.inr ?_))
        exact Int32.not_le.mp c3
theorem sp_workE (k : Sk h) (ha : hI h 47 13 = 0 ∨ ¬ hI h 47 13 < 10) {n : Int32} (hq : Q none h) : aEv d 76 [.ref 47, .int n] h Q := by
  unfold aEv
  rcases ha with e | e
  · simp only [lv_args, z_v, z_lg, z_h, z_u, z_u1, z_c, z_ct, z_sk, sbne, lst1_d, ldel, lst2_d, ldel2, z_sw, z_rok, zi, eq_self, List.map_cons, List.map_nil, List.append_nil, List.nil_append, List.cons_append, Int32.reduceLT, Int32.reduceLE, Int32.reduceAdd, Int32.reduceSub, Int32.reduceMul, Int32.reduceToInt, Int32.reduceToNatClampNeg, Int.reduceLT, Int.reduceLE, Int.reduceNeg, true_and, and_true, or_self, or_false, false_or, false_and, and_false, true_or, or_true, if_true, if_false, ne_eq, Classical.not_not, not_true_eq_false, not_false_eq_true, true_implies, false_implies, implies_true, Nat.reduceEqDiff, Nat.reduceAdd, Nat.reduceLeDiff, Nat.reduceSub, reduceCtorEq, reduceIte, b76_0, b76_16, skX k, e]
    exact hq
  · simp only [lv_args, z_v, z_lg, z_h, z_u, z_u1, z_c, z_ct, z_sk, sbne, lst1_d, ldel, lst2_d, ldel2, z_sw, z_rok, zi, eq_self, List.map_cons, List.map_nil, List.append_nil, List.nil_append, List.cons_append, Int32.reduceLT, Int32.reduceLE, Int32.reduceAdd, Int32.reduceSub, Int32.reduceMul, Int32.reduceToInt, Int32.reduceToNatClampNeg, Int.reduceLT, Int.reduceLE, Int.reduceNeg, true_and, and_true, or_self, or_false, false_or, false_and, and_false, true_or, or_true, if_true, if_false, ne_eq, Classical.not_not, not_true_eq_false, not_false_eq_true, true_implies, false_implies, implies_true, Nat.reduceEqDiff, Nat.reduceAdd, Nat.reduceLeDiff, Nat.reduceSub, reduceCtorEq, reduceIte, b76_0, skX k]
    refine ⟨fun _ => ?_, fun c => ?_⟩
    · simp only [lv_args, z_v, z_lg, z_h, z_u, z_u1, z_c, z_ct, z_sk, sbne, lst1_d, ldel, lst2_d, ldel2, z_sw, z_rok, zi, eq_self, List.map_cons, List.map_nil, List.append_nil, List.nil_append, List.cons_append, Int32.reduceLT, Int32.reduceLE, Int32.reduceAdd, Int32.reduceSub, Int32.reduceMul, Int32.reduceToInt, Int32.reduceToNatClampNeg, Int.reduceLT, Int.reduceLE, Int.reduceNeg, true_and, and_true, or_self, or_false, false_or, false_and, and_false, true_or, or_true, if_true, if_false, ne_eq, Classical.not_not, not_true_eq_false, not_false_eq_true, true_implies, false_implies, implies_true, Nat.reduceEqDiff, Nat.reduceAdd, Nat.reduceLeDiff, Nat.reduceSub, reduceCtorEq, reduceIte, b76_16]
      exact hq
    · simp only [lv_args, z_v, z_lg, z_h, z_u, z_u1, z_c, z_ct, z_sk, sbne, lst1_d, ldel, lst2_d, ldel2, z_sw, z_rok, zi, eq_self, List.map_cons, List.map_nil, List.append_nil, List.nil_append, List.cons_append, Int32.reduceLT, Int32.reduceLE, Int32.reduceAdd, Int32.reduceSub, Int32.reduceMul, Int32.reduceToInt, Int32.reduceToNatClampNeg, Int.reduceLT, Int.reduceLE, Int.reduceNeg, true_and, and_true, or_self, or_false, false_or, false_and, and_false, true_or, or_true, if_true, if_false, ne_eq, Classical.not_not, not_true_eq_false, not_false_eq_true, true_implies, false_implies, implies_true, Nat.reduceEqDiff, Nat.reduceAdd, Nat.reduceLeDiff, Nat.reduceSub, reduceCtorEq, reduceIte, b76_7, b76_16, skX k, e]
      exact hq
end COL
