/-! the reference's loop; forms that are one value -/
section REE
variable {h h' : Hp} {Q : Option Value → Hp → Prop} {d : Nat} {G : PG} {q : Nat} {qv : Nat → Int64} {r n : Nat} {td : List TD} {z : RSt} {N : Int32}
def LR (N : Int32) : ALS := [(0, .ref 59), (1, .int N)]
/-- behind works and goesOn: an error ends the run -/
def PR (d : Nat) (N : Int32) (Q : Option Value → Hp → Prop) (r : Option Value) (h1 : Hp) : Prop := r = none ∧ Sk h1 ∧ (hI h1 59 68 = 0 → aWP d 257 35 (LR N) [] h1 Q) ∧ (∀ e, 0 < e → e < 8 → hI h1 59 68 = nI e → aWP d 257 35 (LR N) [] (pI h1 59 69 (nI (10 + e))) Q) ∧ (hI h1 59 68 = 0 ∨ ∃ e, 0 < e ∧ e < 8 ∧ hI h1 59 68 = nI e)
theorem pr_72 {h1 : Hp} (p : PR d N Q none h1) : aWP d 257 72 (LR N) [] h1 Q := by
  obtain ⟨_, s, p1, p2, p3⟩ := p
  have z0 : (0 : Int32) = nI 0 := rfl
  unfold LR at p1 p2 ⊢
  rcases p3 with e | ⟨e, e1, e2, e3⟩
  · have c0 : ((0 : Int32) ≤ 0) = True := eq_true (by decide)
    simp only [lv_args, z_v, z_lg, z_h, z_u, z_u1, z_c, z_ct, z_sk, sbne, lst1_d, ldel, lst2_d, ldel2, z_sw, z_rok, zi, eq_self, List.map_cons, List.map_nil, List.append_nil, List.nil_append, List.cons_append, Int32.reduceLT, Int32.reduceLE, Int32.reduceAdd, Int32.reduceSub, Int32.reduceMul, Int32.reduceToInt, Int32.reduceToNatClampNeg, Int.reduceLT, Int.reduceLE, Int.reduceNeg, true_and, and_true, or_self, or_false, false_or, false_and, and_false, true_or, or_true, if_true, if_false, ne_eq, Classical.not_not, not_true_eq_false, not_false_eq_true, true_implies, false_implies, implies_true, Nat.reduceEqDiff, Nat.reduceAdd, Nat.reduceLeDiff, Nat.reduceSub, reduceCtorEq, reduceIte, b257_72, skM s, e, c0]
    exact p1 e
  · have c0 : (nI e ≤ 0) = False := by rw [le_0N (by omega)]; exact eq_false (by omega)
    simp only [lv_args, z_v, z_lg, z_h, z_u, z_u1, z_c, z_ct, z_sk, sbne, lst1_d, ldel, lst2_d, ldel2, z_sw, z_rok, zi, eq_self, List.map_cons, List.map_nil, List.append_nil, List.nil_append, List.cons_append, Int32.reduceLT, Int32.reduceLE, Int32.reduceAdd, Int32.reduceSub, Int32.reduceMul, Int32.reduceToInt, Int32.reduceToNatClampNeg, Int.reduceLT, Int.reduceLE, Int.reduceNeg, true_and, and_true, or_self, or_false, false_or, false_and, and_false, true_or, or_true, if_true, if_false, ne_eq, Classical.not_not, not_true_eq_false, not_false_eq_true, true_implies, false_implies, implies_true, Nat.reduceEqDiff, Nat.reduceAdd, Nat.reduceLeDiff, Nat.reduceSub, reduceCtorEq, reduceIte, b257_72, skM s, e3, c0]
    have n10 : (10 : Int32) = nI 10 := rfl
    simp only [lv_args, z_v, z_lg, z_h, z_u, z_u1, z_c, z_ct, z_sk, sbne, lst1_d, ldel, lst2_d, ldel2, z_sw, z_rok, zi, eq_self, List.map_cons, List.map_nil, List.append_nil, List.nil_append, List.cons_append, Int32.reduceLT, Int32.reduceLE, Int32.reduceAdd, Int32.reduceSub, Int32.reduceMul, Int32.reduceToInt, Int32.reduceToNatClampNeg, Int.reduceLT, Int.reduceLE, Int.reduceNeg, true_and, and_true, or_self, or_false, false_or, false_and, and_false, true_or, or_true, if_true, if_false, ne_eq, Classical.not_not, not_true_eq_false, not_false_eq_true, true_implies, false_implies, implies_true, Nat.reduceEqDiff, Nat.reduceAdd, Nat.reduceLeDiff, Nat.reduceSub, reduceCtorEq, reduceIte, b257_79, skM s, e3, n10, nI_add]
    exact p2 e e1 e2 e3
theorem rl_F (s : Sk h) (hd : 1 < d) (e1 : hI h 59 69 = -1) (e2 : hI h 59 71 = 0) (e3 : hI h 59 66 = 0) (hq : aEv (d - 1) 276 [.ref 59, .int (hI h 59 67)] h (PR d N Q)) : aWP d 257 35 (LR N) [] h Q := by
  have h0 : 0 < d := by omega
  unfold LR
  simp only [lv_args, z_v, z_lg, z_h, z_u, z_u1, z_c, z_ct, z_sk, sbne, lst1_d, ldel, lst2_d, ldel2, z_sw, z_rok, zi, eq_self, List.map_cons, List.map_nil, List.append_nil, List.nil_append, List.cons_append, Int32.reduceLT, Int32.reduceLE, Int32.reduceAdd, Int32.reduceSub, Int32.reduceMul, Int32.reduceToInt, Int32.reduceToNatClampNeg, Int.reduceLT, Int.reduceLE, Int.reduceNeg, true_and, and_true, or_self, or_false, false_or, false_and, and_false, true_or, or_true, if_true, if_false, ne_eq, Classical.not_not, not_true_eq_false, not_false_eq_true, true_implies, false_implies, implies_true, Nat.reduceEqDiff, Nat.reduceAdd, Nat.reduceLeDiff, Nat.reduceSub, reduceCtorEq, reduceIte, b257_35, skM s, e1]
  simp only [lv_args, z_v, z_lg, z_h, z_u, z_u1, z_c, z_ct, z_sk, sbne, lst1_d, ldel, lst2_d, ldel2, z_sw, z_rok, zi, eq_self, List.map_cons, List.map_nil, List.append_nil, List.nil_append, List.cons_append, Int32.reduceLT, Int32.reduceLE, Int32.reduceAdd, Int32.reduceSub, Int32.reduceMul, Int32.reduceToInt, Int32.reduceToNatClampNeg, Int.reduceLT, Int.reduceLE, Int.reduceNeg, true_and, and_true, or_self, or_false, false_or, false_and, and_false, true_or, or_true, if_true, if_false, ne_eq, Classical.not_not, not_true_eq_false, not_false_eq_true, true_implies, false_implies, implies_true, Nat.reduceEqDiff, Nat.reduceAdd, Nat.reduceLeDiff, Nat.reduceSub, reduceCtorEq, reduceIte, b257_43, skM s, e2]
  simp only [lv_args, z_v, z_lg, z_h, z_u, z_u1, z_c, z_ct, z_sk, sbne, lst1_d, ldel, lst2_d, ldel2, z_sw, z_rok, zi, eq_self, List.map_cons, List.map_nil, List.append_nil, List.nil_append, List.cons_append, Int32.reduceLT, Int32.reduceLE, Int32.reduceAdd, Int32.reduceSub, Int32.reduceMul, Int32.reduceToInt, Int32.reduceToNatClampNeg, Int.reduceLT, Int.reduceLE, Int.reduceNeg, true_and, and_true, or_self, or_false, false_or, false_and, and_false, true_or, or_true, if_true, if_false, ne_eq, Classical.not_not, not_true_eq_false, not_false_eq_true, true_implies, false_implies, implies_true, Nat.reduceEqDiff, Nat.reduceAdd, Nat.reduceLeDiff, Nat.reduceSub, reduceCtorEq, reduceIte, b257_50, b257_64, skM s, e3, h0]
  refine aEv_mono hq ?_
  rintro r h1 p
  obtain ⟨rfl, p'⟩ := id p
  have := pr_72 p
  unfold LR at this
  simp only [lv_args, z_v, z_lg, z_h, z_u, z_u1, z_c, z_ct, z_sk, sbne, lst1_d, ldel, lst2_d, ldel2, z_sw, z_rok, zi, eq_self, List.map_cons, List.map_nil, List.append_nil, List.nil_append, List.cons_append, Int32.reduceLT, Int32.reduceLE, Int32.reduceAdd, Int32.reduceSub, Int32.reduceMul, Int32.reduceToInt, Int32.reduceToNatClampNeg, Int.reduceLT, Int.reduceLE, Int.reduceNeg, true_and, and_true, or_self, or_false, false_or, false_and, and_false, true_or, or_true, if_true, if_false, ne_eq, Classical.not_not, not_true_eq_false, not_false_eq_true, true_implies, false_implies, implies_true, Nat.reduceEqDiff, Nat.reduceAdd, Nat.reduceLeDiff, Nat.reduceSub, reduceCtorEq, reduceIte, b257_64, skM s, Nat.reduceLT]
  exact this
theorem rl_V (s : Sk h) (hd : 1 < d) (e1 : hI h 59 69 = -1) (e2 : hI h 59 71 = 0) (e3 : hI h 59 66 = 1) (hq : aEv (d - 1) 213 [.ref 59] h (PR d N Q)) : aWP d 257 35 (LR N) [] h Q := by
  have h0 : 0 < d := by omega
  have z10 : ¬ (1 : Int32) = 0 := by decide
  unfold LR
  simp only [lv_args, z_v, z_lg, z_h, z_u, z_u1, z_c, z_ct, z_sk, sbne, lst1_d, ldel, lst2_d, ldel2, z_sw, z_rok, zi, eq_self, List.map_cons, List.map_nil, List.append_nil, List.nil_append, List.cons_append, Int32.reduceLT, Int32.reduceLE, Int32.reduceAdd, Int32.reduceSub, Int32.reduceMul, Int32.reduceToInt, Int32.reduceToNatClampNeg, Int.reduceLT, Int.reduceLE, Int.reduceNeg, true_and, and_true, or_self, or_false, false_or, false_and, and_false, true_or, or_true, if_true, if_false, ne_eq, Classical.not_not, not_true_eq_false, not_false_eq_true, true_implies, false_implies, implies_true, Nat.reduceEqDiff, Nat.reduceAdd, Nat.reduceLeDiff, Nat.reduceSub, reduceCtorEq, reduceIte, b257_35, skM s, e1]
  simp only [lv_args, z_v, z_lg, z_h, z_u, z_u1, z_c, z_ct, z_sk, sbne, lst1_d, ldel, lst2_d, ldel2, z_sw, z_rok, zi, eq_self, List.map_cons, List.map_nil, List.append_nil, List.nil_append, List.cons_append, Int32.reduceLT, Int32.reduceLE, Int32.reduceAdd, Int32.reduceSub, Int32.reduceMul, Int32.reduceToInt, Int32.reduceToNatClampNeg, Int.reduceLT, Int.reduceLE, Int.reduceNeg, true_and, and_true, or_self, or_false, false_or, false_and, and_false, true_or, or_true, if_true, if_false, ne_eq, Classical.not_not, not_true_eq_false, not_false_eq_true, true_implies, false_implies, implies_true, Nat.reduceEqDiff, Nat.reduceAdd, Nat.reduceLeDiff, Nat.reduceSub, reduceCtorEq, reduceIte, b257_43, skM s, e2]
  simp only [lv_args, z_v, z_lg, z_h, z_u, z_u1, z_c, z_ct, z_sk, sbne, lst1_d, ldel, lst2_d, ldel2, z_sw, z_rok, zi, eq_self, List.map_cons, List.map_nil, List.append_nil, List.nil_append, List.cons_append, Int32.reduceLT, Int32.reduceLE, Int32.reduceAdd, Int32.reduceSub, Int32.reduceMul, Int32.reduceToInt, Int32.reduceToNatClampNeg, Int.reduceLT, Int.reduceLE, Int.reduceNeg, true_and, and_true, or_self, or_false, false_or, false_and, and_false, true_or, or_true, if_true, if_false, ne_eq, Classical.not_not, not_true_eq_false, not_false_eq_true, true_implies, false_implies, implies_true, Nat.reduceEqDiff, Nat.reduceAdd, Nat.reduceLeDiff, Nat.reduceSub, reduceCtorEq, reduceIte, b257_50, b257_57, skM s, e3, h0, z10]
  refine aEv_mono hq ?_
  rintro r h1 p
  obtain ⟨rfl, p'⟩ := id p
  have := pr_72 p
  unfold LR at this
  simp only [lv_args, z_v, z_lg, z_h, z_u, z_u1, z_c, z_ct, z_sk, sbne, lst1_d, ldel, lst2_d, ldel2, z_sw, z_rok, zi, eq_self, List.map_cons, List.map_nil, List.append_nil, List.nil_append, List.cons_append, Int32.reduceLT, Int32.reduceLE, Int32.reduceAdd, Int32.reduceSub, Int32.reduceMul, Int32.reduceToInt, Int32.reduceToNatClampNeg, Int.reduceLT, Int.reduceLE, Int.reduceNeg, true_and, and_true, or_self, or_false, false_or, false_and, and_false, true_or, or_true, if_true, if_false, ne_eq, Classical.not_not, not_true_eq_false, not_false_eq_true, true_implies, false_implies, implies_true, Nat.reduceEqDiff, Nat.reduceAdd, Nat.reduceLeDiff, Nat.reduceSub, reduceCtorEq, reduceIte, b257_57, skM s, Nat.reduceLT]
  exact this
/-- a value is there -/
theorem rm_is {md : Option Nat} {nw v : Int64} {wk : List Int64} {X : (List Nat × Nat × Option Nat) × (List Int64 × List (Nat × List Nat) × List (Int64 × Int64) × Nat × List Int64) × (List Int32 × List Int32 × Nat × Nat × Nat × Int64 × Nat)} (r : RM G q qv ((md, nw, td, wk), X) h) : RM G q qv ((none, v, td, wk), X) (pI (pL h 59 65 v) 59 66 1) := by
  obtain ⟨r1, r2, r3, r4, r5, r6, r7, r8, r9, r10, r11⟩ := r
  exact ⟨sm_I (sm_L r1), ⟨rfl, Or.inr ⟨rfl, rfl⟩⟩, r3, r4, r5, r6, r7, r8, r9, r10, r11⟩
/-- a form is to be worked -/
theorem rm_form {md : Option Nat} {nw : Int64} {wk : List Int64} {X : (List Nat × Nat × Option Nat) × (List Int64 × List (Nat × List Nat) × List (Int64 × Int64) × Nat × List Int64) × (List Int32 × List Int32 × Nat × Nat × Nat × Int64 × Nat)} {a : Nat} (r : RM G q qv ((md, nw, td, wk), X) h) : RM G q qv ((some a, nw, td, wk), X) (pI (pI h 59 67 (nI a)) 59 66 0) := by
  obtain ⟨r1, r2, r3, r4, r5, r6, r7, r8, r9, r10, r11⟩ := r
  exact ⟨sm_I (sm_I r1), ⟨r2.1, Or.inl ⟨a, rfl, rfl, rfl⟩⟩, r3, r4, r5, r6, r7, r8, r9, r10, r11⟩
/-- on, with no error -/
theorem pr_ok {z' : RSt} {h1 : Hp} (r : RM G q qv z' h1) (hq : ∀ h', RM G q qv z' h' → aWP d 257 35 (LR N) [] h' Q) : PR d N Q none h1 := by
  have e := r.2.2.2.2.2.2.2.2.1
  refine ⟨rfl, r.1.1, fun _ => hq h1 r, fun e' p1 p2 p3 => ?_, Or.inl e⟩
  rw [e] at p3
  have := nI_inj (a := 0) (b := e') (by omega) (by omega) p3
  omega
theorem e269v {a b : Int32} : aEv d 269 [.int a, .int b] h Q ↔ Q (some (.long (vof a b))) h := e269 d h a b Q
/-- the kind of a node leads works -/
theorem wk_kd {n : Nat} (S : SM G q qv h) (hn : n < pNn G) (hd : 0 < d) {t : Nat} (ht : swL [(0, 40), (1, 58), (2, 58), (3, 84)] (G.1 21 n) 112 = t) (hq : aWP d 276 t [(0, .ref 59), (1, .int (nI n))] [] h Q) : aEv d 276 [.ref 59, .int (nI n)] h Q := by
  have s := S.1
  have P := S.2.2.2.1
  have r17 := S.2.2.2.2.1
  obtain ⟨⟨k0, k1, k2, k4, k5, _⟩, r7, r8, r10, r11, _⟩ := prf s P.1
  obtain ⟨p1, p2, p3⟩ := pm_n P (j := 1) (by decide) (by decide) hn
  have p2 : hA h (q + 1) n = G.1 21 n := p2
  unfold aEv
  simp only [lv_args, z_v, z_lg, z_h, z_u, z_u1, z_c, z_ct, z_sk, sbne, lst1_d, ldel, lst2_d, ldel2, z_rok, zi, eq_self, List.map_cons, List.map_nil, List.append_nil, List.nil_append, List.cons_append, Int32.reduceLT, Int32.reduceLE, Int32.reduceAdd, Int32.reduceSub, Int32.reduceMul, Int32.reduceToInt, Int32.reduceToNatClampNeg, Int.reduceLT, Int.reduceLE, Int.reduceNeg, true_and, and_true, or_self, or_false, false_or, false_and, and_false, true_or, or_true, if_true, if_false, ne_eq, Classical.not_not, not_true_eq_false, not_false_eq_true, true_implies, false_implies, implies_true, Nat.reduceEqDiff, Nat.reduceAdd, Nat.reduceLeDiff, Nat.reduceSub, reduceCtorEq, reduceIte, b276_0, skM s, r17, k0, r7, k1]
  simp (disch := omega) only [nI_ti, nI_cl, le0N, ltNN, p1, p2, true_and]
  refine ⟨p3, ?_⟩
  try simp only [lv_args, z_v, z_lg, z_h, z_u, z_u1, z_c, z_ct, z_sk, sbne, lst1_d, ldel, lst2_d, ldel2, z_rok, zi, eq_self, List.map_cons, List.map_nil, List.append_nil, List.nil_append, List.cons_append, Int32.reduceLT, Int32.reduceLE, Int32.reduceAdd, Int32.reduceSub, Int32.reduceMul, Int32.reduceToInt, Int32.reduceToNatClampNeg, Int.reduceLT, Int.reduceLE, Int.reduceNeg, true_and, and_true, or_self, or_false, false_or, false_and, and_false, true_or, or_true, if_true, if_false, ne_eq, Classical.not_not, not_true_eq_false, not_false_eq_true, true_implies, false_implies, implies_true, Nat.reduceEqDiff, Nat.reduceAdd, Nat.reduceLeDiff, Nat.reduceSub, reduceCtorEq, reduceIte, b276_0]
  refine sw_at ?_
  rw [ht]
  exact hq
theorem rs_0 {y y' : RSt} (hr : RS1 G qv 0 y y') (r : RM G q qv y h) (hd : 10 < d) (hq : ∀ h', RM G q qv y' h' → aWP d 257 35 (LR N) [] h' Q) : aWP d 257 35 (LR N) [] h Q := by
  obtain ⟨⟨md, nw, td, wk⟩, X⟩ := y
  cases md with
  | none => exact hr.elim
  | some n =>
    obtain ⟨hn, v, hv, rfl⟩ := hr
    have r0 := r
    obtain ⟨r1, ⟨_, r2⟩, r3, r4, r5, r6, r7, r8, r9, r10, r11⟩ := r
    have s := r1.1
    have P := r1.2.2.2.1
    have r17 := r1.2.2.2.2.1
    have h0 : 0 < d - 1 := by omega
    obtain ⟨⟨k0, k1, k2, k4, k5, _⟩, w7, w8, w10, w11, _⟩ := prf s P.1
    obtain ⟨p1, p2, p3⟩ := pm_n P (j := 1) (by decide) (by decide) hn
    obtain ⟨v1, v2, v3⟩ := pm_n P (j := 2) (by decide) (by decide) hn
    have p2 : hA h (q + 1) n = G.1 21 n := p2
    have v2 : hA h (q + 2) n = G.1 22 n := v2
    rcases r2 with ⟨n', e1, e2, e3⟩ | ⟨e1, _⟩
    · injection e1 with e1
      subst e1
      refine rl_F s (by omega) r10 r11.1 e2 ?_
      rw [e3]
      rcases hv with ⟨c, rfl⟩ | ⟨c, rfl⟩ | ⟨c, rfl⟩
      · refine wk_kd r1 hn h0 (t := 40) (by rw [c]; rfl) ?_
        simp only [lv_args, z_v, z_lg, z_h, z_u, z_u1, z_c, z_ct, z_sk, sbne, lst1_d, ldel, lst2_d, ldel2, z_sw, z_rok, zi, eq_self, List.map_cons, List.map_nil, List.append_nil, List.nil_append, List.cons_append, Int32.reduceLT, Int32.reduceLE, Int32.reduceAdd, Int32.reduceSub, Int32.reduceMul, Int32.reduceToInt, Int32.reduceToNatClampNeg, Int.reduceLT, Int.reduceLE, Int.reduceNeg, true_and, and_true, or_self, or_false, false_or, false_and, and_false, true_or, or_true, if_true, if_false, ne_eq, Classical.not_not, not_true_eq_false, not_false_eq_true, true_implies, false_implies, implies_true, Nat.reduceEqDiff, Nat.reduceAdd, Nat.reduceLeDiff, Nat.reduceSub, reduceCtorEq, reduceIte, b276_40, skM s, r17, k0, w8, k2, h0]
        simp (disch := omega) only [nI_ti, nI_cl, le0N, ltNN, v1, v2, true_and]
        refine ⟨v3, ?_⟩
        try simp only [lv_args, z_v, z_lg, z_h, z_u, z_u1, z_c, z_ct, z_sk, sbne, lst1_d, ldel, lst2_d, ldel2, z_sw, z_rok, zi, eq_self, List.map_cons, List.map_nil, List.append_nil, List.nil_append, List.cons_append, Int32.reduceLT, Int32.reduceLE, Int32.reduceAdd, Int32.reduceSub, Int32.reduceMul, Int32.reduceToInt, Int32.reduceToNatClampNeg, Int.reduceLT, Int.reduceLE, Int.reduceNeg, true_and, and_true, or_self, or_false, false_or, false_and, and_false, true_or, or_true, if_true, if_false, ne_eq, Classical.not_not, not_true_eq_false, not_false_eq_true, true_implies, false_implies, implies_true, Nat.reduceEqDiff, Nat.reduceAdd, Nat.reduceLeDiff, Nat.reduceSub, reduceCtorEq, reduceIte, b276_40, skM s, h0, e269v, e219_59 _ _ s]
        exact pr_ok (rm_is r0) hq
      · refine wk_kd r1 hn h0 (t := 58) (by rw [c]; rfl) ?_
        simp only [lv_args, z_v, z_lg, z_h, z_u, z_u1, z_c, z_ct, z_sk, sbne, lst1_d, ldel, lst2_d, ldel2, z_sw, z_rok, zi, eq_self, List.map_cons, List.map_nil, List.append_nil, List.nil_append, List.cons_append, Int32.reduceLT, Int32.reduceLE, Int32.reduceAdd, Int32.reduceSub, Int32.reduceMul, Int32.reduceToInt, Int32.reduceToNatClampNeg, Int.reduceLT, Int.reduceLE, Int.reduceNeg, true_and, and_true, or_self, or_false, false_or, false_and, and_false, true_or, or_true, if_true, if_false, ne_eq, Classical.not_not, not_true_eq_false, not_false_eq_true, true_implies, false_implies, implies_true, Nat.reduceEqDiff, Nat.reduceAdd, Nat.reduceLeDiff, Nat.reduceSub, reduceCtorEq, reduceIte, b276_58, skM s, r17, k0, w7, k1, h0]
        simp (disch := omega) only [nI_ti, nI_cl, le0N, ltNN, p1, p2, c, true_and]
        refine ⟨p3, ?_⟩
        have z10 : ¬ (1 : Int32) = 0 := by decide
        try simp only [lv_args, z_v, z_lg, z_h, z_u, z_u1, z_c, z_ct, z_sk, sbne, lst1_d, ldel, lst2_d, ldel2, z_sw, z_rok, zi, eq_self, List.map_cons, List.map_nil, List.append_nil, List.nil_append, List.cons_append, Int32.reduceLT, Int32.reduceLE, Int32.reduceAdd, Int32.reduceSub, Int32.reduceMul, Int32.reduceToInt, Int32.reduceToNatClampNeg, Int.reduceLT, Int.reduceLE, Int.reduceNeg, true_and, and_true, or_self, or_false, false_or, false_and, and_false, true_or, or_true, if_true, if_false, ne_eq, Classical.not_not, not_true_eq_false, not_false_eq_true, true_implies, false_implies, implies_true, Nat.reduceEqDiff, Nat.reduceAdd, Nat.reduceLeDiff, Nat.reduceSub, reduceCtorEq, reduceIte, b276_58, b276_72, b276_77, skM s, h0, e266, z10, e219_59 _ _ s]
        exact pr_ok (rm_is r0) hq
      · refine wk_kd r1 hn h0 (t := 58) (by rw [c]; rfl) ?_
        simp only [lv_args, z_v, z_lg, z_h, z_u, z_u1, z_c, z_ct, z_sk, sbne, lst1_d, ldel, lst2_d, ldel2, z_sw, z_rok, zi, eq_self, List.map_cons, List.map_nil, List.append_nil, List.nil_append, List.cons_append, Int32.reduceLT, Int32.reduceLE, Int32.reduceAdd, Int32.reduceSub, Int32.reduceMul, Int32.reduceToInt, Int32.reduceToNatClampNeg, Int.reduceLT, Int.reduceLE, Int.reduceNeg, true_and, and_true, or_self, or_false, false_or, false_and, and_false, true_or, or_true, if_true, if_false, ne_eq, Classical.not_not, not_true_eq_false, not_false_eq_true, true_implies, false_implies, implies_true, Nat.reduceEqDiff, Nat.reduceAdd, Nat.reduceLeDiff, Nat.reduceSub, reduceCtorEq, reduceIte, b276_58, skM s, r17, k0, w7, k1, h0]
        simp (disch := omega) only [nI_ti, nI_cl, le0N, ltNN, p1, p2, c, true_and]
        refine ⟨p3, ?_⟩
        have z21 : ¬ (2 : Int32) = 1 := by decide
        try simp only [lv_args, z_v, z_lg, z_h, z_u, z_u1, z_c, z_ct, z_sk, sbne, lst1_d, ldel, lst2_d, ldel2, z_sw, z_rok, zi, eq_self, List.map_cons, List.map_nil, List.append_nil, List.nil_append, List.cons_append, Int32.reduceLT, Int32.reduceLE, Int32.reduceAdd, Int32.reduceSub, Int32.reduceMul, Int32.reduceToInt, Int32.reduceToNatClampNeg, Int.reduceLT, Int.reduceLE, Int.reduceNeg, true_and, and_true, or_self, or_false, false_or, false_and, and_false, true_or, or_true, if_true, if_false, ne_eq, Classical.not_not, not_true_eq_false, not_false_eq_true, true_implies, false_implies, implies_true, Nat.reduceEqDiff, Nat.reduceAdd, Nat.reduceLeDiff, Nat.reduceSub, reduceCtorEq, reduceIte, b276_58, b276_76, b276_77, skM s, h0, e266, z21, e219_59 _ _ s]
        exact pr_ok (rm_is r0) hq
    · cases e1
end REE
