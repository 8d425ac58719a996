/-! BUILD. The reference: the row of forms is read -/
def noP (_ : Nat) : Prop := False
section MRW
variable {h h' h0 : Hp} {Q : Option Value → Hp → Prop} {d n q g a b i lv : Nat} {N : NS} {mt : List Nat} {T0 : List TK} {e : SE}
theorem r_all (m : RMt T0 mt q h0) : ∀ f, R9s T0 mt q h0 f ∧ R3s T0 mt q h0 f := by
  intro f
  induction f with
  | zero =>
    refine ⟨fun T N e lv i PF PX h d Q wt hT he h6 h1 hlv hf => ?_, fun T N e lv i PF PX h d Q i0 T4 hT4 wt hT he h6 e1 ex hlv hf => by omega⟩
    have : 0 < T.length := List.length_pos_iff.mpr (wt_end wt)
    omega
  | succ f ih => exact ⟨sp_mdatum m ih.1 ih.2, sp_list m ih.1 ih.2⟩
theorem sp_rowsL (m : RMt T0 mt q h0) (hd : 120 < d) : ∀ (f : Nat) (T : List TK) (N : NS) (e : SE) (i : Nat) (h : Hp) (T2 : ALS), (T2 = [] ∨ ∃ x, T2 = [(2, .int x)]) → WT T → T0.drop i = T → Eo N e → nK N e.1 = 6 → e.1 = 0 → e.2.2 = false → (∀ x, e.2.1 = some x → 1 ≤ x) → 2 * T.length + 1 ≤ f → N.1 + 2 * T.length ≤ 6200 → RS N mt q noP noP i 0 h0 h → hI h q 3 = dnI (nF N 0) → hI h q 2 = nC N 0 → ((rd f 0 T N e 0).1 = none → ∀ h', KYr q h0 h' → HX (rd f 0 T N e 0).2.2.1 mt q noP noP h' → hI h' q 3 = dnI (nF (rd f 0 T N e 0).2.2.1 0) → hI h' q 2 = nC (rd f 0 T N e 0).2.2.1 0 → Q none h') → (∀ k p, (rd f 0 T N e 0).1 = some (k, p) → ∀ h', KYt q h0 h' → hI h' 59 13 = nI k → hI h' 59 14 = nI p → Q (some (.retAddr 65)) h') → aWP d 256 2 ((1, .int (lstE e)) :: (T2 ++ [(0, .ref 59)])) [] h Q := by
  have h00 : 0 < d := by omega
  have hq66 := rm_q m
  intro f
  induction f with
  | zero => intro T N e i h T2 hT2 wt hT he h6 e0 eb ex hf; omega
  | succ f ih =>
  intro T N e i h T2 hT2 wt hT he h6 e0 eb ex hf hNb S u3 u2 hq1 hq2
  cases T with
  | nil => exact wt.elim
  | cons x T =>
  obtain ⟨hx, hT1⟩ := drop_get hT
  have hi := g_lt hx
  have S0 := S
  obtain ⟨ky, H, e10, e11⟩ := S
  have m1 := rm_k ky m
  have s := m1.1.1
  obtain ⟨t1, t8, t2⟩ := m1.2.2
  obtain ⟨x1, x2, x3⟩ := t2 i x hx
  have hx8 := t8 x (List.mem_of_getElem? hx)
  obtain ⟨n62, n63, n64⟩ := rm_n m1
  have c2 : (i < 3002) = True := eq_true (by omega)
  have z0 : (0 : Int32) = nI 0 := rfl
  simp only [List.length_cons] at hf hNb
  by_cases c3 : x.1 = 0
  · rw [rd_me (by decide) c3] at hq1
    have P := hq1 rfl h ky H u3 u2
    rw [c3] at x1
    rcases hT2 with rfl | ⟨x, rfl⟩
    · simp only [List.nil_append, List.cons_append]
      simp only [lv_args, z_v, z_lg, z_h, z_u, z_u1, z_c, z_ct, z_sk, sbne, lst1_d, ldel, lst2_d, ldel2, z_sw, z_rok, zi, eq_self, List.map_cons, List.map_nil, List.append_nil, List.nil_append, List.cons_append, Int32.reduceLT, Int32.reduceLE, Int32.reduceAdd, Int32.reduceSub, Int32.reduceMul, Int32.reduceToInt, Int32.reduceToNatClampNeg, Int.reduceLT, Int.reduceLE, Int.reduceNeg, true_and, and_true, or_self, or_false, false_or, false_and, and_false, true_or, or_true, if_true, if_false, ne_eq, Classical.not_not, not_true_eq_false, not_false_eq_true, true_implies, false_implies, implies_true, Nat.reduceEqDiff, Nat.reduceAdd, Nat.reduceLeDiff, Nat.reduceSub, reduceCtorEq, reduceIte, b256_2, skM s, srM s, e10, n62]
      simp (disch := omega) only [nI_ti, nI_cl, le0N, ltNN, c2, x1, ← z0, true_and, true_imp_iff, not_true_eq_false, false_imp_iff, and_true]
      try simp only [lv_args, z_v, z_lg, z_h, z_u, z_u1, z_c, z_ct, z_sk, sbne, lst1_d, ldel, lst2_d, ldel2, z_sw, z_rok, zi, eq_self, List.map_cons, List.map_nil, List.append_nil, List.nil_append, List.cons_append, Int32.reduceLT, Int32.reduceLE, Int32.reduceAdd, Int32.reduceSub, Int32.reduceMul, Int32.reduceToInt, Int32.reduceToNatClampNeg, Int.reduceLT, Int.reduceLE, Int.reduceNeg, true_and, and_true, or_self, or_false, false_or, false_and, and_false, true_or, or_true, if_true, if_false, ne_eq, Classical.not_not, not_true_eq_false, not_false_eq_true, true_implies, false_implies, implies_true, Nat.reduceEqDiff, Nat.reduceAdd, Nat.reduceLeDiff, Nat.reduceSub, reduceCtorEq, reduceIte, b256_2]
      simp only [lv_args, z_v, z_lg, z_h, z_u, z_u1, z_c, z_ct, z_sk, sbne, lst1_d, ldel, lst2_d, ldel2, z_sw, z_rok, zi, eq_self, List.map_cons, List.map_nil, List.append_nil, List.nil_append, List.cons_append, Int32.reduceLT, Int32.reduceLE, Int32.reduceAdd, Int32.reduceSub, Int32.reduceMul, Int32.reduceToInt, Int32.reduceToNatClampNeg, Int.reduceLT, Int.reduceLE, Int.reduceNeg, true_and, and_true, or_self, or_false, false_or, false_and, and_false, true_or, or_true, if_true, if_false, ne_eq, Classical.not_not, not_true_eq_false, not_false_eq_true, true_implies, false_implies, implies_true, Nat.reduceEqDiff, Nat.reduceAdd, Nat.reduceLeDiff, Nat.reduceSub, reduceCtorEq, reduceIte, b256_63]
      exact P
    · simp only [List.nil_append, List.cons_append]
      simp only [lv_args, z_v, z_lg, z_h, z_u, z_u1, z_c, z_ct, z_sk, sbne, lst1_d, ldel, lst2_d, ldel2, z_sw, z_rok, zi, eq_self, List.map_cons, List.map_nil, List.append_nil, List.nil_append, List.cons_append, Int32.reduceLT, Int32.reduceLE, Int32.reduceAdd, Int32.reduceSub, Int32.reduceMul, Int32.reduceToInt, Int32.reduceToNatClampNeg, Int.reduceLT, Int.reduceLE, Int.reduceNeg, true_and, and_true, or_self, or_false, false_or, false_and, and_false, true_or, or_true, if_true, if_false, ne_eq, Classical.not_not, not_true_eq_false, not_false_eq_true, true_implies, false_implies, implies_true, Nat.reduceEqDiff, Nat.reduceAdd, Nat.reduceLeDiff, Nat.reduceSub, reduceCtorEq, reduceIte, b256_2, skM s, srM s, e10, n62]
      simp (disch := omega) only [nI_ti, nI_cl, le0N, ltNN, c2, x1, ← z0, true_and, true_imp_iff, not_true_eq_false, false_imp_iff, and_true]
      try simp only [lv_args, z_v, z_lg, z_h, z_u, z_u1, z_c, z_ct, z_sk, sbne, lst1_d, ldel, lst2_d, ldel2, z_sw, z_rok, zi, eq_self, List.map_cons, List.map_nil, List.append_nil, List.nil_append, List.cons_append, Int32.reduceLT, Int32.reduceLE, Int32.reduceAdd, Int32.reduceSub, Int32.reduceMul, Int32.reduceToInt, Int32.reduceToNatClampNeg, Int.reduceLT, Int.reduceLE, Int.reduceNeg, true_and, and_true, or_self, or_false, false_or, false_and, and_false, true_or, or_true, if_true, if_false, ne_eq, Classical.not_not, not_true_eq_false, not_false_eq_true, true_implies, false_implies, implies_true, Nat.reduceEqDiff, Nat.reduceAdd, Nat.reduceLeDiff, Nat.reduceSub, reduceCtorEq, reduceIte, b256_2]
      simp only [lv_args, z_v, z_lg, z_h, z_u, z_u1, z_c, z_ct, z_sk, sbne, lst1_d, ldel, lst2_d, ldel2, z_sw, z_rok, zi, eq_self, List.map_cons, List.map_nil, List.append_nil, List.nil_append, List.cons_append, Int32.reduceLT, Int32.reduceLE, Int32.reduceAdd, Int32.reduceSub, Int32.reduceMul, Int32.reduceToInt, Int32.reduceToNatClampNeg, Int.reduceLT, Int.reduceLE, Int.reduceNeg, true_and, and_true, or_self, or_false, false_or, false_and, and_false, true_or, or_true, if_true, if_false, ne_eq, Classical.not_not, not_true_eq_false, not_false_eq_true, true_implies, false_implies, implies_true, Nat.reduceEqDiff, Nat.reduceAdd, Nat.reduceLeDiff, Nat.reduceSub, reduceCtorEq, reduceIte, b256_63]
      exact P
  · have ne3 : ¬ nI x.1 = 0 := by rw [z0, nI_eqN (by omega) (by omega)]; exact c3
    have back : (rd f 9 (x :: T) N e 0).1 = none → ∀ h' i', T0.drop i' = (rd f 9 (x :: T) N e 0).2.1 → RS (rd f 9 (x :: T) N e 0).2.2.1 mt q (pdF e noP) (pdX e noP) i' 0 h0 h' → hI h' q 3 = hI h q 3 → hI h' q 2 = hI h q 2 → aWP d 256 18 ((1, .int (lstE e)) :: (T2 ++ [(0, .ref 59)])) [.int (nI (N.1 - 1))] h' Q := by
      intro h9 h' i' hT' S' v3 v2
      rw [rd_mn (by decide) c3 h9] at hq1 hq2
      obtain ⟨w1, w2, w3, w4, w5⟩ := rd_wt f 9 (x :: T) N e 0 (Or.inl rfl) wt h9
      have cnt := rd_cnt f 9 (x :: T) N e 0 wt (Or.inl rfl) h9
      obtain ⟨⟨d1, d2⟩, d3, d4⟩ := (rd_tr f 9 (x :: T) N e 0 wt he (by omega) (Or.inl rfl) h9).1 rfl
      obtain ⟨we, wl⟩ := w1 rfl
      rw [we] at hq1 hq2
      have wT := w5 (by decide)
      generalize rd f 9 (x :: T) N e 0 = R9 at *
      simp only [List.length_cons] at cnt wl
      have eN := he.1
      rw [e0] at eN
      obtain ⟨kK, _, kC, kF, kX⟩ := d2 0 eN
      rw [if_pos e0.symm] at kC
      obtain ⟨ky', H', e10', e11'⟩ := S'
      have m' := rm_k ky' m
      have s' := m'.1.1
      have R' := rm_R m'
      have nn' := nq m'.1.2 hq66
      have go : ∀ h2, KYr q h0 h2 → HX R9.2.2.1 mt q noP noP h2 → hI h2 59 10 = nI i' → hI h2 59 11 = nI 0 → hI h2 q 3 = dnI (nF R9.2.2.1 0) → hI h2 q 2 = hI h q 2 → aWP d 256 45 [(2, .int (nI (N.1 - 1))), (1, .int (lstE e)), (0, .ref 59)] [] h2 Q := fun h2 k2 H2 g10 g11 b3 b2 => by
        have m2 := rm_k k2 m
        have s2 := m2.1.1
        have R2 := rm_R m2
        have G := ih R9.2.1 R9.2.2.1 (e.1, some N.1, e.2.2) i' (pI h2 q 2 (nC N 0 + 1)) [(2, .int (nI (N.1 - 1)))] (Or.inr ⟨_, rfl⟩) wT hT' ⟨by show e.1 < _; rw [e0]; omega, fun w => (by cases w), fun y hy => by
          injection hy with hy
          subst hy
          exact ⟨d1, d4⟩⟩ (by show nK _ e.1 = 6; rw [e0, kK, ← e0]; exact h6) e0 eb (fun y hy => by
          injection hy with hy
          omega) (by omega) (by omega) ⟨kr_I k2 (by omega), by rcases hq66 with rfl | rfl <;> exact H2, by rcases hq66 with rfl | rfl <;> exact g10, by rcases hq66 with rfl | rfl <;> exact g11⟩ (by rw [← b3]; rcases hq66 with rfl | rfl <;> rfl) (by rw [kC]; exact up2_eq) hq1 hq2
        simp only [List.nil_append, List.cons_append] at G
        have el : lstE (e.1, some N.1, e.2.2) = nI (N.1 - 1) := rfl
        rw [el] at G
        have b2' : hI h2 q 2 = nC N 0 := b2.trans u2
        rcases hq66 with rfl | rfl
        · have b2' : hI h2 66 2 = nC N 0 := b2'
          simp only [lv_args, z_v, z_lg, z_h, z_u, z_u1, z_c, z_ct, z_sk, sbne, lst1_d, ldel, lst2_d, ldel2, z_sw, z_rok, zi, eq_self, List.map_cons, List.map_nil, List.append_nil, List.nil_append, List.cons_append, Int32.reduceLT, Int32.reduceLE, Int32.reduceAdd, Int32.reduceSub, Int32.reduceMul, Int32.reduceToInt, Int32.reduceToNatClampNeg, Int.reduceLT, Int.reduceLE, Int.reduceNeg, true_and, and_true, or_self, or_false, false_or, false_and, and_false, true_or, or_true, if_true, if_false, ne_eq, Classical.not_not, not_true_eq_false, not_false_eq_true, true_implies, false_implies, implies_true, Nat.reduceEqDiff, Nat.reduceAdd, Nat.reduceLeDiff, Nat.reduceSub, reduceCtorEq, reduceIte, b256_45, skM s2, R2, b2']
          exact G
        · have b2' : hI h2 86 2 = nC N 0 := b2'
          simp only [lv_args, z_v, z_lg, z_h, z_u, z_u1, z_c, z_ct, z_sk, sbne, lst1_d, ldel, lst2_d, ldel2, z_sw, z_rok, zi, eq_self, List.map_cons, List.map_nil, List.append_nil, List.nil_append, List.cons_append, Int32.reduceLT, Int32.reduceLE, Int32.reduceAdd, Int32.reduceSub, Int32.reduceMul, Int32.reduceToInt, Int32.reduceToNatClampNeg, Int.reduceLT, Int.reduceLE, Int.reduceNeg, true_and, and_true, or_self, or_false, false_or, false_and, and_false, true_or, or_true, if_true, if_false, ne_eq, Classical.not_not, not_true_eq_false, not_false_eq_true, true_implies, false_implies, implies_true, Nat.reduceEqDiff, Nat.reduceAdd, Nat.reduceLeDiff, Nat.reduceSub, reduceCtorEq, reduceIte, b256_45, skM s2, R2, b2']
          exact G
      have at19 : aWP d 256 19 [(2, .int (nI (N.1 - 1))), (1, .int (lstE e)), (0, .ref 59)] [] h' Q := by
        cases ee : e.2.1 with
        | none =>
          have el : lstE e = -1 := by unfold lstE; rw [ee]
          rw [if_pos ⟨e0.symm, ee⟩] at kF
          have H2 : HX R9.2.2.1 mt q noP noP h' := hx_w H' (fun n n1 w => w.elim id (fun w => by omega)) (fun n _ w => w.elim id (fun w => by rw [ee] at w; cases w))
          rw [el] at go ⊢
          have G := go (pI h' q 3 (nI (N.1 - 1))) (kr_I ky' (by omega)) (by rcases hq66 with rfl | rfl <;> exact H2) (by rcases hq66 with rfl | rfl <;> exact e10') (by rcases hq66 with rfl | rfl <;> exact e11') (by rw [kF, dnI_nI (by omega) (by omega)]; exact up2_eq) (by rw [← v2]; rcases hq66 with rfl | rfl <;> rfl)
          rcases hq66 with rfl | rfl
          · simp only [lv_args, z_v, z_lg, z_h, z_u, z_u1, z_c, z_ct, z_sk, sbne, lst1_d, ldel, lst2_d, ldel2, z_sw, z_rok, zi, eq_self, List.map_cons, List.map_nil, List.append_nil, List.nil_append, List.cons_append, Int32.reduceLT, Int32.reduceLE, Int32.reduceAdd, Int32.reduceSub, Int32.reduceMul, Int32.reduceToInt, Int32.reduceToNatClampNeg, Int.reduceLT, Int.reduceLE, Int.reduceNeg, true_and, and_true, or_self, or_false, false_or, false_and, and_false, true_or, or_true, if_true, if_false, ne_eq, Classical.not_not, not_true_eq_false, not_false_eq_true, true_implies, false_implies, implies_true, Nat.reduceEqDiff, Nat.reduceAdd, Nat.reduceLeDiff, Nat.reduceSub, reduceCtorEq, reduceIte, b256_14]
            simp only [lv_args, z_v, z_lg, z_h, z_u, z_u1, z_c, z_ct, z_sk, sbne, lst1_d, ldel, lst2_d, ldel2, z_sw, z_rok, zi, eq_self, List.map_cons, List.map_nil, List.append_nil, List.nil_append, List.cons_append, Int32.reduceLT, Int32.reduceLE, Int32.reduceAdd, Int32.reduceSub, Int32.reduceMul, Int32.reduceToInt, Int32.reduceToNatClampNeg, Int.reduceLT, Int.reduceLE, Int.reduceNeg, true_and, and_true, or_self, or_false, false_or, false_and, and_false, true_or, or_true, if_true, if_false, ne_eq, Classical.not_not, not_true_eq_false, not_false_eq_true, true_implies, false_implies, implies_true, Nat.reduceEqDiff, Nat.reduceAdd, Nat.reduceLeDiff, Nat.reduceSub, reduceCtorEq, reduceIte, b256_24, skM s', srM s', R']
            exact G
          · simp only [lv_args, z_v, z_lg, z_h, z_u, z_u1, z_c, z_ct, z_sk, sbne, lst1_d, ldel, lst2_d, ldel2, z_sw, z_rok, zi, eq_self, List.map_cons, List.map_nil, List.append_nil, List.nil_append, List.cons_append, Int32.reduceLT, Int32.reduceLE, Int32.reduceAdd, Int32.reduceSub, Int32.reduceMul, Int32.reduceToInt, Int32.reduceToNatClampNeg, Int.reduceLT, Int.reduceLE, Int.reduceNeg, true_and, and_true, or_self, or_false, false_or, false_and, and_false, true_or, or_true, if_true, if_false, ne_eq, Classical.not_not, not_true_eq_false, not_false_eq_true, true_implies, false_implies, implies_true, Nat.reduceEqDiff, Nat.reduceAdd, Nat.reduceLeDiff, Nat.reduceSub, reduceCtorEq, reduceIte, b256_14]
            simp only [lv_args, z_v, z_lg, z_h, z_u, z_u1, z_c, z_ct, z_sk, sbne, lst1_d, ldel, lst2_d, ldel2, z_sw, z_rok, zi, eq_self, List.map_cons, List.map_nil, List.append_nil, List.nil_append, List.cons_append, Int32.reduceLT, Int32.reduceLE, Int32.reduceAdd, Int32.reduceSub, Int32.reduceMul, Int32.reduceToInt, Int32.reduceToNatClampNeg, Int.reduceLT, Int.reduceLE, Int.reduceNeg, true_and, and_true, or_self, or_false, false_or, false_and, and_false, true_or, or_true, if_true, if_false, ne_eq, Classical.not_not, not_true_eq_false, not_false_eq_true, true_implies, false_implies, implies_true, Nat.reduceEqDiff, Nat.reduceAdd, Nat.reduceLeDiff, Nat.reduceSub, reduceCtorEq, reduceIte, b256_24, skM s', srM s', R']
            exact G
        | some y =>
          have hy := ex y ee
          have hyN := (he.2.2 y ee).1
          have el : lstE e = nI (y - 1) := by unfold lstE; rw [ee]
          have dX := (d2 y hyN).2.2.2.2
          rw [if_pos ee] at dX
          rw [if_neg (fun w => by rw [ee] at w; cases w.2)] at kF
          have H2 : HX R9.2.2.1 mt q noP (fun n => noP n ∨ n = y) h' := hx_w H' (fun n _ w => w.elim id (fun w => by rw [ee] at w; cases w.2)) (fun n _ w => w.elim Or.inl (fun w => Or.inr (by rw [ee] at w; injection w with w; exact w.symm)))
          have H3 := hx_X hq66 H2 hy dX (by omega) (by omega)
          have ne : ¬ nI (y - 1) = -1 := nI_m1' (by omega)
          have cy : (y - 1 < 6200) = True := eq_true (by omega)
          rw [el] at go ⊢
          have G := go _ (kr_A ky' (by omega)) H3 (by rcases hq66 with rfl | rfl <;> exact e10') (by rcases hq66 with rfl | rfl <;> exact e11') (by rw [kF, ← u3]; exact v3) v2
          rcases hq66 with rfl | rfl
          · have n5 : hN h' 71 = 6200 := nn'.2.2.2.2.1
            simp only [lv_args, z_v, z_lg, z_h, z_u, z_u1, z_c, z_ct, z_sk, sbne, lst1_d, ldel, lst2_d, ldel2, z_sw, z_rok, zi, eq_self, List.map_cons, List.map_nil, List.append_nil, List.nil_append, List.cons_append, Int32.reduceLT, Int32.reduceLE, Int32.reduceAdd, Int32.reduceSub, Int32.reduceMul, Int32.reduceToInt, Int32.reduceToNatClampNeg, Int.reduceLT, Int.reduceLE, Int.reduceNeg, true_and, and_true, or_self, or_false, false_or, false_and, and_false, true_or, or_true, if_true, if_false, ne_eq, Classical.not_not, not_true_eq_false, not_false_eq_true, true_implies, false_implies, implies_true, Nat.reduceEqDiff, Nat.reduceAdd, Nat.reduceLeDiff, Nat.reduceSub, reduceCtorEq, reduceIte, b256_14, ne]
            simp only [lv_args, z_v, z_lg, z_h, z_u, z_u1, z_c, z_ct, z_sk, sbne, lst1_d, ldel, lst2_d, ldel2, z_sw, z_rok, zi, eq_self, List.map_cons, List.map_nil, List.append_nil, List.nil_append, List.cons_append, Int32.reduceLT, Int32.reduceLE, Int32.reduceAdd, Int32.reduceSub, Int32.reduceMul, Int32.reduceToInt, Int32.reduceToNatClampNeg, Int.reduceLT, Int.reduceLE, Int.reduceNeg, true_and, and_true, or_self, or_false, false_or, false_and, and_false, true_or, or_true, if_true, if_false, ne_eq, Classical.not_not, not_true_eq_false, not_false_eq_true, true_implies, false_implies, implies_true, Nat.reduceEqDiff, Nat.reduceAdd, Nat.reduceLeDiff, Nat.reduceSub, reduceCtorEq, reduceIte, b256_35, skM s', srM s', R', n5]
            simp (disch := omega) only [nI_ti, nI_cl, le0N, ltNN, cy, true_and]
            try simp only [lv_args, z_v, z_lg, z_h, z_u, z_u1, z_c, z_ct, z_sk, sbne, lst1_d, ldel, lst2_d, ldel2, z_sw, z_rok, zi, eq_self, List.map_cons, List.map_nil, List.append_nil, List.nil_append, List.cons_append, Int32.reduceLT, Int32.reduceLE, Int32.reduceAdd, Int32.reduceSub, Int32.reduceMul, Int32.reduceToInt, Int32.reduceToNatClampNeg, Int.reduceLT, Int.reduceLE, Int.reduceNeg, true_and, and_true, or_self, or_false, false_or, false_and, and_false, true_or, or_true, if_true, if_false, ne_eq, Classical.not_not, not_true_eq_false, not_false_eq_true, true_implies, false_implies, implies_true, Nat.reduceEqDiff, Nat.reduceAdd, Nat.reduceLeDiff, Nat.reduceSub, reduceCtorEq, reduceIte, b256_35]
            exact G
          · have n5 : hN h' 91 = 6200 := nn'.2.2.2.2.1
            simp only [lv_args, z_v, z_lg, z_h, z_u, z_u1, z_c, z_ct, z_sk, sbne, lst1_d, ldel, lst2_d, ldel2, z_sw, z_rok, zi, eq_self, List.map_cons, List.map_nil, List.append_nil, List.nil_append, List.cons_append, Int32.reduceLT, Int32.reduceLE, Int32.reduceAdd, Int32.reduceSub, Int32.reduceMul, Int32.reduceToInt, Int32.reduceToNatClampNeg, Int.reduceLT, Int.reduceLE, Int.reduceNeg, true_and, and_true, or_self, or_false, false_or, false_and, and_false, true_or, or_true, if_true, if_false, ne_eq, Classical.not_not, not_true_eq_false, not_false_eq_true, true_implies, false_implies, implies_true, Nat.reduceEqDiff, Nat.reduceAdd, Nat.reduceLeDiff, Nat.reduceSub, reduceCtorEq, reduceIte, b256_14, ne]
            simp only [lv_args, z_v, z_lg, z_h, z_u, z_u1, z_c, z_ct, z_sk, sbne, lst1_d, ldel, lst2_d, ldel2, z_sw, z_rok, zi, eq_self, List.map_cons, List.map_nil, List.append_nil, List.nil_append, List.cons_append, Int32.reduceLT, Int32.reduceLE, Int32.reduceAdd, Int32.reduceSub, Int32.reduceMul, Int32.reduceToInt, Int32.reduceToNatClampNeg, Int.reduceLT, Int.reduceLE, Int.reduceNeg, true_and, and_true, or_self, or_false, false_or, false_and, and_false, true_or, or_true, if_true, if_false, ne_eq, Classical.not_not, not_true_eq_false, not_false_eq_true, true_implies, false_implies, implies_true, Nat.reduceEqDiff, Nat.reduceAdd, Nat.reduceLeDiff, Nat.reduceSub, reduceCtorEq, reduceIte, b256_35, skM s', srM s', R', n5]
            simp (disch := omega) only [nI_ti, nI_cl, le0N, ltNN, cy, true_and]
            try simp only [lv_args, z_v, z_lg, z_h, z_u, z_u1, z_c, z_ct, z_sk, sbne, lst1_d, ldel, lst2_d, ldel2, z_sw, z_rok, zi, eq_self, List.map_cons, List.map_nil, List.append_nil, List.nil_append, List.cons_append, Int32.reduceLT, Int32.reduceLE, Int32.reduceAdd, Int32.reduceSub, Int32.reduceMul, Int32.reduceToInt, Int32.reduceToNatClampNeg, Int.reduceLT, Int.reduceLE, Int.reduceNeg, true_and, and_true, or_self, or_false, false_or, false_and, and_false, true_or, or_true, if_true, if_false, ne_eq, Classical.not_not, not_true_eq_false, not_false_eq_true, true_implies, false_implies, implies_true, Nat.reduceEqDiff, Nat.reduceAdd, Nat.reduceLeDiff, Nat.reduceSub, reduceCtorEq, reduceIte, b256_35]
            exact G
      rcases hT2 with rfl | ⟨x, rfl⟩
      · simp only [List.nil_append, List.cons_append]
        simp only [lv_args, z_v, z_lg, z_h, z_u, z_u1, z_c, z_ct, z_sk, sbne, lst1_d, ldel, lst2_d, ldel2, z_sw, z_rok, zi, eq_self, List.map_cons, List.map_nil, List.append_nil, List.nil_append, List.cons_append, Int32.reduceLT, Int32.reduceLE, Int32.reduceAdd, Int32.reduceSub, Int32.reduceMul, Int32.reduceToInt, Int32.reduceToNatClampNeg, Int.reduceLT, Int.reduceLE, Int.reduceNeg, true_and, and_true, or_self, or_false, false_or, false_and, and_false, true_or, or_true, if_true, if_false, ne_eq, Classical.not_not, not_true_eq_false, not_false_eq_true, true_implies, false_implies, implies_true, Nat.reduceEqDiff, Nat.reduceAdd, Nat.reduceLeDiff, Nat.reduceSub, reduceCtorEq, reduceIte, b256_14]
        simp only [lv_args, z_v, z_lg, z_h, z_u, z_u1, z_c, z_ct, z_sk, sbne, lst1_d, ldel, lst2_d, ldel2, z_sw, z_rok, zi, eq_self, List.map_cons, List.map_nil, List.append_nil, List.nil_append, List.cons_append, Int32.reduceLT, Int32.reduceLE, Int32.reduceAdd, Int32.reduceSub, Int32.reduceMul, Int32.reduceToInt, Int32.reduceToNatClampNeg, Int.reduceLT, Int.reduceLE, Int.reduceNeg, true_and, and_true, or_self, or_false, false_or, false_and, and_false, true_or, or_true, if_true, if_false, ne_eq, Classical.not_not, not_true_eq_false, not_false_eq_true, true_implies, false_implies, implies_true, Nat.reduceEqDiff, Nat.reduceAdd, Nat.reduceLeDiff, Nat.reduceSub, reduceCtorEq, reduceIte, b256_14] at at19
        exact at19
      · simp only [List.nil_append, List.cons_append]
        simp only [lv_args, z_v, z_lg, z_h, z_u, z_u1, z_c, z_ct, z_sk, sbne, lst1_d, ldel, lst2_d, ldel2, z_sw, z_rok, zi, eq_self, List.map_cons, List.map_nil, List.append_nil, List.nil_append, List.cons_append, Int32.reduceLT, Int32.reduceLE, Int32.reduceAdd, Int32.reduceSub, Int32.reduceMul, Int32.reduceToInt, Int32.reduceToNatClampNeg, Int.reduceLT, Int.reduceLE, Int.reduceNeg, true_and, and_true, or_self, or_false, false_or, false_and, and_false, true_or, or_true, if_true, if_false, ne_eq, Classical.not_not, not_true_eq_false, not_false_eq_true, true_implies, false_implies, implies_true, Nat.reduceEqDiff, Nat.reduceAdd, Nat.reduceLeDiff, Nat.reduceSub, reduceCtorEq, reduceIte, b256_14]
        simp only [lv_args, z_v, z_lg, z_h, z_u, z_u1, z_c, z_ct, z_sk, sbne, lst1_d, ldel, lst2_d, ldel2, z_sw, z_rok, zi, eq_self, List.map_cons, List.map_nil, List.append_nil, List.nil_append, List.cons_append, Int32.reduceLT, Int32.reduceLE, Int32.reduceAdd, Int32.reduceSub, Int32.reduceMul, Int32.reduceToInt, Int32.reduceToNatClampNeg, Int.reduceLT, Int.reduceLE, Int.reduceNeg, true_and, and_true, or_self, or_false, false_or, false_and, and_false, true_or, or_true, if_true, if_false, ne_eq, Classical.not_not, not_true_eq_false, not_false_eq_true, true_implies, false_implies, implies_true, Nat.reduceEqDiff, Nat.reduceAdd, Nat.reduceLeDiff, Nat.reduceSub, reduceCtorEq, reduceIte, b256_14] at at19
        exact at19
    have flt : ∀ k p, (rd f 9 (x :: T) N e 0).1 = some (k, p) → ∀ h', KYt q h0 h' → hI h' 59 13 = nI k → hI h' 59 14 = nI p → Q (some (.retAddr 65)) h' := fun k p h9 h' a1 a2 a3 => by
      rw [rd_mf (by decide) c3 (by rw [h9]; simp)] at hq2
      exact hq2 k p h9 h' a1 a2 a3
    have call : ∀ L, L = ((1, .int (lstE e)) :: (T2 ++ [(0, .ref 59)]) : ALS) → aEv (d - 1) 199 [.ref 59] h (aCx d 256 18 L [] h Q) := fun L hL => by
      refine (r_all m f).1 (x :: T) N e 0 i noP noP h _ _ wt hT he h6 (by have := he.1; omega) (by omega) (by simp only [List.length_cons]; omega) (by simp only [List.length_cons]; omega) S0 (by omega) (fun hn h' i' a1 a2 a3 a4 => Or.inr ?_) (fun k p h9 h' a1 a2 a3 => Or.inl ⟨rfl, flt k p h9 h' a1 a2 a3⟩)
      refine ⟨rfl, Or.inl ?_, ?_⟩
      · rw [a2.1.1.2.2.2.2.2.1, ky.1.2.2.2.2.2.1]
      · rw [hL]
        exact back hn h' i' a1 a2 a3 a4
    rcases hT2 with rfl | ⟨x', rfl⟩
    · have go := call _ rfl
      simp only [List.nil_append, List.cons_append] at go ⊢
      simp only [lv_args, z_v, z_lg, z_h, z_u, z_u1, z_c, z_ct, z_sk, sbne, lst1_d, ldel, lst2_d, ldel2, z_sw, z_rok, zi, eq_self, List.map_cons, List.map_nil, List.append_nil, List.nil_append, List.cons_append, Int32.reduceLT, Int32.reduceLE, Int32.reduceAdd, Int32.reduceSub, Int32.reduceMul, Int32.reduceToInt, Int32.reduceToNatClampNeg, Int.reduceLT, Int.reduceLE, Int.reduceNeg, true_and, and_true, or_self, or_false, false_or, false_and, and_false, true_or, or_true, if_true, if_false, ne_eq, Classical.not_not, not_true_eq_false, not_false_eq_true, true_implies, false_implies, implies_true, Nat.reduceEqDiff, Nat.reduceAdd, Nat.reduceLeDiff, Nat.reduceSub, reduceCtorEq, reduceIte, b256_2, skM s, srM s, e10, n62]
      simp (disch := omega) only [nI_ti, nI_cl, le0N, ltNN, c2, x1, true_and, ne3, not_false_eq_true, true_imp_iff, false_imp_iff]
      try simp only [lv_args, z_v, z_lg, z_h, z_u, z_u1, z_c, z_ct, z_sk, sbne, lst1_d, ldel, lst2_d, ldel2, z_sw, z_rok, zi, eq_self, List.map_cons, List.map_nil, List.append_nil, List.nil_append, List.cons_append, Int32.reduceLT, Int32.reduceLE, Int32.reduceAdd, Int32.reduceSub, Int32.reduceMul, Int32.reduceToInt, Int32.reduceToNatClampNeg, Int.reduceLT, Int.reduceLE, Int.reduceNeg, true_and, and_true, or_self, or_false, false_or, false_and, and_false, true_or, or_true, if_true, if_false, ne_eq, Classical.not_not, not_true_eq_false, not_false_eq_true, true_implies, false_implies, implies_true, Nat.reduceEqDiff, Nat.reduceAdd, Nat.reduceLeDiff, Nat.reduceSub, reduceCtorEq, reduceIte, b256_2]
      simp only [lv_args, z_v, z_lg, z_h, z_u, z_u1, z_c, z_ct, z_sk, sbne, lst1_d, ldel, lst2_d, ldel2, z_sw, z_rok, zi, eq_self, List.map_cons, List.map_nil, List.append_nil, List.nil_append, List.cons_append, Int32.reduceLT, Int32.reduceLE, Int32.reduceAdd, Int32.reduceSub, Int32.reduceMul, Int32.reduceToInt, Int32.reduceToNatClampNeg, Int.reduceLT, Int.reduceLE, Int.reduceNeg, true_and, and_true, or_self, or_false, false_or, false_and, and_false, true_or, or_true, if_true, if_false, ne_eq, Classical.not_not, not_true_eq_false, not_false_eq_true, true_implies, false_implies, implies_true, Nat.reduceEqDiff, Nat.reduceAdd, Nat.reduceLeDiff, Nat.reduceSub, reduceCtorEq, reduceIte, b256_14, skM s, h00]
      exact go
    · have go := call _ rfl
      simp only [List.nil_append, List.cons_append] at go ⊢
      simp only [lv_args, z_v, z_lg, z_h, z_u, z_u1, z_c, z_ct, z_sk, sbne, lst1_d, ldel, lst2_d, ldel2, z_sw, z_rok, zi, eq_self, List.map_cons, List.map_nil, List.append_nil, List.nil_append, List.cons_append, Int32.reduceLT, Int32.reduceLE, Int32.reduceAdd, Int32.reduceSub, Int32.reduceMul, Int32.reduceToInt, Int32.reduceToNatClampNeg, Int.reduceLT, Int.reduceLE, Int.reduceNeg, true_and, and_true, or_self, or_false, false_or, false_and, and_false, true_or, or_true, if_true, if_false, ne_eq, Classical.not_not, not_true_eq_false, not_false_eq_true, true_implies, false_implies, implies_true, Nat.reduceEqDiff, Nat.reduceAdd, Nat.reduceLeDiff, Nat.reduceSub, reduceCtorEq, reduceIte, b256_2, skM s, srM s, e10, n62]
      simp (disch := omega) only [nI_ti, nI_cl, le0N, ltNN, c2, x1, true_and, ne3, not_false_eq_true, true_imp_iff, false_imp_iff]
      try simp only [lv_args, z_v, z_lg, z_h, z_u, z_u1, z_c, z_ct, z_sk, sbne, lst1_d, ldel, lst2_d, ldel2, z_sw, z_rok, zi, eq_self, List.map_cons, List.map_nil, List.append_nil, List.nil_append, List.cons_append, Int32.reduceLT, Int32.reduceLE, Int32.reduceAdd, Int32.reduceSub, Int32.reduceMul, Int32.reduceToInt, Int32.reduceToNatClampNeg, Int.reduceLT, Int.reduceLE, Int.reduceNeg, true_and, and_true, or_self, or_false, false_or, false_and, and_false, true_or, or_true, if_true, if_false, ne_eq, Classical.not_not, not_true_eq_false, not_false_eq_true, true_implies, false_implies, implies_true, Nat.reduceEqDiff, Nat.reduceAdd, Nat.reduceLeDiff, Nat.reduceSub, reduceCtorEq, reduceIte, b256_2]
      simp only [lv_args, z_v, z_lg, z_h, z_u, z_u1, z_c, z_ct, z_sk, sbne, lst1_d, ldel, lst2_d, ldel2, z_sw, z_rok, zi, eq_self, List.map_cons, List.map_nil, List.append_nil, List.nil_append, List.cons_append, Int32.reduceLT, Int32.reduceLE, Int32.reduceAdd, Int32.reduceSub, Int32.reduceMul, Int32.reduceToInt, Int32.reduceToNatClampNeg, Int.reduceLT, Int.reduceLE, Int.reduceNeg, true_and, and_true, or_self, or_false, false_or, false_and, and_false, true_or, or_true, if_true, if_false, ne_eq, Classical.not_not, not_true_eq_false, not_false_eq_true, true_implies, false_implies, implies_true, Nat.reduceEqDiff, Nat.reduceAdd, Nat.reduceLeDiff, Nat.reduceSub, reduceCtorEq, reduceIte, b256_14, skM s, h00]
      exact go
/-- the nodes as a text begins -/
def nZ : NS := (1, fun _ => 6, fun _ => 0, fun _ => 0, fun _ => -1, fun _ => -1)
theorem sp_rows (m : RMt T0 mt q h0) (wt : WT T0) (hl : 2 * T0.length ≤ 6199) (N : NS) (eN : N.1 = 1) (k6 : nK N 0 = 6) (f0 : nF N 0 = -1) (c0 : nC N 0 = 0) (ei : hI h0 q 0 = 0 ∧ hI h0 q 2 = 0 ∧ hI h0 q 3 = -1 ∧ hI h0 59 10 = 0 ∧ hI h0 59 11 = 0) (hd : 120 < d) (hq1 : (rd (2 * T0.length + 1) 0 T0 N (0, none, false) 0).1 = none → ∀ h', KYr q h0 h' → HX (rd (2 * T0.length + 1) 0 T0 N (0, none, false) 0).2.2.1 mt q noP noP h' → hI h' q 3 = dnI (nF (rd (2 * T0.length + 1) 0 T0 N (0, none, false) 0).2.2.1 0) → hI h' q 2 = nC (rd (2 * T0.length + 1) 0 T0 N (0, none, false) 0).2.2.1 0 → Q none h') (hq2 : ∀ k p, (rd (2 * T0.length + 1) 0 T0 N (0, none, false) 0).1 = some (k, p) → ∀ h', KYt q h0 h' → hI h' 59 13 = nI k → hI h' 59 14 = nI p → Q (some (.retAddr 65)) h') : aEv d 256 [.ref 59] h0 Q := by
  obtain ⟨a0, a2, a3, a10, a11⟩ := ei
  have G := sp_rowsL (Q := Q) m hd (2 * T0.length + 1) T0 N (0, none, false) 0 h0 [] (Or.inl rfl) wt rfl ⟨by show 0 < N.1; omega, fun _ => f0, fun y hy => (by cases hy)⟩ k6 rfl rfl (fun y hy => (by cases hy)) (Nat.le_refl _) (by omega) ⟨⟨⟨rfl, rfl, rfl, rfl, rfl, rfl, rfl, rfl⟩, fun _ _ _ => rfl, fun _ _ => rfl⟩, ⟨by rw [a0, eN]; rfl, fun n n1 n2 => by omega⟩, a10, a11⟩ (by rw [a3, f0]; rfl) (by rw [a2, c0]) hq1 hq2
  have el : lstE (0, none, false) = -1 := rfl
  rw [el] at G
  simp only [List.nil_append, List.cons_append] at G
  unfold aEv
  simp only [lv_args, z_v, z_lg, z_h, z_u, z_u1, z_c, z_ct, z_sk, sbne, lst1_d, ldel, lst2_d, ldel2, z_sw, z_rok, zi, eq_self, List.map_cons, List.map_nil, List.append_nil, List.nil_append, List.cons_append, Int32.reduceLT, Int32.reduceLE, Int32.reduceAdd, Int32.reduceSub, Int32.reduceMul, Int32.reduceToInt, Int32.reduceToNatClampNeg, Int.reduceLT, Int.reduceLE, Int.reduceNeg, true_and, and_true, or_self, or_false, false_or, false_and, and_false, true_or, or_true, if_true, if_false, ne_eq, Classical.not_not, not_true_eq_false, not_false_eq_true, true_implies, false_implies, implies_true, Nat.reduceEqDiff, Nat.reduceAdd, Nat.reduceLeDiff, Nat.reduceSub, reduceCtorEq, reduceIte, b256_0]
  exact G
end MRW
