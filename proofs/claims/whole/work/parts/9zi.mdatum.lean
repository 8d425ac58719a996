/-! BUILD. The reference: a datum, a list, a quote -/
def lstE (e : SE) : Int32 := match e.2.1 with
  | none => -1
  | some x => nI (x - 1)
def R9s (T0 : List TK) (mt : List Nat) (q : Nat) (h0 : Hp) (f : Nat) : Prop := ∀ (T : List TK) (N : NS) (e : SE) (lv i : Nat) (PF PX : Nat → Prop) (h : Hp) (d : Nat) (Q : Option Value → Hp → Prop), WT T → T0.drop i = T → Eo N e → nK N e.1 = 6 → 1 ≤ N.1 → lv ≤ 30 → 2 * T.length ≤ f → N.1 + 2 * T.length ≤ 6200 → RS N mt q PF PX i lv h0 h → 3 * (31 - lv) + 10 < d → ((rd f 9 T N e lv).1 = none → ∀ h' i', T0.drop i' = (rd f 9 T N e lv).2.1 → RS (rd f 9 T N e lv).2.2.1 mt q (pdF e PF) (pdX e PX) i' lv h0 h' → hI h' q 3 = hI h q 3 → hI h' q 2 = hI h q 2 → Q (some (.int (nI (N.1 - 1)))) h') → (∀ k p, (rd f 9 T N e lv).1 = some (k, p) → ∀ h', KYt q h0 h' → hI h' 59 13 = nI k → hI h' 59 14 = nI p → Q (some (.retAddr 65)) h') → aEv d 199 [.ref 59] h Q
def R3s (T0 : List TK) (mt : List Nat) (q : Nat) (h0 : Hp) (f : Nat) : Prop := ∀ (T : List TK) (N : NS) (e : SE) (lv i : Nat) (PF PX : Nat → Prop) (h : Hp) (d : Nat) (Q : Option Value → Hp → Prop) (i0 : Int32) (T4 : ALS), (T4 = [] ∨ ∃ x, T4 = [(4, .int x)]) → WT T → T0.drop i = T → Eo N e → nK N e.1 = 6 → 1 ≤ e.1 → (∀ x, e.2.1 = some x → 1 ≤ x) → lv + 1 ≤ 30 → 2 * T.length + 1 ≤ f → N.1 + 2 * T.length ≤ 6200 → RS N mt q PF PX i (lv + 1) h0 h → 3 * (31 - lv) + 8 < d → ((rd f 3 T N e (lv + 1)).1 = none → ∀ h' i', T0.drop i' = (rd f 3 T N e (lv + 1)).2.1 → RS (rd f 3 T N e (lv + 1)).2.2.1 mt q PF PX i' lv h0 h' → hI h' q 3 = hI h q 3 → hI h' q 2 = hI h q 2 → Q (some (.int (nI (e.1 - 1)))) h') → (∀ k p, (rd f 3 T N e (lv + 1)).1 = some (k, p) → ∀ h', KYt q h0 h' → hI h' 59 13 = nI k → hI h' 59 14 = nI p → Q (some (.retAddr 65)) h') → aWP d 234 24 ((3, .int (lstE e)) :: (T4 ++ [(2, .int (nI (e.1 - 1))), (1, .int i0), (0, .ref 59)])) [] h Q
section MDT
variable {h h' h0 : Hp} {Q : Option Value → Hp → Prop} {d n q g a b i lv : Nat} {N : NS} {mt : List Nat} {T0 : List TK} {PF PX : Nat → Prop} {e : SE}
theorem drop_get {x : TK} {T : List TK} (h : T0.drop i = x :: T) : T0[i]? = some x ∧ T0.drop (i + 1) = T := by
  have hl : i < T0.length := by
    apply Classical.byContradiction
    intro c
    rw [List.drop_eq_nil_of_le (by omega)] at h
    cases h
  have h2 := List.drop_eq_getElem_cons hl
  rw [h] at h2
  injection h2 with a1 a2
  exact ⟨by rw [List.getElem?_eq_getElem hl, a1], a2.symm⟩
/-- a list's parts -/
theorem sp_list (m : RMt T0 mt q h0) {f : Nat} (r9 : R9s T0 mt q h0 f) (r3 : R3s T0 mt q h0 f) : R3s T0 mt q h0 (f + 1) := by
  intro T N e lv i PF PX h d Q i0 T4 hT4 wt hT he h6 e1 ex hlv hf hNb S hd hq1 hq2
  have h00 : 0 < d := by omega
  have hq66 := rm_q m
  cases T with
  | nil => exact wt.elim
  | cons x T =>
  obtain ⟨hx, hT1⟩ := drop_get hT
  have hi := g_lt hx
  have S0 := S
  obtain ⟨ky, H, e10, e11⟩ := S
  have m1 := rm_k ky m
  have s := m1.1.1
  have R := rm_R m1
  obtain ⟨t1, t8, t2⟩ := m1.2.2
  obtain ⟨x1, x2, x3⟩ := t2 i x hx
  have hx8 := t8 x (List.mem_of_getElem? hx)
  obtain ⟨n62, n63, n64⟩ := rm_n m1
  have c2 : (i < 3002) = True := eq_true (by omega)
  have z3 : (3 : Int32) = nI 3 := rfl
  simp only [List.length_cons] at hf hNb
  by_cases c3 : x.1 = 3
  · rw [rd_me (by decide) c3] at hq1 hq2
    have P := hq1 rfl (pI (pI h 59 10 (nI (i + 1))) 59 11 (nI lv)) (i + 1) hT1 ⟨kr_I (kr_I ky (by omega)) (by omega), by rcases hq66 with rfl | rfl <;> exact H, rfl, rfl⟩ (by rcases hq66 with rfl | rfl <;> rfl) (by rcases hq66 with rfl | rfl <;> rfl)
    rw [c3] at x1
    rcases hT4 with rfl | ⟨x, rfl⟩
    · simp only [List.nil_append, List.cons_append]
      simp only [lv_args, z_v, z_lg, z_h, z_u, z_u1, z_c, z_ct, z_sk, sbne, lst1_d, ldel, lst2_d, ldel2, z_sw, z_rok, zi, eq_self, List.map_cons, List.map_nil, List.append_nil, List.nil_append, List.cons_append, Int32.reduceLT, Int32.reduceLE, Int32.reduceAdd, Int32.reduceSub, Int32.reduceMul, Int32.reduceToInt, Int32.reduceToNatClampNeg, Int.reduceLT, Int.reduceLE, Int.reduceNeg, true_and, and_true, or_self, or_false, false_or, false_and, and_false, true_or, or_true, if_true, if_false, ne_eq, Classical.not_not, not_true_eq_false, not_false_eq_true, true_implies, false_implies, implies_true, Nat.reduceEqDiff, Nat.reduceAdd, Nat.reduceLeDiff, Nat.reduceSub, reduceCtorEq, reduceIte, b234_24, skM s, srM s, e10, n62]
      simp (disch := omega) only [nI_ti, nI_cl, le0N, ltNN, c2, x1, z3, true_and, true_imp_iff, not_true_eq_false, false_imp_iff, and_true]
      try simp only [lv_args, z_v, z_lg, z_h, z_u, z_u1, z_c, z_ct, z_sk, sbne, lst1_d, ldel, lst2_d, ldel2, z_sw, z_rok, zi, eq_self, List.map_cons, List.map_nil, List.append_nil, List.nil_append, List.cons_append, Int32.reduceLT, Int32.reduceLE, Int32.reduceAdd, Int32.reduceSub, Int32.reduceMul, Int32.reduceToInt, Int32.reduceToNatClampNeg, Int.reduceLT, Int.reduceLE, Int.reduceNeg, true_and, and_true, or_self, or_false, false_or, false_and, and_false, true_or, or_true, if_true, if_false, ne_eq, Classical.not_not, not_true_eq_false, not_false_eq_true, true_implies, false_implies, implies_true, Nat.reduceEqDiff, Nat.reduceAdd, Nat.reduceLeDiff, Nat.reduceSub, reduceCtorEq, reduceIte, b234_24]
      simp only [lv_args, z_v, z_lg, z_h, z_u, z_u1, z_c, z_ct, z_sk, sbne, lst1_d, ldel, lst2_d, ldel2, z_sw, z_rok, zi, eq_self, List.map_cons, List.map_nil, List.append_nil, List.nil_append, List.cons_append, Int32.reduceLT, Int32.reduceLE, Int32.reduceAdd, Int32.reduceSub, Int32.reduceMul, Int32.reduceToInt, Int32.reduceToNatClampNeg, Int.reduceLT, Int.reduceLE, Int.reduceNeg, true_and, and_true, or_self, or_false, false_or, false_and, and_false, true_or, or_true, if_true, if_false, ne_eq, Classical.not_not, not_true_eq_false, not_false_eq_true, true_implies, false_implies, implies_true, Nat.reduceEqDiff, Nat.reduceAdd, Nat.reduceLeDiff, Nat.reduceSub, reduceCtorEq, reduceIte, b234_79, skM s, e10, e11, nI_s, nI_m1]
      exact P
    · simp only [List.nil_append, List.cons_append]
      simp only [lv_args, z_v, z_lg, z_h, z_u, z_u1, z_c, z_ct, z_sk, sbne, lst1_d, ldel, lst2_d, ldel2, z_sw, z_rok, zi, eq_self, List.map_cons, List.map_nil, List.append_nil, List.nil_append, List.cons_append, Int32.reduceLT, Int32.reduceLE, Int32.reduceAdd, Int32.reduceSub, Int32.reduceMul, Int32.reduceToInt, Int32.reduceToNatClampNeg, Int.reduceLT, Int.reduceLE, Int.reduceNeg, true_and, and_true, or_self, or_false, false_or, false_and, and_false, true_or, or_true, if_true, if_false, ne_eq, Classical.not_not, not_true_eq_false, not_false_eq_true, true_implies, false_implies, implies_true, Nat.reduceEqDiff, Nat.reduceAdd, Nat.reduceLeDiff, Nat.reduceSub, reduceCtorEq, reduceIte, b234_24, skM s, srM s, e10, n62]
      simp (disch := omega) only [nI_ti, nI_cl, le0N, ltNN, c2, x1, z3, true_and, true_imp_iff, not_true_eq_false, false_imp_iff, and_true]
      try simp only [lv_args, z_v, z_lg, z_h, z_u, z_u1, z_c, z_ct, z_sk, sbne, lst1_d, ldel, lst2_d, ldel2, z_sw, z_rok, zi, eq_self, List.map_cons, List.map_nil, List.append_nil, List.nil_append, List.cons_append, Int32.reduceLT, Int32.reduceLE, Int32.reduceAdd, Int32.reduceSub, Int32.reduceMul, Int32.reduceToInt, Int32.reduceToNatClampNeg, Int.reduceLT, Int.reduceLE, Int.reduceNeg, true_and, and_true, or_self, or_false, false_or, false_and, and_false, true_or, or_true, if_true, if_false, ne_eq, Classical.not_not, not_true_eq_false, not_false_eq_true, true_implies, false_implies, implies_true, Nat.reduceEqDiff, Nat.reduceAdd, Nat.reduceLeDiff, Nat.reduceSub, reduceCtorEq, reduceIte, b234_24]
      simp only [lv_args, z_v, z_lg, z_h, z_u, z_u1, z_c, z_ct, z_sk, sbne, lst1_d, ldel, lst2_d, ldel2, z_sw, z_rok, zi, eq_self, List.map_cons, List.map_nil, List.append_nil, List.nil_append, List.cons_append, Int32.reduceLT, Int32.reduceLE, Int32.reduceAdd, Int32.reduceSub, Int32.reduceMul, Int32.reduceToInt, Int32.reduceToNatClampNeg, Int.reduceLT, Int.reduceLE, Int.reduceNeg, true_and, and_true, or_self, or_false, false_or, false_and, and_false, true_or, or_true, if_true, if_false, ne_eq, Classical.not_not, not_true_eq_false, not_false_eq_true, true_implies, false_implies, implies_true, Nat.reduceEqDiff, Nat.reduceAdd, Nat.reduceLeDiff, Nat.reduceSub, reduceCtorEq, reduceIte, b234_79, skM s, e10, e11, nI_s, nI_m1]
      exact P
  · have wt2 := wt
    have ne3 : ¬ nI x.1 = nI 3 := by rw [nI_eqN (by omega) (by omega)]; exact c3
    -- behind the part
    have back : (rd f 9 (x :: T) N e (lv + 1)).1 = none → ∀ h' i' (x3 : Int32), T0.drop i' = (rd f 9 (x :: T) N e (lv + 1)).2.1 → RS (rd f 9 (x :: T) N e (lv + 1)).2.2.1 mt q (pdF e PF) (pdX e PX) i' (lv + 1) h0 h' → hI h' q 3 = hI h q 3 → hI h' q 2 = hI h q 2 → aWP d 234 41 ((3, .int (lstE e)) :: (T4 ++ [(2, .int (nI (e.1 - 1))), (1, .int i0), (0, .ref 59)])) [.int (nI (N.1 - 1))] h' Q := by
      intro h9 h' i' x3 hT' S' u3 u2
      rw [rd_mn (by decide) c3 h9] at hq1 hq2
      obtain ⟨w1, w2, w3, w4, w5⟩ := rd_wt f 9 (x :: T) N e (lv + 1) (Or.inl rfl) wt h9
      have cnt := rd_cnt f 9 (x :: T) N e (lv + 1) wt (Or.inl rfl) h9
      obtain ⟨⟨d1, d2⟩, d3, d4⟩ := (rd_tr f 9 (x :: T) N e (lv + 1) wt he (by omega) (Or.inl rfl) h9).1 rfl
      obtain ⟨we, wl⟩ := w1 rfl
      rw [we] at hq1 hq2
      have wT := w5 (by decide)
      generalize rd f 9 (x :: T) N e (lv + 1) = R9 at *
      simp only [List.length_cons] at cnt wl
      have eN := he.1
      have dF := (d2 e.1 eN).2.2.2.1
      have kK := (d2 e.1 eN).1
      obtain ⟨ky', H', e10', e11'⟩ := S'
      have m' := rm_k ky' m
      have s' := m'.1.1
      have R' := rm_R m'
      have nn' := nq m'.1.2 hq66
      have cN : (N.1 - 1 < 6200) = True := eq_true (by omega)
      have ce : (e.1 - 1 < 6200) = True := eq_true (by omega)
      -- the loop goes on
      have go : ∀ h2, RS R9.2.2.1 mt q PF PX i' (lv + 1) h0 h2 → hI h2 q 3 = hI h q 3 → hI h2 q 2 = hI h q 2 → aWP d 234 73 [(4, .int (nI (N.1 - 1))), (3, .int (lstE e)), (2, .int (nI (e.1 - 1))), (1, .int i0), (0, .ref 59)] [] h2 Q := fun h2 S2 v3 v2 => by
        have G := r3 R9.2.1 R9.2.2.1 (e.1, some N.1, e.2.2) lv i' PF PX h2 d Q i0 [(4, .int (nI (N.1 - 1)))] (Or.inr ⟨_, rfl⟩) wT hT' ⟨by show e.1 < _; omega, fun w => (by cases w), fun y hy => by
          injection hy with hy
          subst hy
          exact ⟨d1, d4⟩⟩ (by show nK _ e.1 = 6; rw [kK]; exact h6) e1 (fun y hy => by
          injection hy with hy
          omega) hlv (by omega) (by omega) S2 hd (fun hn h3 i3 a1 a2 a3 a4 => hq1 hn h3 i3 a1 a2 (a3.trans v3) (a4.trans v2)) hq2
        simp only [List.nil_append, List.cons_append] at G
        have el : lstE (e.1, some N.1, e.2.2) = nI (N.1 - 1) := rfl
        rw [el] at G
        simp only [lv_args, z_v, z_lg, z_h, z_u, z_u1, z_c, z_ct, z_sk, sbne, lst1_d, ldel, lst2_d, ldel2, z_sw, z_rok, zi, eq_self, List.map_cons, List.map_nil, List.append_nil, List.nil_append, List.cons_append, Int32.reduceLT, Int32.reduceLE, Int32.reduceAdd, Int32.reduceSub, Int32.reduceMul, Int32.reduceToInt, Int32.reduceToNatClampNeg, Int.reduceLT, Int.reduceLE, Int.reduceNeg, true_and, and_true, or_self, or_false, false_or, false_and, and_false, true_or, or_true, if_true, if_false, ne_eq, Classical.not_not, not_true_eq_false, not_false_eq_true, true_implies, false_implies, implies_true, Nat.reduceEqDiff, Nat.reduceAdd, Nat.reduceLeDiff, Nat.reduceSub, reduceCtorEq, reduceIte, b234_73]
        exact G
      have at48 : aWP d 234 43 [(4, .int (nI (N.1 - 1))), (3, .int (lstE e)), (2, .int (nI (e.1 - 1))), (1, .int i0), (0, .ref 59)] [] h' Q := by
        cases ee : e.2.1 with
        | none =>
          have el : lstE e = -1 := by unfold lstE; rw [ee]
          rw [if_pos ⟨rfl, ee⟩] at dF
          have H2 : HX R9.2.2.1 mt q (fun n => PF n ∨ n = e.1) PX h' := hx_w H' (fun n _ w => w.elim Or.inl (fun w => Or.inr w.1)) (fun n _ w => w.elim id (fun w => by rw [ee] at w; cases w))
          have H3 := hx_F hq66 H2 e1 dF (by omega) (by omega)
          rw [el] at go ⊢
          have G := go _ ⟨kr_A ky' (by omega), H3, by rcases hq66 with rfl | rfl <;> exact e10', by rcases hq66 with rfl | rfl <;> exact e11'⟩ u3 u2
          rcases hq66 with rfl | rfl
          · have n4 : hN h' 70 = 6200 := nn'.2.2.2.1
            simp only [lv_args, z_v, z_lg, z_h, z_u, z_u1, z_c, z_ct, z_sk, sbne, lst1_d, ldel, lst2_d, ldel2, z_sw, z_rok, zi, eq_self, List.map_cons, List.map_nil, List.append_nil, List.nil_append, List.cons_append, Int32.reduceLT, Int32.reduceLE, Int32.reduceAdd, Int32.reduceSub, Int32.reduceMul, Int32.reduceToInt, Int32.reduceToNatClampNeg, Int.reduceLT, Int.reduceLE, Int.reduceNeg, true_and, and_true, or_self, or_false, false_or, false_and, and_false, true_or, or_true, if_true, if_false, ne_eq, Classical.not_not, not_true_eq_false, not_false_eq_true, true_implies, false_implies, implies_true, Nat.reduceEqDiff, Nat.reduceAdd, Nat.reduceLeDiff, Nat.reduceSub, reduceCtorEq, reduceIte, b234_37]
            simp only [lv_args, z_v, z_lg, z_h, z_u, z_u1, z_c, z_ct, z_sk, sbne, lst1_d, ldel, lst2_d, ldel2, z_sw, z_rok, zi, eq_self, List.map_cons, List.map_nil, List.append_nil, List.nil_append, List.cons_append, Int32.reduceLT, Int32.reduceLE, Int32.reduceAdd, Int32.reduceSub, Int32.reduceMul, Int32.reduceToInt, Int32.reduceToNatClampNeg, Int.reduceLT, Int.reduceLE, Int.reduceNeg, true_and, and_true, or_self, or_false, false_or, false_and, and_false, true_or, or_true, if_true, if_false, ne_eq, Classical.not_not, not_true_eq_false, not_false_eq_true, true_implies, false_implies, implies_true, Nat.reduceEqDiff, Nat.reduceAdd, Nat.reduceLeDiff, Nat.reduceSub, reduceCtorEq, reduceIte, b234_48, skM s', srM s', R', n4]
            simp (disch := omega) only [nI_ti, nI_cl, le0N, ltNN, ce, true_and]
            try simp only [lv_args, z_v, z_lg, z_h, z_u, z_u1, z_c, z_ct, z_sk, sbne, lst1_d, ldel, lst2_d, ldel2, z_sw, z_rok, zi, eq_self, List.map_cons, List.map_nil, List.append_nil, List.nil_append, List.cons_append, Int32.reduceLT, Int32.reduceLE, Int32.reduceAdd, Int32.reduceSub, Int32.reduceMul, Int32.reduceToInt, Int32.reduceToNatClampNeg, Int.reduceLT, Int.reduceLE, Int.reduceNeg, true_and, and_true, or_self, or_false, false_or, false_and, and_false, true_or, or_true, if_true, if_false, ne_eq, Classical.not_not, not_true_eq_false, not_false_eq_true, true_implies, false_implies, implies_true, Nat.reduceEqDiff, Nat.reduceAdd, Nat.reduceLeDiff, Nat.reduceSub, reduceCtorEq, reduceIte, b234_48]
            exact G
          · have n4 : hN h' 90 = 6200 := nn'.2.2.2.1
            simp only [lv_args, z_v, z_lg, z_h, z_u, z_u1, z_c, z_ct, z_sk, sbne, lst1_d, ldel, lst2_d, ldel2, z_sw, z_rok, zi, eq_self, List.map_cons, List.map_nil, List.append_nil, List.nil_append, List.cons_append, Int32.reduceLT, Int32.reduceLE, Int32.reduceAdd, Int32.reduceSub, Int32.reduceMul, Int32.reduceToInt, Int32.reduceToNatClampNeg, Int.reduceLT, Int.reduceLE, Int.reduceNeg, true_and, and_true, or_self, or_false, false_or, false_and, and_false, true_or, or_true, if_true, if_false, ne_eq, Classical.not_not, not_true_eq_false, not_false_eq_true, true_implies, false_implies, implies_true, Nat.reduceEqDiff, Nat.reduceAdd, Nat.reduceLeDiff, Nat.reduceSub, reduceCtorEq, reduceIte, b234_37]
            simp only [lv_args, z_v, z_lg, z_h, z_u, z_u1, z_c, z_ct, z_sk, sbne, lst1_d, ldel, lst2_d, ldel2, z_sw, z_rok, zi, eq_self, List.map_cons, List.map_nil, List.append_nil, List.nil_append, List.cons_append, Int32.reduceLT, Int32.reduceLE, Int32.reduceAdd, Int32.reduceSub, Int32.reduceMul, Int32.reduceToInt, Int32.reduceToNatClampNeg, Int.reduceLT, Int.reduceLE, Int.reduceNeg, true_and, and_true, or_self, or_false, false_or, false_and, and_false, true_or, or_true, if_true, if_false, ne_eq, Classical.not_not, not_true_eq_false, not_false_eq_true, true_implies, false_implies, implies_true, Nat.reduceEqDiff, Nat.reduceAdd, Nat.reduceLeDiff, Nat.reduceSub, reduceCtorEq, reduceIte, b234_48, skM s', srM s', R', n4]
            simp (disch := omega) only [nI_ti, nI_cl, le0N, ltNN, ce, true_and]
            try simp only [lv_args, z_v, z_lg, z_h, z_u, z_u1, z_c, z_ct, z_sk, sbne, lst1_d, ldel, lst2_d, ldel2, z_sw, z_rok, zi, eq_self, List.map_cons, List.map_nil, List.append_nil, List.nil_append, List.cons_append, Int32.reduceLT, Int32.reduceLE, Int32.reduceAdd, Int32.reduceSub, Int32.reduceMul, Int32.reduceToInt, Int32.reduceToNatClampNeg, Int.reduceLT, Int.reduceLE, Int.reduceNeg, true_and, and_true, or_self, or_false, false_or, false_and, and_false, true_or, or_true, if_true, if_false, ne_eq, Classical.not_not, not_true_eq_false, not_false_eq_true, true_implies, false_implies, implies_true, Nat.reduceEqDiff, Nat.reduceAdd, Nat.reduceLeDiff, Nat.reduceSub, reduceCtorEq, reduceIte, b234_48]
            exact G
        | some y =>
          have hy := ex y ee
          have hyN := (he.2.2 y ee).1
          have el : lstE e = nI (y - 1) := by unfold lstE; rw [ee]
          have dX := (d2 y hyN).2.2.2.2
          rw [if_pos ee] at dX
          have H2 : HX R9.2.2.1 mt q PF (fun n => PX n ∨ n = y) h' := hx_w H' (fun n _ w => w.elim id (fun w => by rw [ee] at w; cases w.2)) (fun n _ w => w.elim Or.inl (fun w => Or.inr (by rw [ee] at w; injection w with w; exact w.symm)))
          have H3 := hx_X hq66 H2 hy dX (by omega) (by omega)
          have ne : ¬ nI (y - 1) = -1 := nI_m1' (by omega)
          rw [el] at go ⊢
          have G := go _ ⟨kr_A ky' (by omega), H3, by rcases hq66 with rfl | rfl <;> exact e10', by rcases hq66 with rfl | rfl <;> exact e11'⟩ u3 u2
          have cy : (y - 1 < 6200) = True := eq_true (by omega)
          rcases hq66 with rfl | rfl
          · have n5 : hN h' 71 = 6200 := nn'.2.2.2.2.1
            simp only [lv_args, z_v, z_lg, z_h, z_u, z_u1, z_c, z_ct, z_sk, sbne, lst1_d, ldel, lst2_d, ldel2, z_sw, z_rok, zi, eq_self, List.map_cons, List.map_nil, List.append_nil, List.nil_append, List.cons_append, Int32.reduceLT, Int32.reduceLE, Int32.reduceAdd, Int32.reduceSub, Int32.reduceMul, Int32.reduceToInt, Int32.reduceToNatClampNeg, Int.reduceLT, Int.reduceLE, Int.reduceNeg, true_and, and_true, or_self, or_false, false_or, false_and, and_false, true_or, or_true, if_true, if_false, ne_eq, Classical.not_not, not_true_eq_false, not_false_eq_true, true_implies, false_implies, implies_true, Nat.reduceEqDiff, Nat.reduceAdd, Nat.reduceLeDiff, Nat.reduceSub, reduceCtorEq, reduceIte, b234_37, ne]
            simp only [lv_args, z_v, z_lg, z_h, z_u, z_u1, z_c, z_ct, z_sk, sbne, lst1_d, ldel, lst2_d, ldel2, z_sw, z_rok, zi, eq_self, List.map_cons, List.map_nil, List.append_nil, List.nil_append, List.cons_append, Int32.reduceLT, Int32.reduceLE, Int32.reduceAdd, Int32.reduceSub, Int32.reduceMul, Int32.reduceToInt, Int32.reduceToNatClampNeg, Int.reduceLT, Int.reduceLE, Int.reduceNeg, true_and, and_true, or_self, or_false, false_or, false_and, and_false, true_or, or_true, if_true, if_false, ne_eq, Classical.not_not, not_true_eq_false, not_false_eq_true, true_implies, false_implies, implies_true, Nat.reduceEqDiff, Nat.reduceAdd, Nat.reduceLeDiff, Nat.reduceSub, reduceCtorEq, reduceIte, b234_62, skM s', srM s', R', n5]
            simp (disch := omega) only [nI_ti, nI_cl, le0N, ltNN, cy, true_and]
            try simp only [lv_args, z_v, z_lg, z_h, z_u, z_u1, z_c, z_ct, z_sk, sbne, lst1_d, ldel, lst2_d, ldel2, z_sw, z_rok, zi, eq_self, List.map_cons, List.map_nil, List.append_nil, List.nil_append, List.cons_append, Int32.reduceLT, Int32.reduceLE, Int32.reduceAdd, Int32.reduceSub, Int32.reduceMul, Int32.reduceToInt, Int32.reduceToNatClampNeg, Int.reduceLT, Int.reduceLE, Int.reduceNeg, true_and, and_true, or_self, or_false, false_or, false_and, and_false, true_or, or_true, if_true, if_false, ne_eq, Classical.not_not, not_true_eq_false, not_false_eq_true, true_implies, false_implies, implies_true, Nat.reduceEqDiff, Nat.reduceAdd, Nat.reduceLeDiff, Nat.reduceSub, reduceCtorEq, reduceIte, b234_62]
            exact G
          · have n5 : hN h' 91 = 6200 := nn'.2.2.2.2.1
            simp only [lv_args, z_v, z_lg, z_h, z_u, z_u1, z_c, z_ct, z_sk, sbne, lst1_d, ldel, lst2_d, ldel2, z_sw, z_rok, zi, eq_self, List.map_cons, List.map_nil, List.append_nil, List.nil_append, List.cons_append, Int32.reduceLT, Int32.reduceLE, Int32.reduceAdd, Int32.reduceSub, Int32.reduceMul, Int32.reduceToInt, Int32.reduceToNatClampNeg, Int.reduceLT, Int.reduceLE, Int.reduceNeg, true_and, and_true, or_self, or_false, false_or, false_and, and_false, true_or, or_true, if_true, if_false, ne_eq, Classical.not_not, not_true_eq_false, not_false_eq_true, true_implies, false_implies, implies_true, Nat.reduceEqDiff, Nat.reduceAdd, Nat.reduceLeDiff, Nat.reduceSub, reduceCtorEq, reduceIte, b234_37, ne]
            simp only [lv_args, z_v, z_lg, z_h, z_u, z_u1, z_c, z_ct, z_sk, sbne, lst1_d, ldel, lst2_d, ldel2, z_sw, z_rok, zi, eq_self, List.map_cons, List.map_nil, List.append_nil, List.nil_append, List.cons_append, Int32.reduceLT, Int32.reduceLE, Int32.reduceAdd, Int32.reduceSub, Int32.reduceMul, Int32.reduceToInt, Int32.reduceToNatClampNeg, Int.reduceLT, Int.reduceLE, Int.reduceNeg, true_and, and_true, or_self, or_false, false_or, false_and, and_false, true_or, or_true, if_true, if_false, ne_eq, Classical.not_not, not_true_eq_false, not_false_eq_true, true_implies, false_implies, implies_true, Nat.reduceEqDiff, Nat.reduceAdd, Nat.reduceLeDiff, Nat.reduceSub, reduceCtorEq, reduceIte, b234_62, skM s', srM s', R', n5]
            simp (disch := omega) only [nI_ti, nI_cl, le0N, ltNN, cy, true_and]
            try simp only [lv_args, z_v, z_lg, z_h, z_u, z_u1, z_c, z_ct, z_sk, sbne, lst1_d, ldel, lst2_d, ldel2, z_sw, z_rok, zi, eq_self, List.map_cons, List.map_nil, List.append_nil, List.nil_append, List.cons_append, Int32.reduceLT, Int32.reduceLE, Int32.reduceAdd, Int32.reduceSub, Int32.reduceMul, Int32.reduceToInt, Int32.reduceToNatClampNeg, Int.reduceLT, Int.reduceLE, Int.reduceNeg, true_and, and_true, or_self, or_false, false_or, false_and, and_false, true_or, or_true, if_true, if_false, ne_eq, Classical.not_not, not_true_eq_false, not_false_eq_true, true_implies, false_implies, implies_true, Nat.reduceEqDiff, Nat.reduceAdd, Nat.reduceLeDiff, Nat.reduceSub, reduceCtorEq, reduceIte, b234_62]
            exact G
      rcases hT4 with rfl | ⟨x, rfl⟩
      · simp only [List.nil_append, List.cons_append]
        simp only [lv_args, z_v, z_lg, z_h, z_u, z_u1, z_c, z_ct, z_sk, sbne, lst1_d, ldel, lst2_d, ldel2, z_sw, z_rok, zi, eq_self, List.map_cons, List.map_nil, List.append_nil, List.nil_append, List.cons_append, Int32.reduceLT, Int32.reduceLE, Int32.reduceAdd, Int32.reduceSub, Int32.reduceMul, Int32.reduceToInt, Int32.reduceToNatClampNeg, Int.reduceLT, Int.reduceLE, Int.reduceNeg, true_and, and_true, or_self, or_false, false_or, false_and, and_false, true_or, or_true, if_true, if_false, ne_eq, Classical.not_not, not_true_eq_false, not_false_eq_true, true_implies, false_implies, implies_true, Nat.reduceEqDiff, Nat.reduceAdd, Nat.reduceLeDiff, Nat.reduceSub, reduceCtorEq, reduceIte, b234_37]
        simp only [lv_args, z_v, z_lg, z_h, z_u, z_u1, z_c, z_ct, z_sk, sbne, lst1_d, ldel, lst2_d, ldel2, z_sw, z_rok, zi, eq_self, List.map_cons, List.map_nil, List.append_nil, List.nil_append, List.cons_append, Int32.reduceLT, Int32.reduceLE, Int32.reduceAdd, Int32.reduceSub, Int32.reduceMul, Int32.reduceToInt, Int32.reduceToNatClampNeg, Int.reduceLT, Int.reduceLE, Int.reduceNeg, true_and, and_true, or_self, or_false, false_or, false_and, and_false, true_or, or_true, if_true, if_false, ne_eq, Classical.not_not, not_true_eq_false, not_false_eq_true, true_implies, false_implies, implies_true, Nat.reduceEqDiff, Nat.reduceAdd, Nat.reduceLeDiff, Nat.reduceSub, reduceCtorEq, reduceIte, b234_37] at at48
        exact at48
      · simp only [List.nil_append, List.cons_append]
        simp only [lv_args, z_v, z_lg, z_h, z_u, z_u1, z_c, z_ct, z_sk, sbne, lst1_d, ldel, lst2_d, ldel2, z_sw, z_rok, zi, eq_self, List.map_cons, List.map_nil, List.append_nil, List.nil_append, List.cons_append, Int32.reduceLT, Int32.reduceLE, Int32.reduceAdd, Int32.reduceSub, Int32.reduceMul, Int32.reduceToInt, Int32.reduceToNatClampNeg, Int.reduceLT, Int.reduceLE, Int.reduceNeg, true_and, and_true, or_self, or_false, false_or, false_and, and_false, true_or, or_true, if_true, if_false, ne_eq, Classical.not_not, not_true_eq_false, not_false_eq_true, true_implies, false_implies, implies_true, Nat.reduceEqDiff, Nat.reduceAdd, Nat.reduceLeDiff, Nat.reduceSub, reduceCtorEq, reduceIte, b234_37]
        simp only [lv_args, z_v, z_lg, z_h, z_u, z_u1, z_c, z_ct, z_sk, sbne, lst1_d, ldel, lst2_d, ldel2, z_sw, z_rok, zi, eq_self, List.map_cons, List.map_nil, List.append_nil, List.nil_append, List.cons_append, Int32.reduceLT, Int32.reduceLE, Int32.reduceAdd, Int32.reduceSub, Int32.reduceMul, Int32.reduceToInt, Int32.reduceToNatClampNeg, Int.reduceLT, Int.reduceLE, Int.reduceNeg, true_and, and_true, or_self, or_false, false_or, false_and, and_false, true_or, or_true, if_true, if_false, ne_eq, Classical.not_not, not_true_eq_false, not_false_eq_true, true_implies, false_implies, implies_true, Nat.reduceEqDiff, Nat.reduceAdd, Nat.reduceLeDiff, Nat.reduceSub, reduceCtorEq, reduceIte, b234_37] at at48
        exact at48
    have flt : ∀ k p, (rd f 9 (x :: T) N e (lv + 1)).1 = some (k, p) → ∀ h', KYt q h0 h' → hI h' 59 13 = nI k → hI h' 59 14 = nI p → Q (some (.retAddr 65)) h' := fun k p h9 h' a1 a2 a3 => by
      rw [rd_mf (by decide) c3 (by rw [h9]; simp)] at hq2
      exact hq2 k p h9 h' a1 a2 a3
    have call : ∀ L, L = ((3, .int (lstE e)) :: (T4 ++ [(2, .int (nI (e.1 - 1))), (1, .int i0), (0, .ref 59)]) : ALS) → aEv (d - 1) 199 [.ref 59] h (aCx d 234 41 L [] h Q) := fun L hL => by
      refine r9 (x :: T) N e (lv + 1) i PF PX h _ _ wt hT he h6 (by have := he.1; omega) (by omega) (by simp only [List.length_cons]; omega) (by simp only [List.length_cons]; omega) S0 (by omega) (fun hn h' i' a1 a2 a3 a4 => Or.inr ?_) (fun k p h9 h' a1 a2 a3 => Or.inl ⟨rfl, flt k p h9 h' a1 a2 a3⟩)
      refine ⟨rfl, Or.inl ?_, ?_⟩
      · rw [a2.1.1.2.2.2.2.2.1, ky.1.2.2.2.2.2.1]
      · rw [hL]
        exact back hn h' i' 0 a1 a2 a3 a4
    rcases hT4 with rfl | ⟨x', rfl⟩
    · have go := call _ rfl
      simp only [List.nil_append, List.cons_append] at go ⊢
      simp only [lv_args, z_v, z_lg, z_h, z_u, z_u1, z_c, z_ct, z_sk, sbne, lst1_d, ldel, lst2_d, ldel2, z_sw, z_rok, zi, eq_self, List.map_cons, List.map_nil, List.append_nil, List.nil_append, List.cons_append, Int32.reduceLT, Int32.reduceLE, Int32.reduceAdd, Int32.reduceSub, Int32.reduceMul, Int32.reduceToInt, Int32.reduceToNatClampNeg, Int.reduceLT, Int.reduceLE, Int.reduceNeg, true_and, and_true, or_self, or_false, false_or, false_and, and_false, true_or, or_true, if_true, if_false, ne_eq, Classical.not_not, not_true_eq_false, not_false_eq_true, true_implies, false_implies, implies_true, Nat.reduceEqDiff, Nat.reduceAdd, Nat.reduceLeDiff, Nat.reduceSub, reduceCtorEq, reduceIte, b234_24, skM s, srM s, e10, n62]
      simp (disch := omega) only [nI_ti, nI_cl, le0N, ltNN, c2, x1, z3, true_and, ne3, not_false_eq_true, true_imp_iff, false_imp_iff]
      try simp only [lv_args, z_v, z_lg, z_h, z_u, z_u1, z_c, z_ct, z_sk, sbne, lst1_d, ldel, lst2_d, ldel2, z_sw, z_rok, zi, eq_self, List.map_cons, List.map_nil, List.append_nil, List.nil_append, List.cons_append, Int32.reduceLT, Int32.reduceLE, Int32.reduceAdd, Int32.reduceSub, Int32.reduceMul, Int32.reduceToInt, Int32.reduceToNatClampNeg, Int.reduceLT, Int.reduceLE, Int.reduceNeg, true_and, and_true, or_self, or_false, false_or, false_and, and_false, true_or, or_true, if_true, if_false, ne_eq, Classical.not_not, not_true_eq_false, not_false_eq_true, true_implies, false_implies, implies_true, Nat.reduceEqDiff, Nat.reduceAdd, Nat.reduceLeDiff, Nat.reduceSub, reduceCtorEq, reduceIte, b234_24]
      simp only [lv_args, z_v, z_lg, z_h, z_u, z_u1, z_c, z_ct, z_sk, sbne, lst1_d, ldel, lst2_d, ldel2, z_sw, z_rok, zi, eq_self, List.map_cons, List.map_nil, List.append_nil, List.nil_append, List.cons_append, Int32.reduceLT, Int32.reduceLE, Int32.reduceAdd, Int32.reduceSub, Int32.reduceMul, Int32.reduceToInt, Int32.reduceToNatClampNeg, Int.reduceLT, Int.reduceLE, Int.reduceNeg, true_and, and_true, or_self, or_false, false_or, false_and, and_false, true_or, or_true, if_true, if_false, ne_eq, Classical.not_not, not_true_eq_false, not_false_eq_true, true_implies, false_implies, implies_true, Nat.reduceEqDiff, Nat.reduceAdd, Nat.reduceLeDiff, Nat.reduceSub, reduceCtorEq, reduceIte, b234_37, skM s, h00]
      exact go
    · have go := call _ rfl
      simp only [List.nil_append, List.cons_append] at go ⊢
      simp only [lv_args, z_v, z_lg, z_h, z_u, z_u1, z_c, z_ct, z_sk, sbne, lst1_d, ldel, lst2_d, ldel2, z_sw, z_rok, zi, eq_self, List.map_cons, List.map_nil, List.append_nil, List.nil_append, List.cons_append, Int32.reduceLT, Int32.reduceLE, Int32.reduceAdd, Int32.reduceSub, Int32.reduceMul, Int32.reduceToInt, Int32.reduceToNatClampNeg, Int.reduceLT, Int.reduceLE, Int.reduceNeg, true_and, and_true, or_self, or_false, false_or, false_and, and_false, true_or, or_true, if_true, if_false, ne_eq, Classical.not_not, not_true_eq_false, not_false_eq_true, true_implies, false_implies, implies_true, Nat.reduceEqDiff, Nat.reduceAdd, Nat.reduceLeDiff, Nat.reduceSub, reduceCtorEq, reduceIte, b234_24, skM s, srM s, e10, n62]
      simp (disch := omega) only [nI_ti, nI_cl, le0N, ltNN, c2, x1, z3, true_and, ne3, not_false_eq_true, true_imp_iff, false_imp_iff]
      try simp only [lv_args, z_v, z_lg, z_h, z_u, z_u1, z_c, z_ct, z_sk, sbne, lst1_d, ldel, lst2_d, ldel2, z_sw, z_rok, zi, eq_self, List.map_cons, List.map_nil, List.append_nil, List.nil_append, List.cons_append, Int32.reduceLT, Int32.reduceLE, Int32.reduceAdd, Int32.reduceSub, Int32.reduceMul, Int32.reduceToInt, Int32.reduceToNatClampNeg, Int.reduceLT, Int.reduceLE, Int.reduceNeg, true_and, and_true, or_self, or_false, false_or, false_and, and_false, true_or, or_true, if_true, if_false, ne_eq, Classical.not_not, not_true_eq_false, not_false_eq_true, true_implies, false_implies, implies_true, Nat.reduceEqDiff, Nat.reduceAdd, Nat.reduceLeDiff, Nat.reduceSub, reduceCtorEq, reduceIte, b234_24]
      simp only [lv_args, z_v, z_lg, z_h, z_u, z_u1, z_c, z_ct, z_sk, sbne, lst1_d, ldel, lst2_d, ldel2, z_sw, z_rok, zi, eq_self, List.map_cons, List.map_nil, List.append_nil, List.nil_append, List.cons_append, Int32.reduceLT, Int32.reduceLE, Int32.reduceAdd, Int32.reduceSub, Int32.reduceMul, Int32.reduceToInt, Int32.reduceToNatClampNeg, Int.reduceLT, Int.reduceLE, Int.reduceNeg, true_and, and_true, or_self, or_false, false_or, false_and, and_false, true_or, or_true, if_true, if_false, ne_eq, Classical.not_not, not_true_eq_false, not_false_eq_true, true_implies, false_implies, implies_true, Nat.reduceEqDiff, Nat.reduceAdd, Nat.reduceLeDiff, Nat.reduceSub, reduceCtorEq, reduceIte, b234_37, skM s, h00]
      exact go
end MDT
