/-! BUILD. The reader's nodes and its lists that are not closed yet -/
abbrev NS := Nat × (Nat → Int32) × (Nat → Int32) × (Nat → Int32) × (Nat → Int32) × (Nat → Int32)
abbrev SE := Nat × Option Nat × Bool
def RNs (N : NS) (h : Hp) : Prop := hI h 3 7 = nI N.1 ∧ N.1 ≤ 7000 ∧ ∀ i, i < N.1 → hA h 10 i = N.2.1 i ∧ hA h 11 i = N.2.2.1 i ∧ hA h 12 i = N.2.2.2.1 i ∧ hA h 13 i = N.2.2.2.2.1 i ∧ hA h 14 i = N.2.2.2.2.2 i
def nwN (N : NS) (k c p : Int32) : NS := (N.1 + 1, upd N.2.1 N.1 k, upd N.2.2.1 N.1 c, upd N.2.2.2.1 N.1 p, upd N.2.2.2.2.1 N.1 (-1), upd N.2.2.2.2.2 N.1 (-1))
def adN (N : NS) (e : SE) (d : Nat) : NS := match e.2.1 with
  | none => (N.1, N.2.1, upd N.2.2.1 e.1 (N.2.2.1 e.1 + 1), N.2.2.2.1, upd N.2.2.2.2.1 e.1 (nI d), N.2.2.2.2.2)
  | some x => (N.1, N.2.1, upd N.2.2.1 e.1 (N.2.2.1 e.1 + 1), N.2.2.2.1, N.2.2.2.2.1, upd N.2.2.2.2.2 x (nI d))
def RSk (stk : List SE) (h : Hp) : Prop := stk.length ≤ 31 ∧ hI h 3 11 = nI (stk.length - 1) ∧ ∀ (j : Nat) (e : SE), stk.reverse[j]? = some e → hA h 15 j = nI e.1 ∧ hA h 16 j = oI e.2.1 ∧ hA h 17 j = (if e.2.2 then 1 else 0)
def WS (N : NS) (stk : List SE) : Prop := ∀ e, e ∈ stk → e.1 < N.1 ∧ ∀ x, e.2.1 = some x → x < N.1
/-- all but the reader's nodes and lists is alike -/
def FrR (h h' : Hp) : Prop := hK h' = hK h ∧ hR h' = hR h ∧ hN h' = hN h ∧ hn h' = hn h ∧ hu h' = hu h ∧ hv h' = hv h ∧ (∀ a i, ¬ (a = 3 ∧ (i = 7 ∨ i = 11)) → hI h' a i = hI h a i) ∧ hL h' = hL h ∧ (∀ a, (a < 10 ∨ 17 < a) → hA h' a = hA h a) ∧ hB h' = hB h
def roomN (N : NS) (h : Hp) : Prop := N.1 < hN h 10 ∧ N.1 < hN h 11 ∧ N.1 < hN h 12 ∧ N.1 < hN h 13 ∧ N.1 < hN h 14
/-- quotes that come to their end -/
def cq : List SE → List SE
  | [] => []
  | [e] => [e]
  | e :: e' :: l => if e.2.2 then cq (e' :: l) else e :: e' :: l
section RND
variable {h h' : Hp} {Q : Option Value → Hp → Prop} {d : Nat} {N : NS} {stk : List SE} {K : List KY} {mt : List Nat}
theorem frr_rf : FrR h h := ⟨rfl, rfl, rfl, rfl, rfl, rfl, fun _ _ _ => rfl, rfl, fun _ _ => rfl, rfl⟩
theorem frr_tr {h1 h2 : Hp} (a : FrR h h1) (b : FrR h1 h2) : FrR h h2 := by
  obtain ⟨a1, a2, a3, a4, a5, a6, a7, a8, a9, a10⟩ := a
  obtain ⟨b1, b2, b3, b4, b5, b6, b7, b8, b9, b10⟩ := b
  exact ⟨b1.trans a1, b2.trans a2, b3.trans a3, b4.trans a4, b5.trans a5, b6.trans a6, fun x i c => (b7 x i c).trans (a7 x i c), b8.trans a8, fun x c => (b9 x c).trans (a9 x c), b10.trans a10⟩
theorem frr_sk (f : FrR h h') (s : Sk h) : Sk h' := (sk_same f.1 f.2.1 f.2.2.2.1 : Sk _ = Sk h) ▸ s
theorem frr_nt (f : FrR h h') (nt : NT K mt h) : NT K mt h' := by
  obtain ⟨f1, f2, f3, f4, f5, f6, f7, f8, f9, f10⟩ := f
  unfold NT at nt ⊢
  rw [f7 4 5 (by omega), f7 4 6 (by omega), f10, f3, f9 7 (by omega), f9 8 (by omega), f9 9 (by omega)]
  exact nt
theorem frr_rt {t : Nat → Nat} {n : Nat} (f : FrR h h') (r : RT t n h) : RT t n h' := by
  obtain ⟨f1, f2, f3, f4, f5, f6, f7, f8, f9, f10⟩ := f
  unfold RT at r ⊢
  rw [f7 3 13 (by omega), f2, f3, f9 1 (by omega)]
  exact r
theorem sp_newNode {k c p : Int32} (s : Sk h) (rn : RNs N h) (rs : RSk stk h) (rm : roomN N h) (hl : N.1 < 7000) (hr : hN h 10 ≤ 100000) (hq : ∀ h', RNs (nwN N k c p) h' → RSk stk h' → FrR h h' → Q (some (.int (nI N.1))) h') : aEv d 124 [.ref 3, .int k, .int c, .int p] h Q := by
  obtain ⟨r1, r2, r3⟩ := rn
  obtain ⟨m1, m2, m3, m4, m5⟩ := rm
  have c0 : (nI N.1 < nI (hN h 10)) = True := by rw [nI_ltN (by omega) (by omega)]; exact eq_true m1
  rw [e124_3 _ _ s, r1, c0]
  simp (disch := omega) only [nI_ti, nI_cl, le0N, ltNN, nI_1, nI_m1, true_imp_iff, not_true_eq_false, false_imp_iff, and_true, true_and]
  refine ⟨m1, m2, m3, m4, m5, hq _ ⟨rfl, hl, fun i hi => ?_⟩ rs ⟨rfl, rfl, rfl, rfl, rfl, rfl, fun a i c => up2_ne (by omega), rfl, fun a c => (up1_ne (by omega)).trans ((up1_ne (by omega)).trans ((up1_ne (by omega)).trans ((up1_ne (by omega)).trans (up1_ne (by omega))))), rfl⟩⟩
  show upd (hA h 10) N.1 k i = upd N.2.1 N.1 k i ∧ upd (hA h 11) N.1 c i = upd N.2.2.1 N.1 c i ∧ upd (hA h 12) N.1 p i = upd N.2.2.2.1 N.1 p i ∧ upd (hA h 13) N.1 (-1) i = upd N.2.2.2.2.1 N.1 (-1) i ∧ upd (hA h 14) N.1 (-1) i = upd N.2.2.2.2.2 N.1 (-1) i
  have hi : i < N.1 + 1 := hi
  unfold upd
  by_cases ci : i = N.1
  · simp only [if_pos ci, and_self]
  · simp only [if_neg ci]
    exact r3 i (by omega)
theorem sp_addPart {e : SE} {x : Nat} (s : Sk h) (rn : RNs N h) (rs : RSk (e :: stk) h) (ws : WS N (e :: stk)) (hx : x < N.1) (n15 : hN h 15 = 31 ∧ hN h 16 = 31) (rm : N.1 ≤ hN h 11 ∧ N.1 ≤ hN h 13 ∧ N.1 ≤ hN h 14) (hq : ∀ h', RNs (adN N e x) h' → RSk ((e.1, some x, e.2.2) :: stk) h' → FrR h h' → Q none h') : aEv d 109 [.ref 3, .int (nI x)] h Q := by
  obtain ⟨r1, r2, r3⟩ := rn
  obtain ⟨q1, q2, q3⟩ := rs
  obtain ⟨w1, w2⟩ := ws e (by simp)
  have q2 : hI h 3 11 = nI stk.length := q2
  have q1 : stk.length + 1 ≤ 31 := q1
  obtain ⟨t1, t2, t3⟩ := q3 stk.length e rev_last
  have sk : ∀ {H : Hp}, hI H 3 11 = nI stk.length → hA H 15 = hA h 15 → hA H 16 = upd (hA h 16) stk.length (nI x) → hA H 17 = hA h 17 → RSk ((e.1, some x, e.2.2) :: stk) H := fun {H} a1 a2 a3 a4 => by
    refine ⟨q1, a1, fun j y hj => ?_⟩
    rw [a2, a3, a4]
    rw [List.reverse_cons] at hj
    by_cases c : j < stk.length
    · rw [List.getElem?_append_left (by simpa using c)] at hj
      have := q3 j y (by rw [List.reverse_cons]; exact g_app hj)
      exact ⟨this.1, (if_neg (by omega)).trans this.2.1, this.2.2⟩
    · have hj2 : j = stk.length := by
        have := g_lt hj
        simp at this
        omega
      subst hj2
      rw [List.getElem?_append_right (by simp)] at hj
      simp at hj
      subst hj
      exact ⟨t1, if_pos rfl, t3⟩
  have hct : hA h 11 e.1 = N.2.2.1 e.1 := (r3 e.1 w1).2.1
  have z30 : (30 : Int32) = nI 30 := rfl
  have c1 : (nI stk.length < 0) = False := nI_lt0 (by omega)
  have c2 : (nI 30 < nI stk.length) = False := by rw [nI_ltN (by omega) (by omega)]; exact eq_false (by omega)
  have c3 : (nI e.1 < 0) = False := nI_lt0 (by omega)
  have c4 : (nI e.1 < nI N.1) = True := by rw [nI_ltN (by omega) (by omega)]; exact eq_true w1
  unfold aEv
  simp only [lv_args, z_v, z_lg, z_h, z_u, z_u1, z_c, z_ct, z_sk, sbne, lst1_d, ldel, lst2_d, ldel2, z_sw, z_rok, zi, eq_self, List.map_cons, List.map_nil, List.append_nil, List.nil_append, List.cons_append, Int32.reduceLT, Int32.reduceLE, Int32.reduceAdd, Int32.reduceSub, Int32.reduceMul, Int32.reduceToInt, Int32.reduceToNatClampNeg, Int.reduceLT, Int.reduceLE, Int.reduceNeg, true_and, and_true, or_self, or_false, false_or, false_and, and_false, true_or, or_true, if_true, if_false, ne_eq, Classical.not_not, not_true_eq_false, not_false_eq_true, true_implies, false_implies, implies_true, Nat.reduceEqDiff, Nat.reduceAdd, Nat.reduceLeDiff, Nat.reduceSub, reduceCtorEq, reduceIte, b109_0, skX s, q2, c1]
  simp only [lv_args, z_v, z_lg, z_h, z_u, z_u1, z_c, z_ct, z_sk, sbne, lst1_d, ldel, lst2_d, ldel2, z_sw, z_rok, zi, eq_self, List.map_cons, List.map_nil, List.append_nil, List.nil_append, List.cons_append, Int32.reduceLT, Int32.reduceLE, Int32.reduceAdd, Int32.reduceSub, Int32.reduceMul, Int32.reduceToInt, Int32.reduceToNatClampNeg, Int.reduceLT, Int.reduceLE, Int.reduceNeg, true_and, and_true, or_self, or_false, false_or, false_and, and_false, true_or, or_true, if_true, if_false, ne_eq, Classical.not_not, not_true_eq_false, not_false_eq_true, true_implies, false_implies, implies_true, Nat.reduceEqDiff, Nat.reduceAdd, Nat.reduceLeDiff, Nat.reduceSub, reduceCtorEq, reduceIte, b109_7, skX s, q2, z30, c2]
  simp only [lv_args, z_v, z_lg, z_h, z_u, z_u1, z_c, z_ct, z_sk, sbne, lst1_d, ldel, lst2_d, ldel2, z_sw, z_rok, zi, eq_self, List.map_cons, List.map_nil, List.append_nil, List.nil_append, List.cons_append, Int32.reduceLT, Int32.reduceLE, Int32.reduceAdd, Int32.reduceSub, Int32.reduceMul, Int32.reduceToInt, Int32.reduceToNatClampNeg, Int.reduceLT, Int.reduceLE, Int.reduceNeg, true_and, and_true, or_self, or_false, false_or, false_and, and_false, true_or, or_true, if_true, if_false, ne_eq, Classical.not_not, not_true_eq_false, not_false_eq_true, true_implies, false_implies, implies_true, Nat.reduceEqDiff, Nat.reduceAdd, Nat.reduceLeDiff, Nat.reduceSub, reduceCtorEq, reduceIte, b109_16, skX s, srX s, q2]
  simp (disch := omega) only [nI_ti, nI_cl, le0N, ltNN, t1, n15.1, true_and]
  refine ⟨by omega, ?_⟩
  simp only [lv_args, z_v, z_lg, z_h, z_u, z_u1, z_c, z_ct, z_sk, sbne, lst1_d, ldel, lst2_d, ldel2, z_sw, z_rok, zi, eq_self, List.map_cons, List.map_nil, List.append_nil, List.nil_append, List.cons_append, Int32.reduceLT, Int32.reduceLE, Int32.reduceAdd, Int32.reduceSub, Int32.reduceMul, Int32.reduceToInt, Int32.reduceToNatClampNeg, Int.reduceLT, Int.reduceLE, Int.reduceNeg, true_and, and_true, or_self, or_false, false_or, false_and, and_false, true_or, or_true, if_true, if_false, ne_eq, Classical.not_not, not_true_eq_false, not_false_eq_true, true_implies, false_implies, implies_true, Nat.reduceEqDiff, Nat.reduceAdd, Nat.reduceLeDiff, Nat.reduceSub, reduceCtorEq, reduceIte, b109_29, c3]
  simp only [lv_args, z_v, z_lg, z_h, z_u, z_u1, z_c, z_ct, z_sk, sbne, lst1_d, ldel, lst2_d, ldel2, z_sw, z_rok, zi, eq_self, List.map_cons, List.map_nil, List.append_nil, List.nil_append, List.cons_append, Int32.reduceLT, Int32.reduceLE, Int32.reduceAdd, Int32.reduceSub, Int32.reduceMul, Int32.reduceToInt, Int32.reduceToNatClampNeg, Int.reduceLT, Int.reduceLE, Int.reduceNeg, true_and, and_true, or_self, or_false, false_or, false_and, and_false, true_or, or_true, if_true, if_false, ne_eq, Classical.not_not, not_true_eq_false, not_false_eq_true, true_implies, false_implies, implies_true, Nat.reduceEqDiff, Nat.reduceAdd, Nat.reduceLeDiff, Nat.reduceSub, reduceCtorEq, reduceIte, b109_34, skX s, r1, c4]
  simp only [lv_args, z_v, z_lg, z_h, z_u, z_u1, z_c, z_ct, z_sk, sbne, lst1_d, ldel, lst2_d, ldel2, z_sw, z_rok, zi, eq_self, List.map_cons, List.map_nil, List.append_nil, List.nil_append, List.cons_append, Int32.reduceLT, Int32.reduceLE, Int32.reduceAdd, Int32.reduceSub, Int32.reduceMul, Int32.reduceToInt, Int32.reduceToNatClampNeg, Int.reduceLT, Int.reduceLE, Int.reduceNeg, true_and, and_true, or_self, or_false, false_or, false_and, and_false, true_or, or_true, if_true, if_false, ne_eq, Classical.not_not, not_true_eq_false, not_false_eq_true, true_implies, false_implies, implies_true, Nat.reduceEqDiff, Nat.reduceAdd, Nat.reduceLeDiff, Nat.reduceSub, reduceCtorEq, reduceIte, b109_43, skX s, srX s, q2]
  simp (disch := omega) only [nI_ti, nI_cl, le0N, ltNN, t2, n15.2, true_and]
  refine ⟨by omega, fun c => ?_, fun c => ?_⟩
  · cases hla : e.2.1 with
    | some y =>
      rw [hla] at c
      have hy := w2 y hla
      have c : nI y < 0 := c
      rw [nI_lt0 (by omega)] at c
      exact c.elim
    | none =>
      have ea : adN N e x = (N.1, N.2.1, upd N.2.2.1 e.1 (N.2.2.1 e.1 + 1), N.2.2.2.1, upd N.2.2.2.2.1 e.1 (nI x), N.2.2.2.2.2) := by
        unfold adN; rw [hla]
      rw [ea] at hq
      simp only [lv_args, z_v, z_lg, z_h, z_u, z_u1, z_c, z_ct, z_sk, sbne, lst1_d, ldel, lst2_d, ldel2, z_sw, z_rok, zi, eq_self, List.map_cons, List.map_nil, List.append_nil, List.nil_append, List.cons_append, Int32.reduceLT, Int32.reduceLE, Int32.reduceAdd, Int32.reduceSub, Int32.reduceMul, Int32.reduceToInt, Int32.reduceToNatClampNeg, Int.reduceLT, Int.reduceLE, Int.reduceNeg, true_and, and_true, or_self, or_false, false_or, false_and, and_false, true_or, or_true, if_true, if_false, ne_eq, Classical.not_not, not_true_eq_false, not_false_eq_true, true_implies, false_implies, implies_true, Nat.reduceEqDiff, Nat.reduceAdd, Nat.reduceLeDiff, Nat.reduceSub, reduceCtorEq, reduceIte, b109_75, skX s, srX s]
      simp (disch := omega) only [nI_ti, nI_cl, le0N, ltNN, true_and]
      refine ⟨by omega, ?_⟩
      simp only [lv_args, z_v, z_lg, z_h, z_u, z_u1, z_c, z_ct, z_sk, sbne, lst1_d, ldel, lst2_d, ldel2, z_sw, z_rok, zi, eq_self, List.map_cons, List.map_nil, List.append_nil, List.nil_append, List.cons_append, Int32.reduceLT, Int32.reduceLE, Int32.reduceAdd, Int32.reduceSub, Int32.reduceMul, Int32.reduceToInt, Int32.reduceToNatClampNeg, Int.reduceLT, Int.reduceLE, Int.reduceNeg, true_and, and_true, or_self, or_false, false_or, false_and, and_false, true_or, or_true, if_true, if_false, ne_eq, Classical.not_not, not_true_eq_false, not_false_eq_true, true_implies, false_implies, implies_true, Nat.reduceEqDiff, Nat.reduceAdd, Nat.reduceLeDiff, Nat.reduceSub, reduceCtorEq, reduceIte, b109_82, skX s, srX s, q2]
      simp (disch := omega) only [nI_ti, nI_cl, le0N, ltNN, n15.2, true_and]
      refine ⟨by omega, by omega, by omega, hq _ ⟨r1, r2, fun i hi => ?_⟩ (sk q2 rfl rfl rfl) ⟨rfl, rfl, rfl, rfl, rfl, rfl, fun _ _ _ => rfl, rfl, fun a c => (up1_ne (by omega)).trans ((up1_ne (by omega)).trans (up1_ne (by omega))), rfl⟩⟩
      obtain ⟨x1, x2, x3, x4, x5⟩ := r3 i hi
      show hA h 10 i = _ ∧ upd (hA h 11) e.1 (hA h 11 e.1 + 1) i = upd N.2.2.1 e.1 (N.2.2.1 e.1 + 1) i ∧ hA h 12 i = _ ∧ upd (hA h 13) e.1 (nI x) i = upd N.2.2.2.2.1 e.1 (nI x) i ∧ hA h 14 i = _
      unfold upd
      rw [hct]
      refine ⟨x1, ?_, x3, ?_, x5⟩
      · split
        · rfl
        · exact x2
      · split
        · rfl
        · exact x4
  · cases hla : e.2.1 with
    | none =>
      rw [hla] at c
      exact absurd (show (-1 : Int32) < 0 by decide) c
    | some y =>
      have hy := w2 y hla
      have ho : oI (some y) = nI y := rfl
      rw [ho]
      have c5 : (nI N.1 ≤ nI y) = False := by rw [nI_leN (by omega) (by omega)]; exact eq_false (by omega)
      have ea : adN N e x = (N.1, N.2.1, upd N.2.2.1 e.1 (N.2.2.1 e.1 + 1), N.2.2.2.1, N.2.2.2.2.1, upd N.2.2.2.2.2 y (nI x)) := by
        unfold adN; rw [hla]
      rw [ea] at hq
      simp only [lv_args, z_v, z_lg, z_h, z_u, z_u1, z_c, z_ct, z_sk, sbne, lst1_d, ldel, lst2_d, ldel2, z_sw, z_rok, zi, eq_self, List.map_cons, List.map_nil, List.append_nil, List.nil_append, List.cons_append, Int32.reduceLT, Int32.reduceLE, Int32.reduceAdd, Int32.reduceSub, Int32.reduceMul, Int32.reduceToInt, Int32.reduceToNatClampNeg, Int.reduceLT, Int.reduceLE, Int.reduceNeg, true_and, and_true, or_self, or_false, false_or, false_and, and_false, true_or, or_true, if_true, if_false, ne_eq, Classical.not_not, not_true_eq_false, not_false_eq_true, true_implies, false_implies, implies_true, Nat.reduceEqDiff, Nat.reduceAdd, Nat.reduceLeDiff, Nat.reduceSub, reduceCtorEq, reduceIte, b109_57, skX s, r1, c5]
      simp only [lv_args, z_v, z_lg, z_h, z_u, z_u1, z_c, z_ct, z_sk, sbne, lst1_d, ldel, lst2_d, ldel2, z_sw, z_rok, zi, eq_self, List.map_cons, List.map_nil, List.append_nil, List.nil_append, List.cons_append, Int32.reduceLT, Int32.reduceLE, Int32.reduceAdd, Int32.reduceSub, Int32.reduceMul, Int32.reduceToInt, Int32.reduceToNatClampNeg, Int.reduceLT, Int.reduceLE, Int.reduceNeg, true_and, and_true, or_self, or_false, false_or, false_and, and_false, true_or, or_true, if_true, if_false, ne_eq, Classical.not_not, not_true_eq_false, not_false_eq_true, true_implies, false_implies, implies_true, Nat.reduceEqDiff, Nat.reduceAdd, Nat.reduceLeDiff, Nat.reduceSub, reduceCtorEq, reduceIte, b109_65, skX s, srX s]
      simp (disch := omega) only [nI_ti, nI_cl, le0N, ltNN, true_and]
      refine ⟨by omega, ?_⟩
      simp only [lv_args, z_v, z_lg, z_h, z_u, z_u1, z_c, z_ct, z_sk, sbne, lst1_d, ldel, lst2_d, ldel2, z_sw, z_rok, zi, eq_self, List.map_cons, List.map_nil, List.append_nil, List.nil_append, List.cons_append, Int32.reduceLT, Int32.reduceLE, Int32.reduceAdd, Int32.reduceSub, Int32.reduceMul, Int32.reduceToInt, Int32.reduceToNatClampNeg, Int.reduceLT, Int.reduceLE, Int.reduceNeg, true_and, and_true, or_self, or_false, false_or, false_and, and_false, true_or, or_true, if_true, if_false, ne_eq, Classical.not_not, not_true_eq_false, not_false_eq_true, true_implies, false_implies, implies_true, Nat.reduceEqDiff, Nat.reduceAdd, Nat.reduceLeDiff, Nat.reduceSub, reduceCtorEq, reduceIte, b109_82, skX s, srX s, q2]
      simp (disch := omega) only [nI_ti, nI_cl, le0N, ltNN, n15.2, true_and]
      refine ⟨by omega, by omega, by omega, hq _ ⟨r1, r2, fun i hi => ?_⟩ (sk q2 rfl rfl rfl) ⟨rfl, rfl, rfl, rfl, rfl, rfl, fun _ _ _ => rfl, rfl, fun a c => (up1_ne (by omega)).trans ((up1_ne (by omega)).trans (up1_ne (by omega))), rfl⟩⟩
      obtain ⟨x1, x2, x3, x4, x5⟩ := r3 i hi
      show hA h 10 i = _ ∧ upd (hA h 11) e.1 (hA h 11 e.1 + 1) i = upd N.2.2.1 e.1 (N.2.2.1 e.1 + 1) i ∧ hA h 12 i = _ ∧ hA h 13 i = _ ∧ upd (hA h 14) y (nI x) i = upd N.2.2.2.2.2 y (nI x) i
      unfold upd
      rw [hct]
      refine ⟨x1, ?_, x3, x4, ?_⟩
      · split
        · rfl
        · exact x2
      · split
        · rfl
        · exact x5
end RND
