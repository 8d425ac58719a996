/-! THE REFERENCE'S PROGRAM in the heap -/
def PM (G : PG) (q : Nat) (h : Hp) : Prop := (q = 66 ∨ q = 86) ∧ hI h q 0 = nI (pNn G) ∧ pNn G ≤ 6200 ∧ (∀ j, 1 ≤ j → j ≤ 7 → hN h (q + j) = 6200 ∧ ∀ n, n < pNn G → hA h (q + j) n = G.1 (20 + j) n) ∧ (hN h (q + 10) = 3000 ∧ ∀ m, m < 3000 → hA h (q + 10) m = G.1 30 m) ∧ (∀ j, 14 ≤ j → j ≤ 17 → hN h (q + j) = 3000) ∧ (∀ M, 1 ≤ M → M ≤ pLm G → hA h (q + 14) M = nI (pNd G M) ∧ hA h (q + 15) M = nI (pWn G M) ∧ hA h (q + 16) M = nI (pSn G M) ∧ hA h (q + 17) M = nI (pFr G M)) ∧ hN h (q + 18) = 30976 ∧ hN h (q + 19) = 30976 ∧ (∀ M j, 1 ≤ M → M ≤ pLm G → j < pFr G M → hA h (q + 18) (256 * M + j) = G.1 38 (256 * M + j) ∧ hA h (q + 19) (256 * M + j) = G.1 39 (256 * M + j)) ∧ hI h q 4 = nI (pDf G) ∧ hI h q 26 = nI (pSn G 0) ∧ hI h q 2 = nI (pRf G) ∧ hI h q 3 = pF1 G ∧ hI h q 5 = nI (pLm G)
/-- what a run leaves alone: tape, fault, whether there is a program, the places, the spare program; told by numbers behind the quotes' values -/
def Kq (q : Nat) (qv : Nat → Int64) (h : Hp) : Prop := (hI h 59 1 = (qv 999990).toInt32 ∧ hI h 59 2 = (qv 999991).toInt32 ∧ hI h 59 3 = (qv 999992).toInt32 ∧ hI h 59 19 = (qv 999993).toInt32) ∧ (∀ j, j < 3000 → hA h 60 j = (qv (900000 + j)).toInt32) ∧ (∀ j, j < 4 → hB h 129 j = qv (999994 + j)) ∧ hR h 59 18 = some (152 - q)
theorem kq_same {q : Nat} {qv : Nat → Int64} {h g : Hp} (e1 : hI g 59 1 = hI h 59 1 ∧ hI g 59 2 = hI h 59 2 ∧ hI g 59 3 = hI h 59 3 ∧ hI g 59 19 = hI h 59 19) (e2 : hA g 60 = hA h 60) (e3 : hB g 129 = hB h 129) (e4 : hR g 59 18 = hR h 59 18) (k : Kq q qv h) : Kq q qv g := by
  unfold Kq at k ⊢
  rw [e1.1, e1.2.1, e1.2.2.1, e1.2.2.2, e2, e3, e4]
  exact k
def SM (G : PG) (q : Nat) (qv : Nat → Int64) (h : Hp) : Prop := Sk h ∧ Vy h ∧ Rm h ∧ PM G q h ∧ hR h 59 17 = some q ∧ hN h 114 = 6200 ∧ (∀ n, n < pNn G → hB h 114 n = qv n) ∧ Kq q qv h
section REB
variable {h : Hp} {Q : Option Value → Hp → Prop} {d : Nat} {G : PG} {q : Nat} {qv : Nat → Int64}
theorem prf (s : Sk h) (hq : q = 66 ∨ q = 86) : (hK h q = 11 ∧ hK h (q + 1) = 14 ∧ hK h (q + 2) = 14 ∧ hK h (q + 4) = 14 ∧ hK h (q + 5) = 14 ∧ hK h (q + 6) = 14 ∧ hK h (q + 7) = 14 ∧ hK h (q + 10) = 14 ∧ hK h (q + 14) = 14 ∧ hK h (q + 15) = 14 ∧ hK h (q + 16) = 14 ∧ hK h (q + 17) = 14 ∧ hK h (q + 18) = 14 ∧ hK h (q + 19) = 14) ∧ (hR h q 7 = some (q + 1) ∧ hR h q 8 = some (q + 2) ∧ hR h q 10 = some (q + 4) ∧ hR h q 11 = some (q + 5) ∧ hR h q 12 = some (q + 6) ∧ hR h q 13 = some (q + 7) ∧ hR h q 16 = some (q + 10) ∧ hR h q 20 = some (q + 14) ∧ hR h q 21 = some (q + 15) ∧ hR h q 22 = some (q + 16) ∧ hR h q 23 = some (q + 17) ∧ hR h q 24 = some (q + 18) ∧ hR h q 25 = some (q + 19)) := by
  rcases hq with rfl | rfl
  · exact ⟨⟨s.1 _ (by decide), s.1 _ (by decide), s.1 _ (by decide), s.1 _ (by decide), s.1 _ (by decide), s.1 _ (by decide), s.1 _ (by decide), s.1 _ (by decide), s.1 _ (by decide), s.1 _ (by decide), s.1 _ (by decide), s.1 _ (by decide), s.1 _ (by decide), s.1 _ (by decide)⟩, s.2.1 66 7 rfl, s.2.1 66 8 rfl, s.2.1 66 10 rfl, s.2.1 66 11 rfl, s.2.1 66 12 rfl, s.2.1 66 13 rfl, s.2.1 66 16 rfl, s.2.1 66 20 rfl, s.2.1 66 21 rfl, s.2.1 66 22 rfl, s.2.1 66 23 rfl, s.2.1 66 24 rfl, s.2.1 66 25 rfl⟩
  · exact ⟨⟨s.1 _ (by decide), s.1 _ (by decide), s.1 _ (by decide), s.1 _ (by decide), s.1 _ (by decide), s.1 _ (by decide), s.1 _ (by decide), s.1 _ (by decide), s.1 _ (by decide), s.1 _ (by decide), s.1 _ (by decide), s.1 _ (by decide), s.1 _ (by decide), s.1 _ (by decide)⟩, s.2.1 86 7 rfl, s.2.1 86 8 rfl, s.2.1 86 10 rfl, s.2.1 86 11 rfl, s.2.1 86 12 rfl, s.2.1 86 13 rfl, s.2.1 86 16 rfl, s.2.1 86 20 rfl, s.2.1 86 21 rfl, s.2.1 86 22 rfl, s.2.1 86 23 rfl, s.2.1 86 24 rfl, s.2.1 86 25 rfl⟩
/-- a table of nodes -/
theorem pm_n (P : PM G q h) {j n : Nat} (h1 : 1 ≤ j) (h2 : j ≤ 7) (hn : n < pNn G) : hN h (q + j) = 6200 ∧ hA h (q + j) n = G.1 (20 + j) n ∧ n < 6200 := by
  obtain ⟨_, _, P2, P3, _⟩ := P
  exact ⟨(P3 j h1 h2).1, (P3 j h1 h2).2 n hn, by omega⟩
theorem chn_get : ∀ {l : List Nat} {c : Int32} {i m : Nat}, Chn G c l → l[i]? = some m → m < pNn G
  | a :: l, c, 0, m, h, e => by
    simp at e
    exact e ▸ h.2.1
  | a :: l, c, i + 1, m, h, e => by
    simp at e
    exact chn_get h.2.2 e
  | [], _, _, _, _, e => by simp at e
theorem chn_nx : ∀ {l : List Nat} {c : Int32} {i m m' : Nat}, Chn G c l → l[i]? = some m → l[i + 1]? = some m' → G.1 25 m = nI m'
  | a :: b :: l, c, 0, m, m', h, e, e' => by
    simp at e e'
    subst e e'
    exact h.2.2.1
  | a :: l, c, i + 1, m, m', h, e, e' => by
    simp at e e'
    exact chn_nx h.2.2 e (by simpa using e')
  | [], _, _, _, _, _, e, _ => by simp at e
  | [a], _, 0, _, _, _, _, e' => by simp at e'
theorem chn_end : ∀ {l : List Nat} {c : Int32} {i m : Nat}, Chn G c l → l[i]? = some m → i + 1 = l.length → G.1 25 m = -1
  | [a], c, 0, m, h, e, _ => by
    simp at e
    subst e
    exact h.2.2
  | a :: b :: l, c, i + 1, m, h, e, q => by
    simp at e q
    exact chn_end h.2.2 (by simpa using e) (by simpa using q)
  | a :: b :: l, c, 0, _, _, _, q => by simp at q
  | [a], _, i + 1, _, _, e, _ => by simp at e
  | [], _, _, _, _, e, _ => by simp at e
theorem pt_loop {n i : Nat} {l : List Nat} (S : SM G q qv h) (hc : Chn G (G.1 24 n) l) {m : Nat} (hm : l[i]? = some m) (hi : i < 10000) (hq : Q (some (.int (nI m))) h) : ∀ (k j c : Nat), j + k = i → l[j]? = some c → aWP d 247 13 [(4, .int (nI j)), (3, .int (nI c)), (0, .ref 59), (1, .int (nI n)), (2, .int (nI i))] [] h Q := by
  obtain ⟨s, _, _, P, r17, _⟩ := S
  obtain ⟨⟨k0, k1, k2, k4, k5, _⟩, r7, r8, r10, r11, _⟩ := prf s P.1
  intro k
  induction k with
  | zero =>
    intro j c hj e
    have hj : j = i := by omega
    subst hj
    rw [hm] at e
    injection e with e
    subst e
    simp only [lv_args, z_v, z_lg, z_h, z_u, z_u1, z_c, z_ct, z_sk, sbne, lst1_d, ldel, lst2_d, ldel2, z_sw, z_rok, zi, eq_self, List.map_cons, List.map_nil, List.append_nil, List.nil_append, List.cons_append, Int32.reduceLT, Int32.reduceLE, Int32.reduceAdd, Int32.reduceSub, Int32.reduceMul, Int32.reduceToInt, Int32.reduceToNatClampNeg, Int.reduceLT, Int.reduceLE, Int.reduceNeg, true_and, and_true, or_self, or_false, false_or, false_and, and_false, true_or, or_true, if_true, if_false, ne_eq, Classical.not_not, not_true_eq_false, not_false_eq_true, true_implies, false_implies, implies_true, Nat.reduceEqDiff, Nat.reduceAdd, Nat.reduceLeDiff, Nat.reduceSub, reduceCtorEq, reduceIte, b247_13]
    simp (disch := omega) only [nI_leN]
    refine ⟨fun _ => ?_, fun q => absurd (Nat.le_refl _) q⟩
    simp only [lv_args, z_v, z_lg, z_h, z_u, z_u1, z_c, z_ct, z_sk, sbne, lst1_d, ldel, lst2_d, ldel2, z_sw, z_rok, zi, eq_self, List.map_cons, List.map_nil, List.append_nil, List.nil_append, List.cons_append, Int32.reduceLT, Int32.reduceLE, Int32.reduceAdd, Int32.reduceSub, Int32.reduceMul, Int32.reduceToInt, Int32.reduceToNatClampNeg, Int.reduceLT, Int.reduceLE, Int.reduceNeg, true_and, and_true, or_self, or_false, false_or, false_and, and_false, true_or, or_true, if_true, if_false, ne_eq, Classical.not_not, not_true_eq_false, not_false_eq_true, true_implies, false_implies, implies_true, Nat.reduceEqDiff, Nat.reduceAdd, Nat.reduceLeDiff, Nat.reduceSub, reduceCtorEq, reduceIte, b247_35]
    exact hq
  | succ k ih =>
    intro j c hj e
    have hlt : j + 1 < l.length := by have := g_lt hm; omega
    obtain ⟨c', e'⟩ := g_some hlt
    have hcn := chn_get hc e
    obtain ⟨p1, p2, p3⟩ := pm_n P (j := 5) (by decide) (by decide) hcn
    have p2 : hA h (q + 5) c = nI c' := p2.trans (chn_nx hc e e')
    simp only [lv_args, z_v, z_lg, z_h, z_u, z_u1, z_c, z_ct, z_sk, sbne, lst1_d, ldel, lst2_d, ldel2, z_sw, z_rok, zi, eq_self, List.map_cons, List.map_nil, List.append_nil, List.nil_append, List.cons_append, Int32.reduceLT, Int32.reduceLE, Int32.reduceAdd, Int32.reduceSub, Int32.reduceMul, Int32.reduceToInt, Int32.reduceToNatClampNeg, Int.reduceLT, Int.reduceLE, Int.reduceNeg, true_and, and_true, or_self, or_false, false_or, false_and, and_false, true_or, or_true, if_true, if_false, ne_eq, Classical.not_not, not_true_eq_false, not_false_eq_true, true_implies, false_implies, implies_true, Nat.reduceEqDiff, Nat.reduceAdd, Nat.reduceLeDiff, Nat.reduceSub, reduceCtorEq, reduceIte, b247_13]
    simp (disch := omega) only [nI_leN]
    refine ⟨fun q => absurd q (by omega), fun _ => ?_⟩
    simp only [lv_args, z_v, z_lg, z_h, z_u, z_u1, z_c, z_ct, z_sk, sbne, lst1_d, ldel, lst2_d, ldel2, z_sw, z_rok, zi, eq_self, List.map_cons, List.map_nil, List.append_nil, List.nil_append, List.cons_append, Int32.reduceLT, Int32.reduceLE, Int32.reduceAdd, Int32.reduceSub, Int32.reduceMul, Int32.reduceToInt, Int32.reduceToNatClampNeg, Int.reduceLT, Int.reduceLE, Int.reduceNeg, true_and, and_true, or_self, or_false, false_or, false_and, and_false, true_or, or_true, if_true, if_false, ne_eq, Classical.not_not, not_true_eq_false, not_false_eq_true, true_implies, false_implies, implies_true, Nat.reduceEqDiff, Nat.reduceAdd, Nat.reduceLeDiff, Nat.reduceSub, reduceCtorEq, reduceIte, b247_19, skM s, r17, k0, r11, k5]
    simp (disch := omega) only [nI_ti, nI_cl, le0N, ltNN, p1, p2, true_and]
    refine ⟨p3, ?_⟩
    simp only [lv_args, z_v, z_lg, z_h, z_u, z_u1, z_c, z_ct, z_sk, sbne, lst1_d, ldel, lst2_d, ldel2, z_sw, z_rok, zi, eq_self, List.map_cons, List.map_nil, List.append_nil, List.nil_append, List.cons_append, Int32.reduceLT, Int32.reduceLE, Int32.reduceAdd, Int32.reduceSub, Int32.reduceMul, Int32.reduceToInt, Int32.reduceToNatClampNeg, Int.reduceLT, Int.reduceLE, Int.reduceNeg, true_and, and_true, or_self, or_false, false_or, false_and, and_false, true_or, or_true, if_true, if_false, ne_eq, Classical.not_not, not_true_eq_false, not_false_eq_true, true_implies, false_implies, implies_true, Nat.reduceEqDiff, Nat.reduceAdd, Nat.reduceLeDiff, Nat.reduceSub, reduceCtorEq, reduceIte, b247_19, nI_1]
    exact ih (j + 1) c' (by omega) e'
theorem sp_part {n i : Nat} {l : List Nat} (S : SM G q qv h) (hn : n < pNn G) (hc : Chn G (G.1 24 n) l) {m : Nat} (hm : l[i]? = some m) (hi : i < 10000) (hq : Q (some (.int (nI m))) h) : aEv d 247 [.ref 59, .int (nI n), .int (nI i)] h Q := by
  have lp := pt_loop (d := d) (Q := Q) S hc hm hi hq
  obtain ⟨s, _, _, P, r17, _⟩ := S
  obtain ⟨⟨k0, k1, k2, k4, k5, _⟩, r7, r8, r10, r11, _⟩ := prf s P.1
  obtain ⟨p1, p2, p3⟩ := pm_n P (j := 4) (by decide) (by decide) hn
  have h0 : 0 < l.length := by have := g_lt hm; omega
  obtain ⟨c, e⟩ := g_some h0
  have p2 : hA h (q + 4) n = nI c := by
    refine p2.trans ?_
    cases l with
    | nil => simp at e
    | cons a l =>
      simp at e
      subst e
      exact hc.1
  unfold aEv
  simp only [lv_args, z_v, z_lg, z_h, z_u, z_u1, z_c, z_ct, z_sk, sbne, lst1_d, ldel, lst2_d, ldel2, z_sw, z_rok, zi, eq_self, List.map_cons, List.map_nil, List.append_nil, List.nil_append, List.cons_append, Int32.reduceLT, Int32.reduceLE, Int32.reduceAdd, Int32.reduceSub, Int32.reduceMul, Int32.reduceToInt, Int32.reduceToNatClampNeg, Int.reduceLT, Int.reduceLE, Int.reduceNeg, true_and, and_true, or_self, or_false, false_or, false_and, and_false, true_or, or_true, if_true, if_false, ne_eq, Classical.not_not, not_true_eq_false, not_false_eq_true, true_implies, false_implies, implies_true, Nat.reduceEqDiff, Nat.reduceAdd, Nat.reduceLeDiff, Nat.reduceSub, reduceCtorEq, reduceIte, b247_0, skM s, r17, k0, r10, k4]
  simp (disch := omega) only [nI_ti, nI_cl, le0N, ltNN, p1, p2, true_and]
  refine ⟨p3, ?_⟩
  try simp only [lv_args, z_v, z_lg, z_h, z_u, z_u1, z_c, z_ct, z_sk, sbne, lst1_d, ldel, lst2_d, ldel2, z_sw, z_rok, zi, eq_self, List.map_cons, List.map_nil, List.append_nil, List.nil_append, List.cons_append, Int32.reduceLT, Int32.reduceLE, Int32.reduceAdd, Int32.reduceSub, Int32.reduceMul, Int32.reduceToInt, Int32.reduceToNatClampNeg, Int.reduceLT, Int.reduceLE, Int.reduceNeg, true_and, and_true, or_self, or_false, false_or, false_and, and_false, true_or, or_true, if_true, if_false, ne_eq, Classical.not_not, not_true_eq_false, not_false_eq_true, true_implies, false_implies, implies_true, Nat.reduceEqDiff, Nat.reduceAdd, Nat.reduceLeDiff, Nat.reduceSub, reduceCtorEq, reduceIte, b247_0]
  exact lp i 0 c (by omega) e
/-- the word of a form -/
theorem sp_fw {n c w : Nat} {l : List Nat} (S : SM G q qv h) (hn : n < pNn G) (hc : Chn G (G.1 24 n) (c :: l)) (hw : Fw G c w) (hq : Q (some (.int (nI w))) h) : aEv d 205 [.ref 59, .int (nI n)] h Q := by
  obtain ⟨s, _, _, P, r17, _⟩ := S
  obtain ⟨⟨k0, k1, k2, k4, k5, k6, k7, k10, _⟩, r7, r8, r10, r11, r12, r13, r16, _⟩ := prf s P.1
  obtain ⟨p1, p2, p3⟩ := pm_n P (j := 4) (by decide) (by decide) hn
  have p2 : hA h (q + 4) n = nI c := p2.trans hc.1
  have hcn : c < pNn G := hc.2.1
  obtain ⟨a1, a2, a3⟩ := pm_n P (j := 1) (by decide) (by decide) hcn
  obtain ⟨b1, b2, b3⟩ := pm_n P (j := 2) (by decide) (by decide) hcn
  have a2 : hA h (q + 1) c = G.1 21 c := a2
  have b2 : hA h (q + 2) c = G.1 22 c := b2
  obtain ⟨w1, w2⟩ := P.2.2.2.2.1
  unfold aEv
  simp only [lv_args, z_v, z_lg, z_h, z_u, z_u1, z_c, z_ct, z_sk, sbne, lst1_d, ldel, lst2_d, ldel2, z_sw, z_rok, zi, eq_self, List.map_cons, List.map_nil, List.append_nil, List.nil_append, List.cons_append, Int32.reduceLT, Int32.reduceLE, Int32.reduceAdd, Int32.reduceSub, Int32.reduceMul, Int32.reduceToInt, Int32.reduceToNatClampNeg, Int.reduceLT, Int.reduceLE, Int.reduceNeg, true_and, and_true, or_self, or_false, false_or, false_and, and_false, true_or, or_true, if_true, if_false, ne_eq, Classical.not_not, not_true_eq_false, not_false_eq_true, true_implies, false_implies, implies_true, Nat.reduceEqDiff, Nat.reduceAdd, Nat.reduceLeDiff, Nat.reduceSub, reduceCtorEq, reduceIte, b205_0, skM s, r17, k0, r10, k4, r7, k1]
  simp (disch := omega) only [nI_ti, nI_cl, le0N, ltNN, p1, p2, true_and]
  refine ⟨p3, ?_⟩
  try simp only [lv_args, z_v, z_lg, z_h, z_u, z_u1, z_c, z_ct, z_sk, sbne, lst1_d, ldel, lst2_d, ldel2, z_sw, z_rok, zi, eq_self, List.map_cons, List.map_nil, List.append_nil, List.nil_append, List.cons_append, Int32.reduceLT, Int32.reduceLE, Int32.reduceAdd, Int32.reduceSub, Int32.reduceMul, Int32.reduceToInt, Int32.reduceToNatClampNeg, Int.reduceLT, Int.reduceLE, Int.reduceNeg, true_and, and_true, or_self, or_false, false_or, false_and, and_false, true_or, or_true, if_true, if_false, ne_eq, Classical.not_not, not_true_eq_false, not_false_eq_true, true_implies, false_implies, implies_true, Nat.reduceEqDiff, Nat.reduceAdd, Nat.reduceLeDiff, Nat.reduceSub, reduceCtorEq, reduceIte, b205_0, skM s, r17, k0, r7, k1]
  simp (disch := omega) only [nI_ti, nI_cl, le0N, ltNN, a1, a2, true_and]
  refine ⟨a3, ?_⟩
  rcases hw with ⟨h1, rfl⟩ | ⟨h1, m, x, h2, h3, h4, h5, rfl⟩
  · refine ⟨fun c => absurd c h1, fun _ => ?_⟩
    simp only [lv_args, z_v, z_lg, z_h, z_u, z_u1, z_c, z_ct, z_sk, sbne, lst1_d, ldel, lst2_d, ldel2, z_sw, z_rok, zi, eq_self, List.map_cons, List.map_nil, List.append_nil, List.nil_append, List.cons_append, Int32.reduceLT, Int32.reduceLE, Int32.reduceAdd, Int32.reduceSub, Int32.reduceMul, Int32.reduceToInt, Int32.reduceToNatClampNeg, Int.reduceLT, Int.reduceLE, Int.reduceNeg, true_and, and_true, or_self, or_false, false_or, false_and, and_false, true_or, or_true, if_true, if_false, ne_eq, Classical.not_not, not_true_eq_false, not_false_eq_true, true_implies, false_implies, implies_true, Nat.reduceEqDiff, Nat.reduceAdd, Nat.reduceLeDiff, Nat.reduceSub, reduceCtorEq, reduceIte, b205_23]
    exact hq
  · refine ⟨fun _ => ?_, fun c => absurd h1 c⟩
    have w3 := w2 m h2
    simp only [lv_args, z_v, z_lg, z_h, z_u, z_u1, z_c, z_ct, z_sk, sbne, lst1_d, ldel, lst2_d, ldel2, z_sw, z_rok, zi, eq_self, List.map_cons, List.map_nil, List.append_nil, List.nil_append, List.cons_append, Int32.reduceLT, Int32.reduceLE, Int32.reduceAdd, Int32.reduceSub, Int32.reduceMul, Int32.reduceToInt, Int32.reduceToNatClampNeg, Int.reduceLT, Int.reduceLE, Int.reduceNeg, true_and, and_true, or_self, or_false, false_or, false_and, and_false, true_or, or_true, if_true, if_false, ne_eq, Classical.not_not, not_true_eq_false, not_false_eq_true, true_implies, false_implies, implies_true, Nat.reduceEqDiff, Nat.reduceAdd, Nat.reduceLeDiff, Nat.reduceSub, reduceCtorEq, reduceIte, b205_25, skM s, r17, k0, r8, k2, r16, k10]
    simp (disch := omega) only [nI_ti, nI_cl, le0N, ltNN, b1, b2, h4, true_and]
    refine ⟨b3, ?_⟩
    have n10 : (10 : Int32) = nI 10 := rfl
    try simp only [lv_args, z_v, z_lg, z_h, z_u, z_u1, z_c, z_ct, z_sk, sbne, lst1_d, ldel, lst2_d, ldel2, z_sw, z_rok, zi, eq_self, List.map_cons, List.map_nil, List.append_nil, List.nil_append, List.cons_append, Int32.reduceLT, Int32.reduceLE, Int32.reduceAdd, Int32.reduceSub, Int32.reduceMul, Int32.reduceToInt, Int32.reduceToNatClampNeg, Int.reduceLT, Int.reduceLE, Int.reduceNeg, true_and, and_true, or_self, or_false, false_or, false_and, and_false, true_or, or_true, if_true, if_false, ne_eq, Classical.not_not, not_true_eq_false, not_false_eq_true, true_implies, false_implies, implies_true, Nat.reduceEqDiff, Nat.reduceAdd, Nat.reduceLeDiff, Nat.reduceSub, reduceCtorEq, reduceIte, b205_25, skM s, r17, k0, r16, k10]
    simp (disch := omega) only [nI_ti, nI_cl, le0N, ltNN, w1, w3, h5, true_and]
    refine ⟨h2, ?_⟩
    simp only [lv_args, z_v, z_lg, z_h, z_u, z_u1, z_c, z_ct, z_sk, sbne, lst1_d, ldel, lst2_d, ldel2, z_sw, z_rok, zi, eq_self, List.map_cons, List.map_nil, List.append_nil, List.nil_append, List.cons_append, Int32.reduceLT, Int32.reduceLE, Int32.reduceAdd, Int32.reduceSub, Int32.reduceMul, Int32.reduceToInt, Int32.reduceToNatClampNeg, Int.reduceLT, Int.reduceLE, Int.reduceNeg, true_and, and_true, or_self, or_false, false_or, false_and, and_false, true_or, or_true, if_true, if_false, ne_eq, Classical.not_not, not_true_eq_false, not_false_eq_true, true_implies, false_implies, implies_true, Nat.reduceEqDiff, Nat.reduceAdd, Nat.reduceLeDiff, Nat.reduceSub, reduceCtorEq, reduceIte, b205_25, n10]
    simp (disch := omega) only [nI_ltN]
    refine ⟨fun c => ?_, fun c => ?_⟩
    · simp only [lv_args, z_v, z_lg, z_h, z_u, z_u1, z_c, z_ct, z_sk, sbne, lst1_d, ldel, lst2_d, ldel2, z_sw, z_rok, zi, eq_self, List.map_cons, List.map_nil, List.append_nil, List.nil_append, List.cons_append, Int32.reduceLT, Int32.reduceLE, Int32.reduceAdd, Int32.reduceSub, Int32.reduceMul, Int32.reduceToInt, Int32.reduceToNatClampNeg, Int.reduceLT, Int.reduceLE, Int.reduceNeg, true_and, and_true, or_self, or_false, false_or, false_and, and_false, true_or, or_true, if_true, if_false, ne_eq, Classical.not_not, not_true_eq_false, not_false_eq_true, true_implies, false_implies, implies_true, Nat.reduceEqDiff, Nat.reduceAdd, Nat.reduceLeDiff, Nat.reduceSub, reduceCtorEq, reduceIte, b205_53, b205_54]
      rw [if_neg (by omega)] at hq
      exact hq
    · simp only [lv_args, z_v, z_lg, z_h, z_u, z_u1, z_c, z_ct, z_sk, sbne, lst1_d, ldel, lst2_d, ldel2, z_sw, z_rok, zi, eq_self, List.map_cons, List.map_nil, List.append_nil, List.nil_append, List.cons_append, Int32.reduceLT, Int32.reduceLE, Int32.reduceAdd, Int32.reduceSub, Int32.reduceMul, Int32.reduceToInt, Int32.reduceToNatClampNeg, Int.reduceLT, Int.reduceLE, Int.reduceNeg, true_and, and_true, or_self, or_false, false_or, false_and, and_false, true_or, or_true, if_true, if_false, ne_eq, Classical.not_not, not_true_eq_false, not_false_eq_true, true_implies, false_implies, implies_true, Nat.reduceEqDiff, Nat.reduceAdd, Nat.reduceLeDiff, Nat.reduceSub, reduceCtorEq, reduceIte, b205_49, b205_54]
      rw [if_pos (by omega)] at hq
      exact hq
end REB
