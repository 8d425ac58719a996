/-! BUILD. The reference: the tree as it holds it -/
def YY (q : Nat) (h : Hp) : Prop := (q = 66 ∧ hR h 59 17 = some 86 ∧ hR h 59 18 = some 66) ∨ (q = 86 ∧ hR h 59 17 = some 66 ∧ hR h 59 18 = some 86)
def TM (N : NS) (mt : List Nat) (q : Nat) (h : Hp) : Prop := (∀ n, 1 ≤ n → n < N.1 → hA h (q + 1) (n - 1) = rkd (nK N n) ∧ hA h (q + 2) (n - 1) = (if nK N n = 5 then nI (mt.idxOf (nCn N n)) else if nK N n = 1 then nC N n else 0) ∧ hA h (q + 3) (n - 1) = nP N n ∧ hA h (q + 4) (n - 1) = dnI (nF N n) ∧ hA h (q + 5) (n - 1) = dnI (nX N n)) ∧ (∀ j, j ∈ mt → mt.idxOf j < 3000 ∧ hA h (q + 10) (mt.idxOf j) = nI (if j < 30 then j + 1 else 0)) ∧ hI h q 3 = dnI (nF N 0)
def MC (N : NS) (mt : List Nat) (q : Nat) (h : Hp) : Prop := (Sk h ∧ Rm h) ∧ YY q h ∧ TM N mt q h ∧ Nok N mt
theorem sq {h : Hp} {q : Nat} (s : Sk h) (hq : q = 66 ∨ q = 86) : hK h q = 11 ∧ hR h q 7 = some (q + 1) ∧ hK h (q + 1) = 14 ∧ hR h q 8 = some (q + 2) ∧ hK h (q + 2) = 14 ∧ hR h q 9 = some (q + 3) ∧ hK h (q + 3) = 14 ∧ hR h q 10 = some (q + 4) ∧ hK h (q + 4) = 14 ∧ hR h q 11 = some (q + 5) ∧ hK h (q + 5) = 14 ∧ hR h q 12 = some (q + 6) ∧ hK h (q + 6) = 14 ∧ hR h q 13 = some (q + 7) ∧ hK h (q + 7) = 14 ∧ hR h q 14 = some (q + 8) ∧ hK h (q + 8) = 14 ∧ hR h q 15 = some (q + 9) ∧ hK h (q + 9) = 14 ∧ hR h q 16 = some (q + 10) ∧ hK h (q + 10) = 14 ∧ hR h q 17 = some (q + 11) ∧ hK h (q + 11) = 14 ∧ hR h q 18 = some (q + 12) ∧ hK h (q + 12) = 14 ∧ hR h q 19 = some (q + 13) ∧ hK h (q + 13) = 13 ∧ hR h q 20 = some (q + 14) ∧ hK h (q + 14) = 14 ∧ hR h q 21 = some (q + 15) ∧ hK h (q + 15) = 14 ∧ hR h q 22 = some (q + 16) ∧ hK h (q + 16) = 14 ∧ hR h q 23 = some (q + 17) ∧ hK h (q + 17) = 14 ∧ hR h q 24 = some (q + 18) ∧ hK h (q + 18) = 14 ∧ hR h q 25 = some (q + 19) ∧ hK h (q + 19) = 14 := by
  rcases hq with rfl | rfl
  · exact ⟨s.1 _ (by decide), s.2.1 66 7 rfl, s.1 _ (by decide), s.2.1 66 8 rfl, s.1 _ (by decide), s.2.1 66 9 rfl, s.1 _ (by decide), s.2.1 66 10 rfl, s.1 _ (by decide), s.2.1 66 11 rfl, s.1 _ (by decide), s.2.1 66 12 rfl, s.1 _ (by decide), s.2.1 66 13 rfl, s.1 _ (by decide), s.2.1 66 14 rfl, s.1 _ (by decide), s.2.1 66 15 rfl, s.1 _ (by decide), s.2.1 66 16 rfl, s.1 _ (by decide), s.2.1 66 17 rfl, s.1 _ (by decide), s.2.1 66 18 rfl, s.1 _ (by decide), s.2.1 66 19 rfl, s.1 _ (by decide), s.2.1 66 20 rfl, s.1 _ (by decide), s.2.1 66 21 rfl, s.1 _ (by decide), s.2.1 66 22 rfl, s.1 _ (by decide), s.2.1 66 23 rfl, s.1 _ (by decide), s.2.1 66 24 rfl, s.1 _ (by decide), s.2.1 66 25 rfl, s.1 _ (by decide)⟩
  · exact ⟨s.1 _ (by decide), s.2.1 86 7 rfl, s.1 _ (by decide), s.2.1 86 8 rfl, s.1 _ (by decide), s.2.1 86 9 rfl, s.1 _ (by decide), s.2.1 86 10 rfl, s.1 _ (by decide), s.2.1 86 11 rfl, s.1 _ (by decide), s.2.1 86 12 rfl, s.1 _ (by decide), s.2.1 86 13 rfl, s.1 _ (by decide), s.2.1 86 14 rfl, s.1 _ (by decide), s.2.1 86 15 rfl, s.1 _ (by decide), s.2.1 86 16 rfl, s.1 _ (by decide), s.2.1 86 17 rfl, s.1 _ (by decide), s.2.1 86 18 rfl, s.1 _ (by decide), s.2.1 86 19 rfl, s.1 _ (by decide), s.2.1 86 20 rfl, s.1 _ (by decide), s.2.1 86 21 rfl, s.1 _ (by decide), s.2.1 86 22 rfl, s.1 _ (by decide), s.2.1 86 23 rfl, s.1 _ (by decide), s.2.1 86 24 rfl, s.1 _ (by decide), s.2.1 86 25 rfl, s.1 _ (by decide)⟩
theorem nq {h : Hp} {q : Nat} (r : Rm h) (hq : q = 66 ∨ q = 86) : hN h (q + 1) = 6200 ∧ hN h (q + 2) = 6200 ∧ hN h (q + 3) = 6200 ∧ hN h (q + 4) = 6200 ∧ hN h (q + 5) = 6200 ∧ hN h (q + 6) = 6200 ∧ hN h (q + 7) = 6200 ∧ hN h (q + 8) = 3000 ∧ hN h (q + 9) = 3000 ∧ hN h (q + 10) = 3000 ∧ hN h (q + 11) = 3000 ∧ hN h (q + 12) = 3000 ∧ hN h (q + 13) = 3000 ∧ hN h (q + 14) = 3000 ∧ hN h (q + 15) = 3000 ∧ hN h (q + 16) = 3000 ∧ hN h (q + 17) = 3000 ∧ hN h (q + 18) = 30976 ∧ hN h (q + 19) = 30976 := by
  rcases hq with rfl | rfl
  · exact ⟨r.1.2 (67, 6200) (by decide), r.1.2 (68, 6200) (by decide), r.1.2 (69, 6200) (by decide), r.1.2 (70, 6200) (by decide), r.1.2 (71, 6200) (by decide), r.1.2 (72, 6200) (by decide), r.1.2 (73, 6200) (by decide), r.1.2 (74, 3000) (by decide), r.1.2 (75, 3000) (by decide), r.1.2 (76, 3000) (by decide), r.1.2 (77, 3000) (by decide), r.1.2 (78, 3000) (by decide), r.1.2 (79, 3000) (by decide), r.1.2 (80, 3000) (by decide), r.1.2 (81, 3000) (by decide), r.1.2 (82, 3000) (by decide), r.1.2 (83, 3000) (by decide), r.1.2 (84, 30976) (by decide), r.1.2 (85, 30976) (by decide)⟩
  · exact ⟨r.1.2 (87, 6200) (by decide), r.1.2 (88, 6200) (by decide), r.1.2 (89, 6200) (by decide), r.1.2 (90, 6200) (by decide), r.1.2 (91, 6200) (by decide), r.1.2 (92, 6200) (by decide), r.1.2 (93, 6200) (by decide), r.1.2 (94, 3000) (by decide), r.1.2 (95, 3000) (by decide), r.1.2 (96, 3000) (by decide), r.1.2 (97, 3000) (by decide), r.1.2 (98, 3000) (by decide), r.1.2 (99, 3000) (by decide), r.1.2 (100, 3000) (by decide), r.1.2 (101, 3000) (by decide), r.1.2 (102, 3000) (by decide), r.1.2 (103, 3000) (by decide), r.1.2 (104, 30976) (by decide), r.1.2 (105, 30976) (by decide)⟩
section MST
variable {h : Hp} {Q : Option Value → Hp → Prop} {d n q g b : Nat} {N : NS} {mt : List Nat}
theorem mc_q (m : MC N mt q h) : q = 66 ∨ q = 86 := m.2.1.elim (fun w => Or.inl w.1) (fun w => Or.inr w.1)
theorem mc_R (m : MC N mt q h) : hR h 59 18 = some q := by
  rcases m.2.1 with ⟨rfl, _, w⟩ | ⟨rfl, _, w⟩ <;> exact w
theorem rkd_4 {k : Int32} {v : Int32} (hk : nKc mt k v) : rkd k = 4 ↔ k = 6 := by
  unfold nKc at hk
  unfold rkd
  rcases hk with rfl | ⟨rfl | rfl, _⟩ | ⟨rfl, _⟩ | rfl <;> decide
theorem dn_o {c : Nat} {l : List Nat} (h1 : 1 ≤ c) (h2 : c < 1000000) : dnI (oI (c :: l).head?) = nI (c - 1) := dnI_nI h1 (by omega)
theorem dn_n : dnI (oI ([] : List Nat).head?) = -1 := rfl
theorem dn_m1 {c : Nat} {l : List Nat} (h1 : 1 ≤ c) (h2 : c < 7000) : ¬ dnI (oI (c :: l).head?) = -1 := by
  rw [dn_o h1 (by omega)]
  exact nI_m1' (by omega)
theorem m_isList (m : MC N mt q h) (h1 : 1 ≤ n) (hn : n < N.1) : aEv d 221 [.ref 59, .int (nI (n - 1))] h Q ↔ Q (some (.int (bI (nK N n == 6)))) h := by
  have hN := m.2.2.2.2.2
  have e := (m.2.2.1.1 n h1 hn).1
  have k4 := rkd_4 (m.2.2.2.1 n h1 hn)
  have nn := (nq m.1.2 (mc_q m)).1
  have key : (¬ rkd (nK N n) = 4 → Q (some (.int 0)) h) ∧ (rkd (nK N n) = 4 → Q (some (.int 1)) h) ↔ Q (some (.int (bI (nK N n == 6)))) h := by
    by_cases c : nK N n = 6
    · have e2 : bI (nK N n == 6) = 1 := by rw [c]; rfl
      rw [e2]
      exact ⟨fun w => w.2 (k4.mpr c), fun w => ⟨fun c' => absurd (k4.mpr c) c', fun _ => w⟩⟩
    · have e2 : bI (nK N n == 6) = 0 := by
        have : (nK N n == 6) = false := by simpa using c
        rw [this]; rfl
      rw [e2]
      exact ⟨fun w => w.1 (fun c' => c (k4.mp c')), fun w => ⟨fun _ => w, fun c' => absurd (k4.mp c') c⟩⟩
  rw [← key]
  have c2 : (n - 1 < 6200) = True := eq_true (by omega)
  rcases m.2.1 with ⟨rfl, r1, r2⟩ | ⟨rfl, r1, r2⟩
  · rw [e221_59b _ _ m.1.1 r1 r2, nI_ti (by omega), nI_cl (by omega), le0N, ltNN, nn, c2, e]
    simp only [true_and, and_self]
  · rw [e221_59a _ _ m.1.1 r1 r2, nI_ti (by omega), nI_cl (by omega), le0N, ltNN, nn, c2, e]
    simp only [true_and, and_self]
theorem m_isName (m : MC N mt q h) (h1 : 1 ≤ n) (hn : n < N.1) : aEv d 223 [.ref 59, .int (nI (n - 1))] h Q ↔ Q (some (.int (bI (nK N n == 5)))) h := by
  have hN := m.2.2.2.2.2
  have e := (m.2.2.1.1 n h1 hn).1
  have k4 := rkd_3 (k := nK N n)
  have nn := (nq m.1.2 (mc_q m)).1
  have key : (¬ rkd (nK N n) = 3 → Q (some (.int 0)) h) ∧ (rkd (nK N n) = 3 → Q (some (.int 1)) h) ↔ Q (some (.int (bI (nK N n == 5)))) h := by
    by_cases c : nK N n = 5
    · have e2 : bI (nK N n == 5) = 1 := by rw [c]; rfl
      rw [e2]
      exact ⟨fun w => w.2 (k4.mpr c), fun w => ⟨fun c' => absurd (k4.mpr c) c', fun _ => w⟩⟩
    · have e2 : bI (nK N n == 5) = 0 := by
        have : (nK N n == 5) = false := by simpa using c
        rw [this]; rfl
      rw [e2]
      exact ⟨fun w => w.1 (fun c' => c (k4.mp c')), fun w => ⟨fun _ => w, fun c' => absurd (k4.mp c') c⟩⟩
  rw [← key]
  have c2 : (n - 1 < 6200) = True := eq_true (by omega)
  rcases m.2.1 with ⟨rfl, r1, r2⟩ | ⟨rfl, r1, r2⟩
  · rw [e223_59b _ _ m.1.1 r1 r2, nI_ti (by omega), nI_cl (by omega), le0N, ltNN, nn, c2, e]
    simp only [true_and, and_self]
  · rw [e223_59a _ _ m.1.1 r1 r2, nI_ti (by omega), nI_cl (by omega), le0N, ltNN, nn, c2, e]
    simp only [true_and, and_self]
/-- children and next ones -/
theorem mc_c (m : MC N mt q h) (ht : Tr (g + 1) N n b) (h6 : nK N n = 6) (hb : b ≤ N.1) (h1 : 1 ≤ n) : hA h (q + 4) (n - 1) = dnI (oI (pts N n).head?) := by
  have t := tl_n ht h6 hb m.2.2.2.2.2
  rw [(m.2.2.1.1 n h1 t.2.2).2.2.2.1, t.1]
theorem m_parts (m : MC N mt q h) (ht : Tr (g + 1) N n b) (h6 : nK N n = 6) (hb : b ≤ N.1) (h1 : 1 ≤ n) (hq : Q (some (.int (nI (pts N n).length))) h) : aEv d 248 [.ref 59, .int (nI (n - 1))] h Q := by
  have hN1 := m.2.2.2.2.2
  obtain ⟨t1, t2, hn⟩ := tl_n ht h6 hb hN1
  have s := m.1.1
  have w := sq s (mc_q m)
  have R := mc_R m
  have nn := nq m.1.2 (mc_q m)
  have ec := mc_c m ht h6 hb h1
  have loop : ∀ (l : List Nat) (k a : Nat), TL g N l a b → Q (some (.int (nI (k + l.length)))) h → aWP d 248 12 [(3, .int (dnI (oI l.head?))), (2, .int (nI k)), (0, .ref 59), (1, .int (nI (n - 1)))] [] h Q := by
    intro l
    induction l with
    | nil =>
      intro k a tl q'
      simp only [lv_args, z_v, z_lg, z_h, z_u, z_u1, z_c, z_ct, z_sk, sbne, lst1_d, ldel, lst2_d, ldel2, z_sw, z_rok, zi, eq_self, List.map_cons, List.map_nil, List.append_nil, List.nil_append, List.cons_append, Int32.reduceLT, Int32.reduceLE, Int32.reduceAdd, Int32.reduceSub, Int32.reduceMul, Int32.reduceToInt, Int32.reduceToNatClampNeg, Int.reduceLT, Int.reduceLE, Int.reduceNeg, true_and, and_true, or_self, or_false, false_or, false_and, and_false, true_or, or_true, if_true, if_false, ne_eq, Classical.not_not, not_true_eq_false, not_false_eq_true, true_implies, false_implies, implies_true, Nat.reduceEqDiff, Nat.reduceAdd, Nat.reduceLeDiff, Nat.reduceSub, reduceCtorEq, reduceIte, b248_12, dn_n]
      simp only [lv_args, z_v, z_lg, z_h, z_u, z_u1, z_c, z_ct, z_sk, sbne, lst1_d, ldel, lst2_d, ldel2, z_sw, z_rok, zi, eq_self, List.map_cons, List.map_nil, List.append_nil, List.nil_append, List.cons_append, Int32.reduceLT, Int32.reduceLE, Int32.reduceAdd, Int32.reduceSub, Int32.reduceMul, Int32.reduceToInt, Int32.reduceToNatClampNeg, Int.reduceLT, Int.reduceLE, Int.reduceNeg, true_and, and_true, or_self, or_false, false_or, false_and, and_false, true_or, or_true, if_true, if_false, ne_eq, Classical.not_not, not_true_eq_false, not_false_eq_true, true_implies, false_implies, implies_true, Nat.reduceEqDiff, Nat.reduceAdd, Nat.reduceLeDiff, Nat.reduceSub, reduceCtorEq, reduceIte, b248_33]
      exact q'
    | cons c l ih =>
      intro k a tl q'
      obtain ⟨x1, x2, x3, mm, x4, x5, x6⟩ := tl_c tl
      have ne := dn_m1 (l := l) x2 (by omega : c < 7000)
      have en := (m.2.2.1.1 c x2 x1).2.2.2.2
      rw [x3] at en
      have nx := ih (k + 1) mm x6 (by rw [List.length_cons] at q'; rw [show k + 1 + l.length = k + (l.length + 1) by omega]; exact q')
      have c2 : (c - 1 < 6200) = True := eq_true (by omega)
      simp only [lv_args, z_v, z_lg, z_h, z_u, z_u1, z_c, z_ct, z_sk, sbne, lst1_d, ldel, lst2_d, ldel2, z_sw, z_rok, zi, eq_self, List.map_cons, List.map_nil, List.append_nil, List.nil_append, List.cons_append, Int32.reduceLT, Int32.reduceLE, Int32.reduceAdd, Int32.reduceSub, Int32.reduceMul, Int32.reduceToInt, Int32.reduceToNatClampNeg, Int.reduceLT, Int.reduceLE, Int.reduceNeg, true_and, and_true, or_self, or_false, false_or, false_and, and_false, true_or, or_true, if_true, if_false, ne_eq, Classical.not_not, not_true_eq_false, not_false_eq_true, true_implies, false_implies, implies_true, Nat.reduceEqDiff, Nat.reduceAdd, Nat.reduceLeDiff, Nat.reduceSub, reduceCtorEq, reduceIte, b248_12, ne]
      rw [dn_o x2 (by omega)]
      simp only [lv_args, z_v, z_lg, z_h, z_u, z_u1, z_c, z_ct, z_sk, sbne, lst1_d, ldel, lst2_d, ldel2, z_sw, z_rok, zi, eq_self, List.map_cons, List.map_nil, List.append_nil, List.nil_append, List.cons_append, Int32.reduceLT, Int32.reduceLE, Int32.reduceAdd, Int32.reduceSub, Int32.reduceMul, Int32.reduceToInt, Int32.reduceToNatClampNeg, Int.reduceLT, Int.reduceLE, Int.reduceNeg, true_and, and_true, or_self, or_false, false_or, false_and, and_false, true_or, or_true, if_true, if_false, ne_eq, Classical.not_not, not_true_eq_false, not_false_eq_true, true_implies, false_implies, implies_true, Nat.reduceEqDiff, Nat.reduceAdd, Nat.reduceLeDiff, Nat.reduceSub, reduceCtorEq, reduceIte, b248_17, skM s, srM s, R, w, nn, nI_1]
      simp (disch := omega) only [nI_ti, nI_cl, le0N, ltNN, c2, en, true_and]
      try simp only [lv_args, z_v, z_lg, z_h, z_u, z_u1, z_c, z_ct, z_sk, sbne, lst1_d, ldel, lst2_d, ldel2, z_sw, z_rok, zi, eq_self, List.map_cons, List.map_nil, List.append_nil, List.nil_append, List.cons_append, Int32.reduceLT, Int32.reduceLE, Int32.reduceAdd, Int32.reduceSub, Int32.reduceMul, Int32.reduceToInt, Int32.reduceToNatClampNeg, Int.reduceLT, Int.reduceLE, Int.reduceNeg, true_and, and_true, or_self, or_false, false_or, false_and, and_false, true_or, or_true, if_true, if_false, ne_eq, Classical.not_not, not_true_eq_false, not_false_eq_true, true_implies, false_implies, implies_true, Nat.reduceEqDiff, Nat.reduceAdd, Nat.reduceLeDiff, Nat.reduceSub, reduceCtorEq, reduceIte, b248_17]
      exact nx
  have go := loop (pts N n) 0 (n + 1) t2 (by rw [Nat.zero_add]; exact hq)
  have c2 : (n - 1 < 6200) = True := eq_true (by omega)
  unfold aEv
  simp only [lv_args, z_v, z_lg, z_h, z_u, z_u1, z_c, z_ct, z_sk, sbne, lst1_d, ldel, lst2_d, ldel2, z_sw, z_rok, zi, eq_self, List.map_cons, List.map_nil, List.append_nil, List.nil_append, List.cons_append, Int32.reduceLT, Int32.reduceLE, Int32.reduceAdd, Int32.reduceSub, Int32.reduceMul, Int32.reduceToInt, Int32.reduceToNatClampNeg, Int.reduceLT, Int.reduceLE, Int.reduceNeg, true_and, and_true, or_self, or_false, false_or, false_and, and_false, true_or, or_true, if_true, if_false, ne_eq, Classical.not_not, not_true_eq_false, not_false_eq_true, true_implies, false_implies, implies_true, Nat.reduceEqDiff, Nat.reduceAdd, Nat.reduceLeDiff, Nat.reduceSub, reduceCtorEq, reduceIte, b248_0, skM s, srM s, R, w, nn]
  simp (disch := omega) only [nI_ti, nI_cl, le0N, ltNN, c2, ec, true_and]
  exact go
theorem m_part {k : Nat} (m : MC N mt q h) (ht : Tr (g + 1) N n b) (h6 : nK N n = 6) (hb : b ≤ N.1) (h1 : 1 ≤ n) (hk : k ≤ (pts N n).length) (hq : Q (some (.int (dnI (oI ((pts N n)[k]?))))) h) : aEv d 246 [.ref 59, .int (nI (n - 1)), .int (nI k)] h Q := by
  have hN1 := m.2.2.2.2.2
  obtain ⟨t1, t2, hn⟩ := tl_n ht h6 hb hN1
  have hlen := tl_len t2
  have s := m.1.1
  have w := sq s (mc_q m)
  have R := mc_R m
  have nn := nq m.1.2 (mc_q m)
  have ec := mc_c m ht h6 hb h1
  have loop : ∀ (r i : Nat) (l : List Nat) (a : Nat), TL g N l a b → i + r = k → r ≤ l.length → Q (some (.int (dnI (oI (l.drop r).head?)))) h → aWP d 246 13 [(4, .int (nI i)), (3, .int (dnI (oI l.head?))), (0, .ref 59), (1, .int (nI (n - 1))), (2, .int (nI k))] [] h Q := by
    intro r
    induction r with
    | zero =>
      intro i l a tl hi hr q'
      have hi : i = k := hi
      simp only [lv_args, z_v, z_lg, z_h, z_u, z_u1, z_c, z_ct, z_sk, sbne, lst1_d, ldel, lst2_d, ldel2, z_sw, z_rok, zi, eq_self, List.map_cons, List.map_nil, List.append_nil, List.nil_append, List.cons_append, Int32.reduceLT, Int32.reduceLE, Int32.reduceAdd, Int32.reduceSub, Int32.reduceMul, Int32.reduceToInt, Int32.reduceToNatClampNeg, Int.reduceLT, Int.reduceLE, Int.reduceNeg, true_and, and_true, or_self, or_false, false_or, false_and, and_false, true_or, or_true, if_true, if_false, ne_eq, Classical.not_not, not_true_eq_false, not_false_eq_true, true_implies, false_implies, implies_true, Nat.reduceEqDiff, Nat.reduceAdd, Nat.reduceLeDiff, Nat.reduceSub, reduceCtorEq, reduceIte, b246_13]
      simp (disch := omega) only [nI_leN]
      refine ⟨fun _ => ?_, fun c => absurd (by omega) c⟩
      simp only [lv_args, z_v, z_lg, z_h, z_u, z_u1, z_c, z_ct, z_sk, sbne, lst1_d, ldel, lst2_d, ldel2, z_sw, z_rok, zi, eq_self, List.map_cons, List.map_nil, List.append_nil, List.nil_append, List.cons_append, Int32.reduceLT, Int32.reduceLE, Int32.reduceAdd, Int32.reduceSub, Int32.reduceMul, Int32.reduceToInt, Int32.reduceToNatClampNeg, Int.reduceLT, Int.reduceLE, Int.reduceNeg, true_and, and_true, or_self, or_false, false_or, false_and, and_false, true_or, or_true, if_true, if_false, ne_eq, Classical.not_not, not_true_eq_false, not_false_eq_true, true_implies, false_implies, implies_true, Nat.reduceEqDiff, Nat.reduceAdd, Nat.reduceLeDiff, Nat.reduceSub, reduceCtorEq, reduceIte, b246_35]
      exact q'
    | succ r ih =>
      intro i l a tl hi hr q'
      cases l with
      | nil => simp at hr
      | cons c l =>
        obtain ⟨x1, x2, x3, mm, x4, x5, x6⟩ := tl_c tl
        have en := (m.2.2.1.1 c x2 x1).2.2.2.2
        rw [x3] at en
        have nx := ih (i + 1) l mm x6 (by omega) (by simp only [List.length_cons] at hr; omega) q'
        have c2 : (c - 1 < 6200) = True := eq_true (by omega)
        simp only [lv_args, z_v, z_lg, z_h, z_u, z_u1, z_c, z_ct, z_sk, sbne, lst1_d, ldel, lst2_d, ldel2, z_sw, z_rok, zi, eq_self, List.map_cons, List.map_nil, List.append_nil, List.nil_append, List.cons_append, Int32.reduceLT, Int32.reduceLE, Int32.reduceAdd, Int32.reduceSub, Int32.reduceMul, Int32.reduceToInt, Int32.reduceToNatClampNeg, Int.reduceLT, Int.reduceLE, Int.reduceNeg, true_and, and_true, or_self, or_false, false_or, false_and, and_false, true_or, or_true, if_true, if_false, ne_eq, Classical.not_not, not_true_eq_false, not_false_eq_true, true_implies, false_implies, implies_true, Nat.reduceEqDiff, Nat.reduceAdd, Nat.reduceLeDiff, Nat.reduceSub, reduceCtorEq, reduceIte, b246_13]
        simp (disch := omega) only [nI_leN]
        refine ⟨fun c => absurd c (by omega), fun _ => ?_⟩
        rw [dn_o x2 (by omega)]
        simp only [lv_args, z_v, z_lg, z_h, z_u, z_u1, z_c, z_ct, z_sk, sbne, lst1_d, ldel, lst2_d, ldel2, z_sw, z_rok, zi, eq_self, List.map_cons, List.map_nil, List.append_nil, List.nil_append, List.cons_append, Int32.reduceLT, Int32.reduceLE, Int32.reduceAdd, Int32.reduceSub, Int32.reduceMul, Int32.reduceToInt, Int32.reduceToNatClampNeg, Int.reduceLT, Int.reduceLE, Int.reduceNeg, true_and, and_true, or_self, or_false, false_or, false_and, and_false, true_or, or_true, if_true, if_false, ne_eq, Classical.not_not, not_true_eq_false, not_false_eq_true, true_implies, false_implies, implies_true, Nat.reduceEqDiff, Nat.reduceAdd, Nat.reduceLeDiff, Nat.reduceSub, reduceCtorEq, reduceIte, b246_19, skM s, srM s, R, w, nn, nI_1]
        simp (disch := omega) only [nI_ti, nI_cl, le0N, ltNN, c2, en, true_and]
        try simp only [lv_args, z_v, z_lg, z_h, z_u, z_u1, z_c, z_ct, z_sk, sbne, lst1_d, ldel, lst2_d, ldel2, z_sw, z_rok, zi, eq_self, List.map_cons, List.map_nil, List.append_nil, List.nil_append, List.cons_append, Int32.reduceLT, Int32.reduceLE, Int32.reduceAdd, Int32.reduceSub, Int32.reduceMul, Int32.reduceToInt, Int32.reduceToNatClampNeg, Int.reduceLT, Int.reduceLE, Int.reduceNeg, true_and, and_true, or_self, or_false, false_or, false_and, and_false, true_or, or_true, if_true, if_false, ne_eq, Classical.not_not, not_true_eq_false, not_false_eq_true, true_implies, false_implies, implies_true, Nat.reduceEqDiff, Nat.reduceAdd, Nat.reduceLeDiff, Nat.reduceSub, reduceCtorEq, reduceIte, b246_19, nI_1]
        exact nx
  have go := loop k 0 (pts N n) (n + 1) t2 (Nat.zero_add _) hk (by rw [List.head?_drop]; exact hq)
  have c2 : (n - 1 < 6200) = True := eq_true (by omega)
  unfold aEv
  simp only [lv_args, z_v, z_lg, z_h, z_u, z_u1, z_c, z_ct, z_sk, sbne, lst1_d, ldel, lst2_d, ldel2, z_sw, z_rok, zi, eq_self, List.map_cons, List.map_nil, List.append_nil, List.nil_append, List.cons_append, Int32.reduceLT, Int32.reduceLE, Int32.reduceAdd, Int32.reduceSub, Int32.reduceMul, Int32.reduceToInt, Int32.reduceToNatClampNeg, Int.reduceLT, Int.reduceLE, Int.reduceNeg, true_and, and_true, or_self, or_false, false_or, false_and, and_false, true_or, or_true, if_true, if_false, ne_eq, Classical.not_not, not_true_eq_false, not_false_eq_true, true_implies, false_implies, implies_true, Nat.reduceEqDiff, Nat.reduceAdd, Nat.reduceLeDiff, Nat.reduceSub, reduceCtorEq, reduceIte, b246_0, skM s, srM s, R, w, nn]
  simp (disch := omega) only [nI_ti, nI_cl, le0N, ltNN, c2, ec, true_and]
  exact go
theorem m_word (m : MC N mt q h) (ht : Tr (g + 1) N n b) (h6 : nK N n = 6) (hb : b ≤ N.1) (h1 : 1 ≤ n) (hd : 0 < d) : aEv d 275 [.ref 59, .int (nI (n - 1))] h Q ↔ Q (some (.int (nI (wrd N n)))) h := by
  have hN1 := m.2.2.2.2.2
  have nk := m.2.2.2
  obtain ⟨t1, t2, hn⟩ := tl_n ht h6 hb hN1
  have ec := mc_c m ht h6 hb h1
  have nn := nq m.1.2 (mc_q m)
  obtain ⟨n1, n2, n3, n4, n5, n6, n7, n8, n9, n10, _⟩ := nn
  have c2 : (n - 1 < 6200) = True := eq_true (by omega)
  have c4 : (0 < d) = True := eq_true hd
  have z10 : (10 : Int32) = nI 10 := rfl
  cases hp : pts N n with
  | nil =>
    rw [hp, dn_n] at ec
    have ew : wrd N n = 0 := by unfold wrd; rw [hp]
    rw [ew]
    rcases m.2.1 with ⟨rfl, r1, r2⟩ | ⟨rfl, r1, r2⟩
    · rw [e275_59b _ _ m.1.1 r1 r2]
      simp (disch := omega) only [nI_ti, nI_cl, le0N, ltNN, n4, c2, ec, true_and, true_imp_iff, not_true_eq_false, false_imp_iff, and_true]
      exact Iff.rfl
    · rw [e275_59a _ _ m.1.1 r1 r2]
      simp (disch := omega) only [nI_ti, nI_cl, le0N, ltNN, n4, c2, ec, true_and, true_imp_iff, not_true_eq_false, false_imp_iff, and_true]
      exact Iff.rfl
  | cons c ps =>
    rw [hp] at t2 ec
    obtain ⟨x1, x2, x3, mm, x4, x5, x6⟩ := tl_c t2
    have ne := nI_m1' (a := c - 1) (by omega)
    rw [dn_o x2 (by omega)] at ec
    obtain ⟨k1, k2, _⟩ := m.2.2.1.1 c x2 x1
    have k3 := rkd_3 (k := nK N c)
    have c3 : (c - 1 < 6200) = True := eq_true (by omega)
    by_cases c5 : nK N c = 5
    · obtain ⟨j, hj, ej, ej2, hj3⟩ := nok_name nk x2 x1 c5
      obtain ⟨w1, w2⟩ := m.2.2.1.2.1 j hj
      rw [if_pos c5, ej2] at k2
      have k5 := k3.mpr c5
      have c6 : (mt.idxOf j < 3000) = True := eq_true w1
      have ew : wrd N n = if j < 10 then j + 1 else 0 := by
        unfold wrd
        rw [hp]
        simp only
        rw [ej2]
        by_cases cj : j < 10
        · rw [if_pos ⟨c5, cj⟩, if_pos cj]
        · rw [if_neg (fun w => cj w.2), if_neg cj]
      rw [ew]
      rcases m.2.1 with ⟨rfl, r1, r2⟩ | ⟨rfl, r1, r2⟩
      · rw [e275_59b _ _ m.1.1 r1 r2]
        simp (disch := omega) only [nI_ti, nI_cl, le0N, ltNN, n1, n2, n4, n10, c2, c3, c4, c6, ec, ne, k1, k2, k5, w2, z10, true_and, true_imp_iff, not_true_eq_false, not_false_eq_true, false_imp_iff, and_true, and_self]
        by_cases cj : j < 10
        · rw [if_pos (by omega : j < 30), if_pos cj, nI_ltN (by omega) (by omega)]
          exact ⟨fun w => w.2 (by omega), fun w => ⟨fun c => absurd c (by omega), fun _ => w⟩⟩
        · rw [if_neg cj]
          by_cases cj2 : j < 30
          · rw [if_pos cj2, nI_ltN (by omega) (by omega)]
            exact ⟨fun w => w.1 (by omega), fun w => ⟨fun _ => w, fun c => absurd (by omega) c⟩⟩
          · rw [if_neg cj2, nI_ltN (by omega) (by omega)]
            exact ⟨fun w => w.2 (by omega), fun w => ⟨fun c => absurd c (by omega), fun _ => w⟩⟩
      · rw [e275_59a _ _ m.1.1 r1 r2]
        simp (disch := omega) only [nI_ti, nI_cl, le0N, ltNN, n1, n2, n4, n10, c2, c3, c4, c6, ec, ne, k1, k2, k5, w2, z10, true_and, true_imp_iff, not_true_eq_false, not_false_eq_true, false_imp_iff, and_true, and_self]
        by_cases cj : j < 10
        · rw [if_pos (by omega : j < 30), if_pos cj, nI_ltN (by omega) (by omega)]
          exact ⟨fun w => w.2 (by omega), fun w => ⟨fun c => absurd c (by omega), fun _ => w⟩⟩
        · rw [if_neg cj]
          by_cases cj2 : j < 30
          · rw [if_pos cj2, nI_ltN (by omega) (by omega)]
            exact ⟨fun w => w.1 (by omega), fun w => ⟨fun _ => w, fun c => absurd (by omega) c⟩⟩
          · rw [if_neg cj2, nI_ltN (by omega) (by omega)]
            exact ⟨fun w => w.2 (by omega), fun w => ⟨fun c => absurd c (by omega), fun _ => w⟩⟩
    · have k5 : ¬ rkd (nK N c) = 3 := fun e => c5 (k3.mp e)
      have ew : wrd N n = 0 := by unfold wrd; rw [hp]; simp only; rw [if_neg (fun w => c5 w.1)]
      rw [ew]
      rcases m.2.1 with ⟨rfl, r1, r2⟩ | ⟨rfl, r1, r2⟩
      · rw [e275_59b _ _ m.1.1 r1 r2]
        simp (disch := omega) only [nI_ti, nI_cl, le0N, ltNN, n1, n4, c2, c3, c4, ec, ne, k1, k5, true_and, true_imp_iff, not_true_eq_false, not_false_eq_true, false_imp_iff, and_true, and_self]
        exact Iff.rfl
      · rw [e275_59a _ _ m.1.1 r1 r2]
        simp (disch := omega) only [nI_ti, nI_cl, le0N, ltNN, n1, n4, c2, c3, c4, ec, ne, k1, k5, true_and, true_imp_iff, not_true_eq_false, not_false_eq_true, false_imp_iff, and_true, and_self]
        exact Iff.rfl
theorem m_arN (m : MC N mt q h) (ht : Tr (g + 1) N n b) (hb : b ≤ N.1) (h1 : 1 ≤ n) (hd : 1 < d) (hq : Q (some (.int (bI (arN N n)))) h) : aEv d 182 [.ref 59, .int (nI (n - 1))] h Q := by
  have h00 : 0 < d := by omega
  have hN1 := m.2.2.2.2.2
  have hn : n < N.1 := by have := trl_lt ht; omega
  have s := m.1.1
  have w := sq s (mc_q m)
  have R := mc_R m
  have nn := nq m.1.2 (mc_q m)
  have z10 : ¬ (1 : Int32) = 0 := by decide
  have z8 : (8 : Int32) = nI 8 := rfl
  have eb0 : bI false = 0 := rfl
  have eb1 : bI true = 1 := rfl
  have loop : ∀ (l : List Nat) (a : Nat), TL g N l a b → Q (some (.int (bI (l.all (fun c => nK N c == 5))))) h → aWP d 182 30 [(2, .int (dnI (oI l.head?))), (0, .ref 59), (1, .int (nI (n - 1)))] [] h Q := by
    intro l
    induction l with
    | nil =>
      intro a tl q'
      simp only [lv_args, z_v, z_lg, z_h, z_u, z_u1, z_c, z_ct, z_sk, sbne, lst1_d, ldel, lst2_d, ldel2, z_sw, z_rok, zi, eq_self, List.map_cons, List.map_nil, List.append_nil, List.nil_append, List.cons_append, Int32.reduceLT, Int32.reduceLE, Int32.reduceAdd, Int32.reduceSub, Int32.reduceMul, Int32.reduceToInt, Int32.reduceToNatClampNeg, Int.reduceLT, Int.reduceLE, Int.reduceNeg, true_and, and_true, or_self, or_false, false_or, false_and, and_false, true_or, or_true, if_true, if_false, ne_eq, Classical.not_not, not_true_eq_false, not_false_eq_true, true_implies, false_implies, implies_true, Nat.reduceEqDiff, Nat.reduceAdd, Nat.reduceLeDiff, Nat.reduceSub, reduceCtorEq, reduceIte, b182_30, dn_n]
      simp only [lv_args, z_v, z_lg, z_h, z_u, z_u1, z_c, z_ct, z_sk, sbne, lst1_d, ldel, lst2_d, ldel2, z_sw, z_rok, zi, eq_self, List.map_cons, List.map_nil, List.append_nil, List.nil_append, List.cons_append, Int32.reduceLT, Int32.reduceLE, Int32.reduceAdd, Int32.reduceSub, Int32.reduceMul, Int32.reduceToInt, Int32.reduceToNatClampNeg, Int.reduceLT, Int.reduceLE, Int.reduceNeg, true_and, and_true, or_self, or_false, false_or, false_and, and_false, true_or, or_true, if_true, if_false, ne_eq, Classical.not_not, not_true_eq_false, not_false_eq_true, true_implies, false_implies, implies_true, Nat.reduceEqDiff, Nat.reduceAdd, Nat.reduceLeDiff, Nat.reduceSub, reduceCtorEq, reduceIte, b182_58]
      exact q'
    | cons c l ih =>
      intro a tl q'
      obtain ⟨x1, x2, x3, mm, x4, x5, x6⟩ := tl_c tl
      have ne := dn_m1 (l := l) x2 (by omega : c < 7000)
      have en := (m.2.2.1.1 c x2 x1).2.2.2.2
      rw [x3] at en
      have c2 : (c - 1 < 6200) = True := eq_true (by omega)
      simp only [lv_args, z_v, z_lg, z_h, z_u, z_u1, z_c, z_ct, z_sk, sbne, lst1_d, ldel, lst2_d, ldel2, z_sw, z_rok, zi, eq_self, List.map_cons, List.map_nil, List.append_nil, List.nil_append, List.cons_append, Int32.reduceLT, Int32.reduceLE, Int32.reduceAdd, Int32.reduceSub, Int32.reduceMul, Int32.reduceToInt, Int32.reduceToNatClampNeg, Int.reduceLT, Int.reduceLE, Int.reduceNeg, true_and, and_true, or_self, or_false, false_or, false_and, and_false, true_or, or_true, if_true, if_false, ne_eq, Classical.not_not, not_true_eq_false, not_false_eq_true, true_implies, false_implies, implies_true, Nat.reduceEqDiff, Nat.reduceAdd, Nat.reduceLeDiff, Nat.reduceSub, reduceCtorEq, reduceIte, b182_30, ne]
      rw [dn_o x2 (by omega)]
      simp only [lv_args, z_v, z_lg, z_h, z_u, z_u1, z_c, z_ct, z_sk, sbne, lst1_d, ldel, lst2_d, ldel2, z_sw, z_rok, zi, eq_self, List.map_cons, List.map_nil, List.append_nil, List.nil_append, List.cons_append, Int32.reduceLT, Int32.reduceLE, Int32.reduceAdd, Int32.reduceSub, Int32.reduceMul, Int32.reduceToInt, Int32.reduceToNatClampNeg, Int.reduceLT, Int.reduceLE, Int.reduceNeg, true_and, and_true, or_self, or_false, false_or, false_and, and_false, true_or, or_true, if_true, if_false, ne_eq, Classical.not_not, not_true_eq_false, not_false_eq_true, true_implies, false_implies, implies_true, Nat.reduceEqDiff, Nat.reduceAdd, Nat.reduceLeDiff, Nat.reduceSub, reduceCtorEq, reduceIte, b182_35, skM s, h00, m_isName m x2 x1, Nat.reduceLT]
      rw [List.all_cons] at q'
      cases hx : (nK N c == 5) with
      | true =>
        rw [hx, Bool.true_and] at q'
        have nx := ih mm x6 q'
        simp only [eb1, z10, not_false_eq_true, true_imp_iff, false_imp_iff, and_true]
        simp only [lv_args, z_v, z_lg, z_h, z_u, z_u1, z_c, z_ct, z_sk, sbne, lst1_d, ldel, lst2_d, ldel2, z_sw, z_rok, zi, eq_self, List.map_cons, List.map_nil, List.append_nil, List.nil_append, List.cons_append, Int32.reduceLT, Int32.reduceLE, Int32.reduceAdd, Int32.reduceSub, Int32.reduceMul, Int32.reduceToInt, Int32.reduceToNatClampNeg, Int.reduceLT, Int.reduceLE, Int.reduceNeg, true_and, and_true, or_self, or_false, false_or, false_and, and_false, true_or, or_true, if_true, if_false, ne_eq, Classical.not_not, not_true_eq_false, not_false_eq_true, true_implies, false_implies, implies_true, Nat.reduceEqDiff, Nat.reduceAdd, Nat.reduceLeDiff, Nat.reduceSub, reduceCtorEq, reduceIte, b182_45, skM s, srM s, R, w, nn]
        simp (disch := omega) only [nI_ti, nI_cl, le0N, ltNN, c2, en, true_and]
        try simp only [lv_args, z_v, z_lg, z_h, z_u, z_u1, z_c, z_ct, z_sk, sbne, lst1_d, ldel, lst2_d, ldel2, z_sw, z_rok, zi, eq_self, List.map_cons, List.map_nil, List.append_nil, List.nil_append, List.cons_append, Int32.reduceLT, Int32.reduceLE, Int32.reduceAdd, Int32.reduceSub, Int32.reduceMul, Int32.reduceToInt, Int32.reduceToNatClampNeg, Int.reduceLT, Int.reduceLE, Int.reduceNeg, true_and, and_true, or_self, or_false, false_or, false_and, and_false, true_or, or_true, if_true, if_false, ne_eq, Classical.not_not, not_true_eq_false, not_false_eq_true, true_implies, false_implies, implies_true, Nat.reduceEqDiff, Nat.reduceAdd, Nat.reduceLeDiff, Nat.reduceSub, reduceCtorEq, reduceIte, b182_45]
        exact nx
      | false =>
        rw [hx, Bool.false_and] at q'
        simp only [eb0, not_true_eq_false, true_imp_iff, false_imp_iff, true_and]
        simp only [lv_args, z_v, z_lg, z_h, z_u, z_u1, z_c, z_ct, z_sk, sbne, lst1_d, ldel, lst2_d, ldel2, z_sw, z_rok, zi, eq_self, List.map_cons, List.map_nil, List.append_nil, List.nil_append, List.cons_append, Int32.reduceLT, Int32.reduceLE, Int32.reduceAdd, Int32.reduceSub, Int32.reduceMul, Int32.reduceToInt, Int32.reduceToNatClampNeg, Int.reduceLT, Int.reduceLE, Int.reduceNeg, true_and, and_true, or_self, or_false, false_or, false_and, and_false, true_or, or_true, if_true, if_false, ne_eq, Classical.not_not, not_true_eq_false, not_false_eq_true, true_implies, false_implies, implies_true, Nat.reduceEqDiff, Nat.reduceAdd, Nat.reduceLeDiff, Nat.reduceSub, reduceCtorEq, reduceIte, b182_43]
        exact q'
  unfold aEv
  simp only [lv_args, z_v, z_lg, z_h, z_u, z_u1, z_c, z_ct, z_sk, sbne, lst1_d, ldel, lst2_d, ldel2, z_sw, z_rok, zi, eq_self, List.map_cons, List.map_nil, List.append_nil, List.nil_append, List.cons_append, Int32.reduceLT, Int32.reduceLE, Int32.reduceAdd, Int32.reduceSub, Int32.reduceMul, Int32.reduceToInt, Int32.reduceToNatClampNeg, Int.reduceLT, Int.reduceLE, Int.reduceNeg, true_and, and_true, or_self, or_false, false_or, false_and, and_false, true_or, or_true, if_true, if_false, ne_eq, Classical.not_not, not_true_eq_false, not_false_eq_true, true_implies, false_implies, implies_true, Nat.reduceEqDiff, Nat.reduceAdd, Nat.reduceLeDiff, Nat.reduceSub, reduceCtorEq, reduceIte, b182_0, skM s, h00, m_isList m h1 hn, Nat.reduceLT]
  by_cases h6 : nK N n = 6
  · obtain ⟨t1, t2, _⟩ := tl_n ht h6 hb hN1
    have hlen := tl_len t2
    have ec := mc_c m ht h6 hb h1
    have e6 : bI (nK N n == 6) = 1 := by rw [h6]; rfl
    have ea : arN N n = (decide ((pts N n).length ≤ 8) && (pts N n).all (fun c => nK N c == 5)) := by unfold arN; rw [h6]; simp
    rw [ea] at hq
    have c2 : (n - 1 < 6200) = True := eq_true (by omega)
    simp only [e6, z10, false_imp_iff, not_false_eq_true, true_imp_iff, true_and]
    simp only [lv_args, z_v, z_lg, z_h, z_u, z_u1, z_c, z_ct, z_sk, sbne, lst1_d, ldel, lst2_d, ldel2, z_sw, z_rok, zi, eq_self, List.map_cons, List.map_nil, List.append_nil, List.nil_append, List.cons_append, Int32.reduceLT, Int32.reduceLE, Int32.reduceAdd, Int32.reduceSub, Int32.reduceMul, Int32.reduceToInt, Int32.reduceToNatClampNeg, Int.reduceLT, Int.reduceLE, Int.reduceNeg, true_and, and_true, or_self, or_false, false_or, false_and, and_false, true_or, or_true, if_true, if_false, ne_eq, Classical.not_not, not_true_eq_false, not_false_eq_true, true_implies, false_implies, implies_true, Nat.reduceEqDiff, Nat.reduceAdd, Nat.reduceLeDiff, Nat.reduceSub, reduceCtorEq, reduceIte, b182_8, skM s, h00]
    refine m_parts m ht h6 hb h1 ?_
    simp only [lv_args, z_v, z_lg, z_h, z_u, z_u1, z_c, z_ct, z_sk, sbne, lst1_d, ldel, lst2_d, ldel2, z_sw, z_rok, zi, eq_self, List.map_cons, List.map_nil, List.append_nil, List.nil_append, List.cons_append, Int32.reduceLT, Int32.reduceLE, Int32.reduceAdd, Int32.reduceSub, Int32.reduceMul, Int32.reduceToInt, Int32.reduceToNatClampNeg, Int.reduceLT, Int.reduceLE, Int.reduceNeg, true_and, and_true, or_self, or_false, false_or, false_and, and_false, true_or, or_true, if_true, if_false, ne_eq, Classical.not_not, not_true_eq_false, not_false_eq_true, true_implies, false_implies, implies_true, Nat.reduceEqDiff, Nat.reduceAdd, Nat.reduceLeDiff, Nat.reduceSub, reduceCtorEq, reduceIte, b182_8, skM s, Nat.reduceLT, z8]
    simp (disch := omega) only [nI_leN]
    refine ⟨fun c => ?_, fun c => ?_⟩
    · rw [decide_eq_true c, Bool.true_and] at hq
      have go := loop (pts N n) (n + 1) t2 hq
      simp only [lv_args, z_v, z_lg, z_h, z_u, z_u1, z_c, z_ct, z_sk, sbne, lst1_d, ldel, lst2_d, ldel2, z_sw, z_rok, zi, eq_self, List.map_cons, List.map_nil, List.append_nil, List.nil_append, List.cons_append, Int32.reduceLT, Int32.reduceLE, Int32.reduceAdd, Int32.reduceSub, Int32.reduceMul, Int32.reduceToInt, Int32.reduceToNatClampNeg, Int.reduceLT, Int.reduceLE, Int.reduceNeg, true_and, and_true, or_self, or_false, false_or, false_and, and_false, true_or, or_true, if_true, if_false, ne_eq, Classical.not_not, not_true_eq_false, not_false_eq_true, true_implies, false_implies, implies_true, Nat.reduceEqDiff, Nat.reduceAdd, Nat.reduceLeDiff, Nat.reduceSub, reduceCtorEq, reduceIte, b182_20, skM s, srM s, R, w, nn]
      simp (disch := omega) only [nI_ti, nI_cl, le0N, ltNN, c2, ec, true_and]
      try simp only [lv_args, z_v, z_lg, z_h, z_u, z_u1, z_c, z_ct, z_sk, sbne, lst1_d, ldel, lst2_d, ldel2, z_sw, z_rok, zi, eq_self, List.map_cons, List.map_nil, List.append_nil, List.nil_append, List.cons_append, Int32.reduceLT, Int32.reduceLE, Int32.reduceAdd, Int32.reduceSub, Int32.reduceMul, Int32.reduceToInt, Int32.reduceToNatClampNeg, Int.reduceLT, Int.reduceLE, Int.reduceNeg, true_and, and_true, or_self, or_false, false_or, false_and, and_false, true_or, or_true, if_true, if_false, ne_eq, Classical.not_not, not_true_eq_false, not_false_eq_true, true_implies, false_implies, implies_true, Nat.reduceEqDiff, Nat.reduceAdd, Nat.reduceLeDiff, Nat.reduceSub, reduceCtorEq, reduceIte, b182_20]
      exact go
    · rw [decide_eq_false c, Bool.false_and] at hq
      simp only [lv_args, z_v, z_lg, z_h, z_u, z_u1, z_c, z_ct, z_sk, sbne, lst1_d, ldel, lst2_d, ldel2, z_sw, z_rok, zi, eq_self, List.map_cons, List.map_nil, List.append_nil, List.nil_append, List.cons_append, Int32.reduceLT, Int32.reduceLE, Int32.reduceAdd, Int32.reduceSub, Int32.reduceMul, Int32.reduceToInt, Int32.reduceToNatClampNeg, Int.reduceLT, Int.reduceLE, Int.reduceNeg, true_and, and_true, or_self, or_false, false_or, false_and, and_false, true_or, or_true, if_true, if_false, ne_eq, Classical.not_not, not_true_eq_false, not_false_eq_true, true_implies, false_implies, implies_true, Nat.reduceEqDiff, Nat.reduceAdd, Nat.reduceLeDiff, Nat.reduceSub, reduceCtorEq, reduceIte, b182_18]
      exact hq
  · have e6 : bI (nK N n == 6) = 0 := by
      have : (nK N n == 6) = false := by simpa using h6
      rw [this]; rfl
    have ea : arN N n = false := by
      have : (nK N n == 6) = false := by simpa using h6
      unfold arN
      rw [this]; rfl
    rw [ea] at hq
    simp only [e6, not_true_eq_false, false_imp_iff, true_imp_iff, and_true]
    simp only [lv_args, z_v, z_lg, z_h, z_u, z_u1, z_c, z_ct, z_sk, sbne, lst1_d, ldel, lst2_d, ldel2, z_sw, z_rok, zi, eq_self, List.map_cons, List.map_nil, List.append_nil, List.nil_append, List.cons_append, Int32.reduceLT, Int32.reduceLE, Int32.reduceAdd, Int32.reduceSub, Int32.reduceMul, Int32.reduceToInt, Int32.reduceToNatClampNeg, Int.reduceLT, Int.reduceLE, Int.reduceNeg, true_and, and_true, or_self, or_false, false_or, false_and, and_false, true_or, or_true, if_true, if_false, ne_eq, Classical.not_not, not_true_eq_false, not_false_eq_true, true_implies, false_implies, implies_true, Nat.reduceEqDiff, Nat.reduceAdd, Nat.reduceLeDiff, Nat.reduceSub, reduceCtorEq, reduceIte, b182_18]
    exact hq
theorem m_arP (m : MC N mt q h) (ht : Tr (g + 1) N n b) (hb : b ≤ N.1) (h1 : 1 ≤ n) (hd : 1 < d) (hq : Q (some (.int (bI (arP N n)))) h) : aEv d 183 [.ref 59, .int (nI (n - 1))] h Q := by
  have h00 : 0 < d := by omega
  have hN1 := m.2.2.2.2.2
  have hn : n < N.1 := by have := trl_lt ht; omega
  have s := m.1.1
  have w := sq s (mc_q m)
  have R := mc_R m
  have nn := nq m.1.2 (mc_q m)
  have z10 : ¬ (1 : Int32) = 0 := by decide
  have z8 : (8 : Int32) = nI 8 := rfl
  have z2 : (2 : Int32) = nI 2 := rfl
  have eb0 : bI false = 0 := rfl
  have eb1 : bI true = 1 := rfl
  have loop : ∀ (l : List Nat) (a : Nat), TL g N l a b → Q (some (.int (bI (l.all (fun c => decide ((pts N c).length = 2) && nK N (prt N c 0) == 5))))) h → aWP d 183 30 [(2, .int (dnI (oI l.head?))), (0, .ref 59), (1, .int (nI (n - 1)))] [] h Q := by
    intro l
    induction l with
    | nil =>
      intro a tl q'
      simp only [lv_args, z_v, z_lg, z_h, z_u, z_u1, z_c, z_ct, z_sk, sbne, lst1_d, ldel, lst2_d, ldel2, z_sw, z_rok, zi, eq_self, List.map_cons, List.map_nil, List.append_nil, List.nil_append, List.cons_append, Int32.reduceLT, Int32.reduceLE, Int32.reduceAdd, Int32.reduceSub, Int32.reduceMul, Int32.reduceToInt, Int32.reduceToNatClampNeg, Int.reduceLT, Int.reduceLE, Int.reduceNeg, true_and, and_true, or_self, or_false, false_or, false_and, and_false, true_or, or_true, if_true, if_false, ne_eq, Classical.not_not, not_true_eq_false, not_false_eq_true, true_implies, false_implies, implies_true, Nat.reduceEqDiff, Nat.reduceAdd, Nat.reduceLeDiff, Nat.reduceSub, reduceCtorEq, reduceIte, b183_30, dn_n]
      simp only [lv_args, z_v, z_lg, z_h, z_u, z_u1, z_c, z_ct, z_sk, sbne, lst1_d, ldel, lst2_d, ldel2, z_sw, z_rok, zi, eq_self, List.map_cons, List.map_nil, List.append_nil, List.nil_append, List.cons_append, Int32.reduceLT, Int32.reduceLE, Int32.reduceAdd, Int32.reduceSub, Int32.reduceMul, Int32.reduceToInt, Int32.reduceToNatClampNeg, Int.reduceLT, Int.reduceLE, Int.reduceNeg, true_and, and_true, or_self, or_false, false_or, false_and, and_false, true_or, or_true, if_true, if_false, ne_eq, Classical.not_not, not_true_eq_false, not_false_eq_true, true_implies, false_implies, implies_true, Nat.reduceEqDiff, Nat.reduceAdd, Nat.reduceLeDiff, Nat.reduceSub, reduceCtorEq, reduceIte, b183_83]
      exact q'
    | cons c l ih =>
      intro a tl q'
      obtain ⟨x1, x2, x3, mm, x4, x5, x6⟩ := tl_c tl
      have ne := dn_m1 (l := l) x2 (by omega : c < 7000)
      have en := (m.2.2.1.1 c x2 x1).2.2.2.2
      rw [x3] at en
      have c2 : (c - 1 < 6200) = True := eq_true (by omega)
      obtain ⟨gg, eg, tc⟩ : ∃ gg, g = gg + 1 ∧ Tr (gg + 1) N c mm := by
        cases g with
        | zero => exact x4.elim
        | succ gg => exact ⟨gg, rfl, x4⟩
      rw [List.all_cons] at q'
      have bad : (decide ((pts N c).length = 2) && nK N (prt N c 0) == 5) = false → aWP d 183 68 [(2, .int (nI (c - 1))), (0, .ref 59), (1, .int (nI (n - 1)))] [] h Q := fun e => by
        rw [e, Bool.false_and] at q'
        simp only [lv_args, z_v, z_lg, z_h, z_u, z_u1, z_c, z_ct, z_sk, sbne, lst1_d, ldel, lst2_d, ldel2, z_sw, z_rok, zi, eq_self, List.map_cons, List.map_nil, List.append_nil, List.nil_append, List.cons_append, Int32.reduceLT, Int32.reduceLE, Int32.reduceAdd, Int32.reduceSub, Int32.reduceMul, Int32.reduceToInt, Int32.reduceToNatClampNeg, Int.reduceLT, Int.reduceLE, Int.reduceNeg, true_and, and_true, or_self, or_false, false_or, false_and, and_false, true_or, or_true, if_true, if_false, ne_eq, Classical.not_not, not_true_eq_false, not_false_eq_true, true_implies, false_implies, implies_true, Nat.reduceEqDiff, Nat.reduceAdd, Nat.reduceLeDiff, Nat.reduceSub, reduceCtorEq, reduceIte, b183_68]
        exact q'
      simp only [lv_args, z_v, z_lg, z_h, z_u, z_u1, z_c, z_ct, z_sk, sbne, lst1_d, ldel, lst2_d, ldel2, z_sw, z_rok, zi, eq_self, List.map_cons, List.map_nil, List.append_nil, List.nil_append, List.cons_append, Int32.reduceLT, Int32.reduceLE, Int32.reduceAdd, Int32.reduceSub, Int32.reduceMul, Int32.reduceToInt, Int32.reduceToNatClampNeg, Int.reduceLT, Int.reduceLE, Int.reduceNeg, true_and, and_true, or_self, or_false, false_or, false_and, and_false, true_or, or_true, if_true, if_false, ne_eq, Classical.not_not, not_true_eq_false, not_false_eq_true, true_implies, false_implies, implies_true, Nat.reduceEqDiff, Nat.reduceAdd, Nat.reduceLeDiff, Nat.reduceSub, reduceCtorEq, reduceIte, b183_30, ne]
      rw [dn_o x2 (by omega)]
      simp only [lv_args, z_v, z_lg, z_h, z_u, z_u1, z_c, z_ct, z_sk, sbne, lst1_d, ldel, lst2_d, ldel2, z_sw, z_rok, zi, eq_self, List.map_cons, List.map_nil, List.append_nil, List.nil_append, List.cons_append, Int32.reduceLT, Int32.reduceLE, Int32.reduceAdd, Int32.reduceSub, Int32.reduceMul, Int32.reduceToInt, Int32.reduceToNatClampNeg, Int.reduceLT, Int.reduceLE, Int.reduceNeg, true_and, and_true, or_self, or_false, false_or, false_and, and_false, true_or, or_true, if_true, if_false, ne_eq, Classical.not_not, not_true_eq_false, not_false_eq_true, true_implies, false_implies, implies_true, Nat.reduceEqDiff, Nat.reduceAdd, Nat.reduceLeDiff, Nat.reduceSub, reduceCtorEq, reduceIte, b183_35, skM s, h00, m_isList m x2 x1, Nat.reduceLT]
      by_cases c6 : nK N c = 6
      · have e6 : bI (nK N c == 6) = 1 := by rw [c6]; rfl
        obtain ⟨w1, w2, w3⟩ := tl_n tc c6 x5 hN1
        have hl2 := tl_len w2
        simp only [e6, z10, not_false_eq_true, true_imp_iff, false_imp_iff, true_and]
        simp only [lv_args, z_v, z_lg, z_h, z_u, z_u1, z_c, z_ct, z_sk, sbne, lst1_d, ldel, lst2_d, ldel2, z_sw, z_rok, zi, eq_self, List.map_cons, List.map_nil, List.append_nil, List.nil_append, List.cons_append, Int32.reduceLT, Int32.reduceLE, Int32.reduceAdd, Int32.reduceSub, Int32.reduceMul, Int32.reduceToInt, Int32.reduceToNatClampNeg, Int.reduceLT, Int.reduceLE, Int.reduceNeg, true_and, and_true, or_self, or_false, false_or, false_and, and_false, true_or, or_true, if_true, if_false, ne_eq, Classical.not_not, not_true_eq_false, not_false_eq_true, true_implies, false_implies, implies_true, Nat.reduceEqDiff, Nat.reduceAdd, Nat.reduceLeDiff, Nat.reduceSub, reduceCtorEq, reduceIte, b183_43, skM s, h00]
        refine m_parts m tc c6 x5 x2 ?_
        simp only [lv_args, z_v, z_lg, z_h, z_u, z_u1, z_c, z_ct, z_sk, sbne, lst1_d, ldel, lst2_d, ldel2, z_sw, z_rok, zi, eq_self, List.map_cons, List.map_nil, List.append_nil, List.nil_append, List.cons_append, Int32.reduceLT, Int32.reduceLE, Int32.reduceAdd, Int32.reduceSub, Int32.reduceMul, Int32.reduceToInt, Int32.reduceToNatClampNeg, Int.reduceLT, Int.reduceLE, Int.reduceNeg, true_and, and_true, or_self, or_false, false_or, false_and, and_false, true_or, or_true, if_true, if_false, ne_eq, Classical.not_not, not_true_eq_false, not_false_eq_true, true_implies, false_implies, implies_true, Nat.reduceEqDiff, Nat.reduceAdd, Nat.reduceLeDiff, Nat.reduceSub, reduceCtorEq, reduceIte, b183_43, skM s, Nat.reduceLT, z2]
        simp (disch := omega) only [nI_eqN]
        refine ⟨fun cl => bad (by rw [decide_eq_false cl]; rfl), fun cl => ?_⟩
        have k0 := prt_get (N := N) (n := c) (k := 0) (by omega)
        obtain ⟨e1, e2, _⟩ := tl_get w2 k0
        have ec := mc_c m tc c6 x5 x2
        have hd0 : (pts N c).head? = some (prt N c 0) := by rw [← k0]; cases pts N c <;> rfl
        have ed : dnI (oI (some (prt N c 0))) = nI (prt N c 0 - 1) := dnI_nI e2 (by omega)
        rw [hd0, ed] at ec
        simp only [lv_args, z_v, z_lg, z_h, z_u, z_u1, z_c, z_ct, z_sk, sbne, lst1_d, ldel, lst2_d, ldel2, z_sw, z_rok, zi, eq_self, List.map_cons, List.map_nil, List.append_nil, List.nil_append, List.cons_append, Int32.reduceLT, Int32.reduceLE, Int32.reduceAdd, Int32.reduceSub, Int32.reduceMul, Int32.reduceToInt, Int32.reduceToNatClampNeg, Int.reduceLT, Int.reduceLE, Int.reduceNeg, true_and, and_true, or_self, or_false, false_or, false_and, and_false, true_or, or_true, if_true, if_false, ne_eq, Classical.not_not, not_true_eq_false, not_false_eq_true, true_implies, false_implies, implies_true, Nat.reduceEqDiff, Nat.reduceAdd, Nat.reduceLeDiff, Nat.reduceSub, reduceCtorEq, reduceIte, b183_52, skM s, srM s, R, w, nn, h00]
        simp (disch := omega) only [nI_ti, nI_cl, le0N, ltNN, c2, ec, true_and]
        try simp only [lv_args, z_v, z_lg, z_h, z_u, z_u1, z_c, z_ct, z_sk, sbne, lst1_d, ldel, lst2_d, ldel2, z_sw, z_rok, zi, eq_self, List.map_cons, List.map_nil, List.append_nil, List.nil_append, List.cons_append, Int32.reduceLT, Int32.reduceLE, Int32.reduceAdd, Int32.reduceSub, Int32.reduceMul, Int32.reduceToInt, Int32.reduceToNatClampNeg, Int.reduceLT, Int.reduceLE, Int.reduceNeg, true_and, and_true, or_self, or_false, false_or, false_and, and_false, true_or, or_true, if_true, if_false, ne_eq, Classical.not_not, not_true_eq_false, not_false_eq_true, true_implies, false_implies, implies_true, Nat.reduceEqDiff, Nat.reduceAdd, Nat.reduceLeDiff, Nat.reduceSub, reduceCtorEq, reduceIte, b183_52, skM s, srM s, R, w, nn, h00]
        rw [m_isName m e2 e1]
        simp only [lv_args, z_v, z_lg, z_h, z_u, z_u1, z_c, z_ct, z_sk, sbne, lst1_d, ldel, lst2_d, ldel2, z_sw, z_rok, zi, eq_self, List.map_cons, List.map_nil, List.append_nil, List.nil_append, List.cons_append, Int32.reduceLT, Int32.reduceLE, Int32.reduceAdd, Int32.reduceSub, Int32.reduceMul, Int32.reduceToInt, Int32.reduceToNatClampNeg, Int.reduceLT, Int.reduceLE, Int.reduceNeg, true_and, and_true, or_self, or_false, false_or, false_and, and_false, true_or, or_true, if_true, if_false, ne_eq, Classical.not_not, not_true_eq_false, not_false_eq_true, true_implies, false_implies, implies_true, Nat.reduceEqDiff, Nat.reduceAdd, Nat.reduceLeDiff, Nat.reduceSub, reduceCtorEq, reduceIte, b183_52, skM s, Nat.reduceLT]
        cases hx : (nK N (prt N c 0) == 5) with
        | true =>
          have hh : (decide ((pts N c).length = 2) && nK N (prt N c 0) == 5) = true := by rw [decide_eq_true cl, hx]; rfl
          rw [hh, Bool.true_and] at q'
          have nx := ih mm x6 q'
          simp only [eb1, z10, not_false_eq_true, true_imp_iff, false_imp_iff, and_true]
          simp only [lv_args, z_v, z_lg, z_h, z_u, z_u1, z_c, z_ct, z_sk, sbne, lst1_d, ldel, lst2_d, ldel2, z_sw, z_rok, zi, eq_self, List.map_cons, List.map_nil, List.append_nil, List.nil_append, List.cons_append, Int32.reduceLT, Int32.reduceLE, Int32.reduceAdd, Int32.reduceSub, Int32.reduceMul, Int32.reduceToInt, Int32.reduceToNatClampNeg, Int.reduceLT, Int.reduceLE, Int.reduceNeg, true_and, and_true, or_self, or_false, false_or, false_and, and_false, true_or, or_true, if_true, if_false, ne_eq, Classical.not_not, not_true_eq_false, not_false_eq_true, true_implies, false_implies, implies_true, Nat.reduceEqDiff, Nat.reduceAdd, Nat.reduceLeDiff, Nat.reduceSub, reduceCtorEq, reduceIte, b183_70, skM s, srM s, R, w, nn]
          simp (disch := omega) only [nI_ti, nI_cl, le0N, ltNN, c2, en, true_and]
          try simp only [lv_args, z_v, z_lg, z_h, z_u, z_u1, z_c, z_ct, z_sk, sbne, lst1_d, ldel, lst2_d, ldel2, z_sw, z_rok, zi, eq_self, List.map_cons, List.map_nil, List.append_nil, List.nil_append, List.cons_append, Int32.reduceLT, Int32.reduceLE, Int32.reduceAdd, Int32.reduceSub, Int32.reduceMul, Int32.reduceToInt, Int32.reduceToNatClampNeg, Int.reduceLT, Int.reduceLE, Int.reduceNeg, true_and, and_true, or_self, or_false, false_or, false_and, and_false, true_or, or_true, if_true, if_false, ne_eq, Classical.not_not, not_true_eq_false, not_false_eq_true, true_implies, false_implies, implies_true, Nat.reduceEqDiff, Nat.reduceAdd, Nat.reduceLeDiff, Nat.reduceSub, reduceCtorEq, reduceIte, b183_70]
          exact nx
        | false =>
          simp only [eb0, not_true_eq_false, true_imp_iff, false_imp_iff, true_and]
          exact bad (by rw [hx, Bool.and_false])
      · have e6 : bI (nK N c == 6) = 0 := by
          have : (nK N c == 6) = false := by simpa using c6
          rw [this]; rfl
        simp only [e6, not_true_eq_false, true_imp_iff, false_imp_iff, and_true]
        exact bad (by rw [pts_no c6]; rfl)
  unfold aEv
  simp only [lv_args, z_v, z_lg, z_h, z_u, z_u1, z_c, z_ct, z_sk, sbne, lst1_d, ldel, lst2_d, ldel2, z_sw, z_rok, zi, eq_self, List.map_cons, List.map_nil, List.append_nil, List.nil_append, List.cons_append, Int32.reduceLT, Int32.reduceLE, Int32.reduceAdd, Int32.reduceSub, Int32.reduceMul, Int32.reduceToInt, Int32.reduceToNatClampNeg, Int.reduceLT, Int.reduceLE, Int.reduceNeg, true_and, and_true, or_self, or_false, false_or, false_and, and_false, true_or, or_true, if_true, if_false, ne_eq, Classical.not_not, not_true_eq_false, not_false_eq_true, true_implies, false_implies, implies_true, Nat.reduceEqDiff, Nat.reduceAdd, Nat.reduceLeDiff, Nat.reduceSub, reduceCtorEq, reduceIte, b183_0, skM s, h00, m_isList m h1 hn, Nat.reduceLT]
  by_cases h6 : nK N n = 6
  · obtain ⟨t1, t2, _⟩ := tl_n ht h6 hb hN1
    have hlen := tl_len t2
    have ec := mc_c m ht h6 hb h1
    have e6 : bI (nK N n == 6) = 1 := by rw [h6]; rfl
    have ea : arP N n = (decide ((pts N n).length ≤ 8) && (pts N n).all (fun c => decide ((pts N c).length = 2) && nK N (prt N c 0) == 5)) := by unfold arP; rw [h6]; simp
    rw [ea] at hq
    have c2 : (n - 1 < 6200) = True := eq_true (by omega)
    simp only [e6, z10, false_imp_iff, not_false_eq_true, true_imp_iff, true_and]
    simp only [lv_args, z_v, z_lg, z_h, z_u, z_u1, z_c, z_ct, z_sk, sbne, lst1_d, ldel, lst2_d, ldel2, z_sw, z_rok, zi, eq_self, List.map_cons, List.map_nil, List.append_nil, List.nil_append, List.cons_append, Int32.reduceLT, Int32.reduceLE, Int32.reduceAdd, Int32.reduceSub, Int32.reduceMul, Int32.reduceToInt, Int32.reduceToNatClampNeg, Int.reduceLT, Int.reduceLE, Int.reduceNeg, true_and, and_true, or_self, or_false, false_or, false_and, and_false, true_or, or_true, if_true, if_false, ne_eq, Classical.not_not, not_true_eq_false, not_false_eq_true, true_implies, false_implies, implies_true, Nat.reduceEqDiff, Nat.reduceAdd, Nat.reduceLeDiff, Nat.reduceSub, reduceCtorEq, reduceIte, b183_8, skM s, h00]
    refine m_parts m ht h6 hb h1 ?_
    simp only [lv_args, z_v, z_lg, z_h, z_u, z_u1, z_c, z_ct, z_sk, sbne, lst1_d, ldel, lst2_d, ldel2, z_sw, z_rok, zi, eq_self, List.map_cons, List.map_nil, List.append_nil, List.nil_append, List.cons_append, Int32.reduceLT, Int32.reduceLE, Int32.reduceAdd, Int32.reduceSub, Int32.reduceMul, Int32.reduceToInt, Int32.reduceToNatClampNeg, Int.reduceLT, Int.reduceLE, Int.reduceNeg, true_and, and_true, or_self, or_false, false_or, false_and, and_false, true_or, or_true, if_true, if_false, ne_eq, Classical.not_not, not_true_eq_false, not_false_eq_true, true_implies, false_implies, implies_true, Nat.reduceEqDiff, Nat.reduceAdd, Nat.reduceLeDiff, Nat.reduceSub, reduceCtorEq, reduceIte, b183_8, skM s, Nat.reduceLT, z8]
    simp (disch := omega) only [nI_leN]
    refine ⟨fun c => ?_, fun c => ?_⟩
    · rw [decide_eq_true c, Bool.true_and] at hq
      have go := loop (pts N n) (n + 1) t2 hq
      simp only [lv_args, z_v, z_lg, z_h, z_u, z_u1, z_c, z_ct, z_sk, sbne, lst1_d, ldel, lst2_d, ldel2, z_sw, z_rok, zi, eq_self, List.map_cons, List.map_nil, List.append_nil, List.nil_append, List.cons_append, Int32.reduceLT, Int32.reduceLE, Int32.reduceAdd, Int32.reduceSub, Int32.reduceMul, Int32.reduceToInt, Int32.reduceToNatClampNeg, Int.reduceLT, Int.reduceLE, Int.reduceNeg, true_and, and_true, or_self, or_false, false_or, false_and, and_false, true_or, or_true, if_true, if_false, ne_eq, Classical.not_not, not_true_eq_false, not_false_eq_true, true_implies, false_implies, implies_true, Nat.reduceEqDiff, Nat.reduceAdd, Nat.reduceLeDiff, Nat.reduceSub, reduceCtorEq, reduceIte, b183_20, skM s, srM s, R, w, nn]
      simp (disch := omega) only [nI_ti, nI_cl, le0N, ltNN, c2, ec, true_and]
      try simp only [lv_args, z_v, z_lg, z_h, z_u, z_u1, z_c, z_ct, z_sk, sbne, lst1_d, ldel, lst2_d, ldel2, z_sw, z_rok, zi, eq_self, List.map_cons, List.map_nil, List.append_nil, List.nil_append, List.cons_append, Int32.reduceLT, Int32.reduceLE, Int32.reduceAdd, Int32.reduceSub, Int32.reduceMul, Int32.reduceToInt, Int32.reduceToNatClampNeg, Int.reduceLT, Int.reduceLE, Int.reduceNeg, true_and, and_true, or_self, or_false, false_or, false_and, and_false, true_or, or_true, if_true, if_false, ne_eq, Classical.not_not, not_true_eq_false, not_false_eq_true, true_implies, false_implies, implies_true, Nat.reduceEqDiff, Nat.reduceAdd, Nat.reduceLeDiff, Nat.reduceSub, reduceCtorEq, reduceIte, b183_20]
      exact go
    · rw [decide_eq_false c, Bool.false_and] at hq
      simp only [lv_args, z_v, z_lg, z_h, z_u, z_u1, z_c, z_ct, z_sk, sbne, lst1_d, ldel, lst2_d, ldel2, z_sw, z_rok, zi, eq_self, List.map_cons, List.map_nil, List.append_nil, List.nil_append, List.cons_append, Int32.reduceLT, Int32.reduceLE, Int32.reduceAdd, Int32.reduceSub, Int32.reduceMul, Int32.reduceToInt, Int32.reduceToNatClampNeg, Int.reduceLT, Int.reduceLE, Int.reduceNeg, true_and, and_true, or_self, or_false, false_or, false_and, and_false, true_or, or_true, if_true, if_false, ne_eq, Classical.not_not, not_true_eq_false, not_false_eq_true, true_implies, false_implies, implies_true, Nat.reduceEqDiff, Nat.reduceAdd, Nat.reduceLeDiff, Nat.reduceSub, reduceCtorEq, reduceIte, b183_18]
      exact hq
  · have e6 : bI (nK N n == 6) = 0 := by
      have : (nK N n == 6) = false := by simpa using h6
      rw [this]; rfl
    have ea : arP N n = false := by
      have : (nK N n == 6) = false := by simpa using h6
      unfold arP
      rw [this]; rfl
    rw [ea] at hq
    simp only [e6, not_true_eq_false, false_imp_iff, true_imp_iff, and_true]
    simp only [lv_args, z_v, z_lg, z_h, z_u, z_u1, z_c, z_ct, z_sk, sbne, lst1_d, ldel, lst2_d, ldel2, z_sw, z_rok, zi, eq_self, List.map_cons, List.map_nil, List.append_nil, List.nil_append, List.cons_append, Int32.reduceLT, Int32.reduceLE, Int32.reduceAdd, Int32.reduceSub, Int32.reduceMul, Int32.reduceToInt, Int32.reduceToNatClampNeg, Int.reduceLT, Int.reduceLE, Int.reduceNeg, true_and, and_true, or_self, or_false, false_or, false_and, and_false, true_or, or_true, if_true, if_false, ne_eq, Classical.not_not, not_true_eq_false, not_false_eq_true, true_implies, false_implies, implies_true, Nat.reduceEqDiff, Nat.reduceAdd, Nat.reduceLeDiff, Nat.reduceSub, reduceCtorEq, reduceIte, b183_18]
    exact hq
end MST
