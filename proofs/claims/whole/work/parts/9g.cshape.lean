/-! BUILD. Shapes of forms, as the compiler looks at them -/
def TL (g : Nat) (N : NS) (l : List Nat) (a b : Nat) : Prop := Frs (Tr g N) (nX N) l a b ∧ b ≤ N.1 ∧ 1 ≤ a
def wJ (w : Nat) : Int32 := nI w - 1
theorem wJ_0 : wJ 0 = -1 := by decide
theorem wJ_s (j : Nat) : wJ (j + 1) = nI j := nI_m1
section TLS
variable {N : NS} {g : Nat}
theorem trl_lt : ∀ {g n b : Nat}, Tr g N n b → n < b
  | 0, _, _, h => h.elim
  | g + 1, n, b, h => by
    rcases h with ⟨_, e⟩ | ⟨_, _, _, _, e, _⟩
    · omega
    · exact e
theorem tl_c {c a b : Nat} {l : List Nat} (h : TL g N (c :: l) a b) : c < N.1 ∧ 1 ≤ c ∧ nX N c = oI l.head? ∧ ∃ m, Tr g N c m ∧ m ≤ N.1 ∧ TL g N l m b := by
  obtain ⟨⟨rfl, m, h1, h2, h3, h4, h5⟩, hb, ha⟩ := h
  exact ⟨by omega, ha, h4, m, h1, by omega, h5, hb, by omega⟩
theorem tl_n {n b : Nat} (h : Tr (g + 1) N n b) (h6 : nK N n = 6) (hb : b ≤ N.1) (hNm : N.1 ≤ 6201) : nF N n = oI (pts N n).head? ∧ TL g N (pts N n) (n + 1) b ∧ n < N.1 := by
  obtain ⟨t1, t2, t3⟩ := tr_pts h h6 (by omega)
  have := trl_lt h
  exact ⟨t2, ⟨t3, hb, by omega⟩, by omega⟩
theorem tl_len {l : List Nat} {a b : Nat} (h : TL g N l a b) : l.length + a ≤ N.1 := by
  have := frs_len l a b h.1
  have := h.2.1
  omega
theorem tl_get : ∀ {l : List Nat} {a b k c : Nat}, TL g N l a b → l[k]? = some c → c < N.1 ∧ 1 ≤ c ∧ nX N c = oI (l[k + 1]?) ∧ ∃ m, Tr g N c m ∧ m ≤ N.1
  | [], _, _, _, _, _, e => by simp at e
  | x :: l, a, b, 0, c, h, e => by
    simp only [List.getElem?_cons_zero, Option.some.injEq] at e
    subst e
    obtain ⟨h1, h2, h3, m, h4, h5, _⟩ := tl_c h
    refine ⟨h1, h2, ?_, m, h4, h5⟩
    rw [h3]
    cases l <;> rfl
  | x :: l, a, b, k + 1, c, h, e => by
    obtain ⟨h1, h2, h3, m, h4, h5, h6⟩ := tl_c h
    have e : l[k]? = some c := by simpa using e
    have := tl_get h6 e
    simpa using this
theorem tl_drop : ∀ {l : List Nat} {a b : Nat} (k : Nat), TL g N l a b → ∃ m, TL g N (l.drop k) m b
  | l, a, b, 0, h => ⟨a, h⟩
  | [], a, b, k + 1, h => ⟨a, h⟩
  | x :: l, a, b, k + 1, h => by
    obtain ⟨_, _, _, m, _, _, h6⟩ := tl_c h
    exact tl_drop (l := l) k h6
theorem tl_mono {g' : Nat} {l : List Nat} {a b : Nat} (hg : ∀ n m, Tr g N n m → Tr g' N n m) (h : TL g N l a b) : TL g' N l a b := ⟨frs_cg l a b h.1 (fun u v _ _ w => hg u v w) (fun _ _ _ => rfl), h.2⟩
theorem prt_get {n k : Nat} (h : k < (pts N n).length) : (pts N n)[k]? = some (prt N n k) := gdD h
theorem hd_dr {l : List Nat} {k : Nat} : (l.drop k).head? = l[k]? := List.head?_drop
end TLS
section CSH
variable {h h' h0 : Hp} {Q : Option Value → Hp → Prop} {d n g b : Nat} {N : NS} {mt : List Nat}
/-- the second part -/
theorem rd_2 (s : Sk h) (r : RD N h) (ht : Tr (g + 1) N n b) (h6 : nK N n = 6) (hb : b ≤ N.1) (hNm : N.1 ≤ 6201) (hd : 0 < d) : aEv d 131 [.ref 3, .int (nI n)] h Q ↔ Q (some (.int (oI ((pts N n)[1]?)))) h := by
  obtain ⟨t1, t2, hn⟩ := tl_n ht h6 hb hNm
  obtain ⟨⟨r1, r2, r3⟩, m1, m2, m3, m4, m5⟩ := r
  have e := (r3 n hn).2.2.2.1
  have e' : hA h 13 n = oI (pts N n).head? := e.trans t1
  have c1 : (N.1 ≤ n) = False := eq_false (by omega)
  have c2 : (n < hN h 13) = True := eq_true (by omega)
  have c4 : (0 < d) = True := eq_true hd
  rw [e131_3 _ _ s, r1]
  cases hp : pts N n with
  | nil =>
    rw [hp] at e'
    have cm : ((-1 : Int32) < 0) = True := eq_true (by decide)
    have e2 : hA h 13 n = -1 := e'
    simp (disch := omega) only [nI_lt0, nI_leN, nI_ti, nI_cl, le0N, ltNN, c1, c2, c4, cm, e2, false_imp_iff, not_false_eq_true, not_true_eq_false, true_imp_iff, true_and, and_true]
    exact Iff.rfl
  | cons c ps =>
    rw [hp] at e' t2
    have e2 : hA h 13 n = nI c := e'
    obtain ⟨h1, h2, h3, _⟩ := tl_c t2
    have e3 : hA h 14 c = oI ps.head? := (r3 c h1).2.2.2.2.trans h3
    have c5 : (N.1 ≤ c) = False := eq_false (by omega)
    have c6 : (c < hN h 14) = True := eq_true (by omega)
    simp (disch := omega) only [nI_lt0, nI_leN, nI_ti, nI_cl, le0N, ltNN, c1, c2, c4, c5, c6, e2, e3, false_imp_iff, not_false_eq_true, true_imp_iff, true_and, and_true]
    cases ps <;> exact Iff.rfl
/-- the word that a list begins with -/
theorem rd_w (nk : Nok N mt) (s : Sk h) (r : RD N h) (ht : Tr (g + 1) N n b) (hF : nK N n ≠ 6 → nF N n = -1) (hb : b ≤ N.1) (hd : 0 < d) : aEv d 138 [.ref 3, .int (nI n)] h Q ↔ Q (some (.int (wJ (wrd N n)))) h := by
  have hNm := nk.2.2
  have hn : n < N.1 := by have := trl_lt ht; omega
  obtain ⟨⟨r1, r2, r3⟩, m1, m2, m3, m4, m5⟩ := r
  have e := (r3 n hn).2.2.2.1
  have c1 : (N.1 ≤ n) = False := eq_false (by omega)
  have c2 : (n < hN h 13) = True := eq_true (by omega)
  have c4 : (0 < d) = True := eq_true hd
  have cm : ((-1 : Int32) < 0) = True := eq_true (by decide)
  rw [e138_3 _ _ s, r1]
  by_cases h6 : nK N n = 6
  · obtain ⟨t1, t2, _⟩ := tl_n ht h6 hb hNm
    have e' : hA h 13 n = oI (pts N n).head? := e.trans t1
    cases hp : pts N n with
    | nil =>
      rw [hp] at e'
      have e2 : hA h 13 n = -1 := e'
      have ew : wrd N n = 0 := by unfold wrd; rw [hp]
      rw [ew, wJ_0]
      simp (disch := omega) only [nI_lt0, nI_leN, nI_ti, nI_cl, le0N, ltNN, c1, c2, c4, cm, e2, false_imp_iff, not_false_eq_true, not_true_eq_false, true_imp_iff, true_and, and_true]
    | cons c ps =>
      rw [hp] at e' t2
      have e2 : hA h 13 n = nI c := e'
      obtain ⟨h1, h2, h3, _⟩ := tl_c t2
      have e10 : hA h 10 c = nK N c := (r3 c h1).1
      have e11 : hA h 11 c = nC N c := (r3 c h1).2.1
      have c5 : (N.1 ≤ c) = False := eq_false (by omega)
      have c6 : (c < hN h 10) = True := eq_true (by omega)
      have c7 : (c < hN h 11) = True := eq_true (by omega)
      by_cases c8 : nK N c = 5
      · obtain ⟨j, hj, ej, ej2, hj3⟩ := nok_name nk h2 h1 c8
        have z10 : (10 : Int32) = nI 10 := rfl
        by_cases c9 : j < 10
        · have c10 : (10 ≤ j) = False := eq_false (by omega)
          have ew : wrd N n = j + 1 := by unfold wrd; rw [hp]; simp only; rw [if_pos ⟨c8, by omega⟩, ej2]
          rw [ew, wJ_s]
          simp (disch := omega) only [nI_lt0, nI_leN, nI_ti, nI_cl, le0N, ltNN, c1, c2, c4, c5, c6, c7, c8, c10, e2, e10, e11, ej, z10, false_imp_iff, not_false_eq_true, not_true_eq_false, true_imp_iff, true_and, and_true]
        · have c10 : (10 ≤ j) = True := eq_true (by omega)
          have ew : wrd N n = 0 := by unfold wrd; rw [hp]; simp only; rw [if_neg (fun w => by omega)]
          rw [ew, wJ_0]
          simp (disch := omega) only [nI_lt0, nI_leN, nI_ti, nI_cl, le0N, ltNN, c1, c2, c4, c5, c6, c7, c8, c10, e2, e10, e11, ej, z10, false_imp_iff, not_false_eq_true, not_true_eq_false, true_imp_iff, true_and, and_true]
      · have ew : wrd N n = 0 := by unfold wrd; rw [hp]; simp only; rw [if_neg (fun w => c8 w.1)]
        have c8' : (nK N c = 5) = False := eq_false c8
        rw [ew, wJ_0]
        simp (disch := omega) only [nI_lt0, nI_leN, nI_ti, nI_cl, le0N, ltNN, c1, c2, c4, c5, c6, c7, c8', e2, e10, e11, false_imp_iff, not_false_eq_true, not_true_eq_false, true_imp_iff, true_and, and_true]
  · have e2 : hA h 13 n = -1 := e.trans (hF h6)
    have ew : wrd N n = 0 := by unfold wrd; rw [pts_no h6]
    rw [ew, wJ_0]
    simp (disch := omega) only [nI_lt0, nI_leN, nI_ti, nI_cl, le0N, ltNN, c1, c2, c4, cm, e2, false_imp_iff, not_false_eq_true, not_true_eq_false, true_imp_iff, true_and, and_true]
theorem bI_01 {b : Bool} : bI b = 0 ∨ bI b = 1 := by cases b <;> simp [bI]
theorem sp_arN (nk : Nok N mt) (s : Sk h) (r : RD N h) (ht : Tr (g + 1) N n b) (hb : b ≤ N.1) (hd : 1 < d) (hq : Q (some (.int (bI (arN N n)))) h) : aEv d 1 [.ref 39, .int (nI n)] h Q := by
  have h00 : 0 < d := by omega
  have hNm := nk.2.2
  have hn : n < N.1 := by have := trl_lt ht; omega
  have z10 : ¬ (1 : Int32) = 0 := by decide
  have z8 : (8 : Int32) = nI 8 := rfl
  have hlp : (pts N n).length ≤ 7000 := by
    by_cases c6 : nK N n = 6
    · have := tl_len (tl_n ht c6 hb hNm).2.1
      omega
    · rw [pts_no c6]; exact Nat.zero_le _
  have loop : ∀ (l : List Nat) (i a : Nat) (fine : Bool), TL g N l a b → i + l.length = (pts N n).length → Q (some (.int (bI (fine && l.all (fun c => nK N c == 5))))) h → aWP d 1 45 [(5, .int (nI i)), (4, .int (oI l.head?)), (3, .int (bI fine)), (2, .int (nI (pts N n).length)), (0, .ref 39), (1, .int (nI n))] [] h Q := by
    intro l
    induction l with
    | nil =>
      intro i a fine tl hi q
      have hl := tl_len tl
      have hi : i = (pts N n).length := hi
      have hl' : (pts N n).length ≤ 7000 := hlp
      rw [List.all_nil, Bool.and_true] at q
      simp only [lv_args, z_v, z_lg, z_h, z_u, z_u1, z_c, z_ct, z_sk, sbne, lst1_d, ldel, lst2_d, ldel2, z_sw, z_rok, zi, eq_self, List.map_cons, List.map_nil, List.append_nil, List.nil_append, List.cons_append, Int32.reduceLT, Int32.reduceLE, Int32.reduceAdd, Int32.reduceSub, Int32.reduceMul, Int32.reduceToInt, Int32.reduceToNatClampNeg, Int.reduceLT, Int.reduceLE, Int.reduceNeg, true_and, and_true, or_self, or_false, false_or, false_and, and_false, true_or, or_true, if_true, if_false, ne_eq, Classical.not_not, not_true_eq_false, not_false_eq_true, true_implies, false_implies, implies_true, Nat.reduceEqDiff, Nat.reduceAdd, Nat.reduceLeDiff, Nat.reduceSub, reduceCtorEq, reduceIte, b1_45]
      simp (disch := omega) only [nI_leN]
      refine ⟨fun _ => ?_, fun c => absurd (by omega) c⟩
      simp only [lv_args, z_v, z_lg, z_h, z_u, z_u1, z_c, z_ct, z_sk, sbne, lst1_d, ldel, lst2_d, ldel2, z_sw, z_rok, zi, eq_self, List.map_cons, List.map_nil, List.append_nil, List.nil_append, List.cons_append, Int32.reduceLT, Int32.reduceLE, Int32.reduceAdd, Int32.reduceSub, Int32.reduceMul, Int32.reduceToInt, Int32.reduceToNatClampNeg, Int.reduceLT, Int.reduceLE, Int.reduceNeg, true_and, and_true, or_self, or_false, false_or, false_and, and_false, true_or, or_true, if_true, if_false, ne_eq, Classical.not_not, not_true_eq_false, not_false_eq_true, true_implies, false_implies, implies_true, Nat.reduceEqDiff, Nat.reduceAdd, Nat.reduceLeDiff, Nat.reduceSub, reduceCtorEq, reduceIte, b1_82]
      exact ⟨bI_01, q⟩
    | cons c l ih =>
      intro i a fine tl hi q
      have hl := tl_len tl
      obtain ⟨x1, x2, x3, m, x4, x5, x6⟩ := tl_c tl
      rw [List.length_cons] at hi
      have ho : oI (List.head? (c :: l)) = nI c := rfl
      simp only [lv_args, z_v, z_lg, z_h, z_u, z_u1, z_c, z_ct, z_sk, sbne, lst1_d, ldel, lst2_d, ldel2, z_sw, z_rok, zi, eq_self, List.map_cons, List.map_nil, List.append_nil, List.nil_append, List.cons_append, Int32.reduceLT, Int32.reduceLE, Int32.reduceAdd, Int32.reduceSub, Int32.reduceMul, Int32.reduceToInt, Int32.reduceToNatClampNeg, Int.reduceLT, Int.reduceLE, Int.reduceNeg, true_and, and_true, or_self, or_false, false_or, false_and, and_false, true_or, or_true, if_true, if_false, ne_eq, Classical.not_not, not_true_eq_false, not_false_eq_true, true_implies, false_implies, implies_true, Nat.reduceEqDiff, Nat.reduceAdd, Nat.reduceLeDiff, Nat.reduceSub, reduceCtorEq, reduceIte, b1_45]
      simp (disch := omega) only [nI_leN]
      refine ⟨fun c => absurd c (by omega), fun _ => ?_⟩
      cases fine with
      | false =>
        have q : Q (some (.int 0)) h := q
        have e : bI false = 0 := rfl
        simp only [lv_args, z_v, z_lg, z_h, z_u, z_u1, z_c, z_ct, z_sk, sbne, lst1_d, ldel, lst2_d, ldel2, z_sw, z_rok, zi, eq_self, List.map_cons, List.map_nil, List.append_nil, List.nil_append, List.cons_append, Int32.reduceLT, Int32.reduceLE, Int32.reduceAdd, Int32.reduceSub, Int32.reduceMul, Int32.reduceToInt, Int32.reduceToNatClampNeg, Int.reduceLT, Int.reduceLE, Int.reduceNeg, true_and, and_true, or_self, or_false, false_or, false_and, and_false, true_or, or_true, if_true, if_false, ne_eq, Classical.not_not, not_true_eq_false, not_false_eq_true, true_implies, false_implies, implies_true, Nat.reduceEqDiff, Nat.reduceAdd, Nat.reduceLeDiff, Nat.reduceSub, reduceCtorEq, reduceIte, b1_51, e]
        simp only [lv_args, z_v, z_lg, z_h, z_u, z_u1, z_c, z_ct, z_sk, sbne, lst1_d, ldel, lst2_d, ldel2, z_sw, z_rok, zi, eq_self, List.map_cons, List.map_nil, List.append_nil, List.nil_append, List.cons_append, Int32.reduceLT, Int32.reduceLE, Int32.reduceAdd, Int32.reduceSub, Int32.reduceMul, Int32.reduceToInt, Int32.reduceToNatClampNeg, Int.reduceLT, Int.reduceLE, Int.reduceNeg, true_and, and_true, or_self, or_false, false_or, false_and, and_false, true_or, or_true, if_true, if_false, ne_eq, Classical.not_not, not_true_eq_false, not_false_eq_true, true_implies, false_implies, implies_true, Nat.reduceEqDiff, Nat.reduceAdd, Nat.reduceLeDiff, Nat.reduceSub, reduceCtorEq, reduceIte, b1_82]
        exact q
      | true =>
        have e : bI true = 1 := rfl
        have nx := ih (i + 1) m (nK N c == 5) x6 (by omega) (by rw [List.all_cons, Bool.true_and] at q; exact q)
        simp only [lv_args, z_v, z_lg, z_h, z_u, z_u1, z_c, z_ct, z_sk, sbne, lst1_d, ldel, lst2_d, ldel2, z_sw, z_rok, zi, eq_self, List.map_cons, List.map_nil, List.append_nil, List.nil_append, List.cons_append, Int32.reduceLT, Int32.reduceLE, Int32.reduceAdd, Int32.reduceSub, Int32.reduceMul, Int32.reduceToInt, Int32.reduceToNatClampNeg, Int.reduceLT, Int.reduceLE, Int.reduceNeg, true_and, and_true, or_self, or_false, false_or, false_and, and_false, true_or, or_true, if_true, if_false, ne_eq, Classical.not_not, not_true_eq_false, not_false_eq_true, true_implies, false_implies, implies_true, Nat.reduceEqDiff, Nat.reduceAdd, Nat.reduceLeDiff, Nat.reduceSub, reduceCtorEq, reduceIte, b1_51, e, z10]
        simp only [lv_args, z_v, z_lg, z_h, z_u, z_u1, z_c, z_ct, z_sk, sbne, lst1_d, ldel, lst2_d, ldel2, z_sw, z_rok, zi, eq_self, List.map_cons, List.map_nil, List.append_nil, List.nil_append, List.cons_append, Int32.reduceLT, Int32.reduceLE, Int32.reduceAdd, Int32.reduceSub, Int32.reduceMul, Int32.reduceToInt, Int32.reduceToNatClampNeg, Int.reduceLT, Int.reduceLE, Int.reduceNeg, true_and, and_true, or_self, or_false, false_or, false_and, and_false, true_or, or_true, if_true, if_false, ne_eq, Classical.not_not, not_true_eq_false, not_false_eq_true, true_implies, false_implies, implies_true, Nat.reduceEqDiff, Nat.reduceAdd, Nat.reduceLeDiff, Nat.reduceSub, reduceCtorEq, reduceIte, b1_55, skX s, srX s, h00, ho, rd_n s r x1, rd_x s r x1, Nat.reduceLT, nI_1, x3]
        exact nx
  unfold aEv
  simp only [lv_args, z_v, z_lg, z_h, z_u, z_u1, z_c, z_ct, z_sk, sbne, lst1_d, ldel, lst2_d, ldel2, z_sw, z_rok, zi, eq_self, List.map_cons, List.map_nil, List.append_nil, List.nil_append, List.cons_append, Int32.reduceLT, Int32.reduceLE, Int32.reduceAdd, Int32.reduceSub, Int32.reduceMul, Int32.reduceToInt, Int32.reduceToNatClampNeg, Int.reduceLT, Int.reduceLE, Int.reduceNeg, true_and, and_true, or_self, or_false, false_or, false_and, and_false, true_or, or_true, if_true, if_false, ne_eq, Classical.not_not, not_true_eq_false, not_false_eq_true, true_implies, false_implies, implies_true, Nat.reduceEqDiff, Nat.reduceAdd, Nat.reduceLeDiff, Nat.reduceSub, reduceCtorEq, reduceIte, b1_0, skX s, srX s, h00, rd_m s r hn ht (by omega) (by omega : 0 < d - 1), rd_l s r hn, Nat.reduceLT]
  by_cases h6 : nK N n = 6
  · obtain ⟨t1, t2, _⟩ := tl_n ht h6 hb hNm
    have hl := tl_len t2
    have e6 : bI (nK N n == 6) = 1 := by rw [h6]; rfl
    have ea : arN N n = (decide ((pts N n).length ≤ 8) && (pts N n).all (fun c => nK N c == 5)) := by unfold arN; rw [h6]; simp
    rw [ea] at hq
    have fin := fun fine hf => loop (pts N n) 0 (n + 1) fine t2 (Nat.zero_add _) hf
    simp only [e6, z10, false_imp_iff, not_false_eq_true, true_imp_iff, true_and]
    simp only [lv_args, z_v, z_lg, z_h, z_u, z_u1, z_c, z_ct, z_sk, sbne, lst1_d, ldel, lst2_d, ldel2, z_sw, z_rok, zi, eq_self, List.map_cons, List.map_nil, List.append_nil, List.nil_append, List.cons_append, Int32.reduceLT, Int32.reduceLE, Int32.reduceAdd, Int32.reduceSub, Int32.reduceMul, Int32.reduceToInt, Int32.reduceToNatClampNeg, Int.reduceLT, Int.reduceLE, Int.reduceNeg, true_and, and_true, or_self, or_false, false_or, false_and, and_false, true_or, or_true, if_true, if_false, ne_eq, Classical.not_not, not_true_eq_false, not_false_eq_true, true_implies, false_implies, implies_true, Nat.reduceEqDiff, Nat.reduceAdd, Nat.reduceLeDiff, Nat.reduceSub, reduceCtorEq, reduceIte, b1_20, z8]
    simp (disch := omega) only [nI_ltN]
    refine ⟨fun c => ?_, fun c => ?_⟩
    · have := fin false (by rw [decide_eq_false (by omega)] at hq; exact hq)
      simp only [lv_args, z_v, z_lg, z_h, z_u, z_u1, z_c, z_ct, z_sk, sbne, lst1_d, ldel, lst2_d, ldel2, z_sw, z_rok, zi, eq_self, List.map_cons, List.map_nil, List.append_nil, List.nil_append, List.cons_append, Int32.reduceLT, Int32.reduceLE, Int32.reduceAdd, Int32.reduceSub, Int32.reduceMul, Int32.reduceToInt, Int32.reduceToNatClampNeg, Int.reduceLT, Int.reduceLE, Int.reduceNeg, true_and, and_true, or_self, or_false, false_or, false_and, and_false, true_or, or_true, if_true, if_false, ne_eq, Classical.not_not, not_true_eq_false, not_false_eq_true, true_implies, false_implies, implies_true, Nat.reduceEqDiff, Nat.reduceAdd, Nat.reduceLeDiff, Nat.reduceSub, reduceCtorEq, reduceIte, b1_30, b1_31, skX s, srX s, h00, rd_f s r hn, t1, Nat.reduceLT]
      exact this
    · have := fin true (by rw [decide_eq_true (by omega)] at hq; exact hq)
      simp only [lv_args, z_v, z_lg, z_h, z_u, z_u1, z_c, z_ct, z_sk, sbne, lst1_d, ldel, lst2_d, ldel2, z_sw, z_rok, zi, eq_self, List.map_cons, List.map_nil, List.append_nil, List.nil_append, List.cons_append, Int32.reduceLT, Int32.reduceLE, Int32.reduceAdd, Int32.reduceSub, Int32.reduceMul, Int32.reduceToInt, Int32.reduceToNatClampNeg, Int.reduceLT, Int.reduceLE, Int.reduceNeg, true_and, and_true, or_self, or_false, false_or, false_and, and_false, true_or, or_true, if_true, if_false, ne_eq, Classical.not_not, not_true_eq_false, not_false_eq_true, true_implies, false_implies, implies_true, Nat.reduceEqDiff, Nat.reduceAdd, Nat.reduceLeDiff, Nat.reduceSub, reduceCtorEq, reduceIte, b1_26, b1_31, skX s, srX s, h00, rd_f s r hn, t1, Nat.reduceLT]
      exact this
  · have e6 : bI (nK N n == 6) = 0 := by
      have : (nK N n == 6) = false := by simpa using h6
      rw [this]; rfl
    have ea : arN N n = false := by
      have : (nK N n == 6) = false := by simpa using h6
      unfold arN
      rw [this]; rfl
    rw [ea] at hq
    have hq : Q (some (.int 0)) h := hq
    have el : (nI ([] : List Nat).length ≤ 0) = True := eq_true (by decide)
    simp only [e6, not_true_eq_false, false_imp_iff, true_imp_iff, and_true]
    simp only [lv_args, z_v, z_lg, z_h, z_u, z_u1, z_c, z_ct, z_sk, sbne, lst1_d, ldel, lst2_d, ldel2, z_sw, z_rok, zi, eq_self, List.map_cons, List.map_nil, List.append_nil, List.nil_append, List.cons_append, Int32.reduceLT, Int32.reduceLE, Int32.reduceAdd, Int32.reduceSub, Int32.reduceMul, Int32.reduceToInt, Int32.reduceToNatClampNeg, Int.reduceLT, Int.reduceLE, Int.reduceNeg, true_and, and_true, or_self, or_false, false_or, false_and, and_false, true_or, or_true, if_true, if_false, ne_eq, Classical.not_not, not_true_eq_false, not_false_eq_true, true_implies, false_implies, implies_true, Nat.reduceEqDiff, Nat.reduceAdd, Nat.reduceLeDiff, Nat.reduceSub, reduceCtorEq, reduceIte, b1_30, b1_31, skX s, srX s, h00, rd_f s r hn, Nat.reduceLT, pts_no h6]
    simp only [lv_args, z_v, z_lg, z_h, z_u, z_u1, z_c, z_ct, z_sk, sbne, lst1_d, ldel, lst2_d, ldel2, z_sw, z_rok, zi, eq_self, List.map_cons, List.map_nil, List.append_nil, List.nil_append, List.cons_append, Int32.reduceLT, Int32.reduceLE, Int32.reduceAdd, Int32.reduceSub, Int32.reduceMul, Int32.reduceToInt, Int32.reduceToNatClampNeg, Int.reduceLT, Int.reduceLE, Int.reduceNeg, true_and, and_true, or_self, or_false, false_or, false_and, and_false, true_or, or_true, if_true, if_false, ne_eq, Classical.not_not, not_true_eq_false, not_false_eq_true, true_implies, false_implies, implies_true, Nat.reduceEqDiff, Nat.reduceAdd, Nat.reduceLeDiff, Nat.reduceSub, reduceCtorEq, reduceIte, b1_45, el]
    simp only [lv_args, z_v, z_lg, z_h, z_u, z_u1, z_c, z_ct, z_sk, sbne, lst1_d, ldel, lst2_d, ldel2, z_sw, z_rok, zi, eq_self, List.map_cons, List.map_nil, List.append_nil, List.nil_append, List.cons_append, Int32.reduceLT, Int32.reduceLE, Int32.reduceAdd, Int32.reduceSub, Int32.reduceMul, Int32.reduceToInt, Int32.reduceToNatClampNeg, Int.reduceLT, Int.reduceLE, Int.reduceNeg, true_and, and_true, or_self, or_false, false_or, false_and, and_false, true_or, or_true, if_true, if_false, ne_eq, Classical.not_not, not_true_eq_false, not_false_eq_true, true_implies, false_implies, implies_true, Nat.reduceEqDiff, Nat.reduceAdd, Nat.reduceLeDiff, Nat.reduceSub, reduceCtorEq, reduceIte, b1_82]
    exact hq
theorem sp_arP (nk : Nok N mt) (s : Sk h) (r : RD N h) (ht : Tr (g + 1) N n b) (hb : b ≤ N.1) (hd : 1 < d) (hq : Q (some (.int (bI (arP N n)))) h) : aEv d 0 [.ref 39, .int (nI n)] h Q := by
  have h00 : 0 < d := by omega
  have hNm := nk.2.2
  have hn : n < N.1 := by have := trl_lt ht; omega
  have z10 : ¬ (1 : Int32) = 0 := by decide
  have z8 : (8 : Int32) = nI 8 := rfl
  have hlp : (pts N n).length ≤ 7000 := by
    by_cases c6 : nK N n = 6
    · have := tl_len (tl_n ht c6 hb hNm).2.1
      omega
    · rw [pts_no c6]; exact Nat.zero_le _
  have z2 : (2 : Int32) = nI 2 := rfl
  have eb0 : bI false = 0 := rfl
  have eb1 : bI true = 1 := rfl
  have loop : ∀ (l : List Nat) (i a : Nat) (fine : Bool), TL g N l a b → i + l.length = (pts N n).length → Q (some (.int (bI (fine && l.all (fun c => decide ((pts N c).length = 2) && nK N (prt N c 0) == 5))))) h → aWP d 0 45 [(5, .int (nI i)), (4, .int (oI l.head?)), (3, .int (bI fine)), (2, .int (nI (pts N n).length)), (0, .ref 39), (1, .int (nI n))] [] h Q := by
    intro l
    induction l with
    | nil =>
      intro i a fine tl hi q
      have hl := tl_len tl
      have hi : i = (pts N n).length := hi
      have hl' : (pts N n).length ≤ 7000 := hlp
      rw [List.all_nil, Bool.and_true] at q
      simp only [lv_args, z_v, z_lg, z_h, z_u, z_u1, z_c, z_ct, z_sk, sbne, lst1_d, ldel, lst2_d, ldel2, z_sw, z_rok, zi, eq_self, List.map_cons, List.map_nil, List.append_nil, List.nil_append, List.cons_append, Int32.reduceLT, Int32.reduceLE, Int32.reduceAdd, Int32.reduceSub, Int32.reduceMul, Int32.reduceToInt, Int32.reduceToNatClampNeg, Int.reduceLT, Int.reduceLE, Int.reduceNeg, true_and, and_true, or_self, or_false, false_or, false_and, and_false, true_or, or_true, if_true, if_false, ne_eq, Classical.not_not, not_true_eq_false, not_false_eq_true, true_implies, false_implies, implies_true, Nat.reduceEqDiff, Nat.reduceAdd, Nat.reduceLeDiff, Nat.reduceSub, reduceCtorEq, reduceIte, b0_45]
      simp (disch := omega) only [nI_leN]
      refine ⟨fun _ => ?_, fun c => absurd (by omega) c⟩
      simp only [lv_args, z_v, z_lg, z_h, z_u, z_u1, z_c, z_ct, z_sk, sbne, lst1_d, ldel, lst2_d, ldel2, z_sw, z_rok, zi, eq_self, List.map_cons, List.map_nil, List.append_nil, List.nil_append, List.cons_append, Int32.reduceLT, Int32.reduceLE, Int32.reduceAdd, Int32.reduceSub, Int32.reduceMul, Int32.reduceToInt, Int32.reduceToNatClampNeg, Int.reduceLT, Int.reduceLE, Int.reduceNeg, true_and, and_true, or_self, or_false, false_or, false_and, and_false, true_or, or_true, if_true, if_false, ne_eq, Classical.not_not, not_true_eq_false, not_false_eq_true, true_implies, false_implies, implies_true, Nat.reduceEqDiff, Nat.reduceAdd, Nat.reduceLeDiff, Nat.reduceSub, reduceCtorEq, reduceIte, b0_110]
      exact ⟨bI_01, q⟩
    | cons c l ih =>
      intro i a fine tl hi q
      have hl := tl_len tl
      have hl0 : (pts N n).length ≤ 7000 := hlp
      obtain ⟨x1, x2, x3, m, x4, x5, x6⟩ := tl_c tl
      rw [List.length_cons] at hi
      have ho : oI (List.head? (c :: l)) = nI c := rfl
      simp only [lv_args, z_v, z_lg, z_h, z_u, z_u1, z_c, z_ct, z_sk, sbne, lst1_d, ldel, lst2_d, ldel2, z_sw, z_rok, zi, eq_self, List.map_cons, List.map_nil, List.append_nil, List.nil_append, List.cons_append, Int32.reduceLT, Int32.reduceLE, Int32.reduceAdd, Int32.reduceSub, Int32.reduceMul, Int32.reduceToInt, Int32.reduceToNatClampNeg, Int.reduceLT, Int.reduceLE, Int.reduceNeg, true_and, and_true, or_self, or_false, false_or, false_and, and_false, true_or, or_true, if_true, if_false, ne_eq, Classical.not_not, not_true_eq_false, not_false_eq_true, true_implies, false_implies, implies_true, Nat.reduceEqDiff, Nat.reduceAdd, Nat.reduceLeDiff, Nat.reduceSub, reduceCtorEq, reduceIte, b0_45, ho]
      simp (disch := omega) only [nI_leN]
      refine ⟨fun c => absurd c (by omega), fun _ => ?_⟩
      cases fine with
      | false =>
        have q : Q (some (.int 0)) h := q
        simp only [lv_args, z_v, z_lg, z_h, z_u, z_u1, z_c, z_ct, z_sk, sbne, lst1_d, ldel, lst2_d, ldel2, z_sw, z_rok, zi, eq_self, List.map_cons, List.map_nil, List.append_nil, List.nil_append, List.cons_append, Int32.reduceLT, Int32.reduceLE, Int32.reduceAdd, Int32.reduceSub, Int32.reduceMul, Int32.reduceToInt, Int32.reduceToNatClampNeg, Int.reduceLT, Int.reduceLE, Int.reduceNeg, true_and, and_true, or_self, or_false, false_or, false_and, and_false, true_or, or_true, if_true, if_false, ne_eq, Classical.not_not, not_true_eq_false, not_false_eq_true, true_implies, false_implies, implies_true, Nat.reduceEqDiff, Nat.reduceAdd, Nat.reduceLeDiff, Nat.reduceSub, reduceCtorEq, reduceIte, b0_51, eb0]
        simp only [lv_args, z_v, z_lg, z_h, z_u, z_u1, z_c, z_ct, z_sk, sbne, lst1_d, ldel, lst2_d, ldel2, z_sw, z_rok, zi, eq_self, List.map_cons, List.map_nil, List.append_nil, List.nil_append, List.cons_append, Int32.reduceLT, Int32.reduceLE, Int32.reduceAdd, Int32.reduceSub, Int32.reduceMul, Int32.reduceToInt, Int32.reduceToNatClampNeg, Int.reduceLT, Int.reduceLE, Int.reduceNeg, true_and, and_true, or_self, or_false, false_or, false_and, and_false, true_or, or_true, if_true, if_false, ne_eq, Classical.not_not, not_true_eq_false, not_false_eq_true, true_implies, false_implies, implies_true, Nat.reduceEqDiff, Nat.reduceAdd, Nat.reduceLeDiff, Nat.reduceSub, reduceCtorEq, reduceIte, b0_110]
        exact q
      | true =>
        obtain ⟨gg, eg, tc⟩ : ∃ gg, g = gg + 1 ∧ Tr (gg + 1) N c m := by
          cases g with
          | zero => exact x4.elim
          | succ gg => exact ⟨gg, rfl, x4⟩
        have nx := fun (fl : Bool) (hf : (decide ((pts N c).length = 2) && nK N (prt N c 0) == 5) = fl) => ih (i + 1) m fl x6 (by omega) (by rw [List.all_cons, Bool.true_and, hf] at q; exact q)
        have pl : (pts N c).length ≤ 7000 := by
          by_cases c6 : nK N c = 6
          · have := tl_len (tl_n tc c6 x5 hNm).2.1
            omega
          · rw [pts_no c6]; exact Nat.zero_le _
        simp only [lv_args, z_v, z_lg, z_h, z_u, z_u1, z_c, z_ct, z_sk, sbne, lst1_d, ldel, lst2_d, ldel2, z_sw, z_rok, zi, eq_self, List.map_cons, List.map_nil, List.append_nil, List.nil_append, List.cons_append, Int32.reduceLT, Int32.reduceLE, Int32.reduceAdd, Int32.reduceSub, Int32.reduceMul, Int32.reduceToInt, Int32.reduceToNatClampNeg, Int.reduceLT, Int.reduceLE, Int.reduceNeg, true_and, and_true, or_self, or_false, false_or, false_and, and_false, true_or, or_true, if_true, if_false, ne_eq, Classical.not_not, not_true_eq_false, not_false_eq_true, true_implies, false_implies, implies_true, Nat.reduceEqDiff, Nat.reduceAdd, Nat.reduceLeDiff, Nat.reduceSub, reduceCtorEq, reduceIte, b0_51, eb1, z10]
        simp only [lv_args, z_v, z_lg, z_h, z_u, z_u1, z_c, z_ct, z_sk, sbne, lst1_d, ldel, lst2_d, ldel2, z_sw, z_rok, zi, eq_self, List.map_cons, List.map_nil, List.append_nil, List.nil_append, List.cons_append, Int32.reduceLT, Int32.reduceLE, Int32.reduceAdd, Int32.reduceSub, Int32.reduceMul, Int32.reduceToInt, Int32.reduceToNatClampNeg, Int.reduceLT, Int.reduceLE, Int.reduceNeg, true_and, and_true, or_self, or_false, false_or, false_and, and_false, true_or, or_true, if_true, if_false, ne_eq, Classical.not_not, not_true_eq_false, not_false_eq_true, true_implies, false_implies, implies_true, Nat.reduceEqDiff, Nat.reduceAdd, Nat.reduceLeDiff, Nat.reduceSub, reduceCtorEq, reduceIte, b0_55, skX s, srX s, h00, rd_m s r x1 tc (by omega) (by omega : 0 < d - 1), z2, Nat.reduceLT]
        simp (disch := omega) only [nI_eqN]
        refine ⟨fun c2 => ?_, fun c2 => ?_⟩
        · have n1 := nx false (by rw [decide_eq_false c2]; rfl)
          simp only [eb0] at n1
          simp only [lv_args, z_v, z_lg, z_h, z_u, z_u1, z_c, z_ct, z_sk, sbne, lst1_d, ldel, lst2_d, ldel2, z_sw, z_rok, zi, eq_self, List.map_cons, List.map_nil, List.append_nil, List.nil_append, List.cons_append, Int32.reduceLT, Int32.reduceLE, Int32.reduceAdd, Int32.reduceSub, Int32.reduceMul, Int32.reduceToInt, Int32.reduceToNatClampNeg, Int.reduceLT, Int.reduceLE, Int.reduceNeg, true_and, and_true, or_self, or_false, false_or, false_and, and_false, true_or, or_true, if_true, if_false, ne_eq, Classical.not_not, not_true_eq_false, not_false_eq_true, true_implies, false_implies, implies_true, Nat.reduceEqDiff, Nat.reduceAdd, Nat.reduceLeDiff, Nat.reduceSub, reduceCtorEq, reduceIte, b0_91, b0_92, skX s, srX s, h00, rd_x s r x1, x3, nI_1, Nat.reduceLT]
          exact n1
        · have c6 : nK N c = 6 := Classical.byContradiction fun w => by rw [pts_no w] at c2; simp at c2
          obtain ⟨w1, w2, w3⟩ := tl_n tc c6 x5 hNm
          have k0 := prt_get (N := N) (n := c) (k := 0) (by omega)
          obtain ⟨e1, e2, _⟩ := tl_get w2 k0
          have hd0 : nF N c = nI (prt N c 0) := by
            have : (pts N c).head? = some (prt N c 0) := by rw [← k0]; cases pts N c <;> rfl
            rw [w1, this]; rfl
          simp only [lv_args, z_v, z_lg, z_h, z_u, z_u1, z_c, z_ct, z_sk, sbne, lst1_d, ldel, lst2_d, ldel2, z_sw, z_rok, zi, eq_self, List.map_cons, List.map_nil, List.append_nil, List.nil_append, List.cons_append, Int32.reduceLT, Int32.reduceLE, Int32.reduceAdd, Int32.reduceSub, Int32.reduceMul, Int32.reduceToInt, Int32.reduceToNatClampNeg, Int.reduceLT, Int.reduceLE, Int.reduceNeg, true_and, and_true, or_self, or_false, false_or, false_and, and_false, true_or, or_true, if_true, if_false, ne_eq, Classical.not_not, not_true_eq_false, not_false_eq_true, true_implies, false_implies, implies_true, Nat.reduceEqDiff, Nat.reduceAdd, Nat.reduceLeDiff, Nat.reduceSub, reduceCtorEq, reduceIte, b0_68, skX s, srX s, h00, rd_f s r x1, hd0, rd_n s r e1, Nat.reduceLT]
          cases hx : (nK N (prt N c 0) == 5) with
          | true =>
            have n1 := nx true (by rw [decide_eq_true c2, hx]; rfl)
            simp only [eb1] at n1
            simp only [eb1, z10, not_false_eq_true, true_imp_iff, false_imp_iff, true_and]
            simp only [lv_args, z_v, z_lg, z_h, z_u, z_u1, z_c, z_ct, z_sk, sbne, lst1_d, ldel, lst2_d, ldel2, z_sw, z_rok, zi, eq_self, List.map_cons, List.map_nil, List.append_nil, List.nil_append, List.cons_append, Int32.reduceLT, Int32.reduceLE, Int32.reduceAdd, Int32.reduceSub, Int32.reduceMul, Int32.reduceToInt, Int32.reduceToNatClampNeg, Int.reduceLT, Int.reduceLE, Int.reduceNeg, true_and, and_true, or_self, or_false, false_or, false_and, and_false, true_or, or_true, if_true, if_false, ne_eq, Classical.not_not, not_true_eq_false, not_false_eq_true, true_implies, false_implies, implies_true, Nat.reduceEqDiff, Nat.reduceAdd, Nat.reduceLeDiff, Nat.reduceSub, reduceCtorEq, reduceIte, b0_87, b0_92, skX s, srX s, h00, rd_x s r x1, x3, nI_1, Nat.reduceLT]
            exact n1
          | false =>
            have n1 := nx false (by rw [decide_eq_true c2, hx]; rfl)
            simp only [eb0] at n1
            simp only [eb0, not_true_eq_false, true_imp_iff, false_imp_iff, and_true]
            simp only [lv_args, z_v, z_lg, z_h, z_u, z_u1, z_c, z_ct, z_sk, sbne, lst1_d, ldel, lst2_d, ldel2, z_sw, z_rok, zi, eq_self, List.map_cons, List.map_nil, List.append_nil, List.nil_append, List.cons_append, Int32.reduceLT, Int32.reduceLE, Int32.reduceAdd, Int32.reduceSub, Int32.reduceMul, Int32.reduceToInt, Int32.reduceToNatClampNeg, Int.reduceLT, Int.reduceLE, Int.reduceNeg, true_and, and_true, or_self, or_false, false_or, false_and, and_false, true_or, or_true, if_true, if_false, ne_eq, Classical.not_not, not_true_eq_false, not_false_eq_true, true_implies, false_implies, implies_true, Nat.reduceEqDiff, Nat.reduceAdd, Nat.reduceLeDiff, Nat.reduceSub, reduceCtorEq, reduceIte, b0_91, b0_92, skX s, srX s, h00, rd_x s r x1, x3, nI_1, Nat.reduceLT]
            exact n1
  unfold aEv
  simp only [lv_args, z_v, z_lg, z_h, z_u, z_u1, z_c, z_ct, z_sk, sbne, lst1_d, ldel, lst2_d, ldel2, z_sw, z_rok, zi, eq_self, List.map_cons, List.map_nil, List.append_nil, List.nil_append, List.cons_append, Int32.reduceLT, Int32.reduceLE, Int32.reduceAdd, Int32.reduceSub, Int32.reduceMul, Int32.reduceToInt, Int32.reduceToNatClampNeg, Int.reduceLT, Int.reduceLE, Int.reduceNeg, true_and, and_true, or_self, or_false, false_or, false_and, and_false, true_or, or_true, if_true, if_false, ne_eq, Classical.not_not, not_true_eq_false, not_false_eq_true, true_implies, false_implies, implies_true, Nat.reduceEqDiff, Nat.reduceAdd, Nat.reduceLeDiff, Nat.reduceSub, reduceCtorEq, reduceIte, b0_0, skX s, srX s, h00, rd_m s r hn ht (by omega) (by omega : 0 < d - 1), rd_l s r hn, Nat.reduceLT]
  by_cases h6 : nK N n = 6
  · obtain ⟨t1, t2, _⟩ := tl_n ht h6 hb hNm
    have hl := tl_len t2
    have e6 : bI (nK N n == 6) = 1 := by rw [h6]; rfl
    have ea : arP N n = (decide ((pts N n).length ≤ 8) && (pts N n).all (fun c => decide ((pts N c).length = 2) && nK N (prt N c 0) == 5)) := by unfold arP; rw [h6]; simp
    rw [ea] at hq
    have fin := fun fine hf => loop (pts N n) 0 (n + 1) fine t2 (Nat.zero_add _) hf
    simp only [e6, z10, false_imp_iff, not_false_eq_true, true_imp_iff, true_and]
    simp only [lv_args, z_v, z_lg, z_h, z_u, z_u1, z_c, z_ct, z_sk, sbne, lst1_d, ldel, lst2_d, ldel2, z_sw, z_rok, zi, eq_self, List.map_cons, List.map_nil, List.append_nil, List.nil_append, List.cons_append, Int32.reduceLT, Int32.reduceLE, Int32.reduceAdd, Int32.reduceSub, Int32.reduceMul, Int32.reduceToInt, Int32.reduceToNatClampNeg, Int.reduceLT, Int.reduceLE, Int.reduceNeg, true_and, and_true, or_self, or_false, false_or, false_and, and_false, true_or, or_true, if_true, if_false, ne_eq, Classical.not_not, not_true_eq_false, not_false_eq_true, true_implies, false_implies, implies_true, Nat.reduceEqDiff, Nat.reduceAdd, Nat.reduceLeDiff, Nat.reduceSub, reduceCtorEq, reduceIte, b0_20, z8]
    simp (disch := omega) only [nI_ltN]
    refine ⟨fun c => ?_, fun c => ?_⟩
    · have := fin false (by rw [decide_eq_false (by omega)] at hq; exact hq)
      simp only [lv_args, z_v, z_lg, z_h, z_u, z_u1, z_c, z_ct, z_sk, sbne, lst1_d, ldel, lst2_d, ldel2, z_sw, z_rok, zi, eq_self, List.map_cons, List.map_nil, List.append_nil, List.nil_append, List.cons_append, Int32.reduceLT, Int32.reduceLE, Int32.reduceAdd, Int32.reduceSub, Int32.reduceMul, Int32.reduceToInt, Int32.reduceToNatClampNeg, Int.reduceLT, Int.reduceLE, Int.reduceNeg, true_and, and_true, or_self, or_false, false_or, false_and, and_false, true_or, or_true, if_true, if_false, ne_eq, Classical.not_not, not_true_eq_false, not_false_eq_true, true_implies, false_implies, implies_true, Nat.reduceEqDiff, Nat.reduceAdd, Nat.reduceLeDiff, Nat.reduceSub, reduceCtorEq, reduceIte, b0_30, b0_31, skX s, srX s, h00, rd_f s r hn, t1, Nat.reduceLT]
      exact this
    · have := fin true (by rw [decide_eq_true (by omega)] at hq; exact hq)
      simp only [lv_args, z_v, z_lg, z_h, z_u, z_u1, z_c, z_ct, z_sk, sbne, lst1_d, ldel, lst2_d, ldel2, z_sw, z_rok, zi, eq_self, List.map_cons, List.map_nil, List.append_nil, List.nil_append, List.cons_append, Int32.reduceLT, Int32.reduceLE, Int32.reduceAdd, Int32.reduceSub, Int32.reduceMul, Int32.reduceToInt, Int32.reduceToNatClampNeg, Int.reduceLT, Int.reduceLE, Int.reduceNeg, true_and, and_true, or_self, or_false, false_or, false_and, and_false, true_or, or_true, if_true, if_false, ne_eq, Classical.not_not, not_true_eq_false, not_false_eq_true, true_implies, false_implies, implies_true, Nat.reduceEqDiff, Nat.reduceAdd, Nat.reduceLeDiff, Nat.reduceSub, reduceCtorEq, reduceIte, b0_26, b0_31, skX s, srX s, h00, rd_f s r hn, t1, Nat.reduceLT]
      exact this
  · have e6 : bI (nK N n == 6) = 0 := by
      have : (nK N n == 6) = false := by simpa using h6
      rw [this]; rfl
    have ea : arP N n = false := by
      have : (nK N n == 6) = false := by simpa using h6
      unfold arP
      rw [this]; rfl
    rw [ea] at hq
    have hq : Q (some (.int 0)) h := hq
    have el : (nI ([] : List Nat).length ≤ 0) = True := eq_true (by decide)
    simp only [e6, not_true_eq_false, false_imp_iff, true_imp_iff, and_true]
    simp only [lv_args, z_v, z_lg, z_h, z_u, z_u1, z_c, z_ct, z_sk, sbne, lst1_d, ldel, lst2_d, ldel2, z_sw, z_rok, zi, eq_self, List.map_cons, List.map_nil, List.append_nil, List.nil_append, List.cons_append, Int32.reduceLT, Int32.reduceLE, Int32.reduceAdd, Int32.reduceSub, Int32.reduceMul, Int32.reduceToInt, Int32.reduceToNatClampNeg, Int.reduceLT, Int.reduceLE, Int.reduceNeg, true_and, and_true, or_self, or_false, false_or, false_and, and_false, true_or, or_true, if_true, if_false, ne_eq, Classical.not_not, not_true_eq_false, not_false_eq_true, true_implies, false_implies, implies_true, Nat.reduceEqDiff, Nat.reduceAdd, Nat.reduceLeDiff, Nat.reduceSub, reduceCtorEq, reduceIte, b0_30, b0_31, skX s, srX s, h00, rd_f s r hn, Nat.reduceLT, pts_no h6]
    simp only [lv_args, z_v, z_lg, z_h, z_u, z_u1, z_c, z_ct, z_sk, sbne, lst1_d, ldel, lst2_d, ldel2, z_sw, z_rok, zi, eq_self, List.map_cons, List.map_nil, List.append_nil, List.nil_append, List.cons_append, Int32.reduceLT, Int32.reduceLE, Int32.reduceAdd, Int32.reduceSub, Int32.reduceMul, Int32.reduceToInt, Int32.reduceToNatClampNeg, Int.reduceLT, Int.reduceLE, Int.reduceNeg, true_and, and_true, or_self, or_false, false_or, false_and, and_false, true_or, or_true, if_true, if_false, ne_eq, Classical.not_not, not_true_eq_false, not_false_eq_true, true_implies, false_implies, implies_true, Nat.reduceEqDiff, Nat.reduceAdd, Nat.reduceLeDiff, Nat.reduceSub, reduceCtorEq, reduceIte, b0_45, el]
    simp only [lv_args, z_v, z_lg, z_h, z_u, z_u1, z_c, z_ct, z_sk, sbne, lst1_d, ldel, lst2_d, ldel2, z_sw, z_rok, zi, eq_self, List.map_cons, List.map_nil, List.append_nil, List.nil_append, List.cons_append, Int32.reduceLT, Int32.reduceLE, Int32.reduceAdd, Int32.reduceSub, Int32.reduceMul, Int32.reduceToInt, Int32.reduceToNatClampNeg, Int.reduceLT, Int.reduceLE, Int.reduceNeg, true_and, and_true, or_self, or_false, false_or, false_and, and_false, true_or, or_true, if_true, if_false, ne_eq, Classical.not_not, not_true_eq_false, not_false_eq_true, true_implies, false_implies, implies_true, Nat.reduceEqDiff, Nat.reduceAdd, Nat.reduceLeDiff, Nat.reduceSub, reduceCtorEq, reduceIte, b0_110]
    exact hq
end CSH
