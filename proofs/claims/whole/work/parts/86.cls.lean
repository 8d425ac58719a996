/-! THE CLASS'S MACHINE against its pure one -/
def LX (k : Nat) (L : ALS) : Prop := ∀ q, q ∈ L → q.2 = .ref k ∨ ∃ x, q.2 = .int x
theorem lx_st {k i : Nat} {L : ALS} {x : Int32} (h : LX k L) : LX k (lst1 L i (.int x)) := fun q hq => by
  rcases List.mem_cons.mp hq with e | e
  · exact Or.inr ⟨x, by rw [e]⟩
  · exact h q (List.mem_filter.mp e).1
theorem lx_rok {k : Nat} {h h1 : Hp} (hk : hK h k < 13) : ∀ {L : ALS}, LX k L → rok h h1 (L.map (fun q => q.2)) := by
  intro L
  induction L with
  | nil => intro _; rw [List.map_nil, (z_rok h h1).1]; trivial
  | cons a L ih =>
    intro q
    have hl : LX k L := fun x hx => q x (List.mem_cons_of_mem _ hx)
    rw [List.map_cons]
    rcases q a (List.mem_cons_self) with e | ⟨x, e⟩
    · rw [e, (z_rok h h1).2.2.2]; exact ⟨Or.inl hk, ih hl⟩
    · rw [e, (z_rok h h1).2.1]; exact ih hl
theorem lx_ot {k i j : Nat} {L : ALS} {v : Value} (h : LX k L) (h1 : j ≠ i) : lgv (lst1 L i v) j = lgv L j := by
  rw [lst1_d, z_lg _ _ _ _ (eq_false (Ne.symm h1))]
  induction L with
  | nil => rfl
  | cons q t ih =>
    have ht : LX k t := fun x hx => h x (List.mem_cons_of_mem _ hx)
    have hc : q.2.category ≠ 2 := by
      rcases h q (List.mem_cons_self) with e | ⟨x, e⟩ <;> rw [e] <;> exact fun z => absurd (show (1 : Nat) = 2 from z) (by decide)
    unfold ldel
    by_cases c : q.1 = i
    · rw [if_pos (Or.inl c), ih ht]
      obtain ⟨q1, q2⟩ := q
      have c : q1 = i := c
      exact (z_lg _ _ _ _ (eq_false fun (e : q1 = j) => h1 (e.symm.trans c))).symm
    · rw [if_neg (fun z => z.elim c (fun z => hc z.2))]
      obtain ⟨q1, q2⟩ := q
      by_cases c2 : q1 = j
      · subst c2
        exact (if_pos rfl : lgv ((q1, q2) :: ldel i t) q1 = q2).trans (if_pos rfl : lgv ((q1, q2) :: t) q1 = q2).symm
      · rw [z_lg _ _ _ _ (eq_false c2), z_lg _ _ _ _ (eq_false c2)]
        exact ih ht
/-- how many forms the row has, the first of them, and the data of quotes -/
def pRf (G : PG) : Nat := G.2 7 5
def pF1 (G : PG) : Int32 := G.1 40 0
def PX (G : PG) (p : Nat) (h : Hp) : Prop := (p = 19 ∨ p = 29) ∧ hI h p 2 = nI (pCz G) ∧ pCz G ≤ hN h (p + 1) ∧ pCz G ≤ hN h (p + 2) ∧ (∀ i, i < pCz G → hA h (p + 1) i = G.1 1 i ∧ hA h (p + 2) i = G.1 2 i) ∧ hI h p 12 = nI (pLm G) ∧ (∀ j, 4 ≤ j → j ≤ 8 → hN h (p + j) = 120) ∧
  (∀ M, 1 ≤ M → M ≤ pLm G → hA h (p + 4) (M - 1) = nI (pEn G M) ∧ hA h (p + 5) (M - 1) = nI (pWn G M) ∧ hA h (p + 6) (M - 1) = nI (pDm G M) ∧ hA h (p + 7) (M - 1) = nI (pKs G M) ∧ hA h (p + 8) (M - 1) = nI (pFr G M) ∧ ∃ z, hI h p 11 = nI z ∧ pKs G M + pFr G M ≤ z ∧ z ≤ hN h (p + 9) ∧ z < 1000000 ∧ ∀ k, k < pFr G M → hA h (p + 9) (pKs G M + k) = G.1 9 (pKs G M + k)) ∧
  hI h p 14 = nI (pDm G 0) ∧ hI h p 15 = nI (pDf G) ∧ hI h p 4 = nI (pDz G) ∧ pDz G ≤ hN h (p + 3) ∧ pDz G ≤ 12402 ∧ hI h p 13 = nI (pRf G) ∧ ∀ i, i < pDz G → hB h (p + 3) i = vof (G.1 3 i) (G.1 4 i)
theorem nI_lt0 {x : Nat} (h : x < 2000000000) : (nI x < 0) = False := eq_false fun c => by
  have := (nI_ltI (a := x) (b := 0) (by omega) (by omega)).mp c
  omega
theorem nI_leN {x y : Nat} (hx : x < 2000000000) (hy : y < 2000000000) : (nI x ≤ nI y) = (x ≤ y) := propext (nI_leI (by omega) (by omega))
theorem nI_ltN {x y : Nat} (hx : x < 2000000000) (hy : y < 2000000000) : (nI x < nI y) = (x < y) := propext (nI_ltI (by omega) (by omega))
theorem nI_eqN {x y : Nat} (hx : x < 2000000000) (hy : y < 2000000000) : (nI x = nI y) = (x = y) := propext (nI_eq (by omega) (by omega))
theorem nI_cl {x : Nat} (hx : x < 2000000000) : (nI x).toNatClampNeg = x := nI_clamp (by omega)
theorem nI_ti {x : Nat} (hx : x < 2000000000) : (nI x).toInt = (x : Int) := nI_toInt (by omega)
theorem le0N (x : Nat) : (0 ≤ (x : Int)) = True := eq_true (by omega)
theorem ltNN (x y : Nat) : ((x : Int) < (y : Int)) = (x < y) := propext (by omega)
section CLS
variable {h : Hp} {Q : Option Value → Hp → Prop} {d : Nat} {G : PG} {p pc : Nat}
theorem px_op (s : Sk h) (P : PX G p h) (hz : pCz G < 1000000) (hp : pc < pCz G) (hq : Q (some (.int (G.1 1 pc))) h) : aEv d 104 [.ref p, .int (nI pc)] h Q := by
  obtain ⟨P0, P1, P2, P3, P4, _⟩ := P
  have P5 := (P4 pc hp).1
  rcases P0 with rfl | rfl
  · have P2 : pCz G ≤ hN h 20 := P2
    have P5 : hA h 20 pc = G.1 1 pc := P5
    simp (disch := omega) only [e104_19 _ _ s, P1, nI_lt0, nI_leN, nI_cl, nI_ti, le0N, ltNN, P5]
    exact ⟨fun c => c.elim, fun _ => ⟨fun c => absurd c (by omega), fun _ => ⟨⟨trivial, by omega⟩, hq⟩⟩⟩
  · have P2 : pCz G ≤ hN h 30 := P2
    have P5 : hA h 30 pc = G.1 1 pc := P5
    simp (disch := omega) only [e104_29 _ _ s, P1, nI_lt0, nI_leN, nI_cl, nI_ti, le0N, ltNN, P5]
    exact ⟨fun c => c.elim, fun _ => ⟨fun c => absurd c (by omega), fun _ => ⟨⟨trivial, by omega⟩, hq⟩⟩⟩
theorem px_ar (s : Sk h) (P : PX G p h) (hz : pCz G < 1000000) (hp : pc < pCz G) (hq : Q (some (.int (G.1 2 pc))) h) : aEv d 103 [.ref p, .int (nI pc)] h Q := by
  obtain ⟨P0, P1, P2, P3, P4, _⟩ := P
  have P5 := (P4 pc hp).2
  rcases P0 with rfl | rfl
  · have P3 : pCz G ≤ hN h 21 := P3
    have P5 : hA h 21 pc = G.1 2 pc := P5
    simp (disch := omega) only [e103_19 _ _ s, P1, nI_lt0, nI_leN, nI_cl, nI_ti, le0N, ltNN, P5]
    exact ⟨fun c => c.elim, fun _ => ⟨fun c => absurd c (by omega), fun _ => ⟨⟨trivial, by omega⟩, hq⟩⟩⟩
  · have P3 : pCz G ≤ hN h 31 := P3
    have P5 : hA h 31 pc = G.1 2 pc := P5
    simp (disch := omega) only [e103_29 _ _ s, P1, nI_lt0, nI_leN, nI_cl, nI_ti, le0N, ltNN, P5]
    exact ⟨fun c => c.elim, fun _ => ⟨fun c => absurd c (by omega), fun _ => ⟨⟨trivial, by omega⟩, hq⟩⟩⟩
/-- behind the end: ALL_THROUGH -/
theorem px_op36 (s : Sk h) (P : PX G p h) (hz : pCz G < 1000000) (hp : pCz G ≤ pc) (hp2 : pc < 1000000) (hq : Q (some (.int 36)) h) : aEv d 104 [.ref p, .int (nI pc)] h Q := by
  obtain ⟨P0, P1, P2, P3, P4, _⟩ := P
  rcases P0 with rfl | rfl
  · simp (disch := omega) only [e104_19 _ _ s, P1, nI_lt0, nI_leN, nI_cl, nI_ti, le0N, ltNN]
    exact ⟨fun c => c.elim, fun _ => ⟨fun _ => hq, fun c => absurd hp c⟩⟩
  · simp (disch := omega) only [e104_29 _ _ s, P1, nI_lt0, nI_leN, nI_cl, nI_ti, le0N, ltNN]
    exact ⟨fun c => c.elim, fun _ => ⟨fun _ => hq, fun c => absurd hp c⟩⟩
theorem px_ar36 (s : Sk h) (P : PX G p h) (hz : pCz G < 1000000) (hp : pCz G ≤ pc) (hp2 : pc < 1000000) (hq : Q (some (.int 0)) h) : aEv d 103 [.ref p, .int (nI pc)] h Q := by
  obtain ⟨P0, P1, P2, P3, P4, _⟩ := P
  rcases P0 with rfl | rfl
  · simp (disch := omega) only [e103_19 _ _ s, P1, nI_lt0, nI_leN, nI_cl, nI_ti, le0N, ltNN]
    exact ⟨fun c => c.elim, fun _ => ⟨fun _ => hq, fun c => absurd hp c⟩⟩
  · simp (disch := omega) only [e103_29 _ _ s, P1, nI_lt0, nI_leN, nI_cl, nI_ti, le0N, ltNN]
    exact ⟨fun c => c.elim, fun _ => ⟨fun _ => hq, fun c => absurd hp c⟩⟩
def Turn (G : PG) (p pc t d : Nat) (h : Hp) (L : ALS) : Prop := Sk h ∧ PX G p h ∧ pCz G < 1000000 ∧ hR h 47 2 = some p ∧ hI h 47 14 = 1 ∧ hI h 47 7 = nI pc ∧ pc < 1000000 ∧ t < 1000000000 ∧ LX 47 L ∧ lgv L 0 = .ref 47 ∧ lgv L 2 = .int (nI t) ∧ 40 ≤ d
theorem nI_e9 : (1000000000 : Int32) = nI 1000000000 := rfl
theorem tn_go {t : Nat} {L : ALS} (T : Turn G p pc t d h L) (hp : pc < pCz G) (hq : swA [(16, 168), (17, 168), (18, 168), (19, 178), (20, 178), (21, 178), (22, 188), (23, 188), (24, 188), (25, 198), (26, 252), (27, 252), (28, 252), (29, 252), (30, 234), (31, 234), (32, 207), (33, 207), (34, 227), (35, 234), (36, 244)] (G.1 1 pc) (fun t => aWP d 76 t (lst1 (lst1 L 3 (.int (G.1 1 pc))) 4 (.int (G.1 2 pc))) [] h Q) 252) : aWP d 76 29 L [] h Q := by
  obtain ⟨s, P, hz, r2, go, pl, hpc, ht, lx, l0, l2, hd⟩ := T
  have k47 : hK h 47 = 4 := s.1 47 (by decide)
  have kp : hK h p = 7 := by rcases P.1 with rfl | rfl <;> exact s.1 _ (by decide)
  have h0 : 0 < d := by omega
  simp (disch := omega) only [b76_29, l2, z_v, nI_e9, nI_leN, true_and]
  refine ⟨fun c => absurd c (by omega), fun _ => ?_⟩
  simp only [b76_35, l0, z_v, k47, go, true_and]
  refine ⟨fun c => absurd c (by decide), fun _ => ?_⟩
  simp only [lv_args, z_v, z_lg, z_h, z_u, z_u1, z_c, z_ct, z_sk, sbne, lst1_d, ldel, lst2_d, ldel2, z_sw, z_rok, zi, eq_self, List.map_cons, List.map_nil, List.append_nil, List.nil_append, List.cons_append, Int32.reduceLT, Int32.reduceLE, Int32.reduceAdd, Int32.reduceSub, Int32.reduceMul, Int32.reduceToInt, Int32.reduceToNatClampNeg, Int.reduceLT, Int.reduceLE, Int.reduceNeg, true_and, and_true, or_self, or_false, false_or, false_and, and_false, true_or, or_true, if_true, if_false, ne_eq, Classical.not_not, not_true_eq_false, not_false_eq_true, true_implies, false_implies, implies_true, Nat.reduceEqDiff, Nat.reduceAdd, Nat.reduceLeDiff, Nat.reduceSub, reduceCtorEq, reduceIte, b76_42, l0, k47, r2, pl, h0, kp]
  refine px_op s P hz hp ⟨rfl, Or.inl rfl, (b76_42.2.2.2.2.2.1 _ _ _ _ _ _).mpr ⟨trivial, ?_⟩⟩
  show aWP d 76 54 (lst1 L 3 (.int (G.1 1 pc))) [] h Q
  have m0 : lgv (lst1 L 3 (.int (G.1 1 pc))) 0 = .ref 47 := (lx_ot lx (by decide)).trans l0
  have m3 : lgv (lst1 L 3 (.int (G.1 1 pc))) 3 = .int (G.1 1 pc) := lgv_st
  have mx : LX 47 (lst1 L 3 (.int (G.1 1 pc))) := lx_st lx
  generalize lst1 L 3 (.int (G.1 1 pc)) = L1 at *
  simp only [lv_args, z_v, z_lg, z_h, z_u, z_u1, z_c, z_ct, z_sk, sbne, lst1_d, ldel, lst2_d, ldel2, z_sw, z_rok, zi, eq_self, List.map_cons, List.map_nil, List.append_nil, List.nil_append, List.cons_append, Int32.reduceLT, Int32.reduceLE, Int32.reduceAdd, Int32.reduceSub, Int32.reduceMul, Int32.reduceToInt, Int32.reduceToNatClampNeg, Int.reduceLT, Int.reduceLE, Int.reduceNeg, true_and, and_true, or_self, or_false, false_or, false_and, and_false, true_or, or_true, if_true, if_false, ne_eq, Classical.not_not, not_true_eq_false, not_false_eq_true, true_implies, false_implies, implies_true, Nat.reduceEqDiff, Nat.reduceAdd, Nat.reduceLeDiff, Nat.reduceSub, reduceCtorEq, reduceIte, b76_42, m0, k47, r2, pl, h0, kp]
  refine px_ar s P hz hp ?_
  refine ⟨rfl, Or.inl rfl, (b76_42.2.2.2.2.2.2.2.2.2.2.2.1 _ _ _ _ _ _).mpr ⟨trivial, ?_⟩⟩
  show aWP d 76 67 (lst1 L1 4 (.int (G.1 2 pc))) [] h Q
  have n3 : lgv (lst1 L1 4 (.int (G.1 2 pc))) 3 = .int (G.1 1 pc) := (lx_ot mx (by decide)).trans m3
  generalize lst1 L1 4 (.int (G.1 2 pc)) = L2 at *
  simp only [lv_args, z_v, z_lg, z_h, z_u, z_u1, z_c, z_ct, z_sk, sbne, lst1_d, ldel, lst2_d, ldel2, z_sw, z_rok, zi, eq_self, List.map_cons, List.map_nil, List.append_nil, List.nil_append, List.cons_append, Int32.reduceLT, Int32.reduceLE, Int32.reduceAdd, Int32.reduceSub, Int32.reduceMul, Int32.reduceToInt, Int32.reduceToNatClampNeg, Int.reduceLT, Int.reduceLE, Int.reduceNeg, true_and, and_true, or_self, or_false, false_or, false_and, and_false, true_or, or_true, if_true, if_false, ne_eq, Classical.not_not, not_true_eq_false, not_false_eq_true, true_implies, false_implies, implies_true, Nat.reduceEqDiff, Nat.reduceAdd, Nat.reduceLeDiff, Nat.reduceSub, reduceCtorEq, reduceIte, b76_42, n3]
  exact hq
/-- what is left of a turn -/
def NX (d t : Nat) (Q : Option Value → Hp → Prop) (h1 : Hp) : Prop := ∀ L, LX 47 L → lgv L 0 = .ref 47 → lgv L 2 = .int (nI (t + 1)) → aWP d 76 29 L [] h1 Q
theorem nx_go {t : Nat} {L : ALS} (lx : LX 47 L) (l0 : lgv L 0 = .ref 47) (l2 : lgv L 2 = .int (nI t)) {h1 : Hp} (q : NX d t Q h1) : aWP d 76 259 L [] h1 Q := by
  have e : aWP d 76 259 L [] h1 Q ↔ vIsI (lgv L 2) ∧ aWP d 76 262 (lst1 L 2 (.int (vOI (lgv L 2) + 1))) [] h1 Q := b76_259.1 _ _ _ _ _
  rw [e, l2]
  refine ⟨trivial, ?_⟩
  have e2 : vOI (.int (nI t)) + 1 = nI (t + 1) := nI_1 t
  rw [e2]
  have := q (lst1 L 2 (.int (nI (t + 1)))) (lx_st lx) ((lx_ot lx (by decide)).trans l0) lgv_st
  generalize lst1 L 2 (.int (nI (t + 1))) = L1 at *
  simp only [lv_args, z_v, z_lg, z_h, z_u, z_u1, z_c, z_ct, z_sk, sbne, lst1_d, ldel, lst2_d, ldel2, z_sw, z_rok, zi, eq_self, List.map_cons, List.map_nil, List.append_nil, List.nil_append, List.cons_append, Int32.reduceLT, Int32.reduceLE, Int32.reduceAdd, Int32.reduceSub, Int32.reduceMul, Int32.reduceToInt, Int32.reduceToNatClampNeg, Int.reduceLT, Int.reduceLE, Int.reduceNeg, true_and, and_true, or_self, or_false, false_or, false_and, and_false, true_or, or_true, if_true, if_false, ne_eq, Classical.not_not, not_true_eq_false, not_false_eq_true, true_implies, false_implies, implies_true, Nat.reduceEqDiff, Nat.reduceAdd, Nat.reduceLeDiff, Nat.reduceSub, reduceCtorEq, reduceIte, b76_259]
  exact this
/-- a turn's call of method M at place c, with the operation and the operand -/
theorem tn_ct {t c : Nat} {L : ALS} (s : Sk h) (lx : LX 47 L) (l0 : lgv L 0 = .ref 47) (l2 : lgv L 2 = .int (nI t)) (hc : ∀ h1, aWP d 76 c L [] h1 Q ↔ aWP d 76 259 L [] h1 Q) {r : Option Value} {h1 : Hp} (hr : r = none) (q : NX d t Q h1) : aCt d 76 c L [] h Q r h1 := by
  subst hr
  have k47 : hK h 47 = 4 := s.1 47 (by decide)
  refine ⟨rfl, Or.inr ?_, (hc h1).mpr (nx_go lx l0 l2 q)⟩
  rw [List.append_nil]
  exact lx_rok (by rw [k47]; decide) lx
end CLS
