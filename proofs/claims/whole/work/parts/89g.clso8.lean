/-! procedures are called -/
section COR8
variable {h h' : Hp} {Q : Option Value → Hp → Prop} {d : Nat} {G : PG} {p pc : Nat} {cap : Nat} {s : List Int64} {v : Int64} {a o : Int32} {ba : Nat} {se : Int32} {bk : List BK} {F : List Int64} {ce : Nat} {gc : List Int64} {r n M : Nat}
theorem px_tb (S : SX G p h) (h1 : 1 ≤ M) (h2 : M ≤ pLm G) (h3 : pLm G ≤ 120) : (∀ Q : Option Value → Hp → Prop, Q (some (.int (nI (pWn G M)))) h → aEv d 108 [.ref p, .int (nI (M - 1))] h Q) ∧ (∀ Q : Option Value → Hp → Prop, Q (some (.int (nI (pEn G M)))) h → aEv d 99 [.ref p, .int (nI (M - 1))] h Q) ∧ (∀ Q : Option Value → Hp → Prop, Q (some (.int (nI (pDm G M)))) h → aEv d 97 [.ref p, .int (nI (M - 1))] h Q) ∧ (∀ Q : Option Value → Hp → Prop, Q (some (.int (nI (pFr G M)))) h → aEv d 101 [.ref p, .int (nI (M - 1))] h Q) := by
  obtain ⟨s, _, _, ⟨P0, P1, P2, P3, P4, P5, P6, P7, _⟩, _⟩ := S
  obtain ⟨t1, t2, t3, t4, t5, _⟩ := P7 M h1 h2
  have q4 := P6 4 (by decide) (by decide)
  have q5 := P6 5 (by decide) (by decide)
  have q6 := P6 6 (by decide) (by decide)
  have q8 := P6 8 (by decide) (by decide)
  rcases P0 with rfl | rfl
  · have t1 : hA h 23 (M - 1) = nI (pEn G M) := t1
    have t2 : hA h 24 (M - 1) = nI (pWn G M) := t2
    have t3 : hA h 25 (M - 1) = nI (pDm G M) := t3
    have t5 : hA h 27 (M - 1) = nI (pFr G M) := t5
    have q4 : hN h 23 = 120 := q4
    have q5 : hN h 24 = 120 := q5
    have q6 : hN h 25 = 120 := q6
    have q8 : hN h 27 = 120 := q8
    refine ⟨fun Q hq => ?_, fun Q hq => ?_, fun Q hq => ?_, fun Q hq => ?_⟩
    · rw [e108_19 _ _ s, P5]
      simp (disch := omega) only [nI_leN, nI_lt0, nI_ti, nI_cl, le0N, ltNN, t2, q5]
      exact ⟨fun c => c.elim, fun _ => ⟨fun c => absurd c (by omega), fun _ => ⟨⟨trivial, by omega⟩, hq⟩⟩⟩
    · rw [e99_19 _ _ s, P5]
      simp (disch := omega) only [nI_leN, nI_lt0, nI_ti, nI_cl, le0N, ltNN, t1, q4]
      exact ⟨fun c => c.elim, fun _ => ⟨fun c => absurd c (by omega), fun _ => ⟨⟨trivial, by omega⟩, hq⟩⟩⟩
    · rw [e97_19 _ _ s, P5]
      simp (disch := omega) only [nI_leN, nI_lt0, nI_ti, nI_cl, le0N, ltNN, t3, q6]
      exact ⟨fun c => c.elim, fun _ => ⟨fun c => absurd c (by omega), fun _ => ⟨⟨trivial, by omega⟩, hq⟩⟩⟩
    · rw [e101_19 _ _ s, P5]
      simp (disch := omega) only [nI_leN, nI_lt0, nI_ti, nI_cl, le0N, ltNN, t5, q8]
      exact ⟨fun c => c.elim, fun _ => ⟨fun c => absurd c (by omega), fun _ => ⟨⟨trivial, by omega⟩, hq⟩⟩⟩
  · have t1 : hA h 33 (M - 1) = nI (pEn G M) := t1
    have t2 : hA h 34 (M - 1) = nI (pWn G M) := t2
    have t3 : hA h 35 (M - 1) = nI (pDm G M) := t3
    have t5 : hA h 37 (M - 1) = nI (pFr G M) := t5
    have q4 : hN h 33 = 120 := q4
    have q5 : hN h 34 = 120 := q5
    have q6 : hN h 35 = 120 := q6
    have q8 : hN h 37 = 120 := q8
    refine ⟨fun Q hq => ?_, fun Q hq => ?_, fun Q hq => ?_, fun Q hq => ?_⟩
    · rw [e108_29 _ _ s, P5]
      simp (disch := omega) only [nI_leN, nI_lt0, nI_ti, nI_cl, le0N, ltNN, t2, q5]
      exact ⟨fun c => c.elim, fun _ => ⟨fun c => absurd c (by omega), fun _ => ⟨⟨trivial, by omega⟩, hq⟩⟩⟩
    · rw [e99_29 _ _ s, P5]
      simp (disch := omega) only [nI_leN, nI_lt0, nI_ti, nI_cl, le0N, ltNN, t1, q4]
      exact ⟨fun c => c.elim, fun _ => ⟨fun c => absurd c (by omega), fun _ => ⟨⟨trivial, by omega⟩, hq⟩⟩⟩
    · rw [e97_29 _ _ s, P5]
      simp (disch := omega) only [nI_leN, nI_lt0, nI_ti, nI_cl, le0N, ltNN, t3, q6]
      exact ⟨fun c => c.elim, fun _ => ⟨fun c => absurd c (by omega), fun _ => ⟨⟨trivial, by omega⟩, hq⟩⟩⟩
    · rw [e101_29 _ _ s, P5]
      simp (disch := omega) only [nI_leN, nI_lt0, nI_ti, nI_cl, le0N, ltNN, t5, q8]
      exact ⟨fun c => c.elim, fun _ => ⟨fun c => absurd c (by omega), fun _ => ⟨⟨trivial, by omega⟩, hq⟩⟩⟩
theorem i64c (x : Int32) : x.toInt64.toInt32 = x := i64_32 x
/-- the call's end: procedure, place, room -/
theorem cp_tail {a b : Nat} {L : ALS} (S : SX G p h) (hd : 5 < d) (h1 : 1 ≤ M) (h2 : M ≤ pLm G) (h3 : pLm G ≤ 120) (hdm : pDm G M ≤ 300) (hb : hI h 47 5 = nI b) (hb2 : b < 700000) (h53 : hN h 53 < 1000000) (lx : LX 47 L) (l0 : lgv L 0 = .ref 47) (l1 : lgv L 1 = .int (nI a)) (l4 : lgv L 4 = .int (nI (M - 1))) (hq : Q none (rmJ (pI (pI h 47 6 (nI a)) 47 7 (nI (pEn G M))) 53 (b + pDm G M))) : aWP d 51 106 L [] h Q := by
  have h0 : 0 < d := by omega
  have k := S.1
  have kp : hK h p = 7 := by rcases S.2.2.2.1.1 with rfl | rfl <;> exact k.1 _ (by decide)
  have r2 := S.2.2.2.2.1
  have S1 : SX G p (pI h 47 6 (nI a)) := sx_I (by decide) S
  have S2 : SX G p (pI (pI h 47 6 (nI a)) 47 7 (nI (pEn G M))) := sx_I (by decide) S1
  simp only [lv_args, z_v, z_lg, z_h, z_u, z_u1, z_c, z_ct, z_sk, sbne, lst1_d, ldel, lst2_d, ldel2, z_sw, z_rok, zi, eq_self, List.map_cons, List.map_nil, List.append_nil, List.nil_append, List.cons_append, Int32.reduceLT, Int32.reduceLE, Int32.reduceAdd, Int32.reduceSub, Int32.reduceMul, Int32.reduceToInt, Int32.reduceToNatClampNeg, Int.reduceLT, Int.reduceLE, Int.reduceNeg, true_and, and_true, or_self, or_false, false_or, false_and, and_false, true_or, or_true, if_true, if_false, ne_eq, Classical.not_not, not_true_eq_false, not_false_eq_true, true_implies, false_implies, implies_true, Nat.reduceEqDiff, Nat.reduceAdd, Nat.reduceLeDiff, Nat.reduceSub, reduceCtorEq, reduceIte, b51_106, skX k, h0, l0, l1, l4, r2, kp]
  refine (px_tb S1 h1 h2 h3).2.1 _ ?_
  simp only [lv_args, z_v, z_lg, z_h, z_u, z_u1, z_c, z_ct, z_sk, sbne, lst1_d, ldel, lst2_d, ldel2, z_sw, z_rok, zi, eq_self, List.map_cons, List.map_nil, List.append_nil, List.nil_append, List.cons_append, Int32.reduceLT, Int32.reduceLE, Int32.reduceAdd, Int32.reduceSub, Int32.reduceMul, Int32.reduceToInt, Int32.reduceToNatClampNeg, Int.reduceLT, Int.reduceLE, Int.reduceNeg, true_and, and_true, or_self, or_false, false_or, false_and, and_false, true_or, or_true, if_true, if_false, ne_eq, Classical.not_not, not_true_eq_false, not_false_eq_true, true_implies, false_implies, implies_true, Nat.reduceEqDiff, Nat.reduceAdd, Nat.reduceLeDiff, Nat.reduceSub, reduceCtorEq, reduceIte, b51_106, skX k, srX k, h0, l0, l1, l4, r2, kp, hb]
  refine (px_tb S2 h1 h2 h3).2.2.1 _ ?_
  simp only [lv_args, z_v, z_lg, z_h, z_u, z_u1, z_c, z_ct, z_sk, sbne, lst1_d, ldel, lst2_d, ldel2, z_sw, z_rok, zi, eq_self, List.map_cons, List.map_nil, List.append_nil, List.nil_append, List.cons_append, Int32.reduceLT, Int32.reduceLE, Int32.reduceAdd, Int32.reduceSub, Int32.reduceMul, Int32.reduceToInt, Int32.reduceToNatClampNeg, Int.reduceLT, Int.reduceLE, Int.reduceNeg, true_and, and_true, or_self, or_false, false_or, false_and, and_false, true_or, or_true, if_true, if_false, ne_eq, Classical.not_not, not_true_eq_false, not_false_eq_true, true_implies, false_implies, implies_true, Nat.reduceEqDiff, Nat.reduceAdd, Nat.reduceLeDiff, Nat.reduceSub, reduceCtorEq, reduceIte, b51_106, skX k, srX k, h0, nI_add]
  refine grw_J (st := []) mm_51 dX3_callProcedure_143 ml_3_62 dX3_callProcedure_146 fl_3_25 rfl (by unfold finOK; decide +kernel) (by omega) S2.1 S2.2.1 S2.2.2.1 (k.1 47 (by decide)) (by decide) (k.2.1 47 3 rfl) (k.1 53 (by decide)) (by decide) (by decide) op_n3.2.2.2.1 (fun z hz q e => ?_) (by omega) (show hN h 53 ≤ 30000000 by omega) ?_
  · rcases lx z hz with e' | ⟨x, e'⟩
    · rw [e'] at e
      injection e with e
      subst e
      exact ⟨by decide, by decide⟩
    · rw [e'] at e; cases e
  · simp only [lv_args, z_v, z_lg, z_h, z_u, z_u1, z_c, z_ct, z_sk, sbne, lst1_d, ldel, lst2_d, ldel2, z_sw, z_rok, zi, eq_self, List.map_cons, List.map_nil, List.append_nil, List.nil_append, List.cons_append, Int32.reduceLT, Int32.reduceLE, Int32.reduceAdd, Int32.reduceSub, Int32.reduceMul, Int32.reduceToInt, Int32.reduceToNatClampNeg, Int.reduceLT, Int.reduceLE, Int.reduceNeg, true_and, and_true, or_self, or_false, false_or, false_and, and_false, true_or, or_true, if_true, if_false, ne_eq, Classical.not_not, not_true_eq_false, not_false_eq_true, true_implies, false_implies, implies_true, Nat.reduceEqDiff, Nat.reduceAdd, Nat.reduceLeDiff, Nat.reduceSub, reduceCtorEq, reduceIte, b51_149]
    exact hq
def hSt (h : Hp) (lf st : Nat) : Hp := pI (pI h 47 15 (nI (lf - 1))) 47 16 (nI (st + 1))
def hCl (h : Hp) (n pc ba : Nat) (se : Int32) (b2 a en dm : Nat) : Hp := rmJ (pI (pI (hOp h n pc ba se b2) 47 6 (nI a)) 47 7 (nI en)) 53 (b2 + dm)
def hLc (h : Hp) (ba tl g a en dm : Nat) : Hp := rmJ (pI (pI (pI (pB h 53 (mvd (hB h 53) (ba - 1) tl (g + 1))) 47 4 (nI (ba - 1 + 1 + g))) 47 6 (nI a)) 47 7 (nI en)) 53 (ba + dm)
theorem sx_hOp {b2 : Nat} (S : SX G p h) (hn : n < 1000) : SX G p (hOp h n pc ba se b2) := by
  obtain ⟨_, _, _, _, _, s3⟩ := gro3 S (n := n + 1) (by omega)
  exact sx_I (by decide) (sx_I (by decide) (sx_A (by decide) (sx_A (by decide) (sx_A (by decide) s3))))
/-- what hOp reads -/
theorem hOp_r {b2 : Nat} : hN (hOp h n pc ba se b2) = hN (rmI (rmI (rmI h 54 (n + 1)) 55 (n + 1)) 56 (n + 1)) ∧ hI (hOp h n pc ba se b2) 47 5 = nI b2 ∧ hI (hOp h n pc ba se b2) 47 8 = nI (n + 1) ∧ (∀ a b, ¬ (a = 47 ∧ (b = 5 ∨ b = 8)) → hI (hOp h n pc ba se b2) a b = hI (rmI (rmI (rmI h 54 (n + 1)) 55 (n + 1)) 56 (n + 1)) a b) ∧ hL (hOp h n pc ba se b2) = hL (rmI (rmI (rmI h 54 (n + 1)) 55 (n + 1)) 56 (n + 1)) ∧ hB (hOp h n pc ba se b2) = hB (rmI (rmI (rmI h 54 (n + 1)) 55 (n + 1)) 56 (n + 1)) ∧ (∀ a, a ≠ 54 → a ≠ 55 → a ≠ 56 → hA (hOp h n pc ba se b2) a = hA (rmI (rmI (rmI h 54 (n + 1)) 55 (n + 1)) 56 (n + 1)) a) ∧ hA (hOp h n pc ba se b2) 54 = upd (hA (rmI (rmI (rmI h 54 (n + 1)) 55 (n + 1)) 56 (n + 1)) 54) n (nI (pc + 1)) ∧ hA (hOp h n pc ba se b2) 55 = upd (hA (rmI (rmI (rmI h 54 (n + 1)) 55 (n + 1)) 56 (n + 1)) 55) n (nI ba) ∧ hA (hOp h n pc ba se b2) 56 = upd (hA (rmI (rmI (rmI h 54 (n + 1)) 55 (n + 1)) 56 (n + 1)) 56) n se := by
  unfold hOp
  generalize rmI (rmI (rmI h 54 (n + 1)) 55 (n + 1)) 56 (n + 1) = H
  refine ⟨rfl, rfl, rfl, fun a b c => ?_, rfl, rfl, fun a c1 c2 c3 => ?_, rfl, rfl, rfl⟩
  · show (if a = 47 ∧ b = 5 then _ else if a = 47 ∧ b = 8 then _ else hI H a b) = hI H a b
    rw [if_neg (fun q => c ⟨q.1, Or.inl q.2⟩), if_neg (fun q => c ⟨q.1, Or.inr q.2⟩)]
  · show va_up (va_up (va_up (hA H) 54 _) 55 _) 56 _ a = hA H a
    rw [up1_ne c3, up1_ne c2, up1_ne c1]
theorem sp_callp {a g st lf th : Nat} {lt : Int64} {b : Bool} {t xs : List Int64} (S : SX G p h) (hd : 12 < d) (r : RXs cap (t ++ vof 7 (nI a) :: xs) h) (f : RXf pc ba se bk h) (hh : RXh F ce gc h) (dd : RXd th st lt lf h) (hg : xs.length = g) (hg8 : g ≤ 8) (hF : F[a]? = some (nI (M - 1)).toInt64) (h1 : 1 ≤ M) (h2 : M ≤ pLm G) (h3 : pLm G ≤ 120) (hdm : pDm G M ≤ 300) (hwn : pWn G M ≤ 8)
    (q12 : g ≠ pWn G M → Q none (pI (pI h 47 13 12) 47 14 0)) (q17 : g = pWn G M → b = false → ¬ bk.length < 1000 → Q none (pI (pI h 47 13 17) 47 14 0)) (q1 : g = pWn G M → (b = true ∨ bk.length < 1000) → lf = 0 → Q none (pI (pI h 47 13 1) 47 14 0))
    (qa : g = pWn G M → b = false → bk.length < 1000 → 0 < lf → t.length < 600000 ∧ Q none (hCl (hSt h lf st) bk.length pc ba se (t.length + 1) a (pEn G M) (pDm G M)))
    (qb : g = pWn G M → b = true → 0 < lf → 1 ≤ ba ∧ ba ≤ t.length ∧ ba < 600000 ∧ Q none (hLc (hSt h lf st) ba t.length g a (pEn G M) (pDm G M))) : aEv d 51 [.ref 47, .int (nI a), .int (nI g), .int (if b then 1 else 0)] h Q := by
  have h0 : 0 < d := by omega
  have h01 : 0 < d - 1 := by omega
  have k := S.1
  have kp : hK h p = 7 := by rcases S.2.2.2.1.1 with rfl | rfl <;> exact k.1 _ (by decide)
  have r2 := S.2.2.2.2.1
  obtain ⟨b1, b2, b3, b4, b5, b6, b7, b8, b9⟩ := hh
  obtain ⟨d1, d2, d3, d4, d5⟩ := dd
  obtain ⟨a1, a2, a3, a4, a5⟩ := r
  have hl : (t ++ vof 7 (nI a) :: xs).length = t.length + 1 + g := by simp; omega
  rw [hl] at a1 a2
  have f' := f
  obtain ⟨f1, f2, f3, f4, f5, f6, f7, f8, f9, f10⟩ := f
  have n1000 : (1000 : Int32) = nI 1000 := rfl
  have z0 : (0 : Int32) = nI 0 := rfl
  have S0 : SX G p (hSt h lf st) := sx_I (by decide) (sx_I (by decide) S)
  unfold aEv
  simp only [lv_args, z_v, z_lg, z_h, z_u, z_u1, z_c, z_ct, z_sk, sbne, lst1_d, ldel, lst2_d, ldel2, z_sw, z_rok, zi, eq_self, List.map_cons, List.map_nil, List.append_nil, List.nil_append, List.cons_append, Int32.reduceLT, Int32.reduceLE, Int32.reduceAdd, Int32.reduceSub, Int32.reduceMul, Int32.reduceToInt, Int32.reduceToNatClampNeg, Int.reduceLT, Int.reduceLE, Int.reduceNeg, true_and, and_true, or_self, or_false, false_or, false_and, and_false, true_or, or_true, if_true, if_false, ne_eq, Classical.not_not, not_true_eq_false, not_false_eq_true, true_implies, false_implies, implies_true, Nat.reduceEqDiff, Nat.reduceAdd, Nat.reduceLeDiff, Nat.reduceSub, reduceCtorEq, reduceIte, b51_0, skX k, srX k, h0]
  refine sp_lamf k h01 b1 (g_lt hF) b2 b3 ?_
  rw [b4 _ _ hF, i64_32]
  simp only [lv_args, z_v, z_lg, z_h, z_u, z_u1, z_c, z_ct, z_sk, sbne, lst1_d, ldel, lst2_d, ldel2, z_sw, z_rok, zi, eq_self, List.map_cons, List.map_nil, List.append_nil, List.nil_append, List.cons_append, Int32.reduceLT, Int32.reduceLE, Int32.reduceAdd, Int32.reduceSub, Int32.reduceMul, Int32.reduceToInt, Int32.reduceToNatClampNeg, Int.reduceLT, Int.reduceLE, Int.reduceNeg, true_and, and_true, or_self, or_false, false_or, false_and, and_false, true_or, or_true, if_true, if_false, ne_eq, Classical.not_not, not_true_eq_false, not_false_eq_true, true_implies, false_implies, implies_true, Nat.reduceEqDiff, Nat.reduceAdd, Nat.reduceLeDiff, Nat.reduceSub, reduceCtorEq, reduceIte, b51_0, skX k, srX k, h0, r2, kp]
  refine (px_tb S h1 h2 h3).1 _ ?_
  simp only [lv_args, z_v, z_lg, z_h, z_u, z_u1, z_c, z_ct, z_sk, sbne, lst1_d, ldel, lst2_d, ldel2, z_sw, z_rok, zi, eq_self, List.map_cons, List.map_nil, List.append_nil, List.nil_append, List.cons_append, Int32.reduceLT, Int32.reduceLE, Int32.reduceAdd, Int32.reduceSub, Int32.reduceMul, Int32.reduceToInt, Int32.reduceToNatClampNeg, Int.reduceLT, Int.reduceLE, Int.reduceNeg, true_and, and_true, or_self, or_false, false_or, false_and, and_false, true_or, or_true, if_true, if_false, ne_eq, Classical.not_not, not_true_eq_false, not_false_eq_true, true_implies, false_implies, implies_true, Nat.reduceEqDiff, Nat.reduceAdd, Nat.reduceLeDiff, Nat.reduceSub, reduceCtorEq, reduceIte, b51_0, skX k]
  simp (disch := omega) only [nI_eqN]
  refine ⟨fun c => ?_, fun c => ?_⟩
  · have tail : 0 < lf → (b = true ∨ bk.length < 1000) → aWP d 51 54 [(4, Value.int (nI (M - 1))), (0, Value.ref 47), (1, Value.int (nI a)), (2, Value.int (nI g)), (3, Value.int (if b = true then 1 else 0))] [] h Q := fun hlf hbb => by
      simp only [lv_args, z_v, z_lg, z_h, z_u, z_u1, z_c, z_ct, z_sk, sbne, lst1_d, ldel, lst2_d, ldel2, z_sw, z_rok, zi, eq_self, List.map_cons, List.map_nil, List.append_nil, List.nil_append, List.cons_append, Int32.reduceLT, Int32.reduceLE, Int32.reduceAdd, Int32.reduceSub, Int32.reduceMul, Int32.reduceToInt, Int32.reduceToNatClampNeg, Int.reduceLT, Int.reduceLE, Int.reduceNeg, true_and, and_true, or_self, or_false, false_or, false_and, and_false, true_or, or_true, if_true, if_false, ne_eq, Classical.not_not, not_true_eq_false, not_false_eq_true, true_implies, false_implies, implies_true, Nat.reduceEqDiff, Nat.reduceAdd, Nat.reduceLeDiff, Nat.reduceSub, reduceCtorEq, reduceIte, b51_54, skX k, d4]
      have c0 : (0 < nI lf) = True := eq_true ((nI_ltN (x := 0) (by omega) (by omega)).mpr hlf)
      simp only [lv_args, z_v, z_lg, z_h, z_u, z_u1, z_c, z_ct, z_sk, sbne, lst1_d, ldel, lst2_d, ldel2, z_sw, z_rok, zi, eq_self, List.map_cons, List.map_nil, List.append_nil, List.nil_append, List.cons_append, Int32.reduceLT, Int32.reduceLE, Int32.reduceAdd, Int32.reduceSub, Int32.reduceMul, Int32.reduceToInt, Int32.reduceToNatClampNeg, Int.reduceLT, Int.reduceLE, Int.reduceNeg, true_and, and_true, or_self, or_false, false_or, false_and, and_false, true_or, or_true, if_true, if_false, ne_eq, Classical.not_not, not_true_eq_false, not_false_eq_true, true_implies, false_implies, implies_true, Nat.reduceEqDiff, Nat.reduceAdd, Nat.reduceLeDiff, Nat.reduceSub, reduceCtorEq, reduceIte, c0]
      have e1 : nI lf - 1 = nI (lf - 1) := by
        obtain ⟨m, rfl⟩ : ∃ m, lf = m + 1 := ⟨lf - 1, by omega⟩
        exact nI_m1
      simp only [lv_args, z_v, z_lg, z_h, z_u, z_u1, z_c, z_ct, z_sk, sbne, lst1_d, ldel, lst2_d, ldel2, z_sw, z_rok, zi, eq_self, List.map_cons, List.map_nil, List.append_nil, List.nil_append, List.cons_append, Int32.reduceLT, Int32.reduceLE, Int32.reduceAdd, Int32.reduceSub, Int32.reduceMul, Int32.reduceToInt, Int32.reduceToNatClampNeg, Int.reduceLT, Int.reduceLE, Int.reduceNeg, true_and, and_true, or_self, or_false, false_or, false_and, and_false, true_or, or_true, if_true, if_false, ne_eq, Classical.not_not, not_true_eq_false, not_false_eq_true, true_implies, false_implies, implies_true, Nat.reduceEqDiff, Nat.reduceAdd, Nat.reduceLeDiff, Nat.reduceSub, reduceCtorEq, reduceIte, b51_69, skX k, d2, d4, e1, nI_1]
      cases b with
      | false =>
        have hbb : bk.length < 1000 := hbb.elim (fun q => absurd q (by simp)) id
        obtain ⟨ht7, qa⟩ := qa c rfl hbb hlf
        simp only [lv_args, z_v, z_lg, z_h, z_u, z_u1, z_c, z_ct, z_sk, sbne, lst1_d, ldel, lst2_d, ldel2, z_sw, z_rok, zi, eq_self, List.map_cons, List.map_nil, List.append_nil, List.nil_append, List.cons_append, Int32.reduceLT, Int32.reduceLE, Int32.reduceAdd, Int32.reduceSub, Int32.reduceMul, Int32.reduceToInt, Int32.reduceToNatClampNeg, Int.reduceLT, Int.reduceLE, Int.reduceNeg, true_and, and_true, or_self, or_false, false_or, false_and, and_false, true_or, or_true, if_true, if_false, ne_eq, Classical.not_not, not_true_eq_false, not_false_eq_true, true_implies, false_implies, implies_true, Nat.reduceEqDiff, Nat.reduceAdd, Nat.reduceLeDiff, Nat.reduceSub, reduceCtorEq, reduceIte, b51_101, skX k, h0]
        refine sp_open (top := t.length + 1) S0 (by omega) f' hbb a1 ?_
        simp only [lv_args, z_v, z_lg, z_h, z_u, z_u1, z_c, z_ct, z_sk, sbne, lst1_d, ldel, lst2_d, ldel2, z_sw, z_rok, zi, eq_self, List.map_cons, List.map_nil, List.append_nil, List.nil_append, List.cons_append, Int32.reduceLT, Int32.reduceLE, Int32.reduceAdd, Int32.reduceSub, Int32.reduceMul, Int32.reduceToInt, Int32.reduceToNatClampNeg, Int.reduceLT, Int.reduceLE, Int.reduceNeg, true_and, and_true, or_self, or_false, false_or, false_and, and_false, true_or, or_true, if_true, if_false, ne_eq, Classical.not_not, not_true_eq_false, not_false_eq_true, true_implies, false_implies, implies_true, Nat.reduceEqDiff, Nat.reduceAdd, Nat.reduceLeDiff, Nat.reduceSub, reduceCtorEq, reduceIte, b51_101, skX k, Nat.reduceLT]
        refine cp_tail (b := t.length + 1) (sx_hOp S0 hbb) (by omega) h1 h2 h3 hdm hOp_r.2.1 (by omega) ?_ ?_ rfl rfl rfl qa
        · have S0' : SX G p (pI (pI h 47 15 (nI (lf - 1))) 47 16 (nI (st + 1))) := S0
          obtain ⟨g1, g2, g3, _⟩ := gro3 S0' (n := bk.length + 1) (by omega)
          rw [hOp_r.1, (g3.2.2.2.2.1 53 (by decide) (by decide)).2.2, (g2.2.2.2.2.1 53 (by decide) (by decide)).2.2, (g1.2.2.2.2.1 53 (by decide) (by decide)).2.2]
          exact a4
        · intro q hq
          simp only [List.mem_cons, List.not_mem_nil, or_false] at hq
          rcases hq with rfl | rfl | rfl | rfl | rfl
          · exact Or.inr ⟨_, rfl⟩
          · exact Or.inl rfl
          · exact Or.inr ⟨_, rfl⟩
          · exact Or.inr ⟨_, rfl⟩
          · exact Or.inr ⟨_, rfl⟩
      | true =>
        obtain ⟨u1, u2, hb7, u3⟩ := qb c rfl hlf
        have hba : hI (hSt h lf st) 47 5 = nI (ba - 1 + 1) := by rw [show ba - 1 + 1 = ba by omega]; exact f1
        simp only [lv_args, z_v, z_lg, z_h, z_u, z_u1, z_c, z_ct, z_sk, sbne, lst1_d, ldel, lst2_d, ldel2, z_sw, z_rok, zi, eq_self, List.map_cons, List.map_nil, List.append_nil, List.nil_append, List.cons_append, Int32.reduceLT, Int32.reduceLE, Int32.reduceAdd, Int32.reduceSub, Int32.reduceMul, Int32.reduceToInt, Int32.reduceToNatClampNeg, Int.reduceLT, Int.reduceLE, Int.reduceNeg, true_and, and_true, or_self, or_false, false_or, false_and, and_false, true_or, or_true, if_true, if_false, ne_eq, Classical.not_not, not_true_eq_false, not_false_eq_true, true_implies, false_implies, implies_true, Nat.reduceEqDiff, Nat.reduceAdd, Nat.reduceLeDiff, Nat.reduceSub, reduceCtorEq, reduceIte, b51_93, skX k, h0]
        refine sp_down (A := ba - 1) (B := t.length) S0.1 (by omega) hba (by rw [show t.length + g + 1 = t.length + 1 + g by omega]; exact a1) (by omega) (show t.length + g < hN h 53 by omega) a4 ?_
        simp only [lv_args, z_v, z_lg, z_h, z_u, z_u1, z_c, z_ct, z_sk, sbne, lst1_d, ldel, lst2_d, ldel2, z_sw, z_rok, zi, eq_self, List.map_cons, List.map_nil, List.append_nil, List.nil_append, List.cons_append, Int32.reduceLT, Int32.reduceLE, Int32.reduceAdd, Int32.reduceSub, Int32.reduceMul, Int32.reduceToInt, Int32.reduceToNatClampNeg, Int.reduceLT, Int.reduceLE, Int.reduceNeg, true_and, and_true, or_self, or_false, false_or, false_and, and_false, true_or, or_true, if_true, if_false, ne_eq, Classical.not_not, not_true_eq_false, not_false_eq_true, true_implies, false_implies, implies_true, Nat.reduceEqDiff, Nat.reduceAdd, Nat.reduceLeDiff, Nat.reduceSub, reduceCtorEq, reduceIte, b51_93, skX k, Nat.reduceLT]
        refine cp_tail (b := ba) (sx_I (by decide) (sx_B S0)) (by omega) h1 h2 h3 hdm f1 (by omega) a4 ?_ rfl rfl rfl u3
        intro q hq
        simp only [List.mem_cons, List.not_mem_nil, or_false] at hq
        rcases hq with rfl | rfl | rfl | rfl | rfl
        · exact Or.inr ⟨_, rfl⟩
        · exact Or.inl rfl
        · exact Or.inr ⟨_, rfl⟩
        · exact Or.inr ⟨_, rfl⟩
        · exact Or.inr ⟨_, rfl⟩
    have hold : lf = 0 → (b = true ∨ bk.length < 1000) → aWP d 51 54 [(4, Value.int (nI (M - 1))), (0, Value.ref 47), (1, Value.int (nI a)), (2, Value.int (nI g)), (3, Value.int (if b = true then 1 else 0))] [] h Q := fun hlf hbb => by
      subst hlf
      have c0 : (0 < nI 0) = False := eq_false (by decide)
      simp only [lv_args, z_v, z_lg, z_h, z_u, z_u1, z_c, z_ct, z_sk, sbne, lst1_d, ldel, lst2_d, ldel2, z_sw, z_rok, zi, eq_self, List.map_cons, List.map_nil, List.append_nil, List.nil_append, List.cons_append, Int32.reduceLT, Int32.reduceLE, Int32.reduceAdd, Int32.reduceSub, Int32.reduceMul, Int32.reduceToInt, Int32.reduceToNatClampNeg, Int.reduceLT, Int.reduceLE, Int.reduceNeg, true_and, and_true, or_self, or_false, false_or, false_and, and_false, true_or, or_true, if_true, if_false, ne_eq, Classical.not_not, not_true_eq_false, not_false_eq_true, true_implies, false_implies, implies_true, Nat.reduceEqDiff, Nat.reduceAdd, Nat.reduceLeDiff, Nat.reduceSub, reduceCtorEq, reduceIte, b51_54, skX k, d4, c0, b51_61, h0, e57_47 _ _ k, b51_149]
      exact q1 c hbb rfl
    have both : (b = true ∨ bk.length < 1000) → aWP d 51 54 [(4, Value.int (nI (M - 1))), (0, Value.ref 47), (1, Value.int (nI a)), (2, Value.int (nI g)), (3, Value.int (if b = true then 1 else 0))] [] h Q := fun hbb => by
      rcases Nat.eq_zero_or_pos lf with q | q
      · exact hold q hbb
      · exact tail q hbb
    cases b with
    | true =>
      simp only [lv_args, z_v, z_lg, z_h, z_u, z_u1, z_c, z_ct, z_sk, sbne, lst1_d, ldel, lst2_d, ldel2, z_sw, z_rok, zi, eq_self, List.map_cons, List.map_nil, List.append_nil, List.nil_append, List.cons_append, Int32.reduceLT, Int32.reduceLE, Int32.reduceAdd, Int32.reduceSub, Int32.reduceMul, Int32.reduceToInt, Int32.reduceToNatClampNeg, Int.reduceLT, Int.reduceLE, Int.reduceNeg, true_and, and_true, or_self, or_false, false_or, false_and, and_false, true_or, or_true, if_true, if_false, ne_eq, Classical.not_not, not_true_eq_false, not_false_eq_true, true_implies, false_implies, implies_true, Nat.reduceEqDiff, Nat.reduceAdd, Nat.reduceLeDiff, Nat.reduceSub, reduceCtorEq, reduceIte, b51_31]
      exact both (Or.inl rfl)
    | false =>
      simp only [lv_args, z_v, z_lg, z_h, z_u, z_u1, z_c, z_ct, z_sk, sbne, lst1_d, ldel, lst2_d, ldel2, z_sw, z_rok, zi, eq_self, List.map_cons, List.map_nil, List.append_nil, List.nil_append, List.cons_append, Int32.reduceLT, Int32.reduceLE, Int32.reduceAdd, Int32.reduceSub, Int32.reduceMul, Int32.reduceToInt, Int32.reduceToNatClampNeg, Int.reduceLT, Int.reduceLE, Int.reduceNeg, true_and, and_true, or_self, or_false, false_or, false_and, and_false, true_or, or_true, if_true, if_false, ne_eq, Classical.not_not, not_true_eq_false, not_false_eq_true, true_implies, false_implies, implies_true, Nat.reduceEqDiff, Nat.reduceAdd, Nat.reduceLeDiff, Nat.reduceSub, reduceCtorEq, reduceIte, b51_31, b51_35, skX k, f4, n1000]
      simp (disch := omega) only [nI_ltN]
      refine ⟨fun q => both (Or.inr q), fun q => ?_⟩
      simp only [lv_args, z_v, z_lg, z_h, z_u, z_u1, z_c, z_ct, z_sk, sbne, lst1_d, ldel, lst2_d, ldel2, z_sw, z_rok, zi, eq_self, List.map_cons, List.map_nil, List.append_nil, List.nil_append, List.cons_append, Int32.reduceLT, Int32.reduceLE, Int32.reduceAdd, Int32.reduceSub, Int32.reduceMul, Int32.reduceToInt, Int32.reduceToNatClampNeg, Int.reduceLT, Int.reduceLE, Int.reduceNeg, true_and, and_true, or_self, or_false, false_or, false_and, and_false, true_or, or_true, if_true, if_false, ne_eq, Classical.not_not, not_true_eq_false, not_false_eq_true, true_implies, false_implies, implies_true, Nat.reduceEqDiff, Nat.reduceAdd, Nat.reduceLeDiff, Nat.reduceSub, reduceCtorEq, reduceIte, b51_45, skX k, h0, e55_47 _ _ k, b51_149]
      exact q17 c rfl q
  · simp only [lv_args, z_v, z_lg, z_h, z_u, z_u1, z_c, z_ct, z_sk, sbne, lst1_d, ldel, lst2_d, ldel2, z_sw, z_rok, zi, eq_self, List.map_cons, List.map_nil, List.append_nil, List.nil_append, List.cons_append, Int32.reduceLT, Int32.reduceLE, Int32.reduceAdd, Int32.reduceSub, Int32.reduceMul, Int32.reduceToInt, Int32.reduceToNatClampNeg, Int.reduceLT, Int.reduceLE, Int.reduceNeg, true_and, and_true, or_self, or_false, false_or, false_and, and_false, true_or, or_true, if_true, if_false, ne_eq, Classical.not_not, not_true_eq_false, not_false_eq_true, true_implies, false_implies, implies_true, Nat.reduceEqDiff, Nat.reduceAdd, Nat.reduceLeDiff, Nat.reduceSub, reduceCtorEq, reduceIte, b51_23, skX k, h0, e55_47 _ _ k, b51_149]
    exact q12 c
end COR8
