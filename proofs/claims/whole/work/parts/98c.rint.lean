/-! BUILD. Integers out of the text -/
theorem cmp_p {a b : Int64} : 0 < lg_cmp a b ↔ b < a := by
  unfold lg_cmp
  constructor
  · intro e
    by_cases c : a > b
    · exact c
    · rw [if_neg c] at e
      by_cases c2 : a = b
      · rw [if_pos c2] at e; exact absurd e (by decide)
      · rw [if_neg c2] at e; exact absurd e (by decide)
  · intro c
    rw [if_pos c]; decide
theorem cmp_n {a b : Int64} : lg_cmp a b ≤ 0 ↔ ¬ b < a := by
  unfold lg_cmp
  constructor
  · intro e c
    rw [if_pos c] at e; exact absurd e (by decide)
  · intro c
    rw [if_neg c]
    by_cases c2 : a = b
    · rw [if_pos c2]; decide
    · rw [if_neg c2]; decide
theorem o_lt {a b : Nat} (ha : a < 100000000000) (hb : b < 100000000000) : Int64.ofNat a < Int64.ofNat b ↔ a < b := by
  rw [Int64.lt_iff_toInt_lt, Int64.toInt_ofNat_of_lt (by omega), Int64.toInt_ofNat_of_lt (by omega)]
  omega
theorem dg_64 : ∀ c, c < 60 → 48 ≤ c → (nI c - 48).toInt64 = Int64.ofNat (c - 48) := by decide +kernel
/-- the value of m digits -/
def dvl (t : Nat → Nat) (q : Nat) : Nat → Nat
  | 0 => 0
  | m + 1 => dvl t q m * 10 + (t (q + m) - 48)
def mg (v : Nat) : Int64 := Int64.ofNat (min v 2147483649)
theorem mg_s {v c : Nat} : min (min v 2147483649 * 10 + c) 2147483649 = min (v * 10 + c) 2147483649 := by omega
section RIN
variable {h h' : Hp} {Q : Option Value → Hp → Prop} {d n : Nat} {t : Nat → Nat} {N : NS} {stk : List SE}
/-- the integer from p to e, minus or not, its digits from q on -/
theorem ti_loop {p q e : Nat} {x3 : Int32} (s : Sk h) (r : RT t n h) (hqe : q ≤ e) (hen : e ≤ n) (hd : 10 < d) (h20 : hI h 2 0 = 0) (q1 : (∃ i, q ≤ i ∧ i < e ∧ isD (t i) = false) → Q none (pI (pI h 2 0 1) 2 1 (nI p))) (q2 : (∀ i, q ≤ i → i < e → isD (t i) = true) → ∀ R, (R = [(3, .int x3), (0, .ref 3), (1, .int (nI p)), (2, .int (nI e))] ∨ ∃ y, R = [(7, .int y), (3, .int x3), (0, .ref 3), (1, .int (nI p)), (2, .int (nI e))]) → aWP d 135 91 ((6, .int (nI e)) :: (4, .long (mg (dvl t q (e - q)))) :: R) [] h Q) : ∀ (m i : Nat) (R : ALS), i + m = e → q ≤ i → (∀ j, q ≤ j → j < i → isD (t j) = true) → (R = [(3, .int x3), (0, .ref 3), (1, .int (nI p)), (2, .int (nI e))] ∨ ∃ y, R = [(7, .int y), (3, .int x3), (0, .ref 3), (1, .int (nI p)), (2, .int (nI e))]) → aWP d 135 32 ((6, .int (nI i)) :: (4, .long (mg (dvl t q (i - q)))) :: R) [] h Q := by
  have h0 : 0 < d := by omega
  have r4 := r.2.2.2.1
  have z10 : ¬ (1 : Int32) = 0 := by decide
  have eM : (2147483649 : Int64) = Int64.ofNat 2147483649 := rfl
  intro m
  induction m with
  | zero =>
    intro i R hi hqi hall hR
    have hi : i = e := by omega
    subst hi
    have fin := q2 hall R hR
    rcases hR with rfl | ⟨y, rfl⟩
    · simp only [lv_args, z_v, z_lg, z_h, z_u, z_u1, z_c, z_ct, z_sk, sbne, lst1_d, ldel, lst2_d, ldel2, z_sw, z_rok, zi, eq_self, List.map_cons, List.map_nil, List.append_nil, List.nil_append, List.cons_append, Int32.reduceLT, Int32.reduceLE, Int32.reduceAdd, Int32.reduceSub, Int32.reduceMul, Int32.reduceToInt, Int32.reduceToNatClampNeg, Int.reduceLT, Int.reduceLE, Int.reduceNeg, true_and, and_true, or_self, or_false, false_or, false_and, and_false, true_or, or_true, if_true, if_false, ne_eq, Classical.not_not, not_true_eq_false, not_false_eq_true, true_implies, false_implies, implies_true, Nat.reduceEqDiff, Nat.reduceAdd, Nat.reduceLeDiff, Nat.reduceSub, reduceCtorEq, reduceIte, b135_32]
      simp (disch := omega) only [nI_leN]
      exact ⟨fun _ => fin, fun c => absurd (Nat.le_refl _) c⟩
    · simp only [lv_args, z_v, z_lg, z_h, z_u, z_u1, z_c, z_ct, z_sk, sbne, lst1_d, ldel, lst2_d, ldel2, z_sw, z_rok, zi, eq_self, List.map_cons, List.map_nil, List.append_nil, List.nil_append, List.cons_append, Int32.reduceLT, Int32.reduceLE, Int32.reduceAdd, Int32.reduceSub, Int32.reduceMul, Int32.reduceToInt, Int32.reduceToNatClampNeg, Int.reduceLT, Int.reduceLE, Int.reduceNeg, true_and, and_true, or_self, or_false, false_or, false_and, and_false, true_or, or_true, if_true, if_false, ne_eq, Classical.not_not, not_true_eq_false, not_false_eq_true, true_implies, false_implies, implies_true, Nat.reduceEqDiff, Nat.reduceAdd, Nat.reduceLeDiff, Nat.reduceSub, reduceCtorEq, reduceIte, b135_32]
      simp (disch := omega) only [nI_leN]
      exact ⟨fun _ => fin, fun c => absurd (Nat.le_refl _) c⟩
  | succ m ih =>
    intro i R hi hqi hall hR
    have ht := r.2.2.2.2.2 i
    have es : sgn t n i = t i := if_pos (by omega)
    have body : aWP d 135 38 [(6, .int (nI i)), (4, .long (mg (dvl t q (i - q)))), (3, .int x3), (0, .ref 3), (1, .int (nI p)), (2, .int (nI e))] [] h Q ∧ ∀ y, aWP d 135 38 [(6, .int (nI i)), (4, .long (mg (dvl t q (i - q)))), (7, .int y), (3, .int x3), (0, .ref 3), (1, .int (nI p)), (2, .int (nI e))] [] h Q := by
      by_cases cd : isD (t i) = true
      · have hb : 48 ≤ t i ∧ t i ≤ 57 := by
          unfold isD at cd
          simpa using cd
        have e1 := dg_64 (t i) (by omega) hb.1
        have ev : dvl t q (i + 1 - q) = dvl t q (i - q) * 10 + (t i - 48) := by
          rw [show i + 1 - q = (i - q) + 1 by omega]
          show dvl t q (i - q) * 10 + (t (q + (i - q)) - 48) = _
          rw [show q + (i - q) = i by omega]
        have em : mg (dvl t q (i - q)) * 10 + Int64.ofNat (t i - 48) = Int64.ofNat (min (dvl t q (i - q)) 2147483649 * 10 + (t i - 48)) := by
          unfold mg
          rw [Int64.ofNat_add, Int64.ofNat_mul]; rfl
        have next := ih (i + 1) [(7, .int (nI (t i))), (3, .int x3), (0, .ref 3), (1, .int (nI p)), (2, .int (nI e))] (by omega) (by omega) (fun j h1 h2 => by
          by_cases cj : j = i
          · rw [cj]; exact cd
          · exact hall j h1 (by omega)) (Or.inr ⟨_, rfl⟩)
        have step : aWP d 135 64 [(7, .int (nI (t i))), (6, .int (nI i)), (4, .long (mg (dvl t q (i - q)))), (3, .int x3), (0, .ref 3), (1, .int (nI p)), (2, .int (nI e))] [] h Q := by
          simp only [lv_args, z_v, z_lg, z_h, z_u, z_u1, z_c, z_ct, z_sk, sbne, lst1_d, ldel, lst2_d, ldel2, z_sw, z_rok, zi, eq_self, List.map_cons, List.map_nil, List.append_nil, List.nil_append, List.cons_append, Int32.reduceLT, Int32.reduceLE, Int32.reduceAdd, Int32.reduceSub, Int32.reduceMul, Int32.reduceToInt, Int32.reduceToNatClampNeg, Int.reduceLT, Int.reduceLE, Int.reduceNeg, true_and, and_true, or_self, or_false, false_or, false_and, and_false, true_or, or_true, if_true, if_false, ne_eq, Classical.not_not, not_true_eq_false, not_false_eq_true, true_implies, false_implies, implies_true, Nat.reduceEqDiff, Nat.reduceAdd, Nat.reduceLeDiff, Nat.reduceSub, reduceCtorEq, reduceIte, b135_64, h0, e1, em, e286, eM, cmp_p]
          have hlt := o_lt (a := 2147483649) (b := min (dvl t q (i - q)) 2147483649 * 10 + (t i - 48)) (by omega) (by omega)
          refine ⟨fun c => ?_, fun c => ?_⟩
          · have c' := hlt.mp c
            have e5 : mg (dvl t q (i + 1 - q)) = Int64.ofNat 2147483649 := by
              unfold mg
              rw [ev]
              congr 1
              omega
            rw [e5] at next
            simp only [lv_args, z_v, z_lg, z_h, z_u, z_u1, z_c, z_ct, z_sk, sbne, lst1_d, ldel, lst2_d, ldel2, z_sw, z_rok, zi, eq_self, List.map_cons, List.map_nil, List.append_nil, List.nil_append, List.cons_append, Int32.reduceLT, Int32.reduceLE, Int32.reduceAdd, Int32.reduceSub, Int32.reduceMul, Int32.reduceToInt, Int32.reduceToNatClampNeg, Int.reduceLT, Int.reduceLE, Int.reduceNeg, true_and, and_true, or_self, or_false, false_or, false_and, and_false, true_or, or_true, if_true, if_false, ne_eq, Classical.not_not, not_true_eq_false, not_false_eq_true, true_implies, false_implies, implies_true, Nat.reduceEqDiff, Nat.reduceAdd, Nat.reduceLeDiff, Nat.reduceSub, reduceCtorEq, reduceIte, b135_64, nI_1]
            exact next
          · have c' : ¬ 2147483649 < min (dvl t q (i - q)) 2147483649 * 10 + (t i - 48) := fun k => c (hlt.mpr k)
            have e5 : mg (dvl t q (i + 1 - q)) = Int64.ofNat (min (dvl t q (i - q)) 2147483649 * 10 + (t i - 48)) := by
              unfold mg
              rw [ev]
              congr 1
              omega
            rw [e5] at next
            simp only [lv_args, z_v, z_lg, z_h, z_u, z_u1, z_c, z_ct, z_sk, sbne, lst1_d, ldel, lst2_d, ldel2, z_sw, z_rok, zi, eq_self, List.map_cons, List.map_nil, List.append_nil, List.nil_append, List.cons_append, Int32.reduceLT, Int32.reduceLE, Int32.reduceAdd, Int32.reduceSub, Int32.reduceMul, Int32.reduceToInt, Int32.reduceToNatClampNeg, Int.reduceLT, Int.reduceLE, Int.reduceNeg, true_and, and_true, or_self, or_false, false_or, false_and, and_false, true_or, or_true, if_true, if_false, ne_eq, Classical.not_not, not_true_eq_false, not_false_eq_true, true_implies, false_implies, implies_true, Nat.reduceEqDiff, Nat.reduceAdd, Nat.reduceLeDiff, Nat.reduceSub, reduceCtorEq, reduceIte, b135_64, nI_1]
            exact next
        refine ⟨?_, fun y => ?_⟩
        · simp only [lv_args, z_v, z_lg, z_h, z_u, z_u1, z_c, z_ct, z_sk, sbne, lst1_d, ldel, lst2_d, ldel2, z_sw, z_rok, zi, eq_self, List.map_cons, List.map_nil, List.append_nil, List.nil_append, List.cons_append, Int32.reduceLT, Int32.reduceLE, Int32.reduceAdd, Int32.reduceSub, Int32.reduceMul, Int32.reduceToInt, Int32.reduceToNatClampNeg, Int.reduceLT, Int.reduceLE, Int.reduceNeg, true_and, and_true, or_self, or_false, false_or, false_and, and_false, true_or, or_true, if_true, if_false, ne_eq, Classical.not_not, not_true_eq_false, not_false_eq_true, true_implies, false_implies, implies_true, Nat.reduceEqDiff, Nat.reduceAdd, Nat.reduceLeDiff, Nat.reduceSub, reduceCtorEq, reduceIte, b135_38, skX s, h0]
          refine sp_signAt s r (by omega) ?_
          rw [es]
          simp only [lv_args, z_v, z_lg, z_h, z_u, z_u1, z_c, z_ct, z_sk, sbne, lst1_d, ldel, lst2_d, ldel2, z_sw, z_rok, zi, eq_self, List.map_cons, List.map_nil, List.append_nil, List.nil_append, List.cons_append, Int32.reduceLT, Int32.reduceLE, Int32.reduceAdd, Int32.reduceSub, Int32.reduceMul, Int32.reduceToInt, Int32.reduceToNatClampNeg, Int.reduceLT, Int.reduceLE, Int.reduceNeg, true_and, and_true, or_self, or_false, false_or, false_and, and_false, true_or, or_true, if_true, if_false, ne_eq, Classical.not_not, not_true_eq_false, not_false_eq_true, true_implies, false_implies, implies_true, Nat.reduceEqDiff, Nat.reduceAdd, Nat.reduceLeDiff, Nat.reduceSub, reduceCtorEq, reduceIte, b135_38, skX s, h0, Nat.reduceLT]
          refine sp_isDigit ht ?_
          rw [if_pos cd]
          simp only [lv_args, z_v, z_lg, z_h, z_u, z_u1, z_c, z_ct, z_sk, sbne, lst1_d, ldel, lst2_d, ldel2, z_sw, z_rok, zi, eq_self, List.map_cons, List.map_nil, List.append_nil, List.nil_append, List.cons_append, Int32.reduceLT, Int32.reduceLE, Int32.reduceAdd, Int32.reduceSub, Int32.reduceMul, Int32.reduceToInt, Int32.reduceToNatClampNeg, Int.reduceLT, Int.reduceLE, Int.reduceNeg, true_and, and_true, or_self, or_false, false_or, false_and, and_false, true_or, or_true, if_true, if_false, ne_eq, Classical.not_not, not_true_eq_false, not_false_eq_true, true_implies, false_implies, implies_true, Nat.reduceEqDiff, Nat.reduceAdd, Nat.reduceLeDiff, Nat.reduceSub, reduceCtorEq, reduceIte, b135_38, skX s, Nat.reduceLT, z10]
          exact step
        · simp only [lv_args, z_v, z_lg, z_h, z_u, z_u1, z_c, z_ct, z_sk, sbne, lst1_d, ldel, lst2_d, ldel2, z_sw, z_rok, zi, eq_self, List.map_cons, List.map_nil, List.append_nil, List.nil_append, List.cons_append, Int32.reduceLT, Int32.reduceLE, Int32.reduceAdd, Int32.reduceSub, Int32.reduceMul, Int32.reduceToInt, Int32.reduceToNatClampNeg, Int.reduceLT, Int.reduceLE, Int.reduceNeg, true_and, and_true, or_self, or_false, false_or, false_and, and_false, true_or, or_true, if_true, if_false, ne_eq, Classical.not_not, not_true_eq_false, not_false_eq_true, true_implies, false_implies, implies_true, Nat.reduceEqDiff, Nat.reduceAdd, Nat.reduceLeDiff, Nat.reduceSub, reduceCtorEq, reduceIte, b135_38, skX s, h0]
          refine sp_signAt s r (by omega) ?_
          rw [es]
          simp only [lv_args, z_v, z_lg, z_h, z_u, z_u1, z_c, z_ct, z_sk, sbne, lst1_d, ldel, lst2_d, ldel2, z_sw, z_rok, zi, eq_self, List.map_cons, List.map_nil, List.append_nil, List.nil_append, List.cons_append, Int32.reduceLT, Int32.reduceLE, Int32.reduceAdd, Int32.reduceSub, Int32.reduceMul, Int32.reduceToInt, Int32.reduceToNatClampNeg, Int.reduceLT, Int.reduceLE, Int.reduceNeg, true_and, and_true, or_self, or_false, false_or, false_and, and_false, true_or, or_true, if_true, if_false, ne_eq, Classical.not_not, not_true_eq_false, not_false_eq_true, true_implies, false_implies, implies_true, Nat.reduceEqDiff, Nat.reduceAdd, Nat.reduceLeDiff, Nat.reduceSub, reduceCtorEq, reduceIte, b135_38, skX s, h0, Nat.reduceLT]
          refine sp_isDigit ht ?_
          rw [if_pos cd]
          simp only [lv_args, z_v, z_lg, z_h, z_u, z_u1, z_c, z_ct, z_sk, sbne, lst1_d, ldel, lst2_d, ldel2, z_sw, z_rok, zi, eq_self, List.map_cons, List.map_nil, List.append_nil, List.nil_append, List.cons_append, Int32.reduceLT, Int32.reduceLE, Int32.reduceAdd, Int32.reduceSub, Int32.reduceMul, Int32.reduceToInt, Int32.reduceToNatClampNeg, Int.reduceLT, Int.reduceLE, Int.reduceNeg, true_and, and_true, or_self, or_false, false_or, false_and, and_false, true_or, or_true, if_true, if_false, ne_eq, Classical.not_not, not_true_eq_false, not_false_eq_true, true_implies, false_implies, implies_true, Nat.reduceEqDiff, Nat.reduceAdd, Nat.reduceLeDiff, Nat.reduceSub, reduceCtorEq, reduceIte, b135_38, skX s, Nat.reduceLT, z10]
          exact step
      · have cd' : isD (t i) = false := by simpa using cd
        have fin := q1 ⟨i, hqi, by omega, cd'⟩
        have step : aWP d 135 54 [(7, .int (nI (t i))), (6, .int (nI i)), (4, .long (mg (dvl t q (i - q)))), (3, .int x3), (0, .ref 3), (1, .int (nI p)), (2, .int (nI e))] [] h Q := by
          simp only [lv_args, z_v, z_lg, z_h, z_u, z_u1, z_c, z_ct, z_sk, sbne, lst1_d, ldel, lst2_d, ldel2, z_sw, z_rok, zi, eq_self, List.map_cons, List.map_nil, List.append_nil, List.nil_append, List.cons_append, Int32.reduceLT, Int32.reduceLE, Int32.reduceAdd, Int32.reduceSub, Int32.reduceMul, Int32.reduceToInt, Int32.reduceToNatClampNeg, Int.reduceLT, Int.reduceLE, Int.reduceNeg, true_and, and_true, or_self, or_false, false_or, false_and, and_false, true_or, or_true, if_true, if_false, ne_eq, Classical.not_not, not_true_eq_false, not_false_eq_true, true_implies, false_implies, implies_true, Nat.reduceEqDiff, Nat.reduceAdd, Nat.reduceLeDiff, Nat.reduceSub, reduceCtorEq, reduceIte, b135_54, skX s, srX s, h0, e33_2 _ _ s, h20, Nat.reduceLT]
          exact fin
        refine ⟨?_, fun y => ?_⟩
        · simp only [lv_args, z_v, z_lg, z_h, z_u, z_u1, z_c, z_ct, z_sk, sbne, lst1_d, ldel, lst2_d, ldel2, z_sw, z_rok, zi, eq_self, List.map_cons, List.map_nil, List.append_nil, List.nil_append, List.cons_append, Int32.reduceLT, Int32.reduceLE, Int32.reduceAdd, Int32.reduceSub, Int32.reduceMul, Int32.reduceToInt, Int32.reduceToNatClampNeg, Int.reduceLT, Int.reduceLE, Int.reduceNeg, true_and, and_true, or_self, or_false, false_or, false_and, and_false, true_or, or_true, if_true, if_false, ne_eq, Classical.not_not, not_true_eq_false, not_false_eq_true, true_implies, false_implies, implies_true, Nat.reduceEqDiff, Nat.reduceAdd, Nat.reduceLeDiff, Nat.reduceSub, reduceCtorEq, reduceIte, b135_38, skX s, h0]
          refine sp_signAt s r (by omega) ?_
          rw [es]
          simp only [lv_args, z_v, z_lg, z_h, z_u, z_u1, z_c, z_ct, z_sk, sbne, lst1_d, ldel, lst2_d, ldel2, z_sw, z_rok, zi, eq_self, List.map_cons, List.map_nil, List.append_nil, List.nil_append, List.cons_append, Int32.reduceLT, Int32.reduceLE, Int32.reduceAdd, Int32.reduceSub, Int32.reduceMul, Int32.reduceToInt, Int32.reduceToNatClampNeg, Int.reduceLT, Int.reduceLE, Int.reduceNeg, true_and, and_true, or_self, or_false, false_or, false_and, and_false, true_or, or_true, if_true, if_false, ne_eq, Classical.not_not, not_true_eq_false, not_false_eq_true, true_implies, false_implies, implies_true, Nat.reduceEqDiff, Nat.reduceAdd, Nat.reduceLeDiff, Nat.reduceSub, reduceCtorEq, reduceIte, b135_38, skX s, h0, Nat.reduceLT]
          refine sp_isDigit ht ?_
          rw [if_neg cd]
          simp only [lv_args, z_v, z_lg, z_h, z_u, z_u1, z_c, z_ct, z_sk, sbne, lst1_d, ldel, lst2_d, ldel2, z_sw, z_rok, zi, eq_self, List.map_cons, List.map_nil, List.append_nil, List.nil_append, List.cons_append, Int32.reduceLT, Int32.reduceLE, Int32.reduceAdd, Int32.reduceSub, Int32.reduceMul, Int32.reduceToInt, Int32.reduceToNatClampNeg, Int.reduceLT, Int.reduceLE, Int.reduceNeg, true_and, and_true, or_self, or_false, false_or, false_and, and_false, true_or, or_true, if_true, if_false, ne_eq, Classical.not_not, not_true_eq_false, not_false_eq_true, true_implies, false_implies, implies_true, Nat.reduceEqDiff, Nat.reduceAdd, Nat.reduceLeDiff, Nat.reduceSub, reduceCtorEq, reduceIte, b135_38, skX s, Nat.reduceLT]
          exact step
        · simp only [lv_args, z_v, z_lg, z_h, z_u, z_u1, z_c, z_ct, z_sk, sbne, lst1_d, ldel, lst2_d, ldel2, z_sw, z_rok, zi, eq_self, List.map_cons, List.map_nil, List.append_nil, List.nil_append, List.cons_append, Int32.reduceLT, Int32.reduceLE, Int32.reduceAdd, Int32.reduceSub, Int32.reduceMul, Int32.reduceToInt, Int32.reduceToNatClampNeg, Int.reduceLT, Int.reduceLE, Int.reduceNeg, true_and, and_true, or_self, or_false, false_or, false_and, and_false, true_or, or_true, if_true, if_false, ne_eq, Classical.not_not, not_true_eq_false, not_false_eq_true, true_implies, false_implies, implies_true, Nat.reduceEqDiff, Nat.reduceAdd, Nat.reduceLeDiff, Nat.reduceSub, reduceCtorEq, reduceIte, b135_38, skX s, h0]
          refine sp_signAt s r (by omega) ?_
          rw [es]
          simp only [lv_args, z_v, z_lg, z_h, z_u, z_u1, z_c, z_ct, z_sk, sbne, lst1_d, ldel, lst2_d, ldel2, z_sw, z_rok, zi, eq_self, List.map_cons, List.map_nil, List.append_nil, List.nil_append, List.cons_append, Int32.reduceLT, Int32.reduceLE, Int32.reduceAdd, Int32.reduceSub, Int32.reduceMul, Int32.reduceToInt, Int32.reduceToNatClampNeg, Int.reduceLT, Int.reduceLE, Int.reduceNeg, true_and, and_true, or_self, or_false, false_or, false_and, and_false, true_or, or_true, if_true, if_false, ne_eq, Classical.not_not, not_true_eq_false, not_false_eq_true, true_implies, false_implies, implies_true, Nat.reduceEqDiff, Nat.reduceAdd, Nat.reduceLeDiff, Nat.reduceSub, reduceCtorEq, reduceIte, b135_38, skX s, h0, Nat.reduceLT]
          refine sp_isDigit ht ?_
          rw [if_neg cd]
          simp only [lv_args, z_v, z_lg, z_h, z_u, z_u1, z_c, z_ct, z_sk, sbne, lst1_d, ldel, lst2_d, ldel2, z_sw, z_rok, zi, eq_self, List.map_cons, List.map_nil, List.append_nil, List.nil_append, List.cons_append, Int32.reduceLT, Int32.reduceLE, Int32.reduceAdd, Int32.reduceSub, Int32.reduceMul, Int32.reduceToInt, Int32.reduceToNatClampNeg, Int.reduceLT, Int.reduceLE, Int.reduceNeg, true_and, and_true, or_self, or_false, false_or, false_and, and_false, true_or, or_true, if_true, if_false, ne_eq, Classical.not_not, not_true_eq_false, not_false_eq_true, true_implies, false_implies, implies_true, Nat.reduceEqDiff, Nat.reduceAdd, Nat.reduceLeDiff, Nat.reduceSub, reduceCtorEq, reduceIte, b135_38, skX s, Nat.reduceLT]
          exact step
    rcases hR with rfl | ⟨y, rfl⟩
    · simp only [lv_args, z_v, z_lg, z_h, z_u, z_u1, z_c, z_ct, z_sk, sbne, lst1_d, ldel, lst2_d, ldel2, z_sw, z_rok, zi, eq_self, List.map_cons, List.map_nil, List.append_nil, List.nil_append, List.cons_append, Int32.reduceLT, Int32.reduceLE, Int32.reduceAdd, Int32.reduceSub, Int32.reduceMul, Int32.reduceToInt, Int32.reduceToNatClampNeg, Int.reduceLT, Int.reduceLE, Int.reduceNeg, true_and, and_true, or_self, or_false, false_or, false_and, and_false, true_or, or_true, if_true, if_false, ne_eq, Classical.not_not, not_true_eq_false, not_false_eq_true, true_implies, false_implies, implies_true, Nat.reduceEqDiff, Nat.reduceAdd, Nat.reduceLeDiff, Nat.reduceSub, reduceCtorEq, reduceIte, b135_32]
      simp (disch := omega) only [nI_leN]
      exact ⟨fun c => absurd c (by omega), fun _ => body.1⟩
    · simp only [lv_args, z_v, z_lg, z_h, z_u, z_u1, z_c, z_ct, z_sk, sbne, lst1_d, ldel, lst2_d, ldel2, z_sw, z_rok, zi, eq_self, List.map_cons, List.map_nil, List.append_nil, List.nil_append, List.cons_append, Int32.reduceLT, Int32.reduceLE, Int32.reduceAdd, Int32.reduceSub, Int32.reduceMul, Int32.reduceToInt, Int32.reduceToNatClampNeg, Int.reduceLT, Int.reduceLE, Int.reduceNeg, true_and, and_true, or_self, or_false, false_or, false_and, and_false, true_or, or_true, if_true, if_false, ne_eq, Classical.not_not, not_true_eq_false, not_false_eq_true, true_implies, false_implies, implies_true, Nat.reduceEqDiff, Nat.reduceAdd, Nat.reduceLeDiff, Nat.reduceSub, reduceCtorEq, reduceIte, b135_32]
      simp (disch := omega) only [nI_leN]
      exact ⟨fun c => absurd c (by omega), fun _ => body.2 y⟩
end RIN
