/-! BUILD. Integers out of the text -/
theorem cmp_p {a b : Int64} : 0 < lg_cmp a b ↔ b < a := by
  unfold lg_cmp
  constructor
  · intro e
    by_cases c : a > b
    · exact c
    · rw [if_neg c] at e
      by_cases c2 : a = b
      · rw [if_pos c2] at e; exact absurd e (by decide)
      · rw [if_neg c2] at e; exact absurd e (by decide)
  · intro c
    rw [if_pos c]; decide
theorem cmp_n {a b : Int64} : lg_cmp a b ≤ 0 ↔ ¬ b < a := by
  unfold lg_cmp
  constructor
  · intro e c
    rw [if_pos c] at e; exact absurd e (by decide)
  · intro c
    rw [if_neg c]
    by_cases c2 : a = b
    · rw [if_pos c2]; decide
    · rw [if_neg c2]; decide
theorem o_lt {a b : Nat} (ha : a < 100000000000) (hb : b < 100000000000) : Int64.ofNat a < Int64.ofNat b ↔ a < b := by
  rw [Int64.lt_iff_toInt_lt, Int64.toInt_ofNat_of_lt (by omega), Int64.toInt_ofNat_of_lt (by omega)]
  omega
theorem dg_64 : ∀ c, c < 60 → 48 ≤ c → (nI c - 48).toInt64 = Int64.ofNat (c - 48) := by decide +kernel
/-- the value of m digits -/
def dvl (t : Nat → Nat) (q : Nat) : Nat → Nat
  | 0 => 0
  | m + 1 => dvl t q m * 10 + (t (q + m) - 48)
def mg (v : Nat) : Int64 := Int64.ofNat (min v 2147483649)
theorem mg_s {v c : Nat} : min (min v 2147483649 * 10 + c) 2147483649 = min (v * 10 + c) 2147483649 := by omega
section RIN
variable {h h' : Hp} {Q : Option Value → Hp → Prop} {d n : Nat} {t : Nat → Nat} {N : NS} {stk : List SE}
/-- the integer from p to e, minus or not, its digits from q on -/
theorem ti_loop {p q e : Nat} {x3 : Int32} (s : Sk h) (r : RT t n h) (hqe : q ≤ e) (hen : e ≤ n) (hd : 10 < d) (h20 : hI h 2 0 = 0) (q1 : (∃ i, q ≤ i ∧ i < e ∧ isD (t i) = false) → Q none (pI (pI h 2 0 1) 2 1 (nI p))) (q2 : (∀ i, q ≤ i → i < e → isD (t i) = true) → ∀ R, (R = [(3, .int x3), (0, .ref 3), (1, .int (nI p)), (2, .int (nI e))] ∨ ∃ y, R = [(7, .int y), (3, .int x3), (0, .ref 3), (1, .int (nI p)), (2, .int (nI e))]) → aWP d 135 91 ((6, .int (nI e)) :: (4, .long (mg (dvl t q (e - q)))) :: R) [] h Q) : ∀ (m i : Nat) (R : ALS), i + m = e → q ≤ i → (∀ j, q ≤ j → j < i → isD (t j) = true) → (R = [(3, .int x3), (0, .ref 3), (1, .int (nI p)), (2, .int (nI e))] ∨ ∃ y, R = [(7, .int y), (3, .int x3), (0, .ref 3), (1, .int (nI p)), (2, .int (nI e))]) → aWP d 135 32 ((6, .int (nI i)) :: (4, .long (mg (dvl t q (i - q)))) :: R) [] h Q := by
  have h0 : 0 < d := by omega
  have r4 := r.2.2.2.1
  have z10 : ¬ (1 : Int32) = 0 := by decide
  have eM : (2147483649 : Int64) = Int64.ofNat 2147483649 := rfl
  intro m
  induction m with
  | zero =>
    intro i R hi hqi hall hR
    have hi : i = e := by omega
    subst hi
    have fin := q2 hall R hR
    rcases hR with rfl | ⟨y, rfl⟩
    · simp only [lv_args, z_v, z_lg, z_h, z_u, z_u1, z_c, z_ct, z_sk, sbne, lst1_d, ldel, lst2_d, ldel2, z_sw, z_rok, zi, eq_self, List.map_cons, List.map_nil, List.append_nil, List.nil_append, List.cons_append, Int32.reduceLT, Int32.reduceLE, Int32.reduceAdd, Int32.reduceSub, Int32.reduceMul, Int32.reduceToInt, Int32.reduceToNatClampNeg, Int.reduceLT, Int.reduceLE, Int.reduceNeg, true_and, and_true, or_self, or_false, false_or, false_and, and_false, true_or, or_true, if_true, if_false, ne_eq, Classical.not_not, not_true_eq_false, not_false_eq_true, true_implies, false_implies, implies_true, Nat.reduceEqDiff, Nat.reduceAdd, Nat.reduceLeDiff, Nat.reduceSub, reduceCtorEq, reduceIte, b135_32]
      simp (disch := omega) only [nI_leN]
      exact ⟨fun _ => fin, fun c => absurd (Nat.le_refl _) c⟩
    · simp only [lv_args, z_v, z_lg, z_h, z_u, z_u1, z_c, z_ct, z_sk, sbne, lst1_d, ldel, lst2_d, ldel2, z_sw, z_rok, zi, eq_self, List.map_cons, List.map_nil, List.append_nil, List.nil_append, List.cons_append, Int32.reduceLT, Int32.reduceLE, Int32.reduceAdd, Int32.reduceSub, Int32.reduceMul, Int32.reduceToInt, Int32.reduceToNatClampNeg, Int.reduceLT, Int.reduceLE, Int.reduceNeg, true_and, and_true, or_self, or_false, false_or, false_and, and_false, true_or, or_true, if_true, if_false, ne_eq, Classical.not_not, not_true_eq_false, not_false_eq_true, true_implies, false_implies, implies_true, Nat.reduceEqDiff, Nat.reduceAdd, Nat.reduceLeDiff, Nat.reduceSub, reduceCtorEq, reduceIte, b135_32]
      simp (disch := omega) only [nI_leN]
      exact ⟨fun _ => fin, fun c => absurd (Nat.le_refl _) c⟩
  | succ m ih =>
    intro i R hi hqi hall hR
    have ht := r.2.2.2.2.2 i
    have es : sgn t n i = t i := if_pos (by omega)
    have body : aWP d 135 38 [(6, .int (nI i)), (4, .long (mg (dvl t q (i - q)))), (3, .int x3), (0, .ref 3), (1, .int (nI p)), (2, .int (nI e))] [] h Q ∧ ∀ y, aWP d 135 38 [(6, .int (nI i)), (4, .long (mg (dvl t q (i - q)))), (7, .int y), (3, .int x3), (0, .ref 3), (1, .int (nI p)), (2, .int (nI e))] [] h Q := by
      by_cases cd : isD (t i) = true
      · have hb : 48 ≤ t i ∧ t i ≤ 57 := by
          unfold isD at cd
          simpa using cd
        have e1 := dg_64 (t i) (by omega) hb.1
        have ev : dvl t q (i + 1 - q) = dvl t q (i - q) * 10 + (t i - 48) := by
          rw [show i + 1 - q = (i - q) + 1 by omega]
          show dvl t q (i - q) * 10 + (t (q + (i - q)) - 48) = _
          rw [show q + (i - q) = i by omega]
        have em : mg (dvl t q (i - q)) * 10 + Int64.ofNat (t i - 48) = Int64.ofNat (min (dvl t q (i - q)) 2147483649 * 10 + (t i - 48)) := by
          unfold mg
          rw [Int64.ofNat_add, Int64.ofNat_mul]; rfl
        have next := ih (i + 1) [(7, .int (nI (t i))), (3, .int x3), (0, .ref 3), (1, .int (nI p)), (2, .int (nI e))] (by omega) (by omega) (fun j h1 h2 => by
          by_cases cj : j = i
          · rw [cj]; exact cd
          · exact hall j h1 (by omega)) (Or.inr ⟨_, rfl⟩)
        have step : aWP d 135 64 [(7, .int (nI (t i))), (6, .int (nI i)), (4, .long (mg (dvl t q (i - q)))), (3, .int x3), (0, .ref 3), (1, .int (nI p)), (2, .int (nI e))] [] h Q := by
          simp only [lv_args, z_v, z_lg, z_h, z_u, z_u1, z_c, z_ct, z_sk, sbne, lst1_d, ldel, lst2_d, ldel2, z_sw, z_rok, zi, eq_self, List.map_cons, List.map_nil, List.append_nil, List.nil_append, List.cons_append, Int32.reduceLT, Int32.reduceLE, Int32.reduceAdd, Int32.reduceSub, Int32.reduceMul, Int32.reduceToInt, Int32.reduceToNatClampNeg, Int.reduceLT, Int.reduceLE, Int.reduceNeg, true_and, and_true, or_self, or_false, false_or, false_and, and_false, true_or, or_true, if_true, if_false, ne_eq, Classical.not_not, not_true_eq_false, not_false_eq_true, true_implies, false_implies, implies_true, Nat.reduceEqDiff, Nat.reduceAdd, Nat.reduceLeDiff, Nat.reduceSub, reduceCtorEq, reduceIte, b135_64, h0, e1, em, e286, eM, cmp_p]
          have hlt := o_lt (a := 2147483649) (b := min (dvl t q (i - q)) 2147483649 * 10 + (t i - 48)) (by omega) (by omega)
          refine ⟨fun c => ?_, fun c => ?_⟩
          · have c' := hlt.mp c
            have e5 : mg (dvl t q (i + 1 - q)) = Int64.ofNat 2147483649 := by
              unfold mg
              rw [ev]
              congr 1
              omega
            rw [e5] at next
            simp only [lv_args, z_v, z_lg, z_h, z_u, z_u1, z_c, z_ct, z_sk, sbne, lst1_d, ldel, lst2_d, ldel2, z_sw, z_rok, zi, eq_self, List.map_cons, List.map_nil, List.append_nil, List.nil_append, List.cons_append, Int32.reduceLT, Int32.reduceLE, Int32.reduceAdd, Int32.reduceSub, Int32.reduceMul, Int32.reduceToInt, Int32.reduceToNatClampNeg, Int.reduceLT, Int.reduceLE, Int.reduceNeg, true_and, and_true, or_self, or_false, false_or, false_and, and_false, true_or, or_true, if_true, if_false, ne_eq, Classical.not_not, not_true_eq_false, not_false_eq_true, true_implies, false_implies, implies_true, Nat.reduceEqDiff, Nat.reduceAdd, Nat.reduceLeDiff, Nat.reduceSub, reduceCtorEq, reduceIte, b135_64, nI_1]
            exact next
          · have c' : ¬ 2147483649 < min (dvl t q (i - q)) 2147483649 * 10 + (t i - 48) := fun k => c (hlt.mpr k)
            have e5 : mg (dvl t q (i + 1 - q)) = Int64.ofNat (min (dvl t q (i - q)) 2147483649 * 10 + (t i - 48)) := by
              unfold mg
              rw [ev]
              congr 1
              omega
            rw [e5] at next
            simp only [lv_args, z_v, z_lg, z_h, z_u, z_u1, z_c, z_ct, z_sk, sbne, lst1_d, ldel, lst2_d, ldel2, z_sw, z_rok, zi, eq_self, List.map_cons, List.map_nil, List.append_nil, List.nil_append, List.cons_append, Int32.reduceLT, Int32.reduceLE, Int32.reduceAdd, Int32.reduceSub, Int32.reduceMul, Int32.reduceToInt, Int32.reduceToNatClampNeg, Int.reduceLT, Int.reduceLE, Int.reduceNeg, true_and, and_true, or_self, or_false, false_or, false_and, and_false, true_or, or_true, if_true, if_false, ne_eq, Classical.not_not, not_true_eq_false, not_false_eq_true, true_implies, false_implies, implies_true, Nat.reduceEqDiff, Nat.reduceAdd, Nat.reduceLeDiff, Nat.reduceSub, reduceCtorEq, reduceIte, b135_64, nI_1]
            exact next
        refine ⟨?_, fun y => ?_⟩
        · simp only [lv_args, z_v, z_lg, z_h, z_u, z_u1, z_c, z_ct, z_sk, sbne, lst1_d, ldel, lst2_d, ldel2, z_sw, z_rok, zi, eq_self, List.map_cons, List.map_nil, List.append_nil, List.nil_append, List.cons_append, Int32.reduceLT, Int32.reduceLE, Int32.reduceAdd, Int32.reduceSub, Int32.reduceMul, Int32.reduceToInt, Int32.reduceToNatClampNeg, Int.reduceLT, Int.reduceLE, Int.reduceNeg, true_and, and_true, or_self, or_false, false_or, false_and, and_false, true_or, or_true, if_true, if_false, ne_eq, Classical.not_not, not_true_eq_false, not_false_eq_true, true_implies, false_implies, implies_true, Nat.reduceEqDiff, Nat.reduceAdd, Nat.reduceLeDiff, Nat.reduceSub, reduceCtorEq, reduceIte, b135_38, skX s, h0]
          refine sp_signAt s r (by omega) ?_
          rw [es]
          simp only [lv_args, z_v, z_lg, z_h, z_u, z_u1, z_c, z_ct, z_sk, sbne, lst1_d, ldel, lst2_d, ldel2, z_sw, z_rok, zi, eq_self, List.map_cons, List.map_nil, List.append_nil, List.nil_append, List.cons_append, Int32.reduceLT, Int32.reduceLE, Int32.reduceAdd, Int32.reduceSub, Int32.reduceMul, Int32.reduceToInt, Int32.reduceToNatClampNeg, Int.reduceLT, Int.reduceLE, Int.reduceNeg, true_and, and_true, or_self, or_false, false_or, false_and, and_false, true_or, or_true, if_true, if_false, ne_eq, Classical.not_not, not_true_eq_false, not_false_eq_true, true_implies, false_implies, implies_true, Nat.reduceEqDiff, Nat.reduceAdd, Nat.reduceLeDiff, Nat.reduceSub, reduceCtorEq, reduceIte, b135_38, skX s, h0, Nat.reduceLT]
          refine sp_isDigit ht ?_
          rw [if_pos cd]
          simp only [lv_args, z_v, z_lg, z_h, z_u, z_u1, z_c, z_ct, z_sk, sbne, lst1_d, ldel, lst2_d, ldel2, z_sw, z_rok, zi, eq_self, List.map_cons, List.map_nil, List.append_nil, List.nil_append, List.cons_append, Int32.reduceLT, Int32.reduceLE, Int32.reduceAdd, Int32.reduceSub, Int32.reduceMul, Int32.reduceToInt, Int32.reduceToNatClampNeg, Int.reduceLT, Int.reduceLE, Int.reduceNeg, true_and, and_true, or_self, or_false, false_or, false_and, and_false, true_or, or_true, if_true, if_false, ne_eq, Classical.not_not, not_true_eq_false, not_false_eq_true, true_implies, false_implies, implies_true, Nat.reduceEqDiff, Nat.reduceAdd, Nat.reduceLeDiff, Nat.reduceSub, reduceCtorEq, reduceIte, b135_38, skX s, Nat.reduceLT, z10]
          exact step
        · simp only [lv_args, z_v, z_lg, z_h, z_u, z_u1, z_c, z_ct, z_sk, sbne, lst1_d, ldel, lst2_d, ldel2, z_sw, z_rok, zi, eq_self, List.map_cons, List.map_nil, List.append_nil, List.nil_append, List.cons_append, Int32.reduceLT, Int32.reduceLE, Int32.reduceAdd, Int32.reduceSub, Int32.reduceMul, Int32.reduceToInt, Int32.reduceToNatClampNeg, Int.reduceLT, Int.reduceLE, Int.reduceNeg, true_and, and_true, or_self, or_false, false_or, false_and, and_false, true_or, or_true, if_true, if_false, ne_eq, Classical.not_not, not_true_eq_false, not_false_eq_true, true_implies, false_implies, implies_true, Nat.reduceEqDiff, Nat.reduceAdd, Nat.reduceLeDiff, Nat.reduceSub, reduceCtorEq, reduceIte, b135_38, skX s, h0]
          refine sp_signAt s r (by omega) ?_
          rw [es]
          simp only [lv_args, z_v, z_lg, z_h, z_u, z_u1, z_c, z_ct, z_sk, sbne, lst1_d, ldel, lst2_d, ldel2, z_sw, z_rok, zi, eq_self, List.map_cons, List.map_nil, List.append_nil, List.nil_append, List.cons_append, Int32.reduceLT, Int32.reduceLE, Int32.reduceAdd, Int32.reduceSub, Int32.reduceMul, Int32.reduceToInt, Int32.reduceToNatClampNeg, Int.reduceLT, Int.reduceLE, Int.reduceNeg, true_and, and_true, or_self, or_false, false_or, false_and, and_false, true_or, or_true, if_true, if_false, ne_eq, Classical.not_not, not_true_eq_false, not_false_eq_true, true_implies, false_implies, implies_true, Nat.reduceEqDiff, Nat.reduceAdd, Nat.reduceLeDiff, Nat.reduceSub, reduceCtorEq, reduceIte, b135_38, skX s, h0, Nat.reduceLT]
          refine sp_isDigit ht ?_
          rw [if_pos cd]
          simp only [lv_args, z_v, z_lg, z_h, z_u, z_u1, z_c, z_ct, z_sk, sbne, lst1_d, ldel, lst2_d, ldel2, z_sw, z_rok, zi, eq_self, List.map_cons, List.map_nil, List.append_nil, List.nil_append, List.cons_append, Int32.reduceLT, Int32.reduceLE, Int32.reduceAdd, Int32.reduceSub, Int32.reduceMul, Int32.reduceToInt, Int32.reduceToNatClampNeg, Int.reduceLT, Int.reduceLE, Int.reduceNeg, true_and, and_true, or_self, or_false, false_or, false_and, and_false, true_or, or_true, if_true, if_false, ne_eq, Classical.not_not, not_true_eq_false, not_false_eq_true, true_implies, false_implies, implies_true, Nat.reduceEqDiff, Nat.reduceAdd, Nat.reduceLeDiff, Nat.reduceSub, reduceCtorEq, reduceIte, b135_38, skX s, Nat.reduceLT, z10]
          exact step
      · have cd' : isD (t i) = false := by simpa using cd
        have fin := q1 ⟨i, hqi, by omega, cd'⟩
        have step : aWP d 135 54 [(7, .int (nI (t i))), (6, .int (nI i)), (4, .long (mg (dvl t q (i - q)))), (3, .int x3), (0, .ref 3), (1, .int (nI p)), (2, .int (nI e))] [] h Q := by
          simp only [lv_args, z_v, z_lg, z_h, z_u, z_u1, z_c, z_ct, z_sk, sbne, lst1_d, ldel, lst2_d, ldel2, z_sw, z_rok, zi, eq_self, List.map_cons, List.map_nil, List.append_nil, List.nil_append, List.cons_append, Int32.reduceLT, Int32.reduceLE, Int32.reduceAdd, Int32.reduceSub, Int32.reduceMul, Int32.reduceToInt, Int32.reduceToNatClampNeg, Int.reduceLT, Int.reduceLE, Int.reduceNeg, true_and, and_true, or_self, or_false, false_or, false_and, and_false, true_or, or_true, if_true, if_false, ne_eq, Classical.not_not, not_true_eq_false, not_false_eq_true, true_implies, false_implies, implies_true, Nat.reduceEqDiff, Nat.reduceAdd, Nat.reduceLeDiff, Nat.reduceSub, reduceCtorEq, reduceIte, b135_54, skX s, srX s, h0, e33_2 _ _ s, h20, Nat.reduceLT]
          exact fin
        refine ⟨?_, fun y => ?_⟩
        · simp only [lv_args, z_v, z_lg, z_h, z_u, z_u1, z_c, z_ct, z_sk, sbne, lst1_d, ldel, lst2_d, ldel2, z_sw, z_rok, zi, eq_self, List.map_cons, List.map_nil, List.append_nil, List.nil_append, List.cons_append, Int32.reduceLT, Int32.reduceLE, Int32.reduceAdd, Int32.reduceSub, Int32.reduceMul, Int32.reduceToInt, Int32.reduceToNatClampNeg, Int.reduceLT, Int.reduceLE, Int.reduceNeg, true_and, and_true, or_self, or_false, false_or, false_and, and_false, true_or, or_true, if_true, if_false, ne_eq, Classical.not_not, not_true_eq_false, not_false_eq_true, true_implies, false_implies, implies_true, Nat.reduceEqDiff, Nat.reduceAdd, Nat.reduceLeDiff, Nat.reduceSub, reduceCtorEq, reduceIte, b135_38, skX s, h0]
          refine sp_signAt s r (by omega) ?_
          rw [es]
          simp only [lv_args, z_v, z_lg, z_h, z_u, z_u1, z_c, z_ct, z_sk, sbne, lst1_d, ldel, lst2_d, ldel2, z_sw, z_rok, zi, eq_self, List.map_cons, List.map_nil, List.append_nil, List.nil_append, List.cons_append, Int32.reduceLT, Int32.reduceLE, Int32.reduceAdd, Int32.reduceSub, Int32.reduceMul, Int32.reduceToInt, Int32.reduceToNatClampNeg, Int.reduceLT, Int.reduceLE, Int.reduceNeg, true_and, and_true, or_self, or_false, false_or, false_and, and_false, true_or, or_true, if_true, if_false, ne_eq, Classical.not_not, not_true_eq_false, not_false_eq_true, true_implies, false_implies, implies_true, Nat.reduceEqDiff, Nat.reduceAdd, Nat.reduceLeDiff, Nat.reduceSub, reduceCtorEq, reduceIte, b135_38, skX s, h0, Nat.reduceLT]
          refine sp_isDigit ht ?_
          rw [if_neg cd]
          simp only [lv_args, z_v, z_lg, z_h, z_u, z_u1, z_c, z_ct, z_sk, sbne, lst1_d, ldel, lst2_d, ldel2, z_sw, z_rok, zi, eq_self, List.map_cons, List.map_nil, List.append_nil, List.nil_append, List.cons_append, Int32.reduceLT, Int32.reduceLE, Int32.reduceAdd, Int32.reduceSub, Int32.reduceMul, Int32.reduceToInt, Int32.reduceToNatClampNeg, Int.reduceLT, Int.reduceLE, Int.reduceNeg, true_and, and_true, or_self, or_false, false_or, false_and, and_false, true_or, or_true, if_true, if_false, ne_eq, Classical.not_not, not_true_eq_false, not_false_eq_true, true_implies, false_implies, implies_true, Nat.reduceEqDiff, Nat.reduceAdd, Nat.reduceLeDiff, Nat.reduceSub, reduceCtorEq, reduceIte, b135_38, skX s, Nat.reduceLT]
          exact step
        · simp only [lv_args, z_v, z_lg, z_h, z_u, z_u1, z_c, z_ct, z_sk, sbne, lst1_d, ldel, lst2_d, ldel2, z_sw, z_rok, zi, eq_self, List.map_cons, List.map_nil, List.append_nil, List.nil_append, List.cons_append, Int32.reduceLT, Int32.reduceLE, Int32.reduceAdd, Int32.reduceSub, Int32.reduceMul, Int32.reduceToInt, Int32.reduceToNatClampNeg, Int.reduceLT, Int.reduceLE, Int.reduceNeg, true_and, and_true, or_self, or_false, false_or, false_and, and_false, true_or, or_true, if_true, if_false, ne_eq, Classical.not_not, not_true_eq_false, not_false_eq_true, true_implies, false_implies, implies_true, Nat.reduceEqDiff, Nat.reduceAdd, Nat.reduceLeDiff, Nat.reduceSub, reduceCtorEq, reduceIte, b135_38, skX s, h0]
          refine sp_signAt s r (by omega) ?_
          rw [es]
          simp only [lv_args, z_v, z_lg, z_h, z_u, z_u1, z_c, z_ct, z_sk, sbne, lst1_d, ldel, lst2_d, ldel2, z_sw, z_rok, zi, eq_self, List.map_cons, List.map_nil, List.append_nil, List.nil_append, List.cons_append, Int32.reduceLT, Int32.reduceLE, Int32.reduceAdd, Int32.reduceSub, Int32.reduceMul, Int32.reduceToInt, Int32.reduceToNatClampNeg, Int.reduceLT, Int.reduceLE, Int.reduceNeg, true_and, and_true, or_self, or_false, false_or, false_and, and_false, true_or, or_true, if_true, if_false, ne_eq, Classical.not_not, not_true_eq_false, not_false_eq_true, true_implies, false_implies, implies_true, Nat.reduceEqDiff, Nat.reduceAdd, Nat.reduceLeDiff, Nat.reduceSub, reduceCtorEq, reduceIte, b135_38, skX s, h0, Nat.reduceLT]
          refine sp_isDigit ht ?_
          rw [if_neg cd]
          simp only [lv_args, z_v, z_lg, z_h, z_u, z_u1, z_c, z_ct, z_sk, sbne, lst1_d, ldel, lst2_d, ldel2, z_sw, z_rok, zi, eq_self, List.map_cons, List.map_nil, List.append_nil, List.nil_append, List.cons_append, Int32.reduceLT, Int32.reduceLE, Int32.reduceAdd, Int32.reduceSub, Int32.reduceMul, Int32.reduceToInt, Int32.reduceToNatClampNeg, Int.reduceLT, Int.reduceLE, Int.reduceNeg, true_and, and_true, or_self, or_false, false_or, false_and, and_false, true_or, or_true, if_true, if_false, ne_eq, Classical.not_not, not_true_eq_false, not_false_eq_true, true_implies, false_implies, implies_true, Nat.reduceEqDiff, Nat.reduceAdd, Nat.reduceLeDiff, Nat.reduceSub, reduceCtorEq, reduceIte, b135_38, skX s, Nat.reduceLT]
          exact step
    rcases hR with rfl | ⟨y, rfl⟩
    · simp only [lv_args, z_v, z_lg, z_h, z_u, z_u1, z_c, z_ct, z_sk, sbne, lst1_d, ldel, lst2_d, ldel2, z_sw, z_rok, zi, eq_self, List.map_cons, List.map_nil, List.append_nil, List.nil_append, List.cons_append, Int32.reduceLT, Int32.reduceLE, Int32.reduceAdd, Int32.reduceSub, Int32.reduceMul, Int32.reduceToInt, Int32.reduceToNatClampNeg, Int.reduceLT, Int.reduceLE, Int.reduceNeg, true_and, and_true, or_self, or_false, false_or, false_and, and_false, true_or, or_true, if_true, if_false, ne_eq, Classical.not_not, not_true_eq_false, not_false_eq_true, true_implies, false_implies, implies_true, Nat.reduceEqDiff, Nat.reduceAdd, Nat.reduceLeDiff, Nat.reduceSub, reduceCtorEq, reduceIte, b135_32]
      simp (disch := omega) only [nI_leN]
      exact ⟨fun c => absurd c (by omega), fun _ => body.1⟩
    · simp only [lv_args, z_v, z_lg, z_h, z_u, z_u1, z_c, z_ct, z_sk, sbne, lst1_d, ldel, lst2_d, ldel2, z_sw, z_rok, zi, eq_self, List.map_cons, List.map_nil, List.append_nil, List.nil_append, List.cons_append, Int32.reduceLT, Int32.reduceLE, Int32.reduceAdd, Int32.reduceSub, Int32.reduceMul, Int32.reduceToInt, Int32.reduceToNatClampNeg, Int.reduceLT, Int.reduceLE, Int.reduceNeg, true_and, and_true, or_self, or_false, false_or, false_and, and_false, true_or, or_true, if_true, if_false, ne_eq, Classical.not_not, not_true_eq_false, not_false_eq_true, true_implies, false_implies, implies_true, Nat.reduceEqDiff, Nat.reduceAdd, Nat.reduceLeDiff, Nat.reduceSub, reduceCtorEq, reduceIte, b135_32]
      simp (disch := omega) only [nI_leN]
      exact ⟨fun c => absurd c (by omega), fun _ => body.2 y⟩
/-- is it minus, where its digits begin, what it may be at the most -/
def ng (t : Nat → Nat) (p : Nat) : Bool := t p == 45
def dq (t : Nat → Nat) (p : Nat) : Nat := if ng t p then p + 1 else p
def lm (t : Nat → Nat) (p : Nat) : Nat := if ng t p then 2147483648 else 2147483647
def iv (t : Nat → Nat) (p e : Nat) : Int32 := if ng t p then -(nI (dvl t (dq t p) (e - dq t p))) else nI (dvl t (dq t p) (e - dq t p))
theorem sp_takeInteger {p e : Nat} {e0 : SE} (s : Sk h) (rm0 : Rm h) (r : RT t n h) (rn : RNs N h) (rs : RSk (e0 :: stk) h) (ws : WS N (e0 :: stk)) (rm : roomN N h) (hl : N.1 < 7000) (hpe : p < e) (hen : e ≤ n) (hd : 20 < d) (h20 : hI h 2 0 = 0)
    (q1 : (∃ i, dq t p ≤ i ∧ i < e ∧ isD (t i) = false) ∨ lm t p < dvl t (dq t p) (e - dq t p) → Q none (pI (pI h 2 0 1) 2 1 (nI p))) (q2 : (∀ i, dq t p ≤ i → i < e → isD (t i) = true) → dvl t (dq t p) (e - dq t p) ≤ lm t p → ∀ h', RNs (adN (nwN N 1 (iv t p e) (nI p)) e0 N.1) h' → RSk (cq ((e0.1, some N.1, e0.2.2) :: stk)) h' → FrR h h' → Q none h') : aEv d 135 [.ref 3, .int (nI p), .int (nI e)] h Q := by
  have h0 : 0 < d := by omega
  have r4 := r.2.2.2.1
  have es : sgn t n p = t p := if_pos (by omega)
  have ht := r.2.2.2.2.2 p
  have z45 : (45 : Int32) = nI 45 := rfl
  have z10 : ¬ (1 : Int32) = 0 := by decide
  have zz : nI 0 = (0 : Int32) := rfl
  -- behind the digits
  have tail : ∀ (x3 : Int32), (ng t p = true ∧ x3 = 1 ∨ ng t p = false ∧ x3 = 0) → (∀ i, dq t p ≤ i → i < e → isD (t i) = true) → ∀ R, (R = [(3, .int x3), (0, .ref 3), (1, .int (nI p)), (2, .int (nI e))] ∨ ∃ y, R = [(7, .int y), (3, .int x3), (0, .ref 3), (1, .int (nI p)), (2, .int (nI e))]) → aWP d 135 91 ((6, .int (nI e)) :: (4, .long (mg (dvl t (dq t p) (e - dq t p)))) :: R) [] h Q := by
    intro x3 hx3 hall R hR
    have lmE : (2147483648 : Int64) = Int64.ofNat 2147483648 := rfl
    have lmE2 : (2147483647 : Int64) = Int64.ofNat 2147483647 := rfl
    generalize hV : dvl t (dq t p) (e - dq t p) = V at *
    rcases hx3 with ⟨hn, rfl⟩ | ⟨hn, rfl⟩
    · have elm : lm t p = 2147483648 := by unfold lm; rw [hn]; rfl
      have eiv : iv t p e = -(nI V) := by unfold iv; rw [hn, hV]; rfl
      rw [elm] at q1 q2
      rw [eiv] at q2
      have hlt := o_lt (a := 2147483648) (b := min V 2147483649) (by omega) (by omega)
      rcases hR with rfl | ⟨y, rfl⟩
      all_goals
        simp only [lv_args, z_v, z_lg, z_h, z_u, z_u1, z_c, z_ct, z_sk, sbne, lst1_d, ldel, lst2_d, ldel2, z_sw, z_rok, zi, eq_self, List.map_cons, List.map_nil, List.append_nil, List.nil_append, List.cons_append, Int32.reduceLT, Int32.reduceLE, Int32.reduceAdd, Int32.reduceSub, Int32.reduceMul, Int32.reduceToInt, Int32.reduceToNatClampNeg, Int.reduceLT, Int.reduceLE, Int.reduceNeg, true_and, and_true, or_self, or_false, false_or, false_and, and_false, true_or, or_true, if_true, if_false, ne_eq, Classical.not_not, not_true_eq_false, not_false_eq_true, true_implies, false_implies, implies_true, Nat.reduceEqDiff, Nat.reduceAdd, Nat.reduceLeDiff, Nat.reduceSub, reduceCtorEq, reduceIte, b135_91, z10]
        simp only [lv_args, z_v, z_lg, z_h, z_u, z_u1, z_c, z_ct, z_sk, sbne, lst1_d, ldel, lst2_d, ldel2, z_sw, z_rok, zi, eq_self, List.map_cons, List.map_nil, List.append_nil, List.nil_append, List.cons_append, Int32.reduceLT, Int32.reduceLE, Int32.reduceAdd, Int32.reduceSub, Int32.reduceMul, Int32.reduceToInt, Int32.reduceToNatClampNeg, Int.reduceLT, Int.reduceLE, Int.reduceNeg, true_and, and_true, or_self, or_false, false_or, false_and, and_false, true_or, or_true, if_true, if_false, ne_eq, Classical.not_not, not_true_eq_false, not_false_eq_true, true_implies, false_implies, implies_true, Nat.reduceEqDiff, Nat.reduceAdd, Nat.reduceLeDiff, Nat.reduceSub, reduceCtorEq, reduceIte, b135_97, b135_106, cmp_n, lmE]
        refine ⟨fun c => ?_, fun c => ?_⟩
        · have hvl : V ≤ 2147483648 := by
            have c' : ¬ 2147483648 < min V 2147483649 := fun k => c (hlt.mpr k)
            omega
          have e1 : (-(mg V)).toInt32 = -(nI V) := by
            unfold mg
            rw [Int64.toInt32_neg, Int64.toInt32_ofNat', Nat.min_eq_left (by omega)]
            rfl
          simp only [lv_args, z_v, z_lg, z_h, z_u, z_u1, z_c, z_ct, z_sk, sbne, lst1_d, ldel, lst2_d, ldel2, z_sw, z_rok, zi, eq_self, List.map_cons, List.map_nil, List.append_nil, List.nil_append, List.cons_append, Int32.reduceLT, Int32.reduceLE, Int32.reduceAdd, Int32.reduceSub, Int32.reduceMul, Int32.reduceToInt, Int32.reduceToNatClampNeg, Int.reduceLT, Int.reduceLE, Int.reduceNeg, true_and, and_true, or_self, or_false, false_or, false_and, and_false, true_or, or_true, if_true, if_false, ne_eq, Classical.not_not, not_true_eq_false, not_false_eq_true, true_implies, false_implies, implies_true, Nat.reduceEqDiff, Nat.reduceAdd, Nat.reduceLeDiff, Nat.reduceSub, reduceCtorEq, reduceIte, b135_120, z10]
          simp only [lv_args, z_v, z_lg, z_h, z_u, z_u1, z_c, z_ct, z_sk, sbne, lst1_d, ldel, lst2_d, ldel2, z_sw, z_rok, zi, eq_self, List.map_cons, List.map_nil, List.append_nil, List.nil_append, List.cons_append, Int32.reduceLT, Int32.reduceLE, Int32.reduceAdd, Int32.reduceSub, Int32.reduceMul, Int32.reduceToInt, Int32.reduceToNatClampNeg, Int.reduceLT, Int.reduceLE, Int.reduceNeg, true_and, and_true, or_self, or_false, false_or, false_and, and_false, true_or, or_true, if_true, if_false, ne_eq, Classical.not_not, not_true_eq_false, not_false_eq_true, true_implies, false_implies, implies_true, Nat.reduceEqDiff, Nat.reduceAdd, Nat.reduceLeDiff, Nat.reduceSub, reduceCtorEq, reduceIte, b135_126, b135_134, skX s, h0, e1]
          refine sp_takeDatum s rm0 rn rs ws rm hl (by omega) (fun h1 rn1 rs1 F1 => ?_)
          have hv1 : hv h1 = hv h := F1.2.2.2.2.2.1
          simp only [lv_args, z_v, z_lg, z_h, z_u, z_u1, z_c, z_ct, z_sk, sbne, lst1_d, ldel, lst2_d, ldel2, z_sw, z_rok, zi, eq_self, List.map_cons, List.map_nil, List.append_nil, List.nil_append, List.cons_append, Int32.reduceLT, Int32.reduceLE, Int32.reduceAdd, Int32.reduceSub, Int32.reduceMul, Int32.reduceToInt, Int32.reduceToNatClampNeg, Int.reduceLT, Int.reduceLE, Int.reduceNeg, true_and, and_true, or_self, or_false, false_or, false_and, and_false, true_or, or_true, if_true, if_false, ne_eq, Classical.not_not, not_true_eq_false, not_false_eq_true, true_implies, false_implies, implies_true, Nat.reduceEqDiff, Nat.reduceAdd, Nat.reduceLeDiff, Nat.reduceSub, reduceCtorEq, reduceIte, b135_134, skX s, hv1, Nat.reduceLT]
          exact q2 hall hvl h1 rn1 rs1 F1
        · have hvl : 2147483648 < V := by
            have c' : 2147483648 < min V 2147483649 := hlt.mp c
            omega
          have fin := q1 (Or.inr hvl)
          simp only [lv_args, z_v, z_lg, z_h, z_u, z_u1, z_c, z_ct, z_sk, sbne, lst1_d, ldel, lst2_d, ldel2, z_sw, z_rok, zi, eq_self, List.map_cons, List.map_nil, List.append_nil, List.nil_append, List.cons_append, Int32.reduceLT, Int32.reduceLE, Int32.reduceAdd, Int32.reduceSub, Int32.reduceMul, Int32.reduceToInt, Int32.reduceToNatClampNeg, Int.reduceLT, Int.reduceLE, Int.reduceNeg, true_and, and_true, or_self, or_false, false_or, false_and, and_false, true_or, or_true, if_true, if_false, ne_eq, Classical.not_not, not_true_eq_false, not_false_eq_true, true_implies, false_implies, implies_true, Nat.reduceEqDiff, Nat.reduceAdd, Nat.reduceLeDiff, Nat.reduceSub, reduceCtorEq, reduceIte, b135_110, skX s, srX s, h0, e33_2 _ _ s, h20, Nat.reduceLT]
          exact fin
    · have elm : lm t p = 2147483647 := by unfold lm; rw [hn]; rfl
      have eiv : iv t p e = nI V := by unfold iv; rw [hn, hV]; rfl
      rw [elm] at q1 q2
      rw [eiv] at q2
      have hlt := o_lt (a := 2147483647) (b := min V 2147483649) (by omega) (by omega)
      rcases hR with rfl | ⟨y, rfl⟩
      all_goals
        simp only [lv_args, z_v, z_lg, z_h, z_u, z_u1, z_c, z_ct, z_sk, sbne, lst1_d, ldel, lst2_d, ldel2, z_sw, z_rok, zi, eq_self, List.map_cons, List.map_nil, List.append_nil, List.nil_append, List.cons_append, Int32.reduceLT, Int32.reduceLE, Int32.reduceAdd, Int32.reduceSub, Int32.reduceMul, Int32.reduceToInt, Int32.reduceToNatClampNeg, Int.reduceLT, Int.reduceLE, Int.reduceNeg, true_and, and_true, or_self, or_false, false_or, false_and, and_false, true_or, or_true, if_true, if_false, ne_eq, Classical.not_not, not_true_eq_false, not_false_eq_true, true_implies, false_implies, implies_true, Nat.reduceEqDiff, Nat.reduceAdd, Nat.reduceLeDiff, Nat.reduceSub, reduceCtorEq, reduceIte, b135_91]
        simp only [lv_args, z_v, z_lg, z_h, z_u, z_u1, z_c, z_ct, z_sk, sbne, lst1_d, ldel, lst2_d, ldel2, z_sw, z_rok, zi, eq_self, List.map_cons, List.map_nil, List.append_nil, List.nil_append, List.cons_append, Int32.reduceLT, Int32.reduceLE, Int32.reduceAdd, Int32.reduceSub, Int32.reduceMul, Int32.reduceToInt, Int32.reduceToNatClampNeg, Int.reduceLT, Int.reduceLE, Int.reduceNeg, true_and, and_true, or_self, or_false, false_or, false_and, and_false, true_or, or_true, if_true, if_false, ne_eq, Classical.not_not, not_true_eq_false, not_false_eq_true, true_implies, false_implies, implies_true, Nat.reduceEqDiff, Nat.reduceAdd, Nat.reduceLeDiff, Nat.reduceSub, reduceCtorEq, reduceIte, b135_103, b135_106, cmp_n, lmE2]
        refine ⟨fun c => ?_, fun c => ?_⟩
        · have hvl : V ≤ 2147483647 := by
            have c' : ¬ 2147483647 < min V 2147483649 := fun k => c (hlt.mpr k)
            omega
          have e1 : (mg V).toInt32 = nI V := by
            unfold mg
            rw [Int64.toInt32_ofNat', Nat.min_eq_left (by omega)]
            rfl
          simp only [lv_args, z_v, z_lg, z_h, z_u, z_u1, z_c, z_ct, z_sk, sbne, lst1_d, ldel, lst2_d, ldel2, z_sw, z_rok, zi, eq_self, List.map_cons, List.map_nil, List.append_nil, List.nil_append, List.cons_append, Int32.reduceLT, Int32.reduceLE, Int32.reduceAdd, Int32.reduceSub, Int32.reduceMul, Int32.reduceToInt, Int32.reduceToNatClampNeg, Int.reduceLT, Int.reduceLE, Int.reduceNeg, true_and, and_true, or_self, or_false, false_or, false_and, and_false, true_or, or_true, if_true, if_false, ne_eq, Classical.not_not, not_true_eq_false, not_false_eq_true, true_implies, false_implies, implies_true, Nat.reduceEqDiff, Nat.reduceAdd, Nat.reduceLeDiff, Nat.reduceSub, reduceCtorEq, reduceIte, b135_120]
          simp only [lv_args, z_v, z_lg, z_h, z_u, z_u1, z_c, z_ct, z_sk, sbne, lst1_d, ldel, lst2_d, ldel2, z_sw, z_rok, zi, eq_self, List.map_cons, List.map_nil, List.append_nil, List.nil_append, List.cons_append, Int32.reduceLT, Int32.reduceLE, Int32.reduceAdd, Int32.reduceSub, Int32.reduceMul, Int32.reduceToInt, Int32.reduceToNatClampNeg, Int.reduceLT, Int.reduceLE, Int.reduceNeg, true_and, and_true, or_self, or_false, false_or, false_and, and_false, true_or, or_true, if_true, if_false, ne_eq, Classical.not_not, not_true_eq_false, not_false_eq_true, true_implies, false_implies, implies_true, Nat.reduceEqDiff, Nat.reduceAdd, Nat.reduceLeDiff, Nat.reduceSub, reduceCtorEq, reduceIte, b135_132, b135_134, skX s, h0, e1]
          refine sp_takeDatum s rm0 rn rs ws rm hl (by omega) (fun h1 rn1 rs1 F1 => ?_)
          have hv1 : hv h1 = hv h := F1.2.2.2.2.2.1
          simp only [lv_args, z_v, z_lg, z_h, z_u, z_u1, z_c, z_ct, z_sk, sbne, lst1_d, ldel, lst2_d, ldel2, z_sw, z_rok, zi, eq_self, List.map_cons, List.map_nil, List.append_nil, List.nil_append, List.cons_append, Int32.reduceLT, Int32.reduceLE, Int32.reduceAdd, Int32.reduceSub, Int32.reduceMul, Int32.reduceToInt, Int32.reduceToNatClampNeg, Int.reduceLT, Int.reduceLE, Int.reduceNeg, true_and, and_true, or_self, or_false, false_or, false_and, and_false, true_or, or_true, if_true, if_false, ne_eq, Classical.not_not, not_true_eq_false, not_false_eq_true, true_implies, false_implies, implies_true, Nat.reduceEqDiff, Nat.reduceAdd, Nat.reduceLeDiff, Nat.reduceSub, reduceCtorEq, reduceIte, b135_134, skX s, hv1, Nat.reduceLT]
          exact q2 hall hvl h1 rn1 rs1 F1
        · have hvl : 2147483647 < V := by
            have c' : 2147483647 < min V 2147483649 := hlt.mp c
            omega
          have fin := q1 (Or.inr hvl)
          simp only [lv_args, z_v, z_lg, z_h, z_u, z_u1, z_c, z_ct, z_sk, sbne, lst1_d, ldel, lst2_d, ldel2, z_sw, z_rok, zi, eq_self, List.map_cons, List.map_nil, List.append_nil, List.nil_append, List.cons_append, Int32.reduceLT, Int32.reduceLE, Int32.reduceAdd, Int32.reduceSub, Int32.reduceMul, Int32.reduceToInt, Int32.reduceToNatClampNeg, Int.reduceLT, Int.reduceLE, Int.reduceNeg, true_and, and_true, or_self, or_false, false_or, false_and, and_false, true_or, or_true, if_true, if_false, ne_eq, Classical.not_not, not_true_eq_false, not_false_eq_true, true_implies, false_implies, implies_true, Nat.reduceEqDiff, Nat.reduceAdd, Nat.reduceLeDiff, Nat.reduceSub, reduceCtorEq, reduceIte, b135_110, skX s, srX s, h0, e33_2 _ _ s, h20, Nat.reduceLT]
          exact fin
  unfold aEv
  simp only [lv_args, z_v, z_lg, z_h, z_u, z_u1, z_c, z_ct, z_sk, sbne, lst1_d, ldel, lst2_d, ldel2, z_sw, z_rok, zi, eq_self, List.map_cons, List.map_nil, List.append_nil, List.nil_append, List.cons_append, Int32.reduceLT, Int32.reduceLE, Int32.reduceAdd, Int32.reduceSub, Int32.reduceMul, Int32.reduceToInt, Int32.reduceToNatClampNeg, Int.reduceLT, Int.reduceLE, Int.reduceNeg, true_and, and_true, or_self, or_false, false_or, false_and, and_false, true_or, or_true, if_true, if_false, ne_eq, Classical.not_not, not_true_eq_false, not_false_eq_true, true_implies, false_implies, implies_true, Nat.reduceEqDiff, Nat.reduceAdd, Nat.reduceLeDiff, Nat.reduceSub, reduceCtorEq, reduceIte, b135_0, skX s, h0]
  refine sp_signAt s r (by omega) ?_
  rw [es]
  simp only [lv_args, z_v, z_lg, z_h, z_u, z_u1, z_c, z_ct, z_sk, sbne, lst1_d, ldel, lst2_d, ldel2, z_sw, z_rok, zi, eq_self, List.map_cons, List.map_nil, List.append_nil, List.nil_append, List.cons_append, Int32.reduceLT, Int32.reduceLE, Int32.reduceAdd, Int32.reduceSub, Int32.reduceMul, Int32.reduceToInt, Int32.reduceToNatClampNeg, Int.reduceLT, Int.reduceLE, Int.reduceNeg, true_and, and_true, or_self, or_false, false_or, false_and, and_false, true_or, or_true, if_true, if_false, ne_eq, Classical.not_not, not_true_eq_false, not_false_eq_true, true_implies, false_implies, implies_true, Nat.reduceEqDiff, Nat.reduceAdd, Nat.reduceLeDiff, Nat.reduceSub, reduceCtorEq, reduceIte, b135_0, skX s, Nat.reduceLT, z45]
  simp (disch := omega) only [nI_eqN]
  refine ⟨fun c => ?_, fun c => ?_⟩
  · have hn : ng t p = false := by unfold ng; simpa using c
    have eq0 : dq t p = p := by unfold dq; rw [hn]; rfl
    have lp := ti_loop (p := p) (q := dq t p) (e := e) (x3 := 0) (Q := Q) (d := d) s r (by omega) hen (by omega) h20 (fun w => q1 (Or.inl w)) (fun hall => tail 0 (Or.inr ⟨hn, rfl⟩) hall) (e - dq t p) (dq t p) [(3, .int 0), (0, .ref 3), (1, .int (nI p)), (2, .int (nI e))] (by omega) (Nat.le_refl _) (fun j h1 h2 => absurd h2 (by omega)) (Or.inl rfl)
    rw [Nat.sub_self, eq0] at lp
    simp only [lv_args, z_v, z_lg, z_h, z_u, z_u1, z_c, z_ct, z_sk, sbne, lst1_d, ldel, lst2_d, ldel2, z_sw, z_rok, zi, eq_self, List.map_cons, List.map_nil, List.append_nil, List.nil_append, List.cons_append, Int32.reduceLT, Int32.reduceLE, Int32.reduceAdd, Int32.reduceSub, Int32.reduceMul, Int32.reduceToInt, Int32.reduceToNatClampNeg, Int.reduceLT, Int.reduceLE, Int.reduceNeg, true_and, and_true, or_self, or_false, false_or, false_and, and_false, true_or, or_true, if_true, if_false, ne_eq, Classical.not_not, not_true_eq_false, not_false_eq_true, true_implies, false_implies, implies_true, Nat.reduceEqDiff, Nat.reduceAdd, Nat.reduceLeDiff, Nat.reduceSub, reduceCtorEq, reduceIte, b135_14, b135_15]
    simp only [lv_args, z_v, z_lg, z_h, z_u, z_u1, z_c, z_ct, z_sk, sbne, lst1_d, ldel, lst2_d, ldel2, z_sw, z_rok, zi, eq_self, List.map_cons, List.map_nil, List.append_nil, List.nil_append, List.cons_append, Int32.reduceLT, Int32.reduceLE, Int32.reduceAdd, Int32.reduceSub, Int32.reduceMul, Int32.reduceToInt, Int32.reduceToNatClampNeg, Int.reduceLT, Int.reduceLE, Int.reduceNeg, true_and, and_true, or_self, or_false, false_or, false_and, and_false, true_or, or_true, if_true, if_false, ne_eq, Classical.not_not, not_true_eq_false, not_false_eq_true, true_implies, false_implies, implies_true, Nat.reduceEqDiff, Nat.reduceAdd, Nat.reduceLeDiff, Nat.reduceSub, reduceCtorEq, reduceIte, b135_29, b135_30]
    exact lp
  · have hn : ng t p = true := by unfold ng; simpa using c
    have eq0 : dq t p = p + 1 := by unfold dq; rw [hn]; rfl
    have lp := ti_loop (p := p) (q := dq t p) (e := e) (x3 := 1) (Q := Q) (d := d) s r (by omega) hen (by omega) h20 (fun w => q1 (Or.inl w)) (fun hall => tail 1 (Or.inl ⟨hn, rfl⟩) hall) (e - dq t p) (dq t p) [(3, .int 1), (0, .ref 3), (1, .int (nI p)), (2, .int (nI e))] (by omega) (Nat.le_refl _) (fun j h1 h2 => absurd h2 (by omega)) (Or.inl rfl)
    rw [Nat.sub_self, eq0] at lp
    simp only [lv_args, z_v, z_lg, z_h, z_u, z_u1, z_c, z_ct, z_sk, sbne, lst1_d, ldel, lst2_d, ldel2, z_sw, z_rok, zi, eq_self, List.map_cons, List.map_nil, List.append_nil, List.nil_append, List.cons_append, Int32.reduceLT, Int32.reduceLE, Int32.reduceAdd, Int32.reduceSub, Int32.reduceMul, Int32.reduceToInt, Int32.reduceToNatClampNeg, Int.reduceLT, Int.reduceLE, Int.reduceNeg, true_and, and_true, or_self, or_false, false_or, false_and, and_false, true_or, or_true, if_true, if_false, ne_eq, Classical.not_not, not_true_eq_false, not_false_eq_true, true_implies, false_implies, implies_true, Nat.reduceEqDiff, Nat.reduceAdd, Nat.reduceLeDiff, Nat.reduceSub, reduceCtorEq, reduceIte, b135_10, b135_15, z10]
    simp only [lv_args, z_v, z_lg, z_h, z_u, z_u1, z_c, z_ct, z_sk, sbne, lst1_d, ldel, lst2_d, ldel2, z_sw, z_rok, zi, eq_self, List.map_cons, List.map_nil, List.append_nil, List.nil_append, List.cons_append, Int32.reduceLT, Int32.reduceLE, Int32.reduceAdd, Int32.reduceSub, Int32.reduceMul, Int32.reduceToInt, Int32.reduceToNatClampNeg, Int.reduceLT, Int.reduceLE, Int.reduceNeg, true_and, and_true, or_self, or_false, false_or, false_and, and_false, true_or, or_true, if_true, if_false, ne_eq, Classical.not_not, not_true_eq_false, not_false_eq_true, true_implies, false_implies, implies_true, Nat.reduceEqDiff, Nat.reduceAdd, Nat.reduceLeDiff, Nat.reduceSub, reduceCtorEq, reduceIte, b135_23, b135_30, nI_1]
    exact lp
end RIN
