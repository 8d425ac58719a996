/-! feed -/
/-- a byte of a number -/
def tpB (v : Int32) (s : Int32) : Int32 := ((v >>> (s &&& 31)).toInt8.toInt32).toInt8.toInt32
theorem lgv_oi {L : ALS} {i j : Nat} {v : Value} {a : Int32} (h2 : lgv L j = .int a) (h1 : (j = i) = False) : lgv (lst1 L i v) j = .int a := by
  rw [lgv_o1 h1 (by rw [h2]; rfl)]; exact h2
theorem lgv_or {L : ALS} {i j : Nat} {v : Value} {a : Nat} (h2 : lgv L j = .ref a) (h1 : (j = i) = False) : lgv (lst1 L i v) j = .ref a := by
  rw [lgv_o1 h1 (by rw [h2]; rfl)]; exact h2
/-- a byte comes onto the tape k of the object o -/
def tp1 (k o : Nat) (h : Hp) (t : Nat) (b : Int32) : Hp := pI (pA h k (upd (hA h k) t b)) o 1 (nI (t + 1))
def tpL (k o : Nat) : List Int32 → Nat → Hp → Hp
  | [], _, h => h
  | b :: bs, t, h => tpL k o bs (t + 1) (tp1 k o h t b)
theorem tpL_app (k o : Nat) : ∀ (a b : List Int32) (t : Nat) (h : Hp), tpL k o (a ++ b) t h = tpL k o b (t + a.length) (tpL k o a t h)
  | [], _, _, _ => rfl
  | x :: a, b, t, h => by
    show tpL k o (a ++ b) (t + 1) _ = tpL k o b (t + (a.length + 1)) _
    rw [tpL_app k o a b (t + 1), Nat.add_assoc, Nat.add_comm 1]; rfl
theorem tp1_s {k o t : Nat} {h : Hp} {b : Int32} : Sk (tp1 k o h t b) = Sk h := sk_same rfl rfl rfl
theorem tpL_s (k o : Nat) : ∀ (bs : List Int32) (t : Nat) (h : Hp), Sk (tpL k o bs t h) = Sk h
  | [], _, _ => rfl
  | b :: bs, t, h => (tpL_s k o bs (t + 1) _).trans tp1_s
theorem tp1_i {k o t : Nat} {h : Hp} {b : Int32} : hI (tp1 k o h t b) o 1 = nI (t + 1) := if_pos ⟨rfl, rfl⟩
theorem tpL_i (k o : Nat) : ∀ (bs : List Int32) (t : Nat) (h : Hp), hI h o 1 = nI t → hI (tpL k o bs t h) o 1 = nI (t + bs.length)
  | [], _, _, e => e
  | b :: bs, t, h, _ => by
    show hI (tpL k o bs (t + 1) _) o 1 = nI (t + (bs.length + 1))
    rw [tpL_i k o bs (t + 1) _ tp1_i, Nat.add_assoc, Nat.add_comm 1]
/-- what stays -/
def TEq (k o : Nat) (h g : Hp) : Prop := hK g = hK h ∧ hL g = hL h ∧ hR g = hR h ∧ hB g = hB h ∧ hN g = hN h ∧ hn g = hn h ∧ hu g = hu h ∧ (∀ a b, ¬ (a = o ∧ b = 1) → hI g a b = hI h a b) ∧ (∀ a, a ≠ k → hA g a = hA h a)
theorem tpL_q (k o : Nat) : ∀ (bs : List Int32) (t : Nat) (h : Hp), TEq k o h (tpL k o bs t h)
  | [], _, _ => ⟨rfl, rfl, rfl, rfl, rfl, rfl, rfl, fun _ _ _ => rfl, fun _ _ => rfl⟩
  | b :: bs, t, h => by
    obtain ⟨a1, a2, a3, a4, a5, a6, a7, a8, a9⟩ := tpL_q k o bs (t + 1) (tp1 k o h t b)
    refine ⟨a1, a2, a3, a4, a5, a6, a7, fun x y c => (a8 x y c).trans (if_neg c), fun x c => (a9 x c).trans ?_⟩
    show va_up (hA h) k _ x = hA h x
    unfold va_up
    rw [if_neg c]
theorem tpL_a (k o : Nat) : ∀ (bs : List Int32) (t : Nat) (h : Hp) (j : Nat), hA (tpL k o bs t h) k j = if t ≤ j ∧ j < t + bs.length then bs.getD (j - t) 0 else hA h k j
  | [], t, h, j => by
    rw [if_neg (by simp only [List.length_nil]; omega)]; rfl
  | b :: bs, t, h, j => by
    show hA (tpL k o bs (t + 1) _) k j = _
    rw [tpL_a k o bs (t + 1)]
    have e : hA (tp1 k o h t b) k j = if j = t then b else hA h k j := by
      show va_up (hA h) k (upd (hA h k) t b) k j = _
      unfold va_up
      rw [if_pos rfl]; rfl
    rw [e]
    simp only [List.length_cons]
    by_cases c : j = t
    · subst c
      rw [if_neg (by omega), if_pos rfl, if_pos (by omega), Nat.sub_self]; rfl
    · rw [if_neg c]
      by_cases c2 : t + 1 ≤ j ∧ j < t + 1 + bs.length
      · rw [if_pos c2, if_pos (by omega), show j - t = (j - (t + 1)) + 1 by omega]; rfl
      · rw [if_neg c2, if_neg (by omega)]
def by4 (a : Int32) : List Int32 := [tpB a 24, tpB a 16, tpB a 8, tpB a 0]
section FEED
variable {d : Nat} {h : Hp} {t : Nat} {a : Int32} {Q : Option Value → Hp → Prop}
theorem ptB (s : Sk h) (ht : hI h 0 1 = nI t) (hl : t < 3000) (hN1 : hN h 1 = 3000) {sh : Int32} (hsh : ¬ sh < 0) {L : ALS} (l0 : lgv L 0 = .ref 0) (l1 : lgv L 1 = .int a) (l2 : lgv L 2 = .int sh)
    (hq : ∀ L', lgv L' 0 = .ref 0 → lgv L' 1 = .int a → lgv L' 2 = .int (sh + -8) → aWP d 173 3 L' [] (tp1 1 0 h t (tpB a sh)) Q) : aWP d 173 3 L [] h Q := by
  have e1 : (nI t).toInt = (t : Int) := nI_toInt (by omega)
  have e2 : (nI t).toNatClampNeg = t := nI_clamp (by omega)
  simp only [b173_3, z_v, l0, l1, l2, true_and]
  refine ⟨fun e => absurd e hsh, fun _ => ?_⟩
  simp only [b173_7, z_v, l0, l1, l2, z_h, skX s, srX s, ht, hN1, true_and, Nat.reduceLeDiff, and_self]
  refine ⟨fun e => absurd ((nI_leI (by omega) (by omega)).mp e) (by omega), fun _ => ?_⟩
  simp only [b173_19, z_v, l0, l1, l2, z_h, skX s, srX s, ht, hN1, e1, e2, true_and, and_true, true_or, Nat.reduceEqDiff, if_true, nI_1]
  refine ⟨⟨by omega, by omega⟩, ?_⟩
  simp only [b173_42, z_v, l2, true_and]
  exact hq _ (lgv_or l0 (by decide)) (lgv_oi l1 (by decide)) lgv_st
theorem sp_put (s : Sk h) (ht : hI h 0 1 = nI t) (hl : t + 4 ≤ 3000) (hN1 : hN h 1 = 3000) (hq : Q none (tpL 1 0 (by4 a) t h)) : aEv d 173 [.ref 0, .int a] h Q := by
  unfold aEv
  simp only [lv_args, z_v]
  simp only [b173_0, z_v, true_and]
  refine ptB s ht (by omega) hN1 (by decide) (lgv_or rfl (by decide)) (lgv_oi rfl (by decide)) lgv_st fun L1 p0 p1 p2 => ?_
  refine ptB (t := t + 1) (by simp only [tp1_s]; exact s) tp1_i (by omega) (by exact hN1) (by decide) p0 p1 p2 fun L2 p0 p1 p2 => ?_
  refine ptB (t := t + 2) (by simp only [tp1_s]; exact s) tp1_i (by omega) (by exact hN1) (by decide) p0 p1 p2 fun L2 p0 p1 p2 => ?_
  refine ptB (t := t + 3) (by simp only [tp1_s]; exact s) tp1_i (by omega) (by exact hN1) (by decide) p0 p1 p2 fun L2 p0 p1 p2 => ?_
  simp only [b173_3, z_v, p2, true_and]
  refine ⟨fun _ => ?_, fun c => absurd (by decide) c⟩
  simp only [b173_48]
  exact hq
theorem frB (s : Sk h) (ht : hI h 59 1 = nI t) (hl : t < 3000) (hN1 : hN h 60 = 3000) {sh : Int32} (hsh : ¬ sh < 0) {L : ALS} (l0 : lgv L 0 = .ref 59) (l1 : lgv L 1 = .int a) (l2 : lgv L 2 = .int sh)
    (hq : ∀ L', lgv L' 0 = .ref 59 → lgv L' 1 = .int a → lgv L' 2 = .int (sh + -8) → aWP d 208 3 L' [] (tp1 60 59 h t (tpB a sh)) Q) : aWP d 208 3 L [] h Q := by
  have e1 : (nI t).toInt = (t : Int) := nI_toInt (by omega)
  have e2 : (nI t).toNatClampNeg = t := nI_clamp (by omega)
  simp only [b208_3, z_v, l0, l1, l2, true_and]
  refine ⟨fun e => absurd e hsh, fun _ => ?_⟩
  simp only [b208_7, z_v, l0, l1, l2, z_h, skM s, srM s, ht, hN1, e1, e2, true_and, and_true, true_or, Nat.reduceEqDiff, if_true, nI_1]
  refine ⟨⟨by omega, by omega⟩, ?_⟩
  exact hq _ (lgv_or l0 (by decide)) (lgv_oi l1 (by decide)) lgv_st
theorem sp_four (s : Sk h) (ht : hI h 59 1 = nI t) (hl : t + 4 ≤ 3000) (hN1 : hN h 60 = 3000) (hq : Q none (tpL 60 59 (by4 a) t h)) : aEv d 208 [.ref 59, .int a] h Q := by
  unfold aEv
  simp only [lv_args, z_v]
  simp only [b208_0, z_v, true_and]
  refine frB s ht (by omega) hN1 (by decide) (lgv_or rfl (by decide)) (lgv_oi rfl (by decide)) lgv_st fun L1 p0 p1 p2 => ?_
  refine frB (t := t + 1) (by simp only [tp1_s]; exact s) tp1_i (by omega) (by exact hN1) (by decide) p0 p1 p2 fun L2 p0 p1 p2 => ?_
  refine frB (t := t + 2) (by simp only [tp1_s]; exact s) tp1_i (by omega) (by exact hN1) (by decide) p0 p1 p2 fun L2 p0 p1 p2 => ?_
  refine frB (t := t + 3) (by simp only [tp1_s]; exact s) tp1_i (by omega) (by exact hN1) (by decide) p0 p1 p2 fun L2 p0 p1 p2 => ?_
  simp only [b208_3, z_v, p2, true_and]
  refine ⟨fun _ => ?_, fun c => absurd (by decide) c⟩
  simp only [b208_36]
  exact hq
end FEED
section FEED2
variable {d : Nat} {h : Hp} {t : Nat} {Q : Option Value → Hp → Prop}
theorem as_5 {As : List Value} (hl : As.length = 5) (hv : ∀ v ∈ As, ∃ z, v = .int z) : ∃ a b c d e, As = [.int a, .int b, .int c, .int d, .int e] := by
  match As, hl with
  | [v1, v2, v3, v4, v5], _ =>
    obtain ⟨z1, h1⟩ := hv v1 (by simp)
    obtain ⟨z2, h2⟩ := hv v2 (by simp)
    obtain ⟨z3, h3⟩ := hv v3 (by simp)
    obtain ⟨z4, h4⟩ := hv v4 (by simp)
    obtain ⟨z5, h5⟩ := hv v5 (by simp)
    exact ⟨z1, z2, z3, z4, z5, by rw [h1, h2, h3, h4, h5]⟩
def by20 (a b c d e : Int32) : List Int32 := by4 a ++ (by4 b ++ (by4 c ++ (by4 d ++ by4 e)))
theorem tp4_i {k o : Nat} (ht : hI h o 1 = nI t) {a : Int32} : hI (tpL k o (by4 a) t h) o 1 = nI (t + 4) := tpL_i k o (by4 a) t h ht
theorem tpL_K {k o : Nat} {bs : List Int32} : hK (tpL k o bs t h) = hK h := (tpL_q k o bs t h).1
theorem tpL_N {k o : Nat} {bs : List Int32} : hN (tpL k o bs t h) = hN h := (tpL_q k o bs t h).2.2.2.2.1
theorem tp_20 {k o : Nat} {a b c e f : Int32} : tpL k o (by4 f) (t + 4 + 4 + 4 + 4) (tpL k o (by4 e) (t + 4 + 4 + 4) (tpL k o (by4 c) (t + 4 + 4) (tpL k o (by4 b) (t + 4) (tpL k o (by4 a) t h)))) = tpL k o (by20 a b c e f) t h := by
  unfold by20
  simp only [tpL_app]
  rfl
theorem sp_feedX (s : Sk h) (ht : hI h 0 1 = nI t) (hl : t ≤ 3000) (hN1 : hN h 1 = 3000) {a b c e f : Int32} (q1 : 2980 < t → Q (some (.int (-1))) h) (q2 : t + 20 ≤ 3000 → Q (some (.int (nI (t + 20)))) (tpL 1 0 (by20 a b c e f) t h)) : aEv 1399 165 [.ref 0, .int a, .int b, .int c, .int e, .int f] h Q := by
  unfold aEv
  simp only [lv_args, z_v, z_lg, z_h, z_u, z_u1, z_c, z_ct, z_sk, sbne, lst1_d, ldel, lst2_d, ldel2, z_sw, z_rok, zi, eq_self, List.map_cons, List.map_nil, List.append_nil, List.nil_append, List.cons_append, Int32.reduceLT, Int32.reduceLE, Int32.reduceAdd, Int32.reduceSub, Int32.reduceMul, Int32.reduceToInt, Int32.reduceToNatClampNeg, Int.reduceLT, Int.reduceLE, Int.reduceNeg, true_and, and_true, or_self, or_false, false_or, false_and, and_false, true_or, or_true, if_true, if_false, ne_eq, Classical.not_not, not_true_eq_false, not_false_eq_true, true_implies, false_implies, implies_true, Nat.reduceEqDiff, Nat.reduceAdd, Nat.reduceLeDiff, Nat.reduceSub, reduceCtorEq, reduceIte, b165_0, b165_13, skX s, ht]
  rw [show (20 : Int32) = nI 20 from rfl, show (3000 : Int32) = nI 3000 from rfl, nI_add, nI_leI (by omega) (by omega)]
  refine ⟨fun q => ?_, fun q => q1 (by omega)⟩
  simp only [lv_args, z_v, z_lg, z_h, z_u, z_u1, z_c, z_ct, z_sk, sbne, lst1_d, ldel, lst2_d, ldel2, z_sw, z_rok, zi, eq_self, List.map_cons, List.map_nil, List.append_nil, List.nil_append, List.cons_append, Int32.reduceLT, Int32.reduceLE, Int32.reduceAdd, Int32.reduceSub, Int32.reduceMul, Int32.reduceToInt, Int32.reduceToNatClampNeg, Int.reduceLT, Int.reduceLE, Int.reduceNeg, true_and, and_true, or_self, or_false, false_or, false_and, and_false, true_or, or_true, if_true, if_false, ne_eq, Classical.not_not, not_true_eq_false, not_false_eq_true, true_implies, false_implies, implies_true, Nat.reduceEqDiff, Nat.reduceAdd, Nat.reduceLeDiff, Nat.reduceSub, reduceCtorEq, reduceIte, Nat.reduceLT, b165_15, skX s]
  refine sp_put s ht (by omega) hN1 ?_
  simp only [lv_args, z_v, z_lg, z_h, z_u, z_u1, z_c, z_ct, z_sk, sbne, lst1_d, ldel, lst2_d, ldel2, z_sw, z_rok, zi, eq_self, List.map_cons, List.map_nil, List.append_nil, List.nil_append, List.cons_append, Int32.reduceLT, Int32.reduceLE, Int32.reduceAdd, Int32.reduceSub, Int32.reduceMul, Int32.reduceToInt, Int32.reduceToNatClampNeg, Int.reduceLT, Int.reduceLE, Int.reduceNeg, true_and, and_true, or_self, or_false, false_or, false_and, and_false, true_or, or_true, if_true, if_false, ne_eq, Classical.not_not, not_true_eq_false, not_false_eq_true, true_implies, false_implies, implies_true, Nat.reduceEqDiff, Nat.reduceAdd, Nat.reduceLeDiff, Nat.reduceSub, reduceCtorEq, reduceIte, Nat.reduceLT, tpL_K, skX s, b165_15]
  refine sp_put (t := t + 4) (by rw [tpL_s]; exact s) (tp4_i ht) (by omega) (by rw [tpL_N]; exact hN1) ?_
  simp only [lv_args, z_v, z_lg, z_h, z_u, z_u1, z_c, z_ct, z_sk, sbne, lst1_d, ldel, lst2_d, ldel2, z_sw, z_rok, zi, eq_self, List.map_cons, List.map_nil, List.append_nil, List.nil_append, List.cons_append, Int32.reduceLT, Int32.reduceLE, Int32.reduceAdd, Int32.reduceSub, Int32.reduceMul, Int32.reduceToInt, Int32.reduceToNatClampNeg, Int.reduceLT, Int.reduceLE, Int.reduceNeg, true_and, and_true, or_self, or_false, false_or, false_and, and_false, true_or, or_true, if_true, if_false, ne_eq, Classical.not_not, not_true_eq_false, not_false_eq_true, true_implies, false_implies, implies_true, Nat.reduceEqDiff, Nat.reduceAdd, Nat.reduceLeDiff, Nat.reduceSub, reduceCtorEq, reduceIte, Nat.reduceLT, tpL_K, skX s, b165_15]
  refine sp_put (by rw [tpL_s, tpL_s]; exact s) (tp4_i (tp4_i ht)) (by omega) (by rw [tpL_N, tpL_N]; exact hN1) ?_
  simp only [lv_args, z_v, z_lg, z_h, z_u, z_u1, z_c, z_ct, z_sk, sbne, lst1_d, ldel, lst2_d, ldel2, z_sw, z_rok, zi, eq_self, List.map_cons, List.map_nil, List.append_nil, List.nil_append, List.cons_append, Int32.reduceLT, Int32.reduceLE, Int32.reduceAdd, Int32.reduceSub, Int32.reduceMul, Int32.reduceToInt, Int32.reduceToNatClampNeg, Int.reduceLT, Int.reduceLE, Int.reduceNeg, true_and, and_true, or_self, or_false, false_or, false_and, and_false, true_or, or_true, if_true, if_false, ne_eq, Classical.not_not, not_true_eq_false, not_false_eq_true, true_implies, false_implies, implies_true, Nat.reduceEqDiff, Nat.reduceAdd, Nat.reduceLeDiff, Nat.reduceSub, reduceCtorEq, reduceIte, Nat.reduceLT, tpL_K, skX s, b165_15]
  refine sp_put (by rw [tpL_s, tpL_s, tpL_s]; exact s) (tp4_i (tp4_i (tp4_i ht))) (by omega) (by rw [tpL_N, tpL_N, tpL_N]; exact hN1) ?_
  simp only [lv_args, z_v, z_lg, z_h, z_u, z_u1, z_c, z_ct, z_sk, sbne, lst1_d, ldel, lst2_d, ldel2, z_sw, z_rok, zi, eq_self, List.map_cons, List.map_nil, List.append_nil, List.nil_append, List.cons_append, Int32.reduceLT, Int32.reduceLE, Int32.reduceAdd, Int32.reduceSub, Int32.reduceMul, Int32.reduceToInt, Int32.reduceToNatClampNeg, Int.reduceLT, Int.reduceLE, Int.reduceNeg, true_and, and_true, or_self, or_false, false_or, false_and, and_false, true_or, or_true, if_true, if_false, ne_eq, Classical.not_not, not_true_eq_false, not_false_eq_true, true_implies, false_implies, implies_true, Nat.reduceEqDiff, Nat.reduceAdd, Nat.reduceLeDiff, Nat.reduceSub, reduceCtorEq, reduceIte, Nat.reduceLT, tpL_K, skX s, b165_15]
  refine sp_put (by rw [tpL_s, tpL_s, tpL_s, tpL_s]; exact s) (tp4_i (tp4_i (tp4_i (tp4_i ht)))) (by omega) (by rw [tpL_N, tpL_N, tpL_N, tpL_N]; exact hN1) ?_
  simp only [lv_args, z_v, z_lg, z_h, z_u, z_u1, z_c, z_ct, z_sk, sbne, lst1_d, ldel, lst2_d, ldel2, z_sw, z_rok, zi, eq_self, List.map_cons, List.map_nil, List.append_nil, List.nil_append, List.cons_append, Int32.reduceLT, Int32.reduceLE, Int32.reduceAdd, Int32.reduceSub, Int32.reduceMul, Int32.reduceToInt, Int32.reduceToNatClampNeg, Int.reduceLT, Int.reduceLE, Int.reduceNeg, true_and, and_true, or_self, or_false, false_or, false_and, and_false, true_or, or_true, if_true, if_false, ne_eq, Classical.not_not, not_true_eq_false, not_false_eq_true, true_implies, false_implies, implies_true, Nat.reduceEqDiff, Nat.reduceAdd, Nat.reduceLeDiff, Nat.reduceSub, reduceCtorEq, reduceIte, Nat.reduceLT, tpL_K, skX s, b165_15]
  rw [tp4_i (tp4_i (tp4_i (tp4_i (tp4_i ht)))), tp_20]
  exact q2 q
theorem sp_feedM (s : Sk h) (ht : hI h 59 1 = nI t) (hl : t ≤ 3000) (hN1 : hN h 60 = 3000) {a b c e f : Int32} (q1 : 2980 < t → Q (some (.int (-1))) h) (q2 : t + 20 ≤ 3000 → Q (some (.int (nI (t + 20)))) (tpL 60 59 (by20 a b c e f) t h)) : aEv 1399 203 [.ref 59, .int a, .int b, .int c, .int e, .int f] h Q := by
  unfold aEv
  simp only [lv_args, z_v, z_lg, z_h, z_u, z_u1, z_c, z_ct, z_sk, sbne, lst1_d, ldel, lst2_d, ldel2, z_sw, z_rok, zi, eq_self, List.map_cons, List.map_nil, List.append_nil, List.nil_append, List.cons_append, Int32.reduceLT, Int32.reduceLE, Int32.reduceAdd, Int32.reduceSub, Int32.reduceMul, Int32.reduceToInt, Int32.reduceToNatClampNeg, Int.reduceLT, Int.reduceLE, Int.reduceNeg, true_and, and_true, or_self, or_false, false_or, false_and, and_false, true_or, or_true, if_true, if_false, ne_eq, Classical.not_not, not_true_eq_false, not_false_eq_true, true_implies, false_implies, implies_true, Nat.reduceEqDiff, Nat.reduceAdd, Nat.reduceLeDiff, Nat.reduceSub, reduceCtorEq, reduceIte, b203_0, b203_13, skM s, ht]
  rw [show (20 : Int32) = nI 20 from rfl, show (3000 : Int32) = nI 3000 from rfl, nI_add, nI_leI (by omega) (by omega)]
  refine ⟨fun q => ?_, fun q => q1 (by omega)⟩
  simp only [lv_args, z_v, z_lg, z_h, z_u, z_u1, z_c, z_ct, z_sk, sbne, lst1_d, ldel, lst2_d, ldel2, z_sw, z_rok, zi, eq_self, List.map_cons, List.map_nil, List.append_nil, List.nil_append, List.cons_append, Int32.reduceLT, Int32.reduceLE, Int32.reduceAdd, Int32.reduceSub, Int32.reduceMul, Int32.reduceToInt, Int32.reduceToNatClampNeg, Int.reduceLT, Int.reduceLE, Int.reduceNeg, true_and, and_true, or_self, or_false, false_or, false_and, and_false, true_or, or_true, if_true, if_false, ne_eq, Classical.not_not, not_true_eq_false, not_false_eq_true, true_implies, false_implies, implies_true, Nat.reduceEqDiff, Nat.reduceAdd, Nat.reduceLeDiff, Nat.reduceSub, reduceCtorEq, reduceIte, Nat.reduceLT, b203_15, skM s]
  refine sp_four s ht (by omega) hN1 ?_
  simp only [lv_args, z_v, z_lg, z_h, z_u, z_u1, z_c, z_ct, z_sk, sbne, lst1_d, ldel, lst2_d, ldel2, z_sw, z_rok, zi, eq_self, List.map_cons, List.map_nil, List.append_nil, List.nil_append, List.cons_append, Int32.reduceLT, Int32.reduceLE, Int32.reduceAdd, Int32.reduceSub, Int32.reduceMul, Int32.reduceToInt, Int32.reduceToNatClampNeg, Int.reduceLT, Int.reduceLE, Int.reduceNeg, true_and, and_true, or_self, or_false, false_or, false_and, and_false, true_or, or_true, if_true, if_false, ne_eq, Classical.not_not, not_true_eq_false, not_false_eq_true, true_implies, false_implies, implies_true, Nat.reduceEqDiff, Nat.reduceAdd, Nat.reduceLeDiff, Nat.reduceSub, reduceCtorEq, reduceIte, Nat.reduceLT, tpL_K, skM s, b203_15]
  refine sp_four (t := t + 4) (by rw [tpL_s]; exact s) (tp4_i ht) (by omega) (by rw [tpL_N]; exact hN1) ?_
  simp only [lv_args, z_v, z_lg, z_h, z_u, z_u1, z_c, z_ct, z_sk, sbne, lst1_d, ldel, lst2_d, ldel2, z_sw, z_rok, zi, eq_self, List.map_cons, List.map_nil, List.append_nil, List.nil_append, List.cons_append, Int32.reduceLT, Int32.reduceLE, Int32.reduceAdd, Int32.reduceSub, Int32.reduceMul, Int32.reduceToInt, Int32.reduceToNatClampNeg, Int.reduceLT, Int.reduceLE, Int.reduceNeg, true_and, and_true, or_self, or_false, false_or, false_and, and_false, true_or, or_true, if_true, if_false, ne_eq, Classical.not_not, not_true_eq_false, not_false_eq_true, true_implies, false_implies, implies_true, Nat.reduceEqDiff, Nat.reduceAdd, Nat.reduceLeDiff, Nat.reduceSub, reduceCtorEq, reduceIte, Nat.reduceLT, tpL_K, skM s, b203_15]
  refine sp_four (by rw [tpL_s, tpL_s]; exact s) (tp4_i (tp4_i ht)) (by omega) (by rw [tpL_N, tpL_N]; exact hN1) ?_
  simp only [lv_args, z_v, z_lg, z_h, z_u, z_u1, z_c, z_ct, z_sk, sbne, lst1_d, ldel, lst2_d, ldel2, z_sw, z_rok, zi, eq_self, List.map_cons, List.map_nil, List.append_nil, List.nil_append, List.cons_append, Int32.reduceLT, Int32.reduceLE, Int32.reduceAdd, Int32.reduceSub, Int32.reduceMul, Int32.reduceToInt, Int32.reduceToNatClampNeg, Int.reduceLT, Int.reduceLE, Int.reduceNeg, true_and, and_true, or_self, or_false, false_or, false_and, and_false, true_or, or_true, if_true, if_false, ne_eq, Classical.not_not, not_true_eq_false, not_false_eq_true, true_implies, false_implies, implies_true, Nat.reduceEqDiff, Nat.reduceAdd, Nat.reduceLeDiff, Nat.reduceSub, reduceCtorEq, reduceIte, Nat.reduceLT, tpL_K, skM s, b203_15]
  refine sp_four (by rw [tpL_s, tpL_s, tpL_s]; exact s) (tp4_i (tp4_i (tp4_i ht))) (by omega) (by rw [tpL_N, tpL_N, tpL_N]; exact hN1) ?_
  simp only [lv_args, z_v, z_lg, z_h, z_u, z_u1, z_c, z_ct, z_sk, sbne, lst1_d, ldel, lst2_d, ldel2, z_sw, z_rok, zi, eq_self, List.map_cons, List.map_nil, List.append_nil, List.nil_append, List.cons_append, Int32.reduceLT, Int32.reduceLE, Int32.reduceAdd, Int32.reduceSub, Int32.reduceMul, Int32.reduceToInt, Int32.reduceToNatClampNeg, Int.reduceLT, Int.reduceLE, Int.reduceNeg, true_and, and_true, or_self, or_false, false_or, false_and, and_false, true_or, or_true, if_true, if_false, ne_eq, Classical.not_not, not_true_eq_false, not_false_eq_true, true_implies, false_implies, implies_true, Nat.reduceEqDiff, Nat.reduceAdd, Nat.reduceLeDiff, Nat.reduceSub, reduceCtorEq, reduceIte, Nat.reduceLT, tpL_K, skM s, b203_15]
  refine sp_four (by rw [tpL_s, tpL_s, tpL_s, tpL_s]; exact s) (tp4_i (tp4_i (tp4_i (tp4_i ht)))) (by omega) (by rw [tpL_N, tpL_N, tpL_N, tpL_N]; exact hN1) ?_
  simp only [lv_args, z_v, z_lg, z_h, z_u, z_u1, z_c, z_ct, z_sk, sbne, lst1_d, ldel, lst2_d, ldel2, z_sw, z_rok, zi, eq_self, List.map_cons, List.map_nil, List.append_nil, List.nil_append, List.cons_append, Int32.reduceLT, Int32.reduceLE, Int32.reduceAdd, Int32.reduceSub, Int32.reduceMul, Int32.reduceToInt, Int32.reduceToNatClampNeg, Int.reduceLT, Int.reduceLE, Int.reduceNeg, true_and, and_true, or_self, or_false, false_or, false_and, and_false, true_or, or_true, if_true, if_false, ne_eq, Classical.not_not, not_true_eq_false, not_false_eq_true, true_implies, false_implies, implies_true, Nat.reduceEqDiff, Nat.reduceAdd, Nat.reduceLeDiff, Nat.reduceSub, reduceCtorEq, reduceIte, Nat.reduceLT, tpL_K, skM s, b203_15]
  rw [tp4_i (tp4_i (tp4_i (tp4_i (tp4_i ht)))), tp_20]
  exact q2 q
end FEED2
