/-! BUILD. A word out of the text -/
def wI (t : Nat → Nat) (p e : Nat) : Prop := isD (t p) = true ∨ (t p = 45 ∧ p + 1 < e ∧ isD (t (p + 1)) = true)
/-- a word that is none -/
def WDb (t : Nat → Nat) (p e : Nat) : Prop := (wI t p e ∧ ((∃ i, dq t p ≤ i ∧ i < e ∧ isD (t i) = false) ∨ lm t p < dvl t (dq t p) (e - dq t p))) ∨ (¬ wI t p e ∧ t p = 35 ∧ ¬ (e = p + 2 ∧ (t (p + 1) = 116 ∨ t (p + 1) = 102))) ∨ (¬ wI t p e ∧ t p ≠ 35 ∧ 12 < e - p)
/-- the datum of a word, and the table of names behind it -/
def WDg (t : Nat → Nat) (p e : Nat) (K : List KY) (mt : List Nat) (k c : Int32) (K' : List KY) (mt' : List Nat) : Prop :=
  (wI t p e ∧ (∀ i, dq t p ≤ i → i < e → isD (t i) = true) ∧ dvl t (dq t p) (e - dq t p) ≤ lm t p ∧ k = 1 ∧ c = iv t p e ∧ K' = K ∧ mt' = mt) ∨
  (¬ wI t p e ∧ t p = 35 ∧ e = p + 2 ∧ ((t (p + 1) = 116 ∧ k = 3) ∨ (t (p + 1) = 102 ∧ k = 2)) ∧ c = 0 ∧ K' = K ∧ mt' = mt) ∨
  (¬ wI t p e ∧ t p ≠ 35 ∧ e - p ≤ 12 ∧ k = 5 ∧ ∃ i, c = nI i ∧ ((K[i]? = some (ky (str t p e)) ∧ K' = K) ∨ (ky (str t p e) ∉ K ∧ i = K.length ∧ K' = K ++ [ky (str t p e)])) ∧ mt' = if i ∈ mt then mt else mt ++ [i])
/-- all but names, nodes and lists is alike -/
def FrW (h h' : Hp) : Prop := hK h' = hK h ∧ hR h' = hR h ∧ hN h' = hN h ∧ hn h' = hn h ∧ hu h' = hu h ∧ hv h' = hv h ∧ (∀ a i, a ≠ 4 → ¬ (a = 3 ∧ (i = 7 ∨ i = 11)) → hI h' a i = hI h a i) ∧ (∀ a, a ≠ 4 → hL h' a = hL h a) ∧ (∀ a, (a < 7 ∨ 17 < a) → hA h' a = hA h a) ∧ ∀ a, a ≠ 5 → a ≠ 6 → hB h' a = hB h a
section RWD
variable {h h' : Hp} {Q : Option Value → Hp → Prop} {d n : Nat} {t : Nat → Nat} {N : NS} {stk : List SE} {K : List KY} {mt : List Nat}
theorem frw_r (f : FrR h h') : FrW h h' := by
  obtain ⟨f1, f2, f3, f4, f5, f6, f7, f8, f9, f10⟩ := f
  exact ⟨f1, f2, f3, f4, f5, f6, fun a i _ c => f7 a i c, fun a _ => by rw [f8], fun a c => f9 a (by omega), fun a _ _ => by rw [f10]⟩
theorem frw_n (f : FrN h h') : FrW h h' := by
  obtain ⟨f1, f2, f3, f4, f5, f6, f7, f8, f9, f10⟩ := f
  exact ⟨f1, f2, f3, f4, f5, f6, fun a i c _ => by rw [f7 a c], f8, fun a c => f9 a (by omega) (by omega) (by omega), f10⟩
theorem frw_tr {h1 h2 : Hp} (a : FrW h h1) (b : FrW h1 h2) : FrW h h2 := by
  obtain ⟨a1, a2, a3, a4, a5, a6, a7, a8, a9, a10⟩ := a
  obtain ⟨b1, b2, b3, b4, b5, b6, b7, b8, b9, b10⟩ := b
  exact ⟨b1.trans a1, b2.trans a2, b3.trans a3, b4.trans a4, b5.trans a5, b6.trans a6, fun x i c1 c2 => (b7 x i c1 c2).trans (a7 x i c1 c2), fun x c => (b8 x c).trans (a8 x c), fun x c => (b9 x c).trans (a9 x c), fun x c1 c2 => (b10 x c1 c2).trans (a10 x c1 c2)⟩
theorem frn_rn (f : FrN h h') (r : RNs N h) : RNs N h' := by
  obtain ⟨f1, f2, f3, f4, f5, f6, f7, f8, f9, f10⟩ := f
  unfold RNs at r ⊢
  rw [f7 3 (by decide), f9 10 (by decide) (by decide) (by decide), f9 11 (by decide) (by decide) (by decide), f9 12 (by decide) (by decide) (by decide), f9 13 (by decide) (by decide) (by decide), f9 14 (by decide) (by decide) (by decide)]
  exact r
theorem frn_rs (f : FrN h h') (r : RSk stk h) : RSk stk h' := by
  obtain ⟨f1, f2, f3, f4, f5, f6, f7, f8, f9, f10⟩ := f
  unfold RSk at r ⊢
  rw [f7 3 (by decide), f9 15 (by decide) (by decide) (by decide), f9 16 (by decide) (by decide) (by decide), f9 17 (by decide) (by decide) (by decide)]
  exact r
theorem nI_sub {a b : Nat} (hb : b ≤ a) : nI a - nI b = nI (a - b) := by
  have := nI_sb (a := a - b) (b := b)
  rw [show a - b + b = a by omega] at this
  exact this
theorem sp_takeTruth {p e : Nat} {e0 : SE} (s : Sk h) (rm0 : Rm h) (r : RT t n h) (rn : RNs N h) (rs : RSk (e0 :: stk) h) (ws : WS N (e0 :: stk)) (rm : roomN N h) (hl : N.1 < 7000) (hpe : p < e) (hen : e ≤ n) (hd : 20 < d) (h20 : hI h 2 0 = 0)
    (q1 : ¬ (e = p + 2 ∧ (t (p + 1) = 116 ∨ t (p + 1) = 102)) → Q none (pI (pI h 2 0 1) 2 1 (nI p))) (q2 : ∀ k : Int32, e = p + 2 → ((t (p + 1) = 116 ∧ k = 3) ∨ (t (p + 1) = 102 ∧ k = 2)) → ∀ h', RNs (adN (nwN N k 0 (nI p)) e0 N.1) h' → RSk (cq ((e0.1, some N.1, e0.2.2) :: stk)) h' → FrR h h' → Q none h') : aEv d 136 [.ref 3, .int (nI p), .int (nI e)] h Q := by
  have h0 : 0 < d := by omega
  have r4 := r.2.2.2.1
  have hs := sgn_lt (n := n) r.2.2.2.2.2 (p + 1)
  have z2 : (2 : Int32) = nI 2 := rfl
  have z116 : (116 : Int32) = nI 116 := rfl
  have z102 : (102 : Int32) = nI 102 := rfl
  have bad : ∀ x, ¬ (e = p + 2 ∧ (t (p + 1) = 116 ∨ t (p + 1) = 102)) → aWP d 136 47 [(3, .int x), (0, .ref 3), (1, .int (nI p)), (2, .int (nI e))] [] h Q := fun x c => by
    have fin := q1 c
    simp only [lv_args, z_v, z_lg, z_h, z_u, z_u1, z_c, z_ct, z_sk, sbne, lst1_d, ldel, lst2_d, ldel2, z_sw, z_rok, zi, eq_self, List.map_cons, List.map_nil, List.append_nil, List.nil_append, List.cons_append, Int32.reduceLT, Int32.reduceLE, Int32.reduceAdd, Int32.reduceSub, Int32.reduceMul, Int32.reduceToInt, Int32.reduceToNatClampNeg, Int.reduceLT, Int.reduceLE, Int.reduceNeg, true_and, and_true, or_self, or_false, false_or, false_and, and_false, true_or, or_true, if_true, if_false, ne_eq, Classical.not_not, not_true_eq_false, not_false_eq_true, true_implies, false_implies, implies_true, Nat.reduceEqDiff, Nat.reduceAdd, Nat.reduceLeDiff, Nat.reduceSub, reduceCtorEq, reduceIte, b136_47, b136_56, skX s, srX s, h0, e33_2 _ _ s, h20, Nat.reduceLT]
    exact fin
  unfold aEv
  simp only [lv_args, z_v, z_lg, z_h, z_u, z_u1, z_c, z_ct, z_sk, sbne, lst1_d, ldel, lst2_d, ldel2, z_sw, z_rok, zi, eq_self, List.map_cons, List.map_nil, List.append_nil, List.nil_append, List.cons_append, Int32.reduceLT, Int32.reduceLE, Int32.reduceAdd, Int32.reduceSub, Int32.reduceMul, Int32.reduceToInt, Int32.reduceToNatClampNeg, Int.reduceLT, Int.reduceLE, Int.reduceNeg, true_and, and_true, or_self, or_false, false_or, false_and, and_false, true_or, or_true, if_true, if_false, ne_eq, Classical.not_not, not_true_eq_false, not_false_eq_true, true_implies, false_implies, implies_true, Nat.reduceEqDiff, Nat.reduceAdd, Nat.reduceLeDiff, Nat.reduceSub, reduceCtorEq, reduceIte, b136_0, skX s, h0, nI_1]
  refine sp_signAt s r (by omega) ?_
  simp only [lv_args, z_v, z_lg, z_h, z_u, z_u1, z_c, z_ct, z_sk, sbne, lst1_d, ldel, lst2_d, ldel2, z_sw, z_rok, zi, eq_self, List.map_cons, List.map_nil, List.append_nil, List.nil_append, List.cons_append, Int32.reduceLT, Int32.reduceLE, Int32.reduceAdd, Int32.reduceSub, Int32.reduceMul, Int32.reduceToInt, Int32.reduceToNatClampNeg, Int.reduceLT, Int.reduceLE, Int.reduceNeg, true_and, and_true, or_self, or_false, false_or, false_and, and_false, true_or, or_true, if_true, if_false, ne_eq, Classical.not_not, not_true_eq_false, not_false_eq_true, true_implies, false_implies, implies_true, Nat.reduceEqDiff, Nat.reduceAdd, Nat.reduceLeDiff, Nat.reduceSub, reduceCtorEq, reduceIte, b136_0, skX s, Nat.reduceLT, nI_sub (show p ≤ e by omega), z2]
  simp (disch := omega) only [nI_eqN]
  refine ⟨fun c => bad _ (by omega), fun c => ?_⟩
  have es : sgn t n (p + 1) = t (p + 1) := if_pos (by omega)
  rw [es] at hs ⊢
  have good : ∀ k : Int32, ((t (p + 1) = 116 ∧ k = 3) ∨ (t (p + 1) = 102 ∧ k = 2)) → aWP d 136 39 [(3, .int (nI (t (p + 1)))), (0, .ref 3), (1, .int (nI p)), (2, .int (nI e))] [.int k, .ref 3] h Q := fun k hk => by
    simp only [lv_args, z_v, z_lg, z_h, z_u, z_u1, z_c, z_ct, z_sk, sbne, lst1_d, ldel, lst2_d, ldel2, z_sw, z_rok, zi, eq_self, List.map_cons, List.map_nil, List.append_nil, List.nil_append, List.cons_append, Int32.reduceLT, Int32.reduceLE, Int32.reduceAdd, Int32.reduceSub, Int32.reduceMul, Int32.reduceToInt, Int32.reduceToNatClampNeg, Int.reduceLT, Int.reduceLE, Int.reduceNeg, true_and, and_true, or_self, or_false, false_or, false_and, and_false, true_or, or_true, if_true, if_false, ne_eq, Classical.not_not, not_true_eq_false, not_false_eq_true, true_implies, false_implies, implies_true, Nat.reduceEqDiff, Nat.reduceAdd, Nat.reduceLeDiff, Nat.reduceSub, reduceCtorEq, reduceIte, b136_39, skX s, h0]
    refine sp_takeDatum s rm0 rn rs ws rm hl (by omega) (fun h1 rn1 rs1 F1 => ?_)
    have hv1 : hv h1 = hv h := F1.2.2.2.2.2.1
    simp only [lv_args, z_v, z_lg, z_h, z_u, z_u1, z_c, z_ct, z_sk, sbne, lst1_d, ldel, lst2_d, ldel2, z_sw, z_rok, zi, eq_self, List.map_cons, List.map_nil, List.append_nil, List.nil_append, List.cons_append, Int32.reduceLT, Int32.reduceLE, Int32.reduceAdd, Int32.reduceSub, Int32.reduceMul, Int32.reduceToInt, Int32.reduceToNatClampNeg, Int.reduceLT, Int.reduceLE, Int.reduceNeg, true_and, and_true, or_self, or_false, false_or, false_and, and_false, true_or, or_true, if_true, if_false, ne_eq, Classical.not_not, not_true_eq_false, not_false_eq_true, true_implies, false_implies, implies_true, Nat.reduceEqDiff, Nat.reduceAdd, Nat.reduceLeDiff, Nat.reduceSub, reduceCtorEq, reduceIte, b136_39, b136_56, skX s, hv1, Nat.reduceLT]
    exact q2 k (by omega) hk h1 rn1 rs1 F1
  simp only [lv_args, z_v, z_lg, z_h, z_u, z_u1, z_c, z_ct, z_sk, sbne, lst1_d, ldel, lst2_d, ldel2, z_sw, z_rok, zi, eq_self, List.map_cons, List.map_nil, List.append_nil, List.nil_append, List.cons_append, Int32.reduceLT, Int32.reduceLE, Int32.reduceAdd, Int32.reduceSub, Int32.reduceMul, Int32.reduceToInt, Int32.reduceToNatClampNeg, Int.reduceLT, Int.reduceLE, Int.reduceNeg, true_and, and_true, or_self, or_false, false_or, false_and, and_false, true_or, or_true, if_true, if_false, ne_eq, Classical.not_not, not_true_eq_false, not_false_eq_true, true_implies, false_implies, implies_true, Nat.reduceEqDiff, Nat.reduceAdd, Nat.reduceLeDiff, Nat.reduceSub, reduceCtorEq, reduceIte, b136_15, z116]
  simp (disch := omega) only [nI_eqN]
  refine ⟨fun c1 => ?_, fun c1 => ?_⟩
  · simp only [lv_args, z_v, z_lg, z_h, z_u, z_u1, z_c, z_ct, z_sk, sbne, lst1_d, ldel, lst2_d, ldel2, z_sw, z_rok, zi, eq_self, List.map_cons, List.map_nil, List.append_nil, List.nil_append, List.cons_append, Int32.reduceLT, Int32.reduceLE, Int32.reduceAdd, Int32.reduceSub, Int32.reduceMul, Int32.reduceToInt, Int32.reduceToNatClampNeg, Int.reduceLT, Int.reduceLE, Int.reduceNeg, true_and, and_true, or_self, or_false, false_or, false_and, and_false, true_or, or_true, if_true, if_false, ne_eq, Classical.not_not, not_true_eq_false, not_false_eq_true, true_implies, false_implies, implies_true, Nat.reduceEqDiff, Nat.reduceAdd, Nat.reduceLeDiff, Nat.reduceSub, reduceCtorEq, reduceIte, b136_27, z116]
    simp (disch := omega) only [nI_eqN]
    refine ⟨fun c2 => absurd c1 c2, fun _ => ?_⟩
    simp only [lv_args, z_v, z_lg, z_h, z_u, z_u1, z_c, z_ct, z_sk, sbne, lst1_d, ldel, lst2_d, ldel2, z_sw, z_rok, zi, eq_self, List.map_cons, List.map_nil, List.append_nil, List.nil_append, List.cons_append, Int32.reduceLT, Int32.reduceLE, Int32.reduceAdd, Int32.reduceSub, Int32.reduceMul, Int32.reduceToInt, Int32.reduceToNatClampNeg, Int.reduceLT, Int.reduceLE, Int.reduceNeg, true_and, and_true, or_self, or_false, false_or, false_and, and_false, true_or, or_true, if_true, if_false, ne_eq, Classical.not_not, not_true_eq_false, not_false_eq_true, true_implies, false_implies, implies_true, Nat.reduceEqDiff, Nat.reduceAdd, Nat.reduceLeDiff, Nat.reduceSub, reduceCtorEq, reduceIte, b136_34]
    exact good 3 (Or.inl ⟨c1, rfl⟩)
  · simp only [lv_args, z_v, z_lg, z_h, z_u, z_u1, z_c, z_ct, z_sk, sbne, lst1_d, ldel, lst2_d, ldel2, z_sw, z_rok, zi, eq_self, List.map_cons, List.map_nil, List.append_nil, List.nil_append, List.cons_append, Int32.reduceLT, Int32.reduceLE, Int32.reduceAdd, Int32.reduceSub, Int32.reduceMul, Int32.reduceToInt, Int32.reduceToNatClampNeg, Int.reduceLT, Int.reduceLE, Int.reduceNeg, true_and, and_true, or_self, or_false, false_or, false_and, and_false, true_or, or_true, if_true, if_false, ne_eq, Classical.not_not, not_true_eq_false, not_false_eq_true, true_implies, false_implies, implies_true, Nat.reduceEqDiff, Nat.reduceAdd, Nat.reduceLeDiff, Nat.reduceSub, reduceCtorEq, reduceIte, b136_21, z102]
    simp (disch := omega) only [nI_eqN]
    refine ⟨fun c2 => bad _ (by omega), fun c2 => ?_⟩
    simp only [lv_args, z_v, z_lg, z_h, z_u, z_u1, z_c, z_ct, z_sk, sbne, lst1_d, ldel, lst2_d, ldel2, z_sw, z_rok, zi, eq_self, List.map_cons, List.map_nil, List.append_nil, List.nil_append, List.cons_append, Int32.reduceLT, Int32.reduceLE, Int32.reduceAdd, Int32.reduceSub, Int32.reduceMul, Int32.reduceToInt, Int32.reduceToNatClampNeg, Int.reduceLT, Int.reduceLE, Int.reduceNeg, true_and, and_true, or_self, or_false, false_or, false_and, and_false, true_or, or_true, if_true, if_false, ne_eq, Classical.not_not, not_true_eq_false, not_false_eq_true, true_implies, false_implies, implies_true, Nat.reduceEqDiff, Nat.reduceAdd, Nat.reduceLeDiff, Nat.reduceSub, reduceCtorEq, reduceIte, b136_27, z116]
    simp (disch := omega) only [nI_eqN]
    refine ⟨fun _ => ?_, fun c3 => absurd c3 c1⟩
    simp only [lv_args, z_v, z_lg, z_h, z_u, z_u1, z_c, z_ct, z_sk, sbne, lst1_d, ldel, lst2_d, ldel2, z_sw, z_rok, zi, eq_self, List.map_cons, List.map_nil, List.append_nil, List.nil_append, List.cons_append, Int32.reduceLT, Int32.reduceLE, Int32.reduceAdd, Int32.reduceSub, Int32.reduceMul, Int32.reduceToInt, Int32.reduceToNatClampNeg, Int.reduceLT, Int.reduceLE, Int.reduceNeg, true_and, and_true, or_self, or_false, false_or, false_and, and_false, true_or, or_true, if_true, if_false, ne_eq, Classical.not_not, not_true_eq_false, not_false_eq_true, true_implies, false_implies, implies_true, Nat.reduceEqDiff, Nat.reduceAdd, Nat.reduceLeDiff, Nat.reduceSub, reduceCtorEq, reduceIte, b136_38]
    exact good 2 (Or.inr ⟨c2, rfl⟩)
end RWD
