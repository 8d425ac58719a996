/-! BUILD. One step of the reader -/
def bkC (c : Nat) : Prop := c = 32 ∨ c = 10 ∨ c = 9
/-- the step at p that tells fault k -/
def CTf (t : Nat → Nat) (n p : Nat) (stk : List SE) (k : Nat) : Prop := ¬ bkC (t p) ∧ t p ≠ 59 ∧ ((isW (t p) = true ∧ WDb t p (we t n (p + 1)) ∧ k = 1) ∨ (isW (t p) = false ∧ (((t p = 40 ∨ t p = 39) ∧ 31 ≤ stk.length ∧ k = 2) ∨ (t p ≠ 40 ∧ t p ≠ 39 ∧ ¬ (t p = 41 ∧ ∃ e e' l, stk = e :: e' :: l ∧ e.2.2 = false) ∧ k = 1))))
/-- the step at p that goes on at p' -/
def CTg (t : Nat → Nat) (n p : Nat) (K : List KY) (mt : List Nat) (N : NS) (stk : List SE) (p' : Nat) (K' : List KY) (mt' : List Nat) (N' : NS) (stk' : List SE) : Prop :=
  (((bkC (t p) ∧ p' = p + 1) ∨ (¬ bkC (t p) ∧ t p = 59 ∧ p' = lne t n p)) ∧ K' = K ∧ mt' = mt ∧ N' = N ∧ stk' = stk) ∨
  (¬ bkC (t p) ∧ t p ≠ 59 ∧ isW (t p) = true ∧ p' = we t n (p + 1) ∧ ∃ k v e l, WDg t p p' K mt k v K' mt' ∧ stk = e :: l ∧ N' = adN (nwN N k v (nI p)) e N.1 ∧ stk' = cq ((e.1, some N.1, e.2.2) :: l)) ∨
  (t p = 40 ∧ p' = p + 1 ∧ K' = K ∧ mt' = mt ∧ ∃ e l, stk = e :: l ∧ l.length < 30 ∧ N' = adN (nwN N 6 0 (nI p)) e N.1 ∧ stk' = (N.1, none, false) :: (e.1, some N.1, e.2.2) :: l) ∨
  (t p = 39 ∧ p' = p + 1 ∧ K' = K ∧ (mt' = if 0 ∈ mt then mt else mt ++ [0]) ∧ ∃ e l, stk = e :: l ∧ l.length < 30 ∧ N' = adN (nwN (adN (nwN N 6 0 (nI p)) e N.1) 5 0 (nI p)) (N.1, none, true) (N.1 + 1) ∧ stk' = (N.1, some (N.1 + 1), true) :: (e.1, some N.1, e.2.2) :: l) ∨
  (t p = 41 ∧ p' = p + 1 ∧ K' = K ∧ mt' = mt ∧ N' = N ∧ ∃ e e' l, stk = e :: e' :: l ∧ e.2.2 = false ∧ stk' = cq (e' :: l))
theorem we_le {t : Nat → Nat} {n : Nat} : ∀ (f i : Nat), i ≤ wEn t n f i ∧ (i ≤ n → wEn t n f i ≤ n)
  | 0, i => ⟨Nat.le_refl _, fun h => h⟩
  | f + 1, i => by
    show i ≤ (if i < n ∧ isW (t i) = true then wEn t n f (i + 1) else i) ∧ (i ≤ n → (if i < n ∧ isW (t i) = true then wEn t n f (i + 1) else i) ≤ n)
    have := we_le (t := t) (n := n) f (i + 1)
    split
    · rename_i c
      exact ⟨by omega, fun _ => this.2 (by omega)⟩
    · exact ⟨Nat.le_refl _, fun h => h⟩
section RTK
variable {h h' : Hp} {Q : Option Value → Hp → Prop} {d n : Nat} {t : Nat → Nat} {N : NS} {stk : List SE} {K : List KY} {mt : List Nat}
theorem frw_rf : FrW h h := frw_r frr_rf
theorem sp_behindToken {p : Nat} (s : Sk h) (rm0 : Rm h) (r : RT t n h) (nt : NT K mt h) (hK0 : 0 < K.length) (rn : RNs N h) (rs : RSk stk h) (hne : stk ≠ []) (ws : WS N stk) (rm : N.1 + 1 < hN h 10 ∧ N.1 + 1 < hN h 11 ∧ N.1 + 1 < hN h 12 ∧ N.1 + 1 < hN h 13 ∧ N.1 + 1 < hN h 14) (hl : N.1 + 1 < 7000) (hp : p < n) (hd : 40 < d) (h20 : hI h 2 0 = 0)
    (room : isW (t p) = true → K.length < hN h 5 ∧ K.length < hN h 6 ∧ K.length < hN h 7 ∧ K.length < hN h 8) (hr8 : K.length ≤ hN h 8) (hlK : K.length < 2990) (hm : mt.length < 3000)
    (q1 : ∀ k p', k < 3 → CTf t n p stk k → Q (some (.int (nI p'))) (pI (pI h 2 0 (nI k)) 2 1 (nI p))) (q2 : ∀ p' K' mt' N' stk' h', CTg t n p K mt N stk p' K' mt' N' stk' → NT K' mt' h' → RNs N' h' → RSk stk' h' → FrW h h' → Q (some (.int (nI p'))) h') : aEv d 112 [.ref 3, .int (nI p)] h Q := by
  have h0 : 0 < d := by omega
  have r4 := r.2.2.2.1
  have ht := r.2.2.2.2.2 p
  have es : sgn t n p = t p := if_pos hp
  have z10 : ¬ (1 : Int32) = 0 := by decide
  have z32 : (32 : Int32) = nI 32 := rfl
  have zt : (10 : Int32) = nI 10 := rfl
  have z9 : (9 : Int32) = nI 9 := rfl
  have z59 : (59 : Int32) = nI 59 := rfl
  have z40 : (40 : Int32) = nI 40 := rfl
  have z39 : (39 : Int32) = nI 39 := rfl
  have z41 : (41 : Int32) = nI 41 := rfl
  obtain ⟨e0, l, rfl⟩ : ∃ e0 l, stk = e0 :: l := by
    cases stk with
    | nil => exact absurd rfl hne
    | cons a b => exact ⟨a, b, rfl⟩
  obtain ⟨m1, m2, m3, m4, m5⟩ := id rm
  have rmN : roomN N h := ⟨by omega, by omega, by omega, by omega, by omega⟩
  have blank : bkC (t p) → aWP d 112 24 [(2, .int (nI (t p))), (0, .ref 3), (1, .int (nI p))] [] h Q := fun c => by
    have fin := q2 (p + 1) K mt N _ h (Or.inl ⟨Or.inl ⟨c, rfl⟩, rfl, rfl, rfl, rfl⟩) nt rn rs frw_rf
    simp only [lv_args, z_v, z_lg, z_h, z_u, z_u1, z_c, z_ct, z_sk, sbne, lst1_d, ldel, lst2_d, ldel2, z_sw, z_rok, zi, eq_self, List.map_cons, List.map_nil, List.append_nil, List.nil_append, List.cons_append, Int32.reduceLT, Int32.reduceLE, Int32.reduceAdd, Int32.reduceSub, Int32.reduceMul, Int32.reduceToInt, Int32.reduceToNatClampNeg, Int.reduceLT, Int.reduceLE, Int.reduceNeg, true_and, and_true, or_self, or_false, false_or, false_and, and_false, true_or, or_true, if_true, if_false, ne_eq, Classical.not_not, not_true_eq_false, not_false_eq_true, true_implies, false_implies, implies_true, Nat.reduceEqDiff, Nat.reduceAdd, Nat.reduceLeDiff, Nat.reduceSub, reduceCtorEq, reduceIte, b112_24, nI_1]
    exact fin
  have out : ∀ h', Q (some (.int (nI (p + 1)))) h' → aWP d 112 137 [(2, .int (nI (t p))), (0, .ref 3), (1, .int (nI p))] [] h' Q := fun h' q => by
    simp only [lv_args, z_v, z_lg, z_h, z_u, z_u1, z_c, z_ct, z_sk, sbne, lst1_d, ldel, lst2_d, ldel2, z_sw, z_rok, zi, eq_self, List.map_cons, List.map_nil, List.append_nil, List.nil_append, List.cons_append, Int32.reduceLT, Int32.reduceLE, Int32.reduceAdd, Int32.reduceSub, Int32.reduceMul, Int32.reduceToInt, Int32.reduceToNatClampNeg, Int.reduceLT, Int.reduceLE, Int.reduceNeg, true_and, and_true, or_self, or_false, false_or, false_and, and_false, true_or, or_true, if_true, if_false, ne_eq, Classical.not_not, not_true_eq_false, not_false_eq_true, true_implies, false_implies, implies_true, Nat.reduceEqDiff, Nat.reduceAdd, Nat.reduceLeDiff, Nat.reduceSub, reduceCtorEq, reduceIte, b112_137, nI_1]
    exact q
  unfold aEv
  simp only [lv_args, z_v, z_lg, z_h, z_u, z_u1, z_c, z_ct, z_sk, sbne, lst1_d, ldel, lst2_d, ldel2, z_sw, z_rok, zi, eq_self, List.map_cons, List.map_nil, List.append_nil, List.nil_append, List.cons_append, Int32.reduceLT, Int32.reduceLE, Int32.reduceAdd, Int32.reduceSub, Int32.reduceMul, Int32.reduceToInt, Int32.reduceToNatClampNeg, Int.reduceLT, Int.reduceLE, Int.reduceNeg, true_and, and_true, or_self, or_false, false_or, false_and, and_false, true_or, or_true, if_true, if_false, ne_eq, Classical.not_not, not_true_eq_false, not_false_eq_true, true_implies, false_implies, implies_true, Nat.reduceEqDiff, Nat.reduceAdd, Nat.reduceLeDiff, Nat.reduceSub, reduceCtorEq, reduceIte, b112_0, skX s, h0]
  refine sp_signAt s r (by omega) ?_
  rw [es]
  simp only [lv_args, z_v, z_lg, z_h, z_u, z_u1, z_c, z_ct, z_sk, sbne, lst1_d, ldel, lst2_d, ldel2, z_sw, z_rok, zi, eq_self, List.map_cons, List.map_nil, List.append_nil, List.nil_append, List.cons_append, Int32.reduceLT, Int32.reduceLE, Int32.reduceAdd, Int32.reduceSub, Int32.reduceMul, Int32.reduceToInt, Int32.reduceToNatClampNeg, Int.reduceLT, Int.reduceLE, Int.reduceNeg, true_and, and_true, or_self, or_false, false_or, false_and, and_false, true_or, or_true, if_true, if_false, ne_eq, Classical.not_not, not_true_eq_false, not_false_eq_true, true_implies, false_implies, implies_true, Nat.reduceEqDiff, Nat.reduceAdd, Nat.reduceLeDiff, Nat.reduceSub, reduceCtorEq, reduceIte, b112_0, skX s, Nat.reduceLT, z32]
  simp (disch := omega) only [nI_eqN]
  refine ⟨fun c => blank (Or.inl c), fun c1 => ?_⟩
  simp only [lv_args, z_v, z_lg, z_h, z_u, z_u1, z_c, z_ct, z_sk, sbne, lst1_d, ldel, lst2_d, ldel2, z_sw, z_rok, zi, eq_self, List.map_cons, List.map_nil, List.append_nil, List.nil_append, List.cons_append, Int32.reduceLT, Int32.reduceLE, Int32.reduceAdd, Int32.reduceSub, Int32.reduceMul, Int32.reduceToInt, Int32.reduceToNatClampNeg, Int.reduceLT, Int.reduceLE, Int.reduceNeg, true_and, and_true, or_self, or_false, false_or, false_and, and_false, true_or, or_true, if_true, if_false, ne_eq, Classical.not_not, not_true_eq_false, not_false_eq_true, true_implies, false_implies, implies_true, Nat.reduceEqDiff, Nat.reduceAdd, Nat.reduceLeDiff, Nat.reduceSub, reduceCtorEq, reduceIte, b112_12, zt]
  simp (disch := omega) only [nI_eqN]
  refine ⟨fun c => blank (Or.inr (Or.inl c)), fun c2 => ?_⟩
  simp only [lv_args, z_v, z_lg, z_h, z_u, z_u1, z_c, z_ct, z_sk, sbne, lst1_d, ldel, lst2_d, ldel2, z_sw, z_rok, zi, eq_self, List.map_cons, List.map_nil, List.append_nil, List.nil_append, List.cons_append, Int32.reduceLT, Int32.reduceLE, Int32.reduceAdd, Int32.reduceSub, Int32.reduceMul, Int32.reduceToInt, Int32.reduceToNatClampNeg, Int.reduceLT, Int.reduceLE, Int.reduceNeg, true_and, and_true, or_self, or_false, false_or, false_and, and_false, true_or, or_true, if_true, if_false, ne_eq, Classical.not_not, not_true_eq_false, not_false_eq_true, true_implies, false_implies, implies_true, Nat.reduceEqDiff, Nat.reduceAdd, Nat.reduceLeDiff, Nat.reduceSub, reduceCtorEq, reduceIte, b112_18, z9]
  simp (disch := omega) only [nI_eqN]
  refine ⟨fun c3 => ?_, fun c => blank (Or.inr (Or.inr c))⟩
  have nb : ¬ bkC (t p) := fun c => by
    rcases c with c | c | c
    · exact c1 c
    · exact c2 c
    · exact c3 c
  simp only [lv_args, z_v, z_lg, z_h, z_u, z_u1, z_c, z_ct, z_sk, sbne, lst1_d, ldel, lst2_d, ldel2, z_sw, z_rok, zi, eq_self, List.map_cons, List.map_nil, List.append_nil, List.nil_append, List.cons_append, Int32.reduceLT, Int32.reduceLE, Int32.reduceAdd, Int32.reduceSub, Int32.reduceMul, Int32.reduceToInt, Int32.reduceToNatClampNeg, Int.reduceLT, Int.reduceLE, Int.reduceNeg, true_and, and_true, or_self, or_false, false_or, false_and, and_false, true_or, or_true, if_true, if_false, ne_eq, Classical.not_not, not_true_eq_false, not_false_eq_true, true_implies, false_implies, implies_true, Nat.reduceEqDiff, Nat.reduceAdd, Nat.reduceLeDiff, Nat.reduceSub, reduceCtorEq, reduceIte, b112_28, z59]
  simp (disch := omega) only [nI_eqN]
  refine ⟨fun c4 => ?_, fun c4 => ?_⟩
  case refine_2 =>
    simp only [lv_args, z_v, z_lg, z_h, z_u, z_u1, z_c, z_ct, z_sk, sbne, lst1_d, ldel, lst2_d, ldel2, z_sw, z_rok, zi, eq_self, List.map_cons, List.map_nil, List.append_nil, List.nil_append, List.cons_append, Int32.reduceLT, Int32.reduceLE, Int32.reduceAdd, Int32.reduceSub, Int32.reduceMul, Int32.reduceToInt, Int32.reduceToNatClampNeg, Int.reduceLT, Int.reduceLE, Int.reduceNeg, true_and, and_true, or_self, or_false, false_or, false_and, and_false, true_or, or_true, if_true, if_false, ne_eq, Classical.not_not, not_true_eq_false, not_false_eq_true, true_implies, false_implies, implies_true, Nat.reduceEqDiff, Nat.reduceAdd, Nat.reduceLeDiff, Nat.reduceSub, reduceCtorEq, reduceIte, b112_34, skX s, h0]
    refine sp_behindLine s r (by omega) (by omega) ?_
    have fin := q2 (lne t n p) K mt N _ h (Or.inl ⟨Or.inr ⟨nb, c4, rfl⟩, rfl, rfl, rfl, rfl⟩) nt rn rs frw_rf
    simp only [lv_args, z_v, z_lg, z_h, z_u, z_u1, z_c, z_ct, z_sk, sbne, lst1_d, ldel, lst2_d, ldel2, z_sw, z_rok, zi, eq_self, List.map_cons, List.map_nil, List.append_nil, List.nil_append, List.cons_append, Int32.reduceLT, Int32.reduceLE, Int32.reduceAdd, Int32.reduceSub, Int32.reduceMul, Int32.reduceToInt, Int32.reduceToNatClampNeg, Int.reduceLT, Int.reduceLE, Int.reduceNeg, true_and, and_true, or_self, or_false, false_or, false_and, and_false, true_or, or_true, if_true, if_false, ne_eq, Classical.not_not, not_true_eq_false, not_false_eq_true, true_implies, false_implies, implies_true, Nat.reduceEqDiff, Nat.reduceAdd, Nat.reduceLeDiff, Nat.reduceSub, reduceCtorEq, reduceIte, b112_34, skX s, Nat.reduceLT]
    exact fin
  simp only [lv_args, z_v, z_lg, z_h, z_u, z_u1, z_c, z_ct, z_sk, sbne, lst1_d, ldel, lst2_d, ldel2, z_sw, z_rok, zi, eq_self, List.map_cons, List.map_nil, List.append_nil, List.nil_append, List.cons_append, Int32.reduceLT, Int32.reduceLE, Int32.reduceAdd, Int32.reduceSub, Int32.reduceMul, Int32.reduceToInt, Int32.reduceToNatClampNeg, Int.reduceLT, Int.reduceLE, Int.reduceNeg, true_and, and_true, or_self, or_false, false_or, false_and, and_false, true_or, or_true, if_true, if_false, ne_eq, Classical.not_not, not_true_eq_false, not_false_eq_true, true_implies, false_implies, implies_true, Nat.reduceEqDiff, Nat.reduceAdd, Nat.reduceLeDiff, Nat.reduceSub, reduceCtorEq, reduceIte, b112_40, h0]
  refine sp_isWordSign ht (by omega) ?_
  by_cases cw : isW (t p) = true
  · rw [if_pos cw]
    have hwe := we_le (t := t) (n := n) (n - (p + 1)) (p + 1)
    have hwe2 : we t n (p + 1) ≤ n := hwe.2 (by omega)
    have hwe1 : p + 1 ≤ we t n (p + 1) := hwe.1
    simp only [lv_args, z_v, z_lg, z_h, z_u, z_u1, z_c, z_ct, z_sk, sbne, lst1_d, ldel, lst2_d, ldel2, z_sw, z_rok, zi, eq_self, List.map_cons, List.map_nil, List.append_nil, List.nil_append, List.cons_append, Int32.reduceLT, Int32.reduceLE, Int32.reduceAdd, Int32.reduceSub, Int32.reduceMul, Int32.reduceToInt, Int32.reduceToNatClampNeg, Int.reduceLT, Int.reduceLE, Int.reduceNeg, true_and, and_true, or_self, or_false, false_or, false_and, and_false, true_or, or_true, if_true, if_false, ne_eq, Classical.not_not, not_true_eq_false, not_false_eq_true, true_implies, false_implies, implies_true, Nat.reduceEqDiff, Nat.reduceAdd, Nat.reduceLeDiff, Nat.reduceSub, reduceCtorEq, reduceIte, b112_40, skX s, Nat.reduceLT, z10]
    simp only [lv_args, z_v, z_lg, z_h, z_u, z_u1, z_c, z_ct, z_sk, sbne, lst1_d, ldel, lst2_d, ldel2, z_sw, z_rok, zi, eq_self, List.map_cons, List.map_nil, List.append_nil, List.nil_append, List.cons_append, Int32.reduceLT, Int32.reduceLE, Int32.reduceAdd, Int32.reduceSub, Int32.reduceMul, Int32.reduceToInt, Int32.reduceToNatClampNeg, Int.reduceLT, Int.reduceLE, Int.reduceNeg, true_and, and_true, or_self, or_false, false_or, false_and, and_false, true_or, or_true, if_true, if_false, ne_eq, Classical.not_not, not_true_eq_false, not_false_eq_true, true_implies, false_implies, implies_true, Nat.reduceEqDiff, Nat.reduceAdd, Nat.reduceLeDiff, Nat.reduceSub, reduceCtorEq, reduceIte, b112_47, skX s, h0]
    refine sp_behindWord s r hp (by omega) ?_
    simp only [lv_args, z_v, z_lg, z_h, z_u, z_u1, z_c, z_ct, z_sk, sbne, lst1_d, ldel, lst2_d, ldel2, z_sw, z_rok, zi, eq_self, List.map_cons, List.map_nil, List.append_nil, List.nil_append, List.cons_append, Int32.reduceLT, Int32.reduceLE, Int32.reduceAdd, Int32.reduceSub, Int32.reduceMul, Int32.reduceToInt, Int32.reduceToNatClampNeg, Int.reduceLT, Int.reduceLE, Int.reduceNeg, true_and, and_true, or_self, or_false, false_or, false_and, and_false, true_or, or_true, if_true, if_false, ne_eq, Classical.not_not, not_true_eq_false, not_false_eq_true, true_implies, false_implies, implies_true, Nat.reduceEqDiff, Nat.reduceAdd, Nat.reduceLeDiff, Nat.reduceSub, reduceCtorEq, reduceIte, b112_47, skX s, h0, Nat.reduceLT]
    refine sp_takeWord s rm0 r nt rn rs ws rmN (by omega) (by omega) hwe2 (by omega) h20 (room cw) hlK hm (fun wb => ?_) (fun k v K' mt' h1 wg nt1 rn1 rs1 F1 => ?_)
    · have fin := q1 1 (we t n (p + 1)) (by decide) ⟨nb, c4, Or.inl ⟨cw, wb, rfl⟩⟩
      simp only [lv_args, z_v, z_lg, z_h, z_u, z_u1, z_c, z_ct, z_sk, sbne, lst1_d, ldel, lst2_d, ldel2, z_sw, z_rok, zi, eq_self, List.map_cons, List.map_nil, List.append_nil, List.nil_append, List.cons_append, Int32.reduceLT, Int32.reduceLE, Int32.reduceAdd, Int32.reduceSub, Int32.reduceMul, Int32.reduceToInt, Int32.reduceToNatClampNeg, Int.reduceLT, Int.reduceLE, Int.reduceNeg, true_and, and_true, or_self, or_false, false_or, false_and, and_false, true_or, or_true, if_true, if_false, ne_eq, Classical.not_not, not_true_eq_false, not_false_eq_true, true_implies, false_implies, implies_true, Nat.reduceEqDiff, Nat.reduceAdd, Nat.reduceLeDiff, Nat.reduceSub, reduceCtorEq, reduceIte, b112_47, skX s, Nat.reduceLT]
      exact fin
    · have hv1 : hv h1 = hv h := F1.2.2.2.2.2.1
      have fin := q2 (we t n (p + 1)) K' mt' _ _ h1 (Or.inr (Or.inl ⟨nb, c4, cw, rfl, k, v, e0, l, wg, rfl, rfl, rfl⟩)) nt1 rn1 rs1 F1
      simp only [lv_args, z_v, z_lg, z_h, z_u, z_u1, z_c, z_ct, z_sk, sbne, lst1_d, ldel, lst2_d, ldel2, z_sw, z_rok, zi, eq_self, List.map_cons, List.map_nil, List.append_nil, List.nil_append, List.cons_append, Int32.reduceLT, Int32.reduceLE, Int32.reduceAdd, Int32.reduceSub, Int32.reduceMul, Int32.reduceToInt, Int32.reduceToNatClampNeg, Int.reduceLT, Int.reduceLE, Int.reduceNeg, true_and, and_true, or_self, or_false, false_or, false_and, and_false, true_or, or_true, if_true, if_false, ne_eq, Classical.not_not, not_true_eq_false, not_false_eq_true, true_implies, false_implies, implies_true, Nat.reduceEqDiff, Nat.reduceAdd, Nat.reduceLeDiff, Nat.reduceSub, reduceCtorEq, reduceIte, b112_47, skX s, hv1, Nat.reduceLT]
      exact fin
  · have cw' : isW (t p) = false := by simpa using cw
    rw [if_neg cw]
    simp only [lv_args, z_v, z_lg, z_h, z_u, z_u1, z_c, z_ct, z_sk, sbne, lst1_d, ldel, lst2_d, ldel2, z_sw, z_rok, zi, eq_self, List.map_cons, List.map_nil, List.append_nil, List.nil_append, List.cons_append, Int32.reduceLT, Int32.reduceLE, Int32.reduceAdd, Int32.reduceSub, Int32.reduceMul, Int32.reduceToInt, Int32.reduceToNatClampNeg, Int.reduceLT, Int.reduceLE, Int.reduceNeg, true_and, and_true, or_self, or_false, false_or, false_and, and_false, true_or, or_true, if_true, if_false, ne_eq, Classical.not_not, not_true_eq_false, not_false_eq_true, true_implies, false_implies, implies_true, Nat.reduceEqDiff, Nat.reduceAdd, Nat.reduceLeDiff, Nat.reduceSub, reduceCtorEq, reduceIte, b112_40, skX s, Nat.reduceLT]
    simp only [lv_args, z_v, z_lg, z_h, z_u, z_u1, z_c, z_ct, z_sk, sbne, lst1_d, ldel, lst2_d, ldel2, z_sw, z_rok, zi, eq_self, List.map_cons, List.map_nil, List.append_nil, List.nil_append, List.cons_append, Int32.reduceLT, Int32.reduceLE, Int32.reduceAdd, Int32.reduceSub, Int32.reduceMul, Int32.reduceToInt, Int32.reduceToNatClampNeg, Int.reduceLT, Int.reduceLE, Int.reduceNeg, true_and, and_true, or_self, or_false, false_or, false_and, and_false, true_or, or_true, if_true, if_false, ne_eq, Classical.not_not, not_true_eq_false, not_false_eq_true, true_implies, false_implies, implies_true, Nat.reduceEqDiff, Nat.reduceAdd, Nat.reduceLeDiff, Nat.reduceSub, reduceCtorEq, reduceIte, b112_61, z40]
    simp (disch := omega) only [nI_eqN]
    refine ⟨fun c5 => ?_, fun c5 => ?_⟩
    case refine_2 =>
      simp only [lv_args, z_v, z_lg, z_h, z_u, z_u1, z_c, z_ct, z_sk, sbne, lst1_d, ldel, lst2_d, ldel2, z_sw, z_rok, zi, eq_self, List.map_cons, List.map_nil, List.append_nil, List.nil_append, List.cons_append, Int32.reduceLT, Int32.reduceLE, Int32.reduceAdd, Int32.reduceSub, Int32.reduceMul, Int32.reduceToInt, Int32.reduceToNatClampNeg, Int.reduceLT, Int.reduceLE, Int.reduceNeg, true_and, and_true, or_self, or_false, false_or, false_and, and_false, true_or, or_true, if_true, if_false, ne_eq, Classical.not_not, not_true_eq_false, not_false_eq_true, true_implies, false_implies, implies_true, Nat.reduceEqDiff, Nat.reduceAdd, Nat.reduceLeDiff, Nat.reduceSub, reduceCtorEq, reduceIte, b112_67, skX s, h0]
      refine sp_openList (b := false) s rm0 rn rs ws rmN (by omega) (by omega) h20 (fun c => ?_) (fun c h1 rn1 rs1 F1 => ?_)
      · have fin := q1 2 (p + 1) (by decide) ⟨nb, c4, Or.inr ⟨cw', Or.inl ⟨Or.inl c5, by simp only [List.length_cons]; omega, rfl⟩⟩⟩
        simp only [lv_args, z_v, z_lg, z_h, z_u, z_u1, z_c, z_ct, z_sk, sbne, lst1_d, ldel, lst2_d, ldel2, z_sw, z_rok, zi, eq_self, List.map_cons, List.map_nil, List.append_nil, List.nil_append, List.cons_append, Int32.reduceLT, Int32.reduceLE, Int32.reduceAdd, Int32.reduceSub, Int32.reduceMul, Int32.reduceToInt, Int32.reduceToNatClampNeg, Int.reduceLT, Int.reduceLE, Int.reduceNeg, true_and, and_true, or_self, or_false, false_or, false_and, and_false, true_or, or_true, if_true, if_false, ne_eq, Classical.not_not, not_true_eq_false, not_false_eq_true, true_implies, false_implies, implies_true, Nat.reduceEqDiff, Nat.reduceAdd, Nat.reduceLeDiff, Nat.reduceSub, reduceCtorEq, reduceIte, b112_67, skX s, Nat.reduceLT]
        exact out _ fin
      · have hv1 : hv h1 = hv h := F1.2.2.2.2.2.1
        have fin := q2 (p + 1) K mt _ _ h1 (Or.inr (Or.inr (Or.inl ⟨c5, rfl, rfl, rfl, e0, l, rfl, c, rfl, rfl⟩))) (frr_nt F1 nt) rn1 rs1 (frw_r F1)
        simp only [lv_args, z_v, z_lg, z_h, z_u, z_u1, z_c, z_ct, z_sk, sbne, lst1_d, ldel, lst2_d, ldel2, z_sw, z_rok, zi, eq_self, List.map_cons, List.map_nil, List.append_nil, List.nil_append, List.cons_append, Int32.reduceLT, Int32.reduceLE, Int32.reduceAdd, Int32.reduceSub, Int32.reduceMul, Int32.reduceToInt, Int32.reduceToNatClampNeg, Int.reduceLT, Int.reduceLE, Int.reduceNeg, true_and, and_true, or_self, or_false, false_or, false_and, and_false, true_or, or_true, if_true, if_false, ne_eq, Classical.not_not, not_true_eq_false, not_false_eq_true, true_implies, false_implies, implies_true, Nat.reduceEqDiff, Nat.reduceAdd, Nat.reduceLeDiff, Nat.reduceSub, reduceCtorEq, reduceIte, b112_67, skX s, hv1, Nat.reduceLT]
        exact out _ fin
    simp only [lv_args, z_v, z_lg, z_h, z_u, z_u1, z_c, z_ct, z_sk, sbne, lst1_d, ldel, lst2_d, ldel2, z_sw, z_rok, zi, eq_self, List.map_cons, List.map_nil, List.append_nil, List.nil_append, List.cons_append, Int32.reduceLT, Int32.reduceLE, Int32.reduceAdd, Int32.reduceSub, Int32.reduceMul, Int32.reduceToInt, Int32.reduceToNatClampNeg, Int.reduceLT, Int.reduceLE, Int.reduceNeg, true_and, and_true, or_self, or_false, false_or, false_and, and_false, true_or, or_true, if_true, if_false, ne_eq, Classical.not_not, not_true_eq_false, not_false_eq_true, true_implies, false_implies, implies_true, Nat.reduceEqDiff, Nat.reduceAdd, Nat.reduceLeDiff, Nat.reduceSub, reduceCtorEq, reduceIte, b112_77, z39]
    simp (disch := omega) only [nI_eqN]
    refine ⟨fun c6 => ?_, fun c6 => ?_⟩
    case refine_2 =>
      simp only [lv_args, z_v, z_lg, z_h, z_u, z_u1, z_c, z_ct, z_sk, sbne, lst1_d, ldel, lst2_d, ldel2, z_sw, z_rok, zi, eq_self, List.map_cons, List.map_nil, List.append_nil, List.nil_append, List.cons_append, Int32.reduceLT, Int32.reduceLE, Int32.reduceAdd, Int32.reduceSub, Int32.reduceMul, Int32.reduceToInt, Int32.reduceToNatClampNeg, Int.reduceLT, Int.reduceLE, Int.reduceNeg, true_and, and_true, or_self, or_false, false_or, false_and, and_false, true_or, or_true, if_true, if_false, ne_eq, Classical.not_not, not_true_eq_false, not_false_eq_true, true_implies, false_implies, implies_true, Nat.reduceEqDiff, Nat.reduceAdd, Nat.reduceLeDiff, Nat.reduceSub, reduceCtorEq, reduceIte, b112_83, skX s, h0]
      refine sp_openQuote s rm0 nt hK0 hr8 hm rn rs ws rm hl (by omega) h20 (fun c => ?_) (fun c h1 nt1 rn1 rs1 F1 => ?_)
      · have fin := q1 2 (p + 1) (by decide) ⟨nb, c4, Or.inr ⟨cw', Or.inl ⟨Or.inr c6, by simp only [List.length_cons]; omega, rfl⟩⟩⟩
        simp only [lv_args, z_v, z_lg, z_h, z_u, z_u1, z_c, z_ct, z_sk, sbne, lst1_d, ldel, lst2_d, ldel2, z_sw, z_rok, zi, eq_self, List.map_cons, List.map_nil, List.append_nil, List.nil_append, List.cons_append, Int32.reduceLT, Int32.reduceLE, Int32.reduceAdd, Int32.reduceSub, Int32.reduceMul, Int32.reduceToInt, Int32.reduceToNatClampNeg, Int.reduceLT, Int.reduceLE, Int.reduceNeg, true_and, and_true, or_self, or_false, false_or, false_and, and_false, true_or, or_true, if_true, if_false, ne_eq, Classical.not_not, not_true_eq_false, not_false_eq_true, true_implies, false_implies, implies_true, Nat.reduceEqDiff, Nat.reduceAdd, Nat.reduceLeDiff, Nat.reduceSub, reduceCtorEq, reduceIte, b112_83, skX s, Nat.reduceLT]
        exact out _ fin
      · have hv1 : hv h1 = hv h := F1.2.2.2.2.2.1
        have fin := q2 (p + 1) K _ _ _ h1 (Or.inr (Or.inr (Or.inr (Or.inl ⟨c6, rfl, rfl, rfl, e0, l, rfl, c, rfl, rfl⟩)))) nt1 rn1 rs1 F1
        simp only [lv_args, z_v, z_lg, z_h, z_u, z_u1, z_c, z_ct, z_sk, sbne, lst1_d, ldel, lst2_d, ldel2, z_sw, z_rok, zi, eq_self, List.map_cons, List.map_nil, List.append_nil, List.nil_append, List.cons_append, Int32.reduceLT, Int32.reduceLE, Int32.reduceAdd, Int32.reduceSub, Int32.reduceMul, Int32.reduceToInt, Int32.reduceToNatClampNeg, Int.reduceLT, Int.reduceLE, Int.reduceNeg, true_and, and_true, or_self, or_false, false_or, false_and, and_false, true_or, or_true, if_true, if_false, ne_eq, Classical.not_not, not_true_eq_false, not_false_eq_true, true_implies, false_implies, implies_true, Nat.reduceEqDiff, Nat.reduceAdd, Nat.reduceLeDiff, Nat.reduceSub, reduceCtorEq, reduceIte, b112_83, skX s, hv1, Nat.reduceLT]
        exact out _ fin
    have bad : ¬ (t p = 41 ∧ ∃ e e' l', e0 :: l = e :: e' :: l' ∧ e.2.2 = false) → aWP d 112 128 [(2, .int (nI (t p))), (0, .ref 3), (1, .int (nI p))] [] h Q := fun hb => by
      have fin := q1 1 (p + 1) (by decide) ⟨nb, c4, Or.inr ⟨cw', Or.inr ⟨c5, c6, hb, rfl⟩⟩⟩
      simp only [lv_args, z_v, z_lg, z_h, z_u, z_u1, z_c, z_ct, z_sk, sbne, lst1_d, ldel, lst2_d, ldel2, z_sw, z_rok, zi, eq_self, List.map_cons, List.map_nil, List.append_nil, List.nil_append, List.cons_append, Int32.reduceLT, Int32.reduceLE, Int32.reduceAdd, Int32.reduceSub, Int32.reduceMul, Int32.reduceToInt, Int32.reduceToNatClampNeg, Int.reduceLT, Int.reduceLE, Int.reduceNeg, true_and, and_true, or_self, or_false, false_or, false_and, and_false, true_or, or_true, if_true, if_false, ne_eq, Classical.not_not, not_true_eq_false, not_false_eq_true, true_implies, false_implies, implies_true, Nat.reduceEqDiff, Nat.reduceAdd, Nat.reduceLeDiff, Nat.reduceSub, reduceCtorEq, reduceIte, b112_128, skX s, srX s, h0, e33_2 _ _ s, h20, Nat.reduceLT]
      exact out _ fin
    simp only [lv_args, z_v, z_lg, z_h, z_u, z_u1, z_c, z_ct, z_sk, sbne, lst1_d, ldel, lst2_d, ldel2, z_sw, z_rok, zi, eq_self, List.map_cons, List.map_nil, List.append_nil, List.nil_append, List.cons_append, Int32.reduceLT, Int32.reduceLE, Int32.reduceAdd, Int32.reduceSub, Int32.reduceMul, Int32.reduceToInt, Int32.reduceToNatClampNeg, Int.reduceLT, Int.reduceLE, Int.reduceNeg, true_and, and_true, or_self, or_false, false_or, false_and, and_false, true_or, or_true, if_true, if_false, ne_eq, Classical.not_not, not_true_eq_false, not_false_eq_true, true_implies, false_implies, implies_true, Nat.reduceEqDiff, Nat.reduceAdd, Nat.reduceLeDiff, Nat.reduceSub, reduceCtorEq, reduceIte, b112_91, z41]
    simp (disch := omega) only [nI_eqN]
    refine ⟨fun c7 => bad (fun w => c7 w.1), fun c7 => ?_⟩
    have i11 : hI h 3 11 = nI l.length := rs.2.1
    have hll : l.length + 1 ≤ 31 := rs.1
    have h17 : hN h 17 = 31 := rm0.1.2 (17, 31) (by decide)
    simp only [lv_args, z_v, z_lg, z_h, z_u, z_u1, z_c, z_ct, z_sk, sbne, lst1_d, ldel, lst2_d, ldel2, z_sw, z_rok, zi, eq_self, List.map_cons, List.map_nil, List.append_nil, List.nil_append, List.cons_append, Int32.reduceLT, Int32.reduceLE, Int32.reduceAdd, Int32.reduceSub, Int32.reduceMul, Int32.reduceToInt, Int32.reduceToNatClampNeg, Int.reduceLT, Int.reduceLE, Int.reduceNeg, true_and, and_true, or_self, or_false, false_or, false_and, and_false, true_or, or_true, if_true, if_false, ne_eq, Classical.not_not, not_true_eq_false, not_false_eq_true, true_implies, false_implies, implies_true, Nat.reduceEqDiff, Nat.reduceAdd, Nat.reduceLeDiff, Nat.reduceSub, reduceCtorEq, reduceIte, b112_97, skX s, i11]
    cases l with
    | nil =>
      have c0 : (nI ([] : List SE).length ≤ 0) = True := eq_true (by decide)
      simp only [c0, true_imp_iff, not_true_eq_false, false_imp_iff, and_true]
      exact bad (fun w => by obtain ⟨_, e, e', l', w2, _⟩ := w; simp at w2)
    | cons e' l' =>
      have c0 : (nI (e' :: l').length ≤ 0) = False := by rw [le_0N (by omega)]; exact eq_false (by simp)
      have i11 : hI h 3 11 = nI (l'.length + 1) := i11
      have hll : l'.length + 2 ≤ 31 := hll
      have t3 := (rs.2.2 (l'.length + 1) e0 rev_last).2.2
      simp only [c0, false_imp_iff, not_false_eq_true, true_imp_iff, true_and]
      simp only [lv_args, z_v, z_lg, z_h, z_u, z_u1, z_c, z_ct, z_sk, sbne, lst1_d, ldel, lst2_d, ldel2, z_sw, z_rok, zi, eq_self, List.map_cons, List.map_nil, List.append_nil, List.nil_append, List.cons_append, Int32.reduceLT, Int32.reduceLE, Int32.reduceAdd, Int32.reduceSub, Int32.reduceMul, Int32.reduceToInt, Int32.reduceToNatClampNeg, Int.reduceLT, Int.reduceLE, Int.reduceNeg, true_and, and_true, or_self, or_false, false_or, false_and, and_false, true_or, or_true, if_true, if_false, ne_eq, Classical.not_not, not_true_eq_false, not_false_eq_true, true_implies, false_implies, implies_true, Nat.reduceEqDiff, Nat.reduceAdd, Nat.reduceLeDiff, Nat.reduceSub, reduceCtorEq, reduceIte, b112_104, skX s, h0]
      refine sp_inQ1 s h17 rs ?_
      simp only [lv_args, z_v, z_lg, z_h, z_u, z_u1, z_c, z_ct, z_sk, sbne, lst1_d, ldel, lst2_d, ldel2, z_sw, z_rok, zi, eq_self, List.map_cons, List.map_nil, List.append_nil, List.nil_append, List.cons_append, Int32.reduceLT, Int32.reduceLE, Int32.reduceAdd, Int32.reduceSub, Int32.reduceMul, Int32.reduceToInt, Int32.reduceToNatClampNeg, Int.reduceLT, Int.reduceLE, Int.reduceNeg, true_and, and_true, or_self, or_false, false_or, false_and, and_false, true_or, or_true, if_true, if_false, ne_eq, Classical.not_not, not_true_eq_false, not_false_eq_true, true_implies, false_implies, implies_true, Nat.reduceEqDiff, Nat.reduceAdd, Nat.reduceLeDiff, Nat.reduceSub, reduceCtorEq, reduceIte, b112_104, skX s, Nat.reduceLT]
      by_cases cb : e0.2.2 = true
      · rw [if_pos cb]
        simp only [z10, not_false_eq_true, true_imp_iff, false_imp_iff, and_true]
        refine bad (fun w => ?_)
        obtain ⟨_, e, e2, l2, w2, w3⟩ := w
        injection w2 with w4 _
        rw [← w4, cb] at w3
        cases w3
      · have cb' : e0.2.2 = false := by simpa using cb
        rw [if_neg cb]
        simp only [not_true_eq_false, false_imp_iff, true_imp_iff, true_and]
        simp only [lv_args, z_v, z_lg, z_h, z_u, z_u1, z_c, z_ct, z_sk, sbne, lst1_d, ldel, lst2_d, ldel2, z_sw, z_rok, zi, eq_self, List.map_cons, List.map_nil, List.append_nil, List.nil_append, List.cons_append, Int32.reduceLT, Int32.reduceLE, Int32.reduceAdd, Int32.reduceSub, Int32.reduceMul, Int32.reduceToInt, Int32.reduceToNatClampNeg, Int.reduceLT, Int.reduceLE, Int.reduceNeg, true_and, and_true, or_self, or_false, false_or, false_and, and_false, true_or, or_true, if_true, if_false, ne_eq, Classical.not_not, not_true_eq_false, not_false_eq_true, true_implies, false_implies, implies_true, Nat.reduceEqDiff, Nat.reduceAdd, Nat.reduceLeDiff, Nat.reduceSub, reduceCtorEq, reduceIte, b112_111, skX s, i11, nI_m1, h0]
        refine sp_closeQuotes (by omega) (h := pI h 3 11 (nI l'.length)) (sk_u1 s) h17 rn (rsk_pop rs) (by simp) (fun h1 rn1 rs1 F1 => ?_)
        have F0 : FrR h (pI h 3 11 (nI l'.length)) := ⟨rfl, rfl, rfl, rfl, rfl, rfl, fun a i c => up2_ne (by omega), rfl, fun _ _ => rfl, rfl⟩
        have hv1 : hv h1 = hv h := F1.2.2.2.2.2.1
        have fin := q2 (p + 1) K mt N _ h1 (Or.inr (Or.inr (Or.inr (Or.inr ⟨c7, rfl, rfl, rfl, rfl, e0, e', l', rfl, cb', rfl⟩)))) (frr_nt (frr_tr F0 F1) nt) rn1 rs1 (frw_r (frr_tr F0 F1))
        simp only [lv_args, z_v, z_lg, z_h, z_u, z_u1, z_c, z_ct, z_sk, sbne, lst1_d, ldel, lst2_d, ldel2, z_sw, z_rok, zi, eq_self, List.map_cons, List.map_nil, List.append_nil, List.nil_append, List.cons_append, Int32.reduceLT, Int32.reduceLE, Int32.reduceAdd, Int32.reduceSub, Int32.reduceMul, Int32.reduceToInt, Int32.reduceToNatClampNeg, Int.reduceLT, Int.reduceLE, Int.reduceNeg, true_and, and_true, or_self, or_false, false_or, false_and, and_false, true_or, or_true, if_true, if_false, ne_eq, Classical.not_not, not_true_eq_false, not_false_eq_true, true_implies, false_implies, implies_true, Nat.reduceEqDiff, Nat.reduceAdd, Nat.reduceLeDiff, Nat.reduceSub, reduceCtorEq, reduceIte, b112_111, skX s, hv1, Nat.reduceLT]
        exact out _ fin
end RTK
