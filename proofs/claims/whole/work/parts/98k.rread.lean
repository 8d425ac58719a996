/-! BUILD. readText -/
/-- what was read: the fault, or none -/
def RDt (t : Nat → Nat) (n : Nat) (r : Option (Nat × Nat)) (K : List KY) (mt : List Nat) (N : NS) (stk : List SE) : Prop := ∃ r0, CRn t n (n + 1) 0 K30 [] (nwN (0, fun _ => 0, fun _ => 0, fun _ => 0, fun _ => -1, fun _ => -1) 6 0 0) [(0, none, false)] r0 K mt N stk ∧ ((∃ x, r0 = some x ∧ r = r0) ∨ (r0 = none ∧ stk.length = 1 ∧ r = none) ∨ (r0 = none ∧ 1 < stk.length ∧ r = some (1, n)))
section RDX
variable {h h' : Hp} {Q : Option Value → Hp → Prop} {d n : Nat} {t : Nat → Nat}
/-- behind the loop -/
theorem rt_end {K : List KY} {mt : List Nat} {N : NS} {stk : List SE} {x3 x4 : Int32} {r0 : Option (Nat × Nat)} (s : Sk h) (h0 : 0 < d) (e13 : hI h 3 13 = nI n) (hne : stk ≠ []) (rs : RSk stk h) (hr : (r0 = none ∧ hI h 2 0 = 0) ∨ (∃ x, r0 = some x) ∧ hI h 2 0 ≠ 0) (q1 : (∃ x, r0 = some x) ∨ stk.length = 1 → Q none h) (q2 : r0 = none → 1 < stk.length → Q none (pI (pI h 2 0 1) 2 1 (nI n))) : aWP d 130 107 [(4, .int x4), (3, .int x3), (0, .ref 3), (1, .ref 1), (2, .int (nI n))] [] h Q := by
  have i11 := rs.2.1
  have hl := rs.1
  have hl1 : 0 < stk.length := List.length_pos_iff.mpr hne
  simp only [lv_args, z_v, z_lg, z_h, z_u, z_u1, z_c, z_ct, z_sk, sbne, lst1_d, ldel, lst2_d, ldel2, z_sw, z_rok, zi, eq_self, List.map_cons, List.map_nil, List.append_nil, List.nil_append, List.cons_append, Int32.reduceLT, Int32.reduceLE, Int32.reduceAdd, Int32.reduceSub, Int32.reduceMul, Int32.reduceToInt, Int32.reduceToNatClampNeg, Int.reduceLT, Int.reduceLE, Int.reduceNeg, true_and, and_true, or_self, or_false, false_or, false_and, and_false, true_or, or_true, if_true, if_false, ne_eq, Classical.not_not, not_true_eq_false, not_false_eq_true, true_implies, false_implies, implies_true, Nat.reduceEqDiff, Nat.reduceAdd, Nat.reduceLeDiff, Nat.reduceSub, reduceCtorEq, reduceIte, b130_107, skX s, i11]
  by_cases c : stk.length = 1
  · have c0 : (nI (stk.length - 1) ≤ 0) = True := by rw [le_0N (by omega)]; exact eq_true (by omega)
    simp only [c0, true_imp_iff, not_true_eq_false, false_imp_iff, and_true]
    simp only [lv_args, z_v, z_lg, z_h, z_u, z_u1, z_c, z_ct, z_sk, sbne, lst1_d, ldel, lst2_d, ldel2, z_sw, z_rok, zi, eq_self, List.map_cons, List.map_nil, List.append_nil, List.nil_append, List.cons_append, Int32.reduceLT, Int32.reduceLE, Int32.reduceAdd, Int32.reduceSub, Int32.reduceMul, Int32.reduceToInt, Int32.reduceToNatClampNeg, Int.reduceLT, Int.reduceLE, Int.reduceNeg, true_and, and_true, or_self, or_false, false_or, false_and, and_false, true_or, or_true, if_true, if_false, ne_eq, Classical.not_not, not_true_eq_false, not_false_eq_true, true_implies, false_implies, implies_true, Nat.reduceEqDiff, Nat.reduceAdd, Nat.reduceLeDiff, Nat.reduceSub, reduceCtorEq, reduceIte, b130_126]
    exact q1 (Or.inr c)
  · have c0 : (nI (stk.length - 1) ≤ 0) = False := by rw [le_0N (by omega)]; exact eq_false (by omega)
    simp only [c0, false_imp_iff, not_false_eq_true, true_imp_iff, true_and]
    rcases hr with ⟨e, e20⟩ | ⟨hx, e20⟩
    · have fin := q2 e (by omega)
      simp only [lv_args, z_v, z_lg, z_h, z_u, z_u1, z_c, z_ct, z_sk, sbne, lst1_d, ldel, lst2_d, ldel2, z_sw, z_rok, zi, eq_self, List.map_cons, List.map_nil, List.append_nil, List.nil_append, List.cons_append, Int32.reduceLT, Int32.reduceLE, Int32.reduceAdd, Int32.reduceSub, Int32.reduceMul, Int32.reduceToInt, Int32.reduceToNatClampNeg, Int.reduceLT, Int.reduceLE, Int.reduceNeg, true_and, and_true, or_self, or_false, false_or, false_and, and_false, true_or, or_true, if_true, if_false, ne_eq, Classical.not_not, not_true_eq_false, not_false_eq_true, true_implies, false_implies, implies_true, Nat.reduceEqDiff, Nat.reduceAdd, Nat.reduceLeDiff, Nat.reduceSub, reduceCtorEq, reduceIte, b130_114, b130_126, skX s, srX s, h0, e13, e33_2 _ _ s, e20, Nat.reduceLT]
      exact fin
    · have fin := q1 (Or.inl hx)
      have e20' : ¬ hI h 2 0 = 0 := e20
      simp only [lv_args, z_v, z_lg, z_h, z_u, z_u1, z_c, z_ct, z_sk, sbne, lst1_d, ldel, lst2_d, ldel2, z_sw, z_rok, zi, eq_self, List.map_cons, List.map_nil, List.append_nil, List.nil_append, List.cons_append, Int32.reduceLT, Int32.reduceLE, Int32.reduceAdd, Int32.reduceSub, Int32.reduceMul, Int32.reduceToInt, Int32.reduceToNatClampNeg, Int.reduceLT, Int.reduceLE, Int.reduceNeg, true_and, and_true, or_self, or_false, false_or, false_and, and_false, true_or, or_true, if_true, if_false, ne_eq, Classical.not_not, not_true_eq_false, not_false_eq_true, true_implies, false_implies, implies_true, Nat.reduceEqDiff, Nat.reduceAdd, Nat.reduceLeDiff, Nat.reduceSub, reduceCtorEq, reduceIte, b130_114, b130_126, skX s, srX s, h0, e13, e33_2 _ _ s, e20', Nat.reduceLT]
      exact fin
abbrev Xn (k : Nat) : Prop := (4 ≤ k ∧ k ≤ 9) ∨ 130 ≤ k
theorem rtl_n : ∀ e, e ∈ RTl → Xn e.1.1 → Xn e.2 := by decide +kernel
theorem rg_n (s : Sk h) : Rg Xn h := by
  have h130 := s.2.2
  have sb : SB = 1000000 := rfl
  refine ⟨fun k hk => Or.inr (by omega), fun k hk => Or.inr (by omega), fun a b r ha e => ?_⟩
  cases c : isVr a b with
  | false =>
    rw [s.2.1 a b c] at e
    exact rtl_n _ (lkm_rt e) ha
  | true =>
    have hc := vr_is c
    unfold Xn at ha
    omega
/-- from names.begin to the loop -/
theorem rt_mid (c : CB h) (r : RT t n h) (h20 : hI h 2 0 = 0) (hd : 60 < d) (hq : ∀ h', CB h' → RT t n h' → NT K30 [] h' → (n / 2 + 32 ≤ hN h' 5 ∧ n / 2 + 32 ≤ hN h' 6 ∧ n / 2 + 32 ≤ hN h' 7 ∧ n / 2 + 32 ≤ hN h' 8) → (1 + 2 * n ≤ hN h' 10 ∧ 1 + 2 * n ≤ hN h' 11 ∧ 1 + 2 * n ≤ hN h' 12 ∧ 1 + 2 * n ≤ hN h' 13 ∧ 1 + 2 * n ≤ hN h' 14) → hI h' 3 7 = 0 → hI h' 2 0 = 0 → hI h' 2 1 = hI h 2 1 → aWP d 130 30 [(0, .ref 3), (1, .ref 1), (2, .int (nI n))] [] h' Q) : aWP d 130 15 [(0, .ref 3), (1, .ref 1), (2, .int (nI n))] [] h Q := by
  have h0 : 0 < d := by omega
  have s := c.1
  have r1 := r.1
  have r4 := r.2.2.2.1
  have hxS : xS Xn [.ref 4, .int (nI n)] := fun v hv k e => by
    simp only [List.mem_cons, List.not_mem_nil, or_false] at hv
    rcases hv with rfl | rfl
    · injection e with e
      subst e
      exact Or.inl ⟨by decide, by decide⟩
    · cases e
  have E := sp_nbegin (d := d - 1) (Q := fun r h' => r = none ∧ CB h' ∧ NT K30 [] h' ∧ (n / 2 + 32 ≤ hN h' 5 ∧ n / 2 + 32 ≤ hN h' 6 ∧ n / 2 + 32 ≤ hN h' 7 ∧ n / 2 + 32 ≤ hN h' 8) ∧ hv h' 1 = hv h 1) c r4 (by omega) (fun h' a b c e => ⟨rfl, a, b, c, e⟩)
  have k1 : hK h 1 = 13 := s.1 1 (by decide)
  simp only [lv_args, z_v, z_lg, z_h, z_u, z_u1, z_c, z_ct, z_sk, sbne, lst1_d, ldel, lst2_d, ldel2, z_sw, z_rok, zi, eq_self, List.map_cons, List.map_nil, List.append_nil, List.nil_append, List.cons_append, Int32.reduceLT, Int32.reduceLE, Int32.reduceAdd, Int32.reduceSub, Int32.reduceMul, Int32.reduceToInt, Int32.reduceToNatClampNeg, Int.reduceLT, Int.reduceLE, Int.reduceNeg, true_and, and_true, or_self, or_false, false_or, false_and, and_false, true_or, or_true, if_true, if_false, ne_eq, Classical.not_not, not_true_eq_false, not_false_eq_true, true_implies, false_implies, implies_true, Nat.reduceEqDiff, Nat.reduceAdd, Nat.reduceLeDiff, Nat.reduceSub, reduceCtorEq, reduceIte, b130_0, skX s, srX s, h0, r1]
  refine aEv_mono (aEv_frame Xn (rg_n s) hxS E) ?_
  rintro rr h1 ⟨⟨rfl, c1, nt1, rm1, u1⟩, _, sm, mo⟩
  have s1 := c1.1
  have e3 := sm 3 (by unfold Xn; omega)
  have e1 := sm 1 (by unfold Xn; omega)
  have e2 := sm 2 (by unfold Xn; omega)
  have r' : RT t n h1 := by
    unfold RT at r ⊢
    rw [e3.1, e3.2.2.1, e1.2.2.2.1, e1.2.2.2.2.2.1]
    exact r
  simp only [lv_args, z_v, z_lg, z_h, z_u, z_u1, z_c, z_ct, z_sk, sbne, lst1_d, ldel, lst2_d, ldel2, z_sw, z_rok, zi, eq_self, List.map_cons, List.map_nil, List.append_nil, List.nil_append, List.cons_append, Int32.reduceLT, Int32.reduceLE, Int32.reduceAdd, Int32.reduceSub, Int32.reduceMul, Int32.reduceToInt, Int32.reduceToNatClampNeg, Int.reduceLT, Int.reduceLE, Int.reduceNeg, true_and, and_true, or_self, or_false, false_or, false_and, and_false, true_or, or_true, if_true, if_false, ne_eq, Classical.not_not, not_true_eq_false, not_false_eq_true, true_implies, false_implies, implies_true, Nat.reduceEqDiff, Nat.reduceAdd, Nat.reduceLeDiff, Nat.reduceSub, reduceCtorEq, reduceIte, b130_0, skX s, skX s1, h0, u1, Nat.reduceLT]
  refine sp_beginNodes c1 (r'.1) r4 (by omega) (fun h2 c2 m2 i7 iE aE lE rE u2 => ?_)
  have s2 := c2.1
  have nt2 : NT K30 [] h2 := by
    unfold NT at nt1 ⊢
    rw [iE 4 5 (by omega), iE 4 6 (by omega), (aE 5 (by decide) (by decide)).2.1, (aE 6 (by decide) (by decide)).2.1, (aE 7 (by decide) (by decide)).1, (aE 8 (by decide) (by decide)).1, (aE 9 (by decide) (by decide)).1, (aE 9 (by decide) (by decide)).2.2]
    exact nt1
  have r2 : RT t n h2 := by
    unfold RT at r' ⊢
    rw [iE 3 13 (by omega), rE, (aE 1 (by decide) (by decide)).1, (aE 1 (by decide) (by decide)).2.2]
    exact r'
  have fin := hq h2 c2 r2 nt2 (by rw [(aE 5 (by decide) (by decide)).2.2, (aE 6 (by decide) (by decide)).2.2, (aE 7 (by decide) (by decide)).2.2, (aE 8 (by decide) (by decide)).2.2]; exact rm1) m2 i7 ((iE 2 0 (by omega)).trans (by rw [e2.1]; exact h20)) ((iE 2 1 (by omega)).trans (by rw [e2.1]))
  simp only [lv_args, z_v, z_lg, z_h, z_u, z_u1, z_c, z_ct, z_sk, sbne, lst1_d, ldel, lst2_d, ldel2, z_sw, z_rok, zi, eq_self, List.map_cons, List.map_nil, List.append_nil, List.nil_append, List.cons_append, Int32.reduceLT, Int32.reduceLE, Int32.reduceAdd, Int32.reduceSub, Int32.reduceMul, Int32.reduceToInt, Int32.reduceToNatClampNeg, Int.reduceLT, Int.reduceLE, Int.reduceNeg, true_and, and_true, or_self, or_false, false_or, false_and, and_false, true_or, or_true, if_true, if_false, ne_eq, Classical.not_not, not_true_eq_false, not_false_eq_true, true_implies, false_implies, implies_true, Nat.reduceEqDiff, Nat.reduceAdd, Nat.reduceLeDiff, Nat.reduceSub, reduceCtorEq, reduceIte, b130_0, skX s1, skX s2, u2, Nat.reduceLT]
  simp only [lv_args, z_v, z_lg, z_h, z_u, z_u1, z_c, z_ct, z_sk, sbne, lst1_d, ldel, lst2_d, ldel2, z_sw, z_rok, zi, eq_self, List.map_cons, List.map_nil, List.append_nil, List.nil_append, List.cons_append, Int32.reduceLT, Int32.reduceLE, Int32.reduceAdd, Int32.reduceSub, Int32.reduceMul, Int32.reduceToInt, Int32.reduceToNatClampNeg, Int.reduceLT, Int.reduceLE, Int.reduceNeg, true_and, and_true, or_self, or_false, false_or, false_and, and_false, true_or, or_true, if_true, if_false, ne_eq, Classical.not_not, not_true_eq_false, not_false_eq_true, true_implies, false_implies, implies_true, Nat.reduceEqDiff, Nat.reduceAdd, Nat.reduceLeDiff, Nat.reduceSub, reduceCtorEq, reduceIte, b130_0, skX s2] at fin
  exact fin
/-- the row's node, and the loop begins -/
theorem rt_30 (c : CB h) (i7 : hI h 3 7 = 0) (rm : 1 ≤ hN h 10 ∧ 1 ≤ hN h 11 ∧ 1 ≤ hN h 12 ∧ 1 ≤ hN h 13 ∧ 1 ≤ hN h 14) (hd : 10 < d) (hq : ∀ h', RNs (nwN (0, fun _ => 0, fun _ => 0, fun _ => 0, fun _ => -1, fun _ => -1) 6 0 0) h' → RSk [(0, none, false)] h' → FrR h h' → aWP d 130 68 [(4, .int (nI 0)), (3, .int (nI 0)), (0, .ref 3), (1, .ref 1), (2, .int (nI n))] [] h' Q) : aWP d 130 30 [(0, .ref 3), (1, .ref 1), (2, .int (nI n))] [] h Q := by
  have h0 : 0 < d := by omega
  have s := c.1
  have rm0 := c.2.2
  have h10 := (rm0.2.2 10 (by decide)).2
  have y10 : cpR 10 = 12100 := rfl
  have n15 : hN h 15 = 31 := rm0.1.2 (15, 31) (by decide)
  have n16 : hN h 16 = 31 := rm0.1.2 (16, 31) (by decide)
  have n17 : hN h 17 = 31 := rm0.1.2 (17, 31) (by decide)
  have s1 : Sk (pI h 3 11 0) := sk_u1 s
  have F0 : FrR h (pI h 3 11 0) := ⟨rfl, rfl, rfl, rfl, rfl, rfl, fun a i c => up2_ne (by omega), rfl, fun _ _ => rfl, rfl⟩
  have b0 : ((0 : Int) ≤ (0 : Int32).toInt ∧ (0 : Int32).toInt < ((31 : Nat) : Int)) := by decide
  have b1 : (0 : Int32).toNatClampNeg = 0 := rfl
  simp only [lv_args, z_v, z_lg, z_h, z_u, z_u1, z_c, z_ct, z_sk, sbne, lst1_d, ldel, lst2_d, ldel2, z_sw, z_rok, zi, eq_self, List.map_cons, List.map_nil, List.append_nil, List.nil_append, List.cons_append, Int32.reduceLT, Int32.reduceLE, Int32.reduceAdd, Int32.reduceSub, Int32.reduceMul, Int32.reduceToInt, Int32.reduceToNatClampNeg, Int.reduceLT, Int.reduceLE, Int.reduceNeg, true_and, and_true, or_self, or_false, false_or, false_and, and_false, true_or, or_true, if_true, if_false, ne_eq, Classical.not_not, not_true_eq_false, not_false_eq_true, true_implies, false_implies, implies_true, Nat.reduceEqDiff, Nat.reduceAdd, Nat.reduceLeDiff, Nat.reduceSub, reduceCtorEq, reduceIte, b130_0, skX s, srX s, h0]
  refine sp_newNode (N := (0, fun _ => 0, fun _ => 0, fun _ => 0, fun _ => -1, fun _ => -1)) (stk := []) (h := pI h 3 11 0) s1 ⟨i7, by decide, fun i hi => absurd hi (Nat.not_lt_zero i)⟩ ⟨by decide, rfl, fun j e hj => by simp at hj⟩ rm (by decide) (by show hN h 10 ≤ 100000; omega) (fun h1 rn1 rs1 F1 => ?_)
  have s2 := frr_sk F1 s1
  have hv1 : hv h1 = hv h := F1.2.2.2.2.2.1
  have n1 : hN h1 = hN h := F1.2.2.1
  have i11 : hI h1 3 11 = 0 := rs1.2.1
  have fin := hq (pA (pA (pA h1 15 (upd (hA h1 15) 0 (nI 0))) 16 (upd (hA h1 16) 0 (-1))) 17 (upd (hA h1 17) 0 0)) rn1 ⟨by decide, i11, fun j e hj => by
    have hj0 : j = 0 := by
      have := g_lt hj
      simp at this
      omega
    subst hj0
    simp at hj
    subst hj
    exact ⟨rfl, rfl, rfl⟩⟩ (frr_tr F0 (frr_tr F1 ⟨rfl, rfl, rfl, rfl, rfl, rfl, fun _ _ _ => rfl, rfl, fun a c => (up1_ne (by omega)).trans ((up1_ne (by omega)).trans (up1_ne (by omega))), rfl⟩))
  simp only [lv_args, z_v, z_lg, z_h, z_u, z_u1, z_c, z_ct, z_sk, sbne, lst1_d, ldel, lst2_d, ldel2, z_sw, z_rok, zi, eq_self, List.map_cons, List.map_nil, List.append_nil, List.nil_append, List.cons_append, Int32.reduceLT, Int32.reduceLE, Int32.reduceAdd, Int32.reduceSub, Int32.reduceMul, Int32.reduceToInt, Int32.reduceToNatClampNeg, Int.reduceLT, Int.reduceLE, Int.reduceNeg, true_and, and_true, or_self, or_false, false_or, false_and, and_false, true_or, or_true, if_true, if_false, ne_eq, Classical.not_not, not_true_eq_false, not_false_eq_true, true_implies, false_implies, implies_true, Nat.reduceEqDiff, Nat.reduceAdd, Nat.reduceLeDiff, Nat.reduceSub, reduceCtorEq, reduceIte, b130_0, skX s, skX s2, srX s2, hv1, n1, n15, n16, n17, b0, b1, Nat.reduceLT]
  refine ⟨?_, ?_, ?_, fin⟩ <;> decide
end RDX
