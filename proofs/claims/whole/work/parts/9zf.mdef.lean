/-! BUILD. The reference: what the row defines -/
def KYd (q : Nat) (h0 h : Hp) : Prop := (hK h = hK h0 ∧ hR h = hR h0 ∧ hN h = hN h0 ∧ hn h = hn h0 ∧ hu h = hu h0 ∧ hv h = hv h0 ∧ hL h = hL h0 ∧ hB h = hB h0) ∧ (∀ a i, ¬ ((a = 59 ∧ (i = 15 ∨ i = 16)) ∨ (a = q ∧ i = 4)) → hI h a i = hI h0 a i) ∧ ∀ a, ¬ (a = q + 11 ∨ a = q + 12) → hA h a = hA h0 a
def mYw (w : Option (Nat × Nat)) : MR := ((fun _ => 0, fun _ => 0), ([], 0, fun _ => 0, fun _ => 0), (0, fun _ => 0, fun _ => 0, fun _ => 0, fun _ => []), 0, w)
def DX (mt : List Nat) (q : Nat) (df : List Nat) (w : Option (Nat × Nat)) (h : Hp) : Prop := hI h q 4 = nI df.length ∧ (∀ j, j ∈ mt → hA h (q + 11) (mt.idxOf j) = (if j ∈ df then nI (df.idxOf j) else -1)) ∧ MWx (mYw w) h
theorem w_eq' {j : Nat} : (nI (if j < 30 then j + 1 else 0) = 0) = (30 ≤ j) := by
  have z0 : (0 : Int32) = nI 0 := rfl
  by_cases c : j < 30
  · rw [if_pos c, z0, nI_eqN (by omega) (by omega)]
    exact propext ⟨fun e => by omega, fun e => by omega⟩
  · rw [if_neg c]
    exact propext ⟨fun _ => by omega, fun _ => rfl⟩
section MDF
variable {h h' h0 : Hp} {Q : Option Value → Hp → Prop} {d n q g a b : Nat} {N : NS} {mt : List Nat}
theorem kd_I {a i : Nat} {v : Int32} (k : KYd q h0 h) (ha : (a = 59 ∧ (i = 15 ∨ i = 16)) ∨ (a = q ∧ i = 4)) : KYd q h0 (pI h a i v) := ⟨k.1, fun x j hx => (up2_ne (fun e => hx (by rw [e.1, e.2]; exact ha))).trans (k.2.1 x j hx), k.2.2⟩
theorem kd_A {a : Nat} {f : Nat → Int32} (k : KYd q h0 h) (ha : a = q + 11 ∨ a = q + 12) : KYd q h0 (pA h a f) := ⟨k.1, k.2.1, fun x hx => (up1_ne (fun e => hx (by rw [e]; exact ha))).trans (k.2.2 x hx)⟩
theorem kd_rf : KYd q h h := ⟨⟨rfl, rfl, rfl, rfl, rfl, rfl, rfl, rfl⟩, fun _ _ _ => rfl, fun _ _ => rfl⟩
theorem mc_d (k : KYd q h0 h) (m : MC N mt q h0) : MC N mt q h := by
  obtain ⟨⟨s, r⟩, yy, tm, nk⟩ := m
  have hq : q = 66 ∨ q = 86 := yy.elim (fun w => Or.inl w.1) (fun w => Or.inr w.1)
  refine ⟨⟨(sk_same k.1.1 k.1.2.1 k.1.2.2.2.1 : Sk _ = Sk h0) ▸ s, rm_same k.1.2.2.1 k.1.2.2.2.1 k.1.2.2.2.2.1 r⟩, ?_, ?_, nk⟩
  · unfold YY; rw [k.1.2.1]; exact yy
  · unfold TM
    rw [k.2.2 (q + 1) (by omega), k.2.2 (q + 2) (by omega), k.2.2 (q + 3) (by omega), k.2.2 (q + 4) (by omega), k.2.2 (q + 5) (by omega), k.2.2 (q + 10) (by omega), k.2.1 q 3 (by omega)]
    exact tm
theorem sp_defines (m0 : MC N mt q h0) (nd : mt.Nodup) (pp : ∀ i, 1 ≤ i → i < N.1 → nP N i = nI (nQ N i) ∧ nQ N i < 3001) (ht : Tr (g + 1) N 0 N.1) (h6 : nK N 0 = 6) (D0 : DX mt q [] none h0) (hd : 10 < d) (hq : ∀ h', KYd q h0 h' → DX mt q (gdf N) (mDf N (pts N 0) [] none) h' → 3 * (gdf N).length ≤ 6201 → Q none h') : aEv d 200 [.ref 59] h0 Q := by
  have h00 : 0 < d := by omega
  have hq66 := mc_q m0
  have hN1 := m0.2.2.2.2.2
  obtain ⟨t1, t2, hn0⟩ := tl_n ht h6 (Nat.le_refl _) hN1
  have z10 : ¬ (1 : Int32) = 0 := by decide
  have eb0 : bI false = 0 := rfl
  have eb1 : bI true = 1 := rfl
  have z1 : (1 : Int32) = nI 1 := rfl
  have z10' : (10 : Int32) = nI 10 := rfl
  have z100 : (100 : Int32) = nI 100 := rfl
  have loop : ∀ (l : List Nat) (a : Nat) (df : List Nat) (w : Option (Nat × Nat)) (h : Hp) (T : ALS), (T = [] ∨ ∃ x, T = [(3, .int x)]) → TL g N l a N.1 → 3 * df.length + 1 ≤ a → KYd q h0 h → DX mt q df w h → (∀ h', KYd q h0 h' → DX mt q (l.foldl (gdF N) df) (mDf N l df w) h' → 3 * (l.foldl (gdF N) df).length ≤ 6201 → Q none h') → aWP d 200 10 ((2, .int (dnI (oI l.head?))) :: (T ++ [(1, .ref q), (0, .ref 59)])) [] h Q := by
    intro l
    induction l with
    | nil =>
      intro a df w h T hT tl hdf ky D q'
      have ea : a = N.1 := tl.1
      have P := q' h ky D (by show 3 * df.length ≤ 6201; omega)
      rcases hT with rfl | ⟨x, rfl⟩
      · simp only [List.nil_append, List.cons_append]
        simp only [lv_args, z_v, z_lg, z_h, z_u, z_u1, z_c, z_ct, z_sk, sbne, lst1_d, ldel, lst2_d, ldel2, z_sw, z_rok, zi, eq_self, List.map_cons, List.map_nil, List.append_nil, List.nil_append, List.cons_append, Int32.reduceLT, Int32.reduceLE, Int32.reduceAdd, Int32.reduceSub, Int32.reduceMul, Int32.reduceToInt, Int32.reduceToNatClampNeg, Int.reduceLT, Int.reduceLE, Int.reduceNeg, true_and, and_true, or_self, or_false, false_or, false_and, and_false, true_or, or_true, if_true, if_false, ne_eq, Classical.not_not, not_true_eq_false, not_false_eq_true, true_implies, false_implies, implies_true, Nat.reduceEqDiff, Nat.reduceAdd, Nat.reduceLeDiff, Nat.reduceSub, reduceCtorEq, reduceIte, b200_10, dn_n]
        simp only [lv_args, z_v, z_lg, z_h, z_u, z_u1, z_c, z_ct, z_sk, sbne, lst1_d, ldel, lst2_d, ldel2, z_sw, z_rok, zi, eq_self, List.map_cons, List.map_nil, List.append_nil, List.nil_append, List.cons_append, Int32.reduceLT, Int32.reduceLE, Int32.reduceAdd, Int32.reduceSub, Int32.reduceMul, Int32.reduceToInt, Int32.reduceToNatClampNeg, Int.reduceLT, Int.reduceLE, Int.reduceNeg, true_and, and_true, or_self, or_false, false_or, false_and, and_false, true_or, or_true, if_true, if_false, ne_eq, Classical.not_not, not_true_eq_false, not_false_eq_true, true_implies, false_implies, implies_true, Nat.reduceEqDiff, Nat.reduceAdd, Nat.reduceLeDiff, Nat.reduceSub, reduceCtorEq, reduceIte, b200_147]
        exact P
      · simp only [List.nil_append, List.cons_append]
        simp only [lv_args, z_v, z_lg, z_h, z_u, z_u1, z_c, z_ct, z_sk, sbne, lst1_d, ldel, lst2_d, ldel2, z_sw, z_rok, zi, eq_self, List.map_cons, List.map_nil, List.append_nil, List.nil_append, List.cons_append, Int32.reduceLT, Int32.reduceLE, Int32.reduceAdd, Int32.reduceSub, Int32.reduceMul, Int32.reduceToInt, Int32.reduceToNatClampNeg, Int.reduceLT, Int.reduceLE, Int.reduceNeg, true_and, and_true, or_self, or_false, false_or, false_and, and_false, true_or, or_true, if_true, if_false, ne_eq, Classical.not_not, not_true_eq_false, not_false_eq_true, true_implies, false_implies, implies_true, Nat.reduceEqDiff, Nat.reduceAdd, Nat.reduceLeDiff, Nat.reduceSub, reduceCtorEq, reduceIte, b200_10, dn_n]
        simp only [lv_args, z_v, z_lg, z_h, z_u, z_u1, z_c, z_ct, z_sk, sbne, lst1_d, ldel, lst2_d, ldel2, z_sw, z_rok, zi, eq_self, List.map_cons, List.map_nil, List.append_nil, List.nil_append, List.cons_append, Int32.reduceLT, Int32.reduceLE, Int32.reduceAdd, Int32.reduceSub, Int32.reduceMul, Int32.reduceToInt, Int32.reduceToNatClampNeg, Int.reduceLT, Int.reduceLE, Int.reduceNeg, true_and, and_true, or_self, or_false, false_or, false_and, and_false, true_or, or_true, if_true, if_false, ne_eq, Classical.not_not, not_true_eq_false, not_false_eq_true, true_implies, false_implies, implies_true, Nat.reduceEqDiff, Nat.reduceAdd, Nat.reduceLeDiff, Nat.reduceSub, reduceCtorEq, reduceIte, b200_147]
        exact P
    | cons c l ih =>
      intro a df w h T hT tl hdf ky D q'
      have m := mc_d ky m0
      have s := m.1.1
      have sw := sq s hq66
      have nn := nq m.1.2 hq66
      obtain ⟨x1, x2, x3, mm, x4, x5, x6⟩ := tl_c tl
      have hac : c = a := tl.1.1
      have lt := trl_lt x4
      have ne := dn_m1 (l := l) x2 (by omega : c < 7000)
      obtain ⟨gg, eg, tc⟩ : ∃ gg, g = gg + 1 ∧ Tr (gg + 1) N c mm := by
        cases g with
        | zero => exact x4.elim
        | succ gg => exact ⟨gg, rfl, x4⟩
      have c2 : (c - 1 < 6200) = True := eq_true (by omega)
      -- to the next
      have nxt : ∀ (df' : List Nat) (w' : Option (Nat × Nat)) (h2 : Hp) (T' : ALS), (T' = [] ∨ ∃ x, T' = [(3, .int x)]) → gdF N df c = df' → (if gdF N df c ≠ df ∧ 100 ≤ df.length then wMn w 6 (nQ N (prt N c 1)) else w) = w' → 3 * df'.length + 1 ≤ mm → KYd q h0 h2 → DX mt q df' w' h2 → aWP d 200 137 ((2, .int (nI (c - 1))) :: (T' ++ [(1, .ref q), (0, .ref 59)])) [] h2 Q ∧ ∀ x, T' = [(3, .int x)] → aWP d 200 137 [(3, .int x), (2, .int (nI (c - 1))), (1, .ref q), (0, .ref 59)] [] h2 Q := by
        intro df' w' h2 T' hT' edf ew hl2 ky2 D2
        have m2 := mc_d ky2 m0
        have s2 := m2.1.1
        have sw2 := sq s2 hq66
        have nn2 := nq m2.1.2 hq66
        have en := (m2.2.2.1.1 c x2 x1).2.2.2.2
        rw [x3] at en
        have go := ih mm df' w' h2 T' hT' x6 hl2 ky2 D2 (fun h' a1 a2 a3 => q' h' a1 (by rw [List.foldl_cons, mDf, ew, edf]; exact a2) (by rw [List.foldl_cons, edf]; exact a3))
        refine ⟨?_, fun x hx => ?_⟩
        · rcases hT' with rfl | ⟨x, rfl⟩
          · simp only [List.nil_append, List.cons_append] at go ⊢
            simp only [lv_args, z_v, z_lg, z_h, z_u, z_u1, z_c, z_ct, z_sk, sbne, lst1_d, ldel, lst2_d, ldel2, z_sw, z_rok, zi, eq_self, List.map_cons, List.map_nil, List.append_nil, List.nil_append, List.cons_append, Int32.reduceLT, Int32.reduceLE, Int32.reduceAdd, Int32.reduceSub, Int32.reduceMul, Int32.reduceToInt, Int32.reduceToNatClampNeg, Int.reduceLT, Int.reduceLE, Int.reduceNeg, true_and, and_true, or_self, or_false, false_or, false_and, and_false, true_or, or_true, if_true, if_false, ne_eq, Classical.not_not, not_true_eq_false, not_false_eq_true, true_implies, false_implies, implies_true, Nat.reduceEqDiff, Nat.reduceAdd, Nat.reduceLeDiff, Nat.reduceSub, reduceCtorEq, reduceIte, b200_137, skM s2, srM s2, sw2, nn2]
            simp (disch := omega) only [nI_ti, nI_cl, le0N, ltNN, c2, en, true_and]
            try simp only [lv_args, z_v, z_lg, z_h, z_u, z_u1, z_c, z_ct, z_sk, sbne, lst1_d, ldel, lst2_d, ldel2, z_sw, z_rok, zi, eq_self, List.map_cons, List.map_nil, List.append_nil, List.nil_append, List.cons_append, Int32.reduceLT, Int32.reduceLE, Int32.reduceAdd, Int32.reduceSub, Int32.reduceMul, Int32.reduceToInt, Int32.reduceToNatClampNeg, Int.reduceLT, Int.reduceLE, Int.reduceNeg, true_and, and_true, or_self, or_false, false_or, false_and, and_false, true_or, or_true, if_true, if_false, ne_eq, Classical.not_not, not_true_eq_false, not_false_eq_true, true_implies, false_implies, implies_true, Nat.reduceEqDiff, Nat.reduceAdd, Nat.reduceLeDiff, Nat.reduceSub, reduceCtorEq, reduceIte, b200_137]
            exact go
          · simp only [List.nil_append, List.cons_append] at go ⊢
            simp only [lv_args, z_v, z_lg, z_h, z_u, z_u1, z_c, z_ct, z_sk, sbne, lst1_d, ldel, lst2_d, ldel2, z_sw, z_rok, zi, eq_self, List.map_cons, List.map_nil, List.append_nil, List.nil_append, List.cons_append, Int32.reduceLT, Int32.reduceLE, Int32.reduceAdd, Int32.reduceSub, Int32.reduceMul, Int32.reduceToInt, Int32.reduceToNatClampNeg, Int.reduceLT, Int.reduceLE, Int.reduceNeg, true_and, and_true, or_self, or_false, false_or, false_and, and_false, true_or, or_true, if_true, if_false, ne_eq, Classical.not_not, not_true_eq_false, not_false_eq_true, true_implies, false_implies, implies_true, Nat.reduceEqDiff, Nat.reduceAdd, Nat.reduceLeDiff, Nat.reduceSub, reduceCtorEq, reduceIte, b200_137, skM s2, srM s2, sw2, nn2]
            simp (disch := omega) only [nI_ti, nI_cl, le0N, ltNN, c2, en, true_and]
            try simp only [lv_args, z_v, z_lg, z_h, z_u, z_u1, z_c, z_ct, z_sk, sbne, lst1_d, ldel, lst2_d, ldel2, z_sw, z_rok, zi, eq_self, List.map_cons, List.map_nil, List.append_nil, List.nil_append, List.cons_append, Int32.reduceLT, Int32.reduceLE, Int32.reduceAdd, Int32.reduceSub, Int32.reduceMul, Int32.reduceToInt, Int32.reduceToNatClampNeg, Int.reduceLT, Int.reduceLE, Int.reduceNeg, true_and, and_true, or_self, or_false, false_or, false_and, and_false, true_or, or_true, if_true, if_false, ne_eq, Classical.not_not, not_true_eq_false, not_false_eq_true, true_implies, false_implies, implies_true, Nat.reduceEqDiff, Nat.reduceAdd, Nat.reduceLeDiff, Nat.reduceSub, reduceCtorEq, reduceIte, b200_137]
            exact go
        · subst hx
          simp only [List.nil_append, List.cons_append] at go
          simp only [lv_args, z_v, z_lg, z_h, z_u, z_u1, z_c, z_ct, z_sk, sbne, lst1_d, ldel, lst2_d, ldel2, z_sw, z_rok, zi, eq_self, List.map_cons, List.map_nil, List.append_nil, List.nil_append, List.cons_append, Int32.reduceLT, Int32.reduceLE, Int32.reduceAdd, Int32.reduceSub, Int32.reduceMul, Int32.reduceToInt, Int32.reduceToNatClampNeg, Int.reduceLT, Int.reduceLE, Int.reduceNeg, true_and, and_true, or_self, or_false, false_or, false_and, and_false, true_or, or_true, if_true, if_false, ne_eq, Classical.not_not, not_true_eq_false, not_false_eq_true, true_implies, false_implies, implies_true, Nat.reduceEqDiff, Nat.reduceAdd, Nat.reduceLeDiff, Nat.reduceSub, reduceCtorEq, reduceIte, b200_137, skM s2, srM s2, sw2, nn2]
          simp (disch := omega) only [nI_ti, nI_cl, le0N, ltNN, c2, en, true_and]
          try simp only [lv_args, z_v, z_lg, z_h, z_u, z_u1, z_c, z_ct, z_sk, sbne, lst1_d, ldel, lst2_d, ldel2, z_sw, z_rok, zi, eq_self, List.map_cons, List.map_nil, List.append_nil, List.nil_append, List.cons_append, Int32.reduceLT, Int32.reduceLE, Int32.reduceAdd, Int32.reduceSub, Int32.reduceMul, Int32.reduceToInt, Int32.reduceToNatClampNeg, Int.reduceLT, Int.reduceLE, Int.reduceNeg, true_and, and_true, or_self, or_false, false_or, false_and, and_false, true_or, or_true, if_true, if_false, ne_eq, Classical.not_not, not_true_eq_false, not_false_eq_true, true_implies, false_implies, implies_true, Nat.reduceEqDiff, Nat.reduceAdd, Nat.reduceLeDiff, Nat.reduceSub, reduceCtorEq, reduceIte, b200_137]
          exact go
      have skip : ¬ (wrd N c = 10 ∧ shp N c 10 true = true ∧ 30 ≤ nCn N (prt N c 1) ∧ nCn N (prt N c 1) ∉ df) → gdF N df c = df := fun w => if_neg w
      have sk2 : gdF N df c = df → (if gdF N df c ≠ df ∧ 100 ≤ df.length then wMn w 6 (nQ N (prt N c 1)) else w) = w := fun e => if_neg (fun w => w.1 e)
      -- a form that defines
      have dfn : wrd N c = 10 → shp N c 10 true = true → nK N c = 6 → ∀ T', (T' = [] ∨ ∃ x, T' = [(3, .int x)]) → aWP d 200 47 ((2, .int (nI (c - 1))) :: (T' ++ [(1, .ref q), (0, .ref 59)])) [] h Q := by
        intro hw10 hs c6 T' hT'
        obtain ⟨_, hl3, h5⟩ := shp_10 hs
        obtain ⟨u1, u2, _⟩ := tl_n tc c6 x5 hN1
        obtain ⟨e0', e1', f1', f2', f3', f4', f5', f6', f7', f8'⟩ := big_tr tc c6 (by omega : mm < 2000000000) (by omega)
        have k1 := prt_get (N := N) (n := c) (k := 1) (by omega)
        obtain ⟨v1, v2, _⟩ := tl_get u2 k1
        obtain ⟨j, hj, ej, ej2, hj3⟩ := nok_name m.2.2.2 v2 v1 h5
        have e1 : dnI (oI ((pts N c)[1]?)) = nI (prt N c 1 - 1) := by rw [k1]; exact dnI_nI v2 (by omega)
        have ev : hA h (q + 2) (prt N c 1 - 1) = nI (mt.idxOf j) := by rw [(m.2.2.1.1 _ v2 v1).2.1, if_pos h5, ej2]
        obtain ⟨jw1, jw2⟩ := m.2.2.1.2.1 j hj
        obtain ⟨D1, D2, D3⟩ := id D
        have e11 := D2 j hj
        have c7 : (prt N c 1 - 1 < 6200) = True := eq_true (by omega)
        have c3 : (mt.idxOf j < 3000) = True := eq_true jw1
        have c4 : (df.length < 3000) = True := eq_true (by omega)
        have pq1 : hA h (q + 3) (prt N c 1 - 1) = nI (nQ N (prt N c 1)) := by rw [(m.2.2.1.1 _ v2 v1).2.2.1, (pp _ v2 v1).1]
        have pq2 : nQ N (prt N c 1) < 1000000 := by have := (pp _ v2 v1).2; omega
        have out : ¬ (30 ≤ j ∧ j ∉ df) → aWP d 200 137 [(3, .int (nI (mt.idxOf j))), (2, .int (nI (c - 1))), (1, .ref q), (0, .ref 59)] [] h Q := fun w2 => by
          have e := skip (fun w3 => w2 (by rw [ej2] at w3; exact w3.2.2))
          exact (nxt df w h [(3, .int (nI (mt.idxOf j)))] (Or.inr ⟨_, rfl⟩) e (sk2 e) (by omega) ky D).2 _ rfl
        have add : 30 ≤ j → j ∉ df → ∀ (w' : Option (Nat × Nat)) (h2 : Hp), (if 100 ≤ df.length then wMn w 6 (nQ N (prt N c 1)) else w) = w' → KYd q h0 h2 → DX mt q df w' h2 → aWP d 200 107 [(3, .int (nI (mt.idxOf j))), (2, .int (nI (c - 1))), (1, .ref q), (0, .ref 59)] [] h2 Q := fun g1 g2 w' h2 ew ky2 D2 => by
          have m2 := mc_d ky2 m0
          have s2 := m2.1.1
          have nn2 := nq m2.1.2 hq66
          obtain ⟨E1, E2, E3⟩ := D2
          have edf : gdF N df c = df ++ [j] := by
            show (if _ then _ else _) = _
            rw [ej2, if_pos ⟨hw10, hs, g1, g2⟩]
          have hne : gdF N df c ≠ df := by
            rw [edf]
            intro e
            have := congrArg List.length e
            rw [List.length_append, List.length_singleton] at this
            omega
          have ew2 : (if gdF N df c ≠ df ∧ 100 ≤ df.length then wMn w 6 (nQ N (prt N c 1)) else w) = w' := by
            rw [← ew]
            by_cases cc : 100 ≤ df.length
            · rw [if_pos ⟨hne, cc⟩, if_pos cc]
            · rw [if_neg (fun w => cc w.2), if_neg cc]
          have go : ∀ h3, KYd q h0 h3 → DX mt q (df ++ [j]) w' h3 → aWP d 200 137 [(3, .int (nI (mt.idxOf j))), (2, .int (nI (c - 1))), (1, .ref q), (0, .ref 59)] [] h3 Q := fun h3 k3 d3 => (nxt (df ++ [j]) w' h3 [(3, .int (nI (mt.idxOf j)))] (Or.inr ⟨_, rfl⟩) edf ew2 (by rw [List.length_append, List.length_singleton]; omega) k3 d3).2 _ rfl
          rcases hq66 with rfl | rfl
          · have y11 : hN h2 77 = 3000 := nn2.2.2.2.2.2.2.2.2.2.2.1
            have y12 : hN h2 78 = 3000 := nn2.2.2.2.2.2.2.2.2.2.2.2.1
            have E1 : hI h2 66 4 = nI df.length := E1
            have kz : KYd 66 h0 (pI (pA (pA h2 77 (upd (hA h2 77) (mt.idxOf j) (nI df.length))) 78 (upd (hA h2 78) df.length (nI (mt.idxOf j)))) 66 4 (nI (df.length + 1))) := kd_I (kd_A (kd_A ky2 (by omega)) (by omega)) (by omega)
            have dz : DX mt 66 (df ++ [j]) w' (pI (pA (pA h2 77 (upd (hA h2 77) (mt.idxOf j) (nI df.length))) 78 (upd (hA h2 78) df.length (nI (mt.idxOf j)))) 66 4 (nI (df.length + 1))) := by
              refine ⟨?_, fun j' hj' => ?_, E3⟩
              · rw [List.length_append, List.length_singleton]; rfl
              · show upd (hA h2 77) (mt.idxOf j) (nI df.length) (mt.idxOf j') = _
                unfold upd
                by_cases cj : j' = j
                · subst cj
                  rw [if_pos rfl, if_pos (by simp), idx_at (l := df ++ [j']) (i := df.length) (by simp) (fun i' hi' => by
                    rw [List.getElem?_append_left hi']
                    exact fun e => g2 (List.mem_of_getElem? e))]
                · rw [if_neg (fun e => cj (idx_inj nd hj' hj e))]
                  have e := E2 j' hj'
                  by_cases cm : j' ∈ df
                  · rw [if_pos cm] at e
                    rw [if_pos (List.mem_append_left _ cm), idx_app cm]
                    exact e
                  · rw [if_neg cm] at e
                    rw [if_neg (fun w => by
                      rcases List.mem_append.mp w with w | w
                      · exact cm w
                      · simp only [List.mem_cons, List.not_mem_nil, or_false] at w
                        exact cj w)]
                    exact e
            have g3 := go _ kz dz
            simp only [lv_args, z_v, z_lg, z_h, z_u, z_u1, z_c, z_ct, z_sk, sbne, lst1_d, ldel, lst2_d, ldel2, z_sw, z_rok, zi, eq_self, List.map_cons, List.map_nil, List.append_nil, List.nil_append, List.cons_append, Int32.reduceLT, Int32.reduceLE, Int32.reduceAdd, Int32.reduceSub, Int32.reduceMul, Int32.reduceToInt, Int32.reduceToNatClampNeg, Int.reduceLT, Int.reduceLE, Int.reduceNeg, true_and, and_true, or_self, or_false, false_or, false_and, and_false, true_or, or_true, if_true, if_false, ne_eq, Classical.not_not, not_true_eq_false, not_false_eq_true, true_implies, false_implies, implies_true, Nat.reduceEqDiff, Nat.reduceAdd, Nat.reduceLeDiff, Nat.reduceSub, reduceCtorEq, reduceIte, b200_107, skM s2, srM s2, y11, y12, E1, nI_s]
            simp (disch := omega) only [nI_ti, nI_cl, le0N, ltNN, c3, c4, true_and]
            try simp only [lv_args, z_v, z_lg, z_h, z_u, z_u1, z_c, z_ct, z_sk, sbne, lst1_d, ldel, lst2_d, ldel2, z_sw, z_rok, zi, eq_self, List.map_cons, List.map_nil, List.append_nil, List.nil_append, List.cons_append, Int32.reduceLT, Int32.reduceLE, Int32.reduceAdd, Int32.reduceSub, Int32.reduceMul, Int32.reduceToInt, Int32.reduceToNatClampNeg, Int.reduceLT, Int.reduceLE, Int.reduceNeg, true_and, and_true, or_self, or_false, false_or, false_and, and_false, true_or, or_true, if_true, if_false, ne_eq, Classical.not_not, not_true_eq_false, not_false_eq_true, true_implies, false_implies, implies_true, Nat.reduceEqDiff, Nat.reduceAdd, Nat.reduceLeDiff, Nat.reduceSub, reduceCtorEq, reduceIte, b200_107, skM s2, srM s2, y11, y12, E1, nI_s]
            try simp (disch := omega) only [nI_ti, nI_cl, le0N, ltNN, c3, c4, true_and]
            try simp only [lv_args, z_v, z_lg, z_h, z_u, z_u1, z_c, z_ct, z_sk, sbne, lst1_d, ldel, lst2_d, ldel2, z_sw, z_rok, zi, eq_self, List.map_cons, List.map_nil, List.append_nil, List.nil_append, List.cons_append, Int32.reduceLT, Int32.reduceLE, Int32.reduceAdd, Int32.reduceSub, Int32.reduceMul, Int32.reduceToInt, Int32.reduceToNatClampNeg, Int.reduceLT, Int.reduceLE, Int.reduceNeg, true_and, and_true, or_self, or_false, false_or, false_and, and_false, true_or, or_true, if_true, if_false, ne_eq, Classical.not_not, not_true_eq_false, not_false_eq_true, true_implies, false_implies, implies_true, Nat.reduceEqDiff, Nat.reduceAdd, Nat.reduceLeDiff, Nat.reduceSub, reduceCtorEq, reduceIte, b200_107, skM s2, srM s2, y11, y12, E1, nI_s]
            exact g3
          · have y11 : hN h2 97 = 3000 := nn2.2.2.2.2.2.2.2.2.2.2.1
            have y12 : hN h2 98 = 3000 := nn2.2.2.2.2.2.2.2.2.2.2.2.1
            have E1 : hI h2 86 4 = nI df.length := E1
            have kz : KYd 86 h0 (pI (pA (pA h2 97 (upd (hA h2 97) (mt.idxOf j) (nI df.length))) 98 (upd (hA h2 98) df.length (nI (mt.idxOf j)))) 86 4 (nI (df.length + 1))) := kd_I (kd_A (kd_A ky2 (by omega)) (by omega)) (by omega)
            have dz : DX mt 86 (df ++ [j]) w' (pI (pA (pA h2 97 (upd (hA h2 97) (mt.idxOf j) (nI df.length))) 98 (upd (hA h2 98) df.length (nI (mt.idxOf j)))) 86 4 (nI (df.length + 1))) := by
              refine ⟨?_, fun j' hj' => ?_, E3⟩
              · rw [List.length_append, List.length_singleton]; rfl
              · show upd (hA h2 97) (mt.idxOf j) (nI df.length) (mt.idxOf j') = _
                unfold upd
                by_cases cj : j' = j
                · subst cj
                  rw [if_pos rfl, if_pos (by simp), idx_at (l := df ++ [j']) (i := df.length) (by simp) (fun i' hi' => by
                    rw [List.getElem?_append_left hi']
                    exact fun e => g2 (List.mem_of_getElem? e))]
                · rw [if_neg (fun e => cj (idx_inj nd hj' hj e))]
                  have e := E2 j' hj'
                  by_cases cm : j' ∈ df
                  · rw [if_pos cm] at e
                    rw [if_pos (List.mem_append_left _ cm), idx_app cm]
                    exact e
                  · rw [if_neg cm] at e
                    rw [if_neg (fun w => by
                      rcases List.mem_append.mp w with w | w
                      · exact cm w
                      · simp only [List.mem_cons, List.not_mem_nil, or_false] at w
                        exact cj w)]
                    exact e
            have g3 := go _ kz dz
            simp only [lv_args, z_v, z_lg, z_h, z_u, z_u1, z_c, z_ct, z_sk, sbne, lst1_d, ldel, lst2_d, ldel2, z_sw, z_rok, zi, eq_self, List.map_cons, List.map_nil, List.append_nil, List.nil_append, List.cons_append, Int32.reduceLT, Int32.reduceLE, Int32.reduceAdd, Int32.reduceSub, Int32.reduceMul, Int32.reduceToInt, Int32.reduceToNatClampNeg, Int.reduceLT, Int.reduceLE, Int.reduceNeg, true_and, and_true, or_self, or_false, false_or, false_and, and_false, true_or, or_true, if_true, if_false, ne_eq, Classical.not_not, not_true_eq_false, not_false_eq_true, true_implies, false_implies, implies_true, Nat.reduceEqDiff, Nat.reduceAdd, Nat.reduceLeDiff, Nat.reduceSub, reduceCtorEq, reduceIte, b200_107, skM s2, srM s2, y11, y12, E1, nI_s]
            simp (disch := omega) only [nI_ti, nI_cl, le0N, ltNN, c3, c4, true_and]
            try simp only [lv_args, z_v, z_lg, z_h, z_u, z_u1, z_c, z_ct, z_sk, sbne, lst1_d, ldel, lst2_d, ldel2, z_sw, z_rok, zi, eq_self, List.map_cons, List.map_nil, List.append_nil, List.nil_append, List.cons_append, Int32.reduceLT, Int32.reduceLE, Int32.reduceAdd, Int32.reduceSub, Int32.reduceMul, Int32.reduceToInt, Int32.reduceToNatClampNeg, Int.reduceLT, Int.reduceLE, Int.reduceNeg, true_and, and_true, or_self, or_false, false_or, false_and, and_false, true_or, or_true, if_true, if_false, ne_eq, Classical.not_not, not_true_eq_false, not_false_eq_true, true_implies, false_implies, implies_true, Nat.reduceEqDiff, Nat.reduceAdd, Nat.reduceLeDiff, Nat.reduceSub, reduceCtorEq, reduceIte, b200_107, skM s2, srM s2, y11, y12, E1, nI_s]
            try simp (disch := omega) only [nI_ti, nI_cl, le0N, ltNN, c3, c4, true_and]
            try simp only [lv_args, z_v, z_lg, z_h, z_u, z_u1, z_c, z_ct, z_sk, sbne, lst1_d, ldel, lst2_d, ldel2, z_sw, z_rok, zi, eq_self, List.map_cons, List.map_nil, List.append_nil, List.nil_append, List.cons_append, Int32.reduceLT, Int32.reduceLE, Int32.reduceAdd, Int32.reduceSub, Int32.reduceMul, Int32.reduceToInt, Int32.reduceToNatClampNeg, Int.reduceLT, Int.reduceLE, Int.reduceNeg, true_and, and_true, or_self, or_false, false_or, false_and, and_false, true_or, or_true, if_true, if_false, ne_eq, Classical.not_not, not_true_eq_false, not_false_eq_true, true_implies, false_implies, implies_true, Nat.reduceEqDiff, Nat.reduceAdd, Nat.reduceLeDiff, Nat.reduceSub, reduceCtorEq, reduceIte, b200_107, skM s2, srM s2, y11, y12, E1, nI_s]
            exact g3
        have at59 : aWP d 200 68 [(3, .int (nI (mt.idxOf j))), (2, .int (nI (c - 1))), (1, .ref q), (0, .ref 59)] [] h Q ∨ j < 30 := by
          by_cases g30 : j < 30
          · exact Or.inr g30
          · refine Or.inl ?_
            have em : ∀ {x : Nat}, x < 3000 → ¬ nI x = -1 := fun {x} hx => nI_m1' (by omega)
            simp only [lv_args, z_v, z_lg, z_h, z_u, z_u1, z_c, z_ct, z_sk, sbne, lst1_d, ldel, lst2_d, ldel2, z_sw, z_rok, zi, eq_self, List.map_cons, List.map_nil, List.append_nil, List.nil_append, List.cons_append, Int32.reduceLT, Int32.reduceLE, Int32.reduceAdd, Int32.reduceSub, Int32.reduceMul, Int32.reduceToInt, Int32.reduceToNatClampNeg, Int.reduceLT, Int.reduceLE, Int.reduceNeg, true_and, and_true, or_self, or_false, false_or, false_and, and_false, true_or, or_true, if_true, if_false, ne_eq, Classical.not_not, not_true_eq_false, not_false_eq_true, true_implies, false_implies, implies_true, Nat.reduceEqDiff, Nat.reduceAdd, Nat.reduceLeDiff, Nat.reduceSub, reduceCtorEq, reduceIte, b200_68, skM s, srM s, sw, nn]
            simp (disch := omega) only [nI_ti, nI_cl, le0N, ltNN, c3, e11, true_and]
            by_cases cm : j ∈ df
            · have := List.idxOf_lt_length_iff.mpr cm
              have ne2 := em (x := df.idxOf j) (by omega)
              simp only [cm, if_true, ne2, not_false_eq_true, true_imp_iff, false_imp_iff, and_true, true_and]
              have o := out (fun w => w.2 cm)
              simp only [lv_args, z_v, z_lg, z_h, z_u, z_u1, z_c, z_ct, z_sk, sbne, lst1_d, ldel, lst2_d, ldel2, z_sw, z_rok, zi, eq_self, List.map_cons, List.map_nil, List.append_nil, List.nil_append, List.cons_append, Int32.reduceLT, Int32.reduceLE, Int32.reduceAdd, Int32.reduceSub, Int32.reduceMul, Int32.reduceToInt, Int32.reduceToNatClampNeg, Int.reduceLT, Int.reduceLE, Int.reduceNeg, true_and, and_true, or_self, or_false, false_or, false_and, and_false, true_or, or_true, if_true, if_false, ne_eq, Classical.not_not, not_true_eq_false, not_false_eq_true, true_implies, false_implies, implies_true, Nat.reduceEqDiff, Nat.reduceAdd, Nat.reduceLeDiff, Nat.reduceSub, reduceCtorEq, reduceIte, b200_78]
              exact o
            · simp only [cm, if_false, not_true_eq_false, true_imp_iff, false_imp_iff, and_true, true_and]
              simp only [lv_args, z_v, z_lg, z_h, z_u, z_u1, z_c, z_ct, z_sk, sbne, lst1_d, ldel, lst2_d, ldel2, z_sw, z_rok, zi, eq_self, List.map_cons, List.map_nil, List.append_nil, List.nil_append, List.cons_append, Int32.reduceLT, Int32.reduceLE, Int32.reduceAdd, Int32.reduceSub, Int32.reduceMul, Int32.reduceToInt, Int32.reduceToNatClampNeg, Int.reduceLT, Int.reduceLE, Int.reduceNeg, true_and, and_true, or_self, or_false, false_or, false_and, and_false, true_or, or_true, if_true, if_false, ne_eq, Classical.not_not, not_true_eq_false, not_false_eq_true, true_implies, false_implies, implies_true, Nat.reduceEqDiff, Nat.reduceAdd, Nat.reduceLeDiff, Nat.reduceSub, reduceCtorEq, reduceIte, b200_81, skM s, sw, D1, z100]
              simp (disch := omega) only [nI_ltN]
              refine ⟨fun c9 => add (by omega) cm w h (by rw [if_neg (by omega)]) ky D, fun c9 => ?_⟩
              simp only [lv_args, z_v, z_lg, z_h, z_u, z_u1, z_c, z_ct, z_sk, sbne, lst1_d, ldel, lst2_d, ldel2, z_sw, z_rok, zi, eq_self, List.map_cons, List.map_nil, List.append_nil, List.nil_append, List.cons_append, Int32.reduceLT, Int32.reduceLE, Int32.reduceAdd, Int32.reduceSub, Int32.reduceMul, Int32.reduceToInt, Int32.reduceToNatClampNeg, Int.reduceLT, Int.reduceLE, Int.reduceNeg, true_and, and_true, or_self, or_false, false_or, false_and, and_false, true_or, or_true, if_true, if_false, ne_eq, Classical.not_not, not_true_eq_false, not_false_eq_true, true_implies, false_implies, implies_true, Nat.reduceEqDiff, Nat.reduceAdd, Nat.reduceLeDiff, Nat.reduceSub, reduceCtorEq, reduceIte, b200_90, skM s, srM s, sw, nn, h00, z1]
              refine m_part (k := 1) m tc c6 x5 x2 (by omega) ?_
              rw [e1]
              simp only [lv_args, z_v, z_lg, z_h, z_u, z_u1, z_c, z_ct, z_sk, sbne, lst1_d, ldel, lst2_d, ldel2, z_sw, z_rok, zi, eq_self, List.map_cons, List.map_nil, List.append_nil, List.nil_append, List.cons_append, Int32.reduceLT, Int32.reduceLE, Int32.reduceAdd, Int32.reduceSub, Int32.reduceMul, Int32.reduceToInt, Int32.reduceToNatClampNeg, Int.reduceLT, Int.reduceLE, Int.reduceNeg, true_and, and_true, or_self, or_false, false_or, false_and, and_false, true_or, or_true, if_true, if_false, ne_eq, Classical.not_not, not_true_eq_false, not_false_eq_true, true_implies, false_implies, implies_true, Nat.reduceEqDiff, Nat.reduceAdd, Nat.reduceLeDiff, Nat.reduceSub, reduceCtorEq, reduceIte, b200_90, skM s, srM s, sw, nn, h00, Nat.reduceLT]
              simp (disch := omega) only [nI_ti, nI_cl, le0N, ltNN, c7, pq1, true_and]
              try simp only [lv_args, z_v, z_lg, z_h, z_u, z_u1, z_c, z_ct, z_sk, sbne, lst1_d, ldel, lst2_d, ldel2, z_sw, z_rok, zi, eq_self, List.map_cons, List.map_nil, List.append_nil, List.nil_append, List.cons_append, Int32.reduceLT, Int32.reduceLE, Int32.reduceAdd, Int32.reduceSub, Int32.reduceMul, Int32.reduceToInt, Int32.reduceToNatClampNeg, Int.reduceLT, Int.reduceLE, Int.reduceNeg, true_and, and_true, or_self, or_false, false_or, false_and, and_false, true_or, or_true, if_true, if_false, ne_eq, Classical.not_not, not_true_eq_false, not_false_eq_true, true_implies, false_implies, implies_true, Nat.reduceEqDiff, Nat.reduceAdd, Nat.reduceLeDiff, Nat.reduceSub, reduceCtorEq, reduceIte, b200_90, skM s, sw, h00]
              refine sp_wr1 (y := mYw w) (k := 6) (p := nQ N (prt N c 1)) s D3 rfl rfl (by decide) pq2 (fun e => ?_) (fun e => ?_)
              · have e : wMn w 6 (nQ N (prt N c 1)) = w := e
                have o := add (by omega) cm w h (by rw [if_pos (by omega), e]) ky D
                simp only [lv_args, z_v, z_lg, z_h, z_u, z_u1, z_c, z_ct, z_sk, sbne, lst1_d, ldel, lst2_d, ldel2, z_sw, z_rok, zi, eq_self, List.map_cons, List.map_nil, List.append_nil, List.nil_append, List.cons_append, Int32.reduceLT, Int32.reduceLE, Int32.reduceAdd, Int32.reduceSub, Int32.reduceMul, Int32.reduceToInt, Int32.reduceToNatClampNeg, Int.reduceLT, Int.reduceLE, Int.reduceNeg, true_and, and_true, or_self, or_false, false_or, false_and, and_false, true_or, or_true, if_true, if_false, ne_eq, Classical.not_not, not_true_eq_false, not_false_eq_true, true_implies, false_implies, implies_true, Nat.reduceEqDiff, Nat.reduceAdd, Nat.reduceLeDiff, Nat.reduceSub, reduceCtorEq, reduceIte, b200_90, skM s, sw, Nat.reduceLT]
                exact o
              · have e : wMn w 6 (nQ N (prt N c 1)) = some (6, nQ N (prt N c 1)) := e
                have s7 : Sk (pI (pI h 59 15 (nI 6)) 59 16 (nI (nQ N (prt N c 1)))) := sk_u1 (sk_u1 s)
                have sw7 := sq s7 hq66
                have o := add (by omega) cm (some (6, nQ N (prt N c 1))) (pI (pI h 59 15 (nI 6)) 59 16 (nI (nQ N (prt N c 1)))) (by rw [if_pos (by omega), e]) (kd_I (kd_I ky (by omega)) (by omega)) ⟨by rcases hq66 with rfl | rfl <;> exact D1, D2, ⟨D3.1, fun cc => (by cases cc), fun k p cc => by
                  injection cc with cc
                  injection cc with cc1 cc2
                  subst cc1
                  subst cc2
                  exact ⟨rfl, rfl, by decide, by decide, pq2⟩⟩⟩
                simp only [lv_args, z_v, z_lg, z_h, z_u, z_u1, z_c, z_ct, z_sk, sbne, lst1_d, ldel, lst2_d, ldel2, z_sw, z_rok, zi, eq_self, List.map_cons, List.map_nil, List.append_nil, List.nil_append, List.cons_append, Int32.reduceLT, Int32.reduceLE, Int32.reduceAdd, Int32.reduceSub, Int32.reduceMul, Int32.reduceToInt, Int32.reduceToNatClampNeg, Int.reduceLT, Int.reduceLE, Int.reduceNeg, true_and, and_true, or_self, or_false, false_or, false_and, and_false, true_or, or_true, if_true, if_false, ne_eq, Classical.not_not, not_true_eq_false, not_false_eq_true, true_implies, false_implies, implies_true, Nat.reduceEqDiff, Nat.reduceAdd, Nat.reduceLeDiff, Nat.reduceSub, reduceCtorEq, reduceIte, b200_90, skM s, skM s7, sw, sw7, Nat.reduceLT]
                exact o
        have wq := w_eq' (j := j)
        rcases hT' with rfl | ⟨x, rfl⟩
        · simp only [List.nil_append, List.cons_append]
          simp only [lv_args, z_v, z_lg, z_h, z_u, z_u1, z_c, z_ct, z_sk, sbne, lst1_d, ldel, lst2_d, ldel2, z_sw, z_rok, zi, eq_self, List.map_cons, List.map_nil, List.append_nil, List.nil_append, List.cons_append, Int32.reduceLT, Int32.reduceLE, Int32.reduceAdd, Int32.reduceSub, Int32.reduceMul, Int32.reduceToInt, Int32.reduceToNatClampNeg, Int.reduceLT, Int.reduceLE, Int.reduceNeg, true_and, and_true, or_self, or_false, false_or, false_and, and_false, true_or, or_true, if_true, if_false, ne_eq, Classical.not_not, not_true_eq_false, not_false_eq_true, true_implies, false_implies, implies_true, Nat.reduceEqDiff, Nat.reduceAdd, Nat.reduceLeDiff, Nat.reduceSub, reduceCtorEq, reduceIte, b200_47, skM s, srM s, sw, nn, h00, z1]
          refine m_part (k := 1) m tc c6 x5 x2 (by omega) ?_
          rw [e1]
          simp only [lv_args, z_v, z_lg, z_h, z_u, z_u1, z_c, z_ct, z_sk, sbne, lst1_d, ldel, lst2_d, ldel2, z_sw, z_rok, zi, eq_self, List.map_cons, List.map_nil, List.append_nil, List.nil_append, List.cons_append, Int32.reduceLT, Int32.reduceLE, Int32.reduceAdd, Int32.reduceSub, Int32.reduceMul, Int32.reduceToInt, Int32.reduceToNatClampNeg, Int.reduceLT, Int.reduceLE, Int.reduceNeg, true_and, and_true, or_self, or_false, false_or, false_and, and_false, true_or, or_true, if_true, if_false, ne_eq, Classical.not_not, not_true_eq_false, not_false_eq_true, true_implies, false_implies, implies_true, Nat.reduceEqDiff, Nat.reduceAdd, Nat.reduceLeDiff, Nat.reduceSub, reduceCtorEq, reduceIte, b200_47, skM s, srM s, sw, nn, h00, Nat.reduceLT]
          simp (disch := omega) only [nI_ti, nI_cl, le0N, ltNN, c7, c3, ev, jw2, true_and]
          try simp only [lv_args, z_v, z_lg, z_h, z_u, z_u1, z_c, z_ct, z_sk, sbne, lst1_d, ldel, lst2_d, ldel2, z_sw, z_rok, zi, eq_self, List.map_cons, List.map_nil, List.append_nil, List.nil_append, List.cons_append, Int32.reduceLT, Int32.reduceLE, Int32.reduceAdd, Int32.reduceSub, Int32.reduceMul, Int32.reduceToInt, Int32.reduceToNatClampNeg, Int.reduceLT, Int.reduceLE, Int.reduceNeg, true_and, and_true, or_self, or_false, false_or, false_and, and_false, true_or, or_true, if_true, if_false, ne_eq, Classical.not_not, not_true_eq_false, not_false_eq_true, true_implies, false_implies, implies_true, Nat.reduceEqDiff, Nat.reduceAdd, Nat.reduceLeDiff, Nat.reduceSub, reduceCtorEq, reduceIte, b200_47, skM s, srM s, sw, nn]
          try simp (disch := omega) only [nI_ti, nI_cl, le0N, ltNN, c7, c3, ev, jw2, true_and]
          rw [wq]
          refine ⟨fun g30 => out (fun w => g30 w.1), fun g30 => ?_⟩
          rcases at59 with o | o
          · exact o
          · exact absurd o (by omega)
        · simp only [List.nil_append, List.cons_append]
          simp only [lv_args, z_v, z_lg, z_h, z_u, z_u1, z_c, z_ct, z_sk, sbne, lst1_d, ldel, lst2_d, ldel2, z_sw, z_rok, zi, eq_self, List.map_cons, List.map_nil, List.append_nil, List.nil_append, List.cons_append, Int32.reduceLT, Int32.reduceLE, Int32.reduceAdd, Int32.reduceSub, Int32.reduceMul, Int32.reduceToInt, Int32.reduceToNatClampNeg, Int.reduceLT, Int.reduceLE, Int.reduceNeg, true_and, and_true, or_self, or_false, false_or, false_and, and_false, true_or, or_true, if_true, if_false, ne_eq, Classical.not_not, not_true_eq_false, not_false_eq_true, true_implies, false_implies, implies_true, Nat.reduceEqDiff, Nat.reduceAdd, Nat.reduceLeDiff, Nat.reduceSub, reduceCtorEq, reduceIte, b200_47, skM s, srM s, sw, nn, h00, z1]
          refine m_part (k := 1) m tc c6 x5 x2 (by omega) ?_
          rw [e1]
          simp only [lv_args, z_v, z_lg, z_h, z_u, z_u1, z_c, z_ct, z_sk, sbne, lst1_d, ldel, lst2_d, ldel2, z_sw, z_rok, zi, eq_self, List.map_cons, List.map_nil, List.append_nil, List.nil_append, List.cons_append, Int32.reduceLT, Int32.reduceLE, Int32.reduceAdd, Int32.reduceSub, Int32.reduceMul, Int32.reduceToInt, Int32.reduceToNatClampNeg, Int.reduceLT, Int.reduceLE, Int.reduceNeg, true_and, and_true, or_self, or_false, false_or, false_and, and_false, true_or, or_true, if_true, if_false, ne_eq, Classical.not_not, not_true_eq_false, not_false_eq_true, true_implies, false_implies, implies_true, Nat.reduceEqDiff, Nat.reduceAdd, Nat.reduceLeDiff, Nat.reduceSub, reduceCtorEq, reduceIte, b200_47, skM s, srM s, sw, nn, h00, Nat.reduceLT]
          simp (disch := omega) only [nI_ti, nI_cl, le0N, ltNN, c7, c3, ev, jw2, true_and]
          try simp only [lv_args, z_v, z_lg, z_h, z_u, z_u1, z_c, z_ct, z_sk, sbne, lst1_d, ldel, lst2_d, ldel2, z_sw, z_rok, zi, eq_self, List.map_cons, List.map_nil, List.append_nil, List.nil_append, List.cons_append, Int32.reduceLT, Int32.reduceLE, Int32.reduceAdd, Int32.reduceSub, Int32.reduceMul, Int32.reduceToInt, Int32.reduceToNatClampNeg, Int.reduceLT, Int.reduceLE, Int.reduceNeg, true_and, and_true, or_self, or_false, false_or, false_and, and_false, true_or, or_true, if_true, if_false, ne_eq, Classical.not_not, not_true_eq_false, not_false_eq_true, true_implies, false_implies, implies_true, Nat.reduceEqDiff, Nat.reduceAdd, Nat.reduceLeDiff, Nat.reduceSub, reduceCtorEq, reduceIte, b200_47, skM s, srM s, sw, nn]
          try simp (disch := omega) only [nI_ti, nI_cl, le0N, ltNN, c7, c3, ev, jw2, true_and]
          rw [wq]
          refine ⟨fun g30 => out (fun w => g30 w.1), fun g30 => ?_⟩
          rcases at59 with o | o
          · exact o
          · exact absurd o (by omega)
      have no : wrd N c ≠ 10 ∨ shp N c 10 true = false → ∀ T', (T' = [] ∨ ∃ x, T' = [(3, .int x)]) → aWP d 200 137 ((2, .int (nI (c - 1))) :: (T' ++ [(1, .ref q), (0, .ref 59)])) [] h Q := fun hh T' hT' => by
        have e := skip (fun w => by
          rcases hh with hh | hh
          · exact hh w.1
          · rw [hh] at w
            exact absurd w.2.1 (by decide))
        exact (nxt df w h T' hT' e (sk2 e) (by omega) ky D).1
      have hw10 := wrd_le (N := N) (n := c)
      rcases hT with rfl | ⟨x, rfl⟩
      · have no' := fun hh => no hh [] (Or.inl rfl)
        have dfn' := fun e1 e2 e3 => dfn e1 e2 e3 [] (Or.inl rfl)
        simp only [List.nil_append, List.cons_append] at no' dfn' ⊢
        simp only [lv_args, z_v, z_lg, z_h, z_u, z_u1, z_c, z_ct, z_sk, sbne, lst1_d, ldel, lst2_d, ldel2, z_sw, z_rok, zi, eq_self, List.map_cons, List.map_nil, List.append_nil, List.nil_append, List.cons_append, Int32.reduceLT, Int32.reduceLE, Int32.reduceAdd, Int32.reduceSub, Int32.reduceMul, Int32.reduceToInt, Int32.reduceToNatClampNeg, Int.reduceLT, Int.reduceLE, Int.reduceNeg, true_and, and_true, or_self, or_false, false_or, false_and, and_false, true_or, or_true, if_true, if_false, ne_eq, Classical.not_not, not_true_eq_false, not_false_eq_true, true_implies, false_implies, implies_true, Nat.reduceEqDiff, Nat.reduceAdd, Nat.reduceLeDiff, Nat.reduceSub, reduceCtorEq, reduceIte, b200_10, ne]
        rw [dn_o x2 (by omega)]
        simp only [lv_args, z_v, z_lg, z_h, z_u, z_u1, z_c, z_ct, z_sk, sbne, lst1_d, ldel, lst2_d, ldel2, z_sw, z_rok, zi, eq_self, List.map_cons, List.map_nil, List.append_nil, List.nil_append, List.cons_append, Int32.reduceLT, Int32.reduceLE, Int32.reduceAdd, Int32.reduceSub, Int32.reduceMul, Int32.reduceToInt, Int32.reduceToNatClampNeg, Int.reduceLT, Int.reduceLE, Int.reduceNeg, true_and, and_true, or_self, or_false, false_or, false_and, and_false, true_or, or_true, if_true, if_false, ne_eq, Classical.not_not, not_true_eq_false, not_false_eq_true, true_implies, false_implies, implies_true, Nat.reduceEqDiff, Nat.reduceAdd, Nat.reduceLeDiff, Nat.reduceSub, reduceCtorEq, reduceIte, b200_15, skM s, sw, h00]
        rw [m_isList m x2 x1]
        by_cases c6 : nK N c = 6
        · have e6 : bI (nK N c == 6) = 1 := by rw [c6]; rfl
          rw [e6]
          simp only [lv_args, z_v, z_lg, z_h, z_u, z_u1, z_c, z_ct, z_sk, sbne, lst1_d, ldel, lst2_d, ldel2, z_sw, z_rok, zi, eq_self, List.map_cons, List.map_nil, List.append_nil, List.nil_append, List.cons_append, Int32.reduceLT, Int32.reduceLE, Int32.reduceAdd, Int32.reduceSub, Int32.reduceMul, Int32.reduceToInt, Int32.reduceToNatClampNeg, Int.reduceLT, Int.reduceLE, Int.reduceNeg, true_and, and_true, or_self, or_false, false_or, false_and, and_false, true_or, or_true, if_true, if_false, ne_eq, Classical.not_not, not_true_eq_false, not_false_eq_true, true_implies, false_implies, implies_true, Nat.reduceEqDiff, Nat.reduceAdd, Nat.reduceLeDiff, Nat.reduceSub, reduceCtorEq, reduceIte, b200_15, skM s, sw, z10, Nat.reduceLT]
          simp only [lv_args, z_v, z_lg, z_h, z_u, z_u1, z_c, z_ct, z_sk, sbne, lst1_d, ldel, lst2_d, ldel2, z_sw, z_rok, zi, eq_self, List.map_cons, List.map_nil, List.append_nil, List.nil_append, List.cons_append, Int32.reduceLT, Int32.reduceLE, Int32.reduceAdd, Int32.reduceSub, Int32.reduceMul, Int32.reduceToInt, Int32.reduceToNatClampNeg, Int.reduceLT, Int.reduceLE, Int.reduceNeg, true_and, and_true, or_self, or_false, false_or, false_and, and_false, true_or, or_true, if_true, if_false, ne_eq, Classical.not_not, not_true_eq_false, not_false_eq_true, true_implies, false_implies, implies_true, Nat.reduceEqDiff, Nat.reduceAdd, Nat.reduceLeDiff, Nat.reduceSub, reduceCtorEq, reduceIte, b200_23, skM s, sw, h00]
          rw [m_word m tc c6 x5 x2 (by omega)]
          simp only [lv_args, z_v, z_lg, z_h, z_u, z_u1, z_c, z_ct, z_sk, sbne, lst1_d, ldel, lst2_d, ldel2, z_sw, z_rok, zi, eq_self, List.map_cons, List.map_nil, List.append_nil, List.nil_append, List.cons_append, Int32.reduceLT, Int32.reduceLE, Int32.reduceAdd, Int32.reduceSub, Int32.reduceMul, Int32.reduceToInt, Int32.reduceToNatClampNeg, Int.reduceLT, Int.reduceLE, Int.reduceNeg, true_and, and_true, or_self, or_false, false_or, false_and, and_false, true_or, or_true, if_true, if_false, ne_eq, Classical.not_not, not_true_eq_false, not_false_eq_true, true_implies, false_implies, implies_true, Nat.reduceEqDiff, Nat.reduceAdd, Nat.reduceLeDiff, Nat.reduceSub, reduceCtorEq, reduceIte, b200_23, skM s, sw, z10', Nat.reduceLT]
          simp (disch := omega) only [nI_eqN]
          refine ⟨fun cw => no' (Or.inl cw), fun cw => ?_⟩
          simp only [lv_args, z_v, z_lg, z_h, z_u, z_u1, z_c, z_ct, z_sk, sbne, lst1_d, ldel, lst2_d, ldel2, z_sw, z_rok, zi, eq_self, List.map_cons, List.map_nil, List.append_nil, List.nil_append, List.cons_append, Int32.reduceLT, Int32.reduceLE, Int32.reduceAdd, Int32.reduceSub, Int32.reduceMul, Int32.reduceToInt, Int32.reduceToNatClampNeg, Int.reduceLT, Int.reduceLE, Int.reduceNeg, true_and, and_true, or_self, or_false, false_or, false_and, and_false, true_or, or_true, if_true, if_false, ne_eq, Classical.not_not, not_true_eq_false, not_false_eq_true, true_implies, false_implies, implies_true, Nat.reduceEqDiff, Nat.reduceAdd, Nat.reduceLeDiff, Nat.reduceSub, reduceCtorEq, reduceIte, b200_33, skM s, sw, h00, z10']
          refine m_shp (w := 10) (row := true) m tc c6 x5 x2 (by decide) (by omega) ?_
          simp only [lv_args, z_v, z_lg, z_h, z_u, z_u1, z_c, z_ct, z_sk, sbne, lst1_d, ldel, lst2_d, ldel2, z_sw, z_rok, zi, eq_self, List.map_cons, List.map_nil, List.append_nil, List.nil_append, List.cons_append, Int32.reduceLT, Int32.reduceLE, Int32.reduceAdd, Int32.reduceSub, Int32.reduceMul, Int32.reduceToInt, Int32.reduceToNatClampNeg, Int.reduceLT, Int.reduceLE, Int.reduceNeg, true_and, and_true, or_self, or_false, false_or, false_and, and_false, true_or, or_true, if_true, if_false, ne_eq, Classical.not_not, not_true_eq_false, not_false_eq_true, true_implies, false_implies, implies_true, Nat.reduceEqDiff, Nat.reduceAdd, Nat.reduceLeDiff, Nat.reduceSub, reduceCtorEq, reduceIte, b200_33, skM s, sw, h00, Nat.reduceLT]
          by_cases cs : shp N c 10 true = true
          · have o := dfn' cw cs c6
            rw [cs]
            simp only [eb1, z10, not_false_eq_true, true_imp_iff, false_imp_iff, and_true, true_and]
            exact o
          · have cs : shp N c 10 true = false := by simpa using cs
            have o := no' (Or.inr cs)
            rw [cs]
            simp only [eb0, not_true_eq_false, true_imp_iff, false_imp_iff, and_true, true_and]
            simp only [lv_args, z_v, z_lg, z_h, z_u, z_u1, z_c, z_ct, z_sk, sbne, lst1_d, ldel, lst2_d, ldel2, z_sw, z_rok, zi, eq_self, List.map_cons, List.map_nil, List.append_nil, List.nil_append, List.cons_append, Int32.reduceLT, Int32.reduceLE, Int32.reduceAdd, Int32.reduceSub, Int32.reduceMul, Int32.reduceToInt, Int32.reduceToNatClampNeg, Int.reduceLT, Int.reduceLE, Int.reduceNeg, true_and, and_true, or_self, or_false, false_or, false_and, and_false, true_or, or_true, if_true, if_false, ne_eq, Classical.not_not, not_true_eq_false, not_false_eq_true, true_implies, false_implies, implies_true, Nat.reduceEqDiff, Nat.reduceAdd, Nat.reduceLeDiff, Nat.reduceSub, reduceCtorEq, reduceIte, b200_44]
            exact o
        · have e6 : bI (nK N c == 6) = 0 := by
            have : (nK N c == 6) = false := by simpa using c6
            rw [this]; rfl
          have o := no' (Or.inl (by unfold wrd; rw [pts_no c6]; exact (by decide : (0 : Nat) ≠ 10)))
          rw [e6]
          simp only [lv_args, z_v, z_lg, z_h, z_u, z_u1, z_c, z_ct, z_sk, sbne, lst1_d, ldel, lst2_d, ldel2, z_sw, z_rok, zi, eq_self, List.map_cons, List.map_nil, List.append_nil, List.nil_append, List.cons_append, Int32.reduceLT, Int32.reduceLE, Int32.reduceAdd, Int32.reduceSub, Int32.reduceMul, Int32.reduceToInt, Int32.reduceToNatClampNeg, Int.reduceLT, Int.reduceLE, Int.reduceNeg, true_and, and_true, or_self, or_false, false_or, false_and, and_false, true_or, or_true, if_true, if_false, ne_eq, Classical.not_not, not_true_eq_false, not_false_eq_true, true_implies, false_implies, implies_true, Nat.reduceEqDiff, Nat.reduceAdd, Nat.reduceLeDiff, Nat.reduceSub, reduceCtorEq, reduceIte, b200_15, skM s, sw, Nat.reduceLT]
          exact o
      · have no' := fun hh => no hh [(3, .int x)] (Or.inr ⟨x, rfl⟩)
        have dfn' := fun e1 e2 e3 => dfn e1 e2 e3 [(3, .int x)] (Or.inr ⟨x, rfl⟩)
        simp only [List.nil_append, List.cons_append] at no' dfn' ⊢
        simp only [lv_args, z_v, z_lg, z_h, z_u, z_u1, z_c, z_ct, z_sk, sbne, lst1_d, ldel, lst2_d, ldel2, z_sw, z_rok, zi, eq_self, List.map_cons, List.map_nil, List.append_nil, List.nil_append, List.cons_append, Int32.reduceLT, Int32.reduceLE, Int32.reduceAdd, Int32.reduceSub, Int32.reduceMul, Int32.reduceToInt, Int32.reduceToNatClampNeg, Int.reduceLT, Int.reduceLE, Int.reduceNeg, true_and, and_true, or_self, or_false, false_or, false_and, and_false, true_or, or_true, if_true, if_false, ne_eq, Classical.not_not, not_true_eq_false, not_false_eq_true, true_implies, false_implies, implies_true, Nat.reduceEqDiff, Nat.reduceAdd, Nat.reduceLeDiff, Nat.reduceSub, reduceCtorEq, reduceIte, b200_10, ne]
        rw [dn_o x2 (by omega)]
        simp only [lv_args, z_v, z_lg, z_h, z_u, z_u1, z_c, z_ct, z_sk, sbne, lst1_d, ldel, lst2_d, ldel2, z_sw, z_rok, zi, eq_self, List.map_cons, List.map_nil, List.append_nil, List.nil_append, List.cons_append, Int32.reduceLT, Int32.reduceLE, Int32.reduceAdd, Int32.reduceSub, Int32.reduceMul, Int32.reduceToInt, Int32.reduceToNatClampNeg, Int.reduceLT, Int.reduceLE, Int.reduceNeg, true_and, and_true, or_self, or_false, false_or, false_and, and_false, true_or, or_true, if_true, if_false, ne_eq, Classical.not_not, not_true_eq_false, not_false_eq_true, true_implies, false_implies, implies_true, Nat.reduceEqDiff, Nat.reduceAdd, Nat.reduceLeDiff, Nat.reduceSub, reduceCtorEq, reduceIte, b200_15, skM s, sw, h00]
        rw [m_isList m x2 x1]
        by_cases c6 : nK N c = 6
        · have e6 : bI (nK N c == 6) = 1 := by rw [c6]; rfl
          rw [e6]
          simp only [lv_args, z_v, z_lg, z_h, z_u, z_u1, z_c, z_ct, z_sk, sbne, lst1_d, ldel, lst2_d, ldel2, z_sw, z_rok, zi, eq_self, List.map_cons, List.map_nil, List.append_nil, List.nil_append, List.cons_append, Int32.reduceLT, Int32.reduceLE, Int32.reduceAdd, Int32.reduceSub, Int32.reduceMul, Int32.reduceToInt, Int32.reduceToNatClampNeg, Int.reduceLT, Int.reduceLE, Int.reduceNeg, true_and, and_true, or_self, or_false, false_or, false_and, and_false, true_or, or_true, if_true, if_false, ne_eq, Classical.not_not, not_true_eq_false, not_false_eq_true, true_implies, false_implies, implies_true, Nat.reduceEqDiff, Nat.reduceAdd, Nat.reduceLeDiff, Nat.reduceSub, reduceCtorEq, reduceIte, b200_15, skM s, sw, z10, Nat.reduceLT]
          simp only [lv_args, z_v, z_lg, z_h, z_u, z_u1, z_c, z_ct, z_sk, sbne, lst1_d, ldel, lst2_d, ldel2, z_sw, z_rok, zi, eq_self, List.map_cons, List.map_nil, List.append_nil, List.nil_append, List.cons_append, Int32.reduceLT, Int32.reduceLE, Int32.reduceAdd, Int32.reduceSub, Int32.reduceMul, Int32.reduceToInt, Int32.reduceToNatClampNeg, Int.reduceLT, Int.reduceLE, Int.reduceNeg, true_and, and_true, or_self, or_false, false_or, false_and, and_false, true_or, or_true, if_true, if_false, ne_eq, Classical.not_not, not_true_eq_false, not_false_eq_true, true_implies, false_implies, implies_true, Nat.reduceEqDiff, Nat.reduceAdd, Nat.reduceLeDiff, Nat.reduceSub, reduceCtorEq, reduceIte, b200_23, skM s, sw, h00]
          rw [m_word m tc c6 x5 x2 (by omega)]
          simp only [lv_args, z_v, z_lg, z_h, z_u, z_u1, z_c, z_ct, z_sk, sbne, lst1_d, ldel, lst2_d, ldel2, z_sw, z_rok, zi, eq_self, List.map_cons, List.map_nil, List.append_nil, List.nil_append, List.cons_append, Int32.reduceLT, Int32.reduceLE, Int32.reduceAdd, Int32.reduceSub, Int32.reduceMul, Int32.reduceToInt, Int32.reduceToNatClampNeg, Int.reduceLT, Int.reduceLE, Int.reduceNeg, true_and, and_true, or_self, or_false, false_or, false_and, and_false, true_or, or_true, if_true, if_false, ne_eq, Classical.not_not, not_true_eq_false, not_false_eq_true, true_implies, false_implies, implies_true, Nat.reduceEqDiff, Nat.reduceAdd, Nat.reduceLeDiff, Nat.reduceSub, reduceCtorEq, reduceIte, b200_23, skM s, sw, z10', Nat.reduceLT]
          simp (disch := omega) only [nI_eqN]
          refine ⟨fun cw => no' (Or.inl cw), fun cw => ?_⟩
          simp only [lv_args, z_v, z_lg, z_h, z_u, z_u1, z_c, z_ct, z_sk, sbne, lst1_d, ldel, lst2_d, ldel2, z_sw, z_rok, zi, eq_self, List.map_cons, List.map_nil, List.append_nil, List.nil_append, List.cons_append, Int32.reduceLT, Int32.reduceLE, Int32.reduceAdd, Int32.reduceSub, Int32.reduceMul, Int32.reduceToInt, Int32.reduceToNatClampNeg, Int.reduceLT, Int.reduceLE, Int.reduceNeg, true_and, and_true, or_self, or_false, false_or, false_and, and_false, true_or, or_true, if_true, if_false, ne_eq, Classical.not_not, not_true_eq_false, not_false_eq_true, true_implies, false_implies, implies_true, Nat.reduceEqDiff, Nat.reduceAdd, Nat.reduceLeDiff, Nat.reduceSub, reduceCtorEq, reduceIte, b200_33, skM s, sw, h00, z10']
          refine m_shp (w := 10) (row := true) m tc c6 x5 x2 (by decide) (by omega) ?_
          simp only [lv_args, z_v, z_lg, z_h, z_u, z_u1, z_c, z_ct, z_sk, sbne, lst1_d, ldel, lst2_d, ldel2, z_sw, z_rok, zi, eq_self, List.map_cons, List.map_nil, List.append_nil, List.nil_append, List.cons_append, Int32.reduceLT, Int32.reduceLE, Int32.reduceAdd, Int32.reduceSub, Int32.reduceMul, Int32.reduceToInt, Int32.reduceToNatClampNeg, Int.reduceLT, Int.reduceLE, Int.reduceNeg, true_and, and_true, or_self, or_false, false_or, false_and, and_false, true_or, or_true, if_true, if_false, ne_eq, Classical.not_not, not_true_eq_false, not_false_eq_true, true_implies, false_implies, implies_true, Nat.reduceEqDiff, Nat.reduceAdd, Nat.reduceLeDiff, Nat.reduceSub, reduceCtorEq, reduceIte, b200_33, skM s, sw, h00, Nat.reduceLT]
          by_cases cs : shp N c 10 true = true
          · have o := dfn' cw cs c6
            rw [cs]
            simp only [eb1, z10, not_false_eq_true, true_imp_iff, false_imp_iff, and_true, true_and]
            exact o
          · have cs : shp N c 10 true = false := by simpa using cs
            have o := no' (Or.inr cs)
            rw [cs]
            simp only [eb0, not_true_eq_false, true_imp_iff, false_imp_iff, and_true, true_and]
            simp only [lv_args, z_v, z_lg, z_h, z_u, z_u1, z_c, z_ct, z_sk, sbne, lst1_d, ldel, lst2_d, ldel2, z_sw, z_rok, zi, eq_self, List.map_cons, List.map_nil, List.append_nil, List.nil_append, List.cons_append, Int32.reduceLT, Int32.reduceLE, Int32.reduceAdd, Int32.reduceSub, Int32.reduceMul, Int32.reduceToInt, Int32.reduceToNatClampNeg, Int.reduceLT, Int.reduceLE, Int.reduceNeg, true_and, and_true, or_self, or_false, false_or, false_and, and_false, true_or, or_true, if_true, if_false, ne_eq, Classical.not_not, not_true_eq_false, not_false_eq_true, true_implies, false_implies, implies_true, Nat.reduceEqDiff, Nat.reduceAdd, Nat.reduceLeDiff, Nat.reduceSub, reduceCtorEq, reduceIte, b200_44]
            exact o
        · have e6 : bI (nK N c == 6) = 0 := by
            have : (nK N c == 6) = false := by simpa using c6
            rw [this]; rfl
          have o := no' (Or.inl (by unfold wrd; rw [pts_no c6]; exact (by decide : (0 : Nat) ≠ 10)))
          rw [e6]
          simp only [lv_args, z_v, z_lg, z_h, z_u, z_u1, z_c, z_ct, z_sk, sbne, lst1_d, ldel, lst2_d, ldel2, z_sw, z_rok, zi, eq_self, List.map_cons, List.map_nil, List.append_nil, List.nil_append, List.cons_append, Int32.reduceLT, Int32.reduceLE, Int32.reduceAdd, Int32.reduceSub, Int32.reduceMul, Int32.reduceToInt, Int32.reduceToNatClampNeg, Int.reduceLT, Int.reduceLE, Int.reduceNeg, true_and, and_true, or_self, or_false, false_or, false_and, and_false, true_or, or_true, if_true, if_false, ne_eq, Classical.not_not, not_true_eq_false, not_false_eq_true, true_implies, false_implies, implies_true, Nat.reduceEqDiff, Nat.reduceAdd, Nat.reduceLeDiff, Nat.reduceSub, reduceCtorEq, reduceIte, b200_15, skM s, sw, Nat.reduceLT]
          exact o
  have s := m0.1.1
  have R := mc_R m0
  have sw := sq s hq66
  have e3 : hI h0 q 3 = dnI (oI (pts N 0).head?) := by rw [m0.2.2.1.2.2, t1]
  have go := loop (pts N 0) 1 [] none h0 [] (Or.inl rfl) t2 (by simp) kd_rf D0 hq
  simp only [List.nil_append, List.cons_append] at go
  unfold aEv
  simp only [lv_args, z_v, z_lg, z_h, z_u, z_u1, z_c, z_ct, z_sk, sbne, lst1_d, ldel, lst2_d, ldel2, z_sw, z_rok, zi, eq_self, List.map_cons, List.map_nil, List.append_nil, List.nil_append, List.cons_append, Int32.reduceLT, Int32.reduceLE, Int32.reduceAdd, Int32.reduceSub, Int32.reduceMul, Int32.reduceToInt, Int32.reduceToNatClampNeg, Int.reduceLT, Int.reduceLE, Int.reduceNeg, true_and, and_true, or_self, or_false, false_or, false_and, and_false, true_or, or_true, if_true, if_false, ne_eq, Classical.not_not, not_true_eq_false, not_false_eq_true, true_implies, false_implies, implies_true, Nat.reduceEqDiff, Nat.reduceAdd, Nat.reduceLeDiff, Nat.reduceSub, reduceCtorEq, reduceIte, b200_0, skM s, R, sw, e3]
  exact go
end MDF
