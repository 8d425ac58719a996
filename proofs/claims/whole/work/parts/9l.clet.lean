/-! BUILD. let, letrec -/
section CLT
variable {h h' h0 : Hp} {Q : Option Value → Hp → Prop} {d p c1 c2 n g b : Nat} {N : NS} {mt op : List Nat} {K : List KY} {z : CR} {F : Nat → Bool → CR → CR}
theorem cw_g {D g' : Nat} (w : CW D g z) (h : g' ≤ g) : CW D g' z := ⟨w.1, by have := w.2.1; omega, by have := w.2.2.1; omega, w.2.2.2⟩
theorem cw_Ck {D : Nat} {bf : List Nat} {c : Nat} (w : CW D g z) : CW D g (cCk N bf c z) := by
  unfold cCk
  split
  · exact w
  · exact ⟨w.1, w.2.1, w.2.2.1, fun hn => absurd hn tl_fl⟩
theorem gd_Ck {bf : List Nat} {c : Nat} (G : gd c1 c2 (cCk N bf c z)) : gd c1 c2 z := by
  unfold cCk at G
  split at G
  · exact G
  · exact absurd G.1 tl_fl
/-- a pair of a let: its name, its value -/
def Prx (N : NS) (g c : Nat) : Prop := nK N c = 6 ∧ (pts N c).length = 2 ∧ nF N c = nI (prt N c 0) ∧ (1 ≤ prt N c 0 ∧ prt N c 0 < N.1 ∧ nK N (prt N c 0) = 5) ∧ (1 ≤ prt N c 1 ∧ ∃ m, Tr g N (prt N c 1) m ∧ m ≤ N.1) ∧ ∃ m, Tr (g + 1) N c m ∧ m ≤ N.1
theorem prx_er {c : Nat} (x : Prx N g c) : Ern N c ∧ erN N c = prt N c 0 := by
  have e : erN N c = prt N c 0 := if_pos x.1
  exact ⟨⟨fun _ => x.2.2.1, by rw [e]; exact x.2.2.2.1.1, by rw [e]; exact x.2.2.2.1.2.1, by rw [e]; exact x.2.2.2.1.2.2⟩, e⟩
/-- the second part of a pair -/
theorem prx_2 {c : Nat} (s : Sk h) (r : RD N h) (hNm : N.1 ≤ 6201) (x : Prx N g c) (hd : 0 < d) : aEv d 131 [.ref 3, .int (nI c)] h Q ↔ Q (some (.int (nI (prt N c 1)))) h := by
  obtain ⟨m, ht, hm⟩ := x.2.2.2.2.2
  rw [rd_2 s r ht x.1 hm hNm hd, oI_g (prt_get (by have := x.2.1; omega))]
theorem sp_bindPairs {L d0 : Nat} {st : Int32} {gg bb : Nat} (cc : CC N mt K p c1 c2 h0) (hT : Tr (gg + 1) N L bb) (hTb : bb ≤ N.1) (h6 : nK N L = 6) (hx : ∀ c, c ∈ pts N L → Prx N g c) (H : CH N K p c1 c2 h0 op z h) (hst : gd c1 c2 z → st = nI d0) (hsc : (rSc z).length + (pts N L).length ≤ 248) (hd : 8 < d) (hq : ∀ h', CH N K p c1 c2 h0 op (cBp N (pts N L) d0 z) h' → Q none h') : aEv d 3 [.ref 39, .int (nI L), .int st] h Q := by
  have h00 : 0 < d := by omega
  have nk := cc.2.2.2.2.1
  have hNm := nk.2.2
  obtain ⟨t1, t2, hL⟩ := tl_n hT h6 hTb hNm
  have hlen := tl_len t2
  have loop : ∀ (l : List Nat) (i a : Nat) (z : CR) (h : Hp), TL gg N l a bb → (∀ c, c ∈ l → Prx N g c) → i + l.length = (pts N L).length → (rSc z).length + l.length ≤ 248 → (gd c1 c2 z → st = nI d0) → CH N K p c1 c2 h0 op z h → (∀ h', CH N K p c1 c2 h0 op (cBp N l (d0 + i) z) h' → Q none h') → aWP d 3 12 [(4, .int (nI i)), (3, .int (oI l.head?)), (0, .ref 39), (1, .int (nI L)), (2, .int st)] [] h Q := by
    intro l
    induction l with
    | nil =>
      intro i a z h tl hx hi hsc hst H q
      have hi : i = (pts N L).length := hi
      have s := H.1.1.1.1
      have r := cc_rd cc H.1
      have fin := q h H
      simp only [lv_args, z_v, z_lg, z_h, z_u, z_u1, z_c, z_ct, z_sk, sbne, lst1_d, ldel, lst2_d, ldel2, z_sw, z_rok, zi, eq_self, List.map_cons, List.map_nil, List.append_nil, List.nil_append, List.cons_append, Int32.reduceLT, Int32.reduceLE, Int32.reduceAdd, Int32.reduceSub, Int32.reduceMul, Int32.reduceToInt, Int32.reduceToNatClampNeg, Int.reduceLT, Int.reduceLE, Int.reduceNeg, true_and, and_true, or_self, or_false, false_or, false_and, and_false, true_or, or_true, if_true, if_false, ne_eq, Classical.not_not, not_true_eq_false, not_false_eq_true, true_implies, false_implies, implies_true, Nat.reduceEqDiff, Nat.reduceAdd, Nat.reduceLeDiff, Nat.reduceSub, reduceCtorEq, reduceIte, b3_12, skX s, srX s, h00, rd_m s r hL hT (by omega) (by omega : 0 < d - 1), Nat.reduceLT]
      simp (disch := omega) only [nI_leN]
      refine ⟨fun _ => ?_, fun c => absurd (by omega) c⟩
      simp only [lv_args, z_v, z_lg, z_h, z_u, z_u1, z_c, z_ct, z_sk, sbne, lst1_d, ldel, lst2_d, ldel2, z_sw, z_rok, zi, eq_self, List.map_cons, List.map_nil, List.append_nil, List.nil_append, List.cons_append, Int32.reduceLT, Int32.reduceLE, Int32.reduceAdd, Int32.reduceSub, Int32.reduceMul, Int32.reduceToInt, Int32.reduceToNatClampNeg, Int.reduceLT, Int.reduceLE, Int.reduceNeg, true_and, and_true, or_self, or_false, false_or, false_and, and_false, true_or, or_true, if_true, if_false, ne_eq, Classical.not_not, not_true_eq_false, not_false_eq_true, true_implies, false_implies, implies_true, Nat.reduceEqDiff, Nat.reduceAdd, Nat.reduceLeDiff, Nat.reduceSub, reduceCtorEq, reduceIte, b3_66]
      exact fin
    | cons c l ih =>
      intro i a z h tl hx hi hsc hst H q
      simp only [List.length_cons] at hi hsc
      obtain ⟨x1, x2, x3, m, x4, x5, x6⟩ := tl_c tl
      have s := H.1.1.1.1
      have r := cc_rd cc H.1
      have px := hx c (by simp)
      obtain ⟨u1, u2, u3⟩ := px.2.2.2.1
      obtain ⟨j, hj, ej, ej2, hj3⟩ := nok_name nk u1 u2 u3
      have ho : oI (List.head? (c :: l)) = nI c := rfl
      simp only [lv_args, z_v, z_lg, z_h, z_u, z_u1, z_c, z_ct, z_sk, sbne, lst1_d, ldel, lst2_d, ldel2, z_sw, z_rok, zi, eq_self, List.map_cons, List.map_nil, List.append_nil, List.nil_append, List.cons_append, Int32.reduceLT, Int32.reduceLE, Int32.reduceAdd, Int32.reduceSub, Int32.reduceMul, Int32.reduceToInt, Int32.reduceToNatClampNeg, Int.reduceLT, Int.reduceLE, Int.reduceNeg, true_and, and_true, or_self, or_false, false_or, false_and, and_false, true_or, or_true, if_true, if_false, ne_eq, Classical.not_not, not_true_eq_false, not_false_eq_true, true_implies, false_implies, implies_true, Nat.reduceEqDiff, Nat.reduceAdd, Nat.reduceLeDiff, Nat.reduceSub, reduceCtorEq, reduceIte, b3_12, skX s, srX s, h00, rd_m s r hL hT (by omega) (by omega : 0 < d - 1), Nat.reduceLT]
      simp (disch := omega) only [nI_leN]
      refine ⟨fun c => absurd c (by omega), fun _ => ?_⟩
      simp only [lv_args, z_v, z_lg, z_h, z_u, z_u1, z_c, z_ct, z_sk, sbne, lst1_d, ldel, lst2_d, ldel2, z_sw, z_rok, zi, eq_self, List.map_cons, List.map_nil, List.append_nil, List.nil_append, List.cons_append, Int32.reduceLT, Int32.reduceLE, Int32.reduceAdd, Int32.reduceSub, Int32.reduceMul, Int32.reduceToInt, Int32.reduceToNatClampNeg, Int.reduceLT, Int.reduceLE, Int.reduceNeg, true_and, and_true, or_self, or_false, false_or, false_and, and_false, true_or, or_true, if_true, if_false, ne_eq, Classical.not_not, not_true_eq_false, not_false_eq_true, true_implies, false_implies, implies_true, Nat.reduceEqDiff, Nat.reduceAdd, Nat.reduceLeDiff, Nat.reduceSub, reduceCtorEq, reduceIte, b3_25, skX s, srX s, h00, ho, rd_f s r x1, px.2.2.1, rd_c s r u2, ej, Nat.reduceLT]
      refine sp_cbind (j := j) (sl := d0 + i) cc H rfl hj3 (fun G => by rw [hst G, nI_add]) (by omega) (by omega) (fun h1 H1 => ?_)
      have s1 := H1.1.1.1.1
      have r1 := cc_rd cc H1.1
      have nx := ih (i + 1) m (cBi j (d0 + i) z) h1 x6 (fun c' hc' => hx c' (List.mem_cons_of_mem _ hc')) (by omega) (by
        have : (rSc (cBi j (d0 + i) z)).length = (rSc z).length + 1 := by
          show (_ ++ [_]).length = _
          rw [List.length_append]; rfl
        omega) hst H1 (fun h' w => q h' (by
          show CH N K p c1 c2 h0 op (cBp N l (d0 + i + 1) (cBi (nCn N (prt N c 0)) (d0 + i) z)) h'
          rw [ej2]; exact w))
      simp only [lv_args, z_v, z_lg, z_h, z_u, z_u1, z_c, z_ct, z_sk, sbne, lst1_d, ldel, lst2_d, ldel2, z_sw, z_rok, zi, eq_self, List.map_cons, List.map_nil, List.append_nil, List.nil_append, List.cons_append, Int32.reduceLT, Int32.reduceLE, Int32.reduceAdd, Int32.reduceSub, Int32.reduceMul, Int32.reduceToInt, Int32.reduceToNatClampNeg, Int.reduceLT, Int.reduceLE, Int.reduceNeg, true_and, and_true, or_self, or_false, false_or, false_and, and_false, true_or, or_true, if_true, if_false, ne_eq, Classical.not_not, not_true_eq_false, not_false_eq_true, true_implies, false_implies, implies_true, Nat.reduceEqDiff, Nat.reduceAdd, Nat.reduceLeDiff, Nat.reduceSub, reduceCtorEq, reduceIte, b3_25, skX s, skX s1, srX s1, h00, Nat.reduceLT, rd_x s1 r1 x1, x3, nI_1]
      exact nx
  have s := H.1.1.1.1
  have r := cc_rd cc H.1
  have go := loop (pts N L) 0 (L + 1) z h t2 hx (Nat.zero_add _) hsc hst H hq
  unfold aEv
  simp only [lv_args, z_v, z_lg, z_h, z_u, z_u1, z_c, z_ct, z_sk, sbne, lst1_d, ldel, lst2_d, ldel2, z_sw, z_rok, zi, eq_self, List.map_cons, List.map_nil, List.append_nil, List.nil_append, List.cons_append, Int32.reduceLT, Int32.reduceLE, Int32.reduceAdd, Int32.reduceSub, Int32.reduceMul, Int32.reduceToInt, Int32.reduceToNatClampNeg, Int.reduceLT, Int.reduceLE, Int.reduceNeg, true_and, and_true, or_self, or_false, false_or, false_and, and_false, true_or, or_true, if_true, if_false, ne_eq, Classical.not_not, not_true_eq_false, not_false_eq_true, true_implies, false_implies, implies_true, Nat.reduceEqDiff, Nat.reduceAdd, Nat.reduceLeDiff, Nat.reduceSub, reduceCtorEq, reduceIte, b3_0, skX s, srX s, h00, rd_f s r hL, t1, Nat.reduceLT]
  exact go
/-- bindings go out again -/
theorem sp_leaveB {ar st0 k : Nat} {st : Int32} {la : Bool} (cc : CC N mt K p c1 c2 h0) (H : CH N K p c1 c2 h0 op z h) (har : ar ≤ (rSc z).length) (hst : gd c1 c2 z → st = nI st0) (hv : gd c1 c2 z → rDp z < 1000000 ∧ rDx z < 1000000) (hd : 2 < d) (hq : ∀ h', CH N K p c1 c2 h0 op (cLe la ar st0 k z) h' → Q none h') : aEv d 20 [.ref 39, .int (nI ar), .int st, .int (nI k), .int (bI la)] h Q := by
  have h00 : 0 < d := by omega
  have s := H.1.1.1.1
  have z10 : ¬ (1 : Int32) = 0 := by decide
  have eb0 : bI false = 0 := rfl
  have eb1 : bI true = 1 := rfl
  unfold aEv
  simp only [lv_args, z_v, z_lg, z_h, z_u, z_u1, z_c, z_ct, z_sk, sbne, lst1_d, ldel, lst2_d, ldel2, z_sw, z_rok, zi, eq_self, List.map_cons, List.map_nil, List.append_nil, List.nil_append, List.cons_append, Int32.reduceLT, Int32.reduceLE, Int32.reduceAdd, Int32.reduceSub, Int32.reduceMul, Int32.reduceToInt, Int32.reduceToNatClampNeg, Int.reduceLT, Int.reduceLE, Int.reduceNeg, true_and, and_true, or_self, or_false, false_or, false_and, and_false, true_or, or_true, if_true, if_false, ne_eq, Classical.not_not, not_true_eq_false, not_false_eq_true, true_implies, false_implies, implies_true, Nat.reduceEqDiff, Nat.reduceAdd, Nat.reduceLeDiff, Nat.reduceSub, reduceCtorEq, reduceIte, b20_0, skX s, srX s, h00]
  refine sp_unb cc H har (by omega) (fun h1 H1 => ?_)
  have s1 := H1.1.1.1.1
  cases la with
  | true =>
    have H2 := ch_dp (dp := st0 + 1) (v := st + 1) cc H1 (fun G => by rw [hst G, nI_s])
    simp only [lv_args, z_v, z_lg, z_h, z_u, z_u1, z_c, z_ct, z_sk, sbne, lst1_d, ldel, lst2_d, ldel2, z_sw, z_rok, zi, eq_self, List.map_cons, List.map_nil, List.append_nil, List.nil_append, List.cons_append, Int32.reduceLT, Int32.reduceLE, Int32.reduceAdd, Int32.reduceSub, Int32.reduceMul, Int32.reduceToInt, Int32.reduceToNatClampNeg, Int.reduceLT, Int.reduceLE, Int.reduceNeg, true_and, and_true, or_self, or_false, false_or, false_and, and_false, true_or, or_true, if_true, if_false, ne_eq, Classical.not_not, not_true_eq_false, not_false_eq_true, true_implies, false_implies, implies_true, Nat.reduceEqDiff, Nat.reduceAdd, Nat.reduceLeDiff, Nat.reduceSub, reduceCtorEq, reduceIte, b20_0, skX s, skX s1, Nat.reduceLT, eb1, z10]
    simp only [lv_args, z_v, z_lg, z_h, z_u, z_u1, z_c, z_ct, z_sk, sbne, lst1_d, ldel, lst2_d, ldel2, z_sw, z_rok, zi, eq_self, List.map_cons, List.map_nil, List.append_nil, List.nil_append, List.cons_append, Int32.reduceLT, Int32.reduceLE, Int32.reduceAdd, Int32.reduceSub, Int32.reduceMul, Int32.reduceToInt, Int32.reduceToNatClampNeg, Int.reduceLT, Int.reduceLE, Int.reduceNeg, true_and, and_true, or_self, or_false, false_or, false_and, and_false, true_or, or_true, if_true, if_false, ne_eq, Classical.not_not, not_true_eq_false, not_false_eq_true, true_implies, false_implies, implies_true, Nat.reduceEqDiff, Nat.reduceAdd, Nat.reduceLeDiff, Nat.reduceSub, reduceCtorEq, reduceIte, b20_22, skX s1]
    exact hq _ H2
  | false =>
    simp only [lv_args, z_v, z_lg, z_h, z_u, z_u1, z_c, z_ct, z_sk, sbne, lst1_d, ldel, lst2_d, ldel2, z_sw, z_rok, zi, eq_self, List.map_cons, List.map_nil, List.append_nil, List.nil_append, List.cons_append, Int32.reduceLT, Int32.reduceLE, Int32.reduceAdd, Int32.reduceSub, Int32.reduceMul, Int32.reduceToInt, Int32.reduceToNatClampNeg, Int.reduceLT, Int.reduceLE, Int.reduceNeg, true_and, and_true, or_self, or_false, false_or, false_and, and_false, true_or, or_true, if_true, if_false, ne_eq, Classical.not_not, not_true_eq_false, not_false_eq_true, true_implies, false_implies, implies_true, Nat.reduceEqDiff, Nat.reduceAdd, Nat.reduceLeDiff, Nat.reduceSub, reduceCtorEq, reduceIte, b20_0, skX s, skX s1, Nat.reduceLT, eb0]
    simp only [lv_args, z_v, z_lg, z_h, z_u, z_u1, z_c, z_ct, z_sk, sbne, lst1_d, ldel, lst2_d, ldel2, z_sw, z_rok, zi, eq_self, List.map_cons, List.map_nil, List.append_nil, List.nil_append, List.cons_append, Int32.reduceLT, Int32.reduceLE, Int32.reduceAdd, Int32.reduceSub, Int32.reduceMul, Int32.reduceToInt, Int32.reduceToNatClampNeg, Int.reduceLT, Int.reduceLE, Int.reduceNeg, true_and, and_true, or_self, or_false, false_or, false_and, and_false, true_or, or_true, if_true, if_false, ne_eq, Classical.not_not, not_true_eq_false, not_false_eq_true, true_implies, false_implies, implies_true, Nat.reduceEqDiff, Nat.reduceAdd, Nat.reduceLeDiff, Nat.reduceSub, reduceCtorEq, reduceIte, b20_13, skX s1, h00]
    refine sp_emit (o := 31) (v := nI k) (dp := rDp z) cc H1 (fun G => ⟨rfl, rfl, Int32.add_zero _, hv (gd_E G).1⟩) (by omega) (fun x h2 H2 _ => ?_)
    have s2 := H2.1.1.1.1
    have H3 := ch_dp (dp := st0 + 1) (v := st + 1) cc H2 (fun G => by rw [hst (gd_E G).1, nI_s])
    simp only [lv_args, z_v, z_lg, z_h, z_u, z_u1, z_c, z_ct, z_sk, sbne, lst1_d, ldel, lst2_d, ldel2, z_sw, z_rok, zi, eq_self, List.map_cons, List.map_nil, List.append_nil, List.nil_append, List.cons_append, Int32.reduceLT, Int32.reduceLE, Int32.reduceAdd, Int32.reduceSub, Int32.reduceMul, Int32.reduceToInt, Int32.reduceToNatClampNeg, Int.reduceLT, Int.reduceLE, Int.reduceNeg, true_and, and_true, or_self, or_false, false_or, false_and, and_false, true_or, or_true, if_true, if_false, ne_eq, Classical.not_not, not_true_eq_false, not_false_eq_true, true_implies, false_implies, implies_true, Nat.reduceEqDiff, Nat.reduceAdd, Nat.reduceLeDiff, Nat.reduceSub, reduceCtorEq, reduceIte, b20_13, skX s1, skX s2, Nat.reduceLT]
    simp only [lv_args, z_v, z_lg, z_h, z_u, z_u1, z_c, z_ct, z_sk, sbne, lst1_d, ldel, lst2_d, ldel2, z_sw, z_rok, zi, eq_self, List.map_cons, List.map_nil, List.append_nil, List.nil_append, List.cons_append, Int32.reduceLT, Int32.reduceLE, Int32.reduceAdd, Int32.reduceSub, Int32.reduceMul, Int32.reduceToInt, Int32.reduceToNatClampNeg, Int.reduceLT, Int.reduceLE, Int.reduceNeg, true_and, and_true, or_self, or_false, false_or, false_and, and_false, true_or, or_true, if_true, if_false, ne_eq, Classical.not_not, not_true_eq_false, not_false_eq_true, true_implies, false_implies, implies_true, Nat.reduceEqDiff, Nat.reduceAdd, Nat.reduceLeDiff, Nat.reduceSub, reduceCtorEq, reduceIte, b20_22, skX s2]
    exact hq _ H3
theorem let_facts (cc : CC N mt K p c1 c2 h0) (ht : Tr (g + 1) N n b) (h6 : nK N n = 6) (hb : b ≤ N.1) (hl : 3 ≤ (pts N n).length) (hp : arP N (prt N n 1) = true) : ∃ L gg bb m a0 a1, prt N n 1 = L ∧ g = gg + 1 ∧ Tr (gg + 1) N L bb ∧ bb ≤ N.1 ∧ nK N L = 6 ∧ L < N.1 ∧ 1 ≤ L ∧ nX N L = oI ((pts N n)[2]?) ∧ nF N L = oI (pts N L).head? ∧ TL gg N (pts N L) (L + 1) bb ∧ TL g N ((pts N n).drop 2) a0 b ∧ (∀ c, c ∈ pts N L → Prx N g c) ∧ Sqn g N (vls N (pts N L)) a1 m ∧ Sqn g N ((pts N n).drop 2) m b ∧ (pts N L).length ≤ 8 ∧ (pts N n)[1]? = some L := by
  have hNm := cc.2.2.2.2.1.2.2
  obtain ⟨t1, t2, hn⟩ := tl_n ht h6 hb hNm
  obtain ⟨m, q1, q2⟩ := let_sq ht h6 (by omega) hl hp
  obtain ⟨p1, p2, p3⟩ := arP_2 hp
  have g1 := prt_get (N := N) (n := n) (k := 1) (by omega)
  obtain ⟨a1, a2, a3, m1, a4, a5⟩ := tl_get t2 g1
  obtain ⟨a0, t3⟩ := tl_drop 2 t2
  cases g with
  | zero => exact a4.elim
  | succ gg =>
    obtain ⟨u1, u2, u3⟩ := tl_n a4 p1 a5 hNm
    refine ⟨prt N n 1, gg, m1, m, a0, n + 1, rfl, rfl, a4, a5, p1, a1, a2, a3, u1, u2, t3, fun c hc => ?_, q1, q2, p2, g1⟩
    obtain ⟨v1, v2⟩ := p3 c hc
    obtain ⟨i, hi⟩ := List.mem_iff_getElem?.mp hc
    obtain ⟨b1, b2, b3, m2, b4, b5⟩ := tl_get u2 hi
    have c6 : nK N c = 6 := Classical.byContradiction fun w => by rw [pts_no w] at v1; simp at v1
    cases gg with
    | zero => exact b4.elim
    | succ gg =>
      obtain ⟨w1, w2, w3⟩ := tl_n b4 c6 b5 hNm
      have k0 := prt_get (N := N) (n := c) (k := 0) (by omega)
      have k1 := prt_get (N := N) (n := c) (k := 1) (by omega)
      obtain ⟨e1, e2, e3, m3, e4, e5⟩ := tl_get w2 k0
      obtain ⟨f1, f2, f3, m4, f4, f5⟩ := tl_get w2 k1
      have hd0 : (pts N c).head? = some (prt N c 0) := by rw [← k0]; cases pts N c <;> rfl
      refine ⟨c6, v1, by rw [w1, hd0]; rfl, ⟨e2, e1, v2⟩, ⟨f2, m4, tr_mono f4 (by omega), f5⟩, m2, tr_mono b4 (by omega), b5⟩
theorem cw_Bo {la : Bool} (fb : FB N K p c1 c2 h0 g F) (hNm : N.1 ≤ 6201) : ∀ (l : List Nat) (a : Nat) (z : CR), l ≠ [] → TL g N l a b → CW (9 * g) g z → CW (9 * g - 1) g (cBo F la l z)
  | [], _, _, h, _, _ => absurd rfl h
  | [c], a, z, _, tl, w => by
    obtain ⟨x1, x2, x3, m, x4, x5, x6⟩ := tl_c tl
    have g1 : 1 ≤ g := by
      cases g with
      | zero => exact x4.elim
      | succ g => omega
    exact (cw_F (D := 9 * g - 1) fb hNm x4 x5 (cw_wk w (by omega)) (by omega)).1
  | c :: c' :: l, a, z, _, tl, w => by
    obtain ⟨x1, x2, x3, m, x4, x5, x6⟩ := tl_c tl
    have g1 : 1 ≤ g := by
      cases g with
      | zero => exact x4.elim
      | succ g => omega
    obtain ⟨w', gm, dp1, _⟩ := cw_F (D := 9 * g - 1) (la := false) fb hNm x4 x5 (cw_wk w (by omega)) (by omega)
    exact cw_Bo fb hNm (c' :: l) m _ (by simp) x6 (cw_E w' (fun hn => by have := (w'.2.2.2 hn).1; have := (dp1 hn).2; omega))
theorem mp_er {L i : Nat} (hx : ∀ c, c ∈ pts N L → Prx N g c) : ((pts N L).take i).map (fun c => nCn N (erN N c)) = ((pts N L).take i).map (fun c => nCn N (prt N c 0)) := List.map_congr_left fun c hc => by
  rw [(prx_er (hx c (List.mem_of_mem_take hc))).2]
theorem sp_letForm {lv : Nat} {la : Bool} (cc : CC N mt K p c1 c2 h0) (fb : FB N K p c1 c2 h0 g F) (ht : Tr (g + 1) N n b) (h6 : nK N n = 6) (hb : b ≤ N.1) (hn1 : 1 ≤ n) (hl : 3 ≤ (pts N n).length) (hpr : arP N (prt N n 1) = true) (w : CW (9 * g + 9) (g + 1) z) (H : CH N K p c1 c2 h0 op z h) (hlv : 1 ≤ lv) (hlv2 : lv + g ≤ 32) (hd : 5 * g + 33 < d) (hq : ∀ h', CH N K p c1 c2 h0 op (cLet N F la (pts N (prt N n 1)) ((pts N n).drop 2) z) h' → Q none h') : aEv d 21 [.ref 39, .int (nI n), .int (bI la), .int (nI lv)] h Q := by
  have h00 : 0 < d := by omega
  have nk := cc.2.2.2.2.1
  have hNm := nk.2.2
  have hn := (tl_n ht h6 hb hNm).2.2
  obtain ⟨L, gg, bb, mm, a0, a1, eL, eg, tL, bbN, k6, LN, L1, xL, fL, tl1, tl2, px, sq1, sq2, p8, gL⟩ := let_facts cc ht h6 hb hl hpr
  rw [eL] at hq
  have hlen := tl_len tl1
  have hlen2 := tl_len (tl_n ht h6 hb hNm).2.1
  have s := H.1.1.1.1
  have r := cc_rd cc H.1
  have dne : (pts N n).drop 2 ≠ [] := dr_ne (by omega)
  have ern : ∀ c, c ∈ pts N L → Ern N c := fun c hc => (prx_er (px c hc)).1
  obtain ⟨p1, p2, p3, p4, p5⟩ := lt_e fb.1 (pts N L) [] a1 mm z sq1 w.1
  obtain ⟨B1, B2, B3⟩ := bp_e (N := N) (pts N L) (rDp z) (cLt N F (pts N L) [] z) p3
  have eB := bnd_ef (a := mm) B1 B2 B3
  obtain ⟨tB1, tB2, tB3, tB4⟩ := t_of B3
  obtain ⟨nB1, nB2⟩ := bnd_b B1
  obtain ⟨q1, q2, q3, q4, q5⟩ := bo_e fb.1 (la := la) ((pts N n).drop 2) mm b _ dne sq2 nB2
  have lB : (rSc (cBp N (pts N L) (rDp z) (cLt N F (pts N L) [] z))).length = (rSc z).length + (pts N L).length := by
    obtain ⟨tt, x1, x2, _⟩ := B1
    rw [x1, List.length_append, x2, p1]
  have wsc := w.2.1
  have es : nI (pts N n).length - 2 = nI ((pts N n).drop 2).length := by
    have e2 : (2 : Int32) = nI 2 := rfl
    rw [e2, nI_sub (by omega), List.length_drop]
  -- behind the values
  have rest : ∀ h1, CW (9 * g + 1) g (cLt N F (pts N L) [] z) → CH N K p c1 c2 h0 op (cLt N F (pts N L) [] z) h1 → aWP d 21 106 [(9, .int (nI (pts N L).length)), (8, .int (-1)), (7, .int (nI (pts N L).length)), (6, .int (nI L)), (5, .int (nI (rSc z).length)), (4, .int (hI h 39 6)), (0, .ref 39), (1, .int (nI n)), (2, .int (bI la)), (3, .int (nI lv))] [] h1 Q := by
    intro h1 w1 H1
    have s1 := H1.1.1.1.1
    simp only [lv_args, z_v, z_lg, z_h, z_u, z_u1, z_c, z_ct, z_sk, sbne, lst1_d, ldel, lst2_d, ldel2, z_sw, z_rok, zi, eq_self, List.map_cons, List.map_nil, List.append_nil, List.nil_append, List.cons_append, Int32.reduceLT, Int32.reduceLE, Int32.reduceAdd, Int32.reduceSub, Int32.reduceMul, Int32.reduceToInt, Int32.reduceToNatClampNeg, Int.reduceLT, Int.reduceLE, Int.reduceNeg, true_and, and_true, or_self, or_false, false_or, false_and, and_false, true_or, or_true, if_true, if_false, ne_eq, Classical.not_not, not_true_eq_false, not_false_eq_true, true_implies, false_implies, implies_true, Nat.reduceEqDiff, Nat.reduceAdd, Nat.reduceLeDiff, Nat.reduceSub, reduceCtorEq, reduceIte, b21_106, skX s1, h00]
    refine sp_bindPairs (g := g) (d0 := rDp z) cc tL bbN k6 px H1 (fun G => (H.1.2.2.2.2.2.2 (gd_ef p4 G)).1) (by rw [p1]; omega) (by omega) (fun h2 H2 => ?_)
    have s2 := H2.1.1.1.1
    have r2 := cc_rd cc H2.1
    have w2 : CW (9 * g) g (cBp N (pts N L) (rDp z) (cLt N F (pts N L) [] z)) := ⟨nB2, by rw [lB]; omega, by rw [nB1]; exact w1.2.2.1, fun hn => by
      rw [tB4] at hn
      have := w1.2.2.2 hn
      rw [tB2, tB3]
      omega⟩
    have w3 := cw_Bo (la := la) fb hNm ((pts N n).drop 2) a0 _ dne tl2 w2
    simp only [lv_args, z_v, z_lg, z_h, z_u, z_u1, z_c, z_ct, z_sk, sbne, lst1_d, ldel, lst2_d, ldel2, z_sw, z_rok, zi, eq_self, List.map_cons, List.map_nil, List.append_nil, List.nil_append, List.cons_append, Int32.reduceLT, Int32.reduceLE, Int32.reduceAdd, Int32.reduceSub, Int32.reduceMul, Int32.reduceToInt, Int32.reduceToNatClampNeg, Int.reduceLT, Int.reduceLE, Int.reduceNeg, true_and, and_true, or_self, or_false, false_or, false_and, and_false, true_or, or_true, if_true, if_false, ne_eq, Classical.not_not, not_true_eq_false, not_false_eq_true, true_implies, false_implies, implies_true, Nat.reduceEqDiff, Nat.reduceAdd, Nat.reduceLeDiff, Nat.reduceSub, reduceCtorEq, reduceIte, b21_106, skX s1, skX s2, srX s2, h00, Nat.reduceLT, rd_x s2 r2 LN, xL, rd_m s2 r2 hn ht (by omega) (by omega : 0 < d - 1), es, ← hd_dr]
    refine sp_bodyC cc fb hlv hlv2 (by omega) tl2 w2 H2 (fun h3 H3 => ?_)
    have s3 := H3.1.1.1.1
    simp only [lv_args, z_v, z_lg, z_h, z_u, z_u1, z_c, z_ct, z_sk, sbne, lst1_d, ldel, lst2_d, ldel2, z_sw, z_rok, zi, eq_self, List.map_cons, List.map_nil, List.append_nil, List.nil_append, List.cons_append, Int32.reduceLT, Int32.reduceLE, Int32.reduceAdd, Int32.reduceSub, Int32.reduceMul, Int32.reduceToInt, Int32.reduceToNatClampNeg, Int.reduceLT, Int.reduceLE, Int.reduceNeg, true_and, and_true, or_self, or_false, false_or, false_and, and_false, true_or, or_true, if_true, if_false, ne_eq, Classical.not_not, not_true_eq_false, not_false_eq_true, true_implies, false_implies, implies_true, Nat.reduceEqDiff, Nat.reduceAdd, Nat.reduceLeDiff, Nat.reduceSub, reduceCtorEq, reduceIte, b21_106, skX s2, skX s3, h00, Nat.reduceLT]
    refine sp_leaveB (ar := (rSc z).length) (st0 := rDp z) (k := (pts N L).length) cc H3 (by rw [q1, lB]; omega) (fun G => (H.1.2.2.2.2.2.2 (gd_ef p4 (gd_ef eB (gd_ef q4 G)))).1) (fun G => by have := w3.2.2.2 G.1; exact ⟨by omega, by omega⟩) (by omega) (fun h4 H4 => ?_)
    have s4 := H4.1.1.1.1
    simp only [lv_args, z_v, z_lg, z_h, z_u, z_u1, z_c, z_ct, z_sk, sbne, lst1_d, ldel, lst2_d, ldel2, z_sw, z_rok, zi, eq_self, List.map_cons, List.map_nil, List.append_nil, List.nil_append, List.cons_append, Int32.reduceLT, Int32.reduceLE, Int32.reduceAdd, Int32.reduceSub, Int32.reduceMul, Int32.reduceToInt, Int32.reduceToNatClampNeg, Int.reduceLT, Int.reduceLE, Int.reduceNeg, true_and, and_true, or_self, or_false, false_or, false_and, and_false, true_or, or_true, if_true, if_false, ne_eq, Classical.not_not, not_true_eq_false, not_false_eq_true, true_implies, false_implies, implies_true, Nat.reduceEqDiff, Nat.reduceAdd, Nat.reduceLeDiff, Nat.reduceSub, reduceCtorEq, reduceIte, b21_106, skX s3, skX s4, Nat.reduceLT]
    exact hq h4 H4
  have loop : ∀ (l : List Nat) (i a : Nat) (z' : CR) (h' : Hp), TL gg N l a bb → (pts N L).drop i = l → i + l.length = (pts N L).length → CW (9 * g + 1 + l.length) g z' → CH N K p c1 c2 h0 op z' h' → (∀ h'', CW (9 * g + 1) g (cLt N F l (((pts N L).take i).map (fun c => nCn N (prt N c 0))) z') → CH N K p c1 c2 h0 op (cLt N F l (((pts N L).take i).map (fun c => nCn N (prt N c 0))) z') h'' → aWP d 21 106 [(9, .int (nI (pts N L).length)), (8, .int (-1)), (7, .int (nI (pts N L).length)), (6, .int (nI L)), (5, .int (nI (rSc z).length)), (4, .int (hI h 39 6)), (0, .ref 39), (1, .int (nI n)), (2, .int (bI la)), (3, .int (nI lv))] [] h'' Q) → aWP d 21 50 [(9, .int (nI i)), (8, .int (oI l.head?)), (7, .int (nI (pts N L).length)), (6, .int (nI L)), (5, .int (nI (rSc z).length)), (4, .int (hI h 39 6)), (0, .ref 39), (1, .int (nI n)), (2, .int (bI la)), (3, .int (nI lv))] [] h' Q := by
    intro l
    induction l with
    | nil =>
      intro i a z' h' tl hdr hi w' H' q
      have hi : i = (pts N L).length := hi
      subst hi
      have fin := q h' w' H'
      simp only [lv_args, z_v, z_lg, z_h, z_u, z_u1, z_c, z_ct, z_sk, sbne, lst1_d, ldel, lst2_d, ldel2, z_sw, z_rok, zi, eq_self, List.map_cons, List.map_nil, List.append_nil, List.nil_append, List.cons_append, Int32.reduceLT, Int32.reduceLE, Int32.reduceAdd, Int32.reduceSub, Int32.reduceMul, Int32.reduceToInt, Int32.reduceToNatClampNeg, Int.reduceLT, Int.reduceLE, Int.reduceNeg, true_and, and_true, or_self, or_false, false_or, false_and, and_false, true_or, or_true, if_true, if_false, ne_eq, Classical.not_not, not_true_eq_false, not_false_eq_true, true_implies, false_implies, implies_true, Nat.reduceEqDiff, Nat.reduceAdd, Nat.reduceLeDiff, Nat.reduceSub, reduceCtorEq, reduceIte, b21_50]
      simp (disch := omega) only [nI_leN]
      exact ⟨fun _ => fin, fun c => absurd (Nat.le_refl _) c⟩
    | cons c l ih =>
      intro i a z' h' tl hdr hi w' H' q
      simp only [List.length_cons] at hi w'
      obtain ⟨x1, x2, x3, m, x4, x5, x6⟩ := tl_c tl
      have hil : i < (pts N L).length := by omega
      have hcm : c ∈ pts N L := List.mem_of_mem_drop (by rw [hdr]; simp)
      have hdr2 : (pts N L).drop (i + 1) = l := by
        have := List.drop_eq_getElem_cons hil
        rw [hdr] at this
        injection this with _ e
        exact e.symm
      have hgi : (pts N L)[i] = c := by
        have := List.drop_eq_getElem_cons hil
        rw [hdr] at this
        injection this with e _
        exact e.symm
      have htk : ((pts N L).take (i + 1)).map (fun c => nCn N (prt N c 0)) = ((pts N L).take i).map (fun c => nCn N (prt N c 0)) ++ [nCn N (prt N c 0)] := by
        rw [List.take_succ_eq_append_getElem hil, hgi, List.map_append]; rfl
      have pc := px c hcm
      obtain ⟨u1, u2, u3⟩ := pc.2.2.2.1
      obtain ⟨v1, m', v2, v3⟩ := pc.2.2.2.2.1
      have s' := H'.1.1.1.1
      have r' := cc_rd cc H'.1
      have ho : oI (List.head? (c :: l)) = nI c := rfl
      simp only [lv_args, z_v, z_lg, z_h, z_u, z_u1, z_c, z_ct, z_sk, sbne, lst1_d, ldel, lst2_d, ldel2, z_sw, z_rok, zi, eq_self, List.map_cons, List.map_nil, List.append_nil, List.nil_append, List.cons_append, Int32.reduceLT, Int32.reduceLE, Int32.reduceAdd, Int32.reduceSub, Int32.reduceMul, Int32.reduceToInt, Int32.reduceToNatClampNeg, Int.reduceLT, Int.reduceLE, Int.reduceNeg, true_and, and_true, or_self, or_false, false_or, false_and, and_false, true_or, or_true, if_true, if_false, ne_eq, Classical.not_not, not_true_eq_false, not_false_eq_true, true_implies, false_implies, implies_true, Nat.reduceEqDiff, Nat.reduceAdd, Nat.reduceLeDiff, Nat.reduceSub, reduceCtorEq, reduceIte, b21_50, ho]
      simp (disch := omega) only [nI_leN]
      refine ⟨fun c => absurd c (by omega), fun _ => ?_⟩
      simp only [lv_args, z_v, z_lg, z_h, z_u, z_u1, z_c, z_ct, z_sk, sbne, lst1_d, ldel, lst2_d, ldel2, z_sw, z_rok, zi, eq_self, List.map_cons, List.map_nil, List.append_nil, List.nil_append, List.cons_append, Int32.reduceLT, Int32.reduceLE, Int32.reduceAdd, Int32.reduceSub, Int32.reduceMul, Int32.reduceToInt, Int32.reduceToNatClampNeg, Int.reduceLT, Int.reduceLE, Int.reduceNeg, true_and, and_true, or_self, or_false, false_or, false_and, and_false, true_or, or_true, if_true, if_false, ne_eq, Classical.not_not, not_true_eq_false, not_false_eq_true, true_implies, false_implies, implies_true, Nat.reduceEqDiff, Nat.reduceAdd, Nat.reduceLeDiff, Nat.reduceSub, reduceCtorEq, reduceIte, b21_57, skX s', srX s', h00, rd_f s' r' x1, pc.2.2.1, Nat.reduceLT]
      refine sp_ckb (L := L) (k := i) cc H' LN fL tl1 ern (by omega) u1 u2 u3 (by omega) (fun h2 H2 => ?_)
      rw [mp_er px] at H2
      have s2 := H2.1.1.1.1
      have r2 := cc_rd cc H2.1
      have w2 : CW (9 * g + 1 + (l.length + 1)) g (cCk N (((pts N L).take i).map (fun c => nCn N (prt N c 0))) (prt N c 0) z') := cw_Ck w'
      obtain ⟨w3, _⟩ := cw_F (D := 9 * g + 1 + l.length) (la := false) fb hNm v2 v3 w2 (by omega)
      simp only [lv_args, z_v, z_lg, z_h, z_u, z_u1, z_c, z_ct, z_sk, sbne, lst1_d, ldel, lst2_d, ldel2, z_sw, z_rok, zi, eq_self, List.map_cons, List.map_nil, List.append_nil, List.nil_append, List.cons_append, Int32.reduceLT, Int32.reduceLE, Int32.reduceAdd, Int32.reduceSub, Int32.reduceMul, Int32.reduceToInt, Int32.reduceToNatClampNeg, Int.reduceLT, Int.reduceLE, Int.reduceNeg, true_and, and_true, or_self, or_false, false_or, false_and, and_false, true_or, or_true, if_true, if_false, ne_eq, Classical.not_not, not_true_eq_false, not_false_eq_true, true_implies, false_implies, implies_true, Nat.reduceEqDiff, Nat.reduceAdd, Nat.reduceLeDiff, Nat.reduceSub, reduceCtorEq, reduceIte, b21_57, skX s', skX s2, srX s2, h00, Nat.reduceLT, prx_2 s2 r2 hNm pc (by omega : 0 < d - 1)]
      refine fb.2.2 (prt N c 1) m' lv false _ h2 _ _ op v2 v3 v1 (cw_wk w2 (by omega)) H2 hlv hlv2 (by omega) (fun h3 H3 => ?_)
      have s3 := H3.1.1.1.1
      have r3 := cc_rd cc H3.1
      have nx := ih (i + 1) m _ h3 x6 hdr2 (by omega) w3 H3 (fun h'' w'' H'' => by
        rw [htk] at w'' H''
        exact q h'' w'' H'')
      simp only [lv_args, z_v, z_lg, z_h, z_u, z_u1, z_c, z_ct, z_sk, sbne, lst1_d, ldel, lst2_d, ldel2, z_sw, z_rok, zi, eq_self, List.map_cons, List.map_nil, List.append_nil, List.nil_append, List.cons_append, Int32.reduceLT, Int32.reduceLE, Int32.reduceAdd, Int32.reduceSub, Int32.reduceMul, Int32.reduceToInt, Int32.reduceToNatClampNeg, Int.reduceLT, Int.reduceLE, Int.reduceNeg, true_and, and_true, or_self, or_false, false_or, false_and, and_false, true_or, or_true, if_true, if_false, ne_eq, Classical.not_not, not_true_eq_false, not_false_eq_true, true_implies, false_implies, implies_true, Nat.reduceEqDiff, Nat.reduceAdd, Nat.reduceLeDiff, Nat.reduceSub, reduceCtorEq, reduceIte, b21_57, skX s2, skX s3, srX s3, h00, Nat.reduceLT, rd_x s3 r3 x1, x3, nI_1]
      exact nx
  have wz : CW (9 * g + 1 + (pts N L).length) g z := cw_wk (cw_g w (Nat.le_succ g)) (by omega)
  have go := loop (pts N L) 0 (L + 1) z h tl1 rfl (Nat.zero_add _) wz H rest
  have z3 : hI h 40 3 = nI (rSc z).length := H.1.2.2.2.2.1.1
  unfold aEv
  simp only [lv_args, z_v, z_lg, z_h, z_u, z_u1, z_c, z_ct, z_sk, sbne, lst1_d, ldel, lst2_d, ldel2, z_sw, z_rok, zi, eq_self, List.map_cons, List.map_nil, List.append_nil, List.nil_append, List.cons_append, Int32.reduceLT, Int32.reduceLE, Int32.reduceAdd, Int32.reduceSub, Int32.reduceMul, Int32.reduceToInt, Int32.reduceToNatClampNeg, Int.reduceLT, Int.reduceLE, Int.reduceNeg, true_and, and_true, or_self, or_false, false_or, false_and, and_false, true_or, or_true, if_true, if_false, ne_eq, Classical.not_not, not_true_eq_false, not_false_eq_true, true_implies, false_implies, implies_true, Nat.reduceEqDiff, Nat.reduceAdd, Nat.reduceLeDiff, Nat.reduceSub, reduceCtorEq, reduceIte, b21_0, skX s, srX s, h00, e142_40 _ _ s, z3, rd_2 s r ht h6 hb hNm (by omega : 0 < d - 1), oI_g gL, rd_m s r LN tL (by omega) (by omega : 0 < d - 1), rd_f s r LN, fL, Nat.reduceLT]
  exact go
end CLT
