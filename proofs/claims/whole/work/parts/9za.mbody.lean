/-! BUILD. The reference: bodies, pairs, what is put and taken back -/
def MSp (N : NS) (mt : List Nat) (q : Nat) (h0 : Hp) (g : Nat) (F : Nat → MR → MR) : Prop := ∀ (n m : Nat) (y : MR) (h : Hp) (d : Nat) (Q : Option Value → Hp → Prop), Tr g N n m → m ≤ N.1 → 1 ≤ n → MW g n m y → MH N mt q h0 y h → 4 * g + 50 < d → (∀ h', MH N mt q h0 (F n y) h' → Q none h') → aEv d 204 [.ref 59, .int (nI (n - 1)), .int 0] h Q
def FBm (N : NS) (mt : List Nat) (q : Nat) (h0 : Hp) (g : Nat) (F : Nat → MR → MR) : Prop := MFs N g F ∧ FIs N g F ∧ MSs N g F ∧ MCs N g F ∧ MSp N mt q h0 g F
section MBD
variable {h h' h0 : Hp} {Q : Option Value → Hp → Prop} {d n q g a b : Nat} {N : NS} {mt : List Nat} {y : MR} {F : Nat → MR → MR}
theorem mw_sub {a' b' : Nat} (w : MW g a b y) (h1 : a ≤ a') (h2 : b' ≤ b) : MW g a' b' y := by
  obtain ⟨w1, w2, w3, w4, w5, w6, w7, w8, w9⟩ := w
  exact ⟨w1, w2, w3, w4, w5, w6, by omega, by omega, w9⟩
theorem mw_g {g' : Nat} (w : MW g a b y) (h : g' ≤ g) : MW g' a b y := by
  obtain ⟨w1, w2, w3, w4, w5, w6, w7, w8, w9⟩ := w
  exact ⟨w1, by omega, by omega, by omega, w5, w6, w7, w8, w9⟩
theorem mw_F4 {v m : Nat} (fb : MFs N g F ∧ FIs N g F ∧ MSs N g F ∧ MCs N g F) (hg : g ≤ 31) (hv : Trb g N v m) (h1 : 1 ≤ v) (ha : a ≤ v) (hb : m ≤ b) (w : MW g a b y) : MW g m b (F v y) ∧ mSg (F v y) = mSg y ∧ mLv (F v y) = mLv y ∧ mAr (F v y) (mLv y) = mAr y (mLv y) ∧ mSl (F v y) (mLv y) = mSl y (mLv y) ∧ mLa y ≤ mLa (F v y) := by
  obtain ⟨w1, w2, w3, w4, w5, w6, w7, w8, w9⟩ := w
  obtain ⟨⟨p1, p2, p3, p4⟩, p5, p6, p7, p8, p9⟩ := fb.1 v m y hv h1 w1.2.2.1
  obtain ⟨f1, f2⟩ := fb.2.1 v m y hv h1 w1 w2
  obtain ⟨s1, s2, s3⟩ := fb.2.2.1 v m y 250 hv h1 w1.2.2.1 w4 (Nat.le_refl _)
  obtain ⟨c1, c2⟩ := fb.2.2.2 v m y hv
  refine ⟨⟨f1, by rw [p1]; exact w2, by rw [p2]; exact w3, by rw [p2, p4 _ (Nat.le_refl _)]; exact w4, fun M hM => ?_, fun M M1 M2 => ?_, by omega, by omega, by rw [p3 0 (Nat.zero_le _)]; exact w9⟩, p1, p2, p3 _ (Nat.le_refl _), p4 _ (Nat.le_refl _), p5⟩
  · by_cases c : M ≤ mLa y
    · by_cases c3 : M = mAr y (mLv y)
      · have := w5 _ (ar_lt w1 (Nat.le_refl (mLv y)))
        rw [c3]
        omega
      · rw [s3 M c c3]; exact w5 M c
    · exact s2 M (by omega) hM
  · by_cases c : M ≤ mLa y
    · by_cases c3 : ∃ l, l ≤ mLv y ∧ M = mAr y l
      · obtain ⟨l, l1, l2⟩ := c3
        have l0 : 1 ≤ l := by
          by_cases z : l = 0
          · rw [z, w9] at l2
            omega
          · omega
        have fx := f1.2.2.2 l l0 (by rw [p2]; exact l1)
        rw [p3 l l1] at fx
        have := pige_nd (mSg (F v y)).length _ fx.1 (fun x hx => (fx.2 x hx).1)
        have e : (fes (F v y) (mAr y l)).length = (mFe (F v y) (mAr y l)).length := List.length_map _
        rw [p1] at this
        rw [l2]
        omega
      · rw [(p8 M c (fun l hl e => c3 ⟨l, hl, e⟩)).2]
        exact w6 M M1 c
    · exact f2 M (by omega) M2
theorem mw_F {v m : Nat} (fb : FBm N mt q h0 g F) (hg : g ≤ 31) (hv : Trb g N v m) (h1 : 1 ≤ v) (ha : a ≤ v) (hb : m ≤ b) (w : MW g a b y) : MW g m b (F v y) ∧ mSg (F v y) = mSg y ∧ mLv (F v y) = mLv y ∧ mAr (F v y) (mLv y) = mAr y (mLv y) ∧ mSl (F v y) (mLv y) = mSl y (mLv y) ∧ mLa y ≤ mLa (F v y) := mw_F4 ⟨fb.1, fb.2.1, fb.2.2.1, fb.2.2.2.1⟩ hg hv h1 ha hb w
theorem sp_mbody (md : MD N mt q h0) (fb : FBm N mt q h0 g F) (hg : g ≤ 31) (hd : 4 * g + 52 < d) : ∀ (l : List Nat) (a : Nat) (y : MR) (h : Hp) (f0 : Int32), TL g N l a b → MW g a b y → MH N mt q h0 y h → (∀ h', MH N mt q h0 (mBo F l y) h' → Q none h') → aWP d 190 2 [(2, .int (dnI (oI l.head?))), (0, .ref 59), (1, .int f0)] [] h Q := by
  have h00 : 0 < d := by omega
  intro l
  induction l with
  | nil =>
    intro a y h f0 tl w H q'
    simp only [lv_args, z_v, z_lg, z_h, z_u, z_u1, z_c, z_ct, z_sk, sbne, lst1_d, ldel, lst2_d, ldel2, z_sw, z_rok, zi, eq_self, List.map_cons, List.map_nil, List.append_nil, List.nil_append, List.cons_append, Int32.reduceLT, Int32.reduceLE, Int32.reduceAdd, Int32.reduceSub, Int32.reduceMul, Int32.reduceToInt, Int32.reduceToNatClampNeg, Int.reduceLT, Int.reduceLE, Int.reduceNeg, true_and, and_true, or_self, or_false, false_or, false_and, and_false, true_or, or_true, if_true, if_false, ne_eq, Classical.not_not, not_true_eq_false, not_false_eq_true, true_implies, false_implies, implies_true, Nat.reduceEqDiff, Nat.reduceAdd, Nat.reduceLeDiff, Nat.reduceSub, reduceCtorEq, reduceIte, b190_2, dn_n]
    simp only [lv_args, z_v, z_lg, z_h, z_u, z_u1, z_c, z_ct, z_sk, sbne, lst1_d, ldel, lst2_d, ldel2, z_sw, z_rok, zi, eq_self, List.map_cons, List.map_nil, List.append_nil, List.nil_append, List.cons_append, Int32.reduceLT, Int32.reduceLE, Int32.reduceAdd, Int32.reduceSub, Int32.reduceMul, Int32.reduceToInt, Int32.reduceToNatClampNeg, Int.reduceLT, Int.reduceLE, Int.reduceNeg, true_and, and_true, or_self, or_false, false_or, false_and, and_false, true_or, or_true, if_true, if_false, ne_eq, Classical.not_not, not_true_eq_false, not_false_eq_true, true_implies, false_implies, implies_true, Nat.reduceEqDiff, Nat.reduceAdd, Nat.reduceLeDiff, Nat.reduceSub, reduceCtorEq, reduceIte, b190_26]
    exact q' h H
  | cons c l ih =>
    intro a y h f0 tl w H q'
    obtain ⟨x1, x2, x3, m, x4, x5, x6⟩ := tl_c tl
    have hab := tl.2.1
    have ham : a ≤ c ∧ m ≤ b := by
      obtain ⟨⟨rfl, m', _, _, h3, _, h5⟩, _, _⟩ := tl
      obtain ⟨⟨e1⟩⟩ := (⟨⟨trivial⟩⟩ : Nonempty (PLift True))
      refine ⟨Nat.le_refl _, ?_⟩
      have := frs_le _ _ _ x6.1
      exact this
    have mc := md_m md H
    have s := mc.1.1
    have hN1 := mc.2.2.2.2.2
    have ne := dn_m1 (l := l) x2 (by omega : c < 7000)
    obtain ⟨w', _⟩ := mw_F fb hg ⟨x4, by omega⟩ x2 ham.1 ham.2 w
    simp only [lv_args, z_v, z_lg, z_h, z_u, z_u1, z_c, z_ct, z_sk, sbne, lst1_d, ldel, lst2_d, ldel2, z_sw, z_rok, zi, eq_self, List.map_cons, List.map_nil, List.append_nil, List.nil_append, List.cons_append, Int32.reduceLT, Int32.reduceLE, Int32.reduceAdd, Int32.reduceSub, Int32.reduceMul, Int32.reduceToInt, Int32.reduceToNatClampNeg, Int.reduceLT, Int.reduceLE, Int.reduceNeg, true_and, and_true, or_self, or_false, false_or, false_and, and_false, true_or, or_true, if_true, if_false, ne_eq, Classical.not_not, not_true_eq_false, not_false_eq_true, true_implies, false_implies, implies_true, Nat.reduceEqDiff, Nat.reduceAdd, Nat.reduceLeDiff, Nat.reduceSub, reduceCtorEq, reduceIte, b190_2, ne]
    rw [dn_o x2 (by omega)]
    simp only [lv_args, z_v, z_lg, z_h, z_u, z_u1, z_c, z_ct, z_sk, sbne, lst1_d, ldel, lst2_d, ldel2, z_sw, z_rok, zi, eq_self, List.map_cons, List.map_nil, List.append_nil, List.nil_append, List.cons_append, Int32.reduceLT, Int32.reduceLE, Int32.reduceAdd, Int32.reduceSub, Int32.reduceMul, Int32.reduceToInt, Int32.reduceToNatClampNeg, Int.reduceLT, Int.reduceLE, Int.reduceNeg, true_and, and_true, or_self, or_false, false_or, false_and, and_false, true_or, or_true, if_true, if_false, ne_eq, Classical.not_not, not_true_eq_false, not_false_eq_true, true_implies, false_implies, implies_true, Nat.reduceEqDiff, Nat.reduceAdd, Nat.reduceLeDiff, Nat.reduceSub, reduceCtorEq, reduceIte, b190_7, skM s, h00]
    refine fb.2.2.2.2 c m y h _ _ x4 x5 x2 (mw_sub w ham.1 ham.2) H (by omega) (fun h1 H1 => ?_)
    have mc1 := md_m md H1
    have s1 := mc1.1.1
    have w1 := sq s1 (mc_q mc1)
    have R1 := mc_R mc1
    have nn1 := nq mc1.1.2 (mc_q mc1)
    have en := (mc1.2.2.1.1 c x2 x1).2.2.2.2
    rw [x3] at en
    have c2 : (c - 1 < 6200) = True := eq_true (by omega)
    have nx := ih m (F c y) h1 f0 x6 w' H1 q'
    simp only [lv_args, z_v, z_lg, z_h, z_u, z_u1, z_c, z_ct, z_sk, sbne, lst1_d, ldel, lst2_d, ldel2, z_sw, z_rok, zi, eq_self, List.map_cons, List.map_nil, List.append_nil, List.nil_append, List.cons_append, Int32.reduceLT, Int32.reduceLE, Int32.reduceAdd, Int32.reduceSub, Int32.reduceMul, Int32.reduceToInt, Int32.reduceToNatClampNeg, Int.reduceLT, Int.reduceLE, Int.reduceNeg, true_and, and_true, or_self, or_false, false_or, false_and, and_false, true_or, or_true, if_true, if_false, ne_eq, Classical.not_not, not_true_eq_false, not_false_eq_true, true_implies, false_implies, implies_true, Nat.reduceEqDiff, Nat.reduceAdd, Nat.reduceLeDiff, Nat.reduceSub, reduceCtorEq, reduceIte, b190_7, skM s, skM s1, srM s1, R1, w1, nn1, Nat.reduceLT]
    simp (disch := omega) only [nI_ti, nI_cl, le0N, ltNN, c2, en, true_and]
    try simp only [lv_args, z_v, z_lg, z_h, z_u, z_u1, z_c, z_ct, z_sk, sbne, lst1_d, ldel, lst2_d, ldel2, z_sw, z_rok, zi, eq_self, List.map_cons, List.map_nil, List.append_nil, List.nil_append, List.cons_append, Int32.reduceLT, Int32.reduceLE, Int32.reduceAdd, Int32.reduceSub, Int32.reduceMul, Int32.reduceToInt, Int32.reduceToNatClampNeg, Int.reduceLT, Int.reduceLE, Int.reduceNeg, true_and, and_true, or_self, or_false, false_or, false_and, and_false, true_or, or_true, if_true, if_false, ne_eq, Classical.not_not, not_true_eq_false, not_false_eq_true, true_implies, false_implies, implies_true, Nat.reduceEqDiff, Nat.reduceAdd, Nat.reduceLeDiff, Nat.reduceSub, reduceCtorEq, reduceIte, b190_7]
    exact nx
theorem sp_mbodyC {l : List Nat} (md : MD N mt q h0) (fb : FBm N mt q h0 g F) (hg : g ≤ 31) (hd : 4 * g + 52 < d) (tl : TL g N l a b) (w : MW g a b y) (H : MH N mt q h0 y h) (hq : ∀ h', MH N mt q h0 (mBo F l y) h' → Q none h') : aEv d 190 [.ref 59, .int (dnI (oI l.head?))] h Q := by
  have go := sp_mbody md fb hg hd l a y h (dnI (oI l.head?)) tl w H hq
  unfold aEv
  simp only [lv_args, z_v, z_lg, z_h, z_u, z_u1, z_c, z_ct, z_sk, sbne, lst1_d, ldel, lst2_d, ldel2, z_sw, z_rok, zi, eq_self, List.map_cons, List.map_nil, List.append_nil, List.nil_append, List.cons_append, Int32.reduceLT, Int32.reduceLE, Int32.reduceAdd, Int32.reduceSub, Int32.reduceMul, Int32.reduceToInt, Int32.reduceToNatClampNeg, Int.reduceLT, Int.reduceLE, Int.reduceNeg, true_and, and_true, or_self, or_false, false_or, false_and, and_false, true_or, or_true, if_true, if_false, ne_eq, Classical.not_not, not_true_eq_false, not_false_eq_true, true_implies, false_implies, implies_true, Nat.reduceEqDiff, Nat.reduceAdd, Nat.reduceLeDiff, Nat.reduceSub, reduceCtorEq, reduceIte, b190_0]
  exact go
/-- a pair of a let: its name -/
theorem sp_bpair {L k c : Nat} {gg bb : Nat} (md : MD N mt q h0) (H : MH N mt q h0 y h) (tL : Tr (gg + 1) N L bb) (hbb : bb ≤ N.1) (h6 : nK N L = 6) (hL1 : 1 ≤ L) (px : ∀ c, c ∈ pts N L → Prx N g c) (hk : (pts N L)[k]? = some c) (hd : 1 < d) (hq : ∀ h', MH N mt q h0 (mBp N (((pts N L).take k).map (fun c => nCn N (prt N c 0))) (prt N c 0) y) h' → Q none h') : aEv d 188 [.ref 59, .int (nI (L - 1)), .int (nI (c - 1))] h Q := by
  have h00 : 0 < d := by omega
  have m := md_m md H
  have s := m.1.1
  have hq66 := mc_q m
  have w := sq s hq66
  have R := mc_R m
  have nn := nq m.1.2 hq66
  have hN1 := m.2.2.2.2.2
  obtain ⟨t1, t2, hLn⟩ := tl_n tL h6 hbb hN1
  have ecL := mc_c m tL h6 hbb hL1
  -- child, and its name
  have nm : ∀ c, c ∈ pts N L → ∃ j, 1 ≤ c ∧ c < N.1 ∧ hA h (q + 4) (c - 1) = nI (prt N c 0 - 1) ∧ 1 ≤ prt N c 0 ∧ prt N c 0 < N.1 ∧ hA h (q + 2) (prt N c 0 - 1) = nI (mt.idxOf j) ∧ j ∈ mt ∧ nCn N (prt N c 0) = j := fun c hc => by
    have x := px c hc
    obtain ⟨i, hi⟩ := List.mem_iff_getElem?.mp hc
    obtain ⟨b1, b2, _⟩ := tl_get t2 hi
    obtain ⟨u1, u2, u3⟩ := x.2.2.2.1
    obtain ⟨j, hj, ej, ej2, hj3⟩ := nok_name m.2.2.2 u1 u2 u3
    refine ⟨j, b2, b1, ?_, u1, u2, ?_, hj, ej2⟩
    · rw [(m.2.2.1.1 c b2 b1).2.2.2.1, x.2.2.1, dnI_nI u1 (by omega)]
    · rw [(m.2.2.1.1 _ u1 u2).2.1, if_pos u3, ej2]
  have hcm : c ∈ pts N L := List.mem_of_getElem? hk
  obtain ⟨j, c1, c2, c3, c4, c5, c6, hj, ej2⟩ := nm c hcm
  obtain ⟨jw1, jw2⟩ := m.2.2.1.2.1 j hj
  obtain ⟨pp1, pp2⟩ := md_p md H c4 c5
  have z10 : ¬ (1 : Int32) = 0 := by decide
  have eb0 : bI false = 0 := rfl
  have eb1 : bI true = 1 := rfl
  have d1 : (c - 1 < 6200) = True := eq_true (by omega)
  have d2 : (prt N c 0 - 1 < 6200) = True := eq_true (by omega)
  have d3 : (mt.idxOf j < 3000) = True := eq_true jw1
  have d4 : (L - 1 < 6200) = True := eq_true (by omega)
  unfold mBp at hq
  rw [ej2] at hq
  have tell : (j < 30 ∨ j ∈ ((pts N L).take k).map (fun c => nCn N (prt N c 0))) → ∀ x5 x6 : Int32, aWP d 188 91 [(6, .int x6), (5, .int x5), (4, .int (nI (mt.idxOf j))), (3, .ref q), (0, .ref 59), (1, .int (nI (L - 1))), (2, .int (nI (c - 1)))] [] h Q := fun hc x5 x6 => by
    rw [if_pos hc] at hq
    simp only [lv_args, z_v, z_lg, z_h, z_u, z_u1, z_c, z_ct, z_sk, sbne, lst1_d, ldel, lst2_d, ldel2, z_sw, z_rok, zi, eq_self, List.map_cons, List.map_nil, List.append_nil, List.nil_append, List.cons_append, Int32.reduceLT, Int32.reduceLE, Int32.reduceAdd, Int32.reduceSub, Int32.reduceMul, Int32.reduceToInt, Int32.reduceToNatClampNeg, Int.reduceLT, Int.reduceLE, Int.reduceNeg, true_and, and_true, or_self, or_false, false_or, false_and, and_false, true_or, or_true, if_true, if_false, ne_eq, Classical.not_not, not_true_eq_false, not_false_eq_true, true_implies, false_implies, implies_true, Nat.reduceEqDiff, Nat.reduceAdd, Nat.reduceLeDiff, Nat.reduceSub, reduceCtorEq, reduceIte, b188_91, skM s, srM s, R, w, nn, h00]
    simp (disch := omega) only [nI_ti, nI_cl, le0N, ltNN, d1, c3, true_and]
    try simp only [lv_args, z_v, z_lg, z_h, z_u, z_u1, z_c, z_ct, z_sk, sbne, lst1_d, ldel, lst2_d, ldel2, z_sw, z_rok, zi, eq_self, List.map_cons, List.map_nil, List.append_nil, List.nil_append, List.cons_append, Int32.reduceLT, Int32.reduceLE, Int32.reduceAdd, Int32.reduceSub, Int32.reduceMul, Int32.reduceToInt, Int32.reduceToNatClampNeg, Int.reduceLT, Int.reduceLE, Int.reduceNeg, true_and, and_true, or_self, or_false, false_or, false_and, and_false, true_or, or_true, if_true, if_false, ne_eq, Classical.not_not, not_true_eq_false, not_false_eq_true, true_implies, false_implies, implies_true, Nat.reduceEqDiff, Nat.reduceAdd, Nat.reduceLeDiff, Nat.reduceSub, reduceCtorEq, reduceIte, b188_91, skM s, srM s, w, nn, h00]
    try simp (disch := omega) only [nI_ti, nI_cl, le0N, ltNN, d2, pp1, true_and]
    try simp only [lv_args, z_v, z_lg, z_h, z_u, z_u1, z_c, z_ct, z_sk, sbne, lst1_d, ldel, lst2_d, ldel2, z_sw, z_rok, zi, eq_self, List.map_cons, List.map_nil, List.append_nil, List.nil_append, List.cons_append, Int32.reduceLT, Int32.reduceLE, Int32.reduceAdd, Int32.reduceSub, Int32.reduceMul, Int32.reduceToInt, Int32.reduceToNatClampNeg, Int.reduceLT, Int.reduceLE, Int.reduceNeg, true_and, and_true, or_self, or_false, false_or, false_and, and_false, true_or, or_true, if_true, if_false, ne_eq, Classical.not_not, not_true_eq_false, not_false_eq_true, true_implies, false_implies, implies_true, Nat.reduceEqDiff, Nat.reduceAdd, Nat.reduceLeDiff, Nat.reduceSub, reduceCtorEq, reduceIte, b188_91, skM s, srM s, w, nn, h00]
    refine sp_wr (k := 5) (p := nQ N (prt N c 0)) md H rfl rfl (by decide) pp2 (fun h' H' => ?_)
    have s' := (md_m md H').1.1
    have w' := sq s' hq66
    simp only [lv_args, z_v, z_lg, z_h, z_u, z_u1, z_c, z_ct, z_sk, sbne, lst1_d, ldel, lst2_d, ldel2, z_sw, z_rok, zi, eq_self, List.map_cons, List.map_nil, List.append_nil, List.nil_append, List.cons_append, Int32.reduceLT, Int32.reduceLE, Int32.reduceAdd, Int32.reduceSub, Int32.reduceMul, Int32.reduceToInt, Int32.reduceToNatClampNeg, Int.reduceLT, Int.reduceLE, Int.reduceNeg, true_and, and_true, or_self, or_false, false_or, false_and, and_false, true_or, or_true, if_true, if_false, ne_eq, Classical.not_not, not_true_eq_false, not_false_eq_true, true_implies, false_implies, implies_true, Nat.reduceEqDiff, Nat.reduceAdd, Nat.reduceLeDiff, Nat.reduceSub, reduceCtorEq, reduceIte, b188_91, b188_107, skM s, skM s', w, w', Nat.reduceLT]
    exact hq h' H'
  have fin : ∀ (x6 : Int32) (f : Bool), (f = true ↔ j ∈ ((pts N L).take k).map (fun c => nCn N (prt N c 0))) → aWP d 188 76 [(6, .int x6), (5, .int (bI f)), (4, .int (nI (mt.idxOf j))), (3, .ref q), (0, .ref 59), (1, .int (nI (L - 1))), (2, .int (nI (c - 1)))] [] h Q := by
    intro x6 f hf
    cases f with
    | true =>
      have t := tell (Or.inr (hf.mp rfl)) 1 x6
      simp only [lv_args, z_v, z_lg, z_h, z_u, z_u1, z_c, z_ct, z_sk, sbne, lst1_d, ldel, lst2_d, ldel2, z_sw, z_rok, zi, eq_self, List.map_cons, List.map_nil, List.append_nil, List.nil_append, List.cons_append, Int32.reduceLT, Int32.reduceLE, Int32.reduceAdd, Int32.reduceSub, Int32.reduceMul, Int32.reduceToInt, Int32.reduceToNatClampNeg, Int.reduceLT, Int.reduceLE, Int.reduceNeg, true_and, and_true, or_self, or_false, false_or, false_and, and_false, true_or, or_true, if_true, if_false, ne_eq, Classical.not_not, not_true_eq_false, not_false_eq_true, true_implies, false_implies, implies_true, Nat.reduceEqDiff, Nat.reduceAdd, Nat.reduceLeDiff, Nat.reduceSub, reduceCtorEq, reduceIte, b188_76, eb1, z10]
      exact t
    | false =>
      have nf : j ∉ ((pts N L).take k).map (fun c => nCn N (prt N c 0)) := fun c => by
        have := hf.mpr c
        cases this
      simp only [lv_args, z_v, z_lg, z_h, z_u, z_u1, z_c, z_ct, z_sk, sbne, lst1_d, ldel, lst2_d, ldel2, z_sw, z_rok, zi, eq_self, List.map_cons, List.map_nil, List.append_nil, List.nil_append, List.cons_append, Int32.reduceLT, Int32.reduceLE, Int32.reduceAdd, Int32.reduceSub, Int32.reduceMul, Int32.reduceToInt, Int32.reduceToNatClampNeg, Int.reduceLT, Int.reduceLE, Int.reduceNeg, true_and, and_true, or_self, or_false, false_or, false_and, and_false, true_or, or_true, if_true, if_false, ne_eq, Classical.not_not, not_true_eq_false, not_false_eq_true, true_implies, false_implies, implies_true, Nat.reduceEqDiff, Nat.reduceAdd, Nat.reduceLeDiff, Nat.reduceSub, reduceCtorEq, reduceIte, b188_76, eb0]
      simp only [lv_args, z_v, z_lg, z_h, z_u, z_u1, z_c, z_ct, z_sk, sbne, lst1_d, ldel, lst2_d, ldel2, z_sw, z_rok, zi, eq_self, List.map_cons, List.map_nil, List.append_nil, List.nil_append, List.cons_append, Int32.reduceLT, Int32.reduceLE, Int32.reduceAdd, Int32.reduceSub, Int32.reduceMul, Int32.reduceToInt, Int32.reduceToNatClampNeg, Int.reduceLT, Int.reduceLE, Int.reduceNeg, true_and, and_true, or_self, or_false, false_or, false_and, and_false, true_or, or_true, if_true, if_false, ne_eq, Classical.not_not, not_true_eq_false, not_false_eq_true, true_implies, false_implies, implies_true, Nat.reduceEqDiff, Nat.reduceAdd, Nat.reduceLeDiff, Nat.reduceSub, reduceCtorEq, reduceIte, b188_81, skM s, srM s, w, nn]
      simp (disch := omega) only [nI_ti, nI_cl, le0N, ltNN, d3, jw2, true_and]
      rw [w_eq md]
      refine ⟨fun c => ?_, fun c => tell (Or.inl (by omega)) 0 x6⟩
      rw [if_neg (fun w => w.elim (fun e => by omega) nf)] at hq
      simp only [lv_args, z_v, z_lg, z_h, z_u, z_u1, z_c, z_ct, z_sk, sbne, lst1_d, ldel, lst2_d, ldel2, z_sw, z_rok, zi, eq_self, List.map_cons, List.map_nil, List.append_nil, List.nil_append, List.cons_append, Int32.reduceLT, Int32.reduceLE, Int32.reduceAdd, Int32.reduceSub, Int32.reduceMul, Int32.reduceToInt, Int32.reduceToNatClampNeg, Int.reduceLT, Int.reduceLE, Int.reduceNeg, true_and, and_true, or_self, or_false, false_or, false_and, and_false, true_or, or_true, if_true, if_false, ne_eq, Classical.not_not, not_true_eq_false, not_false_eq_true, true_implies, false_implies, implies_true, Nat.reduceEqDiff, Nat.reduceAdd, Nat.reduceLeDiff, Nat.reduceSub, reduceCtorEq, reduceIte, b188_107]
      exact hq h H
  have hkl := g_lt hk
  have inc : ∀ (l : List Nat) (a : Nat), Frs (Tr gg N) (nX N) l a bb → ∀ i (hi : i < l.length) k (hk : k < l.length), i < k → l[i] < l[k] := by
    intro l
    induction l with
    | nil => intro a _ i hi; simp at hi
    | cons x l ih =>
      intro a fr i hi k hk hik
      obtain ⟨rfl, mm, f1, f2, f3, f4, f5⟩ := fr
      cases k with
      | zero => omega
      | succ k =>
        cases i with
        | zero =>
          have hmm := (frs_mem l mm bb f5 (l[k]'(by simpa using hk)) (List.getElem_mem _))
          obtain ⟨_, _, g1, _⟩ := hmm
          simp only [List.getElem_cons_zero, List.getElem_cons_succ]
          omega
        | succ i =>
          simp only [List.getElem_cons_succ]
          exact ih mm f5 i (by simpa using hi) k (by simpa using hk) (by omega)
  have hkc : (pts N L)[k] = c := by
    have := List.getElem?_eq_getElem hkl
    rw [hk] at this
    injection this with this
    exact this.symm
  have loop : ∀ (r i : Nat) (l : List Nat) (a : Nat) (f : Bool), TL gg N l a bb → (pts N L).drop i = l → i + r = k → (f = true ↔ j ∈ ((pts N L).take i).map (fun c => nCn N (prt N c 0))) → aWP d 188 29 [(6, .int (dnI (oI l.head?))), (5, .int (bI f)), (4, .int (nI (mt.idxOf j))), (3, .ref q), (0, .ref 59), (1, .int (nI (L - 1))), (2, .int (nI (c - 1)))] [] h Q := by
    intro r
    induction r with
    | zero =>
      intro i l a f tl hdr hi hf
      have hi : i = k := hi
      subst hi
      have hh : l.head? = some c := by rw [← hdr, List.head?_drop]; exact hk
      have e : dnI (oI l.head?) = nI (c - 1) := by rw [hh]; exact dnI_nI c1 (by omega)
      have go := fin (nI (c - 1)) f hf
      simp only [lv_args, z_v, z_lg, z_h, z_u, z_u1, z_c, z_ct, z_sk, sbne, lst1_d, ldel, lst2_d, ldel2, z_sw, z_rok, zi, eq_self, List.map_cons, List.map_nil, List.append_nil, List.nil_append, List.cons_append, Int32.reduceLT, Int32.reduceLE, Int32.reduceAdd, Int32.reduceSub, Int32.reduceMul, Int32.reduceToInt, Int32.reduceToNatClampNeg, Int.reduceLT, Int.reduceLE, Int.reduceNeg, true_and, and_true, or_self, or_false, false_or, false_and, and_false, true_or, or_true, if_true, if_false, ne_eq, Classical.not_not, not_true_eq_false, not_false_eq_true, true_implies, false_implies, implies_true, Nat.reduceEqDiff, Nat.reduceAdd, Nat.reduceLeDiff, Nat.reduceSub, reduceCtorEq, reduceIte, b188_29, e]
      exact go
    | succ r ih =>
      intro i l a f tl hdr hi hf
      have hil : i < (pts N L).length := by omega
      have hc := List.drop_eq_getElem_cons hil
      rw [hdr] at hc
      subst hc
      obtain ⟨x1, x2, x3, mm, x4, x5, x6⟩ := tl_c tl
      have hmem : (pts N L)[i] ∈ pts N L := List.getElem_mem hil
      have hlt := inc (pts N L) (L + 1) t2.1 i hil k hkl (by omega)
      rw [hkc] at hlt
      have htk : ((pts N L).take (i + 1)).map (fun c => nCn N (prt N c 0)) = ((pts N L).take i).map (fun c => nCn N (prt N c 0)) ++ [nCn N (prt N ((pts N L)[i]) 0)] := by
        rw [List.take_succ_eq_append_getElem hil, List.map_append]; rfl
      generalize (pts N L)[i] = v at *
      obtain ⟨jv, v1, v2, v3, v4, v5, v6, hjv, ejv⟩ := nm v hmem
      have ne : ¬ nI (v - 1) = nI (c - 1) := by rw [nI_eqN (by omega) (by omega)]; omega
      have en := (m.2.2.1.1 v x2 x1).2.2.2.2
      rw [x3] at en
      have c7 : (v - 1 < 6200) = True := eq_true (by omega)
      have c8 : (prt N v 0 - 1 < 6200) = True := eq_true (by omega)
      rw [dn_o x2 (by omega)]
      have nx := fun f' hf' => ih (i + 1) _ mm f' x6 rfl (by omega) hf'
      rw [htk, ejv] at nx
      simp only [lv_args, z_v, z_lg, z_h, z_u, z_u1, z_c, z_ct, z_sk, sbne, lst1_d, ldel, lst2_d, ldel2, z_sw, z_rok, zi, eq_self, List.map_cons, List.map_nil, List.append_nil, List.nil_append, List.cons_append, Int32.reduceLT, Int32.reduceLE, Int32.reduceAdd, Int32.reduceSub, Int32.reduceMul, Int32.reduceToInt, Int32.reduceToNatClampNeg, Int.reduceLT, Int.reduceLE, Int.reduceNeg, true_and, and_true, or_self, or_false, false_or, false_and, and_false, true_or, or_true, if_true, if_false, ne_eq, Classical.not_not, not_true_eq_false, not_false_eq_true, true_implies, false_implies, implies_true, Nat.reduceEqDiff, Nat.reduceAdd, Nat.reduceLeDiff, Nat.reduceSub, reduceCtorEq, reduceIte, b188_29, ne]
      have tail : ∀ f', (f' = true ↔ j ∈ ((pts N L).take i).map (fun c => nCn N (prt N c 0)) ++ [jv]) → aWP d 188 62 [(6, .int (nI (v - 1))), (5, .int (bI f)), (4, .int (nI (mt.idxOf j))), (3, .ref q), (0, .ref 59), (1, .int (nI (L - 1))), (2, .int (nI (c - 1)))] [.int (bI f')] h Q := fun f' hf' => by
        have go := nx f' hf'
        simp only [lv_args, z_v, z_lg, z_h, z_u, z_u1, z_c, z_ct, z_sk, sbne, lst1_d, ldel, lst2_d, ldel2, z_sw, z_rok, zi, eq_self, List.map_cons, List.map_nil, List.append_nil, List.nil_append, List.cons_append, Int32.reduceLT, Int32.reduceLE, Int32.reduceAdd, Int32.reduceSub, Int32.reduceMul, Int32.reduceToInt, Int32.reduceToNatClampNeg, Int.reduceLT, Int.reduceLE, Int.reduceNeg, true_and, and_true, or_self, or_false, false_or, false_and, and_false, true_or, or_true, if_true, if_false, ne_eq, Classical.not_not, not_true_eq_false, not_false_eq_true, true_implies, false_implies, implies_true, Nat.reduceEqDiff, Nat.reduceAdd, Nat.reduceLeDiff, Nat.reduceSub, reduceCtorEq, reduceIte, b188_62, skM s, srM s, w, nn]
        simp (disch := omega) only [nI_ti, nI_cl, le0N, ltNN, c7, en, true_and]
        try simp only [lv_args, z_v, z_lg, z_h, z_u, z_u1, z_c, z_ct, z_sk, sbne, lst1_d, ldel, lst2_d, ldel2, z_sw, z_rok, zi, eq_self, List.map_cons, List.map_nil, List.append_nil, List.nil_append, List.cons_append, Int32.reduceLT, Int32.reduceLE, Int32.reduceAdd, Int32.reduceSub, Int32.reduceMul, Int32.reduceToInt, Int32.reduceToNatClampNeg, Int.reduceLT, Int.reduceLE, Int.reduceNeg, true_and, and_true, or_self, or_false, false_or, false_and, and_false, true_or, or_true, if_true, if_false, ne_eq, Classical.not_not, not_true_eq_false, not_false_eq_true, true_implies, false_implies, implies_true, Nat.reduceEqDiff, Nat.reduceAdd, Nat.reduceLeDiff, Nat.reduceSub, reduceCtorEq, reduceIte, b188_62]
        exact go
      cases f with
      | true =>
        have go := tail true ⟨fun _ => List.mem_append_left _ (hf.mp rfl), fun _ => rfl⟩
        simp only [eb1] at go
        simp only [lv_args, z_v, z_lg, z_h, z_u, z_u1, z_c, z_ct, z_sk, sbne, lst1_d, ldel, lst2_d, ldel2, z_sw, z_rok, zi, eq_self, List.map_cons, List.map_nil, List.append_nil, List.nil_append, List.cons_append, Int32.reduceLT, Int32.reduceLE, Int32.reduceAdd, Int32.reduceSub, Int32.reduceMul, Int32.reduceToInt, Int32.reduceToNatClampNeg, Int.reduceLT, Int.reduceLE, Int.reduceNeg, true_and, and_true, or_self, or_false, false_or, false_and, and_false, true_or, or_true, if_true, if_false, ne_eq, Classical.not_not, not_true_eq_false, not_false_eq_true, true_implies, false_implies, implies_true, Nat.reduceEqDiff, Nat.reduceAdd, Nat.reduceLeDiff, Nat.reduceSub, reduceCtorEq, reduceIte, b188_35, eb1, z10]
        simp only [lv_args, z_v, z_lg, z_h, z_u, z_u1, z_c, z_ct, z_sk, sbne, lst1_d, ldel, lst2_d, ldel2, z_sw, z_rok, zi, eq_self, List.map_cons, List.map_nil, List.append_nil, List.nil_append, List.cons_append, Int32.reduceLT, Int32.reduceLE, Int32.reduceAdd, Int32.reduceSub, Int32.reduceMul, Int32.reduceToInt, Int32.reduceToNatClampNeg, Int.reduceLT, Int.reduceLE, Int.reduceNeg, true_and, and_true, or_self, or_false, false_or, false_and, and_false, true_or, or_true, if_true, if_false, ne_eq, Classical.not_not, not_true_eq_false, not_false_eq_true, true_implies, false_implies, implies_true, Nat.reduceEqDiff, Nat.reduceAdd, Nat.reduceLeDiff, Nat.reduceSub, reduceCtorEq, reduceIte, b188_57]
        exact go
      | false =>
        have nf : j ∉ ((pts N L).take i).map (fun c => nCn N (prt N c 0)) := fun c => by
          have := hf.mpr c
          cases this
        simp only [lv_args, z_v, z_lg, z_h, z_u, z_u1, z_c, z_ct, z_sk, sbne, lst1_d, ldel, lst2_d, ldel2, z_sw, z_rok, zi, eq_self, List.map_cons, List.map_nil, List.append_nil, List.nil_append, List.cons_append, Int32.reduceLT, Int32.reduceLE, Int32.reduceAdd, Int32.reduceSub, Int32.reduceMul, Int32.reduceToInt, Int32.reduceToNatClampNeg, Int.reduceLT, Int.reduceLE, Int.reduceNeg, true_and, and_true, or_self, or_false, false_or, false_and, and_false, true_or, or_true, if_true, if_false, ne_eq, Classical.not_not, not_true_eq_false, not_false_eq_true, true_implies, false_implies, implies_true, Nat.reduceEqDiff, Nat.reduceAdd, Nat.reduceLeDiff, Nat.reduceSub, reduceCtorEq, reduceIte, b188_35, eb0]
        simp only [lv_args, z_v, z_lg, z_h, z_u, z_u1, z_c, z_ct, z_sk, sbne, lst1_d, ldel, lst2_d, ldel2, z_sw, z_rok, zi, eq_self, List.map_cons, List.map_nil, List.append_nil, List.nil_append, List.cons_append, Int32.reduceLT, Int32.reduceLE, Int32.reduceAdd, Int32.reduceSub, Int32.reduceMul, Int32.reduceToInt, Int32.reduceToNatClampNeg, Int.reduceLT, Int.reduceLE, Int.reduceNeg, true_and, and_true, or_self, or_false, false_or, false_and, and_false, true_or, or_true, if_true, if_false, ne_eq, Classical.not_not, not_true_eq_false, not_false_eq_true, true_implies, false_implies, implies_true, Nat.reduceEqDiff, Nat.reduceAdd, Nat.reduceLeDiff, Nat.reduceSub, reduceCtorEq, reduceIte, b188_40, skM s, srM s, w, nn]
        simp (disch := omega) only [nI_ti, nI_cl, le0N, ltNN, c7, v3, true_and]
        try simp only [lv_args, z_v, z_lg, z_h, z_u, z_u1, z_c, z_ct, z_sk, sbne, lst1_d, ldel, lst2_d, ldel2, z_sw, z_rok, zi, eq_self, List.map_cons, List.map_nil, List.append_nil, List.nil_append, List.cons_append, Int32.reduceLT, Int32.reduceLE, Int32.reduceAdd, Int32.reduceSub, Int32.reduceMul, Int32.reduceToInt, Int32.reduceToNatClampNeg, Int.reduceLT, Int.reduceLE, Int.reduceNeg, true_and, and_true, or_self, or_false, false_or, false_and, and_false, true_or, or_true, if_true, if_false, ne_eq, Classical.not_not, not_true_eq_false, not_false_eq_true, true_implies, false_implies, implies_true, Nat.reduceEqDiff, Nat.reduceAdd, Nat.reduceLeDiff, Nat.reduceSub, reduceCtorEq, reduceIte, b188_40, skM s, srM s, w, nn]
        try simp (disch := omega) only [nI_ti, nI_cl, le0N, ltNN, c8, v6, true_and]
        rw [idx_eq md hjv hj]
        refine ⟨fun ce => ?_, fun ce => ?_⟩
        · have go := tail false ⟨fun e => (by cases e), fun w => by
            rcases List.mem_append.mp w with w | w
            · exact absurd w nf
            · simp only [List.mem_cons, List.not_mem_nil, or_false] at w
              exact absurd w.symm ce⟩
          simp only [eb0] at go
          simp only [lv_args, z_v, z_lg, z_h, z_u, z_u1, z_c, z_ct, z_sk, sbne, lst1_d, ldel, lst2_d, ldel2, z_sw, z_rok, zi, eq_self, List.map_cons, List.map_nil, List.append_nil, List.nil_append, List.cons_append, Int32.reduceLT, Int32.reduceLE, Int32.reduceAdd, Int32.reduceSub, Int32.reduceMul, Int32.reduceToInt, Int32.reduceToNatClampNeg, Int.reduceLT, Int.reduceLE, Int.reduceNeg, true_and, and_true, or_self, or_false, false_or, false_and, and_false, true_or, or_true, if_true, if_false, ne_eq, Classical.not_not, not_true_eq_false, not_false_eq_true, true_implies, false_implies, implies_true, Nat.reduceEqDiff, Nat.reduceAdd, Nat.reduceLeDiff, Nat.reduceSub, reduceCtorEq, reduceIte, b188_61]
          exact go
        · have go := tail true ⟨fun _ => List.mem_append_right _ (by simp [ce]), fun _ => rfl⟩
          simp only [eb1, eb0] at go
          simp only [lv_args, z_v, z_lg, z_h, z_u, z_u1, z_c, z_ct, z_sk, sbne, lst1_d, ldel, lst2_d, ldel2, z_sw, z_rok, zi, eq_self, List.map_cons, List.map_nil, List.append_nil, List.nil_append, List.cons_append, Int32.reduceLT, Int32.reduceLE, Int32.reduceAdd, Int32.reduceSub, Int32.reduceMul, Int32.reduceToInt, Int32.reduceToNatClampNeg, Int.reduceLT, Int.reduceLE, Int.reduceNeg, true_and, and_true, or_self, or_false, false_or, false_and, and_false, true_or, or_true, if_true, if_false, ne_eq, Classical.not_not, not_true_eq_false, not_false_eq_true, true_implies, false_implies, implies_true, Nat.reduceEqDiff, Nat.reduceAdd, Nat.reduceLeDiff, Nat.reduceSub, reduceCtorEq, reduceIte, b188_57]
          exact go
  have go := loop k 0 (pts N L) (L + 1) false t2 rfl (Nat.zero_add _) ⟨fun e => (by cases e), fun w => by simp at w⟩
  simp only [eb0] at go
  unfold aEv
  simp only [lv_args, z_v, z_lg, z_h, z_u, z_u1, z_c, z_ct, z_sk, sbne, lst1_d, ldel, lst2_d, ldel2, z_sw, z_rok, zi, eq_self, List.map_cons, List.map_nil, List.append_nil, List.nil_append, List.cons_append, Int32.reduceLT, Int32.reduceLE, Int32.reduceAdd, Int32.reduceSub, Int32.reduceMul, Int32.reduceToInt, Int32.reduceToNatClampNeg, Int.reduceLT, Int.reduceLE, Int.reduceNeg, true_and, and_true, or_self, or_false, false_or, false_and, and_false, true_or, or_true, if_true, if_false, ne_eq, Classical.not_not, not_true_eq_false, not_false_eq_true, true_implies, false_implies, implies_true, Nat.reduceEqDiff, Nat.reduceAdd, Nat.reduceLeDiff, Nat.reduceSub, reduceCtorEq, reduceIte, b188_0, skM s, srM s, R, w, nn]
  simp (disch := omega) only [nI_ti, nI_cl, le0N, ltNN, d1, c3, true_and]
  try simp only [lv_args, z_v, z_lg, z_h, z_u, z_u1, z_c, z_ct, z_sk, sbne, lst1_d, ldel, lst2_d, ldel2, z_sw, z_rok, zi, eq_self, List.map_cons, List.map_nil, List.append_nil, List.nil_append, List.cons_append, Int32.reduceLT, Int32.reduceLE, Int32.reduceAdd, Int32.reduceSub, Int32.reduceMul, Int32.reduceToInt, Int32.reduceToNatClampNeg, Int.reduceLT, Int.reduceLE, Int.reduceNeg, true_and, and_true, or_self, or_false, false_or, false_and, and_false, true_or, or_true, if_true, if_false, ne_eq, Classical.not_not, not_true_eq_false, not_false_eq_true, true_implies, false_implies, implies_true, Nat.reduceEqDiff, Nat.reduceAdd, Nat.reduceLeDiff, Nat.reduceSub, reduceCtorEq, reduceIte, b188_0, skM s, srM s, R, w, nn]
  try simp (disch := omega) only [nI_ti, nI_cl, le0N, ltNN, d2, d4, c6, ecL, true_and]
  try simp only [lv_args, z_v, z_lg, z_h, z_u, z_u1, z_c, z_ct, z_sk, sbne, lst1_d, ldel, lst2_d, ldel2, z_sw, z_rok, zi, eq_self, List.map_cons, List.map_nil, List.append_nil, List.nil_append, List.cons_append, Int32.reduceLT, Int32.reduceLE, Int32.reduceAdd, Int32.reduceSub, Int32.reduceMul, Int32.reduceToInt, Int32.reduceToNatClampNeg, Int.reduceLT, Int.reduceLE, Int.reduceNeg, true_and, and_true, or_self, or_false, false_or, false_and, and_false, true_or, or_true, if_true, if_false, ne_eq, Classical.not_not, not_true_eq_false, not_false_eq_true, true_implies, false_implies, implies_true, Nat.reduceEqDiff, Nat.reduceAdd, Nat.reduceLeDiff, Nat.reduceSub, reduceCtorEq, reduceIte, b188_0, skM s, srM s, R, w, nn]
  try simp (disch := omega) only [nI_ti, nI_cl, le0N, ltNN, d2, d4, c6, ecL, true_and]
  exact go
end MBD
