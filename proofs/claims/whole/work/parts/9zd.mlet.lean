/-! BUILD. The reference: let, letrec -/
section MLT
variable {h h' h0 : Hp} {Q : Option Value → Hp → Prop} {d n q g a b : Nat} {N : NS} {mt : List Nat} {y : MR} {F : Nat → MR → MR}
theorem mlet_facts (hN1 : N.1 ≤ 6201) (ht : Tr (g + 1) N n b) (h6 : nK N n = 6) (hb : b ≤ N.1) (hl : 3 ≤ (pts N n).length) (hp : arP N (prt N n 1) = true) : ∃ L gg bb, prt N n 1 = L ∧ g = gg + 1 ∧ Tr (gg + 1) N L bb ∧ bb ≤ N.1 ∧ nK N L = 6 ∧ L < N.1 ∧ 1 ≤ L ∧ TL gg N (pts N L) (L + 1) bb ∧ (∃ a0, TL g N ((pts N n).drop 2) a0 b ∧ bb ≤ a0 ∧ a0 ≤ b) ∧ (∀ c, c ∈ pts N L → Prx N g c) ∧ (pts N L).length ≤ 8 ∧ (pts N n)[1]? = some L ∧ n + 1 ≤ L := by
  obtain ⟨t1, t2, hn⟩ := tl_n ht h6 hb hN1
  obtain ⟨p1, p2, p3⟩ := arP_2 hp
  have g1 := prt_get (N := N) (n := n) (k := 1) (by omega)
  obtain ⟨m0, m1, e1, e2, e3, e4, e5, e6, e7, e8⟩ := big_tr ht h6 (by omega : b < 2000000000) (by omega)
  obtain ⟨a1, a2, a3, m1', a4, a5⟩ := tl_get t2 g1
  have hlt := trl_lt e2
  have hlt2 := trl_lt e4
  -- the same tree has one end
  have hfr : ∃ mm, Tr g N (prt N n 1) mm ∧ mm ≤ N.1 ∧ ∃ a0, TL g N ((pts N n).drop 2) a0 b ∧ mm ≤ a0 ∧ a0 ≤ b := by
    have t2' := t2
    cases hpn : pts N n with
    | nil => rw [hpn] at hl; simp at hl
    | cons c0 l0 =>
      rw [hpn] at t2'
      obtain ⟨_, _, _, mA, _, _, tB⟩ := tl_c t2'
      cases hl0 : l0 with
      | nil => rw [hpn, hl0] at hl; simp at hl
      | cons c1 l1 =>
        rw [hl0] at tB
        obtain ⟨_, _, _, mB, tb4, tb5, tC⟩ := tl_c tB
        have ec : prt N n 1 = c1 := by unfold prt; rw [hpn, hl0]; rfl
        rw [ec]
        refine ⟨mB, tb4, tb5, mB, tC, Nat.le_refl _, frs_le _ _ _ tC.1⟩
  obtain ⟨mm, h1, h2, a0, h3, h4, h5⟩ := hfr
  cases g with
  | zero => exact a4.elim
  | succ gg =>
    obtain ⟨u1, u2, u3⟩ := tl_n h1 p1 h2 hN1
    refine ⟨prt N n 1, gg, mm, rfl, rfl, h1, h2, p1, a1, a2, u2, ⟨a0, h3, h4, h5⟩, fun c hc => ?_, p2, g1, by omega⟩
    obtain ⟨v1, v2⟩ := p3 c hc
    obtain ⟨i, hi⟩ := List.mem_iff_getElem?.mp hc
    obtain ⟨b1, b2, b3, m2, b4, b5⟩ := tl_get u2 hi
    have c6 : nK N c = 6 := Classical.byContradiction fun w => by rw [pts_no w] at v1; simp at v1
    cases gg with
    | zero => exact b4.elim
    | succ gg =>
      obtain ⟨w1, w2, w3⟩ := tl_n b4 c6 b5 hN1
      have k0 := prt_get (N := N) (n := c) (k := 0) (by omega)
      have k1 := prt_get (N := N) (n := c) (k := 1) (by omega)
      obtain ⟨e1, e2, e3, m3, e4, e5⟩ := tl_get w2 k0
      obtain ⟨f1, f2, f3, m4, f4, f5⟩ := tl_get w2 k1
      have hd0 : (pts N c).head? = some (prt N c 0) := by rw [← k0]; cases pts N c <;> rfl
      refine ⟨c6, v1, by rw [w1, hd0]; rfl, ⟨e2, e1, v2⟩, ⟨f2, m4, tr_mono f4 (by omega), f5⟩, m2, tr_mono b4 (by omega), b5⟩
/-- the value of a pair lies within it -/
theorem prx_in {c m gg : Nat} (hgg : gg ≤ g) (x : Prx N g c) (hN1 : N.1 ≤ 6201) (tc : Tr gg N c m) (hm : m ≤ N.1) : ∃ mv, Trb g N (prt N c 1) mv ∧ c ≤ prt N c 1 ∧ mv ≤ m ∧ mv ≤ N.1 := by
  cases gg with
  | zero => exact tc.elim
  | succ gg =>
    obtain ⟨w1, w2, w3⟩ := tl_n tc x.1 hm hN1
    have hl := x.2.1
    match hp : pts N c, hl with
    | [c0, c1], _ =>
      have w2' := w2
      rw [hp] at w2'
      obtain ⟨_, _, _, mA, ta, _, tB⟩ := tl_c w2'
      obtain ⟨_, _, _, mB, tb, tb5, tC⟩ := tl_c tB
      have e1 : prt N c 1 = c1 := by unfold prt; rw [hp]; rfl
      obtain ⟨mv, hv, hv2⟩ := x.2.2.2.2.1.2
      have o1 := frs_le _ _ _ tC.1
      obtain ⟨⟨r1, m', _, q2, q3, _, q5⟩, _, _⟩ := w2'
      obtain ⟨⟨r2, m'', _, q2', q3', _, q5'⟩, _, _⟩ := tB
      have := trl_lt ta
      rw [e1]
      have hle : c ≤ c1 := by
        have h9 := (frs_mem [c0, c1] (c + 1) m (by rw [← hp]; exact w2.1) c1 (by simp)).choose_spec.2.1
        omega
      exact ⟨mB, ⟨tr_mono tb (by omega), by omega⟩, hle, o1, tb5⟩
theorem sp_mlet {rec : Bool} (md : MD N mt q h0) (fb : FBm N mt q h0 g F) (hg : g ≤ 30) (ht : Tr (g + 1) N n b) (h6 : nK N n = 6) (hb : b ≤ N.1) (h1 : 1 ≤ n) (hl : 3 ≤ (pts N n).length) (hpr : arP N (prt N n 1) = true) (w : MW (g + 1) (n + 1) b y) (H : MH N mt q h0 y h) (hd : 4 * g + 53 < d) (hq : ∀ h', MH N mt q h0 (mLet N F rec n (pts N (prt N n 1)) ((pts N n).drop 2) y) h' → Q none h') : aEv d 229 [.ref 59, .int (nI (n - 1)), .int (bI rec)] h Q := by
  have h00 : 0 < d := by omega
  have m := md_m md H
  have s := m.1.1
  have hq66 := mc_q m
  have hN1 := m.2.2.2.2.2
  obtain ⟨t1, t2, hn⟩ := tl_n ht h6 hb hN1
  have hlen := tl_len t2
  obtain ⟨L, gg, bb, eL, eg, tL, bbN, k6, LN, L1, tl1, ⟨a0, t3, ab1, ab2⟩, px, p8, gL, nL⟩ := mlet_facts hN1 ht h6 hb hl hpr
  rw [eL] at hq
  have hlenL := tl_len tl1
  have hbbL := trl_lt tL
  have hd2 : ((pts N n).drop 2).head? = (pts N n)[2]? := hd_dr
  have eLL : dnI (oI ((pts N n)[1]?)) = nI (L - 1) := by rw [gL]; exact dnI_nI L1 (by omega)
  have z10 : ¬ (1 : Int32) = 0 := by decide
  have eb0 : bI false = 0 := rfl
  have eb1 : bI true = 1 := rfl
  have z1 : (1 : Int32) = nI 1 := rfl
  have z2 : (2 : Int32) = nI 2 := rfl
  obtain ⟨ml1, ml2, ml3⟩ := H.2.2.2.1
  obtain ⟨ms1, ms2, ms3⟩ := H.2.2.1
  obtain ⟨a109, a110⟩ := ml3 (mLv y) (Nat.le_refl _)
  -- what a pair gives
  have pr : ∀ {hX : Hp} {yX : MR}, MH N mt q h0 yX hX → ∀ c, c ∈ pts N L → 1 ≤ c ∧ c < N.1 ∧ hA hX (q + 4) (c - 1) = nI (prt N c 0 - 1) ∧ 1 ≤ prt N c 0 ∧ prt N c 0 < N.1 ∧ nK N (prt N c 0) = 5 := fun {hX yX} HX c hc => by
    have x := px c hc
    obtain ⟨i, hi⟩ := List.mem_iff_getElem?.mp hc
    obtain ⟨b1, b2, _⟩ := tl_get tl1 hi
    obtain ⟨u1, u2, u3⟩ := x.2.2.2.1
    have mX := md_m md HX
    exact ⟨b2, b1, by rw [(mX.2.2.1.1 c b2 b1).2.2.2.1, x.2.2.1, dnI_nI u1 (by omega)], u1, u2, u3⟩
  have LOCS : True := trivial
  -- the end
  have fin : ∀ (y4 : MR) (h4 : Hp) (x6 : Int32), MX 0 g a0 b y4 → (mSg y).length ≤ (mSg y4).length → mLv y4 = mLv y → MH N mt q h0 y4 h4 → (∀ h', MH N mt q h0 (mSs (mSl y (mLv y)) (mTk (mSg y).length (mBo F ((pts N n).drop 2) y4))) h' → Q none h') → aWP d 229 194 [(6, .int x6), (5, .int (nI (mSl y (mLv y)))), (4, .int (nI (mSg y).length)), (3, .ref q), (0, .ref 59), (1, .int (nI (n - 1))), (2, .int (bI rec))] [] h4 Q := by
    intro y4 h4 x6 X4 l4 v4 H4 q4
    have m4 := md_m md H4
    have s4 := m4.1.1
    have w4 := sq s4 hq66
    simp only [lv_args, z_v, z_lg, z_h, z_u, z_u1, z_c, z_ct, z_sk, sbne, lst1_d, ldel, lst2_d, ldel2, z_sw, z_rok, zi, eq_self, List.map_cons, List.map_nil, List.append_nil, List.nil_append, List.cons_append, Int32.reduceLT, Int32.reduceLE, Int32.reduceAdd, Int32.reduceSub, Int32.reduceMul, Int32.reduceToInt, Int32.reduceToNatClampNeg, Int.reduceLT, Int.reduceLE, Int.reduceNeg, true_and, and_true, or_self, or_false, false_or, false_and, and_false, true_or, or_true, if_true, if_false, ne_eq, Classical.not_not, not_true_eq_false, not_false_eq_true, true_implies, false_implies, implies_true, Nat.reduceEqDiff, Nat.reduceAdd, Nat.reduceLeDiff, Nat.reduceSub, reduceCtorEq, reduceIte, b229_194, skM s4, w4, h00, z2]
    refine m_part (k := 2) m4 ht h6 hb h1 (by omega) ?_
    rw [← hd2]
    simp only [lv_args, z_v, z_lg, z_h, z_u, z_u1, z_c, z_ct, z_sk, sbne, lst1_d, ldel, lst2_d, ldel2, z_sw, z_rok, zi, eq_self, List.map_cons, List.map_nil, List.append_nil, List.nil_append, List.cons_append, Int32.reduceLT, Int32.reduceLE, Int32.reduceAdd, Int32.reduceSub, Int32.reduceMul, Int32.reduceToInt, Int32.reduceToNatClampNeg, Int.reduceLT, Int.reduceLE, Int.reduceNeg, true_and, and_true, or_self, or_false, false_or, false_and, and_false, true_or, or_true, if_true, if_false, ne_eq, Classical.not_not, not_true_eq_false, not_false_eq_true, true_implies, false_implies, implies_true, Nat.reduceEqDiff, Nat.reduceAdd, Nat.reduceLeDiff, Nat.reduceSub, reduceCtorEq, reduceIte, b229_194, skM s4, w4, h00, Nat.reduceLT]
    refine sp_mbodyC md fb (by omega) (by omega) t3 (mx_w X4) H4 (fun hC HC => ?_)
    have M1 := bo_m fb.1 ((pts N n).drop 2) a0 b y4 (frs_sqn _ _ _ t3.1 (by omega)) (by omega) X4.1.2.2.1
    have mC := md_m md HC
    have sC := mC.1.1
    have wC := sq sC hq66
    have n110 : hN hC 110 = 32 := mC.1.2.1.2 (110, 32) (by decide)
    have e27 : hI hC 59 27 = nI (mLv y) := by rw [HC.2.2.2.1.1, M1.1.2.1, v4]
    have H2 := mh_tk (c := (mSg y).length) hq66 HC (by rw [M1.1.1]; exact l4)
    have H3 := mh_ss (c := mSl y (mLv y)) hq66 H2
    have e28 : mLv (mTk (mSg y).length (mBo F ((pts N n).drop 2) y4)) = mLv y := by
      show mLv (mBo F ((pts N n).drop 2) y4) = mLv y
      rw [M1.1.2.1, v4]
    rw [e28] at H3
    have c3 : (mLv y < 32) = True := eq_true (by omega)
    simp only [lv_args, z_v, z_lg, z_h, z_u, z_u1, z_c, z_ct, z_sk, sbne, lst1_d, ldel, lst2_d, ldel2, z_sw, z_rok, zi, eq_self, List.map_cons, List.map_nil, List.append_nil, List.nil_append, List.cons_append, Int32.reduceLT, Int32.reduceLE, Int32.reduceAdd, Int32.reduceSub, Int32.reduceMul, Int32.reduceToInt, Int32.reduceToNatClampNeg, Int.reduceLT, Int.reduceLE, Int.reduceNeg, true_and, and_true, or_self, or_false, false_or, false_and, and_false, true_or, or_true, if_true, if_false, ne_eq, Classical.not_not, not_true_eq_false, not_false_eq_true, true_implies, false_implies, implies_true, Nat.reduceEqDiff, Nat.reduceAdd, Nat.reduceLeDiff, Nat.reduceSub, reduceCtorEq, reduceIte, b229_194, skM s4, skM sC, srM sC, w4, wC, Nat.reduceLT, e27, n110]
    simp (disch := omega) only [nI_ti, nI_cl, le0N, ltNN, c3, true_and]
    try simp only [lv_args, z_v, z_lg, z_h, z_u, z_u1, z_c, z_ct, z_sk, sbne, lst1_d, ldel, lst2_d, ldel2, z_sw, z_rok, zi, eq_self, List.map_cons, List.map_nil, List.append_nil, List.nil_append, List.cons_append, Int32.reduceLT, Int32.reduceLE, Int32.reduceAdd, Int32.reduceSub, Int32.reduceMul, Int32.reduceToInt, Int32.reduceToNatClampNeg, Int.reduceLT, Int.reduceLE, Int.reduceNeg, true_and, and_true, or_self, or_false, false_or, false_and, and_false, true_or, or_true, if_true, if_false, ne_eq, Classical.not_not, not_true_eq_false, not_false_eq_true, true_implies, false_implies, implies_true, Nat.reduceEqDiff, Nat.reduceAdd, Nat.reduceLeDiff, Nat.reduceSub, reduceCtorEq, reduceIte, b229_194, skM sC]
    exact q4 _ H3
  -- names of a let come into sight behind the values
  have loop3 : rec = false → ∀ (l : List Nat) (a' : Nat) (yA : MR) (hA' : Hp), TL gg N l a' bb → (∀ c, c ∈ l → c ∈ pts N L) → MX l.length g a0 b yA → (mSg y).length ≤ (mSg yA).length → mLv yA = mLv y → MH N mt q h0 yA hA' → (∀ h', MH N mt q h0 (mSs (mSl y (mLv y)) (mTk (mSg y).length (mBo F ((pts N n).drop 2) ((l.map (fun p => nCn N (prt N p 0))).foldl (fun y j => mIn j y) yA)))) h' → Q none h') → aWP d 229 161 [(6, .int (dnI (oI l.head?))), (5, .int (nI (mSl y (mLv y)))), (4, .int (nI (mSg y).length)), (3, .ref q), (0, .ref 59), (1, .int (nI (n - 1))), (2, .int (bI rec))] [] hA' Q := by
    intro hrec l
    subst hrec
    induction l with
    | nil =>
      intro a' yA hA' tl hm XA lA vA HA qA
      have go := fin yA hA' (-1) XA lA vA HA qA
      simp only [lv_args, z_v, z_lg, z_h, z_u, z_u1, z_c, z_ct, z_sk, sbne, lst1_d, ldel, lst2_d, ldel2, z_sw, z_rok, zi, eq_self, List.map_cons, List.map_nil, List.append_nil, List.nil_append, List.cons_append, Int32.reduceLT, Int32.reduceLE, Int32.reduceAdd, Int32.reduceSub, Int32.reduceMul, Int32.reduceToInt, Int32.reduceToNatClampNeg, Int.reduceLT, Int.reduceLE, Int.reduceNeg, true_and, and_true, or_self, or_false, false_or, false_and, and_false, true_or, or_true, if_true, if_false, ne_eq, Classical.not_not, not_true_eq_false, not_false_eq_true, true_implies, false_implies, implies_true, Nat.reduceEqDiff, Nat.reduceAdd, Nat.reduceLeDiff, Nat.reduceSub, reduceCtorEq, reduceIte, b229_161, dn_n]
      exact go
    | cons c l ih =>
      intro a' yA hA' tl hm XA lA vA HA qA
      obtain ⟨y1', y2', y3', mm, y4', y5', y6'⟩ := tl_c tl
      have mA := md_m md HA
      have sA := mA.1.1
      have wA := sq sA hq66
      have nnA := nq mA.1.2 hq66
      have ne := dn_m1 (l := l) y2' (by omega : c < 7000)
      obtain ⟨_, _, r3, r4, r5, r6⟩ := pr HA c (hm c (by simp))
      have XA' : MX (l.length + 1) g a0 b yA := XA
      have c2 : (c - 1 < 6200) = True := eq_true (by omega)
      simp only [lv_args, z_v, z_lg, z_h, z_u, z_u1, z_c, z_ct, z_sk, sbne, lst1_d, ldel, lst2_d, ldel2, z_sw, z_rok, zi, eq_self, List.map_cons, List.map_nil, List.append_nil, List.nil_append, List.cons_append, Int32.reduceLT, Int32.reduceLE, Int32.reduceAdd, Int32.reduceSub, Int32.reduceMul, Int32.reduceToInt, Int32.reduceToNatClampNeg, Int.reduceLT, Int.reduceLE, Int.reduceNeg, true_and, and_true, or_self, or_false, false_or, false_and, and_false, true_or, or_true, if_true, if_false, ne_eq, Classical.not_not, not_true_eq_false, not_false_eq_true, true_implies, false_implies, implies_true, Nat.reduceEqDiff, Nat.reduceAdd, Nat.reduceLeDiff, Nat.reduceSub, reduceCtorEq, reduceIte, b229_161, ne]
      rw [dn_o y2' (by omega)]
      simp only [lv_args, z_v, z_lg, z_h, z_u, z_u1, z_c, z_ct, z_sk, sbne, lst1_d, ldel, lst2_d, ldel2, z_sw, z_rok, zi, eq_self, List.map_cons, List.map_nil, List.append_nil, List.nil_append, List.cons_append, Int32.reduceLT, Int32.reduceLE, Int32.reduceAdd, Int32.reduceSub, Int32.reduceMul, Int32.reduceToInt, Int32.reduceToNatClampNeg, Int.reduceLT, Int.reduceLE, Int.reduceNeg, true_and, and_true, or_self, or_false, false_or, false_and, and_false, true_or, or_true, if_true, if_false, ne_eq, Classical.not_not, not_true_eq_false, not_false_eq_true, true_implies, false_implies, implies_true, Nat.reduceEqDiff, Nat.reduceAdd, Nat.reduceLeDiff, Nat.reduceSub, reduceCtorEq, reduceIte, b229_167, eb0]
      simp only [lv_args, z_v, z_lg, z_h, z_u, z_u1, z_c, z_ct, z_sk, sbne, lst1_d, ldel, lst2_d, ldel2, z_sw, z_rok, zi, eq_self, List.map_cons, List.map_nil, List.append_nil, List.nil_append, List.cons_append, Int32.reduceLT, Int32.reduceLE, Int32.reduceAdd, Int32.reduceSub, Int32.reduceMul, Int32.reduceToInt, Int32.reduceToNatClampNeg, Int.reduceLT, Int.reduceLE, Int.reduceNeg, true_and, and_true, or_self, or_false, false_or, false_and, and_false, true_or, or_true, if_true, if_false, ne_eq, Classical.not_not, not_true_eq_false, not_false_eq_true, true_implies, false_implies, implies_true, Nat.reduceEqDiff, Nat.reduceAdd, Nat.reduceLeDiff, Nat.reduceSub, reduceCtorEq, reduceIte, b229_171, skM sA, srM sA, wA, nnA, h00]
      simp (disch := omega) only [nI_ti, nI_cl, le0N, ltNN, c2, r3, true_and]
      try simp only [lv_args, z_v, z_lg, z_h, z_u, z_u1, z_c, z_ct, z_sk, sbne, lst1_d, ldel, lst2_d, ldel2, z_sw, z_rok, zi, eq_self, List.map_cons, List.map_nil, List.append_nil, List.nil_append, List.cons_append, Int32.reduceLT, Int32.reduceLE, Int32.reduceAdd, Int32.reduceSub, Int32.reduceMul, Int32.reduceToInt, Int32.reduceToNatClampNeg, Int.reduceLT, Int.reduceLE, Int.reduceNeg, true_and, and_true, or_self, or_false, false_or, false_and, and_false, true_or, or_true, if_true, if_false, ne_eq, Classical.not_not, not_true_eq_false, not_false_eq_true, true_implies, false_implies, implies_true, Nat.reduceEqDiff, Nat.reduceAdd, Nat.reduceLeDiff, Nat.reduceSub, reduceCtorEq, reduceIte, b229_171, skM sA, wA, h00]
      refine sp_sight md HA XA'.1 (by have := XA'.2.2.2.2.2.2.2.1; omega) r4 r5 r6 rfl (by have := XA'.2.1; omega) (by have := XA'.2.2.2.1; omega) (by have := XA'.2.2.2.2.1 _ (ar_lt XA'.1 (Nat.le_refl _)); omega) (by omega) (fun hc' Hc => ?_)
      have mc := md_m md Hc
      have sc := mc.1.1
      have wc := sq sc hq66
      have nnc := nq mc.1.2 hq66
      have en := (mc.2.2.1.1 c y2' y1').2.2.2.2
      rw [y3'] at en
      have nx := ih mm _ hc' y6' (fun c' hc' => hm c' (List.mem_cons_of_mem _ hc')) (mx_in XA') (by
        show _ ≤ (mSg yA ++ [_]).length
        rw [List.length_append]; omega) vA Hc qA
      simp only [eb0] at nx
      simp only [lv_args, z_v, z_lg, z_h, z_u, z_u1, z_c, z_ct, z_sk, sbne, lst1_d, ldel, lst2_d, ldel2, z_sw, z_rok, zi, eq_self, List.map_cons, List.map_nil, List.append_nil, List.nil_append, List.cons_append, Int32.reduceLT, Int32.reduceLE, Int32.reduceAdd, Int32.reduceSub, Int32.reduceMul, Int32.reduceToInt, Int32.reduceToNatClampNeg, Int.reduceLT, Int.reduceLE, Int.reduceNeg, true_and, and_true, or_self, or_false, false_or, false_and, and_false, true_or, or_true, if_true, if_false, ne_eq, Classical.not_not, not_true_eq_false, not_false_eq_true, true_implies, false_implies, implies_true, Nat.reduceEqDiff, Nat.reduceAdd, Nat.reduceLeDiff, Nat.reduceSub, reduceCtorEq, reduceIte, b229_171, skM sA, skM sc, srM sc, wA, wc, nnc, Nat.reduceLT]
      simp (disch := omega) only [nI_ti, nI_cl, le0N, ltNN, c2, en, true_and]
      try simp only [lv_args, z_v, z_lg, z_h, z_u, z_u1, z_c, z_ct, z_sk, sbne, lst1_d, ldel, lst2_d, ldel2, z_sw, z_rok, zi, eq_self, List.map_cons, List.map_nil, List.append_nil, List.nil_append, List.cons_append, Int32.reduceLT, Int32.reduceLE, Int32.reduceAdd, Int32.reduceSub, Int32.reduceMul, Int32.reduceToInt, Int32.reduceToNatClampNeg, Int.reduceLT, Int.reduceLE, Int.reduceNeg, true_and, and_true, or_self, or_false, false_or, false_and, and_false, true_or, or_true, if_true, if_false, ne_eq, Classical.not_not, not_true_eq_false, not_false_eq_true, true_implies, false_implies, implies_true, Nat.reduceEqDiff, Nat.reduceAdd, Nat.reduceLeDiff, Nat.reduceSub, reduceCtorEq, reduceIte, b229_171]
      exact nx
  -- behind the values
  have mid3 : ∀ (y3 : MR) (h3 : Hp) (x6 : Int32), MX (if rec then 0 else (pts N L).length) g a0 b y3 → (mSg y).length ≤ (mSg y3).length → mLv y3 = mLv y → MH N mt q h0 y3 h3 → (∀ h', MH N mt q h0 (mSs (mSl y (mLv y)) (mTk (mSg y).length (mBo F ((pts N n).drop 2) (if rec = true then y3 else ((pts N L).map (fun p => nCn N (prt N p 0))).foldl (fun y j => mIn j y) y3)))) h' → Q none h') → aWP d 229 148 [(6, .int x6), (5, .int (nI (mSl y (mLv y)))), (4, .int (nI (mSg y).length)), (3, .ref q), (0, .ref 59), (1, .int (nI (n - 1))), (2, .int (bI rec))] [] h3 Q := by
    intro y3 h3 x6 X3 l3 v3 H3 q3
    have m3 := md_m md H3
    have s3 := m3.1.1
    have w3 := sq s3 hq66
    have nn3 := nq m3.1.2 hq66
    have ec := mc_c m3 tL k6 bbN L1
    have c2 : (L - 1 < 6200) = True := eq_true (by omega)
    simp only [lv_args, z_v, z_lg, z_h, z_u, z_u1, z_c, z_ct, z_sk, sbne, lst1_d, ldel, lst2_d, ldel2, z_sw, z_rok, zi, eq_self, List.map_cons, List.map_nil, List.append_nil, List.nil_append, List.cons_append, Int32.reduceLT, Int32.reduceLE, Int32.reduceAdd, Int32.reduceSub, Int32.reduceMul, Int32.reduceToInt, Int32.reduceToNatClampNeg, Int.reduceLT, Int.reduceLE, Int.reduceNeg, true_and, and_true, or_self, or_false, false_or, false_and, and_false, true_or, or_true, if_true, if_false, ne_eq, Classical.not_not, not_true_eq_false, not_false_eq_true, true_implies, false_implies, implies_true, Nat.reduceEqDiff, Nat.reduceAdd, Nat.reduceLeDiff, Nat.reduceSub, reduceCtorEq, reduceIte, b229_148, skM s3, srM s3, w3, nn3, h00, z1]
    refine m_part (k := 1) m3 ht h6 hb h1 (by omega) ?_
    rw [eLL]
    simp only [lv_args, z_v, z_lg, z_h, z_u, z_u1, z_c, z_ct, z_sk, sbne, lst1_d, ldel, lst2_d, ldel2, z_sw, z_rok, zi, eq_self, List.map_cons, List.map_nil, List.append_nil, List.nil_append, List.cons_append, Int32.reduceLT, Int32.reduceLE, Int32.reduceAdd, Int32.reduceSub, Int32.reduceMul, Int32.reduceToInt, Int32.reduceToNatClampNeg, Int.reduceLT, Int.reduceLE, Int.reduceNeg, true_and, and_true, or_self, or_false, false_or, false_and, and_false, true_or, or_true, if_true, if_false, ne_eq, Classical.not_not, not_true_eq_false, not_false_eq_true, true_implies, false_implies, implies_true, Nat.reduceEqDiff, Nat.reduceAdd, Nat.reduceLeDiff, Nat.reduceSub, reduceCtorEq, reduceIte, b229_148, skM s3, srM s3, w3, nn3, h00, Nat.reduceLT]
    simp (disch := omega) only [nI_ti, nI_cl, le0N, ltNN, c2, ec, true_and]
    try simp only [lv_args, z_v, z_lg, z_h, z_u, z_u1, z_c, z_ct, z_sk, sbne, lst1_d, ldel, lst2_d, ldel2, z_sw, z_rok, zi, eq_self, List.map_cons, List.map_nil, List.append_nil, List.nil_append, List.cons_append, Int32.reduceLT, Int32.reduceLE, Int32.reduceAdd, Int32.reduceSub, Int32.reduceMul, Int32.reduceToInt, Int32.reduceToNatClampNeg, Int.reduceLT, Int.reduceLE, Int.reduceNeg, true_and, and_true, or_self, or_false, false_or, false_and, and_false, true_or, or_true, if_true, if_false, ne_eq, Classical.not_not, not_true_eq_false, not_false_eq_true, true_implies, false_implies, implies_true, Nat.reduceEqDiff, Nat.reduceAdd, Nat.reduceLeDiff, Nat.reduceSub, reduceCtorEq, reduceIte, b229_148]
    cases rec with
    | false =>
      have go := loop3 rfl (pts N L) (L + 1) y3 h3 tl1 (fun _ h => h) X3 l3 v3 H3 q3
      simp only [eb0] at go ⊢
      exact go
    | true =>
      have go := fun x => fin y3 h3 x X3 l3 v3 H3 q3
      simp only [eb1] at go ⊢
      simp only [lv_args, z_v, z_lg, z_h, z_u, z_u1, z_c, z_ct, z_sk, sbne, lst1_d, ldel, lst2_d, ldel2, z_sw, z_rok, zi, eq_self, List.map_cons, List.map_nil, List.append_nil, List.nil_append, List.cons_append, Int32.reduceLT, Int32.reduceLE, Int32.reduceAdd, Int32.reduceSub, Int32.reduceMul, Int32.reduceToInt, Int32.reduceToNatClampNeg, Int.reduceLT, Int.reduceLE, Int.reduceNeg, true_and, and_true, or_self, or_false, false_or, false_and, and_false, true_or, or_true, if_true, if_false, ne_eq, Classical.not_not, not_true_eq_false, not_false_eq_true, true_implies, false_implies, implies_true, Nat.reduceEqDiff, Nat.reduceAdd, Nat.reduceLeDiff, Nat.reduceSub, reduceCtorEq, reduceIte, b229_161]
      refine ⟨fun c => ?_, fun c => ?_⟩
      · exact go _
      · simp only [lv_args, z_v, z_lg, z_h, z_u, z_u1, z_c, z_ct, z_sk, sbne, lst1_d, ldel, lst2_d, ldel2, z_sw, z_rok, zi, eq_self, List.map_cons, List.map_nil, List.append_nil, List.nil_append, List.cons_append, Int32.reduceLT, Int32.reduceLE, Int32.reduceAdd, Int32.reduceSub, Int32.reduceMul, Int32.reduceToInt, Int32.reduceToNatClampNeg, Int.reduceLT, Int.reduceLE, Int.reduceNeg, true_and, and_true, or_self, or_false, false_or, false_and, and_false, true_or, or_true, if_true, if_false, ne_eq, Classical.not_not, not_true_eq_false, not_false_eq_true, true_implies, false_implies, implies_true, Nat.reduceEqDiff, Nat.reduceAdd, Nat.reduceLeDiff, Nat.reduceSub, reduceCtorEq, reduceIte, b229_167, z10]
        exact go _
  have kkd : (if rec = true then 0 else (pts N L).length) ≤ 8 := by
    split <;> omega
  generalize ekk : (if rec = true then 0 else (pts N L).length) = kk at *
  -- the values
  have loop2 : ∀ (l : List Nat) (i a' : Nat) (yA : MR) (hA' : Hp), TL gg N l a' bb → (pts N L).drop i = l → MX kk g a' b yA → (mSg y).length ≤ (mSg yA).length → mLv yA = mLv y → MH N mt q h0 yA hA' → (∀ h', MH N mt q h0 (mSs (mSl y (mLv y)) (mTk (mSg y).length (mBo F ((pts N n).drop 2) (if rec = true then mLt N F rec l (((pts N L).take i).map (fun c => nCn N (prt N c 0))) yA else ((pts N L).map (fun p => nCn N (prt N p 0))).foldl (fun y j => mIn j y) (mLt N F rec l (((pts N L).take i).map (fun c => nCn N (prt N c 0))) yA))))) h' → Q none h') → aWP d 229 102 [(6, .int (dnI (oI l.head?))), (5, .int (nI (mSl y (mLv y)))), (4, .int (nI (mSg y).length)), (3, .ref q), (0, .ref 59), (1, .int (nI (n - 1))), (2, .int (bI rec))] [] hA' Q := by
    intro l
    induction l with
    | nil =>
      intro i a' yA hA' tl hdr XA lA vA HA qA
      have ea : a' = bb := tl.1
      have go := mid3 yA hA' (-1) (mx_sub XA (by omega) (Nat.le_refl _)) lA vA HA qA
      simp only [lv_args, z_v, z_lg, z_h, z_u, z_u1, z_c, z_ct, z_sk, sbne, lst1_d, ldel, lst2_d, ldel2, z_sw, z_rok, zi, eq_self, List.map_cons, List.map_nil, List.append_nil, List.nil_append, List.cons_append, Int32.reduceLT, Int32.reduceLE, Int32.reduceAdd, Int32.reduceSub, Int32.reduceMul, Int32.reduceToInt, Int32.reduceToNatClampNeg, Int.reduceLT, Int.reduceLE, Int.reduceNeg, true_and, and_true, or_self, or_false, false_or, false_and, and_false, true_or, or_true, if_true, if_false, ne_eq, Classical.not_not, not_true_eq_false, not_false_eq_true, true_implies, false_implies, implies_true, Nat.reduceEqDiff, Nat.reduceAdd, Nat.reduceLeDiff, Nat.reduceSub, reduceCtorEq, reduceIte, b229_102, dn_n]
      exact go
    | cons c l ih =>
      intro i a' yA hA' tl hdr XA lA vA HA qA
      have tl0 := tl
      obtain ⟨y1', y2', y3', mm, y4', y5', y6'⟩ := tl_c tl
      have hal : a' ≤ c := by
        obtain ⟨⟨rfl, _⟩, _, _⟩ := tl0
        exact Nat.le_refl _
      have hmb : mm ≤ bb := frs_le _ _ _ y6'.1
      have hil : i < (pts N L).length := by
        apply Classical.byContradiction
        intro c
        rw [List.drop_eq_nil_of_le (by omega)] at hdr
        cases hdr
      have hdc := List.drop_eq_getElem_cons hil
      rw [hdr] at hdc
      have hgi : (pts N L)[i] = c := by
        injection hdc with e _
        exact e.symm
      have hdr2 : (pts N L).drop (i + 1) = l := by
        injection hdc with _ e
        exact e.symm
      have hgi2 : (pts N L)[i]? = some c := by rw [List.getElem?_eq_getElem hil, hgi]
      have hcm : c ∈ pts N L := List.mem_of_getElem? hgi2
      have htk : ((pts N L).take (i + 1)).map (fun c => nCn N (prt N c 0)) = ((pts N L).take i).map (fun c => nCn N (prt N c 0)) ++ [nCn N (prt N c 0)] := by
        rw [List.take_succ_eq_append_getElem hil, hgi, List.map_append]; rfl
      have pc := px c hcm
      obtain ⟨mv, v1, v2, v3, v4⟩ := prx_in (by omega : gg ≤ g) pc hN1 y4' y5'
      have v0 := pc.2.2.2.2.1.1
      have mA := md_m md HA
      have sA := mA.1.1
      have wA := sq sA hq66
      have ne := dn_m1 (l := l) y2' (by omega : c < 7000)
      -- from the value on
      have val : ∀ (yB : MR) (hB' : Hp), yB = (if rec = true then yA else mBp N (((pts N L).take i).map (fun c => nCn N (prt N c 0))) (prt N c 0) yA) → MX kk g a' b yB → MH N mt q h0 yB hB' → aWP d 229 124 [(6, .int (nI (c - 1))), (5, .int (nI (mSl y (mLv y)))), (4, .int (nI (mSg y).length)), (3, .ref q), (0, .ref 59), (1, .int (nI (n - 1))), (2, .int (bI rec))] [] hB' Q := by
        intro yB hB' eyB XB HB
        have mB := md_m md HB
        have sB := mB.1.1
        have wB := sq sB hq66
        have esg : mSg yB = mSg yA ∧ mLv yB = mLv yA := by
          rw [eyB]
          cases rec
          · unfold mBp
            simp only [Bool.false_eq_true, if_false]
            split <;> exact ⟨rfl, rfl⟩
          · exact ⟨rfl, rfl⟩
        obtain ⟨gg', eg', tc⟩ : ∃ gg', gg = gg' + 1 ∧ Tr (gg' + 1) N c mm := by
          cases gg with
          | zero => exact y4'.elim
          | succ gg' => exact ⟨gg', rfl, y4'⟩
        have k1 := prt_get (N := N) (n := c) (k := 1) (by have := pc.2.1; omega)
        have e1 : dnI (oI ((pts N c)[1]?)) = nI (prt N c 1 - 1) := by rw [k1]; exact dnI_nI v0 (by have := trl_lt v1.1; omega)
        have XF := mx_F fb (by omega) v1 v0 (by omega : a' ≤ prt N c 1) (by omega : mv ≤ b) XB
        simp only [lv_args, z_v, z_lg, z_h, z_u, z_u1, z_c, z_ct, z_sk, sbne, lst1_d, ldel, lst2_d, ldel2, z_sw, z_rok, zi, eq_self, List.map_cons, List.map_nil, List.append_nil, List.nil_append, List.cons_append, Int32.reduceLT, Int32.reduceLE, Int32.reduceAdd, Int32.reduceSub, Int32.reduceMul, Int32.reduceToInt, Int32.reduceToNatClampNeg, Int.reduceLT, Int.reduceLE, Int.reduceNeg, true_and, and_true, or_self, or_false, false_or, false_and, and_false, true_or, or_true, if_true, if_false, ne_eq, Classical.not_not, not_true_eq_false, not_false_eq_true, true_implies, false_implies, implies_true, Nat.reduceEqDiff, Nat.reduceAdd, Nat.reduceLeDiff, Nat.reduceSub, reduceCtorEq, reduceIte, b229_124, skM sB, wB, h00, z1]
        refine m_part (k := 1) mB tc pc.1 y5' y2' (by have := pc.2.1; omega) ?_
        rw [e1]
        simp only [lv_args, z_v, z_lg, z_h, z_u, z_u1, z_c, z_ct, z_sk, sbne, lst1_d, ldel, lst2_d, ldel2, z_sw, z_rok, zi, eq_self, List.map_cons, List.map_nil, List.append_nil, List.nil_append, List.cons_append, Int32.reduceLT, Int32.reduceLE, Int32.reduceAdd, Int32.reduceSub, Int32.reduceMul, Int32.reduceToInt, Int32.reduceToNatClampNeg, Int.reduceLT, Int.reduceLE, Int.reduceNeg, true_and, and_true, or_self, or_false, false_or, false_and, and_false, true_or, or_true, if_true, if_false, ne_eq, Classical.not_not, not_true_eq_false, not_false_eq_true, true_implies, false_implies, implies_true, Nat.reduceEqDiff, Nat.reduceAdd, Nat.reduceLeDiff, Nat.reduceSub, reduceCtorEq, reduceIte, b229_124, skM sB, wB, h00, Nat.reduceLT]
        refine fb.2.2.2.2 (prt N c 1) mv yB hB' _ _ v1.1 v4 v0 (mw_sub (mx_w XB) (by omega) (by omega)) HB (by omega) (fun hC HC => ?_)
        have mC := md_m md HC
        have sC := mC.1.1
        have wC := sq sC hq66
        have nnC := nq mC.1.2 hq66
        have en := (mC.2.2.1.1 c y2' y1').2.2.2.2
        rw [y3'] at en
        have c2 : (c - 1 < 6200) = True := eq_true (by omega)
        obtain ⟨_, f1, f2, _⟩ := mw_F fb (by omega) v1 v0 (by omega : a' ≤ prt N c 1) (by omega : mv ≤ b) (mx_w XB)
        have nx := ih (i + 1) mm (F (prt N c 1) yB) hC y6' hdr2 (mx_sub XF v3 (Nat.le_refl _)) (by rw [f1, esg.1]; exact lA) (by rw [f2, esg.2]; exact vA) HC (fun h' w => qA h' (by
          rw [htk] at w
          have e9 : mLt N F rec (c :: l) (((pts N L).take i).map (fun c => nCn N (prt N c 0))) yA = mLt N F rec l (((pts N L).take i).map (fun c => nCn N (prt N c 0)) ++ [nCn N (prt N c 0)]) (F (prt N c 1) yB) := by rw [eyB]; rfl
          rw [e9]
          exact w))
        simp only [lv_args, z_v, z_lg, z_h, z_u, z_u1, z_c, z_ct, z_sk, sbne, lst1_d, ldel, lst2_d, ldel2, z_sw, z_rok, zi, eq_self, List.map_cons, List.map_nil, List.append_nil, List.nil_append, List.cons_append, Int32.reduceLT, Int32.reduceLE, Int32.reduceAdd, Int32.reduceSub, Int32.reduceMul, Int32.reduceToInt, Int32.reduceToNatClampNeg, Int.reduceLT, Int.reduceLE, Int.reduceNeg, true_and, and_true, or_self, or_false, false_or, false_and, and_false, true_or, or_true, if_true, if_false, ne_eq, Classical.not_not, not_true_eq_false, not_false_eq_true, true_implies, false_implies, implies_true, Nat.reduceEqDiff, Nat.reduceAdd, Nat.reduceLeDiff, Nat.reduceSub, reduceCtorEq, reduceIte, b229_124, skM sB, skM sC, srM sC, wB, wC, nnC, Nat.reduceLT]
        simp (disch := omega) only [nI_ti, nI_cl, le0N, ltNN, c2, en, true_and]
        try simp only [lv_args, z_v, z_lg, z_h, z_u, z_u1, z_c, z_ct, z_sk, sbne, lst1_d, ldel, lst2_d, ldel2, z_sw, z_rok, zi, eq_self, List.map_cons, List.map_nil, List.append_nil, List.nil_append, List.cons_append, Int32.reduceLT, Int32.reduceLE, Int32.reduceAdd, Int32.reduceSub, Int32.reduceMul, Int32.reduceToInt, Int32.reduceToNatClampNeg, Int.reduceLT, Int.reduceLE, Int.reduceNeg, true_and, and_true, or_self, or_false, false_or, false_and, and_false, true_or, or_true, if_true, if_false, ne_eq, Classical.not_not, not_true_eq_false, not_false_eq_true, true_implies, false_implies, implies_true, Nat.reduceEqDiff, Nat.reduceAdd, Nat.reduceLeDiff, Nat.reduceSub, reduceCtorEq, reduceIte, b229_124]
        exact nx
      simp only [lv_args, z_v, z_lg, z_h, z_u, z_u1, z_c, z_ct, z_sk, sbne, lst1_d, ldel, lst2_d, ldel2, z_sw, z_rok, zi, eq_self, List.map_cons, List.map_nil, List.append_nil, List.nil_append, List.cons_append, Int32.reduceLT, Int32.reduceLE, Int32.reduceAdd, Int32.reduceSub, Int32.reduceMul, Int32.reduceToInt, Int32.reduceToNatClampNeg, Int.reduceLT, Int.reduceLE, Int.reduceNeg, true_and, and_true, or_self, or_false, false_or, false_and, and_false, true_or, or_true, if_true, if_false, ne_eq, Classical.not_not, not_true_eq_false, not_false_eq_true, true_implies, false_implies, implies_true, Nat.reduceEqDiff, Nat.reduceAdd, Nat.reduceLeDiff, Nat.reduceSub, reduceCtorEq, reduceIte, b229_102, ne]
      rw [dn_o y2' (by omega)]
      cases rec with
      | true =>
        have go := val yA hA' rfl XA HA
        simp only [eb1] at go ⊢
        simp only [lv_args, z_v, z_lg, z_h, z_u, z_u1, z_c, z_ct, z_sk, sbne, lst1_d, ldel, lst2_d, ldel2, z_sw, z_rok, zi, eq_self, List.map_cons, List.map_nil, List.append_nil, List.nil_append, List.cons_append, Int32.reduceLT, Int32.reduceLE, Int32.reduceAdd, Int32.reduceSub, Int32.reduceMul, Int32.reduceToInt, Int32.reduceToNatClampNeg, Int.reduceLT, Int.reduceLE, Int.reduceNeg, true_and, and_true, or_self, or_false, false_or, false_and, and_false, true_or, or_true, if_true, if_false, ne_eq, Classical.not_not, not_true_eq_false, not_false_eq_true, true_implies, false_implies, implies_true, Nat.reduceEqDiff, Nat.reduceAdd, Nat.reduceLeDiff, Nat.reduceSub, reduceCtorEq, reduceIte, b229_108, z10]
        exact go
      | false =>
        simp only [eb0] at val ⊢
        simp only [lv_args, z_v, z_lg, z_h, z_u, z_u1, z_c, z_ct, z_sk, sbne, lst1_d, ldel, lst2_d, ldel2, z_sw, z_rok, zi, eq_self, List.map_cons, List.map_nil, List.append_nil, List.nil_append, List.cons_append, Int32.reduceLT, Int32.reduceLE, Int32.reduceAdd, Int32.reduceSub, Int32.reduceMul, Int32.reduceToInt, Int32.reduceToNatClampNeg, Int.reduceLT, Int.reduceLE, Int.reduceNeg, true_and, and_true, or_self, or_false, false_or, false_and, and_false, true_or, or_true, if_true, if_false, ne_eq, Classical.not_not, not_true_eq_false, not_false_eq_true, true_implies, false_implies, implies_true, Nat.reduceEqDiff, Nat.reduceAdd, Nat.reduceLeDiff, Nat.reduceSub, reduceCtorEq, reduceIte, b229_108]
        simp only [lv_args, z_v, z_lg, z_h, z_u, z_u1, z_c, z_ct, z_sk, sbne, lst1_d, ldel, lst2_d, ldel2, z_sw, z_rok, zi, eq_self, List.map_cons, List.map_nil, List.append_nil, List.nil_append, List.cons_append, Int32.reduceLT, Int32.reduceLE, Int32.reduceAdd, Int32.reduceSub, Int32.reduceMul, Int32.reduceToInt, Int32.reduceToNatClampNeg, Int.reduceLT, Int.reduceLE, Int.reduceNeg, true_and, and_true, or_self, or_false, false_or, false_and, and_false, true_or, or_true, if_true, if_false, ne_eq, Classical.not_not, not_true_eq_false, not_false_eq_true, true_implies, false_implies, implies_true, Nat.reduceEqDiff, Nat.reduceAdd, Nat.reduceLeDiff, Nat.reduceSub, reduceCtorEq, reduceIte, b229_112, skM sA, wA, h00, z1]
        refine m_part (k := 1) mA ht h6 hb h1 (by omega) ?_
        rw [eLL]
        simp only [lv_args, z_v, z_lg, z_h, z_u, z_u1, z_c, z_ct, z_sk, sbne, lst1_d, ldel, lst2_d, ldel2, z_sw, z_rok, zi, eq_self, List.map_cons, List.map_nil, List.append_nil, List.nil_append, List.cons_append, Int32.reduceLT, Int32.reduceLE, Int32.reduceAdd, Int32.reduceSub, Int32.reduceMul, Int32.reduceToInt, Int32.reduceToNatClampNeg, Int.reduceLT, Int.reduceLE, Int.reduceNeg, true_and, and_true, or_self, or_false, false_or, false_and, and_false, true_or, or_true, if_true, if_false, ne_eq, Classical.not_not, not_true_eq_false, not_false_eq_true, true_implies, false_implies, implies_true, Nat.reduceEqDiff, Nat.reduceAdd, Nat.reduceLeDiff, Nat.reduceSub, reduceCtorEq, reduceIte, b229_112, skM sA, wA, h00, Nat.reduceLT]
        refine sp_bpair (L := L) (k := i) md HA tL bbN k6 L1 px hgi2 (by omega) (fun hB' HB => ?_)
        have sB := (md_m md HB).1.1
        have wB := sq sB hq66
        have go := val _ hB' rfl (mx_bp XA) HB
        simp only [lv_args, z_v, z_lg, z_h, z_u, z_u1, z_c, z_ct, z_sk, sbne, lst1_d, ldel, lst2_d, ldel2, z_sw, z_rok, zi, eq_self, List.map_cons, List.map_nil, List.append_nil, List.nil_append, List.cons_append, Int32.reduceLT, Int32.reduceLE, Int32.reduceAdd, Int32.reduceSub, Int32.reduceMul, Int32.reduceToInt, Int32.reduceToNatClampNeg, Int.reduceLT, Int.reduceLE, Int.reduceNeg, true_and, and_true, or_self, or_false, false_or, false_and, and_false, true_or, or_true, if_true, if_false, ne_eq, Classical.not_not, not_true_eq_false, not_false_eq_true, true_implies, false_implies, implies_true, Nat.reduceEqDiff, Nat.reduceAdd, Nat.reduceLeDiff, Nat.reduceSub, reduceCtorEq, reduceIte, b229_112, skM sA, skM sB, wA, wB, Nat.reduceLT]
        exact go
  -- behind the names of a letrec
  have mid2 : ∀ (y2 : MR) (h2 : Hp) (x6 : Int32), MX kk g (L + 1) b y2 → (mSg y).length ≤ (mSg y2).length → mLv y2 = mLv y → MH N mt q h0 y2 h2 → (∀ h', MH N mt q h0 (mSs (mSl y (mLv y)) (mTk (mSg y).length (mBo F ((pts N n).drop 2) (if rec = true then mLt N F rec (pts N L) [] y2 else ((pts N L).map (fun p => nCn N (prt N p 0))).foldl (fun y j => mIn j y) (mLt N F rec (pts N L) [] y2))))) h' → Q none h') → aWP d 229 89 [(6, .int x6), (5, .int (nI (mSl y (mLv y)))), (4, .int (nI (mSg y).length)), (3, .ref q), (0, .ref 59), (1, .int (nI (n - 1))), (2, .int (bI rec))] [] h2 Q := by
    intro y2 h2 x6 X2 l2 v2 H2 q2
    have m2 := md_m md H2
    have s2 := m2.1.1
    have w2 := sq s2 hq66
    have nn2 := nq m2.1.2 hq66
    have ec := mc_c m2 tL k6 bbN L1
    have c2 : (L - 1 < 6200) = True := eq_true (by omega)
    have go := loop2 (pts N L) 0 (L + 1) y2 h2 tl1 rfl X2 l2 v2 H2 q2
    simp only [lv_args, z_v, z_lg, z_h, z_u, z_u1, z_c, z_ct, z_sk, sbne, lst1_d, ldel, lst2_d, ldel2, z_sw, z_rok, zi, eq_self, List.map_cons, List.map_nil, List.append_nil, List.nil_append, List.cons_append, Int32.reduceLT, Int32.reduceLE, Int32.reduceAdd, Int32.reduceSub, Int32.reduceMul, Int32.reduceToInt, Int32.reduceToNatClampNeg, Int.reduceLT, Int.reduceLE, Int.reduceNeg, true_and, and_true, or_self, or_false, false_or, false_and, and_false, true_or, or_true, if_true, if_false, ne_eq, Classical.not_not, not_true_eq_false, not_false_eq_true, true_implies, false_implies, implies_true, Nat.reduceEqDiff, Nat.reduceAdd, Nat.reduceLeDiff, Nat.reduceSub, reduceCtorEq, reduceIte, b229_89, skM s2, srM s2, w2, nn2, h00, z1]
    refine m_part (k := 1) m2 ht h6 hb h1 (by omega) ?_
    rw [eLL]
    simp only [lv_args, z_v, z_lg, z_h, z_u, z_u1, z_c, z_ct, z_sk, sbne, lst1_d, ldel, lst2_d, ldel2, z_sw, z_rok, zi, eq_self, List.map_cons, List.map_nil, List.append_nil, List.nil_append, List.cons_append, Int32.reduceLT, Int32.reduceLE, Int32.reduceAdd, Int32.reduceSub, Int32.reduceMul, Int32.reduceToInt, Int32.reduceToNatClampNeg, Int.reduceLT, Int.reduceLE, Int.reduceNeg, true_and, and_true, or_self, or_false, false_or, false_and, and_false, true_or, or_true, if_true, if_false, ne_eq, Classical.not_not, not_true_eq_false, not_false_eq_true, true_implies, false_implies, implies_true, Nat.reduceEqDiff, Nat.reduceAdd, Nat.reduceLeDiff, Nat.reduceSub, reduceCtorEq, reduceIte, b229_89, skM s2, srM s2, w2, nn2, h00, Nat.reduceLT]
    simp (disch := omega) only [nI_ti, nI_cl, le0N, ltNN, c2, ec, true_and]
    try simp only [lv_args, z_v, z_lg, z_h, z_u, z_u1, z_c, z_ct, z_sk, sbne, lst1_d, ldel, lst2_d, ldel2, z_sw, z_rok, zi, eq_self, List.map_cons, List.map_nil, List.append_nil, List.nil_append, List.cons_append, Int32.reduceLT, Int32.reduceLE, Int32.reduceAdd, Int32.reduceSub, Int32.reduceMul, Int32.reduceToInt, Int32.reduceToNatClampNeg, Int.reduceLT, Int.reduceLE, Int.reduceNeg, true_and, and_true, or_self, or_false, false_or, false_and, and_false, true_or, or_true, if_true, if_false, ne_eq, Classical.not_not, not_true_eq_false, not_false_eq_true, true_implies, false_implies, implies_true, Nat.reduceEqDiff, Nat.reduceAdd, Nat.reduceLeDiff, Nat.reduceSub, reduceCtorEq, reduceIte, b229_89]
    exact go
  have loop1 : rec = true → ∀ (l : List Nat) (a' : Nat) (yA : MR) (hA' : Hp), TL gg N l a' bb → (∀ c, c ∈ l → c ∈ pts N L) → MX l.length g (L + 1) b yA → (mSg y).length ≤ (mSg yA).length → mLv yA = mLv y → MH N mt q h0 yA hA' → (∀ h', MH N mt q h0 (mSs (mSl y (mLv y)) (mTk (mSg y).length (mBo F ((pts N n).drop 2) (mLt N F rec (pts N L) [] (mBi N (mSg y).length (l.map (fun p => prt N p 0)) yA))))) h' → Q none h') → aWP d 229 43 [(6, .int (dnI (oI l.head?))), (5, .int (nI (mSl y (mLv y)))), (4, .int (nI (mSg y).length)), (3, .ref q), (0, .ref 59), (1, .int (nI (n - 1))), (2, .int (bI rec))] [] hA' Q := by
    intro hrec l
    subst hrec
    have ek0 : kk = 0 := ekk.symm
    induction l with
    | nil =>
      intro a' yA hA' tl hm XA lA vA HA qA
      have go := mid2 yA hA' (-1) (by rw [ek0]; exact XA) lA vA HA qA
      simp only [lv_args, z_v, z_lg, z_h, z_u, z_u1, z_c, z_ct, z_sk, sbne, lst1_d, ldel, lst2_d, ldel2, z_sw, z_rok, zi, eq_self, List.map_cons, List.map_nil, List.append_nil, List.nil_append, List.cons_append, Int32.reduceLT, Int32.reduceLE, Int32.reduceAdd, Int32.reduceSub, Int32.reduceMul, Int32.reduceToInt, Int32.reduceToNatClampNeg, Int.reduceLT, Int.reduceLE, Int.reduceNeg, true_and, and_true, or_self, or_false, false_or, false_and, and_false, true_or, or_true, if_true, if_false, ne_eq, Classical.not_not, not_true_eq_false, not_false_eq_true, true_implies, false_implies, implies_true, Nat.reduceEqDiff, Nat.reduceAdd, Nat.reduceLeDiff, Nat.reduceSub, reduceCtorEq, reduceIte, b229_43, dn_n]
      exact go
    | cons c l ih =>
      intro a' yA hA' tl hm XA lA vA HA qA
      obtain ⟨y1', y2', y3', mm, y4', y5', y6'⟩ := tl_c tl
      have mA := md_m md HA
      have sA := mA.1.1
      have wA := sq sA hq66
      have nnA := nq mA.1.2 hq66
      have ne := dn_m1 (l := l) y2' (by omega : c < 7000)
      obtain ⟨_, _, r3, r4, r5, r6⟩ := pr HA c (hm c (by simp))
      have XA' : MX (l.length + 1) g (L + 1) b yA := XA
      have Xb : MX (l.length + 1) g (L + 1) b (mBs N (prt N c 0) (mSg y).length yA) := mx_bs XA'
      have sgb : mSg (mBs N (prt N c 0) (mSg y).length yA) = mSg yA := by
        unfold mBs
        split <;> rfl
      have lvb : mLv (mBs N (prt N c 0) (mSg y).length yA) = mLv yA := by
        unfold mBs
        split <;> rfl
      have c2 : (c - 1 < 6200) = True := eq_true (by omega)
      simp only [lv_args, z_v, z_lg, z_h, z_u, z_u1, z_c, z_ct, z_sk, sbne, lst1_d, ldel, lst2_d, ldel2, z_sw, z_rok, zi, eq_self, List.map_cons, List.map_nil, List.append_nil, List.nil_append, List.cons_append, Int32.reduceLT, Int32.reduceLE, Int32.reduceAdd, Int32.reduceSub, Int32.reduceMul, Int32.reduceToInt, Int32.reduceToNatClampNeg, Int.reduceLT, Int.reduceLE, Int.reduceNeg, true_and, and_true, or_self, or_false, false_or, false_and, and_false, true_or, or_true, if_true, if_false, ne_eq, Classical.not_not, not_true_eq_false, not_false_eq_true, true_implies, false_implies, implies_true, Nat.reduceEqDiff, Nat.reduceAdd, Nat.reduceLeDiff, Nat.reduceSub, reduceCtorEq, reduceIte, b229_43, ne]
      rw [dn_o y2' (by omega)]
      simp only [lv_args, z_v, z_lg, z_h, z_u, z_u1, z_c, z_ct, z_sk, sbne, lst1_d, ldel, lst2_d, ldel2, z_sw, z_rok, zi, eq_self, List.map_cons, List.map_nil, List.append_nil, List.nil_append, List.cons_append, Int32.reduceLT, Int32.reduceLE, Int32.reduceAdd, Int32.reduceSub, Int32.reduceMul, Int32.reduceToInt, Int32.reduceToNatClampNeg, Int.reduceLT, Int.reduceLE, Int.reduceNeg, true_and, and_true, or_self, or_false, false_or, false_and, and_false, true_or, or_true, if_true, if_false, ne_eq, Classical.not_not, not_true_eq_false, not_false_eq_true, true_implies, false_implies, implies_true, Nat.reduceEqDiff, Nat.reduceAdd, Nat.reduceLeDiff, Nat.reduceSub, reduceCtorEq, reduceIte, b229_49, eb1, z10]
      simp only [lv_args, z_v, z_lg, z_h, z_u, z_u1, z_c, z_ct, z_sk, sbne, lst1_d, ldel, lst2_d, ldel2, z_sw, z_rok, zi, eq_self, List.map_cons, List.map_nil, List.append_nil, List.nil_append, List.cons_append, Int32.reduceLT, Int32.reduceLE, Int32.reduceAdd, Int32.reduceSub, Int32.reduceMul, Int32.reduceToInt, Int32.reduceToNatClampNeg, Int.reduceLT, Int.reduceLE, Int.reduceNeg, true_and, and_true, or_self, or_false, false_or, false_and, and_false, true_or, or_true, if_true, if_false, ne_eq, Classical.not_not, not_true_eq_false, not_false_eq_true, true_implies, false_implies, implies_true, Nat.reduceEqDiff, Nat.reduceAdd, Nat.reduceLeDiff, Nat.reduceSub, reduceCtorEq, reduceIte, b229_53, skM sA, srM sA, wA, nnA, h00]
      simp (disch := omega) only [nI_ti, nI_cl, le0N, ltNN, c2, r3, true_and]
      try simp only [lv_args, z_v, z_lg, z_h, z_u, z_u1, z_c, z_ct, z_sk, sbne, lst1_d, ldel, lst2_d, ldel2, z_sw, z_rok, zi, eq_self, List.map_cons, List.map_nil, List.append_nil, List.nil_append, List.cons_append, Int32.reduceLT, Int32.reduceLE, Int32.reduceAdd, Int32.reduceSub, Int32.reduceMul, Int32.reduceToInt, Int32.reduceToNatClampNeg, Int.reduceLT, Int.reduceLE, Int.reduceNeg, true_and, and_true, or_self, or_false, false_or, false_and, and_false, true_or, or_true, if_true, if_false, ne_eq, Classical.not_not, not_true_eq_false, not_false_eq_true, true_implies, false_implies, implies_true, Nat.reduceEqDiff, Nat.reduceAdd, Nat.reduceLeDiff, Nat.reduceSub, reduceCtorEq, reduceIte, b229_53, skM sA, wA, h00]
      refine sp_binds md HA r4 r5 r6 lA (by omega) (fun hb' Hb => ?_)
      have mb := md_m md Hb
      have sb := mb.1.1
      have wb := sq sb hq66
      have nnb := nq mb.1.2 hq66
      obtain ⟨_, _, r3', _⟩ := pr Hb c (hm c (by simp))
      simp only [lv_args, z_v, z_lg, z_h, z_u, z_u1, z_c, z_ct, z_sk, sbne, lst1_d, ldel, lst2_d, ldel2, z_sw, z_rok, zi, eq_self, List.map_cons, List.map_nil, List.append_nil, List.nil_append, List.cons_append, Int32.reduceLT, Int32.reduceLE, Int32.reduceAdd, Int32.reduceSub, Int32.reduceMul, Int32.reduceToInt, Int32.reduceToNatClampNeg, Int.reduceLT, Int.reduceLE, Int.reduceNeg, true_and, and_true, or_self, or_false, false_or, false_and, and_false, true_or, or_true, if_true, if_false, ne_eq, Classical.not_not, not_true_eq_false, not_false_eq_true, true_implies, false_implies, implies_true, Nat.reduceEqDiff, Nat.reduceAdd, Nat.reduceLeDiff, Nat.reduceSub, reduceCtorEq, reduceIte, b229_53, skM sA, skM sb, srM sb, wA, wb, nnb, h00, Nat.reduceLT]
      simp (disch := omega) only [nI_ti, nI_cl, le0N, ltNN, c2, r3', true_and]
      try simp only [lv_args, z_v, z_lg, z_h, z_u, z_u1, z_c, z_ct, z_sk, sbne, lst1_d, ldel, lst2_d, ldel2, z_sw, z_rok, zi, eq_self, List.map_cons, List.map_nil, List.append_nil, List.nil_append, List.cons_append, Int32.reduceLT, Int32.reduceLE, Int32.reduceAdd, Int32.reduceSub, Int32.reduceMul, Int32.reduceToInt, Int32.reduceToNatClampNeg, Int.reduceLT, Int.reduceLE, Int.reduceNeg, true_and, and_true, or_self, or_false, false_or, false_and, and_false, true_or, or_true, if_true, if_false, ne_eq, Classical.not_not, not_true_eq_false, not_false_eq_true, true_implies, false_implies, implies_true, Nat.reduceEqDiff, Nat.reduceAdd, Nat.reduceLeDiff, Nat.reduceSub, reduceCtorEq, reduceIte, b229_53, skM sb, wb, h00]
      refine sp_sight md Hb Xb.1 (by have := Xb.2.2.2.2.2.2.2.1; omega) r4 r5 r6 rfl (by have := Xb.2.1; omega) (by have := Xb.2.2.2.1; omega) (by have := Xb.2.2.2.2.1 _ (ar_lt Xb.1 (Nat.le_refl _)); omega) (by omega) (fun hc' Hc => ?_)
      have mc := md_m md Hc
      have sc := mc.1.1
      have wc := sq sc hq66
      have nnc := nq mc.1.2 hq66
      have en := (mc.2.2.1.1 c y2' y1').2.2.2.2
      rw [y3'] at en
      have nx := ih mm _ hc' y6' (fun c' hc' => hm c' (List.mem_cons_of_mem _ hc')) (mx_in Xb) (by
        show _ ≤ (mSg (mBs N (prt N c 0) (mSg y).length yA) ++ [_]).length
        rw [List.length_append, sgb]; omega) (by
        show mLv (mBs N (prt N c 0) (mSg y).length yA) = _
        rw [lvb]; exact vA) Hc qA
      simp only [eb1] at nx
      simp only [lv_args, z_v, z_lg, z_h, z_u, z_u1, z_c, z_ct, z_sk, sbne, lst1_d, ldel, lst2_d, ldel2, z_sw, z_rok, zi, eq_self, List.map_cons, List.map_nil, List.append_nil, List.nil_append, List.cons_append, Int32.reduceLT, Int32.reduceLE, Int32.reduceAdd, Int32.reduceSub, Int32.reduceMul, Int32.reduceToInt, Int32.reduceToNatClampNeg, Int.reduceLT, Int.reduceLE, Int.reduceNeg, true_and, and_true, or_self, or_false, false_or, false_and, and_false, true_or, or_true, if_true, if_false, ne_eq, Classical.not_not, not_true_eq_false, not_false_eq_true, true_implies, false_implies, implies_true, Nat.reduceEqDiff, Nat.reduceAdd, Nat.reduceLeDiff, Nat.reduceSub, reduceCtorEq, reduceIte, b229_53, skM sb, skM sc, srM sc, wb, wc, nnc, Nat.reduceLT]
      simp (disch := omega) only [nI_ti, nI_cl, le0N, ltNN, c2, en, true_and]
      try simp only [lv_args, z_v, z_lg, z_h, z_u, z_u1, z_c, z_ct, z_sk, sbne, lst1_d, ldel, lst2_d, ldel2, z_sw, z_rok, zi, eq_self, List.map_cons, List.map_nil, List.append_nil, List.nil_append, List.cons_append, Int32.reduceLT, Int32.reduceLE, Int32.reduceAdd, Int32.reduceSub, Int32.reduceMul, Int32.reduceToInt, Int32.reduceToNatClampNeg, Int.reduceLT, Int.reduceLE, Int.reduceNeg, true_and, and_true, or_self, or_false, false_or, false_and, and_false, true_or, or_true, if_true, if_false, ne_eq, Classical.not_not, not_true_eq_false, not_false_eq_true, true_implies, false_implies, implies_true, Nat.reduceEqDiff, Nat.reduceAdd, Nat.reduceLeDiff, Nat.reduceSub, reduceCtorEq, reduceIte, b229_53]
      exact nx
  -- the beginning
  have H1 := mh_nu (n := n) (nu := nI (mSl y (mLv y))) hq66 H
  have X1 : MX 8 g (n + 1) b (mN1 n (nI (mSl y (mLv y))) y) := mx_of (y := mN1 n (nI (mSl y (mLv y))) y) w (Nat.le_refl _)
  have wq := sq s hq66
  have nn := nq m.1.2 hq66
  have R := mc_R m
  have n110 : hN h 110 = 32 := m.1.2.1.2 (110, 32) (by decide)
  have c3 : (mLv y < 32) = True := eq_true (by omega)
  have c4 : (n - 1 < 6200) = True := eq_true (by omega)
  have c5 : (L - 1 < 6200) = True := eq_true (by omega)
  have mxk : ∀ {k1 k2 : Nat} {yZ : MR} {a1 : Nat}, MX k1 g a1 b yZ → k2 ≤ k1 → MX k2 g a1 b yZ := fun {k1 k2 yZ a1} x hk => by
    obtain ⟨x1, x2, x3, x4, x5, x6, x7, x8, x9⟩ := x
    exact ⟨x1, by omega, x3, by omega, x5, x6, x7, x8, x9⟩
  unfold mLet at hq
  dsimp only at hq
  unfold aEv
  simp only [lv_args, z_v, z_lg, z_h, z_u, z_u1, z_c, z_ct, z_sk, sbne, lst1_d, ldel, lst2_d, ldel2, z_sw, z_rok, zi, eq_self, List.map_cons, List.map_nil, List.append_nil, List.nil_append, List.cons_append, Int32.reduceLT, Int32.reduceLE, Int32.reduceAdd, Int32.reduceSub, Int32.reduceMul, Int32.reduceToInt, Int32.reduceToNatClampNeg, Int.reduceLT, Int.reduceLE, Int.reduceNeg, true_and, and_true, or_self, or_false, false_or, false_and, and_false, true_or, or_true, if_true, if_false, ne_eq, Classical.not_not, not_true_eq_false, not_false_eq_true, true_implies, false_implies, implies_true, Nat.reduceEqDiff, Nat.reduceAdd, Nat.reduceLeDiff, Nat.reduceSub, reduceCtorEq, reduceIte, b229_0, skM s, srM s, R, wq, nn, n110, ms1, ml1, h00, z1]
  simp (disch := omega) only [nI_ti, nI_cl, le0N, ltNN, c3, c4, a110, true_and]
  try simp only [lv_args, z_v, z_lg, z_h, z_u, z_u1, z_c, z_ct, z_sk, sbne, lst1_d, ldel, lst2_d, ldel2, z_sw, z_rok, zi, eq_self, List.map_cons, List.map_nil, List.append_nil, List.nil_append, List.cons_append, Int32.reduceLT, Int32.reduceLE, Int32.reduceAdd, Int32.reduceSub, Int32.reduceMul, Int32.reduceToInt, Int32.reduceToNatClampNeg, Int.reduceLT, Int.reduceLE, Int.reduceNeg, true_and, and_true, or_self, or_false, false_or, false_and, and_false, true_or, or_true, if_true, if_false, ne_eq, Classical.not_not, not_true_eq_false, not_false_eq_true, true_implies, false_implies, implies_true, Nat.reduceEqDiff, Nat.reduceAdd, Nat.reduceLeDiff, Nat.reduceSub, reduceCtorEq, reduceIte, b229_0, skM s, srM s, R, wq, nn, n110, ms1, ml1, h00, z1]
  try simp (disch := omega) only [nI_ti, nI_cl, le0N, ltNN, c3, c4, a110, true_and]
  try simp only [lv_args, z_v, z_lg, z_h, z_u, z_u1, z_c, z_ct, z_sk, sbne, lst1_d, ldel, lst2_d, ldel2, z_sw, z_rok, zi, eq_self, List.map_cons, List.map_nil, List.append_nil, List.nil_append, List.cons_append, Int32.reduceLT, Int32.reduceLE, Int32.reduceAdd, Int32.reduceSub, Int32.reduceMul, Int32.reduceToInt, Int32.reduceToNatClampNeg, Int.reduceLT, Int.reduceLE, Int.reduceNeg, true_and, and_true, or_self, or_false, false_or, false_and, and_false, true_or, or_true, if_true, if_false, ne_eq, Classical.not_not, not_true_eq_false, not_false_eq_true, true_implies, false_implies, implies_true, Nat.reduceEqDiff, Nat.reduceAdd, Nat.reduceLeDiff, Nat.reduceSub, reduceCtorEq, reduceIte, b229_0, skM s, srM s, R, wq, nn, n110, ms1, ml1, h00, z1]
  generalize pA h (q + 7) (upd (hA h (q + 7)) (n - 1) (nI (mSl y (mLv y)))) = hS at *
  have mS := md_m md H1
  have sS := mS.1.1
  have wS := sq sS hq66
  have nnS := nq mS.1.2 hq66
  have ec := mc_c mS tL k6 bbN L1
  refine m_part (k := 1) mS ht h6 hb h1 (by omega) ?_
  rw [eLL]
  simp only [lv_args, z_v, z_lg, z_h, z_u, z_u1, z_c, z_ct, z_sk, sbne, lst1_d, ldel, lst2_d, ldel2, z_sw, z_rok, zi, eq_self, List.map_cons, List.map_nil, List.append_nil, List.nil_append, List.cons_append, Int32.reduceLT, Int32.reduceLE, Int32.reduceAdd, Int32.reduceSub, Int32.reduceMul, Int32.reduceToInt, Int32.reduceToNatClampNeg, Int.reduceLT, Int.reduceLE, Int.reduceNeg, true_and, and_true, or_self, or_false, false_or, false_and, and_false, true_or, or_true, if_true, if_false, ne_eq, Classical.not_not, not_true_eq_false, not_false_eq_true, true_implies, false_implies, implies_true, Nat.reduceEqDiff, Nat.reduceAdd, Nat.reduceLeDiff, Nat.reduceSub, reduceCtorEq, reduceIte, b229_0, skM s, skM sS, srM sS, wq, wS, nnS, h00, Nat.reduceLT]
  simp (disch := omega) only [nI_ti, nI_cl, le0N, ltNN, c5, ec, true_and]
  try simp only [lv_args, z_v, z_lg, z_h, z_u, z_u1, z_c, z_ct, z_sk, sbne, lst1_d, ldel, lst2_d, ldel2, z_sw, z_rok, zi, eq_self, List.map_cons, List.map_nil, List.append_nil, List.nil_append, List.cons_append, Int32.reduceLT, Int32.reduceLE, Int32.reduceAdd, Int32.reduceSub, Int32.reduceMul, Int32.reduceToInt, Int32.reduceToNatClampNeg, Int.reduceLT, Int.reduceLE, Int.reduceNeg, true_and, and_true, or_self, or_false, false_or, false_and, and_false, true_or, or_true, if_true, if_false, ne_eq, Classical.not_not, not_true_eq_false, not_false_eq_true, true_implies, false_implies, implies_true, Nat.reduceEqDiff, Nat.reduceAdd, Nat.reduceLeDiff, Nat.reduceSub, reduceCtorEq, reduceIte, b229_0]
  cases rec with
  | true =>
    have go := loop1 rfl (pts N L) (L + 1) _ hS tl1 (fun _ h => h) (mx_sub (mxk X1 (by omega)) (by omega) (Nat.le_refl _)) (Nat.le_refl _) rfl H1 hq
    simp only [eb1] at go ⊢
    exact go
  | false =>
    have go := fun x => mid2 (mN1 n (nI (mSl y (mLv y))) y) hS x (mx_sub (mxk X1 kkd) (by omega) (Nat.le_refl _)) (Nat.le_refl _) rfl H1 hq
    simp only [eb0] at go ⊢
    simp only [lv_args, z_v, z_lg, z_h, z_u, z_u1, z_c, z_ct, z_sk, sbne, lst1_d, ldel, lst2_d, ldel2, z_sw, z_rok, zi, eq_self, List.map_cons, List.map_nil, List.append_nil, List.nil_append, List.cons_append, Int32.reduceLT, Int32.reduceLE, Int32.reduceAdd, Int32.reduceSub, Int32.reduceMul, Int32.reduceToInt, Int32.reduceToNatClampNeg, Int.reduceLT, Int.reduceLE, Int.reduceNeg, true_and, and_true, or_self, or_false, false_or, false_and, and_false, true_or, or_true, if_true, if_false, ne_eq, Classical.not_not, not_true_eq_false, not_false_eq_true, true_implies, false_implies, implies_true, Nat.reduceEqDiff, Nat.reduceAdd, Nat.reduceLeDiff, Nat.reduceSub, reduceCtorEq, reduceIte, b229_43]
    refine ⟨fun c => go _, fun c => ?_⟩
    simp only [lv_args, z_v, z_lg, z_h, z_u, z_u1, z_c, z_ct, z_sk, sbne, lst1_d, ldel, lst2_d, ldel2, z_sw, z_rok, zi, eq_self, List.map_cons, List.map_nil, List.append_nil, List.nil_append, List.cons_append, Int32.reduceLT, Int32.reduceLE, Int32.reduceAdd, Int32.reduceSub, Int32.reduceMul, Int32.reduceToInt, Int32.reduceToNatClampNeg, Int.reduceLT, Int.reduceLE, Int.reduceNeg, true_and, and_true, or_self, or_false, false_or, false_and, and_false, true_or, or_true, if_true, if_false, ne_eq, Classical.not_not, not_true_eq_false, not_false_eq_true, true_implies, false_implies, implies_true, Nat.reduceEqDiff, Nat.reduceAdd, Nat.reduceLeDiff, Nat.reduceSub, reduceCtorEq, reduceIte, b229_49]
    exact go _
end MLT
