/-! BUILD. The reference: lambda -/
section MLM
variable {h h' h0 : Hp} {Q : Option Value → Hp → Prop} {d n q g a b : Nat} {N : NS} {mt : List Nat} {y : MR} {F : Nat → MR → MR}
theorem sp_mlambda (md : MD N mt q h0) (fb : FBm N mt q h0 g F) (hg : g ≤ 30) (ht : Tr (g + 1) N n b) (h6 : nK N n = 6) (hb : b ≤ N.1) (h1 : 1 ≤ n) (hl : 3 ≤ (pts N n).length) (hpr : arN N (prt N n 1) = true) (w : MW (g + 1) (n + 1) b y) (hla3 : 3 * mLa y + b ≤ 6100 + n) (H : MH N mt q h0 y h) (hd : 4 * g + 53 < d) (hq : ∀ h', MH N mt q h0 (mLam N F n (pts N (prt N n 1)) ((pts N n).drop 2) y) h' → Q none h') : aEv d 228 [.ref 59, .int (nI (n - 1))] h Q := by
  have h00 : 0 < d := by omega
  have m := md_m md H
  have s := m.1.1
  have hq66 := mc_q m
  have hN1 := m.2.2.2.2.2
  obtain ⟨t1, t2, hn⟩ := tl_n ht h6 hb hN1
  have hlen := tl_len t2
  obtain ⟨a6, a8, a5⟩ := arN_2 hpr
  have g1 := prt_get (N := N) (n := n) (k := 1) (by omega)
  have g2 := prt_get (N := N) (n := n) (k := 2) (by omega)
  obtain ⟨x1, x2, x3, m1, x4, x5⟩ := tl_get t2 g1
  obtain ⟨m0', m1', e1', e2', e3', e4', e5', e6', e7', e8'⟩ := big_tr ht h6 (by omega : b < 2000000000) (by omega)
  have lt1 := trl_lt e2'
  have lt2 := trl_lt e4'
  obtain ⟨a0, t3⟩ := tl_drop 2 t2
  have hd2 : ((pts N n).drop 2).head? = (pts N n)[2]? := hd_dr
  have ha0 : n + 3 ≤ a0 ∧ a0 ≤ b := by
    have hne : (pts N n).drop 2 ≠ [] := dr_ne (by omega)
    cases hp : (pts N n).drop 2 with
    | nil => exact absurd hp hne
    | cons v l =>
      rw [hp] at t3 e5'
      obtain ⟨⟨rfl, mm, _, q2, q3, _, _⟩, _, _⟩ := t3
      obtain ⟨r1, _⟩ := e5'
      exact ⟨by omega, by omega⟩
  obtain ⟨w1, w2, w3, w4, w5, w6, w7, w8, w9⟩ := w
  generalize hL : prt N n 1 = L at *
  obtain ⟨gg, eg, tL⟩ : ∃ gg, g = gg + 1 ∧ Tr (gg + 1) N L m1 := by
    cases g with
    | zero => exact x4.elim
    | succ gg => exact ⟨gg, rfl, x4⟩
  obtain ⟨u1, u2, _⟩ := tl_n tL a6 x5 hN1
  have hlenL := tl_len u2
  have eL : dnI (oI ((pts N n)[1]?)) = nI (L - 1) := by rw [g1]; exact dnI_nI x2 (by omega)
  unfold mLam at hq
  dsimp only at hq
  generalize ey1 : (if 120 < mLa y + 1 then mW 6 (nQ N n) y else y) = y1 at hq
  have ey : (y1.1, y1.2.1, y1.2.2.1) = (y.1, y.2.1, y.2.2.1) ∧ mFm y1 = mFm y := by
    rw [← ey1]
    split
    · exact ⟨rfl, rfl⟩
    · exact ⟨rfl, rfl⟩
  have eyl : mLv y1 = mLv y ∧ mSg y1 = mSg y ∧ mLa y1 = mLa y ∧ mAr y1 = mAr y ∧ mSl y1 = mSl y ∧ mLs y1 = mLs y ∧ mFe y1 = mFe y ∧ FI y1 := by
    rw [← ey1]
    split
    · exact ⟨rfl, rfl, rfl, rfl, rfl, rfl, rfl, w1⟩
    · exact ⟨rfl, rfl, rfl, rfl, rfl, rfl, rfl, w1⟩
  -- behind the new lambda: names and body
  have names : ∀ hF, MH N mt q h0 (mNl n (pts N L).length (mN1 n (nI (mLa y + 1)) y1)) hF → aWP d 228 134 [(5, .int (dnI (oI (pts N L).head?))), (4, .int (nI (mSg y).length)), (3, .int (nI (mLa y + 1))), (2, .ref q), (0, .ref 59), (1, .int (nI (n - 1)))] [] hF Q := by
    have X0 : MX (pts N L).length g a0 b (mNl n (pts N L).length (mN1 n (nI (mLa y + 1)) y1)) := by
      have sl : mSl (mNl n (pts N L).length (mN1 n (nI (mLa y + 1)) y1)) (mLv (mNl n (pts N L).length (mN1 n (nI (mLa y + 1)) y1))) = 0 := updn_e
      have fm : mFm (mNl n (pts N L).length (mN1 n (nI (mLa y + 1)) y1)) = mFm y1 := rfl
      have la : mLa (mNl n (pts N L).length (mN1 n (nI (mLa y + 1)) y1)) = mLa y1 + 1 := rfl
      have lv : mLv (mNl n (pts N L).length (mN1 n (nI (mLa y + 1)) y1)) = mLv y1 + 1 := rfl
      have sg : mSg (mNl n (pts N L).length (mN1 n (nI (mLa y + 1)) y1)) = mSg y1 := rfl
      have ey2 := ey.2
      refine ⟨fi_nl (y := mN1 n (nI (mLa y + 1)) y1) (by have := eyl.2.2.2.2.2.2.2; exact this), by rw [sg, eyl.2.1]; omega, by rw [lv, eyl.1]; omega, by rw [sl]; omega, fun M hM => ?_, fun M M1 M2 => ?_, by omega, by rw [la, eyl.2.2.1]; omega, ?_⟩
      · rw [la, eyl.2.2.1] at hM
        show updN (mLs y1) (mLa y1 + 1) 0 M ≤ 250
        by_cases c : M = mLa y1 + 1
        · rw [c, updn_e]; omega
        · rw [updn_n c, eyl.2.2.2.2.2.1]
          rw [eyl.2.2.1] at c
          exact w5 M (by omega)
      · rw [la, eyl.2.2.1] at M2
        show ((if M = mLa y1 + 1 then [] else mFe y1 M) : List SGe).length ≤ 250
        by_cases c : M = mLa y1 + 1
        · rw [if_pos c]; exact Nat.zero_le _
        · rw [if_neg c, eyl.2.2.2.2.2.2.1]
          rw [eyl.2.2.1] at c
          exact w6 M M1 (by omega)
      · show updN (mAr y1) (mLv y1 + 1) (mLa y1 + 1) 0 = 0
        rw [updn_n (by omega), eyl.2.2.2.1]
        exact w9
    -- the end
    have fin : ∀ (yB : MR) (hB : Hp), MX 0 g a0 b yB → (mSg y).length ≤ (mSg yB).length → mLv yB = mLv y + 1 → MH N mt q h0 yB hB → (∀ h', MH N mt q h0 (mLv1 (mTk (mSg y).length (mBo F ((pts N n).drop 2) yB))) h' → Q none h') → aWP d 228 166 [(5, .int (-1)), (4, .int (nI (mSg y).length)), (3, .int (nI (mLa y + 1))), (2, .ref q), (0, .ref 59), (1, .int (nI (n - 1)))] [] hB Q := by
      intro yB hB XB lB vB HB qB
      have mB := md_m md HB
      have sB := mB.1.1
      have wB := sq sB hq66
      have z2 : (2 : Int32) = nI 2 := rfl
      simp only [lv_args, z_v, z_lg, z_h, z_u, z_u1, z_c, z_ct, z_sk, sbne, lst1_d, ldel, lst2_d, ldel2, z_sw, z_rok, zi, eq_self, List.map_cons, List.map_nil, List.append_nil, List.nil_append, List.cons_append, Int32.reduceLT, Int32.reduceLE, Int32.reduceAdd, Int32.reduceSub, Int32.reduceMul, Int32.reduceToInt, Int32.reduceToNatClampNeg, Int.reduceLT, Int.reduceLE, Int.reduceNeg, true_and, and_true, or_self, or_false, false_or, false_and, and_false, true_or, or_true, if_true, if_false, ne_eq, Classical.not_not, not_true_eq_false, not_false_eq_true, true_implies, false_implies, implies_true, Nat.reduceEqDiff, Nat.reduceAdd, Nat.reduceLeDiff, Nat.reduceSub, reduceCtorEq, reduceIte, b228_166, skM sB, wB, h00, z2]
      refine m_part (k := 2) mB ht h6 hb h1 (by omega) ?_
      rw [← hd2]
      simp only [lv_args, z_v, z_lg, z_h, z_u, z_u1, z_c, z_ct, z_sk, sbne, lst1_d, ldel, lst2_d, ldel2, z_sw, z_rok, zi, eq_self, List.map_cons, List.map_nil, List.append_nil, List.nil_append, List.cons_append, Int32.reduceLT, Int32.reduceLE, Int32.reduceAdd, Int32.reduceSub, Int32.reduceMul, Int32.reduceToInt, Int32.reduceToNatClampNeg, Int.reduceLT, Int.reduceLE, Int.reduceNeg, true_and, and_true, or_self, or_false, false_or, false_and, and_false, true_or, or_true, if_true, if_false, ne_eq, Classical.not_not, not_true_eq_false, not_false_eq_true, true_implies, false_implies, implies_true, Nat.reduceEqDiff, Nat.reduceAdd, Nat.reduceLeDiff, Nat.reduceSub, reduceCtorEq, reduceIte, b228_166, skM sB, wB, h00, Nat.reduceLT]
      refine sp_mbodyC md fb (by omega) (by omega) t3 (mx_w XB) HB (fun hC HC => ?_)
      have M1 := bo_m fb.1 ((pts N n).drop 2) a0 b yB (frs_sqn _ _ _ t3.1 (by omega)) (by omega) XB.1.2.2.1
      have mC := md_m md HC
      have sC := mC.1.1
      have wC := sq sC hq66
      have e27 : hI hC 59 27 = nI (mLv y + 1) := by rw [HC.2.2.2.1.1, M1.1.2.1, vB]
      have H2 := mh_tk (c := (mSg y).length) hq66 HC (by rw [M1.1.1]; exact lB)
      have H3 := mh_lv hq66 H2 (by show 1 ≤ mLv (mBo F ((pts N n).drop 2) yB); rw [M1.1.2.1, vB]; omega)
      have e28 : mLv (mTk (mSg y).length (mBo F ((pts N n).drop 2) yB)) - 1 = mLv y := by
        show mLv (mBo F ((pts N n).drop 2) yB) - 1 = mLv y
        rw [M1.1.2.1, vB]; rfl
      rw [e28] at H3
      simp only [lv_args, z_v, z_lg, z_h, z_u, z_u1, z_c, z_ct, z_sk, sbne, lst1_d, ldel, lst2_d, ldel2, z_sw, z_rok, zi, eq_self, List.map_cons, List.map_nil, List.append_nil, List.nil_append, List.cons_append, Int32.reduceLT, Int32.reduceLE, Int32.reduceAdd, Int32.reduceSub, Int32.reduceMul, Int32.reduceToInt, Int32.reduceToNatClampNeg, Int.reduceLT, Int.reduceLE, Int.reduceNeg, true_and, and_true, or_self, or_false, false_or, false_and, and_false, true_or, or_true, if_true, if_false, ne_eq, Classical.not_not, not_true_eq_false, not_false_eq_true, true_implies, false_implies, implies_true, Nat.reduceEqDiff, Nat.reduceAdd, Nat.reduceLeDiff, Nat.reduceSub, reduceCtorEq, reduceIte, b228_166, skM sB, skM sC, wB, wC, Nat.reduceLT, e27, nI_m1]
      exact qB _ H3
    have loop : ∀ (l : List Nat) (a' : Nat) (yA : MR) (hA' : Hp), TL gg N l a' m1 → (∀ c, c ∈ l → nK N c = 5) → MX l.length g a0 b yA → (mSg y).length ≤ (mSg yA).length → mLv yA = mLv y + 1 → MH N mt q h0 yA hA' → (∀ h', MH N mt q h0 (mLv1 (mTk (mSg y).length (mBo F ((pts N n).drop 2) (mBi N (mSg y).length l yA)))) h' → Q none h') → aWP d 228 134 [(5, .int (dnI (oI l.head?))), (4, .int (nI (mSg y).length)), (3, .int (nI (mLa y + 1))), (2, .ref q), (0, .ref 59), (1, .int (nI (n - 1)))] [] hA' Q := by
      intro l
      induction l with
      | nil =>
        intro a' yA hA' tl h5 XA lA vA HA qA
        have go := fin yA hA' XA lA vA HA qA
        simp only [lv_args, z_v, z_lg, z_h, z_u, z_u1, z_c, z_ct, z_sk, sbne, lst1_d, ldel, lst2_d, ldel2, z_sw, z_rok, zi, eq_self, List.map_cons, List.map_nil, List.append_nil, List.nil_append, List.cons_append, Int32.reduceLT, Int32.reduceLE, Int32.reduceAdd, Int32.reduceSub, Int32.reduceMul, Int32.reduceToInt, Int32.reduceToNatClampNeg, Int.reduceLT, Int.reduceLE, Int.reduceNeg, true_and, and_true, or_self, or_false, false_or, false_and, and_false, true_or, or_true, if_true, if_false, ne_eq, Classical.not_not, not_true_eq_false, not_false_eq_true, true_implies, false_implies, implies_true, Nat.reduceEqDiff, Nat.reduceAdd, Nat.reduceLeDiff, Nat.reduceSub, reduceCtorEq, reduceIte, b228_134, dn_n]
        exact go
      | cons c l ih =>
        intro a' yA hA' tl h5 XA lA vA HA qA
        obtain ⟨y1', y2', y3', mm, y4', y5', y6'⟩ := tl_c tl
        have mA := md_m md HA
        have sA := mA.1.1
        have wA := sq sA hq66
        have ne := dn_m1 (l := l) y2' (by omega : c < 7000)
        have XA' : MX (l.length + 1) g a0 b yA := XA
        have Xb : MX (l.length + 1) g a0 b (mBs N c (mSg y).length yA) := mx_bs XA'
        have Xi : MX l.length g a0 b (mIn (nCn N c) (mBs N c (mSg y).length yA)) := mx_in Xb
        have sgb : mSg (mBs N c (mSg y).length yA) = mSg yA := by
          unfold mBs
          split <;> rfl
        have lvb : mLv (mBs N c (mSg y).length yA) = mLv yA := by
          unfold mBs
          split <;> rfl
        simp only [lv_args, z_v, z_lg, z_h, z_u, z_u1, z_c, z_ct, z_sk, sbne, lst1_d, ldel, lst2_d, ldel2, z_sw, z_rok, zi, eq_self, List.map_cons, List.map_nil, List.append_nil, List.nil_append, List.cons_append, Int32.reduceLT, Int32.reduceLE, Int32.reduceAdd, Int32.reduceSub, Int32.reduceMul, Int32.reduceToInt, Int32.reduceToNatClampNeg, Int.reduceLT, Int.reduceLE, Int.reduceNeg, true_and, and_true, or_self, or_false, false_or, false_and, and_false, true_or, or_true, if_true, if_false, ne_eq, Classical.not_not, not_true_eq_false, not_false_eq_true, true_implies, false_implies, implies_true, Nat.reduceEqDiff, Nat.reduceAdd, Nat.reduceLeDiff, Nat.reduceSub, reduceCtorEq, reduceIte, b228_134, ne]
        rw [dn_o y2' (by omega)]
        simp only [lv_args, z_v, z_lg, z_h, z_u, z_u1, z_c, z_ct, z_sk, sbne, lst1_d, ldel, lst2_d, ldel2, z_sw, z_rok, zi, eq_self, List.map_cons, List.map_nil, List.append_nil, List.nil_append, List.cons_append, Int32.reduceLT, Int32.reduceLE, Int32.reduceAdd, Int32.reduceSub, Int32.reduceMul, Int32.reduceToInt, Int32.reduceToNatClampNeg, Int.reduceLT, Int.reduceLE, Int.reduceNeg, true_and, and_true, or_self, or_false, false_or, false_and, and_false, true_or, or_true, if_true, if_false, ne_eq, Classical.not_not, not_true_eq_false, not_false_eq_true, true_implies, false_implies, implies_true, Nat.reduceEqDiff, Nat.reduceAdd, Nat.reduceLeDiff, Nat.reduceSub, reduceCtorEq, reduceIte, b228_140, skM sA, wA, h00]
        refine sp_binds md HA y2' y1' (h5 c (by simp)) lA (by omega) (fun hb' Hb => ?_)
        have mb := md_m md Hb
        have sb := mb.1.1
        have wb := sq sb hq66
        simp only [lv_args, z_v, z_lg, z_h, z_u, z_u1, z_c, z_ct, z_sk, sbne, lst1_d, ldel, lst2_d, ldel2, z_sw, z_rok, zi, eq_self, List.map_cons, List.map_nil, List.append_nil, List.nil_append, List.cons_append, Int32.reduceLT, Int32.reduceLE, Int32.reduceAdd, Int32.reduceSub, Int32.reduceMul, Int32.reduceToInt, Int32.reduceToNatClampNeg, Int.reduceLT, Int.reduceLE, Int.reduceNeg, true_and, and_true, or_self, or_false, false_or, false_and, and_false, true_or, or_true, if_true, if_false, ne_eq, Classical.not_not, not_true_eq_false, not_false_eq_true, true_implies, false_implies, implies_true, Nat.reduceEqDiff, Nat.reduceAdd, Nat.reduceLeDiff, Nat.reduceSub, reduceCtorEq, reduceIte, b228_140, skM sA, skM sb, wA, wb, h00, Nat.reduceLT]
        refine sp_sight md Hb Xb.1 (by have := Xb.2.2.2.2.2.2.2.1; omega) y2' y1' (h5 c (by simp)) rfl (by have := Xb.2.1; omega) (by have := Xb.2.2.2.1; omega) (by have := Xb.2.2.2.2.1 _ (ar_lt Xb.1 (Nat.le_refl _)); omega) (by omega) (fun hc' Hc => ?_)
        have mc := md_m md Hc
        have sc := mc.1.1
        have wc := sq sc hq66
        have nnc := nq mc.1.2 hq66
        have en := (mc.2.2.1.1 c y2' y1').2.2.2.2
        rw [y3'] at en
        have c2 : (c - 1 < 6200) = True := eq_true (by omega)
        have nx := ih mm _ hc' y6' (fun c' hc' => h5 c' (List.mem_cons_of_mem _ hc')) Xi (by
          show _ ≤ (mSg (mBs N c (mSg y).length yA) ++ [_]).length
          rw [List.length_append, sgb]; omega) (by
          show mLv (mBs N c (mSg y).length yA) = _
          rw [lvb]; exact vA) Hc qA
        simp only [lv_args, z_v, z_lg, z_h, z_u, z_u1, z_c, z_ct, z_sk, sbne, lst1_d, ldel, lst2_d, ldel2, z_sw, z_rok, zi, eq_self, List.map_cons, List.map_nil, List.append_nil, List.nil_append, List.cons_append, Int32.reduceLT, Int32.reduceLE, Int32.reduceAdd, Int32.reduceSub, Int32.reduceMul, Int32.reduceToInt, Int32.reduceToNatClampNeg, Int.reduceLT, Int.reduceLE, Int.reduceNeg, true_and, and_true, or_self, or_false, false_or, false_and, and_false, true_or, or_true, if_true, if_false, ne_eq, Classical.not_not, not_true_eq_false, not_false_eq_true, true_implies, false_implies, implies_true, Nat.reduceEqDiff, Nat.reduceAdd, Nat.reduceLeDiff, Nat.reduceSub, reduceCtorEq, reduceIte, b228_140, skM sb, skM sc, srM sc, wb, wc, nnc, Nat.reduceLT]
        simp (disch := omega) only [nI_ti, nI_cl, le0N, ltNN, c2, en, true_and]
        try simp only [lv_args, z_v, z_lg, z_h, z_u, z_u1, z_c, z_ct, z_sk, sbne, lst1_d, ldel, lst2_d, ldel2, z_sw, z_rok, zi, eq_self, List.map_cons, List.map_nil, List.append_nil, List.nil_append, List.cons_append, Int32.reduceLT, Int32.reduceLE, Int32.reduceAdd, Int32.reduceSub, Int32.reduceMul, Int32.reduceToInt, Int32.reduceToNatClampNeg, Int.reduceLT, Int.reduceLE, Int.reduceNeg, true_and, and_true, or_self, or_false, false_or, false_and, and_false, true_or, or_true, if_true, if_false, ne_eq, Classical.not_not, not_true_eq_false, not_false_eq_true, true_implies, false_implies, implies_true, Nat.reduceEqDiff, Nat.reduceAdd, Nat.reduceLeDiff, Nat.reduceSub, reduceCtorEq, reduceIte, b228_140]
        exact nx
    intro hF HF
    exact loop (pts N L) (L + 1) _ hF u2 a5 X0 (by show _ ≤ (mSg y1).length; rw [eyl.2.1]; exact Nat.le_refl _) (by show mLv y1 + 1 = _; rw [eyl.1]) HF hq
  -- the lambda's own rows
  obtain ⟨pp1, pp2⟩ := md_p md H h1 hn
  obtain ⟨ml1, ml2, ml3⟩ := H.2.2.2.1
  obtain ⟨ms1, ms2, ms3⟩ := H.2.2.1
  have mg1 := H.2.2.2.2.1.1
  have d1 : (n - 1 < 6200) = True := eq_true (by omega)
  have d2 : (mLa y + 1 < 3000) = True := eq_true (by omega)
  have d3 : (mLv y + 1 < 32) = True := eq_true (by omega)
  have d4 : (L - 1 < 6200) = True := eq_true (by omega)
  have z120 : (120 : Int32) = nI 120 := rfl
  have z1 : (1 : Int32) = nI 1 := rfl
  have nn := nq m.1.2 hq66
  have n109 : hN h 109 = 32 := m.1.2.1.2 (109, 32) (by decide)
  have n110 : hN h 110 = 32 := m.1.2.1.2 (110, 32) (by decide)
  rcases hq66 with rfl | rfl
  · have n7 : hN h 73 = 6200 := nn.2.2.2.2.2.2.1
    have n3 : hN h 69 = 6200 := nn.2.2.1
    have n4 : hN h 70 = 6200 := nn.2.2.2.1
    have n14 : hN h 80 = 3000 := nn.2.2.2.2.2.2.2.2.2.2.2.2.2.1
    have n15 : hN h 81 = 3000 := nn.2.2.2.2.2.2.2.2.2.2.2.2.2.2.1
    have n16 : hN h 82 = 3000 := nn.2.2.2.2.2.2.2.2.2.2.2.2.2.2.2.1
    have n17 : hN h 83 = 3000 := nn.2.2.2.2.2.2.2.2.2.2.2.2.2.2.2.2.1
    have mg1 : hI h 66 5 = nI (mLa y) := mg1
    have R := mc_R m
    have at36 : ∀ hW, KYf 66 h0 hW → (hI hW 66 5 = nI (mLa y + 1) ∧ hI hW 59 27 = nI (mLv y) ∧ hI hW 59 23 = nI (mSg y).length) → hA hW = hA h → hN hW = hN h → MWx y1 hW → aWP d 228 36 [(2, .ref 66), (0, .ref 59), (1, .int (nI (n - 1)))] [] hW Q := by
      intro hW ky ⟨i5, i27, i23⟩ hAe hNe mw
      have mW := mc_k ky md.1
      have sW := mW.1.1
      have k2 : KYf 66 h0 (pA (pA hW 73 (upd (hA hW 73) (n - 1) (nI (mLa y + 1)))) 80 (upd (hA hW 80) (mLa y + 1) (nI (n - 1)))) := ky_A (ky_A ky (by unfold YA; omega)) (by unfold YA; omega)
      have m2 := mc_k k2 md.1
      have s2 := m2.1.1
      simp only [lv_args, z_v, z_lg, z_h, z_u, z_u1, z_c, z_ct, z_sk, sbne, lst1_d, ldel, lst2_d, ldel2, z_sw, z_rok, zi, eq_self, List.map_cons, List.map_nil, List.append_nil, List.nil_append, List.cons_append, Int32.reduceLT, Int32.reduceLE, Int32.reduceAdd, Int32.reduceSub, Int32.reduceMul, Int32.reduceToInt, Int32.reduceToNatClampNeg, Int.reduceLT, Int.reduceLE, Int.reduceNeg, true_and, and_true, or_self, or_false, false_or, false_and, and_false, true_or, or_true, if_true, if_false, ne_eq, Classical.not_not, not_true_eq_false, not_false_eq_true, true_implies, false_implies, implies_true, Nat.reduceEqDiff, Nat.reduceAdd, Nat.reduceLeDiff, Nat.reduceSub, reduceCtorEq, reduceIte, b228_36, skM sW, srM sW, hNe, n7, n14, n15, i5, h00, z1]
      simp (disch := omega) only [nI_ti, nI_cl, le0N, ltNN, d1, d2, true_and]
      try simp only [lv_args, z_v, z_lg, z_h, z_u, z_u1, z_c, z_ct, z_sk, sbne, lst1_d, ldel, lst2_d, ldel2, z_sw, z_rok, zi, eq_self, List.map_cons, List.map_nil, List.append_nil, List.nil_append, List.cons_append, Int32.reduceLT, Int32.reduceLE, Int32.reduceAdd, Int32.reduceSub, Int32.reduceMul, Int32.reduceToInt, Int32.reduceToNatClampNeg, Int.reduceLT, Int.reduceLE, Int.reduceNeg, true_and, and_true, or_self, or_false, false_or, false_and, and_false, true_or, or_true, if_true, if_false, ne_eq, Classical.not_not, not_true_eq_false, not_false_eq_true, true_implies, false_implies, implies_true, Nat.reduceEqDiff, Nat.reduceAdd, Nat.reduceLeDiff, Nat.reduceSub, reduceCtorEq, reduceIte, b228_36, skM sW, srM sW, hNe, n7, n14, n15, i5, h00, z1]
      refine m_part (k := 1) m2 ht h6 hb h1 (by omega) ?_
      rw [eL]
      simp only [lv_args, z_v, z_lg, z_h, z_u, z_u1, z_c, z_ct, z_sk, sbne, lst1_d, ldel, lst2_d, ldel2, z_sw, z_rok, zi, eq_self, List.map_cons, List.map_nil, List.append_nil, List.nil_append, List.cons_append, Int32.reduceLT, Int32.reduceLE, Int32.reduceAdd, Int32.reduceSub, Int32.reduceMul, Int32.reduceToInt, Int32.reduceToNatClampNeg, Int.reduceLT, Int.reduceLE, Int.reduceNeg, true_and, and_true, or_self, or_false, false_or, false_and, and_false, true_or, or_true, if_true, if_false, ne_eq, Classical.not_not, not_true_eq_false, not_false_eq_true, true_implies, false_implies, implies_true, Nat.reduceEqDiff, Nat.reduceAdd, Nat.reduceLeDiff, Nat.reduceSub, reduceCtorEq, reduceIte, b228_36, skM sW, skM s2, h00, Nat.reduceLT]
      refine m_parts m2 tL a6 x5 x2 ?_
      have k3 : KYf 66 h0 (pA (pA (pI (pA (pA (pA (pA (pA hW 73 (upd (hA hW 73) (n - 1) (nI (mLa y + 1)))) 80 (upd (hA hW 80) (mLa y + 1) (nI (n - 1)))) 81 (upd (hA hW 81) (mLa y + 1) (nI (pts N L).length))) 83 (upd (hA hW 83) (mLa y + 1) 0)) 82 (upd (hA hW 82) (mLa y + 1) 0)) 59 27 (nI (mLv y + 1))) 109 (upd (hA hW 109) (mLv y + 1) (nI (mLa y + 1)))) 110 (upd (hA hW 110) (mLv y + 1) 0)) := ky_A (ky_A (ky_I (ky_A (ky_A (ky_A k2 (by unfold YA; omega)) (by unfold YA; omega)) (by unfold YA; omega)) (by unfold YI; omega)) (by unfold YA; omega)) (by unfold YA; omega)
      have m3 := mc_k k3 md.1
      have s3 := m3.1.1
      have H3 := mh_nl (k := (pts N L).length) (n := n) (y1 := y1) H (by omega) w1 (by omega) ey.1 k3 mw ⟨⟨i5, rfl, by show hI hW 59 23 = _; rw [i23, ms1]⟩, by show hA hW 72 = _; rw [hAe], by show upd (hA hW 73) _ _ = _; rw [hAe], by show upd (hA hW 80) _ _ = _; rw [hAe], by show upd (hA hW 81) _ _ = _; rw [hAe], by show upd (hA hW 82) _ _ = _; rw [hAe], by show upd (hA hW 83) _ _ = _; rw [hAe], by show hA hW 84 = _; rw [hAe], by show hA hW 85 = _; rw [hAe], ⟨by show hA hW 106 = _; rw [hAe], by show hA hW 107 = _; rw [hAe], by show hA hW 108 = _; rw [hAe], by show hA hW 111 = _; rw [hAe]⟩, by show upd (hA hW 109) _ _ = _; rw [hAe], by show upd (hA hW 110) _ _ = _; rw [hAe]⟩
      have ec := mc_c m3 tL a6 x5 x2
      have n4F : hN (pA (pA (pI (pA (pA (pA (pA (pA hW 73 (upd (hA hW 73) (n - 1) (nI (mLa y + 1)))) 80 (upd (hA hW 80) (mLa y + 1) (nI (n - 1)))) 81 (upd (hA hW 81) (mLa y + 1) (nI (pts N L).length))) 83 (upd (hA hW 83) (mLa y + 1) 0)) 82 (upd (hA hW 82) (mLa y + 1) 0)) 59 27 (nI (mLv y + 1))) 109 (upd (hA hW 109) (mLv y + 1) (nI (mLa y + 1)))) 110 (upd (hA hW 110) (mLv y + 1) 0)) 70 = 6200 := by
        show hN hW 70 = 6200
        rw [hNe]; exact n4
      have go := names _ H3
      simp only [lv_args, z_v, z_lg, z_h, z_u, z_u1, z_c, z_ct, z_sk, sbne, lst1_d, ldel, lst2_d, ldel2, z_sw, z_rok, zi, eq_self, List.map_cons, List.map_nil, List.append_nil, List.nil_append, List.cons_append, Int32.reduceLT, Int32.reduceLE, Int32.reduceAdd, Int32.reduceSub, Int32.reduceMul, Int32.reduceToInt, Int32.reduceToNatClampNeg, Int.reduceLT, Int.reduceLE, Int.reduceNeg, true_and, and_true, or_self, or_false, false_or, false_and, and_false, true_or, or_true, if_true, if_false, ne_eq, Classical.not_not, not_true_eq_false, not_false_eq_true, true_implies, false_implies, implies_true, Nat.reduceEqDiff, Nat.reduceAdd, Nat.reduceLeDiff, Nat.reduceSub, reduceCtorEq, reduceIte, b228_36, skM sW, skM s2, srM s2, h00, Nat.reduceLT, hNe, n15, n16, n17, n109, n110, i27, i23, nI_s]
      simp (disch := omega) only [nI_ti, nI_cl, le0N, ltNN, d2, d3, true_and]
      try simp only [lv_args, z_v, z_lg, z_h, z_u, z_u1, z_c, z_ct, z_sk, sbne, lst1_d, ldel, lst2_d, ldel2, z_sw, z_rok, zi, eq_self, List.map_cons, List.map_nil, List.append_nil, List.nil_append, List.cons_append, Int32.reduceLT, Int32.reduceLE, Int32.reduceAdd, Int32.reduceSub, Int32.reduceMul, Int32.reduceToInt, Int32.reduceToNatClampNeg, Int.reduceLT, Int.reduceLE, Int.reduceNeg, true_and, and_true, or_self, or_false, false_or, false_and, and_false, true_or, or_true, if_true, if_false, ne_eq, Classical.not_not, not_true_eq_false, not_false_eq_true, true_implies, false_implies, implies_true, Nat.reduceEqDiff, Nat.reduceAdd, Nat.reduceLeDiff, Nat.reduceSub, reduceCtorEq, reduceIte, b228_36, skM sW, skM s2, srM s2, h00, Nat.reduceLT, hNe, n15, n16, n17, n109, n110, i27, i23, nI_s, z1]
      generalize (pA (pA (pI (pA (pA (pA (pA (pA hW 73 (upd (hA hW 73) (n - 1) (nI (mLa y + 1)))) 80 (upd (hA hW 80) (mLa y + 1) (nI (n - 1)))) 81 (upd (hA hW 81) (mLa y + 1) (nI (pts N L).length))) 83 (upd (hA hW 83) (mLa y + 1) 0)) 82 (upd (hA hW 82) (mLa y + 1) 0)) 59 27 (nI (mLv y + 1))) 109 (upd (hA hW 109) (mLv y + 1) (nI (mLa y + 1)))) 110 (upd (hA hW 110) (mLv y + 1) 0)) = hF at *
      have ec : hA hF 70 (L - 1) = dnI (oI (pts N L).head?) := ec
      refine m_part (k := 1) m3 ht h6 hb h1 (by omega) ?_
      rw [eL]
      simp only [lv_args, z_v, z_lg, z_h, z_u, z_u1, z_c, z_ct, z_sk, sbne, lst1_d, ldel, lst2_d, ldel2, z_sw, z_rok, zi, eq_self, List.map_cons, List.map_nil, List.append_nil, List.nil_append, List.cons_append, Int32.reduceLT, Int32.reduceLE, Int32.reduceAdd, Int32.reduceSub, Int32.reduceMul, Int32.reduceToInt, Int32.reduceToNatClampNeg, Int.reduceLT, Int.reduceLE, Int.reduceNeg, true_and, and_true, or_self, or_false, false_or, false_and, and_false, true_or, or_true, if_true, if_false, ne_eq, Classical.not_not, not_true_eq_false, not_false_eq_true, true_implies, false_implies, implies_true, Nat.reduceEqDiff, Nat.reduceAdd, Nat.reduceLeDiff, Nat.reduceSub, reduceCtorEq, reduceIte, b228_36, skM s3, srM s3, h00, Nat.reduceLT, n4F]
      simp (disch := omega) only [nI_ti, nI_cl, le0N, ltNN, d4, ec, true_and]
      try simp only [lv_args, z_v, z_lg, z_h, z_u, z_u1, z_c, z_ct, z_sk, sbne, lst1_d, ldel, lst2_d, ldel2, z_sw, z_rok, zi, eq_self, List.map_cons, List.map_nil, List.append_nil, List.nil_append, List.cons_append, Int32.reduceLT, Int32.reduceLE, Int32.reduceAdd, Int32.reduceSub, Int32.reduceMul, Int32.reduceToInt, Int32.reduceToNatClampNeg, Int.reduceLT, Int.reduceLE, Int.reduceNeg, true_and, and_true, or_self, or_false, false_or, false_and, and_false, true_or, or_true, if_true, if_false, ne_eq, Classical.not_not, not_true_eq_false, not_false_eq_true, true_implies, false_implies, implies_true, Nat.reduceEqDiff, Nat.reduceAdd, Nat.reduceLeDiff, Nat.reduceSub, reduceCtorEq, reduceIte, b228_36]
      exact go
    have ky5 : KYf 66 h0 (pI h 66 5 (nI (mLa y + 1))) := ky_I H.1 (by unfold YI; omega)
    have s5 : Sk (pI h 66 5 (nI (mLa y + 1))) := sk_u1 s
    have mwH := H.2.2.2.2.2
    have mw5 : MWx y (pI h 66 5 (nI (mLa y + 1))) := mwH
    unfold aEv
    simp only [lv_args, z_v, z_lg, z_h, z_u, z_u1, z_c, z_ct, z_sk, sbne, lst1_d, ldel, lst2_d, ldel2, z_sw, z_rok, zi, eq_self, List.map_cons, List.map_nil, List.append_nil, List.nil_append, List.cons_append, Int32.reduceLT, Int32.reduceLE, Int32.reduceAdd, Int32.reduceSub, Int32.reduceMul, Int32.reduceToInt, Int32.reduceToNatClampNeg, Int.reduceLT, Int.reduceLE, Int.reduceNeg, true_and, and_true, or_self, or_false, false_or, false_and, and_false, true_or, or_true, if_true, if_false, ne_eq, Classical.not_not, not_true_eq_false, not_false_eq_true, true_implies, false_implies, implies_true, Nat.reduceEqDiff, Nat.reduceAdd, Nat.reduceLeDiff, Nat.reduceSub, reduceCtorEq, reduceIte, b228_0, skM s, srM s, R, mg1, nI_s, z120]
    simp (disch := omega) only [nI_leN]
    refine ⟨fun c => ?_, fun c => ?_⟩
    · rw [if_neg (by omega)] at ey1
      subst ey1
      exact at36 _ ky5 ⟨rfl, ml1, ms1⟩ rfl rfl mw5
    · rw [if_pos (by omega)] at ey1
      have pp1 : hA h 69 (n - 1) = nI (nQ N n) := pp1
      simp only [lv_args, z_v, z_lg, z_h, z_u, z_u1, z_c, z_ct, z_sk, sbne, lst1_d, ldel, lst2_d, ldel2, z_sw, z_rok, zi, eq_self, List.map_cons, List.map_nil, List.append_nil, List.nil_append, List.cons_append, Int32.reduceLT, Int32.reduceLE, Int32.reduceAdd, Int32.reduceSub, Int32.reduceMul, Int32.reduceToInt, Int32.reduceToNatClampNeg, Int.reduceLT, Int.reduceLE, Int.reduceNeg, true_and, and_true, or_self, or_false, false_or, false_and, and_false, true_or, or_true, if_true, if_false, ne_eq, Classical.not_not, not_true_eq_false, not_false_eq_true, true_implies, false_implies, implies_true, Nat.reduceEqDiff, Nat.reduceAdd, Nat.reduceLeDiff, Nat.reduceSub, reduceCtorEq, reduceIte, b228_24, skM s5, srM s5, h00, n3]
      simp (disch := omega) only [nI_ti, nI_cl, le0N, ltNN, d1, pp1, true_and]
      try simp only [lv_args, z_v, z_lg, z_h, z_u, z_u1, z_c, z_ct, z_sk, sbne, lst1_d, ldel, lst2_d, ldel2, z_sw, z_rok, zi, eq_self, List.map_cons, List.map_nil, List.append_nil, List.nil_append, List.cons_append, Int32.reduceLT, Int32.reduceLE, Int32.reduceAdd, Int32.reduceSub, Int32.reduceMul, Int32.reduceToInt, Int32.reduceToNatClampNeg, Int.reduceLT, Int.reduceLE, Int.reduceNeg, true_and, and_true, or_self, or_false, false_or, false_and, and_false, true_or, or_true, if_true, if_false, ne_eq, Classical.not_not, not_true_eq_false, not_false_eq_true, true_implies, false_implies, implies_true, Nat.reduceEqDiff, Nat.reduceAdd, Nat.reduceLeDiff, Nat.reduceSub, reduceCtorEq, reduceIte, b228_24, skM s5, h00]
      have ew : mWr y1 = wMn (mWr y) 6 (nQ N n) := by rw [← ey1]; rfl
      have ef : mFm y1 = mFm y := ey.2
      refine sp_wr1 (y := y) (k := 6) (p := nQ N n) s5 mw5 rfl rfl (by decide) pp2 (fun e => ?_) (fun e => ?_)
      · have go := at36 _ ky5 ⟨rfl, ml1, ms1⟩ rfl rfl (by
          obtain ⟨v1, v2, v3⟩ := mw5
          exact ⟨by rw [ef]; exact v1, fun c => v2 (by rw [← e, ← ew]; exact c), fun k p c => v3 k p (by rw [← e, ← ew]; exact c)⟩)
        simp only [lv_args, z_v, z_lg, z_h, z_u, z_u1, z_c, z_ct, z_sk, sbne, lst1_d, ldel, lst2_d, ldel2, z_sw, z_rok, zi, eq_self, List.map_cons, List.map_nil, List.append_nil, List.nil_append, List.cons_append, Int32.reduceLT, Int32.reduceLE, Int32.reduceAdd, Int32.reduceSub, Int32.reduceMul, Int32.reduceToInt, Int32.reduceToNatClampNeg, Int.reduceLT, Int.reduceLE, Int.reduceNeg, true_and, and_true, or_self, or_false, false_or, false_and, and_false, true_or, or_true, if_true, if_false, ne_eq, Classical.not_not, not_true_eq_false, not_false_eq_true, true_implies, false_implies, implies_true, Nat.reduceEqDiff, Nat.reduceAdd, Nat.reduceLeDiff, Nat.reduceSub, reduceCtorEq, reduceIte, b228_24, skM s5, Nat.reduceLT]
        exact go
      · have s7 : Sk (pI (pI (pI h 66 5 (nI (mLa y + 1))) 59 15 (nI 6)) 59 16 (nI (nQ N n))) := sk_u1 (sk_u1 s5)
        have go := at36 (pI (pI (pI h 66 5 (nI (mLa y + 1))) 59 15 (nI 6)) 59 16 (nI (nQ N n))) (ky_I (ky_I ky5 (by unfold YI; omega)) (by unfold YI; omega)) ⟨rfl, ml1, ms1⟩ rfl rfl (by
          obtain ⟨v1, v2, v3⟩ := mw5
          refine ⟨by rw [ef]; exact v1, fun c => ?_, fun k p c => ?_⟩
          · rw [ew, e] at c
            cases c
          · rw [ew, e] at c
            injection c with c
            injection c with c1 c2
            subst c1
            subst c2
            exact ⟨rfl, rfl, by decide, by decide, pp2⟩)
        simp only [lv_args, z_v, z_lg, z_h, z_u, z_u1, z_c, z_ct, z_sk, sbne, lst1_d, ldel, lst2_d, ldel2, z_sw, z_rok, zi, eq_self, List.map_cons, List.map_nil, List.append_nil, List.nil_append, List.cons_append, Int32.reduceLT, Int32.reduceLE, Int32.reduceAdd, Int32.reduceSub, Int32.reduceMul, Int32.reduceToInt, Int32.reduceToNatClampNeg, Int.reduceLT, Int.reduceLE, Int.reduceNeg, true_and, and_true, or_self, or_false, false_or, false_and, and_false, true_or, or_true, if_true, if_false, ne_eq, Classical.not_not, not_true_eq_false, not_false_eq_true, true_implies, false_implies, implies_true, Nat.reduceEqDiff, Nat.reduceAdd, Nat.reduceLeDiff, Nat.reduceSub, reduceCtorEq, reduceIte, b228_24, skM s5, skM s7, Nat.reduceLT]
        exact go
  · have n7 : hN h 93 = 6200 := nn.2.2.2.2.2.2.1
    have n3 : hN h 89 = 6200 := nn.2.2.1
    have n4 : hN h 90 = 6200 := nn.2.2.2.1
    have n14 : hN h 100 = 3000 := nn.2.2.2.2.2.2.2.2.2.2.2.2.2.1
    have n15 : hN h 101 = 3000 := nn.2.2.2.2.2.2.2.2.2.2.2.2.2.2.1
    have n16 : hN h 102 = 3000 := nn.2.2.2.2.2.2.2.2.2.2.2.2.2.2.2.1
    have n17 : hN h 103 = 3000 := nn.2.2.2.2.2.2.2.2.2.2.2.2.2.2.2.2.1
    have mg1 : hI h 86 5 = nI (mLa y) := mg1
    have R := mc_R m
    have at36 : ∀ hW, KYf 86 h0 hW → (hI hW 86 5 = nI (mLa y + 1) ∧ hI hW 59 27 = nI (mLv y) ∧ hI hW 59 23 = nI (mSg y).length) → hA hW = hA h → hN hW = hN h → MWx y1 hW → aWP d 228 36 [(2, .ref 86), (0, .ref 59), (1, .int (nI (n - 1)))] [] hW Q := by
      intro hW ky ⟨i5, i27, i23⟩ hAe hNe mw
      have mW := mc_k ky md.1
      have sW := mW.1.1
      have k2 : KYf 86 h0 (pA (pA hW 93 (upd (hA hW 93) (n - 1) (nI (mLa y + 1)))) 100 (upd (hA hW 100) (mLa y + 1) (nI (n - 1)))) := ky_A (ky_A ky (by unfold YA; omega)) (by unfold YA; omega)
      have m2 := mc_k k2 md.1
      have s2 := m2.1.1
      simp only [lv_args, z_v, z_lg, z_h, z_u, z_u1, z_c, z_ct, z_sk, sbne, lst1_d, ldel, lst2_d, ldel2, z_sw, z_rok, zi, eq_self, List.map_cons, List.map_nil, List.append_nil, List.nil_append, List.cons_append, Int32.reduceLT, Int32.reduceLE, Int32.reduceAdd, Int32.reduceSub, Int32.reduceMul, Int32.reduceToInt, Int32.reduceToNatClampNeg, Int.reduceLT, Int.reduceLE, Int.reduceNeg, true_and, and_true, or_self, or_false, false_or, false_and, and_false, true_or, or_true, if_true, if_false, ne_eq, Classical.not_not, not_true_eq_false, not_false_eq_true, true_implies, false_implies, implies_true, Nat.reduceEqDiff, Nat.reduceAdd, Nat.reduceLeDiff, Nat.reduceSub, reduceCtorEq, reduceIte, b228_36, skM sW, srM sW, hNe, n7, n14, n15, i5, h00, z1]
      simp (disch := omega) only [nI_ti, nI_cl, le0N, ltNN, d1, d2, true_and]
      try simp only [lv_args, z_v, z_lg, z_h, z_u, z_u1, z_c, z_ct, z_sk, sbne, lst1_d, ldel, lst2_d, ldel2, z_sw, z_rok, zi, eq_self, List.map_cons, List.map_nil, List.append_nil, List.nil_append, List.cons_append, Int32.reduceLT, Int32.reduceLE, Int32.reduceAdd, Int32.reduceSub, Int32.reduceMul, Int32.reduceToInt, Int32.reduceToNatClampNeg, Int.reduceLT, Int.reduceLE, Int.reduceNeg, true_and, and_true, or_self, or_false, false_or, false_and, and_false, true_or, or_true, if_true, if_false, ne_eq, Classical.not_not, not_true_eq_false, not_false_eq_true, true_implies, false_implies, implies_true, Nat.reduceEqDiff, Nat.reduceAdd, Nat.reduceLeDiff, Nat.reduceSub, reduceCtorEq, reduceIte, b228_36, skM sW, srM sW, hNe, n7, n14, n15, i5, h00, z1]
      refine m_part (k := 1) m2 ht h6 hb h1 (by omega) ?_
      rw [eL]
      simp only [lv_args, z_v, z_lg, z_h, z_u, z_u1, z_c, z_ct, z_sk, sbne, lst1_d, ldel, lst2_d, ldel2, z_sw, z_rok, zi, eq_self, List.map_cons, List.map_nil, List.append_nil, List.nil_append, List.cons_append, Int32.reduceLT, Int32.reduceLE, Int32.reduceAdd, Int32.reduceSub, Int32.reduceMul, Int32.reduceToInt, Int32.reduceToNatClampNeg, Int.reduceLT, Int.reduceLE, Int.reduceNeg, true_and, and_true, or_self, or_false, false_or, false_and, and_false, true_or, or_true, if_true, if_false, ne_eq, Classical.not_not, not_true_eq_false, not_false_eq_true, true_implies, false_implies, implies_true, Nat.reduceEqDiff, Nat.reduceAdd, Nat.reduceLeDiff, Nat.reduceSub, reduceCtorEq, reduceIte, b228_36, skM sW, skM s2, h00, Nat.reduceLT]
      refine m_parts m2 tL a6 x5 x2 ?_
      have k3 : KYf 86 h0 (pA (pA (pI (pA (pA (pA (pA (pA hW 93 (upd (hA hW 93) (n - 1) (nI (mLa y + 1)))) 100 (upd (hA hW 100) (mLa y + 1) (nI (n - 1)))) 101 (upd (hA hW 101) (mLa y + 1) (nI (pts N L).length))) 103 (upd (hA hW 103) (mLa y + 1) 0)) 102 (upd (hA hW 102) (mLa y + 1) 0)) 59 27 (nI (mLv y + 1))) 109 (upd (hA hW 109) (mLv y + 1) (nI (mLa y + 1)))) 110 (upd (hA hW 110) (mLv y + 1) 0)) := ky_A (ky_A (ky_I (ky_A (ky_A (ky_A k2 (by unfold YA; omega)) (by unfold YA; omega)) (by unfold YA; omega)) (by unfold YI; omega)) (by unfold YA; omega)) (by unfold YA; omega)
      have m3 := mc_k k3 md.1
      have s3 := m3.1.1
      have H3 := mh_nl (k := (pts N L).length) (n := n) (y1 := y1) H (by omega) w1 (by omega) ey.1 k3 mw ⟨⟨i5, rfl, by show hI hW 59 23 = _; rw [i23, ms1]⟩, by show hA hW 92 = _; rw [hAe], by show upd (hA hW 93) _ _ = _; rw [hAe], by show upd (hA hW 100) _ _ = _; rw [hAe], by show upd (hA hW 101) _ _ = _; rw [hAe], by show upd (hA hW 102) _ _ = _; rw [hAe], by show upd (hA hW 103) _ _ = _; rw [hAe], by show hA hW 104 = _; rw [hAe], by show hA hW 105 = _; rw [hAe], ⟨by show hA hW 106 = _; rw [hAe], by show hA hW 107 = _; rw [hAe], by show hA hW 108 = _; rw [hAe], by show hA hW 111 = _; rw [hAe]⟩, by show upd (hA hW 109) _ _ = _; rw [hAe], by show upd (hA hW 110) _ _ = _; rw [hAe]⟩
      have ec := mc_c m3 tL a6 x5 x2
      have n4F : hN (pA (pA (pI (pA (pA (pA (pA (pA hW 93 (upd (hA hW 93) (n - 1) (nI (mLa y + 1)))) 100 (upd (hA hW 100) (mLa y + 1) (nI (n - 1)))) 101 (upd (hA hW 101) (mLa y + 1) (nI (pts N L).length))) 103 (upd (hA hW 103) (mLa y + 1) 0)) 102 (upd (hA hW 102) (mLa y + 1) 0)) 59 27 (nI (mLv y + 1))) 109 (upd (hA hW 109) (mLv y + 1) (nI (mLa y + 1)))) 110 (upd (hA hW 110) (mLv y + 1) 0)) 90 = 6200 := by
        show hN hW 90 = 6200
        rw [hNe]; exact n4
      have go := names _ H3
      simp only [lv_args, z_v, z_lg, z_h, z_u, z_u1, z_c, z_ct, z_sk, sbne, lst1_d, ldel, lst2_d, ldel2, z_sw, z_rok, zi, eq_self, List.map_cons, List.map_nil, List.append_nil, List.nil_append, List.cons_append, Int32.reduceLT, Int32.reduceLE, Int32.reduceAdd, Int32.reduceSub, Int32.reduceMul, Int32.reduceToInt, Int32.reduceToNatClampNeg, Int.reduceLT, Int.reduceLE, Int.reduceNeg, true_and, and_true, or_self, or_false, false_or, false_and, and_false, true_or, or_true, if_true, if_false, ne_eq, Classical.not_not, not_true_eq_false, not_false_eq_true, true_implies, false_implies, implies_true, Nat.reduceEqDiff, Nat.reduceAdd, Nat.reduceLeDiff, Nat.reduceSub, reduceCtorEq, reduceIte, b228_36, skM sW, skM s2, srM s2, h00, Nat.reduceLT, hNe, n15, n16, n17, n109, n110, i27, i23, nI_s]
      simp (disch := omega) only [nI_ti, nI_cl, le0N, ltNN, d2, d3, true_and]
      try simp only [lv_args, z_v, z_lg, z_h, z_u, z_u1, z_c, z_ct, z_sk, sbne, lst1_d, ldel, lst2_d, ldel2, z_sw, z_rok, zi, eq_self, List.map_cons, List.map_nil, List.append_nil, List.nil_append, List.cons_append, Int32.reduceLT, Int32.reduceLE, Int32.reduceAdd, Int32.reduceSub, Int32.reduceMul, Int32.reduceToInt, Int32.reduceToNatClampNeg, Int.reduceLT, Int.reduceLE, Int.reduceNeg, true_and, and_true, or_self, or_false, false_or, false_and, and_false, true_or, or_true, if_true, if_false, ne_eq, Classical.not_not, not_true_eq_false, not_false_eq_true, true_implies, false_implies, implies_true, Nat.reduceEqDiff, Nat.reduceAdd, Nat.reduceLeDiff, Nat.reduceSub, reduceCtorEq, reduceIte, b228_36, skM sW, skM s2, srM s2, h00, Nat.reduceLT, hNe, n15, n16, n17, n109, n110, i27, i23, nI_s, z1]
      generalize (pA (pA (pI (pA (pA (pA (pA (pA hW 93 (upd (hA hW 93) (n - 1) (nI (mLa y + 1)))) 100 (upd (hA hW 100) (mLa y + 1) (nI (n - 1)))) 101 (upd (hA hW 101) (mLa y + 1) (nI (pts N L).length))) 103 (upd (hA hW 103) (mLa y + 1) 0)) 102 (upd (hA hW 102) (mLa y + 1) 0)) 59 27 (nI (mLv y + 1))) 109 (upd (hA hW 109) (mLv y + 1) (nI (mLa y + 1)))) 110 (upd (hA hW 110) (mLv y + 1) 0)) = hF at *
      have ec : hA hF 90 (L - 1) = dnI (oI (pts N L).head?) := ec
      refine m_part (k := 1) m3 ht h6 hb h1 (by omega) ?_
      rw [eL]
      simp only [lv_args, z_v, z_lg, z_h, z_u, z_u1, z_c, z_ct, z_sk, sbne, lst1_d, ldel, lst2_d, ldel2, z_sw, z_rok, zi, eq_self, List.map_cons, List.map_nil, List.append_nil, List.nil_append, List.cons_append, Int32.reduceLT, Int32.reduceLE, Int32.reduceAdd, Int32.reduceSub, Int32.reduceMul, Int32.reduceToInt, Int32.reduceToNatClampNeg, Int.reduceLT, Int.reduceLE, Int.reduceNeg, true_and, and_true, or_self, or_false, false_or, false_and, and_false, true_or, or_true, if_true, if_false, ne_eq, Classical.not_not, not_true_eq_false, not_false_eq_true, true_implies, false_implies, implies_true, Nat.reduceEqDiff, Nat.reduceAdd, Nat.reduceLeDiff, Nat.reduceSub, reduceCtorEq, reduceIte, b228_36, skM s3, srM s3, h00, Nat.reduceLT, n4F]
      simp (disch := omega) only [nI_ti, nI_cl, le0N, ltNN, d4, ec, true_and]
      try simp only [lv_args, z_v, z_lg, z_h, z_u, z_u1, z_c, z_ct, z_sk, sbne, lst1_d, ldel, lst2_d, ldel2, z_sw, z_rok, zi, eq_self, List.map_cons, List.map_nil, List.append_nil, List.nil_append, List.cons_append, Int32.reduceLT, Int32.reduceLE, Int32.reduceAdd, Int32.reduceSub, Int32.reduceMul, Int32.reduceToInt, Int32.reduceToNatClampNeg, Int.reduceLT, Int.reduceLE, Int.reduceNeg, true_and, and_true, or_self, or_false, false_or, false_and, and_false, true_or, or_true, if_true, if_false, ne_eq, Classical.not_not, not_true_eq_false, not_false_eq_true, true_implies, false_implies, implies_true, Nat.reduceEqDiff, Nat.reduceAdd, Nat.reduceLeDiff, Nat.reduceSub, reduceCtorEq, reduceIte, b228_36]
      exact go
    have ky5 : KYf 86 h0 (pI h 86 5 (nI (mLa y + 1))) := ky_I H.1 (by unfold YI; omega)
    have s5 : Sk (pI h 86 5 (nI (mLa y + 1))) := sk_u1 s
    have mwH := H.2.2.2.2.2
    have mw5 : MWx y (pI h 86 5 (nI (mLa y + 1))) := mwH
    unfold aEv
    simp only [lv_args, z_v, z_lg, z_h, z_u, z_u1, z_c, z_ct, z_sk, sbne, lst1_d, ldel, lst2_d, ldel2, z_sw, z_rok, zi, eq_self, List.map_cons, List.map_nil, List.append_nil, List.nil_append, List.cons_append, Int32.reduceLT, Int32.reduceLE, Int32.reduceAdd, Int32.reduceSub, Int32.reduceMul, Int32.reduceToInt, Int32.reduceToNatClampNeg, Int.reduceLT, Int.reduceLE, Int.reduceNeg, true_and, and_true, or_self, or_false, false_or, false_and, and_false, true_or, or_true, if_true, if_false, ne_eq, Classical.not_not, not_true_eq_false, not_false_eq_true, true_implies, false_implies, implies_true, Nat.reduceEqDiff, Nat.reduceAdd, Nat.reduceLeDiff, Nat.reduceSub, reduceCtorEq, reduceIte, b228_0, skM s, srM s, R, mg1, nI_s, z120]
    simp (disch := omega) only [nI_leN]
    refine ⟨fun c => ?_, fun c => ?_⟩
    · rw [if_neg (by omega)] at ey1
      subst ey1
      exact at36 _ ky5 ⟨rfl, ml1, ms1⟩ rfl rfl mw5
    · rw [if_pos (by omega)] at ey1
      have pp1 : hA h 89 (n - 1) = nI (nQ N n) := pp1
      simp only [lv_args, z_v, z_lg, z_h, z_u, z_u1, z_c, z_ct, z_sk, sbne, lst1_d, ldel, lst2_d, ldel2, z_sw, z_rok, zi, eq_self, List.map_cons, List.map_nil, List.append_nil, List.nil_append, List.cons_append, Int32.reduceLT, Int32.reduceLE, Int32.reduceAdd, Int32.reduceSub, Int32.reduceMul, Int32.reduceToInt, Int32.reduceToNatClampNeg, Int.reduceLT, Int.reduceLE, Int.reduceNeg, true_and, and_true, or_self, or_false, false_or, false_and, and_false, true_or, or_true, if_true, if_false, ne_eq, Classical.not_not, not_true_eq_false, not_false_eq_true, true_implies, false_implies, implies_true, Nat.reduceEqDiff, Nat.reduceAdd, Nat.reduceLeDiff, Nat.reduceSub, reduceCtorEq, reduceIte, b228_24, skM s5, srM s5, h00, n3]
      simp (disch := omega) only [nI_ti, nI_cl, le0N, ltNN, d1, pp1, true_and]
      try simp only [lv_args, z_v, z_lg, z_h, z_u, z_u1, z_c, z_ct, z_sk, sbne, lst1_d, ldel, lst2_d, ldel2, z_sw, z_rok, zi, eq_self, List.map_cons, List.map_nil, List.append_nil, List.nil_append, List.cons_append, Int32.reduceLT, Int32.reduceLE, Int32.reduceAdd, Int32.reduceSub, Int32.reduceMul, Int32.reduceToInt, Int32.reduceToNatClampNeg, Int.reduceLT, Int.reduceLE, Int.reduceNeg, true_and, and_true, or_self, or_false, false_or, false_and, and_false, true_or, or_true, if_true, if_false, ne_eq, Classical.not_not, not_true_eq_false, not_false_eq_true, true_implies, false_implies, implies_true, Nat.reduceEqDiff, Nat.reduceAdd, Nat.reduceLeDiff, Nat.reduceSub, reduceCtorEq, reduceIte, b228_24, skM s5, h00]
      have ew : mWr y1 = wMn (mWr y) 6 (nQ N n) := by rw [← ey1]; rfl
      have ef : mFm y1 = mFm y := ey.2
      refine sp_wr1 (y := y) (k := 6) (p := nQ N n) s5 mw5 rfl rfl (by decide) pp2 (fun e => ?_) (fun e => ?_)
      · have go := at36 _ ky5 ⟨rfl, ml1, ms1⟩ rfl rfl (by
          obtain ⟨v1, v2, v3⟩ := mw5
          exact ⟨by rw [ef]; exact v1, fun c => v2 (by rw [← e, ← ew]; exact c), fun k p c => v3 k p (by rw [← e, ← ew]; exact c)⟩)
        simp only [lv_args, z_v, z_lg, z_h, z_u, z_u1, z_c, z_ct, z_sk, sbne, lst1_d, ldel, lst2_d, ldel2, z_sw, z_rok, zi, eq_self, List.map_cons, List.map_nil, List.append_nil, List.nil_append, List.cons_append, Int32.reduceLT, Int32.reduceLE, Int32.reduceAdd, Int32.reduceSub, Int32.reduceMul, Int32.reduceToInt, Int32.reduceToNatClampNeg, Int.reduceLT, Int.reduceLE, Int.reduceNeg, true_and, and_true, or_self, or_false, false_or, false_and, and_false, true_or, or_true, if_true, if_false, ne_eq, Classical.not_not, not_true_eq_false, not_false_eq_true, true_implies, false_implies, implies_true, Nat.reduceEqDiff, Nat.reduceAdd, Nat.reduceLeDiff, Nat.reduceSub, reduceCtorEq, reduceIte, b228_24, skM s5, Nat.reduceLT]
        exact go
      · have s7 : Sk (pI (pI (pI h 86 5 (nI (mLa y + 1))) 59 15 (nI 6)) 59 16 (nI (nQ N n))) := sk_u1 (sk_u1 s5)
        have go := at36 (pI (pI (pI h 86 5 (nI (mLa y + 1))) 59 15 (nI 6)) 59 16 (nI (nQ N n))) (ky_I (ky_I ky5 (by unfold YI; omega)) (by unfold YI; omega)) ⟨rfl, ml1, ms1⟩ rfl rfl (by
          obtain ⟨v1, v2, v3⟩ := mw5
          refine ⟨by rw [ef]; exact v1, fun c => ?_, fun k p c => ?_⟩
          · rw [ew, e] at c
            cases c
          · rw [ew, e] at c
            injection c with c
            injection c with c1 c2
            subst c1
            subst c2
            exact ⟨rfl, rfl, by decide, by decide, pp2⟩)
        simp only [lv_args, z_v, z_lg, z_h, z_u, z_u1, z_c, z_ct, z_sk, sbne, lst1_d, ldel, lst2_d, ldel2, z_sw, z_rok, zi, eq_self, List.map_cons, List.map_nil, List.append_nil, List.nil_append, List.cons_append, Int32.reduceLT, Int32.reduceLE, Int32.reduceAdd, Int32.reduceSub, Int32.reduceMul, Int32.reduceToInt, Int32.reduceToNatClampNeg, Int.reduceLT, Int.reduceLE, Int.reduceNeg, true_and, and_true, or_self, or_false, false_or, false_and, and_false, true_or, or_true, if_true, if_false, ne_eq, Classical.not_not, not_true_eq_false, not_false_eq_true, true_implies, false_implies, implies_true, Nat.reduceEqDiff, Nat.reduceAdd, Nat.reduceLeDiff, Nat.reduceSub, reduceCtorEq, reduceIte, b228_24, skM s5, skM s7, Nat.reduceLT]
        exact go
end MLM
