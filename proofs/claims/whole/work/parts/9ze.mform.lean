/-! BUILD. The reference: a form -/
section MFO
variable {h h' h0 : Hp} {Q : Option Value → Hp → Prop} {d n q g a b : Nat} {N : NS} {mt : List Nat} {y : MR} {F : Nat → MR → MR}
theorem mfr_ls : ∀ (l s : Nat) (y : MR), mLs (mFr l s y).2 = mLs y
  | 0, _, _ => rfl
  | l + 1, s, y => by
    rw [mFr]
    split
    · rfl
    · split
      · rfl
      · exact mfr_ls l s y
theorem mus_ls {x : Nat} : mLs (mUs N x y) = mLs y := by
  unfold mUs
  split
  · rfl
  · split
    · rfl
    · split
      · split
        · rfl
        · exact mfr_ls _ _ _
      · split
        · rfl
        · rfl
theorem mw_us {x : Nat} (hx : a ≤ x ∧ x < b) (ha : 1 ≤ a) (w : MW g a b y) : MW g a b (mUs N x y) := by
  obtain ⟨w1, w2, w3, w4, w5, w6, w7, w8, w9⟩ := w
  obtain ⟨⟨p1, p2, p3, p4⟩, p5, p6, p7, p8, p9⟩ := us_e (N := N) (y := y) hx ha
  obtain ⟨f1, f2⟩ := us_f (N := N) (x := x) w1
  obtain ⟨c1, c2⟩ := mus_s (N := N) (y := y) (n := x)
  refine ⟨f1, by rw [p1]; exact w2, by rw [p2]; exact w3, by rw [p2, p4 _ (Nat.le_refl _)]; exact w4, fun M hM => ?_, fun M M1 M2 => ?_, by omega, by omega, by rw [p3 0 (Nat.zero_le _)]; exact w9⟩
  · rw [mus_ls]; exact w5 M (by omega)
  · rw [c2] at M2
    by_cases c3 : ∃ l, l ≤ mLv y ∧ M = mAr y l
    · obtain ⟨l, l1, l2⟩ := c3
      have l0 : 1 ≤ l := by
        by_cases z : l = 0
        · rw [z, w9] at l2
          omega
        · omega
      have fx := f1.2.2.2 l l0 (by rw [p2]; exact l1)
      rw [p3 l l1] at fx
      have := pige_nd (mSg (mUs N x y)).length _ fx.1 (fun x hx => (fx.2 x hx).1)
      have e : (fes (mUs N x y) (mAr y l)).length = (mFe (mUs N x y) (mAr y l)).length := List.length_map _
      rw [p1] at this
      rw [l2]
      omega
    · rw [(p8 M M2 (fun l hl e => c3 ⟨l, hl, e⟩)).2]
      exact w6 M M1 M2
theorem mw_ct (w : MW (g + 1) n b y) : MW (g + 1) (n + 1) b (mCt N n y) ∧ 3 * mLa (mCt N n y) + b ≤ 6100 + n := by
  obtain ⟨w1, w2, w3, w4, w5, w6, w7, w8, w9⟩ := w
  have e : mFm (mCt N n y) = mFm y + 1 ∧ (mCt N n y).1 = y.1 ∧ (mCt N n y).2.1 = y.2.1 ∧ (mCt N n y).2.2.1 = y.2.2.1 := by
    unfold mCt
    split <;> exact ⟨rfl, rfl, rfl, rfl⟩
  obtain ⟨e1, e2, e3, e4⟩ := e
  generalize mCt N n y = y1 at *
  obtain ⟨yA, yB, yC, yD⟩ := y
  obtain ⟨zA, zB, zC, zD⟩ := y1
  subst e2
  subst e3
  subst e4
  have w8' : 3 * mLa (zA, zB, zC, zD) + b ≤ 6100 + n := w8
  exact ⟨⟨w1, w2, w3, w4, w5, w6, by omega, by omega, w9⟩, w8'⟩
/-- forms are counted -/
theorem mh_ct (H : MH N mt q h0 y h) (hq66 : q = 66 ∨ q = 86) {y1 : MR} (e2 : y1.1 = y.1) (e3 : y1.2.1 = y.2.1) (e4 : y1.2.2.1 = y.2.2.1) (ky : KYf q h0 h') (hA' : hA h' = hA h) (hI' : ∀ a i, ¬ (a = 59 ∧ (i = 15 ∨ i = 16 ∨ i = 24)) → hI h' a i = hI h a i) (mw : MWx y1 h') : MH N mt q h0 y1 h' := by
  obtain ⟨yA, yB, yC, yD⟩ := y
  obtain ⟨zA, zB, zC, zD⟩ := y1
  subst e2
  subst e3
  subst e4
  obtain ⟨_, mn, ms, ml, mg, _⟩ := H
  have i23 : hI h' 59 23 = hI h 59 23 := hI' 59 23 (by omega)
  have i27 : hI h' 59 27 = hI h 59 27 := hI' 59 27 (by omega)
  have i5 : hI h' q 5 = hI h q 5 := hI' q 5 (by omega)
  refine ⟨ky, ?_, ?_, ?_, ?_, mw⟩
  · unfold MN; rw [hA']; exact mn
  · unfold MSx; rw [hA', i23]; exact ms
  · unfold MLx; rw [hA', i27]; exact ml
  · unfold MGx; rw [hA', i5]; exact mg
theorem sp_mform (md : MD N mt q h0) : ∀ (f g : Nat), g ≤ f → g ≤ 31 → ∀ (n b : Nat) (row : Bool) (y : MR) (h : Hp) (d : Nat) (Q : Option Value → Hp → Prop), Tr g N n b → b ≤ N.1 → 1 ≤ n → MW g n b y → MH N mt q h0 y h → 4 * g + 50 < d → (∀ h', MH N mt q h0 (mF N f n row y) h' → Q none h') → aEv d 204 [.ref 59, .int (nI (n - 1)), .int (bI row)] h Q := by
  intro f
  induction f with
  | zero =>
    intro g hg _ n b row y h d Q ht
    have : g = 0 := by omega
    subst this
    exact ht.elim
  | succ f ih =>
    intro g hg hg31 n b row y h d Q ht hb h1 w H hd hq
    cases g with
    | zero => exact ht.elim
    | succ g =>
    have h00 : 0 < d := by omega
    have m := md_m md H
    have s := m.1.1
    have hq66 := mc_q m
    have R := mc_R m
    have hN1 := m.2.2.2.2.2
    have hlt := trl_lt ht
    have hn : n < N.1 := by omega
    have nn := nq m.1.2 hq66
    obtain ⟨pp1, pp2⟩ := md_p md H h1 hn
    have fb : FBm N mt q h0 g (fun a => mF N f a false) := ⟨fun v m y ht hv hi => mF_e f g (by omega) v m false y ht.1 ht.2 hv hi, fun v m y ht hv hi h1 => mF_f f g (by omega) (by omega) v m false y ht.1 ht.2 hv hi h1, fun v m y B ht hv hi h1 h2 => mF_s f g (by omega) (by omega) v m false y B ht.1 ht.2 hv hi h1 h2, fun v m y t => mF_c f g (by omega) v m false y t.1 t.2, fun n m y h d Q ht hm h1 w H hd hq => ih g (by omega) (by omega) n m false y h d Q ht hm h1 w H hd hq⟩
    have z10 : ¬ (1 : Int32) = 0 := by decide
    have eb0 : bI false = 0 := rfl
    have eb1 : bI true = 1 := rfl
    have z1 : (1 : Int32) = nI 1 := rfl
    have z2 : (2 : Int32) = nI 2 := rfl
    have z1500 : (1500 : Int32) = nI 1500 := rfl
    have c2 : (n - 1 < 6200) = True := eq_true (by omega)
    have w7 := w.2.2.2.2.2.2.1
    obtain ⟨w', wla⟩ := mw_ct (N := N) w
    rw [mF] at hq
    -- behind the count
    have at37 : ∀ h1', MH N mt q h0 (mCt N n y) h1' → aWP d 204 37 [(3, .ref q), (0, .ref 59), (1, .int (nI (n - 1))), (2, .int (bI row))] [] h1' Q := by
      generalize mCt N n y = y1 at *
      intro hh HH
      have mm := md_m md HH
      have ss := mm.1.1
      have RR := mc_R mm
      have nh := nq mm.1.2 hq66
      have sw := sq ss hq66
      simp only [lv_args, z_v, z_lg, z_h, z_u, z_u1, z_c, z_ct, z_sk, sbne, lst1_d, ldel, lst2_d, ldel2, z_sw, z_rok, zi, eq_self, List.map_cons, List.map_nil, List.append_nil, List.nil_append, List.cons_append, Int32.reduceLT, Int32.reduceLE, Int32.reduceAdd, Int32.reduceSub, Int32.reduceMul, Int32.reduceToInt, Int32.reduceToNatClampNeg, Int.reduceLT, Int.reduceLE, Int.reduceNeg, true_and, and_true, or_self, or_false, false_or, false_and, and_false, true_or, or_true, if_true, if_false, ne_eq, Classical.not_not, not_true_eq_false, not_false_eq_true, true_implies, false_implies, implies_true, Nat.reduceEqDiff, Nat.reduceAdd, Nat.reduceLeDiff, Nat.reduceSub, reduceCtorEq, reduceIte, b204_37, skM ss, sw, h00]
      rw [m_isName mm h1 hn]
      simp only [lv_args, z_v, z_lg, z_h, z_u, z_u1, z_c, z_ct, z_sk, sbne, lst1_d, ldel, lst2_d, ldel2, z_sw, z_rok, zi, eq_self, List.map_cons, List.map_nil, List.append_nil, List.nil_append, List.cons_append, Int32.reduceLT, Int32.reduceLE, Int32.reduceAdd, Int32.reduceSub, Int32.reduceMul, Int32.reduceToInt, Int32.reduceToNatClampNeg, Int.reduceLT, Int.reduceLE, Int.reduceNeg, true_and, and_true, or_self, or_false, false_or, false_and, and_false, true_or, or_true, if_true, if_false, ne_eq, Classical.not_not, not_true_eq_false, not_false_eq_true, true_implies, false_implies, implies_true, Nat.reduceEqDiff, Nat.reduceAdd, Nat.reduceLeDiff, Nat.reduceSub, reduceCtorEq, reduceIte, b204_37, skM ss, sw, h00, Nat.reduceLT]
      by_cases c5 : nK N n = 5
      · rw [if_pos c5] at hq
        have e5 : bI (nK N n == 5) = 1 := by rw [c5]; rfl
        simp only [e5, z10, not_false_eq_true, false_imp_iff, true_imp_iff, true_and]
        simp only [lv_args, z_v, z_lg, z_h, z_u, z_u1, z_c, z_ct, z_sk, sbne, lst1_d, ldel, lst2_d, ldel2, z_sw, z_rok, zi, eq_self, List.map_cons, List.map_nil, List.append_nil, List.nil_append, List.cons_append, Int32.reduceLT, Int32.reduceLE, Int32.reduceAdd, Int32.reduceSub, Int32.reduceMul, Int32.reduceToInt, Int32.reduceToNatClampNeg, Int.reduceLT, Int.reduceLE, Int.reduceNeg, true_and, and_true, or_self, or_false, false_or, false_and, and_false, true_or, or_true, if_true, if_false, ne_eq, Classical.not_not, not_true_eq_false, not_false_eq_true, true_implies, false_implies, implies_true, Nat.reduceEqDiff, Nat.reduceAdd, Nat.reduceLeDiff, Nat.reduceSub, reduceCtorEq, reduceIte, b204_45, skM ss, sw, h00]
        refine sp_uses md HH w'.1 w'.2.2.2.2.2.1 (by omega) h1 hn c5 (by omega) (fun hu Hu => ?_)
        have mu := md_m md Hu
        have su := mu.1.1
        have swu := sq su hq66
        have P := hq hu Hu
        have e6 : bI (nK N n == 6) = 0 := by rw [c5]; rfl
        simp only [lv_args, z_v, z_lg, z_h, z_u, z_u1, z_c, z_ct, z_sk, sbne, lst1_d, ldel, lst2_d, ldel2, z_sw, z_rok, zi, eq_self, List.map_cons, List.map_nil, List.append_nil, List.nil_append, List.cons_append, Int32.reduceLT, Int32.reduceLE, Int32.reduceAdd, Int32.reduceSub, Int32.reduceMul, Int32.reduceToInt, Int32.reduceToNatClampNeg, Int.reduceLT, Int.reduceLE, Int.reduceNeg, true_and, and_true, or_self, or_false, false_or, false_and, and_false, true_or, or_true, if_true, if_false, ne_eq, Classical.not_not, not_true_eq_false, not_false_eq_true, true_implies, false_implies, implies_true, Nat.reduceEqDiff, Nat.reduceAdd, Nat.reduceLeDiff, Nat.reduceSub, reduceCtorEq, reduceIte, b204_45, skM ss, skM su, sw, swu, Nat.reduceLT]
        simp only [lv_args, z_v, z_lg, z_h, z_u, z_u1, z_c, z_ct, z_sk, sbne, lst1_d, ldel, lst2_d, ldel2, z_sw, z_rok, zi, eq_self, List.map_cons, List.map_nil, List.append_nil, List.nil_append, List.cons_append, Int32.reduceLT, Int32.reduceLE, Int32.reduceAdd, Int32.reduceSub, Int32.reduceMul, Int32.reduceToInt, Int32.reduceToNatClampNeg, Int.reduceLT, Int.reduceLE, Int.reduceNeg, true_and, and_true, or_self, or_false, false_or, false_and, and_false, true_or, or_true, if_true, if_false, ne_eq, Classical.not_not, not_true_eq_false, not_false_eq_true, true_implies, false_implies, implies_true, Nat.reduceEqDiff, Nat.reduceAdd, Nat.reduceLeDiff, Nat.reduceSub, reduceCtorEq, reduceIte, b204_50, skM su, swu, h00]
        rw [m_isList mu h1 hn, e6]
        simp only [lv_args, z_v, z_lg, z_h, z_u, z_u1, z_c, z_ct, z_sk, sbne, lst1_d, ldel, lst2_d, ldel2, z_sw, z_rok, zi, eq_self, List.map_cons, List.map_nil, List.append_nil, List.nil_append, List.cons_append, Int32.reduceLT, Int32.reduceLE, Int32.reduceAdd, Int32.reduceSub, Int32.reduceMul, Int32.reduceToInt, Int32.reduceToNatClampNeg, Int.reduceLT, Int.reduceLE, Int.reduceNeg, true_and, and_true, or_self, or_false, false_or, false_and, and_false, true_or, or_true, if_true, if_false, ne_eq, Classical.not_not, not_true_eq_false, not_false_eq_true, true_implies, false_implies, implies_true, Nat.reduceEqDiff, Nat.reduceAdd, Nat.reduceLeDiff, Nat.reduceSub, reduceCtorEq, reduceIte, b204_50, b204_58, skM su, swu, Nat.reduceLT]
        exact P
      rw [if_neg c5] at hq
      have e5 : bI (nK N n == 5) = 0 := by
        have : (nK N n == 5) = false := by simpa using c5
        rw [this]; rfl
      simp only [e5, not_true_eq_false, false_imp_iff, true_imp_iff, and_true]
      simp only [lv_args, z_v, z_lg, z_h, z_u, z_u1, z_c, z_ct, z_sk, sbne, lst1_d, ldel, lst2_d, ldel2, z_sw, z_rok, zi, eq_self, List.map_cons, List.map_nil, List.append_nil, List.nil_append, List.cons_append, Int32.reduceLT, Int32.reduceLE, Int32.reduceAdd, Int32.reduceSub, Int32.reduceMul, Int32.reduceToInt, Int32.reduceToNatClampNeg, Int.reduceLT, Int.reduceLE, Int.reduceNeg, true_and, and_true, or_self, or_false, false_or, false_and, and_false, true_or, or_true, if_true, if_false, ne_eq, Classical.not_not, not_true_eq_false, not_false_eq_true, true_implies, false_implies, implies_true, Nat.reduceEqDiff, Nat.reduceAdd, Nat.reduceLeDiff, Nat.reduceSub, reduceCtorEq, reduceIte, b204_50, skM ss, sw, h00]
      rw [m_isList mm h1 hn]
      by_cases c6 : nK N n ≠ 6
      · rw [if_pos c6] at hq
        have e6 : bI (nK N n == 6) = 0 := by
          have : (nK N n == 6) = false := by simpa using c6
          rw [this]; rfl
        rw [e6]
        have P := hq hh HH
        simp only [lv_args, z_v, z_lg, z_h, z_u, z_u1, z_c, z_ct, z_sk, sbne, lst1_d, ldel, lst2_d, ldel2, z_sw, z_rok, zi, eq_self, List.map_cons, List.map_nil, List.append_nil, List.nil_append, List.cons_append, Int32.reduceLT, Int32.reduceLE, Int32.reduceAdd, Int32.reduceSub, Int32.reduceMul, Int32.reduceToInt, Int32.reduceToNatClampNeg, Int.reduceLT, Int.reduceLE, Int.reduceNeg, true_and, and_true, or_self, or_false, false_or, false_and, and_false, true_or, or_true, if_true, if_false, ne_eq, Classical.not_not, not_true_eq_false, not_false_eq_true, true_implies, false_implies, implies_true, Nat.reduceEqDiff, Nat.reduceAdd, Nat.reduceLeDiff, Nat.reduceSub, reduceCtorEq, reduceIte, b204_50, b204_58, skM ss, sw, Nat.reduceLT]
        exact P
      rw [if_neg c6] at hq
      have c6 : nK N n = 6 := Classical.not_not.mp c6
      have e6 : bI (nK N n == 6) = 1 := by rw [c6]; rfl
      rw [e6]
      simp only [lv_args, z_v, z_lg, z_h, z_u, z_u1, z_c, z_ct, z_sk, sbne, lst1_d, ldel, lst2_d, ldel2, z_sw, z_rok, zi, eq_self, List.map_cons, List.map_nil, List.append_nil, List.nil_append, List.cons_append, Int32.reduceLT, Int32.reduceLE, Int32.reduceAdd, Int32.reduceSub, Int32.reduceMul, Int32.reduceToInt, Int32.reduceToNatClampNeg, Int.reduceLT, Int.reduceLE, Int.reduceNeg, true_and, and_true, or_self, or_false, false_or, false_and, and_false, true_or, or_true, if_true, if_false, ne_eq, Classical.not_not, not_true_eq_false, not_false_eq_true, true_implies, false_implies, implies_true, Nat.reduceEqDiff, Nat.reduceAdd, Nat.reduceLeDiff, Nat.reduceSub, reduceCtorEq, reduceIte, b204_50, skM ss, sw, Nat.reduceLT, z10]
      obtain ⟨t1, t2, _⟩ := tl_n ht c6 hb hN1
      have hlen := tl_len t2
      simp only [lv_args, z_v, z_lg, z_h, z_u, z_u1, z_c, z_ct, z_sk, sbne, lst1_d, ldel, lst2_d, ldel2, z_rok, zi, eq_self, List.map_cons, List.map_nil, List.append_nil, List.nil_append, List.cons_append, Int32.reduceLT, Int32.reduceLE, Int32.reduceAdd, Int32.reduceSub, Int32.reduceMul, Int32.reduceToInt, Int32.reduceToNatClampNeg, Int.reduceLT, Int.reduceLE, Int.reduceNeg, true_and, and_true, or_self, or_false, false_or, false_and, and_false, true_or, or_true, if_true, if_false, ne_eq, Classical.not_not, not_true_eq_false, not_false_eq_true, true_implies, false_implies, implies_true, Nat.reduceEqDiff, Nat.reduceAdd, Nat.reduceLeDiff, Nat.reduceSub, reduceCtorEq, reduceIte, b204_59, skM ss, sw, h00]
      rw [m_word mm ht c6 hb h1 (by omega)]
      simp only [lv_args, z_v, z_lg, z_h, z_u, z_u1, z_c, z_ct, z_sk, sbne, lst1_d, ldel, lst2_d, ldel2, z_rok, zi, eq_self, List.map_cons, List.map_nil, List.append_nil, List.nil_append, List.cons_append, Int32.reduceLT, Int32.reduceLE, Int32.reduceAdd, Int32.reduceSub, Int32.reduceMul, Int32.reduceToInt, Int32.reduceToNatClampNeg, Int.reduceLT, Int.reduceLE, Int.reduceNeg, true_and, and_true, or_self, or_false, false_or, false_and, and_false, true_or, or_true, if_true, if_false, ne_eq, Classical.not_not, not_true_eq_false, not_false_eq_true, true_implies, false_implies, implies_true, Nat.reduceEqDiff, Nat.reduceAdd, Nat.reduceLeDiff, Nat.reduceSub, reduceCtorEq, reduceIte, b204_59, skM ss, sw, h00, Nat.reduceLT]
      have hw10 := wrd_le (N := N) (n := n)
      refine m_shp (w := wrd N n) mm ht c6 hb h1 hw10 (by omega) ?_
      simp only [lv_args, z_v, z_lg, z_h, z_u, z_u1, z_c, z_ct, z_sk, sbne, lst1_d, ldel, lst2_d, ldel2, z_rok, zi, eq_self, List.map_cons, List.map_nil, List.append_nil, List.nil_append, List.cons_append, Int32.reduceLT, Int32.reduceLE, Int32.reduceAdd, Int32.reduceSub, Int32.reduceMul, Int32.reduceToInt, Int32.reduceToNatClampNeg, Int.reduceLT, Int.reduceLE, Int.reduceNeg, true_and, and_true, or_self, or_false, false_or, false_and, and_false, true_or, or_true, if_true, if_false, ne_eq, Classical.not_not, not_true_eq_false, not_false_eq_true, true_implies, false_implies, implies_true, Nat.reduceEqDiff, Nat.reduceAdd, Nat.reduceLeDiff, Nat.reduceSub, reduceCtorEq, reduceIte, b204_59, skM ss, sw, h00, Nat.reduceLT]
      by_cases cs : shp N n (wrd N n) row = false
      · rw [if_pos cs] at hq
        rw [cs]
        obtain ⟨pp1, pp2⟩ := md_p md HH h1 hn
        simp only [eb0, not_true_eq_false, false_imp_iff, true_imp_iff, and_true, true_and]
        simp only [lv_args, z_v, z_lg, z_h, z_u, z_u1, z_c, z_ct, z_sk, sbne, lst1_d, ldel, lst2_d, ldel2, z_sw, z_rok, zi, eq_self, List.map_cons, List.map_nil, List.append_nil, List.nil_append, List.cons_append, Int32.reduceLT, Int32.reduceLE, Int32.reduceAdd, Int32.reduceSub, Int32.reduceMul, Int32.reduceToInt, Int32.reduceToNatClampNeg, Int.reduceLT, Int.reduceLE, Int.reduceNeg, true_and, and_true, or_self, or_false, false_or, false_and, and_false, true_or, or_true, if_true, if_false, ne_eq, Classical.not_not, not_true_eq_false, not_false_eq_true, true_implies, false_implies, implies_true, Nat.reduceEqDiff, Nat.reduceAdd, Nat.reduceLeDiff, Nat.reduceSub, reduceCtorEq, reduceIte, b204_77, skM ss, srM ss, sw, nh, h00]
        simp (disch := omega) only [nI_ti, nI_cl, le0N, ltNN, c2, pp1, true_and]
        try simp only [lv_args, z_v, z_lg, z_h, z_u, z_u1, z_c, z_ct, z_sk, sbne, lst1_d, ldel, lst2_d, ldel2, z_sw, z_rok, zi, eq_self, List.map_cons, List.map_nil, List.append_nil, List.nil_append, List.cons_append, Int32.reduceLT, Int32.reduceLE, Int32.reduceAdd, Int32.reduceSub, Int32.reduceMul, Int32.reduceToInt, Int32.reduceToNatClampNeg, Int.reduceLT, Int.reduceLE, Int.reduceNeg, true_and, and_true, or_self, or_false, false_or, false_and, and_false, true_or, or_true, if_true, if_false, ne_eq, Classical.not_not, not_true_eq_false, not_false_eq_true, true_implies, false_implies, implies_true, Nat.reduceEqDiff, Nat.reduceAdd, Nat.reduceLeDiff, Nat.reduceSub, reduceCtorEq, reduceIte, b204_77, skM ss, sw, h00]
        refine sp_wr (k := 3) (p := nQ N n) md HH rfl rfl (by decide) pp2 (fun h' H' => ?_)
        have s' := (md_m md H').1.1
        have sw' := sq s' hq66
        simp only [lv_args, z_v, z_lg, z_h, z_u, z_u1, z_c, z_ct, z_sk, sbne, lst1_d, ldel, lst2_d, ldel2, z_sw, z_rok, zi, eq_self, List.map_cons, List.map_nil, List.append_nil, List.nil_append, List.cons_append, Int32.reduceLT, Int32.reduceLE, Int32.reduceAdd, Int32.reduceSub, Int32.reduceMul, Int32.reduceToInt, Int32.reduceToNatClampNeg, Int.reduceLT, Int.reduceLE, Int.reduceNeg, true_and, and_true, or_self, or_false, false_or, false_and, and_false, true_or, or_true, if_true, if_false, ne_eq, Classical.not_not, not_true_eq_false, not_false_eq_true, true_implies, false_implies, implies_true, Nat.reduceEqDiff, Nat.reduceAdd, Nat.reduceLeDiff, Nat.reduceSub, reduceCtorEq, reduceIte, b204_77, skM ss, skM s', sw, sw', Nat.reduceLT]
        exact hq h' H'
      rw [if_neg cs] at hq
      have cs : shp N n (wrd N n) row = true := by simpa using cs
      rw [cs]
      simp only [eb1, z10, not_false_eq_true, false_imp_iff, true_imp_iff, and_true, true_and]
      simp only [lv_args, z_v, z_lg, z_h, z_u, z_u1, z_c, z_ct, z_sk, sbne, lst1_d, ldel, lst2_d, ldel2, z_rok, zi, eq_self, List.map_cons, List.map_nil, List.append_nil, List.nil_append, List.cons_append, Int32.reduceLT, Int32.reduceLE, Int32.reduceAdd, Int32.reduceSub, Int32.reduceMul, Int32.reduceToInt, Int32.reduceToNatClampNeg, Int.reduceLT, Int.reduceLE, Int.reduceNeg, true_and, and_true, or_self, or_false, false_or, false_and, and_false, true_or, or_true, if_true, if_false, ne_eq, Classical.not_not, not_true_eq_false, not_false_eq_true, true_implies, false_implies, implies_true, Nat.reduceEqDiff, Nat.reduceAdd, Nat.reduceLeDiff, Nat.reduceSub, reduceCtorEq, reduceIte, b204_89]
      -- the second part, and the third
      have sec : ∀ k, k < (pts N n).length → ∃ m', prt N n k < N.1 ∧ n + 1 ≤ prt N n k ∧ Trb g N (prt N n k) m' ∧ m' ≤ b ∧ dnI (oI ((pts N n)[k]?)) = nI (prt N n k - 1) := fun k hk => by
        have p1 := prt_get (N := N) (n := n) (k := k) hk
        obtain ⟨a1, a2, a3, m1, a4, a5⟩ := tl_get t2 p1
        obtain ⟨m', r1, r2, r3, r4⟩ := frs_mem _ _ _ t2.1 _ (List.mem_of_getElem? p1)
        refine ⟨m', a1, r2, ⟨r1, by omega⟩, by omega, by rw [p1]; exact dnI_nI a2 (by omega)⟩
      have hw' : wrd N n = 0 ∨ wrd N n = 1 ∨ wrd N n = 2 ∨ (wrd N n = 3 ∨ wrd N n = 7 ∨ wrd N n = 8 ∨ wrd N n = 9) ∨ wrd N n = 4 ∨ wrd N n = 5 ∨ wrd N n = 6 ∨ wrd N n = 10 := by omega
      have body1 : 1 ≤ (pts N n).length → (∀ h', MH N mt q h0 (mBo (fun a => mF N f a false) ((pts N n).drop 1) y1) h' → Q none h') → ∀ x, aWP d 204 340 [(4, .int x), (3, .ref q), (0, .ref 59), (1, .int (nI (n - 1))), (2, .int (bI row))] [] hh Q := fun hl hq x => by
        simp only [lv_args, z_v, z_lg, z_h, z_u, z_u1, z_c, z_ct, z_sk, sbne, lst1_d, ldel, lst2_d, ldel2, z_sw, z_rok, zi, eq_self, List.map_cons, List.map_nil, List.append_nil, List.nil_append, List.cons_append, Int32.reduceLT, Int32.reduceLE, Int32.reduceAdd, Int32.reduceSub, Int32.reduceMul, Int32.reduceToInt, Int32.reduceToNatClampNeg, Int.reduceLT, Int.reduceLE, Int.reduceNeg, true_and, and_true, or_self, or_false, false_or, false_and, and_false, true_or, or_true, if_true, if_false, ne_eq, Classical.not_not, not_true_eq_false, not_false_eq_true, true_implies, false_implies, implies_true, Nat.reduceEqDiff, Nat.reduceAdd, Nat.reduceLeDiff, Nat.reduceSub, reduceCtorEq, reduceIte, b204_340, skM ss, sw, h00, z1]
        refine m_part (k := 1) mm ht c6 hb h1 hl ?_
        have hd1 : ((pts N n).drop 1).head? = (pts N n)[1]? := hd_dr
        rw [← hd1]
        obtain ⟨a0, t3⟩ := tl_drop 1 t2
        have ha0 : n + 1 ≤ a0 := by
          cases hp : pts N n with
          | nil => rw [hp] at hl; simp at hl
          | cons c l =>
            rw [hp] at t2 t3
            obtain ⟨_, _, _, m9, u4, u5, u6⟩ := tl_c t2
            cases hpl : l with
            | nil =>
              rw [hpl] at t3
              have : a0 = b := t3.1
              omega
            | cons c1 l1 =>
              rw [hpl] at t3
              obtain ⟨⟨rfl, _⟩, _, _⟩ := t3
              have := frs_mem _ _ _ t2.1 c1 (by rw [hpl]; simp)
              obtain ⟨_, _, r2, _⟩ := this
              exact r2
        simp only [lv_args, z_v, z_lg, z_h, z_u, z_u1, z_c, z_ct, z_sk, sbne, lst1_d, ldel, lst2_d, ldel2, z_sw, z_rok, zi, eq_self, List.map_cons, List.map_nil, List.append_nil, List.nil_append, List.cons_append, Int32.reduceLT, Int32.reduceLE, Int32.reduceAdd, Int32.reduceSub, Int32.reduceMul, Int32.reduceToInt, Int32.reduceToNatClampNeg, Int.reduceLT, Int.reduceLE, Int.reduceNeg, true_and, and_true, or_self, or_false, false_or, false_and, and_false, true_or, or_true, if_true, if_false, ne_eq, Classical.not_not, not_true_eq_false, not_false_eq_true, true_implies, false_implies, implies_true, Nat.reduceEqDiff, Nat.reduceAdd, Nat.reduceLeDiff, Nat.reduceSub, reduceCtorEq, reduceIte, b204_340, skM ss, sw, h00, Nat.reduceLT]
        refine sp_mbodyC md fb (by omega) (by omega) t3 (mw_sub (mw_g w' (Nat.le_succ _)) ha0 (Nat.le_refl _)) HH (fun h' H' => ?_)
        have s' := (md_m md H').1.1
        have sw' := sq s' hq66
        simp only [lv_args, z_v, z_lg, z_h, z_u, z_u1, z_c, z_ct, z_sk, sbne, lst1_d, ldel, lst2_d, ldel2, z_sw, z_rok, zi, eq_self, List.map_cons, List.map_nil, List.append_nil, List.nil_append, List.cons_append, Int32.reduceLT, Int32.reduceLE, Int32.reduceAdd, Int32.reduceSub, Int32.reduceMul, Int32.reduceToInt, Int32.reduceToNatClampNeg, Int.reduceLT, Int.reduceLE, Int.reduceNeg, true_and, and_true, or_self, or_false, false_or, false_and, and_false, true_or, or_true, if_true, if_false, ne_eq, Classical.not_not, not_true_eq_false, not_false_eq_true, true_implies, false_implies, implies_true, Nat.reduceEqDiff, Nat.reduceAdd, Nat.reduceLeDiff, Nat.reduceSub, reduceCtorEq, reduceIte, b204_340, b204_350, skM ss, skM s', sw, sw', Nat.reduceLT]
        exact hq h' H'
      have LOC : True := trivial
      rcases hw' with e | e | e | e | e | e | e | e
      · rw [e] at cs hq ⊢
        rw [if_neg (by omega), if_neg (by omega), if_neg (by omega), if_neg (by omega), if_neg (by omega), if_neg (by omega), if_pos rfl] at hq
        refine sw_at (show aWP d 204 327 [(4, .int (nI 0)), (3, .ref q), (0, .ref 59), (1, .int (nI (n - 1))), (2, .int (bI row))] [] hh Q from ?_)
        have ec := mc_c mm ht c6 hb h1
        simp only [lv_args, z_v, z_lg, z_h, z_u, z_u1, z_c, z_ct, z_sk, sbne, lst1_d, ldel, lst2_d, ldel2, z_sw, z_rok, zi, eq_self, List.map_cons, List.map_nil, List.append_nil, List.nil_append, List.cons_append, Int32.reduceLT, Int32.reduceLE, Int32.reduceAdd, Int32.reduceSub, Int32.reduceMul, Int32.reduceToInt, Int32.reduceToNatClampNeg, Int.reduceLT, Int.reduceLE, Int.reduceNeg, true_and, and_true, or_self, or_false, false_or, false_and, and_false, true_or, or_true, if_true, if_false, ne_eq, Classical.not_not, not_true_eq_false, not_false_eq_true, true_implies, false_implies, implies_true, Nat.reduceEqDiff, Nat.reduceAdd, Nat.reduceLeDiff, Nat.reduceSub, reduceCtorEq, reduceIte, b204_327, skM ss, srM ss, sw, nh, h00]
        simp (disch := omega) only [nI_ti, nI_cl, le0N, ltNN, c2, ec, true_and]
        try simp only [lv_args, z_v, z_lg, z_h, z_u, z_u1, z_c, z_ct, z_sk, sbne, lst1_d, ldel, lst2_d, ldel2, z_sw, z_rok, zi, eq_self, List.map_cons, List.map_nil, List.append_nil, List.nil_append, List.cons_append, Int32.reduceLT, Int32.reduceLE, Int32.reduceAdd, Int32.reduceSub, Int32.reduceMul, Int32.reduceToInt, Int32.reduceToNatClampNeg, Int.reduceLT, Int.reduceLE, Int.reduceNeg, true_and, and_true, or_self, or_false, false_or, false_and, and_false, true_or, or_true, if_true, if_false, ne_eq, Classical.not_not, not_true_eq_false, not_false_eq_true, true_implies, false_implies, implies_true, Nat.reduceEqDiff, Nat.reduceAdd, Nat.reduceLeDiff, Nat.reduceSub, reduceCtorEq, reduceIte, b204_327, skM ss, sw, h00]
        refine sp_mbodyC md fb (by omega) (by omega) t2 (mw_g w' (Nat.le_succ _)) HH (fun h' H' => ?_)
        have s' := (md_m md H').1.1
        have sw' := sq s' hq66
        simp only [lv_args, z_v, z_lg, z_h, z_u, z_u1, z_c, z_ct, z_sk, sbne, lst1_d, ldel, lst2_d, ldel2, z_sw, z_rok, zi, eq_self, List.map_cons, List.map_nil, List.append_nil, List.nil_append, List.cons_append, Int32.reduceLT, Int32.reduceLE, Int32.reduceAdd, Int32.reduceSub, Int32.reduceMul, Int32.reduceToInt, Int32.reduceToNatClampNeg, Int.reduceLT, Int.reduceLE, Int.reduceNeg, true_and, and_true, or_self, or_false, false_or, false_and, and_false, true_or, or_true, if_true, if_false, ne_eq, Classical.not_not, not_true_eq_false, not_false_eq_true, true_implies, false_implies, implies_true, Nat.reduceEqDiff, Nat.reduceAdd, Nat.reduceLeDiff, Nat.reduceSub, reduceCtorEq, reduceIte, b204_327, b204_350, skM ss, skM s', sw, sw', Nat.reduceLT]
        exact hq h' H'
      · rw [e] at cs hq ⊢
        rw [if_pos rfl] at hq
        refine sw_at (show aWP d 204 148 [(4, .int (nI 1)), (3, .ref q), (0, .ref 59), (1, .int (nI (n - 1))), (2, .int (bI row))] [] hh Q from ?_)
        have P := hq hh HH
        simp only [lv_args, z_v, z_lg, z_h, z_u, z_u1, z_c, z_ct, z_sk, sbne, lst1_d, ldel, lst2_d, ldel2, z_sw, z_rok, zi, eq_self, List.map_cons, List.map_nil, List.append_nil, List.nil_append, List.cons_append, Int32.reduceLT, Int32.reduceLE, Int32.reduceAdd, Int32.reduceSub, Int32.reduceMul, Int32.reduceToInt, Int32.reduceToNatClampNeg, Int.reduceLT, Int.reduceLE, Int.reduceNeg, true_and, and_true, or_self, or_false, false_or, false_and, and_false, true_or, or_true, if_true, if_false, ne_eq, Classical.not_not, not_true_eq_false, not_false_eq_true, true_implies, false_implies, implies_true, Nat.reduceEqDiff, Nat.reduceAdd, Nat.reduceLeDiff, Nat.reduceSub, reduceCtorEq, reduceIte, b204_148, b204_350]
        exact P
      · rw [e] at cs hq ⊢
        rw [if_neg (by omega), if_pos rfl] at hq
        obtain ⟨l1, l2⟩ := shp_2 cs
        refine sw_at (show aWP d 204 151 [(4, .int (nI 2)), (3, .ref q), (0, .ref 59), (1, .int (nI (n - 1))), (2, .int (bI row))] [] hh Q from ?_)
        simp only [lv_args, z_v, z_lg, z_h, z_u, z_u1, z_c, z_ct, z_sk, sbne, lst1_d, ldel, lst2_d, ldel2, z_sw, z_rok, zi, eq_self, List.map_cons, List.map_nil, List.append_nil, List.nil_append, List.cons_append, Int32.reduceLT, Int32.reduceLE, Int32.reduceAdd, Int32.reduceSub, Int32.reduceMul, Int32.reduceToInt, Int32.reduceToNatClampNeg, Int.reduceLT, Int.reduceLE, Int.reduceNeg, true_and, and_true, or_self, or_false, false_or, false_and, and_false, true_or, or_true, if_true, if_false, ne_eq, Classical.not_not, not_true_eq_false, not_false_eq_true, true_implies, false_implies, implies_true, Nat.reduceEqDiff, Nat.reduceAdd, Nat.reduceLeDiff, Nat.reduceSub, reduceCtorEq, reduceIte, b204_151, skM ss, sw, h00]
        refine sp_mlambda md fb (by omega) ht c6 hb h1 l1 l2 w' wla HH (by omega) (fun h' H' => ?_)
        have s' := (md_m md H').1.1
        have sw' := sq s' hq66
        simp only [lv_args, z_v, z_lg, z_h, z_u, z_u1, z_c, z_ct, z_sk, sbne, lst1_d, ldel, lst2_d, ldel2, z_sw, z_rok, zi, eq_self, List.map_cons, List.map_nil, List.append_nil, List.nil_append, List.cons_append, Int32.reduceLT, Int32.reduceLE, Int32.reduceAdd, Int32.reduceSub, Int32.reduceMul, Int32.reduceToInt, Int32.reduceToNatClampNeg, Int.reduceLT, Int.reduceLE, Int.reduceNeg, true_and, and_true, or_self, or_false, false_or, false_and, and_false, true_or, or_true, if_true, if_false, ne_eq, Classical.not_not, not_true_eq_false, not_false_eq_true, true_implies, false_implies, implies_true, Nat.reduceEqDiff, Nat.reduceAdd, Nat.reduceLeDiff, Nat.reduceSub, reduceCtorEq, reduceIte, b204_151, b204_350, skM ss, skM s', sw, sw', Nat.reduceLT]
        exact hq h' H'
      · have hl : 1 ≤ (pts N n).length := by
          rcases e with e | e | e | e
          · rw [e] at cs
            have := shp_3 cs
            omega
          · rw [e] at cs
            have := shp_7 cs (by omega)
            omega
          · rw [e] at cs
            have := shp_7 cs (by omega)
            omega
          · rw [e] at cs
            have := shp_7 cs (by omega)
            omega
        rw [if_neg (by omega), if_neg (by omega), if_neg (by omega), if_neg (by omega), if_neg (by omega), if_neg (by omega), if_neg (by omega)] at hq
        have go := body1 hl hq
        rcases e with e | e | e | e
        · rw [e]
          exact sw_at (show aWP d 204 340 [(4, .int (nI 3)), (3, .ref q), (0, .ref 59), (1, .int (nI (n - 1))), (2, .int (bI row))] [] hh Q from go _)
        · rw [e]
          exact sw_at (show aWP d 204 340 [(4, .int (nI 7)), (3, .ref q), (0, .ref 59), (1, .int (nI (n - 1))), (2, .int (bI row))] [] hh Q from go _)
        · rw [e]
          exact sw_at (show aWP d 204 340 [(4, .int (nI 8)), (3, .ref q), (0, .ref 59), (1, .int (nI (n - 1))), (2, .int (bI row))] [] hh Q from go _)
        · rw [e]
          exact sw_at (show aWP d 204 340 [(4, .int (nI 9)), (3, .ref q), (0, .ref 59), (1, .int (nI (n - 1))), (2, .int (bI row))] [] hh Q from go _)
      · rw [e] at cs hq ⊢
        rw [if_neg (by omega), if_neg (by omega), if_pos rfl] at hq
        obtain ⟨l1, l2⟩ := shp_4 cs
        refine sw_at (show aWP d 204 159 [(4, .int (nI 4)), (3, .ref q), (0, .ref 59), (1, .int (nI (n - 1))), (2, .int (bI row))] [] hh Q from ?_)
        simp only [lv_args, z_v, z_lg, z_h, z_u, z_u1, z_c, z_ct, z_sk, sbne, lst1_d, ldel, lst2_d, ldel2, z_sw, z_rok, zi, eq_self, List.map_cons, List.map_nil, List.append_nil, List.nil_append, List.cons_append, Int32.reduceLT, Int32.reduceLE, Int32.reduceAdd, Int32.reduceSub, Int32.reduceMul, Int32.reduceToInt, Int32.reduceToNatClampNeg, Int.reduceLT, Int.reduceLE, Int.reduceNeg, true_and, and_true, or_self, or_false, false_or, false_and, and_false, true_or, or_true, if_true, if_false, ne_eq, Classical.not_not, not_true_eq_false, not_false_eq_true, true_implies, false_implies, implies_true, Nat.reduceEqDiff, Nat.reduceAdd, Nat.reduceLeDiff, Nat.reduceSub, reduceCtorEq, reduceIte, b204_159, skM ss, sw, h00]
        refine sp_mlet (rec := false) md fb (by omega) ht c6 hb h1 l1 l2 w' HH (by omega) (fun h' H' => ?_)
        have s' := (md_m md H').1.1
        have sw' := sq s' hq66
        simp only [lv_args, z_v, z_lg, z_h, z_u, z_u1, z_c, z_ct, z_sk, sbne, lst1_d, ldel, lst2_d, ldel2, z_sw, z_rok, zi, eq_self, List.map_cons, List.map_nil, List.append_nil, List.nil_append, List.cons_append, Int32.reduceLT, Int32.reduceLE, Int32.reduceAdd, Int32.reduceSub, Int32.reduceMul, Int32.reduceToInt, Int32.reduceToNatClampNeg, Int.reduceLT, Int.reduceLE, Int.reduceNeg, true_and, and_true, or_self, or_false, false_or, false_and, and_false, true_or, or_true, if_true, if_false, ne_eq, Classical.not_not, not_true_eq_false, not_false_eq_true, true_implies, false_implies, implies_true, Nat.reduceEqDiff, Nat.reduceAdd, Nat.reduceLeDiff, Nat.reduceSub, reduceCtorEq, reduceIte, b204_159, b204_350, skM ss, skM s', sw, sw', Nat.reduceLT]
        exact hq h' H'
      · rw [e] at cs hq ⊢
        rw [if_neg (by omega), if_neg (by omega), if_neg (by omega), if_pos rfl] at hq
        obtain ⟨l1, l2⟩ := shp_5 cs
        refine sw_at (show aWP d 204 168 [(4, .int (nI 5)), (3, .ref q), (0, .ref 59), (1, .int (nI (n - 1))), (2, .int (bI row))] [] hh Q from ?_)
        simp only [lv_args, z_v, z_lg, z_h, z_u, z_u1, z_c, z_ct, z_sk, sbne, lst1_d, ldel, lst2_d, ldel2, z_sw, z_rok, zi, eq_self, List.map_cons, List.map_nil, List.append_nil, List.nil_append, List.cons_append, Int32.reduceLT, Int32.reduceLE, Int32.reduceAdd, Int32.reduceSub, Int32.reduceMul, Int32.reduceToInt, Int32.reduceToNatClampNeg, Int.reduceLT, Int.reduceLE, Int.reduceNeg, true_and, and_true, or_self, or_false, false_or, false_and, and_false, true_or, or_true, if_true, if_false, ne_eq, Classical.not_not, not_true_eq_false, not_false_eq_true, true_implies, false_implies, implies_true, Nat.reduceEqDiff, Nat.reduceAdd, Nat.reduceLeDiff, Nat.reduceSub, reduceCtorEq, reduceIte, b204_168, skM ss, sw, h00]
        refine sp_mlet (rec := true) md fb (by omega) ht c6 hb h1 l1 l2 w' HH (by omega) (fun h' H' => ?_)
        have s' := (md_m md H').1.1
        have sw' := sq s' hq66
        simp only [lv_args, z_v, z_lg, z_h, z_u, z_u1, z_c, z_ct, z_sk, sbne, lst1_d, ldel, lst2_d, ldel2, z_sw, z_rok, zi, eq_self, List.map_cons, List.map_nil, List.append_nil, List.nil_append, List.cons_append, Int32.reduceLT, Int32.reduceLE, Int32.reduceAdd, Int32.reduceSub, Int32.reduceMul, Int32.reduceToInt, Int32.reduceToNatClampNeg, Int.reduceLT, Int.reduceLE, Int.reduceNeg, true_and, and_true, or_self, or_false, false_or, false_and, and_false, true_or, or_true, if_true, if_false, ne_eq, Classical.not_not, not_true_eq_false, not_false_eq_true, true_implies, false_implies, implies_true, Nat.reduceEqDiff, Nat.reduceAdd, Nat.reduceLeDiff, Nat.reduceSub, reduceCtorEq, reduceIte, b204_168, b204_350, skM ss, skM s', sw, sw', Nat.reduceLT]
        exact hq h' H'
      · -- set!
        rw [e] at cs hq ⊢
        rw [if_neg (by omega), if_neg (by omega), if_neg (by omega), if_neg (by omega), if_pos rfl] at hq
        obtain ⟨l1, l2⟩ := shp_6 cs
        refine sw_at (show aWP d 204 177 [(4, .int (nI 6)), (3, .ref q), (0, .ref 59), (1, .int (nI (n - 1))), (2, .int (bI row))] [] hh Q from ?_)
        obtain ⟨mA, a1, a2, a3, a4, a5⟩ := sec 1 (by omega)
        obtain ⟨mB, b1, b2, b3, b4, b5⟩ := sec 2 (by omega)
        obtain ⟨j, hj, ej, ej2, hj3⟩ := nok_name mm.2.2.2 (by omega : 1 ≤ prt N n 1) a1 l2
        have ev : hA hh (q + 2) (prt N n 1 - 1) = nI (mt.idxOf j) := by rw [(mm.2.2.1.1 _ (by omega) a1).2.1, if_pos l2, ej2]
        obtain ⟨jw1, jw2⟩ := mm.2.2.1.2.1 j hj
        obtain ⟨pq1, pq2⟩ := md_p md HH (by omega : 1 ≤ prt N n 1) a1
        rw [ej2] at hq
        have c7 : (prt N n 1 - 1 < 6200) = True := eq_true (by omega)
        have c3 : (mt.idxOf j < 3000) = True := eq_true jw1
        have lt1 := trl_lt a3.1
        have fin : ∀ y2 h2, MW g (n + 1) b y2 → MH N mt q h0 y2 h2 → (∀ h', MH N mt q h0 (mF N f (prt N n 2) false y2) h' → Q none h') → aWP d 204 225 [(4, .int (nI 6)), (3, .ref q), (0, .ref 59), (1, .int (nI (n - 1))), (2, .int (bI row))] [] h2 Q := fun y2 h2 w2 H2 q2 => by
          have m2 := md_m md H2
          have s2 := m2.1.1
          have sw2 := sq s2 hq66
          simp only [lv_args, z_v, z_lg, z_h, z_u, z_u1, z_c, z_ct, z_sk, sbne, lst1_d, ldel, lst2_d, ldel2, z_sw, z_rok, zi, eq_self, List.map_cons, List.map_nil, List.append_nil, List.nil_append, List.cons_append, Int32.reduceLT, Int32.reduceLE, Int32.reduceAdd, Int32.reduceSub, Int32.reduceMul, Int32.reduceToInt, Int32.reduceToNatClampNeg, Int.reduceLT, Int.reduceLE, Int.reduceNeg, true_and, and_true, or_self, or_false, false_or, false_and, and_false, true_or, or_true, if_true, if_false, ne_eq, Classical.not_not, not_true_eq_false, not_false_eq_true, true_implies, false_implies, implies_true, Nat.reduceEqDiff, Nat.reduceAdd, Nat.reduceLeDiff, Nat.reduceSub, reduceCtorEq, reduceIte, b204_225, skM s2, sw2, h00, z2]
          refine m_part (k := 2) m2 ht c6 hb h1 (by omega) ?_
          rw [b5]
          simp only [lv_args, z_v, z_lg, z_h, z_u, z_u1, z_c, z_ct, z_sk, sbne, lst1_d, ldel, lst2_d, ldel2, z_sw, z_rok, zi, eq_self, List.map_cons, List.map_nil, List.append_nil, List.nil_append, List.cons_append, Int32.reduceLT, Int32.reduceLE, Int32.reduceAdd, Int32.reduceSub, Int32.reduceMul, Int32.reduceToInt, Int32.reduceToNatClampNeg, Int.reduceLT, Int.reduceLE, Int.reduceNeg, true_and, and_true, or_self, or_false, false_or, false_and, and_false, true_or, or_true, if_true, if_false, ne_eq, Classical.not_not, not_true_eq_false, not_false_eq_true, true_implies, false_implies, implies_true, Nat.reduceEqDiff, Nat.reduceAdd, Nat.reduceLeDiff, Nat.reduceSub, reduceCtorEq, reduceIte, b204_225, skM s2, sw2, h00, Nat.reduceLT]
          refine ih g (by omega) (by omega) (prt N n 2) mB false y2 h2 _ _ b3.1 (by omega) (by omega) (mw_sub w2 b2 b4) H2 (by omega) (fun h' H' => ?_)
          have s' := (md_m md H').1.1
          have sw' := sq s' hq66
          simp only [lv_args, z_v, z_lg, z_h, z_u, z_u1, z_c, z_ct, z_sk, sbne, lst1_d, ldel, lst2_d, ldel2, z_sw, z_rok, zi, eq_self, List.map_cons, List.map_nil, List.append_nil, List.nil_append, List.cons_append, Int32.reduceLT, Int32.reduceLE, Int32.reduceAdd, Int32.reduceSub, Int32.reduceMul, Int32.reduceToInt, Int32.reduceToNatClampNeg, Int.reduceLT, Int.reduceLE, Int.reduceNeg, true_and, and_true, or_self, or_false, false_or, false_and, and_false, true_or, or_true, if_true, if_false, ne_eq, Classical.not_not, not_true_eq_false, not_false_eq_true, true_implies, false_implies, implies_true, Nat.reduceEqDiff, Nat.reduceAdd, Nat.reduceLeDiff, Nat.reduceSub, reduceCtorEq, reduceIte, b204_225, b204_350, skM s2, skM s', sw2, sw', Nat.reduceLT]
          exact q2 h' H'
        simp only [lv_args, z_v, z_lg, z_h, z_u, z_u1, z_c, z_ct, z_sk, sbne, lst1_d, ldel, lst2_d, ldel2, z_sw, z_rok, zi, eq_self, List.map_cons, List.map_nil, List.append_nil, List.nil_append, List.cons_append, Int32.reduceLT, Int32.reduceLE, Int32.reduceAdd, Int32.reduceSub, Int32.reduceMul, Int32.reduceToInt, Int32.reduceToNatClampNeg, Int.reduceLT, Int.reduceLE, Int.reduceNeg, true_and, and_true, or_self, or_false, false_or, false_and, and_false, true_or, or_true, if_true, if_false, ne_eq, Classical.not_not, not_true_eq_false, not_false_eq_true, true_implies, false_implies, implies_true, Nat.reduceEqDiff, Nat.reduceAdd, Nat.reduceLeDiff, Nat.reduceSub, reduceCtorEq, reduceIte, b204_177, skM ss, srM ss, sw, nh, h00, z1]
        refine m_part (k := 1) mm ht c6 hb h1 (by omega) ?_
        rw [a5]
        simp only [lv_args, z_v, z_lg, z_h, z_u, z_u1, z_c, z_ct, z_sk, sbne, lst1_d, ldel, lst2_d, ldel2, z_sw, z_rok, zi, eq_self, List.map_cons, List.map_nil, List.append_nil, List.nil_append, List.cons_append, Int32.reduceLT, Int32.reduceLE, Int32.reduceAdd, Int32.reduceSub, Int32.reduceMul, Int32.reduceToInt, Int32.reduceToNatClampNeg, Int.reduceLT, Int.reduceLE, Int.reduceNeg, true_and, and_true, or_self, or_false, false_or, false_and, and_false, true_or, or_true, if_true, if_false, ne_eq, Classical.not_not, not_true_eq_false, not_false_eq_true, true_implies, false_implies, implies_true, Nat.reduceEqDiff, Nat.reduceAdd, Nat.reduceLeDiff, Nat.reduceSub, reduceCtorEq, reduceIte, b204_177, skM ss, srM ss, sw, nh, h00, Nat.reduceLT]
        simp (disch := omega) only [nI_ti, nI_cl, le0N, ltNN, c7, c3, ev, jw2, true_and]
        try simp only [lv_args, z_v, z_lg, z_h, z_u, z_u1, z_c, z_ct, z_sk, sbne, lst1_d, ldel, lst2_d, ldel2, z_sw, z_rok, zi, eq_self, List.map_cons, List.map_nil, List.append_nil, List.nil_append, List.cons_append, Int32.reduceLT, Int32.reduceLE, Int32.reduceAdd, Int32.reduceSub, Int32.reduceMul, Int32.reduceToInt, Int32.reduceToNatClampNeg, Int.reduceLT, Int.reduceLE, Int.reduceNeg, true_and, and_true, or_self, or_false, false_or, false_and, and_false, true_or, or_true, if_true, if_false, ne_eq, Classical.not_not, not_true_eq_false, not_false_eq_true, true_implies, false_implies, implies_true, Nat.reduceEqDiff, Nat.reduceAdd, Nat.reduceLeDiff, Nat.reduceSub, reduceCtorEq, reduceIte, b204_177, skM ss, srM ss, sw, nh]
        try simp (disch := omega) only [nI_ti, nI_cl, le0N, ltNN, c7, c3, ev, jw2, true_and]
        rw [w_eq md]
        refine ⟨fun c => ?_, fun c => ?_⟩
        · rw [if_neg (by omega)] at hq
          simp only [lv_args, z_v, z_lg, z_h, z_u, z_u1, z_c, z_ct, z_sk, sbne, lst1_d, ldel, lst2_d, ldel2, z_sw, z_rok, zi, eq_self, List.map_cons, List.map_nil, List.append_nil, List.nil_append, List.cons_append, Int32.reduceLT, Int32.reduceLE, Int32.reduceAdd, Int32.reduceSub, Int32.reduceMul, Int32.reduceToInt, Int32.reduceToNatClampNeg, Int.reduceLT, Int.reduceLE, Int.reduceNeg, true_and, and_true, or_self, or_false, false_or, false_and, and_false, true_or, or_true, if_true, if_false, ne_eq, Classical.not_not, not_true_eq_false, not_false_eq_true, true_implies, false_implies, implies_true, Nat.reduceEqDiff, Nat.reduceAdd, Nat.reduceLeDiff, Nat.reduceSub, reduceCtorEq, reduceIte, b204_215, skM ss, sw, h00, z1]
          refine m_part (k := 1) mm ht c6 hb h1 (by omega) ?_
          rw [a5]
          simp only [lv_args, z_v, z_lg, z_h, z_u, z_u1, z_c, z_ct, z_sk, sbne, lst1_d, ldel, lst2_d, ldel2, z_sw, z_rok, zi, eq_self, List.map_cons, List.map_nil, List.append_nil, List.nil_append, List.cons_append, Int32.reduceLT, Int32.reduceLE, Int32.reduceAdd, Int32.reduceSub, Int32.reduceMul, Int32.reduceToInt, Int32.reduceToNatClampNeg, Int.reduceLT, Int.reduceLE, Int.reduceNeg, true_and, and_true, or_self, or_false, false_or, false_and, and_false, true_or, or_true, if_true, if_false, ne_eq, Classical.not_not, not_true_eq_false, not_false_eq_true, true_implies, false_implies, implies_true, Nat.reduceEqDiff, Nat.reduceAdd, Nat.reduceLeDiff, Nat.reduceSub, reduceCtorEq, reduceIte, b204_215, skM ss, sw, h00, Nat.reduceLT]
          refine sp_uses md HH w'.1 w'.2.2.2.2.2.1 (by omega) (by omega) a1 l2 (by omega) (fun hu Hu => ?_)
          have mu := md_m md Hu
          have su := mu.1.1
          have swu := sq su hq66
          have go := fin _ hu (mw_us ⟨a2, by omega⟩ (by omega) (mw_g w' (Nat.le_succ _))) Hu hq
          simp only [lv_args, z_v, z_lg, z_h, z_u, z_u1, z_c, z_ct, z_sk, sbne, lst1_d, ldel, lst2_d, ldel2, z_sw, z_rok, zi, eq_self, List.map_cons, List.map_nil, List.append_nil, List.nil_append, List.cons_append, Int32.reduceLT, Int32.reduceLE, Int32.reduceAdd, Int32.reduceSub, Int32.reduceMul, Int32.reduceToInt, Int32.reduceToNatClampNeg, Int.reduceLT, Int.reduceLE, Int.reduceNeg, true_and, and_true, or_self, or_false, false_or, false_and, and_false, true_or, or_true, if_true, if_false, ne_eq, Classical.not_not, not_true_eq_false, not_false_eq_true, true_implies, false_implies, implies_true, Nat.reduceEqDiff, Nat.reduceAdd, Nat.reduceLeDiff, Nat.reduceSub, reduceCtorEq, reduceIte, b204_215, skM ss, skM su, sw, swu, Nat.reduceLT]
          exact go
        · rw [if_pos (by omega)] at hq
          simp only [lv_args, z_v, z_lg, z_h, z_u, z_u1, z_c, z_ct, z_sk, sbne, lst1_d, ldel, lst2_d, ldel2, z_sw, z_rok, zi, eq_self, List.map_cons, List.map_nil, List.append_nil, List.nil_append, List.cons_append, Int32.reduceLT, Int32.reduceLE, Int32.reduceAdd, Int32.reduceSub, Int32.reduceMul, Int32.reduceToInt, Int32.reduceToNatClampNeg, Int.reduceLT, Int.reduceLE, Int.reduceNeg, true_and, and_true, or_self, or_false, false_or, false_and, and_false, true_or, or_true, if_true, if_false, ne_eq, Classical.not_not, not_true_eq_false, not_false_eq_true, true_implies, false_implies, implies_true, Nat.reduceEqDiff, Nat.reduceAdd, Nat.reduceLeDiff, Nat.reduceSub, reduceCtorEq, reduceIte, b204_196, skM ss, srM ss, sw, nh, h00, z1]
          refine m_part (k := 1) mm ht c6 hb h1 (by omega) ?_
          rw [a5]
          simp only [lv_args, z_v, z_lg, z_h, z_u, z_u1, z_c, z_ct, z_sk, sbne, lst1_d, ldel, lst2_d, ldel2, z_sw, z_rok, zi, eq_self, List.map_cons, List.map_nil, List.append_nil, List.nil_append, List.cons_append, Int32.reduceLT, Int32.reduceLE, Int32.reduceAdd, Int32.reduceSub, Int32.reduceMul, Int32.reduceToInt, Int32.reduceToNatClampNeg, Int.reduceLT, Int.reduceLE, Int.reduceNeg, true_and, and_true, or_self, or_false, false_or, false_and, and_false, true_or, or_true, if_true, if_false, ne_eq, Classical.not_not, not_true_eq_false, not_false_eq_true, true_implies, false_implies, implies_true, Nat.reduceEqDiff, Nat.reduceAdd, Nat.reduceLeDiff, Nat.reduceSub, reduceCtorEq, reduceIte, b204_196, skM ss, srM ss, sw, nh, h00, Nat.reduceLT]
          simp (disch := omega) only [nI_ti, nI_cl, le0N, ltNN, c7, pq1, true_and]
          try simp only [lv_args, z_v, z_lg, z_h, z_u, z_u1, z_c, z_ct, z_sk, sbne, lst1_d, ldel, lst2_d, ldel2, z_sw, z_rok, zi, eq_self, List.map_cons, List.map_nil, List.append_nil, List.nil_append, List.cons_append, Int32.reduceLT, Int32.reduceLE, Int32.reduceAdd, Int32.reduceSub, Int32.reduceMul, Int32.reduceToInt, Int32.reduceToNatClampNeg, Int.reduceLT, Int.reduceLE, Int.reduceNeg, true_and, and_true, or_self, or_false, false_or, false_and, and_false, true_or, or_true, if_true, if_false, ne_eq, Classical.not_not, not_true_eq_false, not_false_eq_true, true_implies, false_implies, implies_true, Nat.reduceEqDiff, Nat.reduceAdd, Nat.reduceLeDiff, Nat.reduceSub, reduceCtorEq, reduceIte, b204_196, skM ss, sw, h00]
          refine sp_wr (k := 5) (p := nQ N (prt N n 1)) md HH rfl rfl (by decide) pq2 (fun h' H' => ?_)
          have s' := (md_m md H').1.1
          have sw' := sq s' hq66
          have go := fin (mW 5 (nQ N (prt N n 1)) y1) h' (mw_g (g' := g) w' (Nat.le_succ _) : MW g (n + 1) b y1) H' hq
          simp only [lv_args, z_v, z_lg, z_h, z_u, z_u1, z_c, z_ct, z_sk, sbne, lst1_d, ldel, lst2_d, ldel2, z_sw, z_rok, zi, eq_self, List.map_cons, List.map_nil, List.append_nil, List.nil_append, List.cons_append, Int32.reduceLT, Int32.reduceLE, Int32.reduceAdd, Int32.reduceSub, Int32.reduceMul, Int32.reduceToInt, Int32.reduceToNatClampNeg, Int.reduceLT, Int.reduceLE, Int.reduceNeg, true_and, and_true, or_self, or_false, false_or, false_and, and_false, true_or, or_true, if_true, if_false, ne_eq, Classical.not_not, not_true_eq_false, not_false_eq_true, true_implies, false_implies, implies_true, Nat.reduceEqDiff, Nat.reduceAdd, Nat.reduceLeDiff, Nat.reduceSub, reduceCtorEq, reduceIte, b204_196, skM ss, skM s', sw, sw', Nat.reduceLT]
          exact go
      · -- define
        rw [e] at cs hq ⊢
        rw [if_neg (by omega), if_neg (by omega), if_neg (by omega), if_neg (by omega), if_neg (by omega), if_pos rfl] at hq
        obtain ⟨_, l1, l2⟩ := shp_10 cs
        refine sw_at (show aWP d 204 239 [(4, .int (nI 10)), (3, .ref q), (0, .ref 59), (1, .int (nI (n - 1))), (2, .int (bI row))] [] hh Q from ?_)
        obtain ⟨mA, a1, a2, a3, a4, a5⟩ := sec 1 (by omega)
        obtain ⟨mB, b1, b2, b3, b4, b5⟩ := sec 2 (by omega)
        obtain ⟨j, hj, ej, ej2, hj3⟩ := nok_name mm.2.2.2 (by omega : 1 ≤ prt N n 1) a1 l2
        have ev0 : ∀ {y2 h2}, MH N mt q h0 y2 h2 → hA h2 (q + 2) (prt N n 1 - 1) = nI (mt.idxOf j) := fun {y2 h2} H2 => by rw [((md_m md H2).2.2.1.1 _ (by omega) a1).2.1, if_pos l2, ej2]
        have ev := ev0 HH
        obtain ⟨jw1, jw2⟩ := mm.2.2.1.2.1 j hj
        obtain ⟨pq1, pq2⟩ := md_p md HH (by omega : 1 ≤ prt N n 1) a1
        rw [ej2] at hq
        have c7 : (prt N n 1 - 1 < 6200) = True := eq_true (by omega)
        have c3 : (mt.idxOf j < 3000) = True := eq_true jw1
        have fin : ∀ y2 h2, MW g (n + 1) b y2 → MH N mt q h0 y2 h2 → (∀ h', MH N mt q h0 (mF N f (prt N n 2) false (mMn (prt N n 1) 3 (dA N j) y2)) h' → Q none h') → aWP d 204 274 [(4, .int (nI 10)), (3, .ref q), (0, .ref 59), (1, .int (nI (n - 1))), (2, .int (bI row))] [] h2 Q := fun y2 h2 w2 H2 q2 => by
          have m2 := md_m md H2
          have s2 := m2.1.1
          have sw2 := sq s2 hq66
          have n2 := nq m2.1.2 hq66
          have H3 := mh_me (n := prt N n 1) (me := 3) hq66 H2
          have m3 := md_m md H3
          have s3 := m3.1.1
          have sw3 := sq s3 hq66
          have n3 := nq m3.1.2 hq66
          have ev3 := ev0 H3
          have e11 : hA h2 (q + 11) (mt.idxOf j) = dA N j := by
            rw [H2.1.2.2 (q + 11) (by unfold YA; omega)]
            exact md.2.1 j hj
          have H4 := mh_nu (n := prt N n 1) (nu := dA N j) hq66 H3
          have go : ∀ (h4 : Hp) (Q' : Option Value → Hp → Prop), MH N mt q h0 (mMn (prt N n 1) 3 (dA N j) y2) h4 → (∀ h', MH N mt q h0 (mF N f (prt N n 2) false (mMn (prt N n 1) 3 (dA N j) y2)) h' → Q' none h') → aEv (d - 1) 204 [.ref 59, .int (nI (prt N n 2 - 1)), .int 0] h4 Q' := fun h4 Q' H4 q4 => ih g (by omega) (by omega) (prt N n 2) mB false (mMn (prt N n 1) 3 (dA N j) y2) h4 _ _ b3.1 (by omega) (by omega) (mw_sub (w2 : MW g (n + 1) b y2) b2 b4) H4 (by omega) q4
          rcases hq66 with rfl | rfl
          · have x6 : hN h2 72 = 6200 := n2.2.2.2.2.2.1
            have x7 : hN h2 73 = 6200 := n2.2.2.2.2.2.2.1
            have x2 : hN h2 68 = 6200 := n2.2.1
            have x11 : hN h2 77 = 3000 := n2.2.2.2.2.2.2.2.2.2.2.1
            have e11 : hA h2 77 (mt.idxOf j) = dA N j := e11
            have ev2 : hA h2 68 (prt N n 1 - 1) = nI (mt.idxOf j) := ev0 H2
            have H4 : MH N mt 66 h0 (mMn (prt N n 1) 3 (dA N j) y2) (pA (pA h2 72 (upd (hA h2 72) (prt N n 1 - 1) 3)) 73 (upd (hA h2 73) (prt N n 1 - 1) (dA N j))) := H4
            have m4 := md_m md H4
            have s4 := m4.1.1
            have s3 : Sk (pA h2 72 (upd (hA h2 72) (prt N n 1 - 1) 3)) := s3
            simp only [lv_args, z_v, z_lg, z_h, z_u, z_u1, z_c, z_ct, z_sk, sbne, lst1_d, ldel, lst2_d, ldel2, z_sw, z_rok, zi, eq_self, List.map_cons, List.map_nil, List.append_nil, List.nil_append, List.cons_append, Int32.reduceLT, Int32.reduceLE, Int32.reduceAdd, Int32.reduceSub, Int32.reduceMul, Int32.reduceToInt, Int32.reduceToNatClampNeg, Int.reduceLT, Int.reduceLE, Int.reduceNeg, true_and, and_true, or_self, or_false, false_or, false_and, and_false, true_or, or_true, if_true, if_false, ne_eq, Classical.not_not, not_true_eq_false, not_false_eq_true, true_implies, false_implies, implies_true, Nat.reduceEqDiff, Nat.reduceAdd, Nat.reduceLeDiff, Nat.reduceSub, reduceCtorEq, reduceIte, b204_274, skM s2, srM s2, h00, z1, x6]
            refine m_part (k := 1) m2 ht c6 hb h1 (by omega) ?_
            rw [a5]
            simp only [lv_args, z_v, z_lg, z_h, z_u, z_u1, z_c, z_ct, z_sk, sbne, lst1_d, ldel, lst2_d, ldel2, z_sw, z_rok, zi, eq_self, List.map_cons, List.map_nil, List.append_nil, List.nil_append, List.cons_append, Int32.reduceLT, Int32.reduceLE, Int32.reduceAdd, Int32.reduceSub, Int32.reduceMul, Int32.reduceToInt, Int32.reduceToNatClampNeg, Int.reduceLT, Int.reduceLE, Int.reduceNeg, true_and, and_true, or_self, or_false, false_or, false_and, and_false, true_or, or_true, if_true, if_false, ne_eq, Classical.not_not, not_true_eq_false, not_false_eq_true, true_implies, false_implies, implies_true, Nat.reduceEqDiff, Nat.reduceAdd, Nat.reduceLeDiff, Nat.reduceSub, reduceCtorEq, reduceIte, b204_274, skM s2, srM s2, h00, Nat.reduceLT, x6]
            simp (disch := omega) only [nI_ti, nI_cl, le0N, ltNN, c7, true_and]
            try simp only [lv_args, z_v, z_lg, z_h, z_u, z_u1, z_c, z_ct, z_sk, sbne, lst1_d, ldel, lst2_d, ldel2, z_sw, z_rok, zi, eq_self, List.map_cons, List.map_nil, List.append_nil, List.nil_append, List.cons_append, Int32.reduceLT, Int32.reduceLE, Int32.reduceAdd, Int32.reduceSub, Int32.reduceMul, Int32.reduceToInt, Int32.reduceToNatClampNeg, Int.reduceLT, Int.reduceLE, Int.reduceNeg, true_and, and_true, or_self, or_false, false_or, false_and, and_false, true_or, or_true, if_true, if_false, ne_eq, Classical.not_not, not_true_eq_false, not_false_eq_true, true_implies, false_implies, implies_true, Nat.reduceEqDiff, Nat.reduceAdd, Nat.reduceLeDiff, Nat.reduceSub, reduceCtorEq, reduceIte, b204_274, skM s2, srM s2, h00, x6, z1]
            refine m_part (k := 1) m3 ht c6 hb h1 (by omega) ?_
            rw [a5]
            simp only [lv_args, z_v, z_lg, z_h, z_u, z_u1, z_c, z_ct, z_sk, sbne, lst1_d, ldel, lst2_d, ldel2, z_sw, z_rok, zi, eq_self, List.map_cons, List.map_nil, List.append_nil, List.nil_append, List.cons_append, Int32.reduceLT, Int32.reduceLE, Int32.reduceAdd, Int32.reduceSub, Int32.reduceMul, Int32.reduceToInt, Int32.reduceToNatClampNeg, Int.reduceLT, Int.reduceLE, Int.reduceNeg, true_and, and_true, or_self, or_false, false_or, false_and, and_false, true_or, or_true, if_true, if_false, ne_eq, Classical.not_not, not_true_eq_false, not_false_eq_true, true_implies, false_implies, implies_true, Nat.reduceEqDiff, Nat.reduceAdd, Nat.reduceLeDiff, Nat.reduceSub, reduceCtorEq, reduceIte, b204_274, skM s2, srM s2, skM s3, srM s3, h00, Nat.reduceLT, x7, x2, x11, z1]
            refine m_part (k := 1) m3 ht c6 hb h1 (by omega) ?_
            rw [a5]
            simp only [lv_args, z_v, z_lg, z_h, z_u, z_u1, z_c, z_ct, z_sk, sbne, lst1_d, ldel, lst2_d, ldel2, z_sw, z_rok, zi, eq_self, List.map_cons, List.map_nil, List.append_nil, List.nil_append, List.cons_append, Int32.reduceLT, Int32.reduceLE, Int32.reduceAdd, Int32.reduceSub, Int32.reduceMul, Int32.reduceToInt, Int32.reduceToNatClampNeg, Int.reduceLT, Int.reduceLE, Int.reduceNeg, true_and, and_true, or_self, or_false, false_or, false_and, and_false, true_or, or_true, if_true, if_false, ne_eq, Classical.not_not, not_true_eq_false, not_false_eq_true, true_implies, false_implies, implies_true, Nat.reduceEqDiff, Nat.reduceAdd, Nat.reduceLeDiff, Nat.reduceSub, reduceCtorEq, reduceIte, b204_274, skM s2, srM s2, skM s3, srM s3, h00, Nat.reduceLT, x7, x2, x11, z1]
            simp (disch := omega) only [nI_ti, nI_cl, le0N, ltNN, c7, c3, ev2, e11, true_and]
            try simp only [lv_args, z_v, z_lg, z_h, z_u, z_u1, z_c, z_ct, z_sk, sbne, lst1_d, ldel, lst2_d, ldel2, z_sw, z_rok, zi, eq_self, List.map_cons, List.map_nil, List.append_nil, List.nil_append, List.cons_append, Int32.reduceLT, Int32.reduceLE, Int32.reduceAdd, Int32.reduceSub, Int32.reduceMul, Int32.reduceToInt, Int32.reduceToNatClampNeg, Int.reduceLT, Int.reduceLE, Int.reduceNeg, true_and, and_true, or_self, or_false, false_or, false_and, and_false, true_or, or_true, if_true, if_false, ne_eq, Classical.not_not, not_true_eq_false, not_false_eq_true, true_implies, false_implies, implies_true, Nat.reduceEqDiff, Nat.reduceAdd, Nat.reduceLeDiff, Nat.reduceSub, reduceCtorEq, reduceIte, b204_274, skM s2, srM s2, skM s3, srM s3, h00, Nat.reduceLT, x7, x2, x11, z1]
            try simp (disch := omega) only [nI_ti, nI_cl, le0N, ltNN, c7, c3, ev2, e11, true_and]
            try simp only [lv_args, z_v, z_lg, z_h, z_u, z_u1, z_c, z_ct, z_sk, sbne, lst1_d, ldel, lst2_d, ldel2, z_sw, z_rok, zi, eq_self, List.map_cons, List.map_nil, List.append_nil, List.nil_append, List.cons_append, Int32.reduceLT, Int32.reduceLE, Int32.reduceAdd, Int32.reduceSub, Int32.reduceMul, Int32.reduceToInt, Int32.reduceToNatClampNeg, Int.reduceLT, Int.reduceLE, Int.reduceNeg, true_and, and_true, or_self, or_false, false_or, false_and, and_false, true_or, or_true, if_true, if_false, ne_eq, Classical.not_not, not_true_eq_false, not_false_eq_true, true_implies, false_implies, implies_true, Nat.reduceEqDiff, Nat.reduceAdd, Nat.reduceLeDiff, Nat.reduceSub, reduceCtorEq, reduceIte, b204_274, skM s2, srM s2, skM s3, srM s3, h00, Nat.reduceLT, x7, x2, x11, z1, z2]
            refine m_part (k := 2) m4 ht c6 hb h1 (by omega) ?_
            rw [b5]
            simp only [lv_args, z_v, z_lg, z_h, z_u, z_u1, z_c, z_ct, z_sk, sbne, lst1_d, ldel, lst2_d, ldel2, z_sw, z_rok, zi, eq_self, List.map_cons, List.map_nil, List.append_nil, List.nil_append, List.cons_append, Int32.reduceLT, Int32.reduceLE, Int32.reduceAdd, Int32.reduceSub, Int32.reduceMul, Int32.reduceToInt, Int32.reduceToNatClampNeg, Int.reduceLT, Int.reduceLE, Int.reduceNeg, true_and, and_true, or_self, or_false, false_or, false_and, and_false, true_or, or_true, if_true, if_false, ne_eq, Classical.not_not, not_true_eq_false, not_false_eq_true, true_implies, false_implies, implies_true, Nat.reduceEqDiff, Nat.reduceAdd, Nat.reduceLeDiff, Nat.reduceSub, reduceCtorEq, reduceIte, b204_274, skM s4, h00, Nat.reduceLT]
            refine go _ _ H4 (fun h' H' => ?_)
            have s' := (md_m md H').1.1
            simp only [lv_args, z_v, z_lg, z_h, z_u, z_u1, z_c, z_ct, z_sk, sbne, lst1_d, ldel, lst2_d, ldel2, z_sw, z_rok, zi, eq_self, List.map_cons, List.map_nil, List.append_nil, List.nil_append, List.cons_append, Int32.reduceLT, Int32.reduceLE, Int32.reduceAdd, Int32.reduceSub, Int32.reduceMul, Int32.reduceToInt, Int32.reduceToNatClampNeg, Int.reduceLT, Int.reduceLE, Int.reduceNeg, true_and, and_true, or_self, or_false, false_or, false_and, and_false, true_or, or_true, if_true, if_false, ne_eq, Classical.not_not, not_true_eq_false, not_false_eq_true, true_implies, false_implies, implies_true, Nat.reduceEqDiff, Nat.reduceAdd, Nat.reduceLeDiff, Nat.reduceSub, reduceCtorEq, reduceIte, b204_274, b204_350, skM s4, skM s', Nat.reduceLT]
            exact q2 h' H'
          · have x6 : hN h2 92 = 6200 := n2.2.2.2.2.2.1
            have x7 : hN h2 93 = 6200 := n2.2.2.2.2.2.2.1
            have x2 : hN h2 88 = 6200 := n2.2.1
            have x11 : hN h2 97 = 3000 := n2.2.2.2.2.2.2.2.2.2.2.1
            have e11 : hA h2 97 (mt.idxOf j) = dA N j := e11
            have ev2 : hA h2 88 (prt N n 1 - 1) = nI (mt.idxOf j) := ev0 H2
            have H4 : MH N mt 86 h0 (mMn (prt N n 1) 3 (dA N j) y2) (pA (pA h2 92 (upd (hA h2 92) (prt N n 1 - 1) 3)) 93 (upd (hA h2 93) (prt N n 1 - 1) (dA N j))) := H4
            have m4 := md_m md H4
            have s4 := m4.1.1
            have s3 : Sk (pA h2 92 (upd (hA h2 92) (prt N n 1 - 1) 3)) := s3
            simp only [lv_args, z_v, z_lg, z_h, z_u, z_u1, z_c, z_ct, z_sk, sbne, lst1_d, ldel, lst2_d, ldel2, z_sw, z_rok, zi, eq_self, List.map_cons, List.map_nil, List.append_nil, List.nil_append, List.cons_append, Int32.reduceLT, Int32.reduceLE, Int32.reduceAdd, Int32.reduceSub, Int32.reduceMul, Int32.reduceToInt, Int32.reduceToNatClampNeg, Int.reduceLT, Int.reduceLE, Int.reduceNeg, true_and, and_true, or_self, or_false, false_or, false_and, and_false, true_or, or_true, if_true, if_false, ne_eq, Classical.not_not, not_true_eq_false, not_false_eq_true, true_implies, false_implies, implies_true, Nat.reduceEqDiff, Nat.reduceAdd, Nat.reduceLeDiff, Nat.reduceSub, reduceCtorEq, reduceIte, b204_274, skM s2, srM s2, h00, z1, x6]
            refine m_part (k := 1) m2 ht c6 hb h1 (by omega) ?_
            rw [a5]
            simp only [lv_args, z_v, z_lg, z_h, z_u, z_u1, z_c, z_ct, z_sk, sbne, lst1_d, ldel, lst2_d, ldel2, z_sw, z_rok, zi, eq_self, List.map_cons, List.map_nil, List.append_nil, List.nil_append, List.cons_append, Int32.reduceLT, Int32.reduceLE, Int32.reduceAdd, Int32.reduceSub, Int32.reduceMul, Int32.reduceToInt, Int32.reduceToNatClampNeg, Int.reduceLT, Int.reduceLE, Int.reduceNeg, true_and, and_true, or_self, or_false, false_or, false_and, and_false, true_or, or_true, if_true, if_false, ne_eq, Classical.not_not, not_true_eq_false, not_false_eq_true, true_implies, false_implies, implies_true, Nat.reduceEqDiff, Nat.reduceAdd, Nat.reduceLeDiff, Nat.reduceSub, reduceCtorEq, reduceIte, b204_274, skM s2, srM s2, h00, Nat.reduceLT, x6]
            simp (disch := omega) only [nI_ti, nI_cl, le0N, ltNN, c7, true_and]
            try simp only [lv_args, z_v, z_lg, z_h, z_u, z_u1, z_c, z_ct, z_sk, sbne, lst1_d, ldel, lst2_d, ldel2, z_sw, z_rok, zi, eq_self, List.map_cons, List.map_nil, List.append_nil, List.nil_append, List.cons_append, Int32.reduceLT, Int32.reduceLE, Int32.reduceAdd, Int32.reduceSub, Int32.reduceMul, Int32.reduceToInt, Int32.reduceToNatClampNeg, Int.reduceLT, Int.reduceLE, Int.reduceNeg, true_and, and_true, or_self, or_false, false_or, false_and, and_false, true_or, or_true, if_true, if_false, ne_eq, Classical.not_not, not_true_eq_false, not_false_eq_true, true_implies, false_implies, implies_true, Nat.reduceEqDiff, Nat.reduceAdd, Nat.reduceLeDiff, Nat.reduceSub, reduceCtorEq, reduceIte, b204_274, skM s2, srM s2, h00, x6, z1]
            refine m_part (k := 1) m3 ht c6 hb h1 (by omega) ?_
            rw [a5]
            simp only [lv_args, z_v, z_lg, z_h, z_u, z_u1, z_c, z_ct, z_sk, sbne, lst1_d, ldel, lst2_d, ldel2, z_sw, z_rok, zi, eq_self, List.map_cons, List.map_nil, List.append_nil, List.nil_append, List.cons_append, Int32.reduceLT, Int32.reduceLE, Int32.reduceAdd, Int32.reduceSub, Int32.reduceMul, Int32.reduceToInt, Int32.reduceToNatClampNeg, Int.reduceLT, Int.reduceLE, Int.reduceNeg, true_and, and_true, or_self, or_false, false_or, false_and, and_false, true_or, or_true, if_true, if_false, ne_eq, Classical.not_not, not_true_eq_false, not_false_eq_true, true_implies, false_implies, implies_true, Nat.reduceEqDiff, Nat.reduceAdd, Nat.reduceLeDiff, Nat.reduceSub, reduceCtorEq, reduceIte, b204_274, skM s2, srM s2, skM s3, srM s3, h00, Nat.reduceLT, x7, x2, x11, z1]
            refine m_part (k := 1) m3 ht c6 hb h1 (by omega) ?_
            rw [a5]
            simp only [lv_args, z_v, z_lg, z_h, z_u, z_u1, z_c, z_ct, z_sk, sbne, lst1_d, ldel, lst2_d, ldel2, z_sw, z_rok, zi, eq_self, List.map_cons, List.map_nil, List.append_nil, List.nil_append, List.cons_append, Int32.reduceLT, Int32.reduceLE, Int32.reduceAdd, Int32.reduceSub, Int32.reduceMul, Int32.reduceToInt, Int32.reduceToNatClampNeg, Int.reduceLT, Int.reduceLE, Int.reduceNeg, true_and, and_true, or_self, or_false, false_or, false_and, and_false, true_or, or_true, if_true, if_false, ne_eq, Classical.not_not, not_true_eq_false, not_false_eq_true, true_implies, false_implies, implies_true, Nat.reduceEqDiff, Nat.reduceAdd, Nat.reduceLeDiff, Nat.reduceSub, reduceCtorEq, reduceIte, b204_274, skM s2, srM s2, skM s3, srM s3, h00, Nat.reduceLT, x7, x2, x11, z1]
            simp (disch := omega) only [nI_ti, nI_cl, le0N, ltNN, c7, c3, ev2, e11, true_and]
            try simp only [lv_args, z_v, z_lg, z_h, z_u, z_u1, z_c, z_ct, z_sk, sbne, lst1_d, ldel, lst2_d, ldel2, z_sw, z_rok, zi, eq_self, List.map_cons, List.map_nil, List.append_nil, List.nil_append, List.cons_append, Int32.reduceLT, Int32.reduceLE, Int32.reduceAdd, Int32.reduceSub, Int32.reduceMul, Int32.reduceToInt, Int32.reduceToNatClampNeg, Int.reduceLT, Int.reduceLE, Int.reduceNeg, true_and, and_true, or_self, or_false, false_or, false_and, and_false, true_or, or_true, if_true, if_false, ne_eq, Classical.not_not, not_true_eq_false, not_false_eq_true, true_implies, false_implies, implies_true, Nat.reduceEqDiff, Nat.reduceAdd, Nat.reduceLeDiff, Nat.reduceSub, reduceCtorEq, reduceIte, b204_274, skM s2, srM s2, skM s3, srM s3, h00, Nat.reduceLT, x7, x2, x11, z1]
            try simp (disch := omega) only [nI_ti, nI_cl, le0N, ltNN, c7, c3, ev2, e11, true_and]
            try simp only [lv_args, z_v, z_lg, z_h, z_u, z_u1, z_c, z_ct, z_sk, sbne, lst1_d, ldel, lst2_d, ldel2, z_sw, z_rok, zi, eq_self, List.map_cons, List.map_nil, List.append_nil, List.nil_append, List.cons_append, Int32.reduceLT, Int32.reduceLE, Int32.reduceAdd, Int32.reduceSub, Int32.reduceMul, Int32.reduceToInt, Int32.reduceToNatClampNeg, Int.reduceLT, Int.reduceLE, Int.reduceNeg, true_and, and_true, or_self, or_false, false_or, false_and, and_false, true_or, or_true, if_true, if_false, ne_eq, Classical.not_not, not_true_eq_false, not_false_eq_true, true_implies, false_implies, implies_true, Nat.reduceEqDiff, Nat.reduceAdd, Nat.reduceLeDiff, Nat.reduceSub, reduceCtorEq, reduceIte, b204_274, skM s2, srM s2, skM s3, srM s3, h00, Nat.reduceLT, x7, x2, x11, z1, z2]
            refine m_part (k := 2) m4 ht c6 hb h1 (by omega) ?_
            rw [b5]
            simp only [lv_args, z_v, z_lg, z_h, z_u, z_u1, z_c, z_ct, z_sk, sbne, lst1_d, ldel, lst2_d, ldel2, z_sw, z_rok, zi, eq_self, List.map_cons, List.map_nil, List.append_nil, List.nil_append, List.cons_append, Int32.reduceLT, Int32.reduceLE, Int32.reduceAdd, Int32.reduceSub, Int32.reduceMul, Int32.reduceToInt, Int32.reduceToNatClampNeg, Int.reduceLT, Int.reduceLE, Int.reduceNeg, true_and, and_true, or_self, or_false, false_or, false_and, and_false, true_or, or_true, if_true, if_false, ne_eq, Classical.not_not, not_true_eq_false, not_false_eq_true, true_implies, false_implies, implies_true, Nat.reduceEqDiff, Nat.reduceAdd, Nat.reduceLeDiff, Nat.reduceSub, reduceCtorEq, reduceIte, b204_274, skM s4, h00, Nat.reduceLT]
            refine go _ _ H4 (fun h' H' => ?_)
            have s' := (md_m md H').1.1
            simp only [lv_args, z_v, z_lg, z_h, z_u, z_u1, z_c, z_ct, z_sk, sbne, lst1_d, ldel, lst2_d, ldel2, z_sw, z_rok, zi, eq_self, List.map_cons, List.map_nil, List.append_nil, List.nil_append, List.cons_append, Int32.reduceLT, Int32.reduceLE, Int32.reduceAdd, Int32.reduceSub, Int32.reduceMul, Int32.reduceToInt, Int32.reduceToNatClampNeg, Int.reduceLT, Int.reduceLE, Int.reduceNeg, true_and, and_true, or_self, or_false, false_or, false_and, and_false, true_or, or_true, if_true, if_false, ne_eq, Classical.not_not, not_true_eq_false, not_false_eq_true, true_implies, false_implies, implies_true, Nat.reduceEqDiff, Nat.reduceAdd, Nat.reduceLeDiff, Nat.reduceSub, reduceCtorEq, reduceIte, b204_274, b204_350, skM s4, skM s', Nat.reduceLT]
            exact q2 h' H'
        simp only [lv_args, z_v, z_lg, z_h, z_u, z_u1, z_c, z_ct, z_sk, sbne, lst1_d, ldel, lst2_d, ldel2, z_sw, z_rok, zi, eq_self, List.map_cons, List.map_nil, List.append_nil, List.nil_append, List.cons_append, Int32.reduceLT, Int32.reduceLE, Int32.reduceAdd, Int32.reduceSub, Int32.reduceMul, Int32.reduceToInt, Int32.reduceToNatClampNeg, Int.reduceLT, Int.reduceLE, Int.reduceNeg, true_and, and_true, or_self, or_false, false_or, false_and, and_false, true_or, or_true, if_true, if_false, ne_eq, Classical.not_not, not_true_eq_false, not_false_eq_true, true_implies, false_implies, implies_true, Nat.reduceEqDiff, Nat.reduceAdd, Nat.reduceLeDiff, Nat.reduceSub, reduceCtorEq, reduceIte, b204_239, skM ss, srM ss, sw, nh, h00, z1]
        refine m_part (k := 1) mm ht c6 hb h1 (by omega) ?_
        rw [a5]
        simp only [lv_args, z_v, z_lg, z_h, z_u, z_u1, z_c, z_ct, z_sk, sbne, lst1_d, ldel, lst2_d, ldel2, z_sw, z_rok, zi, eq_self, List.map_cons, List.map_nil, List.append_nil, List.nil_append, List.cons_append, Int32.reduceLT, Int32.reduceLE, Int32.reduceAdd, Int32.reduceSub, Int32.reduceMul, Int32.reduceToInt, Int32.reduceToNatClampNeg, Int.reduceLT, Int.reduceLE, Int.reduceNeg, true_and, and_true, or_self, or_false, false_or, false_and, and_false, true_or, or_true, if_true, if_false, ne_eq, Classical.not_not, not_true_eq_false, not_false_eq_true, true_implies, false_implies, implies_true, Nat.reduceEqDiff, Nat.reduceAdd, Nat.reduceLeDiff, Nat.reduceSub, reduceCtorEq, reduceIte, b204_239, skM ss, srM ss, sw, nh, h00, Nat.reduceLT]
        simp (disch := omega) only [nI_ti, nI_cl, le0N, ltNN, c7, c3, ev, jw2, true_and]
        try simp only [lv_args, z_v, z_lg, z_h, z_u, z_u1, z_c, z_ct, z_sk, sbne, lst1_d, ldel, lst2_d, ldel2, z_sw, z_rok, zi, eq_self, List.map_cons, List.map_nil, List.append_nil, List.nil_append, List.cons_append, Int32.reduceLT, Int32.reduceLE, Int32.reduceAdd, Int32.reduceSub, Int32.reduceMul, Int32.reduceToInt, Int32.reduceToNatClampNeg, Int.reduceLT, Int.reduceLE, Int.reduceNeg, true_and, and_true, or_self, or_false, false_or, false_and, and_false, true_or, or_true, if_true, if_false, ne_eq, Classical.not_not, not_true_eq_false, not_false_eq_true, true_implies, false_implies, implies_true, Nat.reduceEqDiff, Nat.reduceAdd, Nat.reduceLeDiff, Nat.reduceSub, reduceCtorEq, reduceIte, b204_239, skM ss, srM ss, sw, nh]
        try simp (disch := omega) only [nI_ti, nI_cl, le0N, ltNN, c7, c3, ev, jw2, true_and]
        rw [w_eq md]
        refine ⟨fun c => ?_, fun c => ?_⟩
        · rw [if_neg (by omega)] at hq
          exact fin _ hh (mw_g w' (Nat.le_succ _)) HH hq
        · rw [if_pos (by omega)] at hq
          simp only [lv_args, z_v, z_lg, z_h, z_u, z_u1, z_c, z_ct, z_sk, sbne, lst1_d, ldel, lst2_d, ldel2, z_sw, z_rok, zi, eq_self, List.map_cons, List.map_nil, List.append_nil, List.nil_append, List.cons_append, Int32.reduceLT, Int32.reduceLE, Int32.reduceAdd, Int32.reduceSub, Int32.reduceMul, Int32.reduceToInt, Int32.reduceToNatClampNeg, Int.reduceLT, Int.reduceLE, Int.reduceNeg, true_and, and_true, or_self, or_false, false_or, false_and, and_false, true_or, or_true, if_true, if_false, ne_eq, Classical.not_not, not_true_eq_false, not_false_eq_true, true_implies, false_implies, implies_true, Nat.reduceEqDiff, Nat.reduceAdd, Nat.reduceLeDiff, Nat.reduceSub, reduceCtorEq, reduceIte, b204_258, skM ss, srM ss, sw, nh, h00, z1]
          refine m_part (k := 1) mm ht c6 hb h1 (by omega) ?_
          rw [a5]
          simp only [lv_args, z_v, z_lg, z_h, z_u, z_u1, z_c, z_ct, z_sk, sbne, lst1_d, ldel, lst2_d, ldel2, z_sw, z_rok, zi, eq_self, List.map_cons, List.map_nil, List.append_nil, List.nil_append, List.cons_append, Int32.reduceLT, Int32.reduceLE, Int32.reduceAdd, Int32.reduceSub, Int32.reduceMul, Int32.reduceToInt, Int32.reduceToNatClampNeg, Int.reduceLT, Int.reduceLE, Int.reduceNeg, true_and, and_true, or_self, or_false, false_or, false_and, and_false, true_or, or_true, if_true, if_false, ne_eq, Classical.not_not, not_true_eq_false, not_false_eq_true, true_implies, false_implies, implies_true, Nat.reduceEqDiff, Nat.reduceAdd, Nat.reduceLeDiff, Nat.reduceSub, reduceCtorEq, reduceIte, b204_258, skM ss, srM ss, sw, nh, h00, Nat.reduceLT]
          simp (disch := omega) only [nI_ti, nI_cl, le0N, ltNN, c7, pq1, true_and]
          try simp only [lv_args, z_v, z_lg, z_h, z_u, z_u1, z_c, z_ct, z_sk, sbne, lst1_d, ldel, lst2_d, ldel2, z_sw, z_rok, zi, eq_self, List.map_cons, List.map_nil, List.append_nil, List.nil_append, List.cons_append, Int32.reduceLT, Int32.reduceLE, Int32.reduceAdd, Int32.reduceSub, Int32.reduceMul, Int32.reduceToInt, Int32.reduceToNatClampNeg, Int.reduceLT, Int.reduceLE, Int.reduceNeg, true_and, and_true, or_self, or_false, false_or, false_and, and_false, true_or, or_true, if_true, if_false, ne_eq, Classical.not_not, not_true_eq_false, not_false_eq_true, true_implies, false_implies, implies_true, Nat.reduceEqDiff, Nat.reduceAdd, Nat.reduceLeDiff, Nat.reduceSub, reduceCtorEq, reduceIte, b204_258, skM ss, sw, h00]
          refine sp_wr (k := 5) (p := nQ N (prt N n 1)) md HH rfl rfl (by decide) pq2 (fun h' H' => ?_)
          have s' := (md_m md H').1.1
          have sw' := sq s' hq66
          have go := fin (mW 5 (nQ N (prt N n 1)) y1) h' (mw_g (g' := g) w' (Nat.le_succ _) : MW g (n + 1) b y1) H' hq
          simp only [lv_args, z_v, z_lg, z_h, z_u, z_u1, z_c, z_ct, z_sk, sbne, lst1_d, ldel, lst2_d, ldel2, z_sw, z_rok, zi, eq_self, List.map_cons, List.map_nil, List.append_nil, List.nil_append, List.cons_append, Int32.reduceLT, Int32.reduceLE, Int32.reduceAdd, Int32.reduceSub, Int32.reduceMul, Int32.reduceToInt, Int32.reduceToNatClampNeg, Int.reduceLT, Int.reduceLE, Int.reduceNeg, true_and, and_true, or_self, or_false, false_or, false_and, and_false, true_or, or_true, if_true, if_false, ne_eq, Classical.not_not, not_true_eq_false, not_false_eq_true, true_implies, false_implies, implies_true, Nat.reduceEqDiff, Nat.reduceAdd, Nat.reduceLeDiff, Nat.reduceSub, reduceCtorEq, reduceIte, b204_258, skM ss, skM s', sw, sw', Nat.reduceLT]
          exact go
    -- the count
    obtain ⟨u1, u2, u3⟩ := H.2.2.2.2.2
    have ky5 : KYf q h0 (pI h 59 24 (nI (mFm y + 1))) := ky_I H.1 (by unfold YI; omega)
    have s5 : Sk (pI h 59 24 (nI (mFm y + 1))) := sk_u1 s
    have w5 := sq s5 hq66
    unfold aEv
    simp only [lv_args, z_v, z_lg, z_h, z_u, z_u1, z_c, z_ct, z_sk, sbne, lst1_d, ldel, lst2_d, ldel2, z_sw, z_rok, zi, eq_self, List.map_cons, List.map_nil, List.append_nil, List.nil_append, List.cons_append, Int32.reduceLT, Int32.reduceLE, Int32.reduceAdd, Int32.reduceSub, Int32.reduceMul, Int32.reduceToInt, Int32.reduceToNatClampNeg, Int.reduceLT, Int.reduceLE, Int.reduceNeg, true_and, and_true, or_self, or_false, false_or, false_and, and_false, true_or, or_true, if_true, if_false, ne_eq, Classical.not_not, not_true_eq_false, not_false_eq_true, true_implies, false_implies, implies_true, Nat.reduceEqDiff, Nat.reduceAdd, Nat.reduceLeDiff, Nat.reduceSub, reduceCtorEq, reduceIte, b204_0, skM s, R, u1, nI_s, z1500]
    simp (disch := omega) only [nI_leN]
    refine ⟨fun c => ?_, fun c => ?_⟩
    · refine at37 _ ?_
      have ey1 : mCt N n y = (y.1, y.2.1, y.2.2.1, mFm y + 1, mWr y) := by unfold mCt; rw [if_neg (by omega)]
      rw [ey1]
      exact mh_ct H hq66 rfl rfl rfl ky5 rfl (fun a i hx => up2_ne (fun e => hx (by rw [← e.1, ← e.2]; omega))) ⟨rfl, u2, u3⟩
    · have ey1 : mCt N n y = (y.1, y.2.1, y.2.2.1, mFm y + 1, wMn (mWr y) 6 (nQ N n)) := by unfold mCt; rw [if_pos (by omega)]
      have mw5 : MWx (y.1, y.2.1, y.2.2.1, mFm y + 1, mWr y) (pI h 59 24 (nI (mFm y + 1))) := ⟨rfl, u2, u3⟩
      simp only [lv_args, z_v, z_lg, z_h, z_u, z_u1, z_c, z_ct, z_sk, sbne, lst1_d, ldel, lst2_d, ldel2, z_sw, z_rok, zi, eq_self, List.map_cons, List.map_nil, List.append_nil, List.nil_append, List.cons_append, Int32.reduceLT, Int32.reduceLE, Int32.reduceAdd, Int32.reduceSub, Int32.reduceMul, Int32.reduceToInt, Int32.reduceToNatClampNeg, Int.reduceLT, Int.reduceLE, Int.reduceNeg, true_and, and_true, or_self, or_false, false_or, false_and, and_false, true_or, or_true, if_true, if_false, ne_eq, Classical.not_not, not_true_eq_false, not_false_eq_true, true_implies, false_implies, implies_true, Nat.reduceEqDiff, Nat.reduceAdd, Nat.reduceLeDiff, Nat.reduceSub, reduceCtorEq, reduceIte, b204_25, skM s5, srM s5, w5, nn, h00]
      simp (disch := omega) only [nI_ti, nI_cl, le0N, ltNN, c2, pp1, true_and]
      try simp only [lv_args, z_v, z_lg, z_h, z_u, z_u1, z_c, z_ct, z_sk, sbne, lst1_d, ldel, lst2_d, ldel2, z_sw, z_rok, zi, eq_self, List.map_cons, List.map_nil, List.append_nil, List.nil_append, List.cons_append, Int32.reduceLT, Int32.reduceLE, Int32.reduceAdd, Int32.reduceSub, Int32.reduceMul, Int32.reduceToInt, Int32.reduceToNatClampNeg, Int.reduceLT, Int.reduceLE, Int.reduceNeg, true_and, and_true, or_self, or_false, false_or, false_and, and_false, true_or, or_true, if_true, if_false, ne_eq, Classical.not_not, not_true_eq_false, not_false_eq_true, true_implies, false_implies, implies_true, Nat.reduceEqDiff, Nat.reduceAdd, Nat.reduceLeDiff, Nat.reduceSub, reduceCtorEq, reduceIte, b204_25, skM s5, h00]
      refine sp_wr1 (y := (y.1, y.2.1, y.2.2.1, mFm y + 1, mWr y)) (k := 6) (p := nQ N n) s5 mw5 rfl rfl (by decide) pp2 (fun e => ?_) (fun e => ?_)
      · have e : wMn (mWr y) 6 (nQ N n) = mWr y := e
        have go := at37 (pI h 59 24 (nI (mFm y + 1))) (by
          rw [ey1, e]
          exact mh_ct H hq66 rfl rfl rfl ky5 rfl (fun a i hx => up2_ne (fun e => hx (by rw [← e.1, ← e.2]; omega))) ⟨rfl, u2, u3⟩)
        simp only [lv_args, z_v, z_lg, z_h, z_u, z_u1, z_c, z_ct, z_sk, sbne, lst1_d, ldel, lst2_d, ldel2, z_sw, z_rok, zi, eq_self, List.map_cons, List.map_nil, List.append_nil, List.nil_append, List.cons_append, Int32.reduceLT, Int32.reduceLE, Int32.reduceAdd, Int32.reduceSub, Int32.reduceMul, Int32.reduceToInt, Int32.reduceToNatClampNeg, Int.reduceLT, Int.reduceLE, Int.reduceNeg, true_and, and_true, or_self, or_false, false_or, false_and, and_false, true_or, or_true, if_true, if_false, ne_eq, Classical.not_not, not_true_eq_false, not_false_eq_true, true_implies, false_implies, implies_true, Nat.reduceEqDiff, Nat.reduceAdd, Nat.reduceLeDiff, Nat.reduceSub, reduceCtorEq, reduceIte, b204_25, skM s5, Nat.reduceLT]
        exact go
      · have e : wMn (mWr y) 6 (nQ N n) = some (6, nQ N n) := e
        have ky7 : KYf q h0 (pI (pI (pI h 59 24 (nI (mFm y + 1))) 59 15 (nI 6)) 59 16 (nI (nQ N n))) := ky_I (ky_I ky5 (by unfold YI; omega)) (by unfold YI; omega)
        have s7 : Sk (pI (pI (pI h 59 24 (nI (mFm y + 1))) 59 15 (nI 6)) 59 16 (nI (nQ N n))) := sk_u1 (sk_u1 s5)
        have go := at37 _ (by
          rw [ey1, e]
          refine mh_ct (h' := pI (pI (pI h 59 24 (nI (mFm y + 1))) 59 15 (nI 6)) 59 16 (nI (nQ N n))) H hq66 rfl rfl rfl ky7 rfl (fun a i hx => ((up2_ne (fun e => hx (by rw [← e.1, ← e.2]; omega))).trans (up2_ne (fun e => hx (by rw [← e.1, ← e.2]; omega)))).trans (up2_ne (fun e => hx (by rw [← e.1, ← e.2]; omega)))) ⟨rfl, fun c => (by cases c), fun k p c => ?_⟩
          injection c with c
          injection c with c1 c2
          subst c1
          subst c2
          exact ⟨rfl, rfl, by decide, by decide, pp2⟩)
        simp only [lv_args, z_v, z_lg, z_h, z_u, z_u1, z_c, z_ct, z_sk, sbne, lst1_d, ldel, lst2_d, ldel2, z_sw, z_rok, zi, eq_self, List.map_cons, List.map_nil, List.append_nil, List.nil_append, List.cons_append, Int32.reduceLT, Int32.reduceLE, Int32.reduceAdd, Int32.reduceSub, Int32.reduceMul, Int32.reduceToInt, Int32.reduceToNatClampNeg, Int.reduceLT, Int.reduceLE, Int.reduceNeg, true_and, and_true, or_self, or_false, false_or, false_and, and_false, true_or, or_true, if_true, if_false, ne_eq, Classical.not_not, not_true_eq_false, not_false_eq_true, true_implies, false_implies, implies_true, Nat.reduceEqDiff, Nat.reduceAdd, Nat.reduceLeDiff, Nat.reduceSub, reduceCtorEq, reduceIte, b204_25, skM s5, skM s7, Nat.reduceLT]
        exact go
end MFO
