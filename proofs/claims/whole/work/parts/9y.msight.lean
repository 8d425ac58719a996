/-! BUILD. The reference: names in sight, what lambdas keep -/
section MSG
variable {h h' h0 : Hp} {Q : Option Value → Hp → Prop} {d n q g a b : Nat} {N : NS} {mt : List Nat} {y : MR}
theorem updn_e {f : Nat → Nat} {i v : Nat} : updN f i v i = v := if_pos rfl
theorem updn_n {f : Nat → Nat} {i v j : Nat} (h : j ≠ i) : updN f i v j = f j := if_neg h
theorem sp_sight {j : Nat} (md : MD N mt q h0) (H : MH N mt q h0 y h) (fi : FI y) (hla : mLa y < 3000) (h1 : 1 ≤ n) (hn : n < N.1) (h5 : nK N n = 5) (ej2 : nCn N n = j) (hl : (mSg y).length + 1 ≤ 250) (hs : mSl y (mLv y) < 1000000) (hls : mLs y (mAr y (mLv y)) < 1000000) (hd : 0 < d) (hq : ∀ h', MH N mt q h0 (mIn j y) h' → Q none h') : aEv d 216 [.ref 59, .int (nI (n - 1))] h Q := by
  have m := md_m md H
  have s := m.1.1
  have hN1 := m.2.2.2.2.2
  have hq66 := mc_q m
  obtain ⟨j', hj, ej, ej3, hj3⟩ := nok_name m.2.2.2 h1 hn h5
  rw [ej2] at ej3
  subst ej3
  have ev : hA h (q + 2) (n - 1) = nI (mt.idxOf j) := by rw [(m.2.2.1.1 n h1 hn).2.1, if_pos h5, ej2]
  obtain ⟨n1, n2, _, _, _, _, _, _, _, _, _, _, _, _, _, n16, _⟩ := nq m.1.2 hq66
  have n106 : hN h 106 = 6200 := m.1.2.1.2 (106, 6200) (by decide)
  have n107 : hN h 107 = 6200 := m.1.2.1.2 (107, 6200) (by decide)
  have n108 : hN h 108 = 6200 := m.1.2.1.2 (108, 6200) (by decide)
  have n109 : hN h 109 = 32 := m.1.2.1.2 (109, 32) (by decide)
  have n110 : hN h 110 = 32 := m.1.2.1.2 (110, 32) (by decide)
  obtain ⟨ky, mn, ⟨ms1, ms2, ms3⟩, ⟨ml1, ml2, ml3⟩, ⟨mg1, mg2, mg3, mg4, mg5⟩, mw⟩ := H
  obtain ⟨a109, a110⟩ := ml3 (mLv y) (Nat.le_refl _)
  have har := ar_lt fi (Nat.le_refl (mLv y))
  have a16 := (mg3 _ har).1
  have c1 : (n - 1 < 6200) = True := eq_true (by omega)
  have c2 : ((mSg y).length < 6200) = True := eq_true (by omega)
  have c3 : (mLv y < 32) = True := eq_true (by omega)
  have c4 : (mAr y (mLv y) < 3000) = True := eq_true (by omega)
  have c5 : (0 < d) = True := eq_true hd
  have e110 : upd (hA h 110) (mLv y) (nI (mSl y (mLv y)) + 1) (mLv y) = nI (mSl y (mLv y) + 1) := by
    unfold upd
    rw [if_pos rfl, nI_s]
  have len : (mSg (mIn j y)).length = (mSg y).length + 1 := by
    show (_ ++ [_]).length = _
    rw [List.length_append]; rfl
  rcases m.2.1 with ⟨rfl, r1, r2⟩ | ⟨rfl, r1, r2⟩
  · have fin : ∀ X : Int32, X = nI (max (mLs y (mAr y (mLv y))) (mSl y (mLv y) + 1)) → Q none (pA (pA (pI (pA (pA (pA h 106 (upd (hA h 106) (mSg y).length (nI (mt.idxOf j)))) 107 (upd (hA h 107) (mSg y).length (nI (mAr y (mLv y))))) 108 (upd (hA h 108) (mSg y).length (nI (mSl y (mLv y))))) 59 23 (nI (mSg y).length + 1)) 110 (upd (hA h 110) (mLv y) (nI (mSl y (mLv y)) + 1))) 82 (upd (hA h 82) (mAr y (mLv y)) X)) := by
      intro X hX
      refine hq _ ⟨ky_A (ky_A (ky_I (ky_A (ky_A (ky_A ky (by unfold YA; omega)) (by unfold YA; omega)) (by unfold YA; omega)) (by unfold YI; omega)) (by unfold YA; omega)) (by unfold YA; omega), mn, ?_, ?_, ?_, mw⟩
      · refine ⟨by rw [len]; exact nI_s _, by omega, fun i e he => ?_⟩
        show (e.1 ∈ mt ∧ upd (hA h 106) (mSg y).length (nI (mt.idxOf j)) i = nI (mt.idxOf e.1)) ∧ upd (hA h 107) (mSg y).length (nI (mAr y (mLv y))) i = nI e.2.1 ∧ upd (hA h 108) (mSg y).length (nI (mSl y (mLv y))) i = nI e.2.2
        unfold upd
        rcases ap1_c (l := mSg y) he with ⟨a1, a2⟩ | ⟨a1, rfl⟩
        · rw [if_neg (by omega), if_neg (by omega), if_neg (by omega)]
          exact ms3 i e a2
        · rw [if_pos a1, if_pos a1, if_pos a1]
          exact ⟨⟨hj, rfl⟩, rfl, rfl⟩
      · refine ⟨ml1, ml2, fun l hl' => ?_⟩
        have hl' : l ≤ mLv y := hl'
        obtain ⟨b1, b2⟩ := ml3 l hl'
        refine ⟨b1, ?_⟩
        show upd (hA h 110) (mLv y) (nI (mSl y (mLv y)) + 1) l = nI (updN (mSl y) (mLv y) (mSl y (mLv y) + 1) l)
        unfold upd
        by_cases c : l = mLv y
        · rw [if_pos c, c, updn_e, nI_s]
        · rw [if_neg c, updn_n c]
          exact b2
      · refine ⟨mg1, mg2, fun M hM => ?_, mg4, mg5⟩
        have hM : M ≤ mLa y := hM
        obtain ⟨b1, b2⟩ := mg3 M hM
        refine ⟨?_, b2⟩
        show upd (hA h 82) (mAr y (mLv y)) X M = nI (updN (mLs y) (mAr y (mLv y)) (max (mLs y (mAr y (mLv y))) (mSl y (mLv y) + 1)) M)
        unfold upd
        by_cases c : M = mAr y (mLv y)
        · rw [if_pos c, c, updn_e]
          exact hX
        · rw [if_neg c, updn_n c]
          exact b1
    rw [e216_59b _ _ s r1 r2, ms1, ml1]
    simp (disch := omega) only [nI_ti, nI_cl, le0N, ltNN, n2, n16, n106, n107, n108, n109, n110, c1, c2, c3, c4, c5, a109, a110, a16, ev, true_and]
    rw [e110, nI_ltN (by omega) (by omega)]
    refine ⟨fun c => fin _ (by rw [Nat.max_eq_right (by omega)]), fun c => fin _ (by rw [Nat.max_eq_left (by omega)])⟩
  · have fin : ∀ X : Int32, X = nI (max (mLs y (mAr y (mLv y))) (mSl y (mLv y) + 1)) → Q none (pA (pA (pI (pA (pA (pA h 106 (upd (hA h 106) (mSg y).length (nI (mt.idxOf j)))) 107 (upd (hA h 107) (mSg y).length (nI (mAr y (mLv y))))) 108 (upd (hA h 108) (mSg y).length (nI (mSl y (mLv y))))) 59 23 (nI (mSg y).length + 1)) 110 (upd (hA h 110) (mLv y) (nI (mSl y (mLv y)) + 1))) 102 (upd (hA h 102) (mAr y (mLv y)) X)) := by
      intro X hX
      refine hq _ ⟨ky_A (ky_A (ky_I (ky_A (ky_A (ky_A ky (by unfold YA; omega)) (by unfold YA; omega)) (by unfold YA; omega)) (by unfold YI; omega)) (by unfold YA; omega)) (by unfold YA; omega), mn, ?_, ?_, ?_, mw⟩
      · refine ⟨by rw [len]; exact nI_s _, by omega, fun i e he => ?_⟩
        show (e.1 ∈ mt ∧ upd (hA h 106) (mSg y).length (nI (mt.idxOf j)) i = nI (mt.idxOf e.1)) ∧ upd (hA h 107) (mSg y).length (nI (mAr y (mLv y))) i = nI e.2.1 ∧ upd (hA h 108) (mSg y).length (nI (mSl y (mLv y))) i = nI e.2.2
        unfold upd
        rcases ap1_c (l := mSg y) he with ⟨a1, a2⟩ | ⟨a1, rfl⟩
        · rw [if_neg (by omega), if_neg (by omega), if_neg (by omega)]
          exact ms3 i e a2
        · rw [if_pos a1, if_pos a1, if_pos a1]
          exact ⟨⟨hj, rfl⟩, rfl, rfl⟩
      · refine ⟨ml1, ml2, fun l hl' => ?_⟩
        have hl' : l ≤ mLv y := hl'
        obtain ⟨b1, b2⟩ := ml3 l hl'
        refine ⟨b1, ?_⟩
        show upd (hA h 110) (mLv y) (nI (mSl y (mLv y)) + 1) l = nI (updN (mSl y) (mLv y) (mSl y (mLv y) + 1) l)
        unfold upd
        by_cases c : l = mLv y
        · rw [if_pos c, c, updn_e, nI_s]
        · rw [if_neg c, updn_n c]
          exact b2
      · refine ⟨mg1, mg2, fun M hM => ?_, mg4, mg5⟩
        have hM : M ≤ mLa y := hM
        obtain ⟨b1, b2⟩ := mg3 M hM
        refine ⟨?_, b2⟩
        show upd (hA h 102) (mAr y (mLv y)) X M = nI (updN (mLs y) (mAr y (mLv y)) (max (mLs y (mAr y (mLv y))) (mSl y (mLv y) + 1)) M)
        unfold upd
        by_cases c : M = mAr y (mLv y)
        · rw [if_pos c, c, updn_e]
          exact hX
        · rw [if_neg c, updn_n c]
          exact b1
    rw [e216_59a _ _ s r1 r2, ms1, ml1]
    simp (disch := omega) only [nI_ti, nI_cl, le0N, ltNN, n2, n16, n106, n107, n108, n109, n110, c1, c2, c3, c4, c5, a109, a110, a16, ev, true_and]
    rw [e110, nI_ltN (by omega) (by omega)]
    refine ⟨fun c => fin _ (by rw [Nat.max_eq_right (by omega)]), fun c => fin _ (by rw [Nat.max_eq_left (by omega)])⟩
theorem em256 (l i : Nat) : 256 * nI l + nI i = nI (256 * l + i) := by
  have e2 : (256 : Int32) * nI l = nI (256 * l) := (Int32.ofNat_mul 256 l).symm
  rw [e2, nI_add]
/-- one more is kept at level l -/
theorem mh_add {l s kd fr : Nat} {f18 f19 : Nat → Int32} (H : MH N mt q h0 y h) (hq66 : q = 66 ∨ q = 86) (fi : FI y) (hl1 : 1 ≤ l) (hl2 : l ≤ mLv y) (hlen : (mFe y (mAr y l)).length < 250) (hall : ∀ M, 1 ≤ M → M ≤ mLa y → (mFe y M).length ≤ 250) (e18 : f18 = if mAr y l ≤ 120 then upd (hA h (q + 18)) (256 * mAr y l + (mFe y (mAr y l)).length) (nI kd) else hA h (q + 18)) (e19 : f19 = if mAr y l ≤ 120 then upd (hA h (q + 19)) (256 * mAr y l + (mFe y (mAr y l)).length) (nI fr) else hA h (q + 19)) (ky : KYf q h0 h') (hh : hI h' = hI h ∧ (∀ a, a ≠ q + 17 → a ≠ 111 → a ≠ q + 18 → a ≠ q + 19 → hA h' a = hA h a) ∧ hA h' (q + 17) = upd (hA h (q + 17)) (mAr y l) (nI ((mFe y (mAr y l)).length + 1)) ∧ hA h' 111 = upd (hA h 111) (256 * l + (mFe y (mAr y l)).length) (nI s) ∧ hA h' (q + 18) = f18 ∧ hA h' (q + 19) = f19) : MH N mt q h0 (mFs y (mAr y l) (mFe y (mAr y l) ++ [(s, kd, fr)])) h' := by
  obtain ⟨_, mn, ⟨ms1, ms2, ms3⟩, ⟨ml1, ml2, ml3⟩, ⟨mg1, mg2, mg3, mg4, mg5⟩, mw⟩ := H
  obtain ⟨x1, x2, x3, x4, x5, x6⟩ := hh
  have hMl : mAr y l ≤ mLa y := ar_lt fi hl2
  have hM1 : 1 ≤ mAr y l := by
    have := fi.2.1 0 l (by omega) hl2
    omega
  have fe : ∀ M, mFe (mFs y (mAr y l) (mFe y (mAr y l) ++ [(s, kd, fr)])) M = if M = mAr y l then mFe y (mAr y l) ++ [(s, kd, fr)] else mFe y M := fun M => rfl
  refine ⟨ky, ?_, ?_, ?_, ?_, ?_⟩
  · intro i hi
    rw [x2 (q + 6) (by omega) (by omega) (by omega) (by omega), x2 (q + 7) (by omega) (by omega) (by omega) (by omega)]
    exact mn i hi
  · unfold MSx
    rw [x1, x2 106 (by omega) (by omega) (by omega) (by omega), x2 107 (by omega) (by omega) (by omega) (by omega), x2 108 (by omega) (by omega) (by omega) (by omega)]
    exact ⟨ms1, ms2, ms3⟩
  · unfold MLx
    rw [x1, x2 109 (by omega) (by omega) (by omega) (by omega), x2 110 (by omega) (by omega) (by omega) (by omega)]
    exact ⟨ml1, ml2, ml3⟩
  · refine ⟨by rw [x1]; exact mg1, fun M h1 h2 => ?_, fun M h2 => ?_, fun M h1 h2 h3 k e he => ?_, fun l' h1 h2 k e he => ?_⟩
    · rw [x2 (q + 14) (by omega) (by omega) (by omega) (by omega), x2 (q + 15) (by omega) (by omega) (by omega) (by omega)]
      exact mg2 M h1 h2
    · rw [x2 (q + 16) (by omega) (by omega) (by omega) (by omega), x3, fe M]
      obtain ⟨b1, b2⟩ := mg3 M h2
      refine ⟨b1, ?_⟩
      unfold upd
      by_cases c : M = mAr y l
      · rw [if_pos c, if_pos c, List.length_append]; rfl
      · rw [if_neg c, if_neg c]; exact b2
    · rw [fe M] at he
      rw [x5, x6, e18, e19]
      by_cases c : M = mAr y l
      · rw [if_pos c] at he
        subst c
        rw [if_pos h3, if_pos h3]
        unfold upd
        rcases ap1_c he with ⟨a1, a2⟩ | ⟨a1, rfl⟩
        · rw [if_neg (by omega), if_neg (by omega)]
          exact mg4 _ h1 h2 h3 k e a2
        · rw [if_pos (by omega), if_pos (by omega)]
          exact ⟨rfl, rfl⟩
      · rw [if_neg c] at he
        have hk := g_lt he
        have hb := hall M h1 h2
        have old := mg4 M h1 h2 h3 k e he
        by_cases c3 : mAr y l ≤ 120
        · rw [if_pos c3, if_pos c3]
          unfold upd
          rw [if_neg (by omega), if_neg (by omega)]
          exact old
        · rw [if_neg c3, if_neg c3]
          exact old
    · have he : (mFe (mFs y (mAr y l) (mFe y (mAr y l) ++ [(s, kd, fr)])) (mAr y l'))[k]? = some e := he
      have h2 : l' ≤ mLv y := h2
      rw [fe] at he
      rw [x4]
      unfold upd
      by_cases c : l' = l
      · subst c
        rw [if_pos rfl] at he
        rcases ap1_c he with ⟨a1, a2⟩ | ⟨a1, rfl⟩
        · rw [if_neg (by omega)]
          exact mg5 _ h1 h2 k e a2
        · rw [if_pos (by omega)]
      · have ne : mAr y l' ≠ mAr y l := fun e => by
          rcases Nat.lt_or_gt_of_ne c with w | w
          · have := fi.2.1 l' l w hl2
            omega
          · have := fi.2.1 l l' w h2
            omega
        rw [if_neg ne] at he
        have hk := g_lt he
        have hb := hall (mAr y l') (by have := fi.2.1 0 l' (by omega) h2; omega) (ar_lt fi h2)
        rw [if_neg (by omega)]
        exact mg5 l' h1 h2 k e he
  · unfold MWx
    rw [x1]
    exact mw
end MSG
