/-! BUILD. The reference: scopes are entered and left -/
def MX (k g a b : Nat) (y : MR) : Prop := FI y ∧ (mSg y).length + k + 8 * g ≤ 250 ∧ mLv y + g ≤ 31 ∧ mSl y (mLv y) + k + 8 * g ≤ 250 ∧ (∀ M, M ≤ mLa y → mLs y M ≤ 250) ∧ (∀ M, 1 ≤ M → M ≤ mLa y → (mFe y M).length ≤ 250) ∧ mFm y + b ≤ 6100 + a ∧ 3 * mLa y + b ≤ 6100 + a ∧ mAr y 0 = 0
section MST2
variable {h h' h0 : Hp} {Q : Option Value → Hp → Prop} {d n q g a b k : Nat} {N : NS} {mt : List Nat} {y : MR} {F : Nat → MR → MR}
theorem mx_w (w : MX k g a b y) : MW g a b y := by
  obtain ⟨w1, w2, w3, w4, w5, w6, w7, w8, w9⟩ := w
  exact ⟨w1, by omega, w3, by omega, w5, w6, w7, w8, w9⟩
theorem mx_of (w : MW (g + 1) a b y) (hk : k ≤ 8) : MX k g a b y := by
  obtain ⟨w1, w2, w3, w4, w5, w6, w7, w8, w9⟩ := w
  exact ⟨w1, by omega, by omega, by omega, w5, w6, w7, w8, w9⟩
theorem mx_sub {a' b' : Nat} (w : MX k g a b y) (h1 : a ≤ a') (h2 : b' ≤ b) : MX k g a' b' y := by
  obtain ⟨w1, w2, w3, w4, w5, w6, w7, w8, w9⟩ := w
  exact ⟨w1, w2, w3, w4, w5, w6, by omega, by omega, w9⟩
theorem mx_bs {n' w0 : Nat} (w : MX k g a b y) : MX k g a b (mBs N n' w0 y) := by
  unfold mBs
  split
  · exact w
  · exact w
theorem mx_bp {bf : List Nat} {n' : Nat} (w : MX k g a b y) : MX k g a b (mBp N bf n' y) := by
  unfold mBp
  split
  · exact w
  · exact w
theorem mx_in {j : Nat} (w : MX (k + 1) g a b y) : MX k g a b (mIn j y) := by
  obtain ⟨w1, w2, w3, w4, w5, w6, w7, w8, w9⟩ := w
  have l1 : (mSg (mIn j y)).length = (mSg y).length + 1 := by
    show (_ ++ [_]).length = _
    rw [List.length_append]; rfl
  have l2 : mSl (mIn j y) (mLv (mIn j y)) = mSl y (mLv y) + 1 := updn_e
  refine ⟨fi_in w1, by omega, w3, by omega, fun M hM => ?_, w6, w7, w8, w9⟩
  have hM : M ≤ mLa y := hM
  show updN (mLs y) (mAr y (mLv y)) (max (mLs y (mAr y (mLv y))) (mSl y (mLv y) + 1)) M ≤ 250
  by_cases c : M = mAr y (mLv y)
  · rw [c, updn_e]
    have := w5 _ (ar_lt w1 (Nat.le_refl (mLv y)))
    omega
  · rw [updn_n c]; exact w5 M hM
theorem mx_F {v m : Nat} (fb : FBm N mt q h0 g F) (hg : g ≤ 31) (hv : Trb g N v m) (h1 : 1 ≤ v) (ha : a ≤ v) (hb : m ≤ b) (w : MX k g a b y) : MX k g m b (F v y) := by
  obtain ⟨w', e1, e2, e3, e4, e5⟩ := mw_F fb hg hv h1 ha hb (mx_w w)
  obtain ⟨x1, x2, x3, x4, x5, x6, x7, x8, x9⟩ := w'
  obtain ⟨w1, w2, w3, w4, w5, w6, w7, w8, w9⟩ := w
  exact ⟨x1, by rw [e1]; exact w2, x3, by rw [e2, e4]; exact w4, x5, x6, x7, x8, x9⟩
/-- sight as it was -/
theorem mh_tk {c : Nat} (hq66 : q = 66 ∨ q = 86) (H : MH N mt q h0 y h) (hc : c ≤ (mSg y).length) : MH N mt q h0 (mTk c y) (pI h 59 23 (nI c)) := by
  obtain ⟨ky, mn, ⟨ms1, ms2, ms3⟩, ml, mg, mw⟩ := H
  have len : (mSg (mTk c y)).length = c := by
    show ((mSg y).take c).length = c
    rw [List.length_take]; omega
  refine ⟨ky_I ky (by unfold YI; omega), mn, ⟨by rw [len]; rfl, by omega, fun i e he => ms3 i e ?_⟩, ml, ?_, mw⟩
  · have he : ((mSg y).take c)[i]? = some e := he
    rw [List.getElem?_take] at he
    split at he
    · exact he
    · cases he
  · rcases hq66 with rfl | rfl <;> exact mg
theorem mh_lv (hq66 : q = 66 ∨ q = 86) (H : MH N mt q h0 y h) (hl : 1 ≤ mLv y) : MH N mt q h0 (mLv1 y) (pI h 59 27 (nI (mLv y - 1))) := by
  obtain ⟨ky, mn, ms, ⟨ml1, ml2, ml3⟩, ⟨mg1, mg2, mg3, mg4, mg5⟩, mw⟩ := H
  refine ⟨ky_I ky (by unfold YI; omega), mn, ms, ⟨rfl, by show mLv y - 1 ≤ 31; omega, fun l h => ml3 l (by have h : l ≤ mLv y - 1 := h; omega)⟩, ?_, mw⟩
  have mg5' : ∀ l, 1 ≤ l → l ≤ mLv (mLv1 y) → ∀ (k : Nat) (e : SGe), (mFe y (mAr y l))[k]? = some e → hA h 111 (256 * l + k) = nI e.1 := fun l h1 h2 => mg5 l h1 (by have h2 : l ≤ mLv y - 1 := h2; omega)
  rcases hq66 with rfl | rfl <;> exact ⟨mg1, mg2, mg3, mg4, mg5'⟩
theorem mh_ss {c : Nat} (hq66 : q = 66 ∨ q = 86) (H : MH N mt q h0 y h) : MH N mt q h0 (mSs c y) (pA h 110 (upd (hA h 110) (mLv y) (nI c))) := by
  obtain ⟨ky, mn, ms, ⟨ml1, ml2, ml3⟩, mg, mw⟩ := H
  refine ⟨ky_A ky (by unfold YA; omega), ?_, ms, ⟨ml1, ml2, fun l h => ?_⟩, ?_, mw⟩
  · rcases hq66 with rfl | rfl <;> exact mn
  · obtain ⟨b1, b2⟩ := ml3 l h
    refine ⟨b1, ?_⟩
    show upd (hA _ 110) (mLv y) (nI c) l = nI (updN (mSl y) (mLv y) c l)
    unfold upd
    by_cases cl : l = mLv y
    · rw [if_pos cl, cl, updn_e]
    · rw [if_neg cl, updn_n cl]; exact b2
  · rcases hq66 with rfl | rfl <;> exact mg
/-- a new lambda -/
theorem fi_nl {k : Nat} (fi : FI y) : FI (mNl n k y) := by
  obtain ⟨f1, f2, f3, f4⟩ := fi
  have ar : ∀ l, l ≤ mLv y → mAr (mNl n k y) l = mAr y l := fun l hl => updn_n (by omega)
  have ar1 : mAr (mNl n k y) (mLv y + 1) = mLa y + 1 := updn_e
  refine ⟨fun i hi => ?_, fun l l' h1 h2 => ?_, fun l h2 => ?_, fun l h1 h2 => ?_⟩
  · obtain ⟨l, w1, w2⟩ := f1 i hi
    exact ⟨l, Nat.le_succ_of_le w1, by rw [ar l w1]; exact w2⟩
  · have h2 : l' ≤ mLv y + 1 := h2
    by_cases c : l' = mLv y + 1
    · rw [c, ar1, ar l (by omega)]
      exact Nat.lt_succ_of_le (f3 l (by omega))
    · rw [ar l (by omega), ar l' (by omega)]
      exact f2 l l' h1 (by omega)
  · have h2 : l ≤ mLv y + 1 := h2
    show mAr (mNl n k y) l ≤ mLa y + 1
    by_cases c : l = mLv y + 1
    · rw [c, ar1]; exact Nat.le_refl _
    · rw [ar l (by omega)]
      exact Nat.le_succ_of_le (f3 l (by omega))
  · have h2 : l ≤ mLv y + 1 := h2
    by_cases c : l = mLv y + 1
    · rw [c, ar1]
      have e : fes (mNl n k y) (mLa y + 1) = [] := by
        unfold fes
        show ((if mLa y + 1 = mLa y + 1 then [] else mFe y (mLa y + 1)) : List SGe).map _ = []
        rw [if_pos rfl]; rfl
      rw [e]
      exact ⟨List.nodup_nil, fun s hs => by cases hs⟩
    · rw [ar l (by omega)]
      have e : fes (mNl n k y) (mAr y l) = fes y (mAr y l) := by
        unfold fes
        show ((if mAr y l = mLa y + 1 then [] else mFe y (mAr y l)) : List SGe).map _ = _
        rw [if_neg (by have := f3 l (by omega); omega)]
      rw [e]
      exact f4 l h1 (by omega)
theorem mh_nl {k : Nat} {y1 : MR} (H : MH N mt q h0 y h) (hq66 : q = 66 ∨ q = 86) (fi : FI y) (hlv : mLv y + 1 ≤ 31) (e1 : (y1.1, y1.2.1, y1.2.2.1) = (y.1, y.2.1, y.2.2.1)) (ky : KYf q h0 h') (mw : MWx y1 h')
    (hh : (hI h' q 5 = nI (mLa y + 1) ∧ hI h' 59 27 = nI (mLv y + 1) ∧ hI h' 59 23 = hI h 59 23) ∧ hA h' (q + 6) = hA h (q + 6) ∧ hA h' (q + 7) = upd (hA h (q + 7)) (n - 1) (nI (mLa y + 1)) ∧ hA h' (q + 14) = upd (hA h (q + 14)) (mLa y + 1) (nI (n - 1)) ∧ hA h' (q + 15) = upd (hA h (q + 15)) (mLa y + 1) (nI k) ∧ hA h' (q + 16) = upd (hA h (q + 16)) (mLa y + 1) 0 ∧ hA h' (q + 17) = upd (hA h (q + 17)) (mLa y + 1) 0 ∧ hA h' (q + 18) = hA h (q + 18) ∧ hA h' (q + 19) = hA h (q + 19) ∧ (hA h' 106 = hA h 106 ∧ hA h' 107 = hA h 107 ∧ hA h' 108 = hA h 108 ∧ hA h' 111 = hA h 111) ∧ hA h' 109 = upd (hA h 109) (mLv y + 1) (nI (mLa y + 1)) ∧ hA h' 110 = upd (hA h 110) (mLv y + 1) 0) : MH N mt q h0 (mNl n k (mN1 n (nI (mLa y + 1)) y1)) h' := by
  obtain ⟨y11, y12, y13, y14⟩ := y1
  obtain ⟨yA, yB, yC, yD⟩ := y
  simp only [Prod.mk.injEq] at e1
  obtain ⟨rfl, rfl, rfl⟩ := e1
  obtain ⟨_, mn, ⟨ms1, ms2, ms3⟩, ⟨ml1, ml2, ml3⟩, ⟨mg1, mg2, mg3, mg4, mg5⟩, _⟩ := H
  obtain ⟨⟨i1, i2, i3⟩, x6, x7, x14, x15, x16, x17, x18, x19, ⟨x106, x107, x108, x111⟩, x109, x110⟩ := hh
  generalize hy : ((y11, y12, y13, yD) : MR) = y at *
  have hy' : mNl n k (mN1 n (nI (mLa y + 1)) (y11, y12, y13, y14)) = ((mMe y, upd (mNu y) (n - 1) (nI (mLa y + 1))), (mSg y, mLv y + 1, updN (mAr y) (mLv y + 1) (mLa y + 1), updN (mSl y) (mLv y + 1) 0), (mLa y + 1, updN (mNd y) (mLa y + 1) (n - 1), updN (mNm y) (mLa y + 1) k, updN (mLs y) (mLa y + 1) 0, fun M => if M = mLa y + 1 then [] else mFe y M), y14) := by
    rw [← hy]; rfl
  rw [hy']
  refine ⟨ky, fun i hi => ?_, ⟨?_, ms2, fun i e he => ?_⟩, ⟨i2, hlv, fun l hl => ?_⟩, ⟨i1, fun M M1 M2 => ?_, fun M M2 => ?_, fun M M1 M2 M3 k' e he => ?_, fun l l1 l2 k' e he => ?_⟩, ?_⟩
  · obtain ⟨b1, b2⟩ := mn i hi
    rw [x6, x7]
    refine ⟨b1, ?_⟩
    show upd (hA h (q + 7)) (n - 1) (nI (mLa y + 1)) i = upd (mNu y) (n - 1) (nI (mLa y + 1)) i
    unfold upd
    by_cases c : i = n - 1
    · rw [if_pos c, if_pos c]
    · rw [if_neg c, if_neg c]; exact b2
  · rw [i3]; exact ms1
  · rw [x106, x107, x108]
    exact ms3 i e he
  · have hl : l ≤ mLv y + 1 := hl
    rw [x109, x110]
    show upd (hA h 109) (mLv y + 1) (nI (mLa y + 1)) l = nI (updN (mAr y) (mLv y + 1) (mLa y + 1) l) ∧ upd (hA h 110) (mLv y + 1) 0 l = nI (updN (mSl y) (mLv y + 1) 0 l)
    unfold upd
    by_cases c : l = mLv y + 1
    · rw [if_pos c, if_pos c, c, updn_e, updn_e]
      exact ⟨rfl, rfl⟩
    · rw [if_neg c, if_neg c, updn_n c, updn_n c]
      exact ml3 l (by omega)
  · have M2 : M ≤ mLa y + 1 := M2
    rw [x14, x15]
    show upd (hA h (q + 14)) (mLa y + 1) (nI (n - 1)) M = nI (updN (mNd y) (mLa y + 1) (n - 1) M) ∧ upd (hA h (q + 15)) (mLa y + 1) (nI k) M = nI (updN (mNm y) (mLa y + 1) k M)
    unfold upd
    by_cases c : M = mLa y + 1
    · rw [if_pos c, if_pos c, c, updn_e, updn_e]
      exact ⟨rfl, rfl⟩
    · rw [if_neg c, if_neg c, updn_n c, updn_n c]
      exact mg2 M M1 (by omega)
  · have M2 : M ≤ mLa y + 1 := M2
    rw [x16, x17]
    show upd (hA h (q + 16)) (mLa y + 1) 0 M = nI (updN (mLs y) (mLa y + 1) 0 M) ∧ upd (hA h (q + 17)) (mLa y + 1) 0 M = nI (if M = mLa y + 1 then [] else mFe y M).length
    unfold upd
    by_cases c : M = mLa y + 1
    · rw [if_pos c, if_pos c, if_pos c, c, updn_e]
      exact ⟨rfl, rfl⟩
    · rw [if_neg c, if_neg c, if_neg c, updn_n c]
      exact mg3 M (by omega)
  · have M2 : M ≤ mLa y + 1 := M2
    have he : (if M = mLa y + 1 then [] else mFe y M)[k']? = some e := he
    rw [x18, x19]
    by_cases c : M = mLa y + 1
    · rw [if_pos c] at he
      simp at he
    · rw [if_neg c] at he
      exact mg4 M M1 (by omega) M3 k' e he
  · have l2 : l ≤ mLv y + 1 := l2
    have he : (if updN (mAr y) (mLv y + 1) (mLa y + 1) l = mLa y + 1 then [] else mFe y (updN (mAr y) (mLv y + 1) (mLa y + 1) l))[k']? = some e := he
    rw [x111]
    by_cases c : l = mLv y + 1
    · rw [c, updn_e, if_pos rfl] at he
      simp at he
    · rw [updn_n c] at he
      have := ar_lt fi (show l ≤ mLv y by omega)
      rw [if_neg (by omega)] at he
      exact mg5 l l1 (by omega) k' e he
  · exact mw
end MST2
