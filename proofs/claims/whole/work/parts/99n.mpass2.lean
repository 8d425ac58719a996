/-! BUILD. What the reference's analysis keeps: one form -/
section MPF
variable {N : NS} {y : MR}
theorem prw_of {g n b : Nat} (h : Tr (g + 1) N n b) (h6 : nK N n = 6) (hb : b < 2000000000) (h3 : 3 ≤ (pts N n).length) (hp : arP N (prt N n 1) = true) : Prw N (pts N (prt N n 1)) n b := by
  obtain ⟨m0, m1, e1, e2, e3, e4, e5, e6, e7, e8⟩ := big_tr h h6 hb (by omega)
  obtain ⟨p1, p2, p3⟩ := arP_2 hp
  cases g with
  | zero => exact e4.elim
  | succ g =>
    obtain ⟨a1, a2, a3⟩ := tr_pts e4 p1 (by omega)
    intro p hp
    obtain ⟨m, r1, r2, r3, r4⟩ := frs_mem _ _ _ a3 p hp
    obtain ⟨g', eg, _, t1, t2, t3⟩ := two_tr r1 (p3 p hp).1 (by omega)
    have := tr_lt _ _ _ _ t1
    omega
theorem nms_of {g n b : Nat} (h : Tr (g + 1) N n b) (h6 : nK N n = 6) (hb : b < 2000000000) (h3 : 3 ≤ (pts N n).length) (hp : arN N (prt N n 1) = true) : ∀ x, x ∈ pts N (prt N n 1) → n ≤ x ∧ x < b := by
  obtain ⟨m0, m1, e1, e2, e3, e4, e5, e6, e7, e8⟩ := big_tr h h6 hb (by omega)
  obtain ⟨p1, p2, p3⟩ := arN_2 hp
  cases g with
  | zero => exact e4.elim
  | succ g =>
    obtain ⟨a1, a2, a3⟩ := tr_pts e4 p1 (by omega)
    intro p hp
    obtain ⟨m, r1, r2, r3, r4⟩ := frs_mem _ _ _ a3 p hp
    omega
/-- every form keeps this -/
theorem mF_e : ∀ (f g : Nat), g ≤ f → ∀ (n b : Nat) (row : Bool) (y : MR), Tr g N n b → b < 2000000000 → 1 ≤ n → AI y → MEf N n b y (mF N f n row y)
  | 0, g, hg, n, b, row, y, h, _, _, _ => by
    have : g = 0 := by omega
    subst this
    exact h.elim
  | f + 1, 0, _, _, _, _, _, h, _, _, _ => h.elim
  | f + 1, g + 1, hg, n, b, row, y, h, hb, h1, hi => by
    have hlt := tr_lt _ _ _ _ h
    have hF : MFs N g (fun a => mF N f a false) := fun v m y ht hv hi => mF_e f g (by omega) v m false y ht.1 ht.2 hv hi
    have hnb : n ≤ n ∧ n < b := ⟨Nat.le_refl _, hlt⟩
    have ec : MEf N n b y (mCt N n y) := mef_Ct hnb
    have ic := ai_ef ec hi
    rw [mF]
    by_cases c5 : nK N n = 5
    · rw [if_pos c5]
      exact mef_tr ec (us_e hnb h1)
    rw [if_neg c5]
    by_cases c6 : nK N n ≠ 6
    · rw [if_pos c6]
      exact ec
    rw [if_neg c6]
    have c6 : nK N n = 6 := Classical.byContradiction c6
    by_cases cs : shp N n (wrd N n) row = false
    · rw [if_pos cs]
      exact mef_tr ec (mef_W hnb)
    rw [if_neg cs]
    have cs : shp N n (wrd N n) row = true := by simpa using cs
    have hsq := frs_sqn _ _ _ (tr_pts h c6 hb).2.2 hb
    have hw := wrd_le (N := N) (n := n)
    by_cases w1 : wrd N n = 1
    · rw [if_pos w1]; exact ec
    rw [if_neg w1]
    by_cases w2 : wrd N n = 2
    · rw [if_pos w2]
      rw [w2] at cs
      obtain ⟨l1, l2⟩ := shp_2 cs
      obtain ⟨m0, m1, e1, e2, e3, e4, e5, e6, e7, e8⟩ := big_tr h c6 hb (by omega)
      exact mef_tr ec (lam_m hF hnb h1 e5 (by omega) (nms_of h c6 hb l1 l2) ic)
    rw [if_neg w2]
    by_cases w4 : wrd N n = 4
    · rw [if_pos w4]
      rw [w4] at cs
      obtain ⟨l1, l2⟩ := shp_4 cs
      obtain ⟨m, q1, q2⟩ := let_sq h c6 hb l1 l2
      exact mef_tr ec (let_m hF hnb h1 q1 q2 (prw_of h c6 hb l1 l2) ic)
    rw [if_neg w4]
    by_cases w5 : wrd N n = 5
    · rw [if_pos w5]
      rw [w5] at cs
      obtain ⟨l1, l2⟩ := shp_5 cs
      obtain ⟨m, q1, q2⟩ := let_sq h c6 hb l1 l2
      exact mef_tr ec (let_m hF hnb h1 q1 q2 (prw_of h c6 hb l1 l2) ic)
    rw [if_neg w5]
    by_cases w6 : wrd N n = 6
    · rw [if_pos w6]
      rw [w6] at cs
      obtain ⟨l1, l2⟩ := shp_6 cs
      obtain ⟨m1, t1, t2, t3, t4, _⟩ := three_tr h c6 hb l1
      have e0 : MEf N n b y (if nCn N (prt N n 1) < 30 then mW 5 (nQ N (prt N n 1)) (mCt N n y) else mUs N (prt N n 1) (mCt N n y)) := by
        have := tr_lt _ _ _ _ t1
        split
        · exact mef_tr ec (mef_W (by omega))
        · exact mef_tr ec (us_e (by omega) h1)
      exact mef_tr e0 (mef_wk (hF _ _ _ ⟨t1, hb⟩ (by omega) (ai_ef e0 hi)) (by omega) (Nat.le_refl _))
    rw [if_neg w6]
    by_cases w10 : wrd N n = 10
    · rw [if_pos w10]
      rw [w10] at cs
      obtain ⟨l0, l1, l2⟩ := shp_10 cs
      obtain ⟨m1, t1, t2, t3, t4, _⟩ := three_tr h c6 hb l1
      have hl2 := tr_lt _ _ _ _ t1
      have e0 : MEf N n b y (mMn (prt N n 1) 3 (dA N (nCn N (prt N n 1))) (if nCn N (prt N n 1) < 30 then mW 5 (nQ N (prt N n 1)) (mCt N n y) else mCt N n y)) := by
        split
        · exact mef_tr (mef_tr ec (mef_W (by omega))) (mef_Mn (by omega) h1)
        · exact mef_tr ec (mef_Mn (by omega) h1)
      exact mef_tr e0 (mef_wk (hF _ _ _ ⟨t1, hb⟩ (by omega) (ai_ef e0 hi)) (by omega) (Nat.le_refl _))
    rw [if_neg w10]
    by_cases w0 : wrd N n = 0
    · rw [if_pos w0]
      exact mef_tr ec (mef_wk (bo_m hF _ _ _ _ hsq (by omega) ic) (by omega) (Nat.le_refl _))
    · rw [if_neg w0]
      exact mef_tr ec (mef_wk (bo_m hF _ _ _ _ (sqn_drop 1 _ _ _ hsq) (by omega) ic) (by omega) (Nat.le_refl _))
end MPF
