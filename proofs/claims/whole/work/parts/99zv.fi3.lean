/-! BUILD. How much the reference's lambdas keep: the whole of it -/
section FIK
variable {N : NS}
theorem mF_f : ∀ (f g : Nat), g ≤ f → g ≤ 31 → ∀ (n b : Nat) (row : Bool) (y : MR), Tr g N n b → b < 2000000000 → 1 ≤ n → FI y → (mSg y).length + 8 * g ≤ 250 → FIe y (mF N f n row y)
  | 0, g, hg, _, n, b, row, y, h, _, _, _, _ => by
    have : g = 0 := by omega
    subst this
    exact h.elim
  | f + 1, 0, _, _, _, _, _, _, h, _, _, _, _ => h.elim
  | f + 1, g + 1, hg, hg3, n, b, row, y, h, hb, h1, hi, hs => by
    have hlt := tr_lt _ _ _ _ h
    have hM : MFs N g (fun a => mF N f a false) := fun v m y ht hv hi => mF_e f g (by omega) v m false y ht.1 ht.2 hv hi
    have hS : FIs N g (fun a => mF N f a false) := fun v m y ht hv hi h1 => mF_f f g (by omega) (by omega) v m false y ht.1 ht.2 hv hi h1
    obtain ⟨c1, c2⟩ : (mCt N n y).2.1 = y.2.1 ∧ (mCt N n y).2.2.1 = y.2.2.1 := by
      unfold mCt
      split <;> exact ⟨rfl, rfl⟩
    have gen : ∀ {yc y' : MR}, yc.2.2.1 = y.2.2.1 → FIe yc y' → FIe y y' := fun {yc y'} e2 hh => by
      have a4 : mLa yc = mLa y := congrArg (fun t => t.1) e2
      exact ⟨hh.1, fun M q1 q2 => hh.2 M (by omega) q2⟩
    have fc : FIe y (mCt N n y) := fie_same hi c1 (congrArg (fun t => t.2.2.2.2) c2) (congrArg (fun t => t.1) c2)
    have ic : FI (mCt N n y) := fc.1
    have hsc : (mSg (mCt N n y)).length + 8 * (g + 1) ≤ 250 := by
      rw [show mSg (mCt N n y) = mSg y from congrArg (fun t => t.1) c1]
      exact hs
    rw [mF]
    by_cases c5 : nK N n = 5
    · rw [if_pos c5]
      exact gen c2 (us_f ic)
    rw [if_neg c5]
    by_cases c6 : nK N n ≠ 6
    · rw [if_pos c6]; exact fc
    rw [if_neg c6]
    have c6 : nK N n = 6 := Classical.byContradiction c6
    by_cases cs : shp N n (wrd N n) row = false
    · rw [if_pos cs]; exact gen c2 (fie_same ic rfl rfl rfl)
    rw [if_neg cs]
    have cs : shp N n (wrd N n) row = true := by simpa using cs
    have hsq := frs_sqn _ _ _ (tr_pts h c6 hb).2.2 hb
    have hw := wrd_le (N := N) (n := n)
    by_cases w1 : wrd N n = 1
    · rw [if_pos w1]; exact fc
    rw [if_neg w1]
    by_cases w2 : wrd N n = 2
    · rw [if_pos w2]
      rw [w2] at cs
      obtain ⟨l1, l2⟩ := shp_2 cs
      obtain ⟨m0, m1, e1, e2, e3, e4, e5, e6, e7, e8⟩ := big_tr h c6 hb (by omega)
      exact gen c2 (lam_f hM hS e5 (by omega) (arN_2 l2).2.1 ic hsc)
    rw [if_neg w2]
    by_cases w4 : wrd N n = 4
    · rw [if_pos w4]
      rw [w4] at cs
      obtain ⟨l1, l2⟩ := shp_4 cs
      obtain ⟨m, q1, q2⟩ := let_sq h c6 hb l1 l2
      exact gen c2 (let_f (a := n) hM hS (seq_wk q1 (Nat.le_succ _)) q2 h1 (arP_2 l2).2.1 (prw_of h c6 hb l1 l2) ic hsc)
    rw [if_neg w4]
    by_cases w5 : wrd N n = 5
    · rw [if_pos w5]
      rw [w5] at cs
      obtain ⟨l1, l2⟩ := shp_5 cs
      obtain ⟨m, q1, q2⟩ := let_sq h c6 hb l1 l2
      exact gen c2 (let_f (a := n) hM hS (seq_wk q1 (Nat.le_succ _)) q2 h1 (arP_2 l2).2.1 (prw_of h c6 hb l1 l2) ic hsc)
    rw [if_neg w5]
    by_cases w6 : wrd N n = 6
    · rw [if_pos w6]
      rw [w6] at cs
      obtain ⟨l1, l2⟩ := shp_6 cs
      obtain ⟨m1, t1, t2, t3, t4, _⟩ := three_tr h c6 hb l1
      have hl2 := tr_lt _ _ _ _ t1
      have e0 : MEf N n b (mCt N n y) (if nCn N (prt N n 1) < 30 then mW 5 (nQ N (prt N n 1)) (mCt N n y) else mUs N (prt N n 1) (mCt N n y)) := by
        split
        · exact mef_W (by omega)
        · exact us_e (by omega) h1
      have u0 : FIe (mCt N n y) (if nCn N (prt N n 1) < 30 then mW 5 (nQ N (prt N n 1)) (mCt N n y) else mUs N (prt N n 1) (mCt N n y)) := by
        split
        · exact fie_same ic rfl rfl rfl
        · exact us_f ic
      have M2 := hM _ b (if nCn N (prt N n 1) < 30 then mW 5 (nQ N (prt N n 1)) (mCt N n y) else mUs N (prt N n 1) (mCt N n y)) ⟨t1, hb⟩ (by omega) u0.1.2.2.1
      exact gen c2 (fie_tr (N := N) (a := n) (b := b) ic u0 (hS _ b _ ⟨t1, hb⟩ (by omega) u0.1 (by rw [e0.1.1]; omega)) e0 (mef_wk M2 (by omega) (Nat.le_refl _)))
    rw [if_neg w6]
    by_cases w10 : wrd N n = 10
    · rw [if_pos w10]
      rw [w10] at cs
      obtain ⟨l0, l1, l2⟩ := shp_10 cs
      obtain ⟨m1, t1, t2, t3, t4, _⟩ := three_tr h c6 hb l1
      have hl2 := tr_lt _ _ _ _ t1
      have e0 : MEf N n b (mCt N n y) (mMn (prt N n 1) 3 (dA N (nCn N (prt N n 1))) (if nCn N (prt N n 1) < 30 then mW 5 (nQ N (prt N n 1)) (mCt N n y) else mCt N n y)) := by
        split
        · exact mef_tr (mef_W (by omega)) (mef_Mn (by omega) h1)
        · exact mef_Mn (by omega) h1
      have u0 : FIe (mCt N n y) (mMn (prt N n 1) 3 (dA N (nCn N (prt N n 1))) (if nCn N (prt N n 1) < 30 then mW 5 (nQ N (prt N n 1)) (mCt N n y) else mCt N n y)) := by
        split <;> exact fie_same ic rfl rfl rfl
      have M2 := hM _ b (mMn (prt N n 1) 3 (dA N (nCn N (prt N n 1))) (if nCn N (prt N n 1) < 30 then mW 5 (nQ N (prt N n 1)) (mCt N n y) else mCt N n y)) ⟨t1, hb⟩ (by omega) u0.1.2.2.1
      exact gen c2 (fie_tr (N := N) (a := n) (b := b) ic u0 (hS _ b _ ⟨t1, hb⟩ (by omega) u0.1 (by rw [e0.1.1]; omega)) e0 (mef_wk M2 (by omega) (Nat.le_refl _)))
    rw [if_neg w10]
    by_cases w0 : wrd N n = 0
    · rw [if_pos w0]
      exact gen c2 (bo_f hM hS _ _ _ _ hsq (by omega) ic (by omega))
    · rw [if_neg w0]
      exact gen c2 (bo_f hM hS _ _ _ _ (sqn_drop 1 _ _ _ hsq) (by omega) ic (by omega))
theorem rw_f {g : Nat} (hg : g ≤ 31) : ∀ (l : List Nat) (a b : Nat) (y : MR), Sqn g N l a b → 1 ≤ a → FI y → (mSg y).length + 8 * g ≤ 250 → FIe y (mRw N l y)
  | [], _, _, _, _, _, hi, _ => fie_same hi rfl rfl rfl
  | v :: l, a, b, y, hs, ha, hi, h1 => by
    obtain ⟨q1, m, q2, q3, q4, q5⟩ := hs
    have M1 := mF_e (N := N) 40 g (by omega) v m true y q2.1 q2.2 (by omega) hi.2.2.1
    have s1 := mF_f (N := N) 40 g (by omega) hg v m true y q2.1 q2.2 (by omega) hi h1
    have M2 := rw_m (N := N) l m b (mF N 40 v true y) q5 (by omega) (by omega) (ai_ef M1 hi.2.2.1)
    exact fie_tr (N := N) (a := a) (b := b) hi s1 (rw_f hg l m b (mF N 40 v true y) q5 (by omega) s1.1 (by rw [M1.1.1]; exact h1)) (mef_wk M1 q1 q4) (mef_wk M2 (by omega) (Nat.le_refl _))
end FIK
