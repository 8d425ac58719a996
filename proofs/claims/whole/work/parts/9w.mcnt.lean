/-! BUILD. How many forms and lambdas the reference counts -/
def CNT (a b : Nat) (y y' : MR) : Prop := mFm y' + a ≤ mFm y + b ∧ 3 * mLa y' + a ≤ 3 * mLa y + b
def MCs (N : NS) (g : Nat) (F : Nat → MR → MR) : Prop := ∀ v m y, Trb g N v m → CNT v m y (F v y)
section MCN
variable {N : NS} {a b m g : Nat} {y y1 y2 : MR} {F : Nat → MR → MR}
theorem cnt_tr (h1 : CNT a m y y1) (h2 : CNT m b y1 y2) : CNT a b y y2 := by
  unfold CNT at *
  omega
theorem cnt_sm (h : a ≤ b) (e1 : mFm y1 = mFm y) (e2 : mLa y1 = mLa y) : CNT a b y y1 := by
  unfold CNT
  omega
theorem cnt_wk {a' b' : Nat} (h : CNT a b y y1) (h1 : a' ≤ a) (h2 : b ≤ b') : CNT a' b' y y1 := by
  unfold CNT at *
  omega
theorem mfr_s : ∀ (l s : Nat) (y : MR), mFm (mFr l s y).2 = mFm y ∧ mLa (mFr l s y).2 = mLa y
  | 0, _, _ => ⟨rfl, rfl⟩
  | l + 1, s, y => by
    rw [mFr]
    split
    · exact ⟨rfl, rfl⟩
    · split
      · exact ⟨rfl, rfl⟩
      · exact mfr_s l s y
theorem mus_s {n : Nat} : mFm (mUs N n y) = mFm y ∧ mLa (mUs N n y) = mLa y := by
  unfold mUs
  split
  · exact ⟨rfl, rfl⟩
  · split
    · exact ⟨rfl, rfl⟩
    · split
      · split
        · exact ⟨rfl, rfl⟩
        · exact mfr_s _ _ _
      · split
        · exact ⟨rfl, rfl⟩
        · exact ⟨rfl, rfl⟩
theorem mbs_s {n w : Nat} : mFm (mBs N n w y) = mFm y ∧ mLa (mBs N n w y) = mLa y := by
  unfold mBs
  split
  · exact ⟨rfl, rfl⟩
  · exact ⟨rfl, rfl⟩
theorem mbp_s {bf : List Nat} {n : Nat} : mFm (mBp N bf n y) = mFm y ∧ mLa (mBp N bf n y) = mLa y := by
  unfold mBp
  split
  · exact ⟨rfl, rfl⟩
  · exact ⟨rfl, rfl⟩
theorem mbi_s {w : Nat} : ∀ (l : List Nat) (y : MR), mFm (mBi N w l y) = mFm y ∧ mLa (mBi N w l y) = mLa y
  | [], _ => ⟨rfl, rfl⟩
  | n :: l, y => by
    obtain ⟨h1, h2⟩ := mbi_s l (mIn (nCn N n) (mBs N n w y))
    have h3 := mbs_s (N := N) (y := y) (n := n) (w := w)
    exact ⟨h1.trans h3.1, h2.trans h3.2⟩
theorem min_s : ∀ (l : List Nat) (y : MR), mFm (l.foldl (fun y j => mIn j y) y) = mFm y ∧ mLa (l.foldl (fun y j => mIn j y) y) = mLa y
  | [], _ => ⟨rfl, rfl⟩
  | j :: l, y => min_s l (mIn j y)
theorem bo_c (hF : MCs N g F) : ∀ (l : List Nat) (a b : Nat) (y : MR), Sqn g N l a b → CNT a b y (mBo F l y)
  | [], _, _, _, h => cnt_sm h rfl rfl
  | v :: l, a, b, y, h => by
    obtain ⟨h1, m, h2, h3, h4, h5⟩ := h
    exact cnt_tr (cnt_wk (hF v m y h2) h1 (Nat.le_refl _)) (bo_c hF l m b (F v y) h5)
theorem lt_c (hF : MCs N g F) {rec : Bool} : ∀ (ps bf : List Nat) (a b : Nat) (y : MR), Sqn g N (vls N ps) a b → CNT a b y (mLt N F rec ps bf y)
  | [], _, _, _, _, h => cnt_sm h rfl rfl
  | p :: ps, bf, a, b, y, h => by
    obtain ⟨h1, m, h2, h3, h4, h5⟩ := h
    have e : mFm (if rec then y else mBp N bf (prt N p 0) y) = mFm y ∧ mLa (if rec then y else mBp N bf (prt N p 0) y) = mLa y := by
      cases rec
      · exact mbp_s
      · exact ⟨rfl, rfl⟩
    have c1 := hF (prt N p 1) m (if rec then y else mBp N bf (prt N p 0) y) h2
    have c2 := lt_c hF (rec := rec) ps (bf ++ [nCn N (prt N p 0)]) m b (F (prt N p 1) (if rec then y else mBp N bf (prt N p 0) y)) h5
    exact cnt_tr (cnt_tr (cnt_sm h1 e.1 e.2) c1) c2
theorem let_c (hF : MCs N g F) {rec : Bool} {n : Nat} {ps bo : List Nat} (hs1 : Sqn g N (vls N ps) a m) (hs2 : Sqn g N bo m b) : CNT a b y (mLet N F rec n ps bo y) := by
  unfold mLet
  dsimp only
  generalize e2 : (if rec = true then mBi N (mSg y).length (ps.map (fun p => prt N p 0)) (mN1 n (nI (mSl y (mLv y))) y) else mN1 n (nI (mSl y (mLv y))) y) = yA
  have h2 : mFm yA = mFm y ∧ mLa yA = mLa y := by
    rw [← e2]
    cases rec
    · exact ⟨rfl, rfl⟩
    · exact mbi_s _ _
  have c3 := lt_c hF (rec := rec) ps [] a m yA hs1
  generalize e4 : (if rec = true then mLt N F rec ps [] yA else (ps.map (fun p => nCn N (prt N p 0))).foldl (fun y j => mIn j y) (mLt N F rec ps [] yA)) = yB
  have h4 : mFm yB = mFm (mLt N F rec ps [] yA) ∧ mLa yB = mLa (mLt N F rec ps [] yA) := by
    rw [← e4]
    cases rec
    · exact min_s _ _
    · exact ⟨rfl, rfl⟩
  have c5 : CNT m b yB (mBo F bo yB) := bo_c hF bo m b yB hs2
  have c6 : CNT a b y (mBo F bo yB) := cnt_tr (cnt_tr (cnt_tr (cnt_sm (Nat.le_refl _) h2.1 h2.2) c3) (cnt_sm (Nat.le_refl _) h4.1 h4.2)) c5
  exact c6
theorem lam_c (hF : MCs N g F) {n : Nat} {ns bo : List Nat} (hs : Sqn g N bo m b) : mFm (mLam N F n ns bo y) + m ≤ mFm y + b ∧ 3 * mLa (mLam N F n ns bo y) + m ≤ 3 * mLa y + 3 + b := by
  unfold mLam
  dsimp only
  generalize e1 : (if 120 < mLa y + 1 then mW 6 (nQ N n) y else y) = yA
  have h1 : mFm yA = mFm y ∧ mLa yA = mLa y := by
    rw [← e1]
    split
    · exact ⟨rfl, rfl⟩
    · exact ⟨rfl, rfl⟩
  have h2 := mbi_s (N := N) (w := (mSg y).length) ns (mNl n ns.length (mN1 n (nI (mLa y + 1)) yA))
  have h3 : mFm (mNl n ns.length (mN1 n (nI (mLa y + 1)) yA)) = mFm yA ∧ mLa (mNl n ns.length (mN1 n (nI (mLa y + 1)) yA)) = mLa yA + 1 := ⟨rfl, rfl⟩
  have c := bo_c hF bo m b (mBi N (mSg y).length ns (mNl n ns.length (mN1 n (nI (mLa y + 1)) yA))) hs
  unfold CNT at c
  show mFm (mBo F bo _) + m ≤ _ ∧ 3 * mLa (mBo F bo _) + m ≤ _
  omega
theorem mF_c : ∀ (f g : Nat), g ≤ f → ∀ (n b : Nat) (row : Bool) (y : MR), Tr g N n b → b < 2000000000 → CNT n b y (mF N f n row y)
  | 0, g, hg, n, b, row, y, ht, _ => by
    have : g = 0 := by omega
    subst this
    exact ht.elim
  | f + 1, 0, _, _, _, _, _, ht, _ => ht.elim
  | f + 1, g + 1, hg, n, b, row, y, ht, hb => by
    have hF : MCs N g (fun a => mF N f a false) := fun v m y t => mF_c f g (by omega) v m false y t.1 t.2
    have hlt := trl_lt ht
    have ct : mFm (mCt N n y) = mFm y + 1 ∧ mLa (mCt N n y) = mLa y := by
      unfold mCt
      split
      · exact ⟨rfl, rfl⟩
      · exact ⟨rfl, rfl⟩
    have c0 : CNT n (n + 1) y (mCt N n y) := by
      unfold CNT
      omega
    rw [mF]
    by_cases c5 : nK N n = 5
    · rw [if_pos c5]
      have := mus_s (N := N) (y := mCt N n y) (n := n)
      unfold CNT
      omega
    rw [if_neg c5]
    by_cases c6 : nK N n ≠ 6
    · rw [if_pos c6]
      exact cnt_wk c0 (Nat.le_refl _) (by omega)
    rw [if_neg c6]
    have c6 : nK N n = 6 := Classical.not_not.mp c6
    have hsq := frs_sqn _ _ _ (tr_pts ht c6 hb).2.2 hb
    by_cases cs : shp N n (wrd N n) row = false
    · rw [if_pos cs]
      exact cnt_wk (y1 := mW 3 (nQ N n) (mCt N n y)) c0 (Nat.le_refl _) (by omega)
    rw [if_neg cs]
    have cs : shp N n (wrd N n) row = true := by simpa using cs
    by_cases w1 : wrd N n = 1
    · rw [if_pos w1]
      exact cnt_wk c0 (Nat.le_refl _) (by omega)
    rw [if_neg w1]
    by_cases w2 : wrd N n = 2
    · rw [if_pos w2]
      rw [w2] at cs
      obtain ⟨l1, l2⟩ := shp_2 cs
      obtain ⟨m0, m1, e1, e2, e3, e4, e5, e6, e7, e8⟩ := big_tr ht c6 hb (by omega)
      have hc := lam_c hF (N := N) (y := mCt N n y) (n := n) (ns := pts N (prt N n 1)) e5
      have t1 := trl_lt e2
      have t2 := trl_lt e4
      unfold CNT
      omega
    rw [if_neg w2]
    by_cases w4 : wrd N n = 4
    · rw [if_pos w4]
      rw [w4] at cs
      obtain ⟨l1, l2⟩ := shp_4 cs
      obtain ⟨m, q1, q2⟩ := let_sq ht c6 hb l1 l2
      exact cnt_tr c0 (let_c hF q1 q2)
    rw [if_neg w4]
    by_cases w5 : wrd N n = 5
    · rw [if_pos w5]
      rw [w5] at cs
      obtain ⟨l1, l2⟩ := shp_5 cs
      obtain ⟨m, q1, q2⟩ := let_sq ht c6 hb l1 l2
      exact cnt_tr c0 (let_c hF q1 q2)
    rw [if_neg w5]
    have sec : 3 ≤ (pts N n).length → ∃ m, Trb g N (prt N n 2) m ∧ n + 1 ≤ prt N n 2 ∧ m ≤ b := fun hl => by
      have h1 := sqn_drop 2 _ _ _ hsq
      have e : (pts N n).drop 2 = prt N n 2 :: (pts N n).drop 3 := by
        unfold prt
        rw [List.drop_eq_getElem_cons (by omega), List.getD_eq_getElem?_getD, List.getElem?_eq_getElem (by omega)]
        rfl
      rw [e] at h1
      obtain ⟨h2, m, h3, h4, h5, _⟩ := h1
      exact ⟨m, h3, h2, h5⟩
    by_cases w6 : wrd N n = 6
    · rw [if_pos w6]
      rw [w6] at cs
      obtain ⟨l1, l2⟩ := shp_6 cs
      obtain ⟨m, q1, q2, q3⟩ := sec (by omega)
      generalize e1 : (if nCn N (prt N n 1) < 30 then mW 5 (nQ N (prt N n 1)) (mCt N n y) else mUs N (prt N n 1) (mCt N n y)) = yA
      have h1 : mFm yA = mFm (mCt N n y) ∧ mLa yA = mLa (mCt N n y) := by
        rw [← e1]
        split
        · exact ⟨rfl, rfl⟩
        · exact mus_s
      exact cnt_wk (cnt_tr (cnt_tr c0 (cnt_sm q2 h1.1 h1.2)) (hF (prt N n 2) m yA q1)) (Nat.le_refl _) q3
    rw [if_neg w6]
    by_cases w10 : wrd N n = 10
    · rw [if_pos w10]
      rw [w10] at cs
      obtain ⟨_, l1, l2⟩ := shp_10 cs
      obtain ⟨m, q1, q2, q3⟩ := sec (by omega)
      generalize e1 : mMn (prt N n 1) 3 (dA N (nCn N (prt N n 1))) (if nCn N (prt N n 1) < 30 then mW 5 (nQ N (prt N n 1)) (mCt N n y) else mCt N n y) = yA
      have h1 : mFm yA = mFm (mCt N n y) ∧ mLa yA = mLa (mCt N n y) := by
        rw [← e1]
        by_cases cc : nCn N (prt N n 1) < 30
        · rw [if_pos cc]
          exact ⟨rfl, rfl⟩
        · rw [if_neg cc]
          exact ⟨rfl, rfl⟩
      exact cnt_wk (cnt_tr (cnt_tr c0 (cnt_sm q2 h1.1 h1.2)) (hF (prt N n 2) m yA q1)) (Nat.le_refl _) q3
    rw [if_neg w10]
    by_cases w0 : wrd N n = 0
    · rw [if_pos w0]
      exact cnt_tr c0 (bo_c hF (pts N n) (n + 1) b (mCt N n y) hsq)
    rw [if_neg w0]
    exact cnt_tr c0 (bo_c hF ((pts N n).drop 1) (n + 1) b (mCt N n y) (sqn_drop 1 _ _ _ hsq))
end MCN
