/-! BUILD. The row of forms -/
def Rws (G : PG) : List Nat → Nat → Nat → Prop
  | [], pc, e => e = pc
  | a :: l, pc, e => ∃ x f, f ≤ 38 ∧ Cod G 0 f a false [] pc x ∧ G.1 1 x = 35 ∧ Rws G l (x + 1) e
def mRw (N : NS) (l : List Nat) (y : MR) : MR := l.foldl (fun y a => mF N 40 a true y) y
section ROW
variable {N : NS} {mt : List Nat} {z z' : CR} {y y' : MR} {n b g a m : Nat}
theorem rw_m : ∀ (l : List Nat) (a b : Nat) (y : MR), Sqn g N l a b → g ≤ 40 → 1 ≤ a → AI y → MEf N a b y (mRw N l y)
  | [], _, _, _, _, _, _, _ => mef_rf
  | v :: l, a, b, y, hs, hg, ha, hi => by
    obtain ⟨h1, m, h2, h3, h4, h5⟩ := hs
    have e1 := mF_e (N := N) 40 g hg v m true y h2.1 h2.2 (by omega) hi
    have e2 := rw_m l m b (mF N 40 v true y) h5 hg (by omega) (ai_ef e1 hi)
    exact mef_tr (mef_wk e1 h1 h4) (mef_wk e2 (by omega) (Nat.le_refl _))
theorem rw_e : ∀ (l : List Nat) (a b : Nat) (z : CR), Sqn g N l a b → g ≤ 40 → KI z.2.1 → CSe a b 0 z (cRw N mt 40 l z)
  | [], a, b, z, hs, _, hk => ⟨rfl, rfl, hk, ef_wk (ef_rf (a := a)) (Nat.le_refl _) hs, fun _ => ⟨rfl, Nat.le_refl _, by show (rCd z).length ≤ (rCd z).length + 5 * (rFm z - rFm z); omega, Nat.le_refl _, Nat.le_max_left _ _⟩⟩
  | v :: l, a, b, z, hs, hg, hk => by
    have hab := seq_le _ _ _ hs
    obtain ⟨h1, m, h2, h3, h4, h5⟩ := hs
    rw [cRw]
    by_cases c : rFl z ≠ none
    · rw [if_pos c]
      exact ⟨rfl, rfl, hk, ef_wk (ef_rf (a := a)) (Nat.le_refl _) hab, fun h => absurd h c⟩
    rw [if_neg c]
    obtain ⟨e1, e2, e3, e4, e5⟩ := cF_e (N := N) (mt := mt) 40 g hg (Nat.le_refl _) v m false true z h2.1 h2.2 hk
    obtain ⟨f1, f2, f3, f4, f5⟩ := rw_e l m b (cE 35 0 (rDp (cF N mt 40 v false true z) - 1) (cF N mt 40 v false true z)) h5 hg e3
    have E1 := ef_tr (ef_wk e4 h1 (Nat.le_refl _)) (ef_E (o := 35) (v := 0) (dp := rDp (cF N mt 40 v false true z) - 1)) (Nat.le_of_eq e2.symm)
    refine ⟨f1.trans e1, f2.trans e2, f3, ef_tr E1 f4 (by show _ ≤ rBd (cF N mt 40 v false true z); omega), fun hn => ?_⟩
    have hn1 : rFl (cF N mt 40 v false true z) = none := ef_no (z := cE 35 0 (rDp (cF N mt 40 v false true z) - 1) (cF N mt 40 v false true z)) f4 hn
    obtain ⟨g1, g2, g3, g4, g5⟩ := e5 hn1
    obtain ⟨k1, k2, k3, k4, k5⟩ := f5 hn
    have x1 : (rCd (cE 35 0 (rDp (cF N mt 40 v false true z) - 1) (cF N mt 40 v false true z))).length = (rCd (cF N mt 40 v false true z)).length + 1 := cd_E
    have x2 : rFm (cE 35 0 (rDp (cF N mt 40 v false true z) - 1) (cF N mt 40 v false true z)) = rFm (cF N mt 40 v false true z) := rfl
    have x3 : rDp (cE 35 0 (rDp (cF N mt 40 v false true z) - 1) (cF N mt 40 v false true z)) = rDp (cF N mt 40 v false true z) - 1 := rfl
    rw [x1] at k3 k4
    rw [x2] at k2 k3
    rw [x3] at k1
    refine ⟨by omega, by omega, by omega, by omega, by omega⟩
theorem rw_sim (nk : Nok N mt) (hg : g ≤ 38) : ∀ (l : List Nat) (a b : Nat) (z : CR) (y : MR), Sqn g N l a b → 1 ≤ a → b ≤ N.1 → KI z.2.1 → SRp [] z y → mAr y (mLv y) = 0 → (∀ n, n ∈ l → Rok N n false true) → rFl (cRw N mt 40 l z) = none →
    XO N a b z (cRw N mt 40 l z) y (mRw N l y) ∧ SRd [] (cRw N mt 40 l z) (mRw N l y) ∧ ∀ G, GS N mt G → HG G z (cRw N mt 40 l z) y (mRw N l y) a b → Rws G (l.map (· - 1)) (rCd z).length (rCd (cRw N mt 40 l z)).length ∧ ∀ M, mLa y < M → M ≤ mLa (mRw N l y) → WGM G M
  | [], a, b, z, y, hs, ha, hb, hk, hP, hL0, hr, hn => ⟨xo_wk (xo_rf (a := a) hk hP) (Nat.le_refl _) hs, hP.2.1, fun G gs H => ⟨rfl, fun M h1 h2 => absurd h2 (Nat.not_le.mpr h1)⟩⟩
  | v :: l, a, b, z, y, hs, ha, hb, hk, hP, hL0, hr, hn => by
    obtain ⟨h1, m, h2, h3, h4, h5⟩ := hs
    rw [cRw] at hn ⊢
    by_cases c : rFl z ≠ none
    · rw [if_pos c] at hn
      exact absurd hn c
    rw [if_neg c] at hn ⊢
    have E1 := cF_e (N := N) (mt := mt) 40 g (by omega) (Nat.le_refl _) v m false true z h2.1 h2.2 hk
    have E2 := rw_e (mt := mt) l m b (cE 35 0 (rDp (cF N mt 40 v false true z) - 1) (cF N mt 40 v false true z)) h5 (by omega) E1.2.2.1
    have hn1 : rFl (cF N mt 40 v false true z) = none := ef_no (z := cE 35 0 (rDp (cF N mt 40 v false true z) - 1) (cF N mt 40 v false true z)) E2.2.2.2.1 hn
    have M1 := mF_e (N := N) 40 g (by omega) v m true y h2.1 h2.2 (by omega) hP.1.2.2.2.1
    have so := cF_sim nk 40 g (by omega) (Nat.le_refl _) (by omega) v m false true [] z y h2.1 (by omega) (by omega) hk hP (hr v (by simp)) hn1
    have X1 := xo_so E1 M1 so hn1
    have hA1 := xo_a hP X1
    have hD1 := srd_n hP.2.1 E1.1 E1.2.1 hP.1 M1 (E1.2.2.2.2 hn1).1
    have hP1 : SRp ([] ++ [none]) (cF N mt 40 v false true z) (mF N 40 v true y) := ⟨hA1, hD1, X1.2.2.2.2.1, X1.2.2.2.1.1, X1.2.2.2.1.2⟩
    have hP2 : SRp [] (cE 35 0 (rDp (cF N mt 40 v false true z) - 1) (cF N mt 40 v false true z)) (mF N 40 v true y) := ⟨hA1, srd_d (S := []) hD1 rfl rfl rfl rfl, sre_same X1.2.2.2.2.1 rfl rfl rfl rfl rfl, X1.2.2.2.1.1, X1.2.2.2.1.2⟩
    have hL : mAr (mF N 40 v true y) (mLv (mF N 40 v true y)) = mAr y (mLv y) := by rw [M1.1.2.1, M1.1.2.2.1 _ (Nat.le_refl _)]
    obtain ⟨X2, D2, G2⟩ := rw_sim nk hg l m b (cE 35 0 (rDp (cF N mt 40 v false true z) - 1) (cF N mt 40 v false true z)) (mF N 40 v true y) h5 (by omega) hb E1.2.2.1 hP2 (hL.trans hL0) (fun x hx => hr x (List.mem_cons_of_mem _ hx)) hn
    have X1' : XO N a m z (cF N mt 40 v false true z) y (mF N 40 v true y) := xo_wk X1 h1 (Nat.le_refl _)
    have X1e := xo_E (o := 35) (v := 0) (dp := rDp (cF N mt 40 v false true z) - 1) X1'
    have Xm := xo_tr (xo_E (o := 35) (v := 0) (dp := rDp (cF N mt 40 v false true z) - 1) (xo_rf (N := N) (a := m) E1.2.2.1 hP1)) X2 (Nat.le_refl _) h4
    refine ⟨xo_tr X1e X2 (by omega) h4, D2, fun G gs H => ?_⟩
    have Hf := hg_fst H X1 Xm hP.1 h1 (by omega) h4
    have Hs := hg_snd H X1e X2 (by omega)
    obtain ⟨k1, k2⟩ := so.2.2.2.2 G gs Hf
    obtain ⟨d1, d2⟩ := G2 G gs Hs
    rw [hL0] at k1
    rw [cd_E] at d1
    have hop := opz_at (z1 := cF N mt 40 v false true z) (u := 35) (v := 0) (dp := rDp (cF N mt 40 v false true z) - 1) H (X1.1.1.1.length_le) X2.1.1.1 rfl
    refine ⟨⟨_, g, hg, k1, hop.1, d1⟩, fun M hM1 hM2 => ?_⟩
    by_cases c : M ≤ mLa (mF N 40 v true y)
    · exact k2 M hM1 c
    · exact d2 M (by omega) hM2
/-- names defined so far -/
theorem gdF_pre {bf : List Nat} : bf <+: gdF N bf n := by
  unfold gdF
  split
  · exact List.prefix_append _ _
  · exact List.prefix_refl _
theorem gdF_fold : ∀ (l bf : List Nat), bf <+: l.foldl (gdF N) bf
  | [], _ => List.prefix_refl _
  | n :: l, bf => gdF_pre.trans (gdF_fold l (gdF N bf n))
theorem gdF_30 : ∀ (l bf : List Nat), (∀ x, x ∈ bf → 30 ≤ x) → ∀ x, x ∈ l.foldl (gdF N) bf → 30 ≤ x
  | [], _, h => h
  | n :: l, bf, h => gdF_30 l (gdF N bf n) (fun x hx => by
    unfold gdF at hx
    split at hx
    · rename_i c
      rcases List.mem_append.mp hx with hx | hx
      · exact h x hx
      · simp only [List.mem_cons, List.not_mem_nil, or_false] at hx
        rw [hx]; exact c.2.2.1
    · exact h x hx)
theorem gdf_mem : ∀ (l bf : List Nat) (n : Nat), n ∈ l → wrd N n = 10 → shp N n 10 true = true → 30 ≤ nCn N (prt N n 1) → nCn N (prt N n 1) ∈ l.foldl (gdF N) bf
  | [], _, _, h, _, _, _ => by cases h
  | a :: l, bf, n, h, h1, h2, h3 => by
    rcases List.mem_cons.mp h with rfl | h
    · refine (gdF_fold l (gdF N bf n)).subset ?_
      unfold gdF
      by_cases c : nCn N (prt N n 1) ∈ bf
      · rw [if_neg (fun h => h.2.2.2 c)]; exact c
      · rw [if_pos ⟨h1, h2, h3, c⟩]; exact List.mem_append_right _ (by simp)
    · exact gdf_mem l (gdF N bf a) n h h1 h2 h3
/-- the name that a form of the row defines lies in it -/
theorem def_in {v m : Nat} (h : Tr g N v m) (hm : m < 2000000000) (hw : wrd N v = 10) (hs : shp N v 10 true = true) : nK N v = 6 ∧ v + 1 < prt N v 1 ∧ prt N v 1 < prt N v 2 ∧ nK N (prt N v 1) = 5 ∧ ∃ g', g = g' + 1 ∧ Tr g' N (prt N v 2) m ∧ prt N v 2 < m := by
  cases g with
  | zero => exact h.elim
  | succ g =>
    have h6 : nK N v = 6 := Classical.byContradiction fun c => by
      have : wrd N v = 0 := by unfold wrd; rw [pts_no c]
      omega
    obtain ⟨_, l1, l2⟩ := shp_10 hs
    obtain ⟨m1, t1, t2, t3, t4, _⟩ := three_tr h h6 hm l1
    exact ⟨h6, t2, by omega, l2, g, rfl, t1, tr_lt _ _ _ _ t1⟩
theorem gdF_ne {bf : List Nat} (h : gdF N bf n ≠ bf) : wrd N n = 10 ∧ shp N n 10 true = true ∧ 30 ≤ nCn N (prt N n 1) ∧ nCn N (prt N n 1) ∉ bf ∧ gdF N bf n = bf ++ [nCn N (prt N n 1)] := by
  unfold gdF at h ⊢
  by_cases c : wrd N n = 10 ∧ shp N n 10 true = true ∧ 30 ≤ nCn N (prt N n 1) ∧ nCn N (prt N n 1) ∉ bf
  · rw [if_pos c]; exact ⟨c.1, c.2.1, c.2.2.1, c.2.2.2, rfl⟩
  · rw [if_neg c] at h; exact absurd rfl h
theorem mdf_keep {k p : Nat} : ∀ (l bf : List Nat) (a b : Nat), Sqn g N l a b → (∀ i, a ≤ i → i < b → p < nQ N i) → mDf N l bf (some (k, p)) = some (k, p)
  | [], _, _, _, _, _ => rfl
  | n :: l, bf, a, b, hs, hp => by
    obtain ⟨h1, m, h2, h3, h4, h5⟩ := hs
    rw [mDf]
    have e : (if gdF N bf n ≠ bf ∧ 100 ≤ bf.length then wMn (some (k, p)) 6 (nQ N (prt N n 1)) else some (k, p)) = some (k, p) := by
      split
      · rename_i c
        obtain ⟨c1, c2, _⟩ := gdF_ne c.1
        obtain ⟨_, d1, d2, _, g', _, _, d3⟩ := def_in h2.1 h2.2 c1 c2
        have := hp (prt N n 1) (by omega) (by omega)
        unfold wMn
        dsimp only
        rw [if_pos (Or.inl this)]
      · rfl
    rw [e]
    exact mdf_keep l _ m b h5 (fun i hi1 hi2 => hp i (by omega) hi2)
theorem mdf_none (pl : Plo N) (hN : N.1 < 2000000000) : ∀ (l bf : List Nat) (a b : Nat), Sqn g N l a b → 1 ≤ a → b ≤ N.1 → mDf N l bf none = none ∨ ∃ i, a ≤ i ∧ i < b ∧ mDf N l bf none = some (6, nQ N i)
  | [], _, _, _, _, _, _ => Or.inl rfl
  | n :: l, bf, a, b, hs, ha, hb => by
    obtain ⟨h1, m, h2, h3, h4, h5⟩ := hs
    rw [mDf]
    by_cases c : gdF N bf n ≠ bf ∧ 100 ≤ bf.length
    · rw [if_pos c]
      obtain ⟨c1, c2, _⟩ := gdF_ne c.1
      obtain ⟨_, d1, d2, _, g', _, _, d3⟩ := def_in h2.1 h2.2 c1 c2
      refine Or.inr ⟨prt N n 1, by omega, by omega, ?_⟩
      exact mdf_keep l _ m b h5 (fun i hi1 hi2 => pl_lt pl h2.1 (by omega) (by omega) hN (by omega) (by omega) hi1 (by omega))
    · rw [if_neg c]
      rcases mdf_none pl hN l (gdF N bf n) m b h5 (by omega) hb with h | ⟨i, i1, i2, i3⟩
      · exact Or.inl h
      · exact Or.inr ⟨i, by omega, i2, i3⟩
theorem idx_new {l l' : List Nat} {x : Nat} (h : l ++ [x] <+: l') (hx : x ∉ l) : l'.idxOf x = l.length := by
  obtain ⟨t, rfl⟩ := h
  rw [List.append_assoc, List.idxOf_append, if_neg hx]
  simp
theorem idx_old {l l' : List Nat} {x : Nat} (h : l <+: l') (hx : x ∈ l) : l'.idxOf x < l.length := by
  rw [idx_pf h hx]
  exact List.idxOf_lt_length_iff.mpr hx
theorem rw_fl : ∀ (l : List Nat) (z : CR), rFl z ≠ none → cRw N mt 40 l z = z
  | [], _, _ => rfl
  | v :: l, z, h => by rw [cRw, if_pos h]
/-- too many names: the form that defines one more -/
theorem over_flt (nk : Nok N mt) (pl : Plo N) {v : Nat} (h : Trb g N v m) (hg : g ≤ 38) (hv : 1 ≤ v) (hm : m ≤ N.1) (hk : KI z.2.1) (hP : SRp [] z y) (hn : rFl z = none) (hw : wrd N v = 10) (hs : shp N v 10 true = true) (h30 : 30 ≤ nCn N (prt N v 1)) (hov : 100 ≤ (gdf N).idxOf (nCn N (prt N v 1)) ∧ nCn N (prt N v 1) ∈ gdf N) (hy : mWr y = some (6, nQ N (prt N v 1))) : ∃ i, v ≤ i ∧ i < m ∧ rFl (cF N mt 40 v false true z) = some (6, nQ N i) ∧ mWr (mF N 40 v true y) = wMn none 6 (nQ N i) := by
  have hN2 : N.1 < 2000000000 := by have := nk.2.2; omega
  obtain ⟨h6, d1, d2, d5, g', rfl, t1, d3⟩ := def_in h.1 h.2 hw hs
  have hF : CFs N g' (fun a la => cF N mt 39 a la false) := fun v m la z ht hk => cF_e 39 g' (by omega) (by omega) v m la false z ht.1 ht.2 hk
  have hM : MFs N g' (fun a => mF N 39 a false) := fun v m y ht hv hi => mF_e 39 g' (by omega) v m false y ht.1 ht.2 hv hi
  have hkc : KI (cCt N v z).2.1 := by rw [(ef_Ct (N := N) (z := z) (n := v)).2.1]; exact hk
  have aic : AI (mCt N v y) := ai_ef (mef_Ct (N := N) (a := v) (b := m) (n := v) ⟨Nat.le_refl _, by omega⟩) hP.1.2.2.2.1
  have eC : cF N mt 40 v false true z = cDf N (fun a la => cF N mt 39 a la false) (prt N v 1) (prt N v 2) (cCt N v z) := by
    rw [cF, if_neg (fun c => c hn), if_pos h6, hw, if_neg (by rw [hs]; decide)]
    rfl
  have eM : mF N 40 v true y = mF N 39 (prt N v 2) false (mMn (prt N v 1) 3 (dA N (nCn N (prt N v 1))) (mCt N v y)) := by
    rw [mF, if_neg (by rw [h6]; decide), if_neg (fun c => c h6), hw, if_neg (by rw [hs]; decide)]
    simp only [Nat.reduceEqDiff, if_false, if_true]
    rw [if_neg (by omega : ¬ nCn N (prt N v 1) < 30)]
  have kid := kid_lt pl hN2 h.1 h6 hv hm (by omega)
  have M2 := hM (prt N v 2) m (mMn (prt N v 1) 3 (dA N (nCn N (prt N v 1))) (mCt N v y)) ⟨t1, h.2⟩ (by omega) aic
  have Ce := df_e hF (s := prt N v 1) (a := v + 1) ⟨t1, h.2⟩ (by omega) hkc
  rw [eC, eM]
  by_cases c : rFl (cCt N v z) = none
  · refine ⟨prt N v 1, by omega, by omega, ?_, ?_⟩
    · have E := hF (prt N v 2) m false (cTl 6 (nQ N (prt N v 1)) (cCt N v z)) ⟨t1, h.2⟩ hkc
      unfold cDf
      dsimp only
      rw [if_neg (by omega : ¬ nCn N (prt N v 1) < 30), if_pos hov]
      show rFl (cF N mt 39 (prt N v 2) false false (cTl 6 (nQ N (prt N v 1)) (cCt N v z))) = _
      have h1 : rFl (cTl 6 (nQ N (prt N v 1)) (cCt N v z)) = some (6, nQ N (prt N v 1)) := if_pos c
      exact (E.2.2.2.1.1 (by rw [h1]; simp)).trans h1
    · refine wr_keep M2 ?_ (fun j hj1 hj2 => pl_lt pl (leaf_tr d5) (by omega) (by omega) hN2 (Nat.le_refl _) (Nat.lt_succ_self _) (by omega) (by omega))
      show mWr (mCt N v y) = _
      rw [(ct_sim (N := N) (n := v) (y := y) c hP.2.2.2.1).1.1, hy]
      rfl
  · obtain ⟨c1, c2⟩ := ct_flt hn hP.2.2.2.1 c
    refine ⟨v, Nat.le_refl _, by omega, (Ce.2.2.2.1.1 c).trans c1, ?_⟩
    refine wr_keep M2 ?_ (fun j hj1 hj2 => kid j (by omega) hj2)
    show mWr (mCt N v y) = _
    rw [c2, hy]
    have := kid (prt N v 1) (by omega) (by omega)
    unfold wMn
    dsimp only
    rw [if_neg (by omega)]
/-- the row's faults -/
theorem rw_flt (nk : Nok N mt) (pl : Plo N) (hg : g ≤ 38) : ∀ (l bf : List Nat) (a b : Nat) (z : CR) (y : MR), Sqn g N l a b → 1 ≤ a → b ≤ N.1 → KI z.2.1 → SRp [] z y → rFl z = none → bf.length ≤ 100 → l.foldl (gdF N) bf = gdf N → (∀ n, n ∈ l → Rok N n false true) → mWr y = mDf N l bf none → (∀ k p, rFl (cRw N mt 40 l z) = some (k, p) → mWr (mRw N l y) = some (k, p)) ∧ (rFl (cRw N mt 40 l z) = none → mWr y = none)
  | [], bf, a, b, z, y, hs, ha, hb, hk, hP, hn, hl, hgd, hr, hy => ⟨fun k p h => (by
    have h : rFl z = some (k, p) := h
    rw [hn] at h
    cases h), fun _ => hy⟩
  | v :: l, bf, a, b, z, y, hs, ha, hb, hk, hP, hn, hl, hgd, hr, hy => by
    have hN2 : N.1 < 2000000000 := by have := nk.2.2; omega
    obtain ⟨h1, m, h2, h3, h4, h5⟩ := hs
    have E1 := cF_e (N := N) (mt := mt) 40 g (by omega) (Nat.le_refl _) v m false true z h2.1 h2.2 hk
    have M1 := mF_e (N := N) 40 g (by omega) v m true y h2.1 h2.2 (by omega) hP.1.2.2.2.1
    have M2 := rw_m l m b (mF N 40 v true y) h5 (by omega) (by omega) (ai_ef M1 hP.1.2.2.2.1)
    have eR : cRw N mt 40 (v :: l) z = cRw N mt 40 l (cE 35 0 (rDp (cF N mt 40 v false true z) - 1) (cF N mt 40 v false true z)) := by rw [cRw, if_neg (fun c => c hn)]
    rw [eR]
    show (∀ k p, _ → mWr (mRw N l (mF N 40 v true y)) = _) ∧ _
    have hgd' : l.foldl (gdF N) (gdF N bf v) = gdf N := hgd
    have hpre : gdF N bf v <+: gdf N := by rw [← hgd']; exact gdF_fold l _
    have pls : ∀ i, v ≤ i → i < m → ∀ j, m ≤ j → j < b → nQ N i < nQ N j := fun i i1 i2 j j1 j2 => pl_lt pl h2.1 (by omega) (by omega) hN2 i1 i2 j1 (by omega)
    by_cases ov : gdF N bf v ≠ bf ∧ 100 ≤ bf.length
    · obtain ⟨c1, c2, c3, c4, c5⟩ := gdF_ne ov.1
      obtain ⟨_, d1, d2, _, _, _, _, d3⟩ := def_in h2.1 h2.2 c1 c2
      rw [mDf, if_pos ov] at hy
      have hy : mWr y = mDf N l (gdF N bf v) (some (6, nQ N (prt N v 1))) := hy
      rw [mdf_keep l _ m b h5 (pls (prt N v 1) (by omega) (by omega))] at hy
      rw [c5] at hpre
      obtain ⟨i, i1, i2, i3, i4⟩ := over_flt (mt := mt) nk pl h2 hg (by omega) (by omega) hk hP hn c1 c2 c3 ⟨by rw [idx_new hpre c4]; exact ov.2, hpre.subset (List.mem_append_right _ (by simp))⟩ hy
      have hne : rFl (cE 35 0 (rDp (cF N mt 40 v false true z) - 1) (cF N mt 40 v false true z)) ≠ none := by show rFl (cF N mt 40 v false true z) ≠ none; rw [i3]; simp
      rw [rw_fl _ _ hne]
      refine ⟨fun k p h => ?_, fun h => absurd h hne⟩
      have h : rFl (cF N mt 40 v false true z) = some (k, p) := h
      rw [i3] at h
      rw [← h]
      exact wr_keep M2 i4 (pls i i1 i2)
    · rw [mDf, if_neg ov] at hy
      have hok2 : Rok2 N v true := fun _ w1 w2 hh => by
        have hx30 := gdF_30 (N := N) (pts N 0) [] (fun x hx => by cases hx) _ hh.2
        by_cases cm : nCn N (prt N v 1) ∈ bf
        · have := idx_old (gdF_pre.trans hpre) cm
          omega
        · have e : gdF N bf v = bf ++ [nCn N (prt N v 1)] := by unfold gdF; rw [if_pos ⟨w1, w2, hx30, cm⟩]
          rw [e] at hpre
          have h3 := idx_new hpre cm
          refine ov ⟨?_, by omega⟩
          rw [e]
          intro h4
          have := congrArg List.length h4
          rw [List.length_append] at this
          simp at this
      have hl' : (gdF N bf v).length ≤ 100 := by
        by_cases c : gdF N bf v = bf
        · rw [c]; exact hl
        · rw [(gdF_ne c).2.2.2.2, List.length_append]
          have : ¬ 100 ≤ bf.length := fun h => ov ⟨c, h⟩
          show bf.length + 1 ≤ 100
          omega
      have f1 := cF_flt nk pl 40 g (by omega) (Nat.le_refl _) (by omega) v m false true [] z y h2.1 (by omega) (by omega) hk hP hok2 hn
      by_cases c : rFl (cF N mt 40 v false true z) = none
      · have so := cF_sim nk 40 g (by omega) (Nat.le_refl _) (by omega) v m false true [] z y h2.1 (by omega) (by omega) hk hP (hr v (by simp)) c
        have X1 := xo_so E1 M1 so c
        have hA1 := xo_a hP X1
        have hD1 := srd_n hP.2.1 E1.1 E1.2.1 hP.1 M1 (E1.2.2.2.2 c).1
        have hP2 : SRp [] (cE 35 0 (rDp (cF N mt 40 v false true z) - 1) (cF N mt 40 v false true z)) (mF N 40 v true y) := ⟨hA1, srd_d (S := []) hD1 rfl rfl rfl rfl, sre_same X1.2.2.2.2.1 rfl rfl rfl rfl rfl, X1.2.2.2.1.1, X1.2.2.2.1.2⟩
        have ih := rw_flt nk pl hg l (gdF N bf v) m b (cE 35 0 (rDp (cF N mt 40 v false true z) - 1) (cF N mt 40 v false true z)) (mF N 40 v true y) h5 (by omega) hb E1.2.2.1 hP2 c hl' hgd' (fun x hx => hr x (List.mem_cons_of_mem _ hx)) (by rw [X1.2.2.2.2.2.2]; exact hy)
        exact ⟨ih.1, fun h => by rw [← X1.2.2.2.2.2.2]; exact ih.2 h⟩
      · have hne : rFl (cE 35 0 (rDp (cF N mt 40 v false true z) - 1) (cF N mt 40 v false true z)) ≠ none := c
        rw [rw_fl _ _ hne]
        refine ⟨fun k p h => ?_, fun h => absurd h hne⟩
        obtain ⟨x1, i, x2, x3, x4⟩ := f1 k p h
        have e1 : wMn (mWr y) k p = wMn none k p := by
          rw [hy]
          rcases mdf_none pl hN2 l (gdF N bf v) m b h5 (by omega) hb with e | ⟨j, j1, j2, e⟩
          · rw [e]
          · rw [e]
            have := pls i x2 x3 j j1 j2
            unfold wMn
            dsimp only
            rw [if_neg (by omega)]
        rw [e1] at x1
        exact wr_keep M2 x1 (fun j j1 j2 => by rw [x4]; exact pls i x2 x3 j j1 j2)
end ROW
