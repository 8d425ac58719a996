/-! BUILD. Faults: set!, define, let -/
section FL4
variable {N : NS} {mt : List Nat} {z z1 z2 z' : CR} {y y1 y2 y' yr : MR} {n b g a m : Nat} {S : Shp} {la : Bool}
variable {F : Nat → Bool → CR → CR} {Fm : Nat → MR → MR}
theorem use_P {s : Nat} (hP : SRp S z y) (h30 : 30 ≤ nCn N s) (hm : cMn N (nCn N s) z = true) (hs : 1 ≤ s) : SRp S z (mUs N s y) ∧ mWr (mUs N s y) = mWr y ∧ MEf N s (s + 1) y (mUs N s y) := by
  obtain ⟨u1, u2, u3, u4, u5, u6⟩ := us_sim (n := s) hP.1 (fun l a b => (hP.2.2.1 l a b).1) h30 hm
  have mU : MEf N s (s + 1) y (mUs N s y) := us_e ⟨Nat.le_refl _, Nat.lt_succ_self _⟩ hs
  have lvU : mLv (mUs N s y) = mLv y := mU.1.2.1
  have arU : ∀ l, l ≤ mLv y → mAr (mUs N s y) l = mAr y l := mU.1.2.2.1
  refine ⟨⟨sra_n hP.1 rfl rfl mU, ?_, fun l l1 l2 => ?_, by rw [u4]; exact hP.2.2.2.1, by rw [u5]; exact hP.2.2.2.2⟩, u3, mU⟩
  · obtain ⟨d1, d2, d3, d4⟩ := hP.2.1
    have hsg : sgD (mUs N s y) = sgD y := by funext i; unfold sgD; rw [mU.1.1]
    refine ⟨d1, by rw [hsg]; exact d2, by rw [lvU, mU.1.2.2.2 _ (Nat.le_refl _)]; exact d3, ?_⟩
    rw [lvU, mU.1.2.2.2 _ (Nat.le_refl _), arU _ (Nat.le_refl _)]
    exact Nat.le_trans d4 (mU.2.2.2.1 _ (hP.1.2.2.2.1 _ (Nat.le_refl _))).2.2.1
  · rw [lvU] at l2
    refine ⟨u1 l l1 l2, fun x hx => ?_⟩
    rw [arU l l2, u2 l l2 x]
    exact Or.inl ((hP.2.2.1 l l1 l2).2 x hx)
theorem us_no {s : Nat} (hA : SRa z y) (h30 : ¬ nCn N s < 30) (hm : ¬ cMn N (nCn N s) z = true) : mUs N s y = mW 4 (nQ N s) y := by
  unfold cMn at hm
  simp only [Bool.or_eq_true, decide_eq_true_eq, not_or] at hm
  unfold mUs
  rw [if_neg (by omega), if_neg h30, fd_eq hA]
  have hb : cFd (nCn N s) (rSc z) = none := by
    cases hb : cFd (nCn N s) (rSc z) with
    | none => rfl
    | some b => rw [hb] at hm; exact absurd rfl hm.1
  rw [hb]
  dsimp only
  rw [if_neg hm.2]
/-- a fault at a name, then a value -/
theorem nv_flt {s v k : Nat} (pl : Plo N) (hN : N.1 < 2000000000) (hF : CFs N g F) (hM : MFs N g Fm) (hs : a ≤ s ∧ s < v) (ha : 1 ≤ a) (h5 : nK N s = 5) (htv : Trb g N v b) (hb : b ≤ N.1) (hk : KI z.2.1) (hi : AI y) (hn : rFl z = none) (e : rFl z' = rFl (F v false (cTl k (nQ N s) z))) : FO N a b z' y (Fm v (mW k (nQ N s) y)) := by
  have hvb := tr_lt _ _ _ _ htv.1
  have E := hF v b false (cTl k (nQ N s) z) htv hk
  have hne : rFl (cTl k (nQ N s) z) ≠ none := tl_fl
  have f0 : FO N s (s + 1) (cTl k (nQ N s) z) y (mW k (nQ N s) y) := fun k' p h => by
    have h1 : rFl (cTl k (nQ N s) z) = some (k, nQ N s) := if_pos hn
    rw [h1] at h
    injection h with h
    injection h with h2 h3
    subst h2
    subst h3
    exact ⟨rfl, s, Nat.le_refl _, Nat.lt_succ_self _, rfl⟩
  have M1 := hM v b (mW k (nQ N s) y) htv (by omega) hi
  exact fo_wk (fo_fst pl hN (leaf_tr h5) (by omega) (by omega) hb f0 hne (e.trans (E.2.2.2.1.1 hne)) (mef_wk M1 (by omega) (Nat.le_refl _))) hs.1 (Nat.le_refl _)
theorem set_flt {s v : Nat} (pl : Plo N) (hN : N.1 < 2000000000) (hF : CFs N g F) (hM : MFs N g Fm) (hX : FFs N g F Fm) (hs : a ≤ s ∧ s < v) (ha : 1 ≤ a) (h5 : nK N s = 5) (htv : Trb g N v b) (hb : b ≤ N.1) (hk : KI z.2.1) (hP : SRp S z y) (hn : rFl z = none) : FO N a b (cSt N F la s v z) y (Fm v (if nCn N s < 30 then mW 5 (nQ N s) y else mUs N s y)) := by
  have hi := hP.1.2.2.2.1
  have gbfl : ∀ zz : CR, rFl (cGb la zz) = rFl zz := fun zz => (gb_e (z := zz) (la := la)).2.1
  unfold cSt
  dsimp only
  by_cases c30 : nCn N s < 30
  · rw [if_pos c30, if_pos c30]
    refine nv_flt pl hN hF hM hs ha h5 htv hb hk hi hn ?_
    have E := hF v b false (cTl 5 (nQ N s) z) htv hk
    have e1 : rFl (F v false (cTl 5 (nQ N s) z)) ≠ none := by rw [E.2.2.2.1.1 tl_fl]; exact tl_fl
    rw [gbfl, if_neg e1]
  · rw [if_neg c30, if_neg c30]
    by_cases cm : cMn N (nCn N s) z = true
    · rw [if_pos cm]
      obtain ⟨PU, wU, mU⟩ := use_P (s := s) hP (by omega) cm (by omega)
      have f1 := hX v b false S z (mUs N s y) htv (by omega) hb hk PU hn
      intro k p h
      rw [gbfl] at h
      have h2 : rFl (F v false z) = some (k, p) := by
        by_cases c : rFl (F v false z) = none
        · rw [if_pos c, (vr_e (N := N) (j := nCn N s) (o := 19) (dp := rDp (F v false z)) (a := 0) (hF v b false z htv hk).2.2.1).2.2.2.2.2.2.2.2, c] at h
          cases h
        · rw [if_neg c] at h
          exact h
      obtain ⟨x1, i, x2, x3, x4⟩ := f1 k p h2
      rw [wU] at x1
      exact ⟨x1, i, by omega, x3, x4⟩
    · rw [if_neg cm, us_no hP.1 c30 cm]
      refine nv_flt pl hN hF hM hs ha h5 htv hb hk hi hn ?_
      have E := hF v b false (cTl 4 (nQ N s) z) htv hk
      have e1 : rFl (F v false (cTl 4 (nQ N s) z)) ≠ none := by rw [E.2.2.2.1.1 tl_fl]; exact tl_fl
      rw [gbfl, if_neg e1]
theorem define_flt {s v : Nat} (pl : Plo N) (hN : N.1 < 2000000000) (hF : CFs N g F) (hM : MFs N g Fm) (hX : FFs N g F Fm) (hs : a ≤ s ∧ s < v) (ha : 1 ≤ a) (h5 : nK N s = 5) (htv : Trb g N v b) (hb : b ≤ N.1) (hk : KI z.2.1) (hP : SRp S z y) (hn : rFl z = none) (h100 : ¬ (100 ≤ (gdf N).idxOf (nCn N s) ∧ nCn N s ∈ gdf N)) : FO N a b (cDf N F s v z) y (Fm v (mMn s 3 (dA N (nCn N s)) (if nCn N s < 30 then mW 5 (nQ N s) y else y))) := by
  have hi := hP.1.2.2.2.1
  unfold cDf
  dsimp only
  by_cases c30 : nCn N s < 30
  · rw [if_pos c30, if_pos c30]
    have hvb := tr_lt _ _ _ _ htv.1
    have E := hF v b false (cTl 5 (nQ N s) z) htv hk
    have hne : rFl (cTl 5 (nQ N s) z) ≠ none := tl_fl
    have f0 : FO N s (s + 1) (cTl 5 (nQ N s) z) y (mMn s 3 (dA N (nCn N s)) (mW 5 (nQ N s) y)) := fun k' p h => by
      have h1 : rFl (cTl 5 (nQ N s) z) = some (5, nQ N s) := if_pos hn
      rw [h1] at h
      injection h with h
      injection h with h2 h3
      subst h2
      subst h3
      exact ⟨rfl, s, Nat.le_refl _, Nat.lt_succ_self _, rfl⟩
    have M1 := hM v b (mMn s 3 (dA N (nCn N s)) (mW 5 (nQ N s) y)) htv (by omega) hi
    exact fo_wk (fo_fst pl hN (leaf_tr h5) (by omega) (by omega) hb f0 hne (E.2.2.2.1.1 hne) (mef_wk M1 (by omega) (Nat.le_refl _))) hs.1 (Nat.le_refl _)
  · rw [if_neg c30, if_neg c30, if_neg h100]
    obtain ⟨XU, PU⟩ := xo_mn (N := N) (s := s) (me := 3) (nu := dA N (nCn N s)) (a := s) (b := s + 1) hk hP ⟨Nat.le_refl _, Nat.lt_succ_self _⟩ (by omega)
    have f1 := hX v b false S z _ htv (by omega) hb hk PU hn
    intro k p h
    obtain ⟨x1, i, x2, x3, x4⟩ := f1 k p h
    exact ⟨x1, i, by omega, x3, x4⟩
theorem psq_of : ∀ (ps : List Nat) (a b : Nat), Frs (Tr g N) (nX N) ps a b → b < 2000000000 → (∀ p, p ∈ ps → (pts N p).length = 2 ∧ nK N (prt N p 0) = 5) → PSq g N ps a b
  | [], _, _, e, _, _ => Nat.le_of_eq e
  | c :: ps, a, b, e, hb, hp => by
    obtain ⟨e0, m, e1, e2, e3, e4, e5⟩ := e
    subst e0
    obtain ⟨g', eg, _, t1, t2, t3⟩ := two_tr e1 (hp c (by simp)).1 (by omega)
    exact ⟨by omega, by omega, (hp c (by simp)).2, m, ⟨tr_mono t1 (by omega), by omega⟩, tr_lt _ _ _ _ t1, e3, psq_of ps m b e5 hb (fun p h => hp p (List.mem_cons_of_mem _ h))⟩
theorem psq_mono {g' : Nat} (hg : g ≤ g') : ∀ (ps : List Nat) (a b : Nat), PSq g N ps a b → PSq g' N ps a b
  | [], _, _, h => h
  | p :: ps, a, b, h => by
    obtain ⟨h1, h2, h3, m, h4, h5, h6, h7⟩ := h
    exact ⟨h1, h2, h3, m, ⟨tr_mono h4.1 hg, h4.2⟩, h5, h6, psq_mono hg ps m b h7⟩
/-- the pairs of a let, and its body behind them -/
theorem let_psq (h : Tr (g + 1) N n b) (h6 : nK N n = 6) (hb : b < 2000000000) (h3 : 3 ≤ (pts N n).length) (hp : arP N (prt N n 1) = true) : ∃ m, PSq g N (pts N (prt N n 1)) (prt N n 1 + 1) m ∧ Sqn g N ((pts N n).drop 2) m b ∧ Tr g N (prt N n 1) m ∧ n + 1 < prt N n 1 ∧ m ≤ b := by
  obtain ⟨m0, m1, e1, e2, e3, e4, e5, e6, e7, e8⟩ := big_tr h h6 hb (by omega)
  obtain ⟨p1, p2, p3⟩ := arP_2 hp
  cases g with
  | zero => exact e4.elim
  | succ g =>
    obtain ⟨a1, a2, a3⟩ := tr_pts e4 p1 (by omega)
    exact ⟨m1, psq_mono (Nat.le_succ _) _ _ _ (psq_of _ _ _ a3 (by omega) p3), e5, e4, by omega, e6⟩
theorem let_m1 (hM : MFs N g Fm) {rec : Bool} {ps bo : List Nat} {w : Int32} (hs1 : Sqn g N (vls N ps) a m) (hs2 : Sqn g N bo m b) (ha : 1 ≤ a) (hp : Prw N ps a b) (hi : AI y) (ew : w = nI (mSl y (mLv y))) : MEf N a b (mN1 n w y) (mLet N Fm rec n ps bo y) := by
  have hmb := seq_le _ _ _ hs2
  have hnm := seq_le _ _ _ hs1
  subst ew
  have hi1 : AI (mN1 n (nI (mSl y (mLv y))) y) := hi
  unfold mLet
  dsimp only
  cases rec
  · simp only [Bool.false_eq_true, if_false]
    have e3 := lt_m hM (rec := false) ps [] a m _ hs1 (Nat.le_refl _) hmb ha hp hi1
    generalize hy3 : mLt N Fm false ps [] (mN1 n (nI (mSl y (mLv y))) y) = y3 at *
    have b4 := ins_m (N := N) (a := a) (b := b) (ps.map (fun p => nCn N (prt N p 0))) y3
    have e5 := bo_m hM bo m b _ hs2 (by omega) (ai_be b4 (ai_ef e3 hi1))
    have := blk_m b4 (mef_wk e5 hnm (Nat.le_refl _))
    have l1 : mLv y3 = mLv y := e3.1.2.1
    have l2 : mSl y3 (mLv y) = mSl y (mLv y) := e3.1.2.2.2 (mLv y) (Nat.le_refl _)
    have l3 : mSg y3 = mSg y := e3.1.1
    rw [l3, l1, l2] at this
    exact mef_tr e3 this
  · simp only [if_true]
    have b2 := bi_m (N := N) (a := a) (b := b) (w := (mSg y).length) (ps.map (fun p => prt N p 0)) (mN1 n (nI (mSl y (mLv y))) y) (fun x hx => by
      obtain ⟨p, hp1, rfl⟩ := List.mem_map.mp hx
      exact hp p hp1)
    have e3 := lt_m hM (rec := true) ps [] a m _ hs1 (Nat.le_refl _) hmb ha hp (ai_be b2 hi1)
    have e5 := bo_m hM bo m b _ hs2 (by omega) (ai_ef e3 (ai_be b2 hi1))
    exact blk_m (y := mN1 n (nI (mSl y (mLv y))) y) b2 (mef_tr e3 (mef_wk e5 hnm (Nat.le_refl _)))
/-- bindings behind the values: the body's state -/
theorem let_mid {ps : List Nat} (hF : CFs N g F) (hM : MFs N g Fm) (hS : SFs N mt g F Fm) (s1 : Sqn g N (vls N ps) a m) (ha : 1 ≤ a) (hm : m ≤ N.1) (hn1 : 1 ≤ n) (hk : KI z.2.1) (hP : SRp S z y) (hn : rFl (cLt N F ps [] z) = none) : SRp (S ++ bnd (mSl y (mLv y)) ps.length) (cBp N ps (rDp z) (cLt N F ps [] z)) ((ps.map (fun p => nCn N (prt N p 0))).foldl (fun y j => mIn j y) (mLt N Fm false ps [] (mN1 n (nI (mSl y (mLv y))) y))) ∧ KI (cBp N ps (rDp z) (cLt N F ps [] z)).2.1 ∧ mWr ((ps.map (fun p => nCn N (prt N p 0))).foldl (fun y j => mIn j y) (mLt N Fm false ps [] (mN1 n (nI (mSl y (mLv y))) y))) = mWr y := by
  obtain ⟨XN, PN⟩ := xo_n1 (N := N) (n := n) (nu := nI (mSl y (mLv y))) hk hP hn1
  have slN : mSl (mN1 n (nI (mSl y (mLv y))) y) (mLv y) = mSl y (mLv y) := rfl
  have lvN : mLv (mN1 n (nI (mSl y (mLv y))) y) = mLv y := rfl
  have T1 := lt_e hF ps [] a m z s1 hk
  obtain ⟨q1, q2, q3⟩ := lt_eq (Fm := Fm) hF ps [] a m z (mN1 n (nI (mSl y (mLv y))) y) s1 hk hn
  obtain ⟨X1, D1, G1⟩ := seq_sim hF hM hS (vls N ps) a m S z (mN1 n (nI (mSl y (mLv y))) y) s1 ha hm hk PN (by rw [← q1]; exact hn)
  rw [← q1, ← q2] at X1 D1
  have hvl : (vls N ps).length = ps.length := by unfold vls; rw [List.length_map]
  rw [hvl] at D1
  have A1 := xo_a PN X1
  have ejs : ps.map (fun p => nCn N (prt N p 0)) = (nms N ps).map (nCn N) := by unfold nms; rw [List.map_map]; rfl
  have hjl : ((nms N ps).map (nCn N)).length = ps.length := by unfold nms; rw [List.length_map, List.length_map]
  rw [ejs]
  obtain ⟨B1, B2, B3⟩ := bp_e (N := N) ps (rDp z) (cLt N F ps [] z) T1.2.2.1
  generalize hz1 : cLt N F ps [] z = z1 at *
  generalize hy1 : mLt N Fm false ps [] (mN1 n (nI (mSl y (mLv y))) y) = y1 at *
  have lv1 : mLv y1 = mLv y := X1.2.1.1.2.1
  have sl1 : mSl y1 (mLv y) = mSl y (mLv y) := X1.2.1.1.2.2.2 _ (Nat.le_refl _)
  have hSl : S.length = rDp z := hP.2.1.1
  obtain ⟨c1, c2, c3, c4⟩ := bp_bC (N := N) ps (rDp z) z1
  have I2 := ins_S ((nms N ps).map (nCn N)) y1
  have Be := ins_m (N := N) (a := m) (b := m) ((nms N ps).map (nCn N)) y1
  generalize hy2 : ((nms N ps).map (nCn N)).foldl (fun y j => mIn j y) y1 = y2 at *
  generalize hz2 : cBp N ps (rDp z) z1 = z2 at *
  rw [← hSl] at c1
  have look : ∀ i, i < (rSc z1).length → (scD z1 i).2.2 = rBd z1 → S[(scD z1 i).2.1]? = some (some (sgD y1 i).2.2) := fun i hi ho => by
    have := D1.2.1 i hi ho
    by_cases c : (scD z1 i).2.1 < S.length
    · rw [List.getElem?_append_left c] at this; exact this
    · rw [List.getElem?_append_right (by omega), List.getElem?_replicate] at this
      split at this
      · cases this
      · cases this
  obtain ⟨A2, E2, L2, T2⟩ := bind_sim (s := mSl y (mLv y)) A1 X1.2.2.2.2.1 look (fun t ht => by
    have := D1.2.2.1 t (List.mem_append_left _ ht)
    rw [lv1, sl1] at this
    exact this) (by rw [lv1, sl1]) c1 c3 I2
  have dp2 : rDp z2 = rDp z + ps.length := by
    rw [(t_of c4).2.1]
    exact (T1.2.2.2.2 hn).1
  have ls2 : mSl y2 (mLv y2) ≤ mLs y2 (mAr y2 (mLv y2)) := by
    have := Be.2.2.2.2.2.2.2.2.2.2.2.2.1 D1.2.2.2
    rw [I2.2.1, I2.2.2.1]
    exact this
  rw [hjl] at L2 T2
  exact ⟨⟨A2, ⟨by rw [List.length_append, bndz_len, dp2, hSl], L2, T2, ls2⟩, E2, by rw [(t_of c4).1, I2.2.2.2.2.2.2.2.1]; exact X1.2.2.2.1.1, by rw [(u_of c2).2.2.1, I2.2.2.2.2.2.1]; exact X1.2.2.2.1.2⟩, (bnd_b B1).2, I2.2.2.2.2.2.2.2.2.trans X1.2.2.2.2.2.2⟩
theorem let_flt {ps bo : List Nat} {i : Nat} (pl : Plo N) (hN : N.1 < 2000000000) (hF : CFs N g F) (hM : MFs N g Fm) (hS : SFs N mt g F Fm) (hX : FFs N g F Fm) (hi : Tr g N i m) (ha : 1 ≤ a ∧ a ≤ i) (hps : PSq g N ps (i + 1) m) (s2 : Sqn g N bo m b) (hbo : bo ≠ []) (hb : b ≤ N.1) (hn1 : 1 ≤ n) (hk : KI z.2.1) (hP : SRp S z y) (hn : rFl z = none) : FO N a b (cLet N F la ps bo z) y (mLet N Fm false n ps bo y) := by
  have hmb := seq_le _ _ _ s2
  have him := tr_lt _ _ _ _ hi
  have s1 := psq_v ps _ _ hps
  obtain ⟨XN, PN⟩ := xo_n1 (N := N) (n := n) (nu := nI (mSl y (mLv y))) hk hP hn1
  have f1 := lt_flt pl hN hF hM hS hX ps [] (i + 1) m S z (mN1 n (nI (mSl y (mLv y))) y) hps (by omega) (by omega) hk PN hn
  have T1 := lt_e hF ps [] (i + 1) m z s1 hk
  obtain ⟨B1, B2, B3⟩ := bp_e (N := N) ps (rDp z) (cLt N F ps [] z) T1.2.2.1
  have R2 := bo_e hF (la := la) bo m b _ hbo s2 (bnd_b B1).2
  have Mi := lt_m hM (rec := false) ps [] (i + 1) m (mN1 n (nI (mSl y (mLv y))) y) s1 (Nat.le_refl _) (Nat.le_refl _) (by omega) (psq_n ps _ _ hps) PN.1.2.2.2.1
  unfold cLet mLet
  dsimp only
  simp only [Bool.false_eq_true, if_false]
  have efl : rFl (cLe la (rSc z).length (rDp z) ps.length (cBo F la bo (cBp N ps (rDp z) (cLt N F ps [] z)))) = rFl (cBo F la bo (cBp N ps (rDp z) (cLt N F ps [] z))) := (le_e (a := 0)).2.2.2.2.2.2.2
  have ez2 : rFl (cBp N ps (rDp z) (cLt N F ps [] z)) = rFl (cLt N F ps [] z) := (t_of B3).2.2.2
  by_cases c : rFl (cLt N F ps [] z) = none
  · obtain ⟨P2, k2, w2⟩ := let_mid (n := n) hF hM hS s1 (by omega) (by omega) hn1 hk hP c
    have f2 := bo_flt (la := la) pl hN hF hM hS hX bo m b _ _ _ hbo s2 (by omega) hb k2 P2 (by rw [ez2]; exact c)
    intro k p h
    rw [efl] at h
    obtain ⟨x1, j, x2, x3, x4⟩ := f2 k p h
    rw [w2] at x1
    exact ⟨x1, j, by omega, x3, x4⟩
  · have b4 := ins_m (N := N) (a := m) (b := b) (ps.map (fun p => nCn N (prt N p 0))) (mLt N Fm false ps [] (mN1 n (nI (mSl y (mLv y))) y))
    have ai1 := ai_ef Mi PN.1.2.2.2.1
    have e5 := bo_m hM bo m b _ s2 (by omega) (ai_be b4 ai1)
    have Mr := blk_m b4 e5
    have l1 : mLv (mLt N Fm false ps [] (mN1 n (nI (mSl y (mLv y))) y)) = mLv y := Mi.1.2.1
    have l2 : mSl (mLt N Fm false ps [] (mN1 n (nI (mSl y (mLv y))) y)) (mLv y) = mSl y (mLv y) := Mi.1.2.2.2 (mLv y) (Nat.le_refl _)
    have l3 : mSg (mLt N Fm false ps [] (mN1 n (nI (mSl y (mLv y))) y)) = mSg y := Mi.1.1
    rw [l3, l1, l2] at Mr
    have e3 : rFl (cLe la (rSc z).length (rDp z) ps.length (cBo F la bo (cBp N ps (rDp z) (cLt N F ps [] z)))) = rFl (cLt N F ps [] z) := by
      rw [efl, R2.2.2.2.1.1 (by rw [ez2]; exact c), ez2]
    have f1' : FO N i m (cLt N F ps [] z) y (mLt N Fm false ps [] (mN1 n (nI (mSl y (mLv y))) y)) := fo_wk f1 (Nat.le_succ _) (Nat.le_refl _)
    exact fo_wk (fo_fst pl hN hi (by omega) hmb hb f1' c e3 Mr) ha.2 (Nat.le_refl _)
end FL4
