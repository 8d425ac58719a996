/-! BUILD. The two compilers against each other: lambda -/
section SMH
variable {N : NS} {mt : List Nat} {z z1 z2 z3 z' zm : CR} {y y1 y2 y3 y' ym : MR} {n b g a m n1 b1 lo la' lv L : Nat} {G : PG} {S : Shp} {la : Bool}
variable {F : Nat → Bool → CR → CR} {Fm : Nat → MR → MR}
theorem sre_rest2 {c : Nat} (h : SRe z3 y3) (h1 : rSc z' = (rSc z3).take c) (h2 : rKp z' = rKp z3) (h3 : mSg y' = (mSg y3).take c) (h4 : mLv y' + 1 = mLv y3) (h5 : mAr y' = mAr y3) (h6 : mFe y' = mFe y3) (hc : ∀ i, c ≤ i → i < (rSc z3).length → (scD z3 i).2.2 = mLv y3) : SRe z' y' := by
  intro l l1 l2
  obtain ⟨f1, f2⟩ := h l l1 (by omega)
  have hfs : fes y' = fes y3 := by funext M; unfold fes; rw [h6]
  refine ⟨?_, fun x hx => ?_⟩
  · unfold FrO at f1 ⊢
    rw [h5, h6, hfs]
    refine ⟨f1.1, fun k e he => ?_⟩
    obtain ⟨g1, g2, g3⟩ := f1.2 k e he
    have hlt : e.1 < c := Nat.lt_of_not_le fun cc => by
      have := hc e.1 cc g1
      omega
    have e1 : scD z' e.1 = scD z3 e.1 := by unfold scD; rw [h1, gd_take hlt]
    have e2 : sgD y' e.1 = sgD y3 e.1 := by unfold sgD; rw [h3, gd_take hlt]
    rw [e1, e2, h1, List.length_take]
    exact ⟨by omega, g2, g3⟩
  · rw [h5, hfs]
    rw [h2] at hx
    exact f2 x hx
/-- two lists of the same things, none twice, are of one length -/
theorem nd_len : ∀ (l l' : List Nat), l.Nodup → l'.Nodup → (∀ x, x ∈ l ↔ x ∈ l') → l.length = l'.length := fun l l' h1 h2 h => by
  have a1 : l ⊆ l' := fun x hx => (h x).mp hx
  have a2 : l' ⊆ l := fun x hx => (h x).mpr hx
  have b1 := h1.length_le_of_subset a1
  have b2 := h2.length_le_of_subset a2
  omega
/-- a level opens in both -/
theorem open_sim {nu k : Nat} (hA : SRa z y) (hE : SRe z y) (hk : ∀ l, l ≤ rBd z → rKp z2 l = rKp z l) (hk0 : rKp z2 (rBd z + 1) = []) (h1 : rSc z2 = rSc z) (h2 : rBd z2 = rBd z + 1) : SRa z2 (mNl nu k y) ∧ SRe z2 (mNl nu k y) := by
  obtain ⟨⟨a1, a2⟩, a3, a4, a5, a6⟩ := hA
  have hsc : scD z2 = scD z := by funext i; unfold scD; rw [h1]
  have ar : ∀ l, l ≤ mLv y → mAr (mNl nu k y) l = mAr y l := fun l hl => if_neg (by omega)
  have ar' : mAr (mNl nu k y) (mLv y + 1) = mLa y + 1 := if_pos rfl
  have fe : ∀ l, l ≤ mLv y → mFe (mNl nu k y) (mAr y l) = mFe y (mAr y l) := fun l hl => if_neg (by have := a5 l hl; omega)
  have fe' : mFe (mNl nu k y) (mLa y + 1) = [] := if_pos rfl
  have fs : ∀ l, l ≤ mLv y → fes (mNl nu k y) (mAr y l) = fes y (mAr y l) := fun l hl => by unfold fes; rw [fe l hl]
  refine ⟨⟨⟨by rw [h1]; exact a1, by rw [h2]; show _ = mLv y + 1; omega⟩, fun i hi => ?_, fun l l' hl hl' => ?_, fun l hl => ?_, ?_⟩, fun l l1 l2 => ?_⟩
  · rw [h1] at hi
    obtain ⟨b1, b2, b3⟩ := a3 i hi
    rw [hsc]
    exact ⟨b1, by rw [ar _ b3]; exact b2, Nat.le_succ_of_le b3⟩
  · have hl' : l' ≤ mLv y + 1 := hl'
    rw [ar l (by omega)]
    by_cases c : l' = mLv y + 1
    · rw [c, ar']
      have := a5 l (by omega)
      omega
    · rw [ar l' (by omega)]
      exact a4 l l' hl (by omega)
  · have hl : l ≤ mLv y + 1 := hl
    show _ ≤ mLa y + 1
    by_cases c : l = mLv y + 1
    · rw [c, ar']; exact Nat.le_refl _
    · rw [ar l (by omega)]
      have := a5 l (by omega)
      omega
  · rw [ar 0 (Nat.zero_le _)]; exact a6
  · have l2 : l ≤ mLv y + 1 := l2
    by_cases c : l = mLv y + 1
    · subst c
      unfold FrO fes
      rw [ar', fe']
      refine ⟨⟨by simp, fun k e he => by simp at he⟩, fun x hx => ?_⟩
      rw [← a2, hk0] at hx
      cases hx
    · have hl : l ≤ mLv y := by omega
      obtain ⟨f1, f2⟩ := hE l l1 hl
      unfold FrO at f1 ⊢
      rw [ar l hl, ar (l - 1) (by omega), fs l hl, fs (l - 1) (by omega), fe l hl, h1, hsc]
      refine ⟨f1, fun x hx => ?_⟩
      rw [hk l (by omega)] at hx
      exact f2 x hx
theorem lambda_sim (nk : Nok N mt) (hg : g ≤ 38) (hF : CFs N g F) (hM : MFs N g Fm) (hS : SFs N mt g F Fm) (ht : Tr (g + 1) N n b) (h6 : nK N n = 6) (hn1 : 1 ≤ n) (hb : b ≤ N.1) (hk : KI z.2.1) (hP : SRp S z y) (hw : wrd N n = 2) (hl : 3 ≤ (pts N n).length) (hp : arN N (prt N n 1) = true) (hn : rFl (cLa N F la n (pts N (prt N n 1)) ((pts N n).drop 2) (cCt N n z)) = none) : SO N mt (g + 1) n b la S z (cLa N F la n (pts N (prt N n 1)) ((pts N n).drop 2) (cCt N n z)) y (mLam N Fm n (pts N (prt N n 1)) ((pts N n).drop 2) (mCt N n y)) := by
  have hbb : b < 2000000000 := by have := nk.2.2; omega
  have hlt' := tr_lt _ _ _ _ ht
  have hpne : pts N n ≠ [] := fun e => by rw [e] at hl; simp at hl
  have hdn : (pts N n).drop 2 ≠ [] := dr_ne (by omega)
  obtain ⟨m0, m, e1, e2, e3, e4, e5, e6, e7, e8⟩ := big_tr ht h6 hbb (by omega)
  obtain ⟨p1, p2, p3⟩ := arN_2 hp
  have hnms := nms_of ht h6 hbb hl hp
  have hkc : KI (cCt N n z).2.1 := by rw [(ef_Ct (N := N) (z := z) (n := n)).2.1]; exact hk
  have Ce := al_la hF (la := la) (n := n) (ns := pts N (prt N n 1)) (seq_wk e5 (show n + 1 ≤ m by omega)) hdn hkc
  have hn0 : rFl (cCt N n z) = none := ef_no Ce.2.2.2.1 hn
  obtain ⟨Xc, Pc, cd0, hLc, hlac⟩ := xo_ct (N := N) (n := n) hn0 hk hP
  have Ce' := Ce.2.2.2.2 hn
  have dpc : rDp (cCt N n z) = rDp z := (ef_Ct (N := N) (z := z) (n := n)).2.2.1
  have Me := lam_m (y := mCt N n y) (n := n) (ns := pts N (prt N n 1)) hM ⟨Nat.le_refl n, hlt'⟩ hn1 e5 (by omega) hnms Pc.1.2.2.2.1
  generalize hns : pts N (prt N n 1) = ns at *
  generalize hbo : (pts N n).drop 2 = bo at *
  generalize hzc : cCt N n z = zc at *
  generalize hyc : mCt N n y = yc at *
  have hlm0 : (rLm zc).length = mLa yc := Pc.2.2.2.2
  have bdc : rBd zc = mLv yc := Pc.1.1.2
  have lenc : (rSc zc).length = (mSg yc).length := Pc.1.1.1
  -- room for it
  have h120 : ¬ 120 ≤ (rLm zc).length := fun c => by
    unfold cLa at hn
    rw [if_pos c] at hn
    exact tl_fl hn
  have eC : cLa N F la n ns bo zc = cGb la (lds [(rCd zc).length + 1] (cDD (rDp (cE 26 0 (rDp zc + 1) (cE 25 (nI (rLm zc).length) (rDp zc + 1) (cAl ns.length zc)))) (rDx (cE 26 0 (rDp zc + 1) (cE 25 (nI (rLm zc).length) (rDp zc + 1) (cAl ns.length zc)))) (cUn (rSc zc).length (cLv (cEl (rLm zc).length ((rCd zc).length + 2) (cBo F true bo (cDD ns.length ns.length (cBn N ns [] 0 (cEn (cE 26 0 (rDp zc + 1) (cE 25 (nI (rLm zc).length) (rDp zc + 1) (cAl ns.length zc)))))))))))) := by
    unfold cLa
    rw [if_neg h120]
    rfl
  have eM : mLam N Fm n ns bo yc = mLv1 (mTk (mSg yc).length (mBo Fm bo (mBi N (mSg yc).length ns (mNl n ns.length (mN1 n (nI (mLa yc + 1)) yc))))) := by
    unfold mLam
    rw [if_neg (by omega)]
  rw [eC] at hn Ce Ce' ⊢
  rw [eM] at Me ⊢
  -- the operations ahead of the body
  have cdA : rCd (cE 26 0 (rDp zc + 1) (cE 25 (nI (rLm zc).length) (rDp zc + 1) (cAl ns.length zc))) = rCd zc ++ [(25, nI (rLm zc).length), (26, 0)] := by
    show (rCd zc ++ [_]) ++ [_] = _
    rw [List.append_assoc]; rfl
  have sA : (cE 26 0 (rDp zc + 1) (cE 25 (nI (rLm zc).length) (rDp zc + 1) (cAl ns.length zc))).2.1 = zc.2.1 := rfl
  have lmA : rLm (cE 26 0 (rDp zc + 1) (cE 25 (nI (rLm zc).length) (rDp zc + 1) (cAl ns.length zc))) = rLm zc ++ [(0, ns.length, 0, 0, [])] := rfl
  have srA : rSr (cE 26 0 (rDp zc + 1) (cE 25 (nI (rLm zc).length) (rDp zc + 1) (cAl ns.length zc))) = rSr zc := rfl
  have dtA : rDt (cE 26 0 (rDp zc + 1) (cE 25 (nI (rLm zc).length) (rDp zc + 1) (cAl ns.length zc))) = rDt zc := rfl
  have fmA : rFm (cE 26 0 (rDp zc + 1) (cE 25 (nI (rLm zc).length) (rDp zc + 1) (cAl ns.length zc))) = rFm zc := rfl
  generalize hzA : cE 26 0 (rDp zc + 1) (cE 25 (nI (rLm zc).length) (rDp zc + 1) (cAl ns.length zc)) = zA at *
  have kE : KI (cEn zA).2.1 := by
    have : KI zA.2.1 := by rw [sA]; exact hkc
    exact ki_en this
  have scE : rSc (cEn zA) = rSc zc := (s_of sA).1
  have bdE : rBd (cEn zA) = rBd zc + 1 := by show rBd zA + 1 = _; rw [(s_of sA).2.1]
  have kpE : ∀ l, l ≤ rBd zc → rKp (cEn zA) l = rKp zc l := fun l hl => by
    show (if l = rBd zA + 1 then [] else rKp zA l) = _
    rw [if_neg (by rw [(s_of sA).2.1]; omega), (s_of sA).2.2]
  have kpE' : rKp (cEn zA) (rBd zc + 1) = [] := by
    show (if rBd zc + 1 = rBd zA + 1 then [] else rKp zA (rBd zc + 1)) = _
    rw [if_pos (by rw [(s_of sA).2.1])]
  obtain ⟨Bb, Eb, b1', b2'⟩ := bn_e (N := N) (a := m) ns [] 0 (cEn zA) kE
  have bb := bnd_b Bb
  have R2 := bo_e hF (la := true) bo m b (cDD ns.length ns.length (cBn N ns [] 0 (cEn zA))) hdn e5 bb.2
  -- faults
  generalize hz2 : cBo F true bo (cDD ns.length ns.length (cBn N ns [] 0 (cEn zA))) = z2 at *
  have n2 : rFl z2 = none := by
    rw [(gb_e (la := la)).2.1] at hn
    have : rFl (lds [(rCd zc).length + 1] (cDD (rDp zA) (rDx zA) (cUn (rSc zc).length (cLv (cEl (rLm zc).length ((rCd zc).length + 2) z2))))) = rFl z2 := congrArg (fun t => t.2.2) lds_o.1
    rw [← this]; exact hn
  have nB : rFl (cBn N ns [] 0 (cEn zA)) = none := ef_no (z := cDD ns.length ns.length (cBn N ns [] 0 (cEn zA))) R2.2.2.2.1 n2
  obtain ⟨c1, c2, c3, c4, nmo⟩ := bn_bC (N := N) ns [] 0 (cEn zA) nB
  -- the number
  obtain ⟨XN, PN⟩ := xo_n1 (N := N) (n := n) (nu := nI (mLa yc + 1)) hkc Pc hn1
  have nuN : mNu (mN1 n (nI (mLa yc + 1)) yc) (n - 1) = nI (mLa yc + 1) := if_pos rfl
  obtain ⟨AL, EL⟩ := open_sim (nu := n) (k := ns.length) (y := mN1 n (nI (mLa yc + 1)) yc) (z2 := cEn zA) PN.1 PN.2.2.1 kpE kpE' scE bdE
  have ebi := bi_S (N := N) (w := (mSg yc).length) ns [] (mNl n ns.length (mN1 n (nI (mLa yc + 1)) yc)) nmo (by show ((mSg yc).drop (mSg yc).length).map (·.1) = _; rw [List.drop_length]; rfl) (Nat.le_refl _)
  rw [ebi] at Me ⊢
  have hjl : (ns.map (nCn N)).length = ns.length := List.length_map _
  have yL1 : (mNl n ns.length (mN1 n (nI (mLa yc + 1)) yc)).1 = (mN1 n (nI (mLa yc + 1)) yc).1 := rfl
  have lvL : mLv (mNl n ns.length (mN1 n (nI (mLa yc + 1)) yc)) = mLv yc + 1 := rfl
  have arL : ∀ l, l ≤ mLv yc → mAr (mNl n ns.length (mN1 n (nI (mLa yc + 1)) yc)) l = mAr yc l := fun l hl => if_neg (by show ¬ l = mLv yc + 1; omega)
  have arL' : mAr (mNl n ns.length (mN1 n (nI (mLa yc + 1)) yc)) (mLv yc + 1) = mLa yc + 1 := if_pos rfl
  have slL : mSl (mNl n ns.length (mN1 n (nI (mLa yc + 1)) yc)) (mLv yc + 1) = 0 := if_pos rfl
  have laL : mLa (mNl n ns.length (mN1 n (nI (mLa yc + 1)) yc)) = mLa yc + 1 := rfl
  have ndL : mNd (mNl n ns.length (mN1 n (nI (mLa yc + 1)) yc)) (mLa yc + 1) = n - 1 := if_pos rfl
  have nmL : mNm (mNl n ns.length (mN1 n (nI (mLa yc + 1)) yc)) (mLa yc + 1) = ns.length := if_pos rfl
  have feL : ∀ M, M ≤ mLa yc → mFe (mNl n ns.length (mN1 n (nI (mLa yc + 1)) yc)) M = mFe yc M := fun M hM => if_neg (by show ¬ M = mLa yc + 1; omega)
  have feL' : mFe (mNl n ns.length (mN1 n (nI (mLa yc + 1)) yc)) (mLa yc + 1) = [] := if_pos rfl
  have fmL : mFm (mNl n ns.length (mN1 n (nI (mLa yc + 1)) yc)) = mFm yc := rfl
  have wrL : mWr (mNl n ns.length (mN1 n (nI (mLa yc + 1)) yc)) = mWr yc := rfl
  have nuL : mNu (mNl n ns.length (mN1 n (nI (mLa yc + 1)) yc)) (n - 1) = nI (mLa yc + 1) := nuN
  generalize hyL : mNl n ns.length (mN1 n (nI (mLa yc + 1)) yc) = yL at *
  -- the names
  have I2 := ins_S (ns.map (nCn N)) yL
  have Be := ins_m (N := N) (a := m) (b := b) (ns.map (nCn N)) yL
  generalize hyB : (ns.map (nCn N)).foldl (fun y j => mIn j y) yL = yB at *
  obtain ⟨A2, E2, L2, T2⟩ := bind_sim (S := []) (s := 0) AL EL (fun i hi ho => by
    rw [scE] at hi
    have e : scD (cEn zA) i = scD zc i := by unfold scD; rw [scE]
    rw [e, bdE, bdc] at ho
    have := (Pc.1.2.1 i hi).2.2
    omega) (fun t ht => by cases ht) (by rw [lvL, slL]) c1 c3 I2
  rw [hjl, List.nil_append] at L2 T2
  have lvB : mLv yB = mLv yc + 1 := I2.2.1.trans lvL
  have arB : mAr yB = mAr yL := I2.2.2.1
  have laB : mLa yB = mLa yc + 1 := I2.2.2.2.2.2.1.trans laL
  have slB : mSl yB (mLv yc + 1) = ns.length := by
    have := I2.2.2.2.1
    rw [lvL, slL, hjl, Nat.zero_add] at this
    exact this
  have lsB : mSl yB (mLv yB) ≤ mLs yB (mAr yB (mLv yB)) := by
    have := Be.2.2.2.2.2.2.2.2.2.2.2.2.1 (by rw [lvL, slL]; exact Nat.zero_le _)
    rw [I2.2.1, arB]
    exact this
  have feB : mFe yB = mFe yL := I2.2.2.2.2.2.2.1
  have ndB : mNd yB = mNd yL := Be.2.2.2.2.2.2.2.1
  have nmB : mNm yB = mNm yL := Be.2.2.2.2.2.2.2.2.1
  have P2 : SRp (bnd 0 ns.length) (cDD ns.length ns.length (cBn N ns [] 0 (cEn zA))) yB := by
    refine ⟨A2, ⟨bndz_len, L2, T2, lsB⟩, sre_same E2 rfl rfl rfl rfl rfl, ?_, ?_⟩
    · show rFm (cBn N ns [] 0 (cEn zA)) = _
      rw [(t_of c4).1, I2.2.2.2.2.2.2.2.1, fmL]
      show rFm zA = _
      rw [fmA]; exact Pc.2.2.2.1
    · show (rLm (cBn N ns [] 0 (cEn zA))).length = _
      rw [(u_of c2).2.2.1, laB]
      show (rLm zA).length = _
      rw [lmA, List.length_append, hlm0]
      rfl
  have cdD : rCd (cDD ns.length ns.length (cBn N ns [] 0 (cEn zA))) = rCd zA := (u_of c2).1
  have lmD : rLm (cDD ns.length ns.length (cBn N ns [] 0 (cEn zA))) = rLm zA := (u_of c2).2.2.1
  have srD : rSr (cDD ns.length ns.length (cBn N ns [] 0 (cEn zA))) = rSr zA := (u_of c2).2.2.2
  have dtD : rDt (cDD ns.length ns.length (cBn N ns [] 0 (cEn zA))) = rDt zA := (u_of c2).2.1
  have kpD : ∀ l, l ≤ rBd zc → rKp (cDD ns.length ns.length (cBn N ns [] 0 (cEn zA))) l = rKp zc l := fun l hl => by
    show rKp (cBn N ns [] 0 (cEn zA)) l = _
    rw [show rKp (cBn N ns [] 0 (cEn zA)) = rKp (cEn zA) from congrArg Prod.snd c3]
    exact kpE l hl
  have kpD' : rKp (cDD ns.length ns.length (cBn N ns [] 0 (cEn zA))) (rBd zc + 1) = [] := by
    show rKp (cBn N ns [] 0 (cEn zA)) (rBd zc + 1) = _
    rw [show rKp (cBn N ns [] 0 (cEn zA)) = rKp (cEn zA) from congrArg Prod.snd c3]
    exact kpE'
  have scDD : rSc (cDD ns.length ns.length (cBn N ns [] 0 (cEn zA))) = rSc zc ++ bC (ns.map (nCn N)) 0 (rBd zc + 1) := by
    show rSc (cBn N ns [] 0 (cEn zA)) = _
    rw [c1, scE, bdE]
  have bdD : rBd (cDD ns.length ns.length (cBn N ns [] 0 (cEn zA))) = rBd zc + 1 := bb.1.trans bdE
  generalize hzD : cDD ns.length ns.length (cBn N ns [] 0 (cEn zA)) = zD at *
  have kD : KI zD.2.1 := by rw [← hzD]; exact bb.2
  -- the body
  obtain ⟨X2, D2, G2⟩ := bo_sim (la := true) hF hM hS bo m b (bnd 0 ns.length) zD yB hdn e5 (by omega) hb kD P2 (by rw [hz2]; exact n2)
  rw [hz2] at X2 D2 G2
  have R2' := R2.2.2.2.2 n2
  generalize hy2 : mBo Fm bo yB = y2 at *
  have lv2 : mLv y2 = mLv yc + 1 := X2.2.1.1.2.1.trans lvB
  have ar2 : ∀ l, l ≤ mLv yc → mAr y2 l = mAr yc l := fun l hl => (X2.2.1.1.2.2.1 l (by omega)).trans (by rw [arB]; exact arL l hl)
  have ar2' : mAr y2 (mLv yc + 1) = mLa yc + 1 := (X2.2.1.1.2.2.1 _ (by omega)).trans (by rw [arB]; exact arL')
  have la2 : mLa yc + 1 ≤ mLa y2 := by rw [← laB]; exact X2.2.1.2.1
  have bd2 : rBd z2 = rBd zc + 1 := X2.2.2.1.2.1.trans bdD
  have sc2 : rSc z2 = rSc zc ++ bC (ns.map (nCn N)) 0 (rBd zc + 1) := X2.2.2.1.1.trans scDD
  have hlm2 : (rLm z2).length = mLa y2 := X2.2.2.2.1.2
  -- what is behind it
  have lT := lds_o (z := cDD (rDp zA) (rDx zA) (cUn (rSc zc).length (cLv (cEl (rLm zc).length ((rCd zc).length + 2) z2)))) (xs := [(rCd zc).length + 1])
  have gJ := gb_e (z := lds [(rCd zc).length + 1] (cDD (rDp zA) (rDx zA) (cUn (rSc zc).length (cLv (cEl (rLm zc).length ((rCd zc).length + 2) z2))))) (la := la)
  have gJc := gb_cd (z := lds [(rCd zc).length + 1] (cDD (rDp zA) (rDx zA) (cUn (rSc zc).length (cLv (cEl (rLm zc).length ((rCd zc).length + 2) z2))))) (la := la)
  have gJu : (cGb la (lds [(rCd zc).length + 1] (cDD (rDp zA) (rDx zA) (cUn (rSc zc).length (cLv (cEl (rLm zc).length ((rCd zc).length + 2) z2)))))).1.2 = (lds [(rCd zc).length + 1] (cDD (rDp zA) (rDx zA) (cUn (rSc zc).length (cLv (cEl (rLm zc).length ((rCd zc).length + 2) z2))))).1.2 := by
    unfold cGb
    split <;> rfl
  have cdJ : ∀ i, (rCd (lds [(rCd zc).length + 1] (cDD (rDp zA) (rDx zA) (cUn (rSc zc).length (cLv (cEl (rLm zc).length ((rCd zc).length + 2) z2))))))[i]? = if i = (rCd zc).length + 1 then ((rCd z2)[i]?).map (fun p => (p.1, nI (rCd z2).length)) else (rCd z2)[i]? := fun i => by
    rw [lds_cd]
    by_cases c : i = (rCd zc).length + 1
    · rw [if_pos c, if_pos (by simp [c])]; rfl
    · rw [if_neg c, if_neg (by simp [c])]; rfl
  generalize hzJ : lds [(rCd zc).length + 1] (cDD (rDp zA) (rDx zA) (cUn (rSc zc).length (cLv (cEl (rLm zc).length ((rCd zc).length + 2) z2)))) = zJ at *
  have sJ : zJ.2.1 = ((rSc z2).take (rSc zc).length, rBd z2 - 1, rKp z2) := congrArg (fun t => t.1) lT.1
  have fmJ : rFm zJ = rFm z2 := congrArg (fun t => t.2.1.1) lT.1
  have uJ : zJ.1.2 = (rDt z2, (rLm z2).set (rLm zc).length ((rCd zc).length + 2, ((rLm z2).getD (rLm zc).length (0, 0, 0, 0, [])).2.1, rDx z2, (rSr z2).length, rKp z2 (rBd z2)), rSr z2 ++ (rKp z2 (rBd z2)).map (cSo z2)) := lT.2.1
  have lenJ : (rCd zJ).length = (rCd z2).length := lT.2.2
  generalize hz' : cGb la zJ = z' at *
  have s' : z'.2.1 = ((rSc z2).take (rSc zc).length, rBd z2 - 1, rKp z2) := gJ.1.trans sJ
  have u' : z'.1.2 = (rDt z2, (rLm z2).set (rLm zc).length ((rCd zc).length + 2, ((rLm z2).getD (rLm zc).length (0, 0, 0, 0, [])).2.1, rDx z2, (rSr z2).length, rKp z2 (rBd z2)), rSr z2 ++ (rKp z2 (rBd z2)).map (cSo z2)) := gJu.trans uJ
  have sc' : rSc z' = (rSc z2).take (rSc zc).length := congrArg (fun t => t.1) s'
  have kp' : rKp z' = rKp z2 := congrArg (fun t => t.2.2) s'
  have dt' : rDt z' = rDt z2 := congrArg (fun t => t.1) u'
  have lm' : rLm z' = (rLm z2).set (rLm zc).length ((rCd zc).length + 2, ((rLm z2).getD (rLm zc).length (0, 0, 0, 0, [])).2.1, rDx z2, (rSr z2).length, rKp z2 (rBd z2)) := congrArg (fun t => t.2.1) u'
  have sr' : rSr z' = rSr z2 ++ (rKp z2 (rBd z2)).map (cSo z2) := congrArg (fun t => t.2.2) u'
  have SR' : SRe z' (mLv1 (mTk (mSg yc).length y2)) := by
    refine sre_rest2 (c := (rSc zc).length) X2.2.2.2.2.1 sc' kp' (by rw [lenc]; rfl) (by show mLv y2 - 1 + 1 = mLv y2; omega) rfl rfl (fun i hi1 hi2 => ?_)
    rw [sc2] at hi2
    unfold scD
    rw [sc2, gd_app3 hi1, bC_get _ _ _ _ (by rw [List.length_append, bC_len] at hi2; omega), lv2, ← bdc]
  have lowF : ∀ l, l ≤ mLv yc → mAr yc l ≤ mLa yc := Pc.1.2.2.2.1
  have U' : Uq zc z' yc (mLv1 (mTk (mSg yc).length y2)) := by
    obtain ⟨U, hU⟩ := X2.2.2.2.2.2.1
    refine ⟨U, fun l hl x => ?_⟩
    obtain ⟨u1, u2⟩ := hU l (by omega) x
    rw [kpD l (by omega)] at u1
    have e1 : mAr yB l = mAr yc l := by rw [arB]; exact arL l hl
    have e2 : fes yB (mAr yc l) = fes yc (mAr yc l) := by unfold fes; rw [feB, feL _ (lowF l hl)]
    rw [e1, e2] at u2
    rw [kp']
    exact ⟨u1, u2⟩
  have w' : mWr y2 = mWr yc := X2.2.2.2.2.2.2.trans (I2.2.2.2.2.2.2.2.2.trans wrL)
  have X : XO N n b zc z' yc (mLv1 (mTk (mSg yc).length y2)) := ⟨oke_wk (Ce.2.2.2.1.2 hn) (Nat.le_succ _) (Nat.le_refl _), Me, ⟨Ce.1, Ce.2.1, Ce.2.2.1⟩, ⟨by rw [gJ.2.2.2.1, fmJ]; exact X2.2.2.2.1.1, by rw [lm', List.length_set]; exact hlm2⟩, SR', U', w'⟩
  subst hzc
  subst hyc
  refine so_ct2 nk ht h6 hn1 hb hk hP hn0 hpne X (Ce.2.2.2.1.2 hn) (by omega) (fun G gs H g2 hpd c l hcl fw ch => ?_)
  have LM : mAr yB (mLv yB) = mLa (mCt N n y) + 1 := by rw [lvB, arB, arL']
  have hbd2 : rBd z2 = mLv (mCt N n y) + 1 := by rw [bd2, bdc]
  obtain ⟨⟨H1, H1'⟩, H2n, ⟨H3a, H3b, H3c⟩, H4, H5, H6, H7⟩ := H
  have hla' : mLa (mLv1 (mTk (mSg (mCt N n y)).length y2)) = mLa y2 := rfl
  have hfe' : mFe (mLv1 (mTk (mSg (mCt N n y)).length y2)) = mFe y2 := rfl
  have hfs' : fes (mLv1 (mTk (mSg (mCt N n y)).length y2)) = fes y2 := rfl
  have hls' : mLs (mLv1 (mTk (mSg (mCt N n y)).length y2)) = mLs y2 := rfl
  have hnd' : mNd (mLv1 (mTk (mSg (mCt N n y)).length y2)) = mNd y2 := rfl
  have hnm' : mNm (mLv1 (mTk (mSg (mCt N n y)).length y2)) = mNm y2 := rfl
  have hnu' : mNu (mLv1 (mTk (mSg (mCt N n y)).length y2)) = mNu y2 := rfl
  rw [hla'] at H3c H5
  have lmlt : (rLm (cCt N n z)).length < (rLm z2).length := by omega
  have wnt : ((rLm z2).getD (rLm (cCt N n z)).length (0, 0, 0, 0, [])).2.1 = ns.length := by
    have hp : rLm zD <+: rLm z2 := X2.1.1.2.2.1
    have e0 : (rLm zD)[(rLm (cCt N n z)).length]? = some (0, ns.length, 0, 0, []) := by
      rw [lmD, lmA, List.getElem?_append_right (Nat.le_refl _), Nat.sub_self]
      rfl
    rw [List.getD_eq_getElem?_getD, pf_get hp e0]
    rfl
  obtain ⟨e, le1, le2, le3, le4, le5, le6, le7, le8, ⟨le9, le9a, le9b⟩, le10, le11⟩ := H5 (mLa (mCt N n y) + 1) (by omega) la2
  rw [Nat.add_sub_cancel, ← hlm0, lm', List.getElem?_set, if_pos rfl, if_pos lmlt] at le1
  injection le1 with le1
  rw [← le1] at le3 le4 le5 le6 le7 le8
  dsimp only at le3 le4 le5 le6 le7 le8
  rw [wnt] at le4
  rw [hbd2] at le7 le8
  rw [hfs'] at le8
  rw [hnd'] at le9
  rw [hnm'] at le9a
  rw [hfe'] at le9b
  rw [hls'] at le10
  rw [hfe'] at le11
  have cdA2 : (rCd zA).length = (rCd (cCt N n z)).length + 2 := by rw [cdA, List.length_append]; rfl
  have len2 : (rCd zD).length ≤ (rCd z2).length := X2.1.1.1.length_le
  have len' : (rCd z2).length ≤ (rCd z').length := by rw [gJc, List.length_append, lenJ]; omega
  have cd' : ∀ i, i < (rCd z2).length → (rCd z')[i]? = if i = (rCd (cCt N n z)).length + 1 then ((rCd z2)[i]?).map (fun p => (p.1, nI (rCd z2).length)) else (rCd z2)[i]? := fun i hi => by
    rw [gJc, List.getElem?_append_left (by omega)]
    exact cdJ i
  have nd2 : mNd y2 (mLa (mCt N n y) + 1) = n - 1 := by
    rw [(X2.2.1.2.2.2.1 _ (by omega)).1, ndB, ndL]
  have nm2 : mNm y2 (mLa (mCt N n y) + 1) = ns.length := by
    rw [(X2.2.1.2.2.2.1 _ (by omega)).2.1, nmB, nmL]
  -- what holds of the body
  have HB : HG G zD z2 yB y2 m b := by
    refine ⟨⟨fun i hi1 hi2 => ?_, by omega⟩, fun x hx1 hx2 => H2n x (by omega) hx2, ⟨?_, ?_, H3c⟩, fun i x _ hx => ?_, fun M hM1 hM2 => ?_, fun i w hi hw' => ?_, fun i x v hi hv => ?_⟩
    · rw [cdD] at hi1
      have h1 := H1 i (by omega) (by omega)
      rw [cd' i hi2, if_neg (by omega)] at h1
      exact h1
    · rw [LM, le5]; exact Nat.le_refl _
    · rw [LM, le10]; exact Nat.le_refl _
    · rw [LM]
      rw [lvB] at hx
      exact ⟨by rw [le7]; exact g_lt hx, le8 i x hx⟩
    · rw [laB] at hM1
      obtain ⟨e', q1, q2⟩ := H5 M (by omega) hM2
      rw [lm', List.getElem?_set, if_neg (by omega)] at q1
      rw [hfs', hnd', hnm', hls', hfe'] at q2
      exact ⟨e', q1, q2⟩
    · rw [srD, srA] at hi
      refine H6 i w hi ?_
      rw [sr', List.getElem?_append_left (g_lt hw')]
      exact hw'
    · rw [dtD, dtA] at hi
      exact H7 i x v hi (by rw [dt']; exact hv)
  obtain ⟨v1, v2⟩ := G2 G gs HB
  rw [LM, cdD, cdA2] at v1
  obtain ⟨b1, b2, b3⟩ := gs.2.2.2.2.1 _ le2
  have hLle : mAr (mCt N n y) (mLv (mCt N n y)) ≤ pLm G := by
    have := lowF _ (Nat.le_refl (mLv (mCt N n y)))
    omega
  obtain ⟨b4, b5, b6⟩ := gs.2.2.2.2.1 _ hLle
  -- what it keeps
  have SEt := X2.2.2.2.2.1 (mLv (mCt N n y) + 1) (by omega) (by rw [lv2]; exact Nat.le_refl _)
  have FrT := SEt.1
  unfold FrO at FrT
  rw [ar2'] at FrT
  have kset : ∀ x, x ∈ rKp z2 (mLv (mCt N n y) + 1) ↔ x ∈ fes y2 (mLa (mCt N n y) + 1) := fun x => by
    obtain ⟨U, hU⟩ := X2.2.2.2.2.2.1
    obtain ⟨u1, u2⟩ := hU (mLv (mCt N n y) + 1) (by omega) x
    rw [← bdc, kpD'] at u1
    rw [arB, arL'] at u2
    have e0 : fes yB (mLa (mCt N n y) + 1) = [] := by unfold fes; rw [feB, feL']; rfl
    rw [e0] at u2
    rw [← bdc, u1, u2]
    simp only [List.not_mem_nil, false_or]
    rw [bdc]
  have knd : (rKp z2 (mLv (mCt N n y) + 1)).Nodup := by
    have := (X2.2.2.1.2.2.2.2 (mLv (mCt N n y) + 1) (by show _ ≤ rBd z2; omega)).1
    exact this
  have klen := nd_len _ _ knd FrT.1 kset
  have kpl : ∀ i x, (rKp z2 (mLv (mCt N n y) + 1))[i]? = some x → pKp G (mLa (mCt N n y) + 1) i < pFr G (mLa (mCt N n y) + 1) ∧ (fes y2 (mLa (mCt N n y) + 1))[pKp G (mLa (mCt N n y) + 1) i]? = some x := fun i x hx => by
    have h1 := (kset x).mp (List.mem_of_getElem? hx)
    have h2 := List.idxOf_lt_length_iff.mpr h1
    rw [le8 i x hx, le7, klen]
    exact ⟨h2, by rw [List.getElem?_eq_getElem h2, List.getElem_idxOf]⟩
  refine ⟨?_, fun M h1 h2 => ?_⟩
  · obtain ⟨⟨k1, k2, k3, k4⟩, k5, k6, k7⟩ := cod_l (z0 := z) gs ht h6 hn1 hb hpd (by rw [← cd0]; exact Ce'.2.2.2.2) H1' ch fw
    rw [hw] at k7
    -- the two operations
    have z20 : (rCd z2)[(rCd (cCt N n z)).length]? = some (25, nI (rLm (cCt N n z)).length) := by
      have hp : rCd zD <+: rCd z2 := X2.1.1.1
      refine pf_get hp ?_
      rw [cdD, cdA, List.getElem?_append_right (Nat.le_refl _), Nat.sub_self]
      rfl
    have z21 : (rCd z2)[(rCd (cCt N n z)).length + 1]? = some (26, 0) := by
      have hp : rCd zD <+: rCd z2 := X2.1.1.1
      refine pf_get hp ?_
      rw [cdD, cdA, List.getElem?_append_right (Nat.le_succ _), show (rCd (cCt N n z)).length + 1 - (rCd (cCt N n z)).length = 1 by omega]
      rfl
    have hz2l : (rCd (cCt N n z)).length + 2 < (rCd z2).length := by
      have := R2'.2.2.2.2
      rw [cdD, cdA2] at this
      exact this
    have o1 := H1 (rCd (cCt N n z)).length (Nat.le_refl _) (by omega)
    rw [cd' _ (by omega), if_neg (by omega), z20] at o1
    injection o1 with o1
    injection o1 with o11 o12
    have o2 := H1 ((rCd (cCt N n z)).length + 1) (Nat.le_succ _) (by omega)
    rw [cd' _ (by omega), if_pos rfl, z21] at o2
    have o2 : some ((26 : Int32), nI (rCd z2).length) = some (G.1 1 ((rCd (cCt N n z)).length + 1), G.1 2 ((rCd (cCt N n z)).length + 1)) := o2
    injection o2 with o2
    injection o2 with o21 o22
    have gbb : Gb G la (rCd z2).length (rCd z').length := by
      cases la
      · refine Or.inr ⟨rfl, ?_⟩
        rw [gJc]
        simp only [Bool.false_eq_true, if_false, List.append_nil]
        exact lenJ
      · rw [if_pos rfl] at gJc
        refine Or.inl ⟨rfl, ?_, by rw [gJc, List.length_append, lenJ]; rfl⟩
        have h := H1 (rCd z2).length (by omega) (by rw [gJc, List.length_append, lenJ]; exact Nat.lt_succ_self _)
        rw [gJc, List.getElem?_append_right (by omega), lenJ, Nat.sub_self] at h
        injection h with h
        injection h with h1 h2
        exact h1.symm
    have hnum : mNu (mLv1 (mTk (mSg (mCt N n y)).length y2)) (n - 1) = nI (mLa (mCt N n y) + 1) := by
      rw [hnu', (X2.2.1.2.2.1 (n - 1) (Or.inl (by omega))).2, show mNu yB = mNu yL from congrArg (fun t => t.2) I2.2.2.2.2.1, nuL]
    have hk1 : Kps G (mAr y (mLv y)) S (mLa (mCt N n y) + 1) := by
      refine ⟨fun j hj => ?_, fun k hkk => ?_⟩
      · rw [le7, klen] at hj
        have hx := List.getElem?_eq_getElem hj
        have h1 := (kset _).mpr (List.getElem_mem hj)
        obtain ⟨i, hi⟩ := List.mem_iff_getElem?.mp h1
        refine ⟨i, by rw [le7]; exact g_lt hi, ?_⟩
        rw [le8 i _ hi]
        exact nd_idx FrT.1 hx
      · rw [le7] at hkk
        have hx := List.getElem?_eq_getElem hkk
        generalize hxx : (rKp z2 (mLv (mCt N n y) + 1))[k] = x at hx
        obtain ⟨q1, q2⟩ := kpl k x hx
        have hq2 : ∃ e', (mFe y2 (mLa (mCt N n y) + 1))[pKp G (mLa (mCt N n y) + 1) k]? = some e' ∧ e'.1 = x := by
          unfold fes at q2
          rw [List.getElem?_map] at q2
          obtain ⟨e', h1, h2⟩ := Option.map_eq_some_iff.mp q2
          exact ⟨e', h1, h2⟩
        obtain ⟨e', he1, he2⟩ := hq2
        obtain ⟨t1, t2⟩ := le11 _ e' he1
        obtain ⟨f1, f2, f3⟩ := FrT.2 _ e' he1
        rw [he2] at f1 f2 f3
        have hsrc : G.1 9 (pKs G (mLa (mCt N n y) + 1) + k) = nI (cSo z2 x) := by
          refine H6 _ _ (by rw [le6]; have := X2.1.1.2.2.2.length_le; rw [srD, srA] at this; omega) ?_
          rw [sr', le6, List.getElem?_append_right (Nat.le_add_right _ _), Nat.add_sub_cancel_left, hbd2, List.getElem?_map, hx]
          rfl
        refine ⟨q1, cSo z2 x, ?_⟩
        have hxc : x < (rSc (cCt N n z)).length := Nat.lt_of_not_le fun cc => by
          have h3 : (scD z2 x).2.2 = rBd (cCt N n z) + 1 := by
            unfold scD
            rw [sc2, gd_app3 cc, bC_get _ _ _ _ (by rw [sc2, List.length_append, bC_len] at f1; omega)]
          omega
        have hsc : scD z2 x = scD (cCt N n z) x := by
          unfold scD
          rw [sc2, gd_app1 hxc]
        have hsg2 : sgD y2 x = sgD (mCt N n y) x := by
          unfold sgD
          rw [X2.2.1.1.1, I2.1, gd_app1 (by show x < (mSg yL).length; rw [← hyL]; show x < (mSg (mCt N n y)).length; omega), ← hyL]
          rfl
        have ecs : cSo z2 x = if (scD z2 x).2.2 + 1 = rBd z2 then 2 * (scD z2 x).2.1 else 2 * (rKp z2 (rBd z2 - 1)).idxOf x + 1 := rfl
        rcases f3 with ⟨d1, d2, d3⟩ | ⟨d1, d2, d3⟩
        · have ew : cSo z2 x = 2 * (scD (cCt N n z) x).2.1 := by rw [ecs, if_pos (by rw [hbd2]; exact d1), hsc]
          have hS' := Pc.2.1.2.1 x hxc (by rw [← hsc, bdc]; omega)
          have hS1 := g_lt hS'
          have hS2 := Pc.2.1.2.2.1 _ (List.mem_of_getElem? hS')
          have hS3 := Pc.2.1.2.2.2
          have hS4 : mLs (mCt N n y) (mAr (mCt N n y) (mLv (mCt N n y))) ≤ mLs y2 (mAr (mCt N n y) (mLv (mCt N n y))) := (Me.2.2.2.1 _ (lowF _ (Nat.le_refl _))).2.2.1
          have hpd' : S.length < pDm G (mAr (mCt N n y) (mLv (mCt N n y))) := by rw [hLc]; exact hpd
          rw [hls'] at H3b
          refine ⟨by rw [ew]; omega, hsrc, Or.inl ⟨by rw [ew]; omega, (sgD (mCt N n y) x).2.2, by omega, ?_, ?_, ?_⟩⟩
          · rw [t1, d2]; rfl
          · rw [t2, d3, hsg2]
          · rw [ew, Nat.mul_div_cancel_left _ (by decide)]; exact hS'
        · have ew : cSo z2 x = 2 * (rKp z2 (mLv (mCt N n y))).idxOf x + 1 := by rw [ecs, if_neg (by rw [hbd2]; omega), hbd2, Nat.add_sub_cancel]
          have hkin : x ∈ rKp z2 (mLv (mCt N n y)) := by
            have h3 := (X2.2.2.1.2.2.2.2 (mLv (mCt N n y) + 1) (by show _ ≤ rBd z2; omega)).2 x (List.mem_of_getElem? hx)
            rcases h3.2.2 with h4 | h4
            · have h4 : (scD z2 x).2.2 + 1 = mLv (mCt N n y) + 1 := h4
              omega
            · rw [Nat.add_sub_cancel] at h4
              exact h4
          have hix : (rKp z2 (mLv (mCt N n y)))[(rKp z2 (mLv (mCt N n y))).idxOf x]? = some x := by
            rw [List.getElem?_eq_getElem (List.idxOf_lt_length_iff.mpr hkin), List.getElem_idxOf]
          obtain ⟨r1, r2⟩ := H4 ((rKp z2 (mLv (mCt N n y))).idxOf x) x (by omega) (by rw [kp']; exact hix)
          rw [hfs'] at r2
          have hfr : (fes y2 (mAr (mCt N n y) (mLv (mCt N n y)))).Nodup := by
            have := (X2.2.2.2.2.1 (mLv (mCt N n y)) (by omega) (by omega)).1.1
            rw [ar2 _ (Nat.le_refl _)] at this
            exact this
          rw [Nat.add_sub_cancel, ar2 _ (Nat.le_refl _)] at d3
          have hidx := nd_idx hfr d3
          refine ⟨by rw [ew]; omega, hsrc, Or.inr ⟨by rw [ew]; omega, ?_, ?_, ?_⟩⟩
          · rw [ew, ← hLc]; omega
          · rw [t1, d2]; rfl
          · rw [t2, ew, show (2 * (rKp z2 (mLv (mCt N n y))).idxOf x + 1) / 2 = (rKp z2 (mLv (mCt N n y))).idxOf x by omega, ← hLc, r2, hidx]
    rw [cd0] at o11 o12 o21 o22 hz2l
    refine ⟨k1, k2, k3, k4, Or.inr ⟨k5, c, l, 2, k6, k7, Or.inr (Or.inl ⟨rfl, mLa (mCt N n y) + 1, (rCd z2).length, by omega, le2, g2.trans hnum, o11.symm, ?_, o21.symm, o22.symm, by omega, hk1, gbb⟩)⟩⟩
    rw [← o12, hlm0, Nat.add_sub_cancel]
  · by_cases cM : M = mLa (mCt N n y) + 1
    · subst cM
      have hpn := gs.1.1
      rw [e1] at hcl
      have hll : c :: l = n :: (prt N n 1 - 1) :: bo.map (· - 1) := by
        rw [← hcl]
        rfl
      rw [hll] at ch
      have hwn : ns.length ≤ mLs y2 (mLa (mCt N n y) + 1) := by
        have h3 := (X2.2.1.2.2.2.1 (mLa (mCt N n y) + 1) (by omega)).2.2.1
        rw [lvB, arB, arL', slB] at lsB
        omega
      match hbm : bo, hdn with
      | b0 :: bs, _ =>
        refine ⟨⟨by rw [le4, le9a, nm2], by rw [le7, le9b, klen]; exact List.length_map _, fun k hkk => by
          rw [le7] at hkk
          exact (kpl k _ (List.getElem?_eq_getElem hkk)).1⟩, by rw [le9, nd2]; omega, by rw [le4]; exact p2, by rw [le4, le10]; exact hwn, g, n, prt N n 1 - 1, b0 - 1, bs.map (· - 1), (rCd z2).length, hg, by rw [le9, nd2]; exact ch, ?_⟩
        rw [le4, le3]
        exact v1
    · exact v2 M (by omega) h2
end SMH
