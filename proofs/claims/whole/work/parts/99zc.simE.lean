/-! BUILD. The two compilers against each other: let -/
section SMF
variable {N : NS} {mt : List Nat} {z z1 z2 z3 z' zm : CR} {y y1 y2 y3 y' ym : MR} {n b g a m n1 b1 lo la' lv L : Nat} {G : PG} {S : Shp} {la : Bool}
variable {F : Nat → Bool → CR → CR} {Fm : Nat → MR → MR}
/-- a form that is a list and has a number of its own -/
theorem so_ct2 {z0 : CR} {y0 : MR} (nk : Nok N mt) (ht : Tr (g + 1) N n b) (h6 : nK N n = 6) (hn1 : 1 ≤ n) (hb : b ≤ N.1) (hk : KI z0.2.1) (hP : SRp S z0 y0) (hn0 : rFl (cCt N n z0) = none) (hp : pts N n ≠ []) (X : XO N n b (cCt N n z0) z' (mCt N n y0) y') (O : OKe (n + 1) b (cCt N n z0) z') (hdx : rDp z0 + 1 ≤ rDx z')
    (hc : ∀ G, GS N mt G → HG G (cCt N n z0) z' (mCt N n y0) y' n b → G.1 27 (n - 1) = mNu y' (n - 1) → S.length < pDm G (mAr y0 (mLv y0)) → ∀ c l, (pts N n).map (· - 1) = c :: l → Fw G c (wrd N n) → Chn G (G.1 24 (n - 1)) (c :: l) → Cod G (mAr y0 (mLv y0)) (g + 1) (n - 1) la S (rCd z0).length (rCd z').length ∧ ∀ M, mLa y0 < M → M ≤ mLa y' → WGM G M) :
    SO N mt (g + 1) n b la S z0 z' y0 y' := by
  obtain ⟨Xc, Pc, cd0, hL, hla⟩ := xo_ct (N := N) (n := n) hn0 hk hP
  have hlt' := tr_lt _ _ _ _ ht
  have X0 : XO N n b z0 z' y0 y' := ⟨oke_tr Xc.1 O (Nat.le_of_eq Xc.2.2.1.2.1.symm), mef_tr (mef_wk Xc.2.1 (Nat.le_refl _) (by omega)) X.2.1, ⟨X.2.2.1.1.trans Xc.2.2.1.1, X.2.2.1.2.1.trans Xc.2.2.1.2.1, X.2.2.1.2.2⟩, X.2.2.2.1, X.2.2.2.2.1, uq_tr Xc.2.2.2.2.2.1 X.2.2.2.2.2.1 Xc.2.1.1.2.1 Xc.2.1.1.2.2.1, X.2.2.2.2.2.2.trans Xc.2.2.2.2.2.2⟩
  refine ⟨X0.2.2.2.1, X0.2.2.2.2.1, X0.2.2.2.2.2.1, X0.2.2.2.2.2.2, fun G gs H => ?_⟩
  have Hs : HG G (cCt N n z0) z' (mCt N n y0) y' n b := by
    refine hg_sub H ⟨Xc.1.1.1.length_le, Xc.1.1.2.2.2.length_le, Xc.1.1.2.1.length_le, Xc.2.1.2.1, Xc.2.1.1.2.1, Xc.2.1.1.2.2.1 _ (Nat.le_refl _)⟩ ⟨⟨fun _ _ _ => rfl, Nat.le_refl _⟩, ⟨List.prefix_refl _, List.prefix_refl _⟩, fun _ _ _ => rfl, Nat.le_refl _, List.prefix_refl _, fun _ _ _ => ⟨rfl, rfl⟩, Nat.le_refl _, List.prefix_refl _, fun _ _ _ => ⟨⟨rfl, rfl⟩, rfl, rfl⟩, Nat.le_refl _⟩ (Nat.le_refl _) (Nat.le_refl _) X0.2.2.2.1.2 (fun hl x hx => ?_)
    have := (X0.2.2.2.2.1 _ hl (by rw [X0.2.1.1.2.1]; exact Nat.le_refl _)).2 x hx
    rw [X0.2.1.1.2.2.1 _ (Nat.le_refl _)] at this
    exact this
  obtain ⟨m1, m2⟩ := H.2.1 n (Nat.le_refl _) hlt'
  have hpd := H.2.2.1.1
  match hpp : pts N n, hp with
  | c :: l, _ =>
    have h3 := tr_pts ht h6 (by have := nk.2.2; omega)
    rw [hpp] at h3
    obtain ⟨e0, mm, e1, e2, e3, _⟩ := h3.2.2
    have ch := chn_n gs ht h6 hn1 hb
    rw [hpp] at ch
    have fw := fw_of gs hpp (by omega) (by omega) (fun h5 => nok_m nk (by omega) (by omega) h5)
    exact hc G gs Hs m2 (by have := hP.2.1.1; omega) (c - 1) (l.map (· - 1)) (by rw [hpp]; rfl) fw ch
theorem xo_n1 {nu : Int32} (hk : KI z.2.1) (hP : SRp S z y) (hn1 : 1 ≤ n) : XO N n (n + 1) z z y (mN1 n nu y) ∧ SRp S z (mN1 n nu y) := by
  have e : SRe z (mN1 n nu y) := hP.2.2.1
  exact ⟨⟨oke_wk oke_rf (Nat.le_refl _) (Nat.le_succ _), mef_N1 (by omega) hn1, ⟨rfl, rfl, hk⟩, ⟨hP.2.2.2.1, hP.2.2.2.2⟩, e, uq_same rfl (fun _ => rfl), rfl⟩, hP.1, hP.2.1, e, hP.2.2.2.1, hP.2.2.2.2⟩
/-- scope alone goes back in the reference -/
theorem af_res (o : OKe a a z3 z') (h1 : y'.1 = y3.1) (h2 : y'.2.2 = y3.2.2) (hl : lv ≤ rBd z3) : Af lo la' n1 b1 lv L z3 z' y3 y' := by
  obtain ⟨⟨o1, o2, o3, o4⟩, o5, o6, _⟩ := o
  have a1 : mMe y' = mMe y3 := congrArg (fun t => t.1) h1
  have a2 : mNu y' = mNu y3 := congrArg (fun t => t.2) h1
  have a3 : mLs y' = mLs y3 := congrArg (fun t => t.1.2.2.2.1) h2
  have a4 : mFe y' = mFe y3 := congrArg (fun t => t.1.2.2.2.2) h2
  have a5 : mNd y' = mNd y3 := congrArg (fun t => t.1.2.1) h2
  have a6 : mLa y' = mLa y3 := congrArg (fun t => t.1.1) h2
  have a7 : mNm y' = mNm y3 := congrArg (fun t => t.1.2.2.1) h2
  unfold Af
  rw [a1, a2, a3, a4, a5, a6, a7]
  exact ⟨⟨fun i _ hi => pf_ge o1 hi, o1.length_le⟩, ⟨o4, o2⟩, fun j _ hj => pf_ge o3 hj, o6, o5 lv hl, fun _ _ _ => ⟨rfl, rfl⟩, Nat.le_refl _, List.prefix_refl _, fun _ _ _ => ⟨⟨rfl, rfl⟩, rfl, rfl⟩, Nat.le_refl _⟩
theorem pvs_of (gs : GS N mt G) : ∀ (ps : List Nat) (a b : Nat), Frs (Tr g N) (nX N) ps a b → (∀ p, p ∈ ps → (pts N p).length = 2) → 1 ≤ a → b ≤ N.1 → Pvs G (ps.map (· - 1)) ((vls N ps).map (· - 1))
  | [], _, _, _, _, _, _ => trivial
  | p :: ps, a, b, h, h2, ha, hb => by
    obtain ⟨rfl, m, h1, hm1, hm2, _, h5⟩ := h
    have hN := gs.1.2
    obtain ⟨g', eg, k6, _⟩ := two_tr h1 (h2 p (by simp)) (by omega)
    have h1' : Tr (g' + 1) N p m := eg ▸ h1
    have ch := chn_n gs h1' k6 ha (by omega)
    refine ⟨?_, pvs_of gs ps m b h5 (fun q hq => h2 q (List.mem_cons_of_mem _ hq)) (by omega) hb⟩
    have hl := h2 p (by simp)
    match hpp : pts N p, hl with
    | [x, v], _ =>
      rw [hpp] at ch
      have e1 : prt N p 1 = v := by unfold prt; rw [hpp]; rfl
      refine ⟨x - 1, ?_⟩
      show Chn G (G.1 24 (p - 1)) [x - 1, prt N p 1 - 1]
      rw [e1]
      exact ch
theorem le_lm {ar st k : Nat} : rLm (cLe la ar st k z) = rLm z ∧ rKp (cLe la ar st k z) = rKp z ∧ rCd (cLe la ar st k z) = rCd z ++ (if la then [] else [(31, nI k)]) := by
  unfold cLe
  cases la
  · exact ⟨rfl, rfl, rfl⟩
  · refine ⟨rfl, rfl, ?_⟩
    simp only [if_true, List.append_nil]
    rfl
/-- the code that leaves bindings -/
theorem sld_of {ar st k : Nat} {n0 : Nat} (H : HG G z (cLe la ar st k z3) y y' n0 b) (hl : (rCd z).length ≤ (rCd z3).length) : Sld G la k (rCd z3).length (rCd (cLe la ar st k z3)).length := by
  have e := (le_lm (z := z3) (la := la) (ar := ar) (st := st) (k := k)).2.2
  cases la
  · simp only [Bool.false_eq_true, if_false] at e
    have h := H.1.1 (rCd z3).length hl (by rw [e, List.length_append]; exact Nat.lt_succ_self _)
    rw [e, List.getElem?_append_right (Nat.le_refl _), Nat.sub_self] at h
    injection h with h
    injection h with h1 h2
    exact Or.inr ⟨rfl, h1.symm, h2.symm, by rw [e, List.length_append]; rfl⟩
  · simp only [if_true, List.append_nil] at e
    exact Or.inl ⟨rfl, by rw [e]⟩
theorem let_sim (nk : Nok N mt) (hF : CFs N g F) (hM : MFs N g Fm) (hS : SFs N mt g F Fm) (ht : Tr (g + 1) N n b) (h6 : nK N n = 6) (hn1 : 1 ≤ n) (hb : b ≤ N.1) (hk : KI z.2.1) (hP : SRp S z y) (hw : wrd N n = 4) (hl : 3 ≤ (pts N n).length) (hp : arP N (prt N n 1) = true) (hn : rFl (cLet N F la (pts N (prt N n 1)) ((pts N n).drop 2) (cCt N n z)) = none) : SO N mt (g + 1) n b la S z (cLet N F la (pts N (prt N n 1)) ((pts N n).drop 2) (cCt N n z)) y (mLet N Fm false n (pts N (prt N n 1)) ((pts N n).drop 2) (mCt N n y)) := by
  have hbb : b < 2000000000 := by have := nk.2.2; omega
  have hlt' := tr_lt _ _ _ _ ht
  have hpne : pts N n ≠ [] := fun e => by rw [e] at hl; simp at hl
  have hdn : (pts N n).drop 2 ≠ [] := dr_ne (by omega)
  obtain ⟨m, s1, s2⟩ := let_sq ht h6 hbb hl hp
  obtain ⟨m0, m1', e1, e2, e3, e4, e5, e6, e7, e8⟩ := big_tr ht h6 hbb (by omega)
  obtain ⟨p1, p2, p3⟩ := arP_2 hp
  have hprw := prw_of ht h6 hbb hl hp
  have hkc : KI (cCt N n z).2.1 := by rw [(ef_Ct (N := N) (z := z) (n := n)).2.1]; exact hk
  have Ce := let_e hF (la := la) s1 s2 hdn hkc
  have hn0 : rFl (cCt N n z) = none := ef_no Ce.2.2.2.1 hn
  obtain ⟨Xc, Pc, cd0, hLc, hlac⟩ := xo_ct (N := N) (n := n) hn0 hk hP
  have Ce' := Ce.2.2.2.2 hn
  have dpc : rDp (cCt N n z) = rDp z := (ef_Ct (N := N) (z := z) (n := n)).2.2.1
  have Me := let_m (y := mCt N n y) hM (rec := false) ⟨Nat.le_refl n, hlt'⟩ hn1 s1 s2 hprw Pc.1.2.2.2.1
  generalize hps : pts N (prt N n 1) = ps at *
  generalize hbo : (pts N n).drop 2 = bo at *
  generalize hzc : cCt N n z = zc at *
  generalize hyc : mCt N n y = yc at *
  -- names
  have ejs : ps.map (fun p => nCn N (prt N p 0)) = (nms N ps).map (nCn N) := by unfold nms; rw [List.map_map]; rfl
  have hjl : ((nms N ps).map (nCn N)).length = ps.length := by unfold nms; rw [List.length_map, List.length_map]
  -- faults
  unfold cLet at hn Ce Ce' ⊢
  obtain ⟨l1, l2, l3, l4, l5, l6, l7, l8⟩ := le_e (z := cBo F la bo (cBp N ps (rDp zc) (cLt N F ps [] zc))) (la := la) (ar := (rSc zc).length) (st := rDp zc) (k := ps.length) (a := b)
  have n3 : rFl (cBo F la bo (cBp N ps (rDp zc) (cLt N F ps [] zc))) = none := by rw [← l8]; exact hn
  have T1 := lt_e hF ps [] (n + 1) m zc s1 hkc
  obtain ⟨B1, B2, B3⟩ := bp_e (N := N) ps (rDp zc) (cLt N F ps [] zc) T1.2.2.1
  have k2 := (bnd_b B1).2
  have n2 : rFl (cBp N ps (rDp zc) (cLt N F ps [] zc)) = none := ef_no (bo_e hF (la := la) bo m b _ hdn s2 k2).2.2.2.1 n3
  have nz1 : rFl (cLt N F ps [] zc) = none := by rw [← (t_of B3).2.2.2]; exact n2
  -- the number
  obtain ⟨XN, PN⟩ := xo_n1 (N := N) (n := n) (nu := nI (mSl yc (mLv yc))) hkc Pc hn1
  have nuN : mNu (mN1 n (nI (mSl yc (mLv yc))) yc) (n - 1) = nI (mSl yc (mLv yc)) := if_pos rfl
  unfold mLet at Me ⊢
  dsimp only at Me ⊢
  simp only [Bool.false_eq_true, if_false] at Me ⊢
  generalize hyN : mN1 n (nI (mSl yc (mLv yc))) yc = yN at *
  have lvN : mLv yN = mLv yc := XN.2.1.1.2.1
  have arN' : ∀ l, l ≤ mLv yc → mAr yN l = mAr yc l := XN.2.1.1.2.2.1
  have slN : mSl yN (mLv yc) = mSl yc (mLv yc) := XN.2.1.1.2.2.2 _ (Nat.le_refl _)
  -- the values
  obtain ⟨q1, q2, q3⟩ := lt_eq (Fm := Fm) hF ps [] (n + 1) m zc yN s1 hkc nz1
  obtain ⟨X1, D1, G1⟩ := seq_sim hF hM hS (vls N ps) (n + 1) m S zc yN s1 (by omega) (by have := seq_le _ _ _ s2; omega) hkc PN (by rw [← q1]; exact nz1)
  rw [← q1] at X1 D1 G1
  rw [q2] at Me ⊢
  have hvl : (vls N ps).length = ps.length := by unfold vls; rw [List.length_map]
  rw [hvl] at D1
  have A1 := xo_a PN X1
  generalize hz1 : cLt N F ps [] zc = z1 at *
  generalize hy1 : mBo Fm (vls N ps) yN = y1 at *
  have lv1 : mLv y1 = mLv yc := X1.2.1.1.2.1.trans lvN
  have ar1 : ∀ l, l ≤ mLv yc → mAr y1 l = mAr yc l := fun l hl => (X1.2.1.1.2.2.1 l (by omega)).trans (arN' l hl)
  have sl1 : mSl y1 (mLv yc) = mSl yc (mLv yc) := (X1.2.1.1.2.2.2 _ (by omega)).trans slN
  have bd1 : rBd z1 = mLv yc := X1.2.2.1.2.1.trans Pc.1.1.2
  have hSl : S.length = rDp zc := Pc.2.1.1
  -- the bindings
  obtain ⟨c1, c2, c3, c4⟩ := bp_bC (N := N) ps (rDp zc) z1
  rw [ejs] at Me ⊢
  have I2 := ins_S ((nms N ps).map (nCn N)) y1
  have Be := ins_m (N := N) (a := m) (b := b) ((nms N ps).map (nCn N)) y1
  generalize hy2 : ((nms N ps).map (nCn N)).foldl (fun y j => mIn j y) y1 = y2 at *
  generalize hz2 : cBp N ps (rDp zc) z1 = z2 at *
  rw [← hSl] at c1
  have look : ∀ i, i < (rSc z1).length → (scD z1 i).2.2 = rBd z1 → S[(scD z1 i).2.1]? = some (some (sgD y1 i).2.2) := fun i hi ho => by
    have := D1.2.1 i hi ho
    by_cases c : (scD z1 i).2.1 < S.length
    · rw [List.getElem?_append_left c] at this; exact this
    · rw [List.getElem?_append_right (by omega), List.getElem?_replicate] at this
      split at this
      · cases this
      · cases this
  obtain ⟨A2, E2, L2, T2⟩ := bind_sim (s := mSl yc (mLv yc)) A1 X1.2.2.2.2.1 look (fun t ht => by
    have := D1.2.2.1 t (List.mem_append_left _ ht)
    rw [lv1, sl1] at this
    exact this) (by rw [lv1, sl1]) c1 c3 I2
  have lv2 : mLv y2 = mLv yc := I2.2.1.trans lv1
  have ar2 : mAr y2 = mAr y1 := I2.2.2.1
  have la2 : mLa y2 = mLa y1 := I2.2.2.2.2.2.1
  have dp2 : rDp z2 = rDp zc + ps.length := by
    rw [(t_of c4).2.1]
    exact (T1.2.2.2.2 nz1).1
  have sl2 : mSl y2 (mLv yc) = mSl yc (mLv yc) + ps.length := by
    have := I2.2.2.2.1
    rw [lv1, sl1, hjl] at this
    exact this
  have ls2 : mSl y2 (mLv y2) ≤ mLs y2 (mAr y2 (mLv y2)) := by
    have := Be.2.2.2.2.2.2.2.2.2.2.2.2.1 D1.2.2.2
    rw [I2.2.1, ar2]
    exact this
  rw [hjl] at L2 T2
  have P2 : SRp (S ++ bnd (mSl yc (mLv yc)) ps.length) z2 y2 := ⟨A2, ⟨by rw [List.length_append, bndz_len, dp2, hSl], L2, T2, ls2⟩, E2, by rw [(t_of c4).1, I2.2.2.2.2.2.2.2.1]; exact X1.2.2.2.1.1, by rw [(u_of c2).2.2.1, la2]; exact X1.2.2.2.1.2⟩
  -- the body
  obtain ⟨X3, D3, G3⟩ := bo_sim (la := la) hF hM hS bo m b (S ++ bnd (mSl yc (mLv yc)) ps.length) z2 y2 hdn s2 (by have := seq_le _ _ _ s1; omega) hb k2 P2 n3
  have LB := lb_e hF (la := la) (st := rDp zc) hdn s2 B1
  rw [T1.1] at LB
  obtain ⟨_, _, _, LB4, LB5⟩ := LB
  have LB5' := LB5 hn
  have Bm := blk_m (y := y1) Be X3.2.1
  generalize hz3 : cBo F la bo z2 = z3 at *
  generalize hy3 : mBo Fm bo y2 = y3 at *
  have hsgc : (mSg yc).length = (mSg y1).length := by rw [X1.2.1.1.1, XN.2.1.1.1]
  have lenc : (rSc zc).length = (mSg yc).length := Pc.1.1.1
  have eY : mSs (mSl yc (mLv yc)) (mTk (mSg yc).length y3) = mSs (mSl y1 (mLv y1)) (mTk (mSg y1).length y3) := by rw [lv1, sl1, hsgc]
  have sc3 : rSc z3 = rSc zc ++ bC ((nms N ps).map (nCn N)) S.length (rBd z1) := by rw [X3.2.2.1.1, c1, X1.2.2.1.1]
  have bd3 : rBd z3 = mLv yc := X3.2.2.1.2.1.trans ((congrArg Prod.fst c3).trans bd1)
  have lv3 : mLv y3 = mLv yc := X3.2.1.1.2.1.trans lv2
  have ar3 : ∀ l, l ≤ mLv yc → mAr y3 l = mAr yc l := fun l hl => (X3.2.1.1.2.2.1 l (by omega)).trans (by rw [ar2]; exact ar1 l hl)
  have kp2 : rKp z2 = rKp z1 := congrArg Prod.snd c3
  have fe2 : fes y2 = fes y1 := by funext M; unfold fes; rw [I2.2.2.2.2.2.2.1]
  obtain ⟨ll1, ll2, ll3⟩ := le_lm (z := z3) (la := la) (ar := (rSc zc).length) (st := rDp zc) (k := ps.length)
  have SR' : SRe (cLe la (rSc zc).length (rDp zc) ps.length z3) (mSs (mSl yc (mLv yc)) (mTk (mSg yc).length y3)) := by
    refine sre_rest (c := (rSc zc).length) X3.2.2.2.2.1 (s_of l1).1 ll2 (by rw [lenc]; rfl) rfl rfl rfl (fun i hi1 hi2 => ?_)
    rw [sc3] at hi2
    unfold scD
    rw [sc3, gd_app3 hi1, bC_get _ _ _ _ (by rw [List.length_append, bC_len] at hi2; omega), lv3]
    exact bd1
  have U' : Uq zc (cLe la (rSc zc).length (rDp zc) ps.length z3) yc (mSs (mSl yc (mLv yc)) (mTk (mSg yc).length y3)) := by
    have u1 := uq_tr XN.2.2.2.2.2.1 X1.2.2.2.2.2.1 lvN arN'
    have u2 : Uq zc z2 yc y2 := uq_tr u1 (uq_same kp2 (fun M => congrFun fe2 M)) lv1 ar1
    have u3 : Uq zc z3 yc y3 := uq_tr u2 X3.2.2.2.2.2.1 lv2 (fun l hl => by rw [ar2]; exact ar1 l hl)
    exact uq_tr u3 (uq_same ll2 (fun _ => rfl)) lv3 ar3
  have w' : mWr y3 = mWr yc := X3.2.2.2.2.2.2.trans (I2.2.2.2.2.2.2.2.2.trans (X1.2.2.2.2.2.2.trans XN.2.2.2.2.2.2))
  have X : XO N n b zc (cLe la (rSc zc).length (rDp zc) ps.length z3) yc (mSs (mSl yc (mLv yc)) (mTk (mSg yc).length y3)) := ⟨oke_wk (Ce.2.2.2.1.2 hn) (Nat.le_succ _) (Nat.le_refl _), Me, ⟨Ce.1, Ce.2.1, Ce.2.2.1⟩, ⟨by rw [l4]; exact X3.2.2.2.1.1, by rw [ll1]; exact X3.2.2.2.1.2⟩, SR', U', w'⟩
  subst hzc
  subst hyc
  refine so_ct2 nk ht h6 hn1 hb hk hP hn0 hpne X (Ce.2.2.2.1.2 hn) (by omega) (fun G gs H g2 hpd c l hcl fw ch => ?_)
  have aiL : ∀ l, l ≤ mLv (mCt N n y) → mAr (mCt N n y) l ≤ mLa (mCt N n y) := Pc.1.2.2.2.1
  have laN : mLa yN = mLa (mCt N n y) := by rw [← hyN]; rfl
  have oz1 : OKe m b z1 (cLe la (rSc (cCt N n z)).length (rDp (cCt N n z)) ps.length z3) := (ef_tr (bnd_ef (a := m) B1 B2 B3) LB4 (by rw [(bnd_b B1).1]; exact Nat.le_refl _)).2 hn
  have H1 : HG G (cCt N n z) z1 yN y1 (n + 1) m := by
    have a0 := af_of (N := N) (lo := (rCd (cCt N n z)).length) (la := mLa yN) (lv := mLv (mCt N n y)) (n1 := n + 1) (b1 := m) (a' := m) (b := b) (z2 := z1) (y2 := y1) oz1 (by rw [← eY] at Bm; exact Bm) (Nat.le_refl _) (by omega) bd1.symm lv1 (fun l hl => by rw [ar1 l hl, laN]; exact aiL l hl) X1.2.1.2.1
    rw [ar1 _ (Nat.le_refl _)] at a0
    exact hg_sub H ⟨Nat.le_refl _, Nat.le_refl _, Nat.le_refl _, Nat.le_of_eq laN.symm, lvN, arN' _ (Nat.le_refl _)⟩ a0 (by omega) (by have := seq_le _ _ _ s2; omega) X1.2.2.2.1.2 (fun hl x hx => by
      have := (X1.2.2.2.2.1 _ hl (by rw [lv1]; exact Nat.le_refl _)).2 x hx
      rw [ar1 _ (Nat.le_refl _)] at this
      exact this)
  have len1 := X1.1.1.1.length_le
  have cd2 : rCd z2 = rCd z1 := (u_of c2).1
  have H3 : HG G z2 z3 y2 y3 m b := by
    have a0 : Af (rCd z2).length (mLa y2) m b (mLv (mCt N n y)) (mAr (mCt N n y) (mLv (mCt N n y))) z3 (cLe la (rSc (cCt N n z)).length (rDp (cCt N n z)) ps.length z3) y3 (mSs (mSl (mCt N n y) (mLv (mCt N n y))) (mTk (mSg (mCt N n y)).length y3)) := af_res (l2.2 hn) rfl rfl (by omega)
    exact hg_sub H ⟨by rw [cd2]; exact len1, by rw [(u_of c2).2.2.2]; exact X1.1.1.2.2.2.length_le, by rw [(u_of c2).2.1]; exact X1.1.1.2.1.length_le, by rw [la2]; exact Nat.le_trans (Nat.le_of_eq laN.symm) X1.2.1.2.1, lv2, by rw [ar2]; exact ar1 _ (Nat.le_refl _)⟩ a0 (by have := seq_le _ _ _ s1; omega) (Nat.le_refl _) X3.2.2.2.1.2 (fun hl x hx => by
      have := (X3.2.2.2.2.1 _ hl (by rw [lv3]; exact Nat.le_refl _)).2 x hx
      rw [ar3 _ (Nat.le_refl _)] at this
      exact this)
  obtain ⟨v1, v2⟩ := G1 G gs H1
  obtain ⟨w1, w2⟩ := G3 G gs H3
  have hLN : mAr yN (mLv yN) = mAr y (mLv y) := by rw [lvN, arN' _ (Nat.le_refl _), hLc]
  have hL2 : mAr y2 (mLv y2) = mAr y (mLv y) := by rw [lv2, ar2, ar1 _ (Nat.le_refl _), hLc]
  rw [hLN, cd0] at v1
  rw [hL2, cd2] at w1
  have len3 : (rCd z2).length ≤ (rCd z3).length := X3.1.1.1.length_le
  have le3 : (rCd z3).length ≤ (rCd (cLe la (rSc (cCt N n z)).length (rDp (cCt N n z)) ps.length z3)).length := l6
  refine ⟨?_, fun M h1 h2 => ?_⟩
  · obtain ⟨⟨k1, k2', k3, k4⟩, k5, k6, k7⟩ := cod_l (z0 := z) gs ht h6 hn1 hb hpd (by rw [← cd0]; exact Ce'.2.2.2.2) H.1.2 ch fw
    rw [e1] at hcl
    have hll : l = (prt N n 1 - 1) :: bo.map (· - 1) := by
      injection hcl with _ h2
      exact h2.symm
    subst hll
    rw [hw] at k7
    have sld := sld_of H (by omega)
    cases g with
    | zero => exact e4.elim
    | succ g' =>
      obtain ⟨t1, t2, t3⟩ := tr_pts e4 p1 (by omega)
      have chi := chn_n gs e4 p1 (by omega) (by omega)
      rw [hps] at chi t3
      have pv := pvs_of gs ps _ _ t3 (fun p hp => (p3 p hp).1) (by omega) (by omega)
      have hsn : mNu (mSs (mSl (mCt N n y) (mLv (mCt N n y))) (mTk (mSg (mCt N n y)).length y3)) (n - 1) = nI (mSl (mCt N n y) (mLv (mCt N n y))) := by
        show mNu y3 (n - 1) = _
        rw [(X3.2.1.2.2.1 (n - 1) (Or.inl (by have := seq_le _ _ _ s1; omega))).2, show mNu y2 = mNu y1 from congrArg (fun t => t.2) I2.2.2.2.2.1, (X1.2.1.2.2.1 (n - 1) (Or.inl (by omega))).2, nuN]
      have hps3 := H.2.2.1.2.1
      have hps4 : mLs y2 (mAr (mCt N n y) (mLv (mCt N n y))) ≤ mLs y3 (mAr (mCt N n y) (mLv (mCt N n y))) := (X3.2.1.2.2.2.1 _ (by have := aiL _ (Nat.le_refl (mLv (mCt N n y))); have h2 := X1.2.1.2.1; omega)).2.2.1
      have hps5 : mLs y3 (mAr (mCt N n y) (mLv (mCt N n y))) ≤ pSn G (mAr (mCt N n y) (mLv (mCt N n y))) := hps3
      rw [lv2, ar2, ar1 _ (Nat.le_refl _), sl2] at ls2
      have hdx := H.2.2.1.1
      refine ⟨k1, k2', k3, k4, Or.inr ⟨k5, c, _, 4, k6, k7, ?_⟩⟩
      refine Or.inr (Or.inr (Or.inr (Or.inl ⟨rfl, prt N n 1 - 1, bo.map (· - 1), ps.map (· - 1), (vls N ps).map (· - 1), mSl (mCt N n y) (mLv (mCt N n y)), (rCd z1).length, (rCd z3).length, rfl, chi, pv, ?_, g2.trans hsn, ?_, fun t ht => Pc.2.1.2.2.1 t ht, ?_, v1, ?_, ?_⟩)))
      · rw [List.length_map]
        exact p2
      · rw [List.length_map, ← hLc]; omega
      · rw [List.length_map, ← hLc]; omega
      · rw [List.length_map]; exact w1
      · rw [List.length_map]; exact sld
  · by_cases c1 : M ≤ mLa y1
    · exact v2 M (by omega) c1
    · exact w2 M (by omega) h2
end SMF
