/-! BUILD. The two compilers against each other: letrec -/
section SMG
variable {N : NS} {mt : List Nat} {z z1 z2 z3 z' zm : CR} {y y1 y2 y3 y' ym : MR} {n b g a m n1 b1 lo la' lv L : Nat} {G : PG} {S : Shp} {la : Bool}
variable {F : Nat → Bool → CR → CR} {Fm : Nat → MR → MR}
theorem af_tr_res (A : Af lo la' n1 b1 lv L z2 zm y2 ym) (o : OKe a a zm z') (h1 : y'.1 = ym.1) (h2 : y'.2.2 = ym.2.2) (hl : lv ≤ rBd zm) : Af lo la' n1 b1 lv L z2 z' y2 y' := by
  obtain ⟨⟨x1, x2⟩, ⟨x3, x4⟩, x5, x6, x7, x8, x9, x10, x11, x12⟩ := A
  obtain ⟨⟨o1, o2, o3, o4⟩, o5, o6, _⟩ := o
  have a1 : mMe y' = mMe ym := congrArg (fun t => t.1) h1
  have a2 : mNu y' = mNu ym := congrArg (fun t => t.2) h1
  have a3 : mLs y' = mLs ym := congrArg (fun t => t.1.2.2.2.1) h2
  have a4 : mFe y' = mFe ym := congrArg (fun t => t.1.2.2.2.2) h2
  have a5 : mNd y' = mNd ym := congrArg (fun t => t.1.2.1) h2
  have a6 : mLa y' = mLa ym := congrArg (fun t => t.1.1) h2
  have a7 : mNm y' = mNm ym := congrArg (fun t => t.1.2.2.1) h2
  have ol := o1.length_le
  unfold Af
  rw [a1, a2, a3, a4, a5, a6, a7]
  refine ⟨⟨fun i h3 h4 => (pf_ge o1 (by omega)).trans (x1 i h3 h4), by omega⟩, ⟨x3.trans o4, x4.trans o2⟩, fun j h3 h4 => ?_, by omega, x7.trans (o5 lv hl), x8, x9, x10, x11, x12⟩
  have e := x5 j h3 h4
  rw [← e]
  have : j < (rLm zm).length := by
    rw [List.getElem?_eq_getElem h4] at e
    exact g_lt e
  exact pf_ge o3 this
theorem lr_nmo (hF : CFs N g F) : ∀ (ps bf : List Nat) (d a b : Nat) (z : CR), Sqn g N (vls N ps) a b → KI z.2.1 → rFl (cLr N F ps bf d z) = none → Nmo N (nms N ps) bf
  | [], _, _, _, _, _, _, _, _ => trivial
  | p :: ps, bf, d, a, b, z, hs, hk, hn => by
    obtain ⟨h1, m, h2, h3, h4, h5⟩ := hs
    obtain ⟨c1, c2, _⟩ := ck_e (N := N) (z := z) (b := bf) (n := prt N p 0) (a := a)
    have E0 := hF (prt N p 1) m false (cCk N bf (prt N p 0) z) h2 (by rw [c1]; exact hk)
    have E2 := lr_e hF ps (bf ++ [nCn N (prt N p 0)]) (d + 1) m b (cE 23 (nI d) (rDp (F (prt N p 1) false (cCk N bf (prt N p 0) z)) - 1) (F (prt N p 1) false (cCk N bf (prt N p 0) z))) h5 E0.2.2.1
    have hn1 : rFl (F (prt N p 1) false (cCk N bf (prt N p 0) z)) = none := ef_no (z := cE 23 (nI d) (rDp (F (prt N p 1) false (cCk N bf (prt N p 0) z)) - 1) (F (prt N p 1) false (cCk N bf (prt N p 0) z))) E2.2.2.2.1 hn
    have hn0 := ef_no E0.2.2.2.1 hn1
    obtain ⟨e1, e2, e3⟩ := ck_id hn0
    exact ⟨e2, e3, lr_nmo hF ps (bf ++ [nCn N (prt N p 0)]) (d + 1) m b (cE 23 (nI d) (rDp (F (prt N p 1) false (cCk N bf (prt N p 0) z)) - 1) (F (prt N p 1) false (cCk N bf (prt N p 0) z))) h5 E0.2.2.1 hn⟩
theorem letrec_sim (nk : Nok N mt) (hF : CFs N g F) (hM : MFs N g Fm) (hS : SFs N mt g F Fm) (ht : Tr (g + 1) N n b) (h6 : nK N n = 6) (hn1 : 1 ≤ n) (hb : b ≤ N.1) (hk : KI z.2.1) (hP : SRp S z y) (hw : wrd N n = 5) (hl : 3 ≤ (pts N n).length) (hp : arP N (prt N n 1) = true) (hn : rFl (cLrc N F la (pts N (prt N n 1)) ((pts N n).drop 2) (cCt N n z)) = none) : SO N mt (g + 1) n b la S z (cLrc N F la (pts N (prt N n 1)) ((pts N n).drop 2) (cCt N n z)) y (mLet N Fm true n (pts N (prt N n 1)) ((pts N n).drop 2) (mCt N n y)) := by
  have hbb : b < 2000000000 := by have := nk.2.2; omega
  have hlt' := tr_lt _ _ _ _ ht
  have hpne : pts N n ≠ [] := fun e => by rw [e] at hl; simp at hl
  have hdn : (pts N n).drop 2 ≠ [] := dr_ne (by omega)
  obtain ⟨m, s1, s2⟩ := let_sq ht h6 hbb hl hp
  obtain ⟨m0, m1', e1, e2, e3, e4, e5, e6, e7, e8⟩ := big_tr ht h6 hbb (by omega)
  obtain ⟨p1, p2, p3⟩ := arP_2 hp
  have hprw := prw_of ht h6 hbb hl hp
  have hkc : KI (cCt N n z).2.1 := by rw [(ef_Ct (N := N) (z := z) (n := n)).2.1]; exact hk
  have Ce := lrc_e hF (la := la) s1 s2 hdn hkc
  have hn0 : rFl (cCt N n z) = none := ef_no Ce.2.2.2.1 hn
  obtain ⟨Xc, Pc, cd0, hLc, hlac⟩ := xo_ct (N := N) (n := n) hn0 hk hP
  have Ce' := Ce.2.2.2.2 hn
  have dpc : rDp (cCt N n z) = rDp z := (ef_Ct (N := N) (z := z) (n := n)).2.2.1
  have Me := let_m (y := mCt N n y) hM (rec := true) ⟨Nat.le_refl n, hlt'⟩ hn1 s1 s2 hprw Pc.1.2.2.2.1
  have sle1 := seq_le _ _ _ s1
  have sle2 := seq_le _ _ _ s2
  generalize hps : pts N (prt N n 1) = ps at *
  generalize hbo : (pts N n).drop 2 = bo at *
  generalize hzc : cCt N n z = zc at *
  generalize hyc : mCt N n y = yc at *
  have ejs : (ps.map (fun p => prt N p 0)).map (nCn N) = (nms N ps).map (nCn N) := rfl
  have hjl : ((nms N ps).map (nCn N)).length = ps.length := by unfold nms; rw [List.length_map, List.length_map]
  unfold cLrc at hn Ce Ce' ⊢
  obtain ⟨B1, B2, B3⟩ := bp_e (N := N) ps (rDp zc) zc hkc
  have k1' := (bnd_b B1).2
  have bd1' := (bnd_b B1).1
  obtain ⟨c1, c2, c3, c4⟩ := bp_bC (N := N) ps (rDp zc) zc
  generalize hz1 : cBp N ps (rDp zc) zc = z1 at *
  have R1 := lr_e hF ps [] (rDp zc) (n + 1) m (cE 22 (nI ps.length) (rDp zc + ps.length) z1) s1 k1'
  have R2 := bo_e hF (la := la) bo m b _ hdn s2 R1.2.2.1
  obtain ⟨l1, l2, l3, l4, l5, l6, l7, l8⟩ := le_e (z := cBo F la bo (cLr N F ps [] (rDp zc) (cE 22 (nI ps.length) (rDp zc + ps.length) z1))) (la := la) (ar := (rSc zc).length) (st := rDp zc) (k := ps.length) (a := b)
  have n4 : rFl (cBo F la bo (cLr N F ps [] (rDp zc) (cE 22 (nI ps.length) (rDp zc + ps.length) z1))) = none := by rw [← l8]; exact hn
  have n3 : rFl (cLr N F ps [] (rDp zc) (cE 22 (nI ps.length) (rDp zc + ps.length) z1)) = none := ef_no R2.2.2.2.1 n4
  have nmo := lr_nmo hF ps [] (rDp zc) (n + 1) m (cE 22 (nI ps.length) (rDp zc + ps.length) z1) s1 k1' n3
  -- the number
  obtain ⟨XN, PN⟩ := xo_n1 (N := N) (n := n) (nu := nI (mSl yc (mLv yc))) hkc Pc hn1
  have nuN : mNu (mN1 n (nI (mSl yc (mLv yc))) yc) (n - 1) = nI (mSl yc (mLv yc)) := if_pos rfl
  have sgN0 : mSg (mN1 n (nI (mSl yc (mLv yc))) yc) = mSg yc := rfl
  unfold mLet at Me ⊢
  dsimp only at Me ⊢
  simp only [if_true] at Me ⊢
  have ebi := bi_S (N := N) (w := (mSg yc).length) (nms N ps) [] (mN1 n (nI (mSl yc (mLv yc))) yc) nmo (by rw [sgN0, List.drop_length]; rfl) (by rw [sgN0]; exact Nat.le_refl _)
  rw [show (ps.map (fun p => prt N p 0)) = nms N ps from rfl, ebi, lt_rec] at Me ⊢
  generalize hyN : mN1 n (nI (mSl yc (mLv yc))) yc = yN at *
  have lvN : mLv yN = mLv yc := XN.2.1.1.2.1
  have arN' : ∀ l, l ≤ mLv yc → mAr yN l = mAr yc l := XN.2.1.1.2.2.1
  have slN : mSl yN (mLv yc) = mSl yc (mLv yc) := XN.2.1.1.2.2.2 _ (Nat.le_refl _)
  have laN : mLa yN = mLa yc := by rw [← hyN]; rfl
  have hSl : S.length = rDp zc := Pc.2.1.1
  -- the bindings
  have I2 := ins_S ((nms N ps).map (nCn N)) yN
  have Be := ins_m (N := N) (a := n + 1) (b := b) ((nms N ps).map (nCn N)) yN
  generalize hy2 : ((nms N ps).map (nCn N)).foldl (fun y j => mIn j y) yN = y2 at *
  rw [← hSl] at c1
  obtain ⟨A2, E2, L2, T2⟩ := bind_sim (s := mSl yc (mLv yc)) PN.1 PN.2.2.1 PN.2.1.2.1 (fun t ht => by
    have := PN.2.1.2.2.1 t ht
    rw [lvN, slN] at this
    exact this) (by rw [lvN, slN]) c1 c3 I2
  have lv2 : mLv y2 = mLv yc := I2.2.1.trans lvN
  have ar2 : mAr y2 = mAr yN := I2.2.2.1
  have la2 : mLa y2 = mLa yc := I2.2.2.2.2.2.1.trans laN
  have sl2 : mSl y2 (mLv yc) = mSl yc (mLv yc) + ps.length := by
    have := I2.2.2.2.1
    rw [lvN, slN, hjl] at this
    exact this
  have ls2 : mSl y2 (mLv y2) ≤ mLs y2 (mAr y2 (mLv y2)) := by
    have := Be.2.2.2.2.2.2.2.2.2.2.2.2.1 PN.2.1.2.2.2
    rw [I2.2.1, ar2]
    exact this
  rw [hjl] at L2 T2
  have P2 : SRp (S ++ bnd (mSl yc (mLv yc)) ps.length) (cE 22 (nI ps.length) (rDp zc + ps.length) z1) y2 := by
    refine ⟨A2, ⟨by rw [List.length_append, bndz_len, hSl]; rfl, L2, T2, ls2⟩, sre_same E2 rfl rfl rfl rfl rfl, ?_, ?_⟩
    · show rFm z1 = _
      rw [(t_of c4).1, I2.2.2.2.2.2.2.2.1]
      exact PN.2.2.2.1
    · show (rLm z1).length = _
      rw [(u_of c2).2.2.1, la2]
      exact Pc.2.2.2.2
  -- the values
  obtain ⟨X3, D3, _, G3⟩ := lr_sim hF hM hS ps [] (rDp zc) (n + 1) m (S ++ bnd (mSl yc (mLv yc)) ps.length) (cE 22 (nI ps.length) (rDp zc + ps.length) z1) y2 s1 (by omega) (by omega) k1' P2 n3
  have lenE : (rCd (cE 22 (nI ps.length) (rDp zc + ps.length) z1)).length = (rCd zc).length + 1 := by rw [cd_E, (u_of c2).1]
  have R1' := R1.2.2.2.2 n3
  have A3 := xo_a P2 X3
  have P3 : SRp (S ++ bnd (mSl yc (mLv yc)) ps.length) (cLr N F ps [] (rDp zc) (cE 22 (nI ps.length) (rDp zc + ps.length) z1)) (mBo Fm (vls N ps) y2) := ⟨A3, D3, X3.2.2.2.2.1, X3.2.2.2.1.1, X3.2.2.2.1.2⟩
  generalize hz3 : cLr N F ps [] (rDp zc) (cE 22 (nI ps.length) (rDp zc + ps.length) z1) = z3 at *
  generalize hy3 : mBo Fm (vls N ps) y2 = y3 at *
  -- the body
  obtain ⟨X4, D4, G4⟩ := bo_sim (la := la) hF hM hS bo m b (S ++ bnd (mSl yc (mLv yc)) ps.length) z3 y3 hdn s2 (by omega) hb R1.2.2.1 P3 n4
  generalize hz4 : cBo F la bo z3 = z4 at *
  generalize hy4 : mBo Fm bo y3 = y4 at *
  have X34 : XO N (n + 1) b (cE 22 (nI ps.length) (rDp zc + ps.length) z1) z4 y2 y4 := xo_tr X3 X4 (by omega) (by omega)
  have lenc : (rSc zc).length = (mSg yc).length := Pc.1.1.1
  have bdc : rBd zc = mLv yc := Pc.1.1.2
  have sc4 : rSc z4 = rSc zc ++ bC ((nms N ps).map (nCn N)) S.length (rBd zc) := by
    rw [X34.2.2.1.1]
    exact c1
  have bd4 : rBd z4 = mLv yc := by
    rw [X34.2.2.1.2.1]
    exact bd1'.trans bdc
  have lv3 : mLv y3 = mLv yc := X3.2.1.1.2.1.trans lv2
  have ar3 : ∀ l, l ≤ mLv yc → mAr y3 l = mAr yc l := fun l hl => (X3.2.1.1.2.2.1 l (by omega)).trans (by rw [ar2]; exact arN' l hl)
  have lv4 : mLv y4 = mLv yc := X34.2.1.1.2.1.trans lv2
  have ar4 : ∀ l, l ≤ mLv yc → mAr y4 l = mAr yc l := fun l hl => (X34.2.1.1.2.2.1 l (by omega)).trans (by rw [ar2]; exact arN' l hl)
  have kp1 : rKp z1 = rKp zc := congrArg Prod.snd c3
  have fe2 : fes y2 = fes yN := by funext M; unfold fes; rw [I2.2.2.2.2.2.2.1]
  obtain ⟨ll1, ll2, ll3⟩ := le_lm (z := z4) (la := la) (ar := (rSc zc).length) (st := rDp zc) (k := ps.length)
  have SR' : SRe (cLe la (rSc zc).length (rDp zc) ps.length z4) (mSs (mSl yc (mLv yc)) (mTk (mSg yc).length y4)) := by
    refine sre_rest (c := (rSc zc).length) X34.2.2.2.2.1 (s_of l1).1 ll2 (by rw [lenc]; rfl) rfl rfl rfl (fun i hi1 hi2 => ?_)
    rw [sc4] at hi2
    unfold scD
    rw [sc4, gd_app3 hi1, bC_get _ _ _ _ (by rw [List.length_append, bC_len] at hi2; omega), lv4]
    exact bdc
  have U' : Uq zc (cLe la (rSc zc).length (rDp zc) ps.length z4) yc (mSs (mSl yc (mLv yc)) (mTk (mSg yc).length y4)) := by
    have u2 : Uq zc (cE 22 (nI ps.length) (rDp zc + ps.length) z1) yc y2 := uq_tr XN.2.2.2.2.2.1 (uq_same kp1 (fun M => congrFun fe2 M)) lvN arN'
    have u3 : Uq zc z4 yc y4 := uq_tr u2 X34.2.2.2.2.2.1 lv2 (fun l hl => by rw [ar2]; exact arN' l hl)
    exact uq_tr u3 (uq_same ll2 (fun _ => rfl)) lv4 ar4
  have w' : mWr y4 = mWr yc := X34.2.2.2.2.2.2.trans (I2.2.2.2.2.2.2.2.2.trans XN.2.2.2.2.2.2)
  have X : XO N n b zc (cLe la (rSc zc).length (rDp zc) ps.length z4) yc (mSs (mSl yc (mLv yc)) (mTk (mSg yc).length y4)) := ⟨oke_wk (Ce.2.2.2.1.2 hn) (Nat.le_succ _) (Nat.le_refl _), Me, ⟨Ce.1, Ce.2.1, Ce.2.2.1⟩, ⟨by rw [l4]; exact X34.2.2.2.1.1, by rw [ll1]; exact X34.2.2.2.1.2⟩, SR', U', w'⟩
  subst hzc
  subst hyc
  refine so_ct2 nk ht h6 hn1 hb hk hP hn0 hpne X (Ce.2.2.2.1.2 hn) (by omega) (fun G gs H g2 hpd c l hcl fw ch => ?_)
  have aiL : ∀ l, l ≤ mLv (mCt N n y) → mAr (mCt N n y) l ≤ mLa (mCt N n y) := Pc.1.2.2.2.1
  have bf2 : Bf (cCt N n z) (cE 22 (nI ps.length) (rDp (cCt N n z) + ps.length) z1) (mCt N n y) y2 := ⟨by omega, by show _ ≤ (rSr z1).length; rw [(u_of c2).2.2.2]; exact Nat.le_refl _, by show _ ≤ (rDt z1).length; rw [(u_of c2).2.1]; exact Nat.le_refl _, Nat.le_of_eq la2.symm, lv2, by rw [ar2]; exact arN' _ (Nat.le_refl _)⟩
  have bd3 : rBd z3 = mLv (mCt N n y) := by rw [X3.2.2.1.2.1]; exact bd1'.trans bdc
  have H3 : HG G (cE 22 (nI ps.length) (rDp (cCt N n z) + ps.length) z1) z3 y2 y3 (n + 1) m := by
    have a0 := af_of (N := N) (lo := (rCd (cE 22 (nI ps.length) (rDp (cCt N n z) + ps.length) z1)).length) (la := mLa y2) (lv := mLv (mCt N n y)) (n1 := n + 1) (b1 := m) (a' := m) (b := b) X4.1 X4.2.1 (Nat.le_refl _) (by omega) bd3.symm lv3 (fun l hl => by rw [ar3 l hl, la2]; exact aiL l hl) X3.2.1.2.1
    rw [ar3 _ (Nat.le_refl _)] at a0
    have a1 := af_tr_res (y' := mSs (mSl (mCt N n y) (mLv (mCt N n y))) (mTk (mSg (mCt N n y)).length y4)) a0 (l2.2 hn) rfl rfl (by omega)
    exact hg_sub H bf2 a1 (by omega) (by omega) X3.2.2.2.1.2 (fun hl x hx => by
      have := (X3.2.2.2.2.1 _ hl (by rw [lv3]; exact Nat.le_refl _)).2 x hx
      rw [ar3 _ (Nat.le_refl _)] at this
      exact this)
  have H4 : HG G z3 z4 y3 y4 m b := by
    have a0 : Af (rCd z3).length (mLa y3) m b (mLv (mCt N n y)) (mAr (mCt N n y) (mLv (mCt N n y))) z4 (cLe la (rSc (cCt N n z)).length (rDp (cCt N n z)) ps.length z4) y4 (mSs (mSl (mCt N n y) (mLv (mCt N n y))) (mTk (mSg (mCt N n y)).length y4)) := af_res (l2.2 hn) rfl rfl (by omega)
    exact hg_sub H ⟨by have := X3.1.1.1.length_le; omega, Nat.le_trans bf2.2.1 X3.1.1.2.2.2.length_le, Nat.le_trans bf2.2.2.1 X3.1.1.2.1.length_le, Nat.le_trans (Nat.le_of_eq la2.symm) X3.2.1.2.1, lv3, ar3 _ (Nat.le_refl _)⟩ a0 (by omega) (Nat.le_refl _) X4.2.2.2.1.2 (fun hl x hx => by
      have := (X4.2.2.2.2.1 _ hl (by rw [lv4]; exact Nat.le_refl _)).2 x hx
      rw [ar4 _ (Nat.le_refl _)] at this
      exact this)
  obtain ⟨v1, v2⟩ := G3 G gs H3
  obtain ⟨w1, w2⟩ := G4 G gs H4
  have hL2 : mAr y2 (mLv y2) = mAr y (mLv y) := by rw [lv2, ar2, arN' _ (Nat.le_refl _), hLc]
  have hL3 : mAr y3 (mLv y3) = mAr y (mLv y) := by rw [lv3, ar3 _ (Nat.le_refl _), hLc]
  rw [hL2, lenE, cd0] at v1
  rw [hL3] at w1
  refine ⟨?_, fun M h1 h2 => ?_⟩
  · obtain ⟨⟨k1, k2', k3, k4⟩, k5, k6, k7⟩ := cod_l (z0 := z) gs ht h6 hn1 hb hpd (by rw [← cd0]; exact Ce'.2.2.2.2) H.1.2 ch fw
    rw [e1] at hcl
    have hll : l = (prt N n 1 - 1) :: bo.map (· - 1) := by
      injection hcl with _ h2
      exact h2.symm
    subst hll
    rw [hw] at k7
    have lenX := X34.1.1.1.length_le
    have sld := sld_of H (by omega)
    have hpf : rCd (cE 22 (nI ps.length) (rDp (cCt N n z) + ps.length) z1) <+: rCd (cLe la (rSc (cCt N n z)).length (rDp (cCt N n z)) ps.length z4) := X34.1.1.1.trans ((l2.2 hn).1.1)
    obtain ⟨o1, o2⟩ := opz_at (z1 := z1) (k := (rCd z).length) H (by rw [(u_of c2).1]; exact Nat.le_refl _) hpf (by rw [(u_of c2).1, cd0])
    cases g with
    | zero => exact e4.elim
    | succ g' =>
      obtain ⟨t1, t2, t3⟩ := tr_pts e4 p1 (by omega)
      have chi := chn_n gs e4 p1 (by omega) (by omega)
      rw [hps] at chi t3
      have pv := pvs_of gs ps _ _ t3 (fun p hp => (p3 p hp).1) (by omega) (by omega)
      have hsn : mNu (mSs (mSl (mCt N n y) (mLv (mCt N n y))) (mTk (mSg (mCt N n y)).length y4)) (n - 1) = nI (mSl (mCt N n y) (mLv (mCt N n y))) := by
        show mNu y4 (n - 1) = _
        rw [(X34.2.1.2.2.1 (n - 1) (Or.inl (by omega))).2, show mNu y2 = mNu yN from congrArg (fun t => t.2) I2.2.2.2.2.1, nuN]
      have hps3 := H.2.2.1.2.1
      have hps4 : mLs y2 (mAr (mCt N n y) (mLv (mCt N n y))) ≤ mLs y4 (mAr (mCt N n y) (mLv (mCt N n y))) := (X34.2.1.2.2.2.1 _ (by have := aiL _ (Nat.le_refl (mLv (mCt N n y))); omega)).2.2.1
      have hps5 : mLs y4 (mAr (mCt N n y) (mLv (mCt N n y))) ≤ pSn G (mAr (mCt N n y) (mLv (mCt N n y))) := hps3
      rw [lv2, ar2, arN' _ (Nat.le_refl _), sl2] at ls2
      have hdx := H.2.2.1.1
      have hdx2 : rDp (cCt N n z) + ps.length ≤ rDx (cLe la (rSc (cCt N n z)).length (rDp (cCt N n z)) ps.length z4) := by
        have h1 : rDp (cCt N n z) + ps.length ≤ rDx (cE 22 (nI ps.length) (rDp (cCt N n z) + ps.length) z1) := Nat.le_max_right _ _
        have h2 := X34.1.2.2.1
        omega
      refine ⟨k1, k2', k3, k4, Or.inr ⟨k5, c, _, 5, k6, k7, ?_⟩⟩
      refine Or.inr (Or.inr (Or.inr (Or.inr (Or.inl ⟨rfl, prt N n 1 - 1, bo.map (· - 1), ps.map (· - 1), (vls N ps).map (· - 1), mSl (mCt N n y) (mLv (mCt N n y)), (rCd z3).length, (rCd z4).length, rfl, chi, pv, ?_, g2.trans hsn, ?_, fun t ht => Pc.2.1.2.2.1 t ht, ?_, o1, ?_, ?_, ?_, ?_⟩))))
      · rw [List.length_map]; exact p2
      · rw [List.length_map, ← hLc]; omega
      · rw [List.length_map, ← hLc]; omega
      · rw [o2, List.length_map]
      · rw [List.length_map, hSl]; exact v1
      · rw [List.length_map]; exact w1
      · rw [List.length_map]; exact sld
  · by_cases c1 : M ≤ mLa y3
    · exact v2 M (by omega) c1
    · exact w2 M (by omega) h2
end SMG
