/-! BUILD. The two compilers against each other: if -/
section SMB
variable {N : NS} {mt : List Nat} {z z1 z2 z' zm : CR} {y y1 y2 y' ym : MR} {n b g a m n1 b1 lo la' lv L : Nat} {G : PG} {S : Shp} {la : Bool}
variable {F : Nat → Bool → CR → CR} {Fm : Nat → MR → MR}
theorem oke_Dp {dp : Nat} : OKe a a z (cDp dp z) := ⟨⟨List.prefix_refl _, List.prefix_refl _, List.prefix_refl _, List.prefix_refl _⟩, fun _ _ => List.prefix_refl _, Nat.le_refl _, Nat.le_refl _, by show rFm z + a ≤ _; omega, fun h => h, Nat.le_refl _⟩
theorem af_rf : Af lo la' n1 b1 lv L z z y y := ⟨⟨fun _ _ _ => rfl, Nat.le_refl _⟩, ⟨List.prefix_refl _, List.prefix_refl _⟩, fun _ _ _ => rfl, Nat.le_refl _, List.prefix_refl _, fun _ _ _ => ⟨rfl, rfl⟩, Nat.le_refl _, List.prefix_refl _, fun _ _ _ => ⟨⟨rfl, rfl⟩, rfl, rfl⟩, Nat.le_refl _⟩
theorem af_then {a' : Nat} (A : Af lo la' n1 b1 lv L z2 zm y2 ym) (o : OKe a' b zm z') (me : MEf N a' b ym y') (hb1 : b1 ≤ a') (h1 : 1 ≤ n1) (hbd : lv ≤ rBd zm) (hL : L ≤ mLa ym) (hact : ∀ l, l ≤ mLv ym → mAr ym l ≤ la') : Af lo la' n1 b1 lv L z2 z' y2 y' := by
  obtain ⟨⟨a1, a2⟩, ⟨a3, a4⟩, a5, a6, a7, a8, a9, a10, a11, a12⟩ := A
  obtain ⟨⟨o1, o2, o3, o4⟩, o5, o6, _⟩ := o
  obtain ⟨⟨p1, p2, p3, p4⟩, p5, p6, p7, p8, p9⟩ := me
  have ol := o1.length_le
  refine ⟨⟨fun i h2 h3 => (pf_ge o1 (by omega)).trans (a1 i h2 h3), by omega⟩, ⟨a3.trans o4, a4.trans o2⟩, fun j h2 h3 => ?_, by omega, a7.trans (o5 lv hbd), fun m h2 h3 => ?_, Nat.le_trans a9 (p7 L hL).2.2.1, a10.trans (p7 L hL).2.2.2, fun M h2 h3 => ?_, by omega⟩
  · have e := a5 j h2 h3
    rw [← e]
    have : j < (rLm zm).length := by
      rw [List.getElem?_eq_getElem h3] at e
      exact g_lt e
    exact pf_ge o3 this
  · obtain ⟨q1, q2⟩ := p6 (m - 1) (Or.inl (by omega))
    obtain ⟨r1, r2⟩ := a8 m h2 h3
    exact ⟨q1.trans r1, q2.trans r2⟩
  · obtain ⟨⟨q1, q1'⟩, q2, q3⟩ := a11 M h2 h3
    obtain ⟨r1, r2⟩ := p8 M (by omega) (fun l hl => by have := hact l hl; omega)
    exact ⟨⟨(p7 M (by omega)).1.trans q1, (p7 M (by omega)).2.1.trans q1'⟩, r1.trans q2, r2.trans q3⟩
theorem if_sim {u v w : Nat} (nk : Nok N mt) (hF : CFs N g F) (hM : MFs N g Fm) (hS : SFs N mt g F Fm) (ht : Tr (g + 1) N n b) (h6 : nK N n = 6) (hn1 : 1 ≤ n) (hb : b ≤ N.1) (hk : KI z.2.1) (hP : SRp S z y) (hw : wrd N n = 3) (hl : (pts N n).drop 1 = [u, v, w]) (hn : rFl (cIf F la u v w (cCt N n z)) = none) : SO N mt (g + 1) n b la S z (cIf F la u v w (cCt N n z)) y (mBo Fm ((pts N n).drop 1) (mCt N n y)) := by
  have hbb : b < 2000000000 := by have := nk.2.2; omega
  have hsq := sqn_drop 1 _ _ _ (frs_sqn _ _ _ (tr_pts ht h6 hbb).2.2 hbb)
  rw [hl] at hsq ⊢
  have hpne : pts N n ≠ [] := fun e => by rw [e] at hl; simp at hl
  have hkc : KI (cCt N n z).2.1 := by rw [(ef_Ct (N := N) (z := z) (n := n)).2.1]; exact hk
  have Ce := if_e hF (la := la) hsq hkc
  have hn0 : rFl (cCt N n z) = none := ef_no Ce.2.2.2.1 hn
  obtain ⟨Xc, Pc, cd0, hLc, hlac⟩ := xo_ct (N := N) (n := n) hn0 hk hP
  have Ce' := Ce.2.2.2.2 hn
  have dpc : rDp (cCt N n z) = rDp z := (ef_Ct (N := N) (z := z) (n := n)).2.2.1
  obtain ⟨s1, m1, t1, _, _, s2, m2, t2, _, _, s3, m3, t3, _, s4, s5⟩ := hsq
  have s5 : m3 ≤ b := s5
  generalize hzc : cCt N n z = zc at *
  generalize hyc : mCt N n y = yc at *
  -- the three parts
  have E1 := hF u m1 false zc t1 hkc
  generalize hz1 : F u false zc = z1 at *
  have E2 := hF v m2 la (cE 27 0 (rDp z1 - 1) z1) t2 E1.2.2.1
  generalize hz2 : F v la (cE 27 0 (rDp z1 - 1) z1) = z2 at *
  obtain ⟨z3, ez3, f1, f2, f3, f4, f5, f6⟩ : ∃ z3, z3 = (if la then z2 else cE 26 0 (rDp z2) z2) ∧ z3.2.1 = z2.2.1 ∧ rFl z3 = rFl z2 ∧ rDp z3 = rDp z2 ∧ OKe m2 m2 z2 z3 ∧ (rFm z3 = rFm z2 ∧ rLm z3 = rLm z2) ∧ ((la = true ∧ z3 = z2) ∨ (la = false ∧ rCd z3 = rCd z2 ++ [(26, 0)])) := by
    cases la
    · exact ⟨_, rfl, rfl, rfl, rfl, oke_E, ⟨rfl, rfl⟩, Or.inr ⟨rfl, rfl⟩⟩
    · exact ⟨_, rfl, rfl, rfl, rfl, oke_rf, ⟨rfl, rfl⟩, Or.inl ⟨rfl, rfl⟩⟩
  have eIf : cIf F la u v w zc = lds (if la then [] else [(rCd z2).length]) (F w la (lds [(rCd z1).length] (cDp (rDp z3 - 1) z3))) := by
    unfold cIf
    dsimp only
    rw [hz1, hz2, ← ez3]
    cases la
    · rw [if_neg (by decide), if_neg (by decide)]; rfl
    · rw [if_pos rfl, if_pos rfl]; rfl
  rw [eIf] at hn Ce' ⊢
  have ldz := lds_o (z := cDp (rDp z3 - 1) z3) (xs := [(rCd z1).length])
  have kD : KI (lds [(rCd z1).length] (cDp (rDp z3 - 1) z3)).2.1 := by
    have : (lds [(rCd z1).length] (cDp (rDp z3 - 1) z3)).2.1 = z3.2.1 := congrArg (fun t => t.1) ldz.1
    rw [this, f1]
    exact E2.2.2.1
  have E4 := hF w m3 la (lds [(rCd z1).length] (cDp (rDp z3 - 1) z3)) t3 kD
  generalize hz4 : F w la (lds [(rCd z1).length] (cDp (rDp z3 - 1) z3)) = z4 at *
  have l4 := lds_o (z := z4) (xs := if la then [] else [(rCd z2).length])
  have n4 : rFl z4 = none := by
    have : rFl (lds (if la then [] else [(rCd z2).length]) z4) = rFl z4 := congrArg (fun t => t.2.2) l4.1
    rw [← this]; exact hn
  have nD : rFl (lds [(rCd z1).length] (cDp (rDp z3 - 1) z3)) = none := ef_no E4.2.2.2.1 n4
  have n3 : rFl z3 = none := by
    have : rFl (lds [(rCd z1).length] (cDp (rDp z3 - 1) z3)) = rFl z3 := congrArg (fun t => t.2.2) ldz.1
    rw [← this]; exact nD
  have n2 : rFl z2 = none := by rw [← f2]; exact n3
  have nE1 : rFl z1 = none := ef_no (z := cE 27 0 (rDp z1 - 1) z1) E2.2.2.2.1 n2
  -- part one
  have M1 := hM u m1 yc t1 (by omega) Pc.1.2.2.2.1
  have so1 := hS u m1 false S zc yc t1 (by omega) (by omega) hkc Pc (by rw [hz1]; exact nE1)
  rw [hz1] at so1
  generalize hy1 : Fm u yc = y1 at *
  have X1 := xo_so E1 M1 so1 nE1
  have A1 := xo_a Pc X1
  have D1 := srd_n Pc.2.1 E1.1 E1.2.1 Pc.1 M1 (E1.2.2.2.2 nE1).1
  have P1 : SRp (S ++ [none]) z1 y1 := ⟨A1, D1, X1.2.2.2.2.1, X1.2.2.2.1.1, X1.2.2.2.1.2⟩
  have P1e : SRp S (cE 27 0 (rDp z1 - 1) z1) y1 := ⟨A1, srd_d D1 rfl rfl rfl rfl, sre_same X1.2.2.2.2.1 rfl rfl rfl rfl rfl, X1.2.2.2.1.1, X1.2.2.2.1.2⟩
  have X1e : XO N u m1 zc (cE 27 0 (rDp z1 - 1) z1) yc y1 := xo_E X1
  -- part two
  have M2 := hM v m2 y1 t2 (by omega) A1.2.2.2.1
  have so2 := hS v m2 la S (cE 27 0 (rDp z1 - 1) z1) y1 t2 (by omega) (by omega) E1.2.2.1 P1e (by rw [hz2]; exact n2)
  rw [hz2] at so2
  generalize hy2 : Fm v y1 = y2 at *
  have X2 := xo_so E2 M2 so2 n2
  have A2 := xo_a P1e X2
  have D2 := srd_n P1e.2.1 E2.1 E2.2.1 P1e.1 M2 (E2.2.2.2.2 n2).1
  have X2' : XO N m1 m2 (cE 27 0 (rDp z1 - 1) z1) z2 y1 y2 := xo_wk X2 s2 (Nat.le_refl _)
  have Xz2 : XO N u m2 zc z2 yc y2 := xo_tr X1e X2' (by omega) (by omega)
  have Xz3 : XO N u m2 zc z3 yc y2 := xo_c Xz2 f4 f1 f5.1 f5.2
  have Xz3d : XO N u m2 zc (cDp (rDp z3 - 1) z3) yc y2 := xo_c Xz3 oke_Dp rfl rfl rfl
  have len1 := X1.1.1.1.length_le
  have len2 := X2.1.1.1.length_le
  have len3 := f4.1.1.length_le
  have lenE : (rCd (cE 27 0 (rDp z1 - 1) z1)).length = (rCd z1).length + 1 := cd_E
  have XD : XO N u m2 zc (lds [(rCd z1).length] (cDp (rDp z3 - 1) z3)) yc y2 := xo_ld Xz3d (fun x hx => by
    simp only [List.mem_cons, List.not_mem_nil, or_false] at hx
    omega)
  generalize hzD : lds [(rCd z1).length] (cDp (rDp z3 - 1) z3) = zD at *
  have scDz : rSc zD = rSc z2 ∧ rBd zD = rBd z2 ∧ rDp zD = rDp z3 - 1 ∧ (rCd zD).length = (rCd z3).length := by
    have e1 : zD.2.1 = z3.2.1 := congrArg (fun t => t.1) ldz.1
    refine ⟨(s_of e1).1.trans (s_of f1).1, (s_of e1).2.1.trans (s_of f1).2.1, congrArg (fun t => t.2.1.2.1) ldz.1, ldz.2.2⟩
  have PD : SRp S zD y2 := by
    refine ⟨xo_a Pc XD, srd_d (z := z2) D2 scDz.1 scDz.2.1 (by rw [scDz.2.2.1, f3]) rfl, XD.2.2.2.2.1, XD.2.2.2.1.1, XD.2.2.2.1.2⟩
  -- part three
  have M3 := hM w m3 y2 t3 (by omega) A2.2.2.2.1
  have so3 := hS w m3 la S zD y2 t3 (by omega) (by omega) kD PD (by rw [hz4]; exact n4)
  rw [hz4] at so3
  have hyy : mBo Fm [u, v, w] yc = Fm w y2 := by
    show Fm w (Fm v (Fm u yc)) = _
    rw [hy1, hy2]
  rw [hyy]
  generalize hy3 : Fm w y2 = y3 at *
  have X3 := xo_so E4 M3 so3 n4
  have X3' : XO N m2 b zD z4 y2 y3 := xo_wk X3 s3 s5
  have X4 : XO N u b zc z4 yc y3 := xo_tr XD X3' (by omega) (by omega)
  have len4 := X3.1.1.1.length_le
  have hxs : ∀ x, x ∈ (if la then [] else [(rCd z2).length]) → x = (rCd z2).length ∧ la = false := fun x hx => by
    cases la
    · rw [if_neg (by decide)] at hx
      simp only [List.mem_cons, List.not_mem_nil, or_false] at hx
      exact ⟨hx, rfl⟩
    · rw [if_pos rfl] at hx
      cases hx
  have X' : XO N (n + 1) b zc (lds (if la then [] else [(rCd z2).length]) z4) yc y3 := xo_ld (xo_wk X4 s1 (Nat.le_refl _)) (fun x hx => by have := (hxs x hx).1; omega)
  subst hzc
  subst hyc
  refine so_ct nk ht h6 hn1 hb hk hP hn0 hpne X' (by omega) (by rw [← cd0]; exact Ce'.2.2.2.2) (fun G gs H g1 g2 hpd c l hcl fw ch => ?_)
  have lvc : ∀ {yy : MR} {zz : CR} {aa bb : Nat}, XO N aa bb (cCt N n z) zz (mCt N n y) yy → mLv yy = mLv (mCt N n y) ∧ (∀ l, l ≤ mLv (mCt N n y) → mAr yy l = mAr (mCt N n y) l) ∧ rBd zz = mLv (mCt N n y) ∧ mLa (mCt N n y) ≤ mLa yy := fun {yy zz aa bb} X => ⟨X.2.1.1.2.1, X.2.1.1.2.2.1, X.2.2.1.2.1.trans Pc.1.1.2, X.2.1.2.1⟩
  have aiL : ∀ l, l ≤ mLv (mCt N n y) → mAr (mCt N n y) l ≤ mLa (mCt N n y) := Pc.1.2.2.2.1
  obtain ⟨v1a, v1b, v1c, v1d⟩ := lvc X1
  obtain ⟨v2a, v2b, v2c, v2d⟩ := lvc Xz2
  obtain ⟨vDa, vDb, vDc, vDd⟩ := lvc XD
  obtain ⟨v4a, v4b, v4c, v4d⟩ := lvc X4
  have oD : OKe m2 b zD z4 := X3'.1
  have mD : MEf N m2 b y2 y3 := X3'.2.1
  have la12 : mLa y1 ≤ mLa y2 := M2.2.1
  -- part one
  have Hu : HG G (cCt N n z) z1 (mCt N n y) y1 u m1 := by
    have a0 := af_of (N := N) (lo := (rCd (cCt N n z)).length) (la := mLa (mCt N n y)) (lv := mLv (mCt N n y)) (n1 := u) (b1 := m1) (a' := m1) (b := m2) (z2 := z1) (z' := cDp (rDp z3 - 1) z3) (y2 := y1) (y' := y2) (oke_tr (oke_tr (oke_tr (oke_E (o := 27) (v := 0) (dp := rDp z1 - 1)) X2'.1 (by show rBd z1 ≤ rBd z1; exact Nat.le_refl _)) f4 (by rw [v1c, v2c]; exact Nat.le_refl _)) oke_Dp (by rw [v1c, (s_of f1).2.1, v2c]; exact Nat.le_refl _)) X2'.2.1 (Nat.le_refl _) (by omega) v1c.symm v1a (fun l hl => by rw [v1b l hl]; exact aiL l hl) v1d
    rw [v1b _ (Nat.le_refl _)] at a0
    have a1 := af_ld (xs := [(rCd z1).length]) a0 (fun x hx => by simp only [List.mem_cons, List.not_mem_nil, or_false] at hx; omega)
    rw [hzD] at a1
    have a2 := af_then a1 oD mD (by omega) (by omega) (by omega) (by have := aiL _ (Nat.le_refl _); omega) (fun l hl => by rw [v2a] at hl; rw [v2b l hl]; exact aiL l hl)
    have a3 := af_ld (xs := if la then [] else [(rCd z2).length]) a2 (fun x hx => by have := (hxs x hx).1; omega)
    exact hg_sub H ⟨Nat.le_refl _, Nat.le_refl _, Nat.le_refl _, Nat.le_refl _, rfl, rfl⟩ a3 (by omega) (by omega) X1.2.2.2.1.2 (fun hl x hx => by
      have := (X1.2.2.2.2.1 _ hl (by rw [v1a]; exact Nat.le_refl _)).2 x hx
      rw [v1b _ (Nat.le_refl _)] at this
      exact this)
  -- part two
  have Hv : HG G (cE 27 0 (rDp z1 - 1) z1) z2 y1 y2 v m2 := by
    have a0 := af_of (N := N) (lo := (rCd (cE 27 0 (rDp z1 - 1) z1)).length) (la := mLa y1) (lv := mLv (mCt N n y)) (n1 := v) (b1 := m2) (a' := m2) (b := m2) (z2 := z2) (z' := cDp (rDp z3 - 1) z3) (y2 := y2) (y' := y2) (oke_tr f4 oke_Dp (by rw [(s_of f1).2.1]; exact Nat.le_refl _)) mef_rf (Nat.le_refl _) (by omega) v2c.symm v2a (fun l hl => by rw [v2b l hl]; exact Nat.le_trans (aiL l hl) v1d) la12
    rw [v2b _ (Nat.le_refl _)] at a0
    have a1 := af_ld (xs := [(rCd z1).length]) a0 (fun x hx => by simp only [List.mem_cons, List.not_mem_nil, or_false] at hx; omega)
    rw [hzD] at a1
    have a2 := af_then a1 oD mD (by omega) (by omega) (by omega) (by have := aiL _ (Nat.le_refl _); omega) (fun l hl => by rw [v2a] at hl; rw [v2b l hl]; exact Nat.le_trans (aiL l hl) v1d)
    have a3 := af_ld (xs := if la then [] else [(rCd z2).length]) a2 (fun x hx => by have := (hxs x hx).1; omega)
    exact hg_sub H ⟨X1e.1.1.1.length_le, X1e.1.1.2.2.2.length_le, X1e.1.1.2.1.length_le, v1d, v1a, v1b _ (Nat.le_refl _)⟩ a3 (by omega) (by omega) X2.2.2.2.1.2 (fun hl x hx => by
      have := (Xz2.2.2.2.2.1 _ hl (by rw [v2a]; exact Nat.le_refl _)).2 x hx
      rw [v2b _ (Nat.le_refl _)] at this
      exact this)
  -- part three
  have Hw : HG G zD z4 y2 y3 w m3 := by
    have a0 : Af (rCd zD).length (mLa y2) w m3 (mLv (mCt N n y)) (mAr (mCt N n y) (mLv (mCt N n y))) z4 z4 y3 y3 := af_rf
    have a3 := af_ld (xs := if la then [] else [(rCd z2).length]) a0 (fun x hx => by
      obtain ⟨e1, e2⟩ := hxs x hx
      refine Or.inl ?_
      rcases f6 with ⟨c1, _⟩ | ⟨_, c2⟩
      · rw [e2] at c1; cases c1
      · have : (rCd z3).length = (rCd z2).length + 1 := by rw [c2, List.length_append]; rfl
        omega)
    exact hg_sub H ⟨XD.1.1.1.length_le, XD.1.1.2.2.2.length_le, XD.1.1.2.1.length_le, vDd, vDa, vDb _ (Nat.le_refl _)⟩ a3 (by omega) (by omega) X3.2.2.2.1.2 (fun hl x hx => by
      have := (X4.2.2.2.2.1 _ hl (by rw [v4a]; exact Nat.le_refl _)).2 x hx
      rw [v4b _ (Nat.le_refl _)] at this
      exact this)
  obtain ⟨k1, k2⟩ := so1.2.2.2.2 G gs Hu
  obtain ⟨d1, d2⟩ := so2.2.2.2.2 G gs Hv
  obtain ⟨e1, e2⟩ := so3.2.2.2.2 G gs Hw
  have hL1 : mAr y1 (mLv y1) = mAr (mCt N n y) (mLv (mCt N n y)) := by rw [v1a, v1b _ (Nat.le_refl _)]
  have hL2 : mAr y2 (mLv y2) = mAr (mCt N n y) (mLv (mCt N n y)) := by rw [v2a, v2b _ (Nat.le_refl _)]
  rw [hLc, cd0] at k1
  rw [hL1, hLc, lenE] at d1
  rw [hL2, hLc, scDz.2.2.2] at e1
  refine ⟨fun Q q => q ?_, fun M h1 h2 => ?_⟩
  · obtain ⟨⟨q1, q2, q3, q4⟩, q5, q6, q7⟩ := cod_l (z0 := z) gs ht h6 hn1 hb hpd (by rw [← cd0]; exact Ce'.2.2.2.2) H.1.2 ch fw
    have hll := drop_map hcl
    rw [hl] at hll
    have hll : l = [u - 1, v - 1, w - 1] := hll.symm
    subst hll
    rw [hw] at q7
    have l4l : (rCd (lds (if la then [] else [(rCd z2).length]) z4)).length = (rCd z4).length := l4.2.2
    have c3x : (rCd z3)[(rCd z1).length]? = some (27, 0) := by
      have hp : rCd (cE 27 0 (rDp z1 - 1) z1) <+: rCd z3 := X2.1.1.1.trans f4.1.1
      rw [pf_ge hp (by omega)]
      show (rCd z1 ++ [(27, 0)])[(rCd z1).length]? = _
      rw [List.getElem?_append_right (Nat.le_refl _), Nat.sub_self]
      rfl
    have cDx : (rCd zD)[(rCd z1).length]? = some (27, nI (rCd z3).length) := by
      rw [← hzD, lds_cd, if_pos (by simp)]
      show ((rCd z3)[(rCd z1).length]?).map (fun p => (p.1, nI (rCd z3).length)) = _
      rw [c3x]
      rfl
    have hx1 := H.1.1 (rCd z1).length (by omega) (by omega)
    rw [lds_cd, if_neg (fun c => by have := (hxs _ c).1; omega), pf_ge X3.1.1.1 (by omega), cDx] at hx1
    injection hx1 with hx1
    injection hx1 with hx2 hx3
    rw [l4l]
    rw [l4l] at q3 q4
    refine ⟨q1, q2, q3, q4, Or.inr ⟨q5, c, _, 3, q6, q7, ?_⟩⟩
    refine Or.inr (Or.inr (Or.inl ⟨rfl, u - 1, v - 1, w - 1, (rCd z1).length, (rCd z2).length, (rCd z3).length, rfl, k1, hx2.symm, hx3.symm, d1, ?_, e1⟩))
    rcases f6 with ⟨c1, c2⟩ | ⟨c1, c2⟩
    · exact Or.inl ⟨c1, by rw [c2]⟩
    · subst c1
      have l3 : (rCd z3).length = (rCd z2).length + 1 := by rw [c2, List.length_append]; rfl
      have hy1' := H.1.1 (rCd z2).length (by omega) (by omega)
      rw [lds_cd, if_pos (by simp), pf_ge X3.1.1.1 (by omega), ← hzD, lds_cd, if_neg (by simp only [List.mem_cons, List.not_mem_nil, or_false]; omega)] at hy1'
      have c3y : (rCd (cDp (rDp z3 - 1) z3))[(rCd z2).length]? = some (26, 0) := by
        show (rCd z3)[(rCd z2).length]? = _
        rw [c2, List.getElem?_append_right (Nat.le_refl _), Nat.sub_self]
        rfl
      rw [c3y] at hy1'
      have hy1' : some ((26 : Int32), nI (rCd z4).length) = some (G.1 1 (rCd z2).length, G.1 2 (rCd z2).length) := hy1'
      injection hy1' with hy1'
      injection hy1' with hy2' hy3'
      exact Or.inr ⟨rfl, hy2'.symm, hy3'.symm, l3⟩
  · by_cases c1 : M ≤ mLa y1
    · exact k2 M (by omega) c1
    · by_cases c2 : M ≤ mLa y2
      · exact d2 M (by omega) c2
      · exact e2 M (by omega) h2
end SMB
