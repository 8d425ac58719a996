/-! BUILD. The two compilers against each other: set!, define, quote -/
section SMC
variable {N : NS} {mt : List Nat} {z z1 z2 z' zm : CR} {y y1 y2 y' ym : MR} {n b g a m n1 b1 lo la' lv L : Nat} {G : PG} {S : Shp} {la : Bool}
variable {F : Nat → Bool → CR → CR} {Fm : Nat → MR → MR}
theorem xo_gb {S' : Shp} (h : XO N a b z z1 y y1) (hP : SRp S' z1 y1) : XO N b b z1 (cGb la z1) y1 y1 := by
  have := xo_rf (N := N) (a := b) h.2.2.1.2.2 hP
  unfold cGb
  split
  · exact xo_E this
  · exact this
theorem vf_sc {j : Nat} (h1 : rSc z1 = rSc z) (h2 : rBd z1 = rBd z) (l x : Nat) : Vf j z1 l x ↔ Vf j z l x := by
  have : scD z1 = scD z := by funext i; unfold scD; rw [h1]
  unfold Vf
  rw [h1, h2, this]
theorem set_sim {s v : Nat} (nk : Nok N mt) (hF : CFs N g F) (hM : MFs N g Fm) (hS : SFs N mt g F Fm) (ht : Tr (g + 1) N n b) (h6 : nK N n = 6) (hn1 : 1 ≤ n) (hb : b ≤ N.1) (hk : KI z.2.1) (hP : SRp S z y) (hw : wrd N n = 6) (hl : pts N n = [n + 1, s, v]) (hs : n + 1 < s ∧ s < v) (htv : Trb g N v b) (hn : rFl (cSt N F la s v (cCt N n z)) = none) : SO N mt (g + 1) n b la S z (cSt N F la s v (cCt N n z)) y (Fm v (if nCn N s < 30 then mW 5 (nQ N s) (mCt N n y) else mUs N s (mCt N n y))) := by
  have hpne : pts N n ≠ [] := fun e => by rw [e] at hl; simp at hl
  have hkc : KI (cCt N n z).2.1 := by rw [(ef_Ct (N := N) (z := z) (n := n)).2.1]; exact hk
  have hvb := tr_lt _ _ _ _ htv.1
  have Ce := st_e hF (la := la) (s := s) (a := n + 1) htv (by omega) hkc
  have hn0 : rFl (cCt N n z) = none := ef_no Ce.2.2.2.1 hn
  obtain ⟨Xc, Pc, cd0, hLc, hlac⟩ := xo_ct (N := N) (n := n) hn0 hk hP
  have Ce' := Ce.2.2.2.2 hn
  have dpc : rDp (cCt N n z) = rDp z := (ef_Ct (N := N) (z := z) (n := n)).2.2.1
  generalize hzc : cCt N n z = zc at *
  generalize hyc : mCt N n y = yc at *
  -- no fault of the name
  have gbfl : ∀ zz : CR, rFl (cGb la zz) = rFl zz := fun zz => (gb_e (z := zz) (la := la)).2.1
  have nm : 30 ≤ nCn N s ∧ cMn N (nCn N s) zc = true := by
    refine ⟨Nat.le_of_not_lt fun c => ?_, Classical.byContradiction fun c2 => ?_⟩
    · unfold cSt at hn
      dsimp only at hn
      rw [if_pos c, gbfl] at hn
      have E := hF v b false (cTl 5 (nQ N s) zc) htv hkc
      have e1 : rFl (F v false (cTl 5 (nQ N s) zc)) ≠ none := by rw [E.2.2.2.1.1 tl_fl]; exact tl_fl
      rw [if_neg e1] at hn
      exact e1 hn
    · by_cases c : nCn N s < 30
      · unfold cSt at hn
        dsimp only at hn
        rw [if_pos c, gbfl] at hn
        have E := hF v b false (cTl 5 (nQ N s) zc) htv hkc
        have e1 : rFl (F v false (cTl 5 (nQ N s) zc)) ≠ none := by rw [E.2.2.2.1.1 tl_fl]; exact tl_fl
        rw [if_neg e1] at hn
        exact e1 hn
      · unfold cSt at hn
        dsimp only at hn
        rw [if_neg c, if_neg c2, gbfl] at hn
        have E := hF v b false (cTl 4 (nQ N s) zc) htv hkc
        have e1 : rFl (F v false (cTl 4 (nQ N s) zc)) ≠ none := by rw [E.2.2.2.1.1 tl_fl]; exact tl_fl
        rw [if_neg e1] at hn
        exact e1 hn
  obtain ⟨h30, hmn⟩ := nm
  have hlt30 : ¬ nCn N s < 30 := by omega
  have E1 := hF v b false zc htv hkc
  have n1 : rFl (F v false zc) = none := Classical.byContradiction fun c => by
    unfold cSt at hn
    dsimp only at hn
    rw [if_neg hlt30, if_pos hmn, gbfl, if_neg c] at hn
    exact c hn
  have eZ : cSt N F la s v zc = cGb la (cVr N (nCn N s) 19 (rDp (F v false zc)) (F v false zc)) := by
    unfold cSt
    dsimp only
    rw [if_neg hlt30, if_pos hmn, if_pos n1]
  rw [eZ] at hn Ce' ⊢
  rw [if_neg (by omega : ¬ nCn N s < 30)]
  -- the name in the reference
  obtain ⟨u1, u2, u3, u4, u5, u6⟩ := us_sim (n := s) Pc.1 (fun l a b => (Pc.2.2.1 l a b).1) h30 hmn
  have mU : MEf N (n + 1) b yc (mUs N s yc) := us_e (by omega) (by omega)
  generalize hyU : mUs N s yc = yU at *
  have lvU : mLv yU = mLv yc := mU.1.2.1
  have arU : ∀ l, l ≤ mLv yc → mAr yU l = mAr yc l := mU.1.2.2.1
  have AU : SRa zc yU := sra_n Pc.1 rfl rfl mU
  have DU : SRd S zc yU := by
    obtain ⟨d1, d2, d3, d4⟩ := Pc.2.1
    have hsg : sgD yU = sgD yc := by funext i; unfold sgD; rw [mU.1.1]
    refine ⟨d1, by rw [hsg]; exact d2, by rw [lvU, mU.1.2.2.2 _ (Nat.le_refl _)]; exact d3, ?_⟩
    rw [lvU, mU.1.2.2.2 _ (Nat.le_refl _), arU _ (Nat.le_refl _)]
    exact Nat.le_trans d4 (mU.2.2.2.1 _ (Pc.1.2.2.2.1 _ (Nat.le_refl _))).2.2.1
  have SeU : SRe zc yU := fun l l1 l2 => by
    rw [lvU] at l2
    refine ⟨u1 l l1 l2, fun x hx => ?_⟩
    rw [arU l l2, u2 l l2 x]
    exact Or.inl ((Pc.2.2.1 l l1 l2).2 x hx)
  have PU : SRp S zc yU := ⟨AU, DU, SeU, by rw [u4]; exact Pc.2.2.2.1, by rw [u5]; exact Pc.2.2.2.2⟩
  -- the value
  have M1 := hM v b yU htv (by omega) AU.2.2.2.1
  have so := hS v b false S zc yU htv (by omega) hb hkc PU n1
  generalize hy1 : Fm v yU = y1 at *
  generalize hz1 : F v false zc = z1 at *
  have X1 := xo_so E1 M1 so n1
  have A1 := xo_a PU X1
  have D1 := srd_n DU E1.1 E1.2.1 AU M1 (E1.2.2.2.2 n1).1
  obtain ⟨w1, w2, w3, w4, w5, w6, w7, w8, w9⟩ := vr_e (N := N) (j := nCn N s) (o := 19) (dp := rDp z1) (a := b) E1.2.2.1
  obtain ⟨r1, uu, vv, r2, r3⟩ := vr_sim (N := N) (j := nCn N s) (o := 19) (dp := rDp z1) E1.2.2.1
  have hlm2 : rLm (cVr N (nCn N s) 19 (rDp z1) z1) = rLm z1 := by
    unfold cVr
    split
    · rfl
    · split <;> rfl
  generalize hz2 : cVr N (nCn N s) 19 (rDp z1) z1 = z2 at *
  have n2 : rFl z2 = none := by rw [w9]; exact n1
  have sc2 : rSc z2 = rSc zc := w1.trans E1.1
  have bd2 : rBd z2 = rBd zc := w2.trans E1.2.1
  have lv1 : mLv y1 = mLv yc := M1.1.2.1.trans lvU
  have ar1 : ∀ l, l ≤ mLv yc → mAr y1 l = mAr yc l := fun l hl => (M1.1.2.2.1 l (by omega)).trans (arU l hl)
  have fpre : ∀ l, l ≤ mLv yc → fes yU (mAr yc l) <+: fes y1 (mAr yc l) := fun l hl => by
    refine fes_pf (M1.2.2.2.1 _ ?_).2.2.2
    rw [u5]
    exact Pc.1.2.2.2.1 l hl
  have Se2 : SRe z2 y1 := fun l l1 l2 => by
    obtain ⟨f1, f2⟩ := X1.2.2.2.2.1 l l1 l2
    rw [lv1] at l2
    refine ⟨?_, fun x hx => ?_⟩
    · have e3 : scD z2 = scD z1 := by funext i; unfold scD; rw [w1]
      unfold FrO at f1 ⊢
      rw [w1, e3]
      exact f1
    · rcases (r1 l (by rw [E1.2.1, Pc.1.1.2]; exact l2) x).mp hx with hx | hx
      · exact f2 x hx
      · rw [vf_sc E1.1 E1.2.1] at hx
        rw [ar1 l l2]
        exact (fpre l l2).subset ((u2 l l2 x).mpr (Or.inr hx))
  have Uq2 : Uq zc z2 yc y1 := by
    obtain ⟨U, hU⟩ := X1.2.2.2.2.2.1
    refine ⟨fun l x => U l x ∨ Vf (nCn N s) zc l x, fun l hl x => ?_⟩
    obtain ⟨a1, a2⟩ := hU l (by omega) x
    rw [arU l hl] at a2
    rw [r1 l (by rw [E1.2.1, Pc.1.1.2]; exact hl) x, a1, a2, u2 l hl x, vf_sc E1.1 E1.2.1, or_assoc, or_assoc]
    refine ⟨Iff.rfl, or_congr Iff.rfl or_comm⟩
  have X2 : XO N (n + 1) b zc z2 yc y1 := ⟨oke_tr (oke_wk X1.1 (by omega) (Nat.le_refl _)) (w4.2 n2) (by rw [E1.2.1]; exact Nat.le_refl _), mef_tr mU (mef_wk M1 (by omega) (Nat.le_refl _)), ⟨sc2, bd2, w3⟩, ⟨w7.trans X1.2.2.2.1.1, by rw [hlm2]; exact X1.2.2.2.1.2⟩, Se2, Uq2, X1.2.2.2.2.2.2.trans u3⟩
  have P2 : SRp (S ++ [none]) z2 y1 := by
    refine ⟨xo_a Pc X2, ?_, Se2, X2.2.2.2.1.1, X2.2.2.2.1.2⟩
    have e3 : scD z2 = scD z1 := by funext i; unfold scD; rw [w1]
    unfold SRd at D1 ⊢
    rw [w5, w1, w2, e3]
    exact D1
  have X3 := xo_tr X2 (xo_gb (la := la) X2 P2) (by omega) (Nat.le_refl _)
  subst hzc
  subst hyc
  refine so_ct nk ht h6 hn1 hb hk hP hn0 hpne X3 (by omega) (by rw [← cd0]; exact Ce'.2.2.2.2) (fun G gs H g1 g2 hpd c l hcl fw ch => ?_)
  have Hm := hg_fst H X2 (xo_gb (la := la) X2 P2) Pc.1 (Nat.le_refl _) (by omega) (Nat.le_refl _)
  -- the value's part
  have Xz : XO N b b z1 z2 y1 y1 := ⟨w4.2 n2, mef_rf, ⟨w1, w2, w3⟩, X2.2.2.2.1, Se2, ⟨fun l x => x ∈ rKp z2 l ∧ x ∈ fes y1 (mAr y1 l) ∧ Vf (nCn N s) z1 l x, fun l hl x => by
    rw [lv1] at hl
    have h1 := r1 l (by rw [E1.2.1, Pc.1.1.2]; exact hl) x
    have h2 : Vf (nCn N s) z1 l x → x ∈ fes y1 (mAr y1 l) := fun h => by
      rw [vf_sc E1.1 E1.2.1] at h
      rw [ar1 l hl]
      exact (fpre l hl).subset ((u2 l hl x).mpr (Or.inr h))
    refine ⟨⟨fun h => ?_, fun h => ?_⟩, ⟨Or.inl, fun h => h.elim id (fun h => h.2.1)⟩⟩
    · rcases h1.mp h with h3 | h3
      · exact Or.inl h3
      · exact Or.inr ⟨h, h2 h3, h3⟩
    · rcases h with h3 | h3
      · exact h1.mpr (Or.inl h3)
      · exact h3.1⟩, rfl⟩
  have HU : HG G (cCt N n z) z2 yU y1 v b := by
    refine hg_sub Hm ⟨Nat.le_refl _, Nat.le_refl _, Nat.le_refl _, Nat.le_of_eq u5.symm, lvU, arU _ (Nat.le_refl _)⟩ af_rf (by omega) (Nat.le_refl _) X2.2.2.2.1.2 (fun hl x hx => ?_)
    have := (Se2 _ hl (by rw [lv1]; exact Nat.le_refl _)).2 x hx
    rw [ar1 _ (Nat.le_refl _)] at this
    exact this
  have Hv := hg_fst HU X1 Xz AU (Nat.le_refl _) (by omega) (Nat.le_refl _)
  obtain ⟨k1, k2⟩ := so.2.2.2.2 G gs Hv
  have hLU : mAr yU (mLv yU) = mAr (mCt N n y) (mLv (mCt N n y)) := by rw [lvU, arU _ (Nat.le_refl _)]
  rw [hLU, hLc, cd0] at k1
  refine ⟨fun Q q => q ?_, fun M h1 h2 => k2 M (by omega) h2⟩
  obtain ⟨⟨q1, q2, q3, q4⟩, q5, q6, q7⟩ := cod_l (z0 := z) gs ht h6 hn1 hb hpd (by rw [← cd0]; exact Ce'.2.2.2.2) H.1.2 ch fw
  rw [hl] at hcl
  have hll : l = [s - 1, v - 1] := by
    injection hcl with _ h2
    exact h2.symm
  subst hll
  rw [hw] at q7
  have e : rCd (cGb la z2) = rCd z1 ++ (uu, vv) :: (if la then [(34, 0)] else []) := by
    rw [gb_cd, r2, List.append_assoc]; rfl
  have len1 := X1.1.1.1.length_le
  have Hg : HG G z1 (cGb la z2) y1 y1 b b := by
    refine hg_sub H ⟨len1, X1.1.1.2.2.2.length_le, X1.1.1.2.1.length_le, X2.2.1.2.1, lv1, ar1 _ (Nat.le_refl _)⟩ af_rf (by omega) (Nat.le_refl _) X3.2.2.2.1.2 (fun hl x hx => ?_)
    have := (X3.2.2.2.2.1 _ hl (by rw [lv1]; exact Nat.le_refl _)).2 x hx
    rw [ar1 _ (Nat.le_refl _)] at this
    exact this
  obtain ⟨o1, o2⟩ := cd_at Hg e
  have gbb := gb_at Hg e
  obtain ⟨g1s, g2s⟩ := H.2.1 s (by omega) (by omega)
  obtain ⟨h1s, h2s⟩ := M1.2.2.1 (s - 1) (Or.inl (by omega))
  have kpg : rKp (cGb la z2) = rKp z2 := (s_of (gb_e (z := z2) (la := la)).1).2.2
  refine ⟨q1, q2, q3, q4, Or.inr ⟨q5, c, _, 6, q6, q7, ?_⟩⟩
  refine Or.inr (Or.inr (Or.inr (Or.inr (Or.inr (Or.inl ⟨rfl, s - 1, v - 1, (rCd z1).length, rfl, k1, ?_, gbb⟩)))))
  rw [← hLc]
  refine vrb_of gs Pc.1 Pc.2.1 u6 (z2 := z2) (yF := y1) ?_ o1 o2 (g1s.trans h1s) (g2s.trans h2s) ?_ ?_ ?_ (fun k x h1 h2 => H.2.2.2.1 k x h1 (by rw [kpg]; exact h2)) (fun h1 => ?_) (fpre _ (Nat.le_refl _))
  · have e3 : scD z1 = scD (cCt N n z) := by funext i; unfold scD; rw [E1.1]
    unfold Vop
    rw [E1.1, E1.2.1, e3] at r3
    exact r3
  · have := H.2.2.1.2.2
    have h2 := Pc.1.2.2.2.1 _ (Nat.le_refl (mLv (mCt N n y)))
    have h3 : mLa (mCt N n y) ≤ mLa y1 := X2.2.1.2.1
    omega
  · rw [hLc]; omega
  · have h2 := H.2.2.1.2.1
    have h3 := (X2.2.1.2.2.2.1 _ (Pc.1.2.2.2.1 _ (Nat.le_refl (mLv (mCt N n y))))).2.2.1
    omega
  · have := (Se2 _ h1 (by rw [lv1]; exact Nat.le_refl _)).1.1
    rw [ar1 _ (Nat.le_refl _)] at this
    exact this
end SMC
