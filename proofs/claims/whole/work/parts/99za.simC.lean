/-! BUILD. The two compilers against each other: define, quote -/
section SMD
variable {N : NS} {mt : List Nat} {z z1 z2 z' zm : CR} {y y1 y2 y' ym : MR} {n b g a m n1 b1 lo la' lv L : Nat} {G : PG} {S : Shp} {la : Bool}
variable {F : Nat → Bool → CR → CR} {Fm : Nat → MR → MR}
/-- meaning and number of a node alone -/
theorem xo_mn {s : Nat} {me nu : Int32} (hk : KI z.2.1) (hP : SRp S z y) (h : a ≤ s ∧ s < b) (ha : 1 ≤ a) : XO N a b z z y (mMn s me nu y) ∧ SRp S z (mMn s me nu y) := by
  have e : SRe z (mMn s me nu y) := hP.2.2.1
  refine ⟨⟨oke_wk oke_rf (Nat.le_refl _) (by omega), mef_Mn h ha, ⟨rfl, rfl, hk⟩, ⟨hP.2.2.2.1, hP.2.2.2.2⟩, e, uq_same rfl (fun _ => rfl), rfl⟩, hP.1, hP.2.1, e, hP.2.2.2.1, hP.2.2.2.2⟩
theorem define_sim {s v : Nat} (nk : Nok N mt) (hF : CFs N g F) (hM : MFs N g Fm) (hS : SFs N mt g F Fm) (ht : Tr (g + 1) N n b) (h6 : nK N n = 6) (hn1 : 1 ≤ n) (hb : b ≤ N.1) (hk : KI z.2.1) (hP : SRp S z y) (hw : wrd N n = 10) (hl : pts N n = [n + 1, s, v]) (hs : n + 1 < s ∧ s < v) (htv : Trb g N v b) (hg : 30 ≤ nCn N s → nCn N s ∈ gdf N) (hla : la = false) (hn : rFl (cDf N F s v (cCt N n z)) = none) : SO N mt (g + 1) n b la S z (cDf N F s v (cCt N n z)) y (Fm v (mMn s 3 (dA N (nCn N s)) (if nCn N s < 30 then mW 5 (nQ N s) (mCt N n y) else mCt N n y))) := by
  have hpne : pts N n ≠ [] := fun e => by rw [e] at hl; simp at hl
  have hkc : KI (cCt N n z).2.1 := by rw [(ef_Ct (N := N) (z := z) (n := n)).2.1]; exact hk
  have hvb := tr_lt _ _ _ _ htv.1
  have Ce := df_e hF (s := s) (a := n + 1) htv (by omega) hkc
  have hn0 : rFl (cCt N n z) = none := ef_no Ce.2.2.2.1 hn
  obtain ⟨Xc, Pc, cd0, hLc, hlac⟩ := xo_ct (N := N) (n := n) hn0 hk hP
  have Ce' := Ce.2.2.2.2 hn
  have dpc : rDp (cCt N n z) = rDp z := (ef_Ct (N := N) (z := z) (n := n)).2.2.1
  generalize hzc : cCt N n z = zc at *
  generalize hyc : mCt N n y = yc at *
  have bad : ∀ k p, rFl (F v false (cTl k p zc)) ≠ none := fun k p => by
    have E := hF v b false (cTl k p zc) htv hkc
    rw [E.2.2.2.1.1 tl_fl]; exact tl_fl
  have h30 : ¬ nCn N s < 30 := fun c => by
    unfold cDf at hn
    dsimp only at hn
    rw [if_pos c] at hn
    exact bad _ _ hn
  have hgd := hg (by omega)
  have hix : ¬ (100 ≤ (gdf N).idxOf (nCn N s) ∧ nCn N s ∈ gdf N) := fun c => by
    unfold cDf at hn
    dsimp only at hn
    rw [if_neg h30, if_pos c] at hn
    exact bad _ _ hn
  have eZ : cDf N F s v zc = cE 24 (dA N (nCn N s)) (rDp (F v false zc)) (F v false zc) := by
    unfold cDf
    dsimp only
    rw [if_neg h30, if_neg hix]
  rw [eZ] at hn Ce' ⊢
  rw [if_neg h30]
  have n1 : rFl (F v false zc) = none := hn
  obtain ⟨XU, PU⟩ := xo_mn (N := N) (s := s) (me := 3) (nu := dA N (nCn N s)) (a := n + 1) (b := v) hkc Pc (by omega) (by omega)
  generalize hyU : mMn s 3 (dA N (nCn N s)) yc = yU at *
  have E1 := hF v b false zc htv hkc
  have M1 := hM v b yU htv (by omega) PU.1.2.2.2.1
  have so := hS v b false S zc yU htv (by omega) hb hkc PU n1
  generalize hy1 : Fm v yU = y1 at *
  generalize hz1 : F v false zc = z1 at *
  have X1 := xo_so E1 M1 so n1
  have A1 := xo_a PU X1
  have D1 := srd_n PU.2.1 E1.1 E1.2.1 PU.1 M1 (E1.2.2.2.2 n1).1
  have P1 : SRp (S ++ [none]) z1 y1 := ⟨A1, D1, X1.2.2.2.2.1, X1.2.2.2.1.1, X1.2.2.2.1.2⟩
  have X2 : XO N (n + 1) b zc z1 yc y1 := xo_tr XU X1 (by omega) (by omega)
  have Xr := xo_E (o := 24) (v := dA N (nCn N s)) (dp := rDp z1) (xo_rf (N := N) (a := b) E1.2.2.1 P1)
  have X3 : XO N (n + 1) b zc (cE 24 (dA N (nCn N s)) (rDp z1) z1) yc y1 := xo_E X2
  subst hzc
  subst hyc
  refine so_ct nk ht h6 hn1 hb hk hP hn0 hpne X3 (by omega) (by rw [← cd0]; exact Ce'.2.2.2.2) (fun G gs H g1 g2 hpd c l hcl fw ch => ?_)
  have Hs := hg_snd (n := n + 1) H XU (xo_E X1) (by omega)
  have Hv := hg_fst Hs X1 Xr PU.1 (Nat.le_refl _) (by omega) (Nat.le_refl _)
  obtain ⟨k1, k2⟩ := so.2.2.2.2 G gs Hv
  have hLU : mAr yU (mLv yU) = mAr (mCt N n y) (mLv (mCt N n y)) := by rw [XU.2.1.1.2.1, XU.2.1.1.2.2.1 _ (Nat.le_refl _)]
  have hlaU : mLa yU = mLa (mCt N n y) := by rw [← hyU]; rfl
  rw [hLU, hLc, cd0] at k1
  refine ⟨fun Q q => q ?_, fun M h1 h2 => k2 M (by omega) h2⟩
  obtain ⟨⟨q1, q2, q3, q4⟩, q5, q6, q7⟩ := cod_l (z0 := z) gs ht h6 hn1 hb hpd (by rw [← cd0]; exact Ce'.2.2.2.2) H.1.2 ch fw
  rw [hl] at hcl
  have hll : l = [s - 1, v - 1] := by
    injection hcl with _ h2
    exact h2.symm
  subst hll
  rw [hw] at q7
  have len1 := X2.1.1.1.length_le
  obtain ⟨o1, o2⟩ := opz_at (z1 := z1) (u := 24) (v := dA N (nCn N s)) (dp := rDp z1) H len1 (List.prefix_refl _) rfl
  obtain ⟨g1s, g2s⟩ := H.2.1 s (by omega) (by omega)
  obtain ⟨h1s, h2s⟩ := M1.2.2.1 (s - 1) (Or.inl (by omega))
  have v1 : mMe yU (s - 1) = 3 := by rw [← hyU]; exact if_pos rfl
  have v2 : mNu yU (s - 1) = dA N (nCn N s) := by rw [← hyU]; exact if_pos rfl
  have vd : dA N (nCn N s) = nI ((gdf N).idxOf (nCn N s)) := if_pos hgd
  refine ⟨q1, q2, q3, q4, Or.inr ⟨q5, c, _, 10, q6, q7, ?_⟩⟩
  refine Or.inr (Or.inr (Or.inr (Or.inr (Or.inr (Or.inr (Or.inl ⟨rfl, s - 1, v - 1, (rCd z1).length, (gdf N).idxOf (nCn N s), rfl, k1, ?_, ?_, ?_, o1, ?_, hla, cd_E⟩))))))
  · rw [gs.2.2.2.1]; exact List.idxOf_lt_length_iff.mpr hgd
  · rw [g1s, h1s, v1]
  · rw [g2s, h2s, v2, vd]
  · rw [o2, vd]
/-- tags of data stay -/
theorem dU_tag {dt : List DTe} {s i : Nat} {v : Int64} : ((dU dt s v)[i]?).map (·.1) = (dt[i]?).map (·.1) := by
  unfold dU
  rw [List.getElem?_set]
  by_cases c : s = i
  · subst c
    rw [if_pos rfl]
    by_cases c2 : s < dt.length
    · rw [if_pos c2, List.getD_eq_getElem?_getD, List.getElem?_eq_getElem c2]
      rfl
    · rw [if_neg c2, List.getElem?_eq_none (by omega)]
  · rw [if_neg c]
theorem dml_tag {R : Nat → Nat → Prop} {Fd : Nat → List DTe → Int64 × List DTe} (hF : ∀ p m dt, R p m → dt <+: (Fd p dt).2) {X : Nat → Int32} : ∀ (l : List Nat) (a b s i : Nat) (dt : List DTe), Frs R X l a b → i < dt.length → ((cDmL Fd l s dt)[i]?).map (·.1) = (dt[i]?).map (·.1)
  | [], _, _, _, _, _, _, _ => rfl
  | p :: l, a, b, s, i, dt, h, hi => by
    obtain ⟨rfl, m, h1, h2, h3, h4, h5⟩ := h
    have f1 := hF p m dt h1
    have hl := f1.length_le
    have dl : ∀ (l : List DTe) (s : Nat) (v : Int64), (dU l s v).length = l.length := fun l s v => List.length_set
    show ((cDmL Fd l (s + 2) _)[i]?).map (·.1) = _
    rw [dml_tag hF l m b (s + 2) i _ h5 (by rw [dl, dl]; omega), dU_tag, dU_tag, pf_ge f1 hi]
theorem quote_sim {q : Nat} (nk : Nok N mt) (ht : Tr (g + 1) N n b) (hg : g ≤ 39) (h6 : nK N n = 6) (hn1 : 1 ≤ n) (hb : b ≤ N.1) (hk : KI z.2.1) (hP : SRp S z y) (hw : wrd N n = 1) (hl : pts N n = [n + 1, q]) (hq : n + 1 < q) (htq : Tr g N q b) (hn : rFl (cQt N mt 40 la q (cCt N n z)) = none) : SO N mt (g + 1) n b la S z (cQt N mt 40 la q (cCt N n z)) y (mCt N n y) := by
  have hpne : pts N n ≠ [] := fun e => by rw [e] at hl; simp at hl
  have hbb : b < 2000000000 := by have := nk.2.2; omega
  have hkc : KI (cCt N n z).2.1 := by rw [(ef_Ct (N := N) (z := z) (n := n)).2.1]; exact hk
  have hvb := tr_lt _ _ _ _ htq
  have Ce := qt_e (mt := mt) (f := 40) (la := la) (a := n + 1) htq (by omega) hbb (by omega) hkc
  have hn0 : rFl (cCt N n z) = none := ef_no Ce.2.2.2.1 hn
  obtain ⟨Xc, Pc, cd0, hLc, hlac⟩ := xo_ct (N := N) (n := n) hn0 hk hP
  have Ce' := Ce.2.2.2.2 hn
  have dpc : rDp (cCt N n z) = rDp z := (ef_Ct (N := N) (z := z) (n := n)).2.2.1
  generalize hzc : cCt N n z = zc at *
  generalize hyc : mCt N n y = yc at *
  have g1 := gb_e (z := cE (vkd (cDm N mt 40 q (rDt zc)).1) ((cDm N mt 40 q (rDt zc)).1).toInt32 (rDp zc + 1) (cDt (cDm N mt 40 q (rDt zc)).2 zc)) (la := la)
  have sz : (cQt N mt 40 la q zc).2.1 = zc.2.1 := g1.1
  have szlm : rLm (cQt N mt 40 la q zc) = rLm zc := by
    unfold cQt cGb
    split <;> rfl
  have szdt : rDt (cQt N mt 40 la q zc) = (cDm N mt 40 q (rDt zc)).2 := by
    unfold cQt cGb
    split <;> rfl
  have X : XO N (n + 1) b zc (cQt N mt 40 la q zc) yc yc := ⟨Ce.2.2.2.1.2 hn, mef_rf, ⟨(s_of sz).1, (s_of sz).2.1, by rw [sz]; exact hkc⟩, ⟨g1.2.2.2.1.trans Pc.2.2.2.1, by rw [szlm]; exact Pc.2.2.2.2⟩, sre_same Pc.2.2.1 sz rfl rfl rfl rfl, uq_same (s_of sz).2.2 (fun _ => rfl), rfl⟩
  subst hzc
  subst hyc
  refine so_ct nk ht h6 hn1 hb hk hP hn0 hpne X (by omega) (by rw [← cd0]; exact Ce'.2.2.2.2) (fun G gs H g1 g2 hpd c l hcl fw ch => ?_)
  refine ⟨fun Q qq => qq ?_, fun M h1 h2 => by omega⟩
  obtain ⟨⟨q1, q2, q3, q4⟩, q5, q6, q7⟩ := cod_l (z0 := z) gs ht h6 hn1 hb hpd (by rw [← cd0]; exact Ce'.2.2.2.2) H.1.2 ch fw
  rw [hl] at hcl
  have hll : l = [q - 1] := by
    injection hcl with _ h2
    exact h2.symm
  subst hll
  rw [hw] at q7
  have e : rCd (cQt N mt 40 la q (cCt N n z)) = rCd (cCt N n z) ++ (vkd (cDm N mt 40 q (rDt (cCt N n z))).1, ((cDm N mt 40 q (rDt (cCt N n z))).1).toInt32) :: (if la then [(34, 0)] else []) := by
    unfold cQt
    rw [gb_cd]
    show (rCd (cCt N n z) ++ [_]) ++ _ = _
    rw [List.append_assoc]; rfl
  obtain ⟨o1, o2⟩ := cd_at H e
  have gbb := gb_at H e
  rw [cd0] at o1 o2 gbb
  refine ⟨q1, q2, q3, q4, Or.inr ⟨q5, c, _, 1, q6, q7, Or.inl ⟨rfl, q - 1, rfl, ?_⟩⟩⟩
  -- the datum
  have hqN : q < N.1 := by omega
  obtain ⟨k1, k2, k3, k4, k5⟩ := gs.2.1 q (by omega) hqN
  have hpn := gs.1.1
  have key : ∃ kk cc, (cDm N mt 40 q (rDt (cCt N n z))).1 = vof kk cc ∧ pDv G (q - 1) = vof kk cc ∧ pDl G (q - 1) ∧ (kk = 1 ∨ kk = 2 ∨ kk = 3 ∨ kk = 4 ∨ kk = 5 ∨ kk = 6) := by
    rcases nk.1 q (by omega) hqN with hk1 | ⟨hk2 | hk2, hv2⟩ | ⟨hk5, _⟩ | hk6
    · refine ⟨1, nC N q, ?_, ?_, ⟨by omega, Or.inl (by rw [k1, hk1]; rfl)⟩, Or.inl rfl⟩
      · rw [cDm, if_neg (by rw [hk1]; decide), if_pos (by rw [hk1]; decide), hk1]
      · unfold pDv
        rw [if_pos (by rw [k1, hk1]; rfl), k3 hk1]
    · refine ⟨2, 0, ?_, ?_, ⟨by omega, Or.inr (Or.inr (Or.inl (by rw [k1, hk2]; rfl)))⟩, Or.inr (Or.inl rfl)⟩
      · rw [cDm, if_neg (by rw [hk2]; decide), if_pos (by rw [hk2]; decide), hk2, hv2]
      · unfold pDv
        rw [k1, hk2, if_neg (by decide), if_neg (by decide), if_pos (by decide)]
    · refine ⟨3, 0, ?_, ?_, ⟨by omega, Or.inr (Or.inl (by rw [k1, hk2]; rfl))⟩, Or.inr (Or.inr (Or.inl rfl))⟩
      · rw [cDm, if_neg (by rw [hk2]; decide), if_pos (by rw [hk2]; decide), hk2, hv2]
      · unfold pDv
        rw [k1, hk2, if_neg (by decide), if_pos (by decide)]
    · refine ⟨5, nI (mt.idxOf (nCn N q)), ?_, ?_, ⟨by omega, Or.inr (Or.inr (Or.inr (Or.inl (by rw [k1, hk5]; rfl))))⟩, Or.inr (Or.inr (Or.inr (Or.inr (Or.inl rfl))))⟩
      · rw [cDm, if_pos hk5]
      · unfold pDv
        rw [k1, hk5, if_neg (by decide), if_neg (by decide), if_neg (by decide), if_pos (by decide), k2 hk5]
    · have k1' : G.1 21 (q - 1) = 4 := by rw [k1, hk6]; rfl
      cases g with
      | zero => exact htq.elim
      | succ g' =>
        obtain ⟨p1, p2, p3⟩ := tr_pts htq hk6 hbb
        by_cases cp : pts N q = []
        · have hm : G.1 24 (q - 1) = -1 := by rw [k4, p2, cp]; rfl
          refine ⟨4, 0, ?_, ?_, ⟨by omega, Or.inr (Or.inr (Or.inr (Or.inr ⟨k1', Or.inl hm⟩)))⟩, Or.inr (Or.inr (Or.inr (Or.inl rfl)))⟩
          · rw [cDm, if_neg (by rw [hk6]; decide), if_neg (by rw [hk6]; decide), if_pos cp]
          · unfold pDv
            rw [k1', if_neg (by decide), if_neg (by decide), if_neg (by decide), if_neg (by decide), if_pos hm]
        · have hv : (cDm N mt 40 q (rDt (cCt N n z))) = (vof 6 (nI (rDt (cCt N n z)).length), cDmL (cDm N mt 39) (pts N q) (rDt (cCt N n z)).length (rDt (cCt N n z) ++ (q, none) :: List.replicate (2 * (pts N q).length - 1) (0, none))) := by
            rw [cDm, if_neg (by rw [hk6]; decide), if_neg (by rw [hk6]; decide), if_neg cp]
          have tag : ((cDm N mt 40 q (rDt (cCt N n z))).2[(rDt (cCt N n z)).length]?).map (·.1) = some q := by
            rw [hv]
            dsimp only
            rw [dml_tag (R := fun u w => Tr g' N u w ∧ w < 2000000000) (X := nX N) (fun p m dt h => (dm_e 39 g' p m dt h.1 (by omega) h.2).1) (pts N q) (q + 1) b _ _ _ (frs_cg _ _ _ p3 (fun u w hu hw hr => ⟨hr, by omega⟩) (fun _ _ _ => rfl)) (by rw [List.length_append, List.length_cons]; omega), List.getElem?_append_right (Nat.le_refl _), Nat.sub_self]
            rfl
          obtain ⟨x, hx1, hx2⟩ := Option.map_eq_some_iff.mp tag
          have hds2 : pDs G (q - 1) = (rDt (cCt N n z)).length ∧ (rDt (cCt N n z)).length < 100000 := by
            obtain ⟨x1, x2⟩ := x
            have hx2 : x1 = q := hx2
            subst hx2
            exact H.2.2.2.2.2.2 _ x1 x2 (Nat.le_refl _) (by rw [szdt]; exact hx1) (by omega)
          obtain ⟨hds, hds3⟩ := hds2
          have hm : ¬ G.1 24 (q - 1) = -1 := by
            rw [k4, p2]
            match hpq : pts N q, cp with
            | c0 :: t0, _ =>
              rw [hpq] at p3
              obtain ⟨r0, mm, _, r1, r2, _⟩ := p3
              show ¬ dnI (nI c0) = -1
              rw [dnI_nI (by omega) (by omega)]
              intro e
              have := nI_nl (n := c0 - 1) (by omega)
              rw [e] at this
              exact this (by decide)
          refine ⟨6, nI (rDt (cCt N n z)).length, by rw [hv], ?_, ⟨by omega, Or.inr (Or.inr (Or.inr (Or.inr ⟨k1', Or.inr (by rw [hds]; exact hds3)⟩)))⟩, Or.inr (Or.inr (Or.inr (Or.inr (Or.inr rfl))))⟩
          unfold pDv
          rw [k1', if_neg (by decide), if_neg (by decide), if_neg (by decide), if_neg (by decide), if_neg hm, hds]
  obtain ⟨kk, cc, e1, e2, e3, e4⟩ := key
  refine ⟨e3, ?_, ?_, gbb⟩
  · rw [o1, o2, e1, vof_kd, vof_lo, e2]
  · rw [o1, e1, vof_kd]
    exact e4
end SMD
