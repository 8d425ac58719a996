/-! BUILD. The two compilers against each other: uses of names -/
/-- what the program under proof emits for a name -/
def Vop (N : NS) (j o : Nat) (z z2 : CR) (u v : Int32) : Prop := (cFd j (rSc z) = none ∧ u = nI (o + 2) ∧ v = dA N j) ∨ (∃ b, cFd j (rSc z) = some b ∧ (scD z b).2.2 = rBd z ∧ u = nI o ∧ v = nI (scD z b).2.1) ∨ ∃ b k, cFd j (rSc z) = some b ∧ (scD z b).2.2 < rBd z ∧ u = nI (o + 1) ∧ v = nI k ∧ (rKp z2 (rBd z))[k]? = some b
section SM5
variable {N : NS} {mt : List Nat} {z z1 z2 z' : CR} {y yU yF : MR} {n b g : Nat} {G : PG} {S : Shp} {la : Bool}
theorem nd_idx {l : List Nat} {k x : Nat} (h : l.Nodup) (e : l[k]? = some x) : l.idxOf x = k := by
  have hk := g_lt e
  have h1 : x ∈ l := List.mem_of_getElem? e
  have h2 := List.idxOf_lt_length_iff.mpr h1
  have h3 : l[l.idxOf x]? = some x := by rw [List.getElem?_eq_getElem h2, List.getElem_idxOf]
  exact (List.getElem?_inj h2 h).mp (h3.trans e.symm)
theorem vrb_of {o pc : Nat} {u v : Int32} (gs : GS N mt G) (hA : SRa z y) (hD : SRd S z y) (hm : Vmn N n z y yU) (hc : Vop N (nCn N n) o z z2 u v) (o1 : G.1 1 pc = u) (o2 : G.1 2 pc = v) (m1 : G.1 26 (n - 1) = mMe yU (n - 1)) (m2 : G.1 27 (n - 1) = mNu yU (n - 1)) (hL : mAr y (mLv y) ≤ pLm G) (hpD : S.length ≤ pDm G (mAr y (mLv y))) (hpS : mLs y (mAr y (mLv y)) ≤ pSn G (mAr y (mLv y))) (hkk : ∀ (k x : Nat), 1 ≤ mLv y → (rKp z2 (mLv y))[k]? = some x → k < pFr G (mAr y (mLv y)) ∧ pKp G (mAr y (mLv y)) k = (fes yF (mAr y (mLv y))).idxOf x) (hnd : 1 ≤ mLv y → (fes yF (mAr y (mLv y))).Nodup) (hpf : fes yU (mAr y (mLv y)) <+: fes yF (mAr y (mLv y))) : Vrb G (mAr y (mLv y)) S (n - 1) pc o := by
  obtain ⟨b1, b2, b3⟩ := gs.2.2.2.2.1 _ hL
  have ebd : rBd z = mLv y := hA.1.2
  rcases hm with ⟨h1, h2, h3, h4⟩ | ⟨x, h1, h2, h3, h4⟩ | ⟨x, k, h1, h2, h3, h4, h5⟩
  · rcases hc with ⟨c1, rfl, rfl⟩ | ⟨x, c1, _⟩ | ⟨x, k, c1, _⟩
    · refine Or.inr (Or.inr ⟨by rw [m1, h3], (gdf N).idxOf (nCn N n), by rw [gs.2.2.2.1]; exact List.idxOf_lt_length_iff.mpr h2, o1, ?_, ?_⟩)
      · rw [o2]; exact if_pos h2
      · rw [m2, h4]; exact if_pos h2
    · rw [h1] at c1; cases c1
    · rw [h1] at c1; cases c1
  · rcases hc with ⟨c1, _⟩ | ⟨x', c1, c2, rfl, rfl⟩ | ⟨x', k, c1, c2, _⟩
    · rw [h1] at c1; cases c1
    · rw [h1] at c1
      injection c1 with c1
      subst c1
      have hS := hD.2.1 x (fd_lt h1).1 h2
      have hs1 := g_lt hS
      have hs2 := hD.2.2.1 _ (List.mem_of_getElem? hS)
      have hs3 := hD.2.2.2
      exact Or.inl ⟨by rw [m1, h3], _, _, by omega, by omega, o1, o2, by rw [m2, h4], hS⟩
    · rw [h1] at c1
      injection c1 with c1
      subst c1
      omega
  · rcases hc with ⟨c1, _⟩ | ⟨x', c1, c2, _⟩ | ⟨x', k', c1, c2, rfl, rfl, c3⟩
    · rw [h1] at c1; cases c1
    · rw [h1] at c1
      injection c1 with c1
      subst c1
      omega
    · rw [h1] at c1
      injection c1 with c1
      subst c1
      rw [ebd] at c3
      obtain ⟨k1, k2⟩ := hkk k' x (by omega) c3
      refine Or.inr (Or.inl ⟨by rw [m1, h3], k', k1, o1, o2, ?_⟩)
      rw [m2, h4, k2, nd_idx (hnd (by omega)) (pf_get hpf h5)]
theorem sra_y {y1 : MR} (h : SRa z y) (e1 : y1.2.1 = y.2.1) (e2 : mLa y ≤ mLa y1) : SRa z y1 := by
  obtain ⟨h1, h2, h3, h4, h5⟩ := h
  have a1 : mSg y1 = mSg y := congrArg (fun t => t.1) e1
  have a2 : mLv y1 = mLv y := congrArg (fun t => t.2.1) e1
  have a3 : mAr y1 = mAr y := congrArg (fun t => t.2.2.1) e1
  have a4 : sgD y1 = sgD y := by funext i; unfold sgD; rw [a1]
  unfold SRa AI
  rw [a1, a2, a3, a4]
  exact ⟨h1, h2, h3, fun l hl => Nat.le_trans (h4 l hl) e2, h5⟩
/-- a name by itself -/
theorem name_sim (ht : Tr (g + 1) N n b) (hn1 : 1 ≤ n) (hb : b ≤ N.1) (hk : KI z.2.1) (hP : SRp S z y) (h5 : nK N n = 5) (hn : rFl (cGb la (cCt N n (cNm N n z))) = none) : SO N mt (g + 1) n b la S z (cGb la (cCt N n (cNm N n z))) y (mUs N n (mCt N n y)) := by
  obtain ⟨hA, hD, hE, hf, hl⟩ := hP
  have hlt := tr_lt _ _ _ _ ht
  obtain ⟨g1, g2, g3, g4, g5, g6, g7⟩ := gb_e (z := cCt N n (cNm N n z)) (la := la)
  have hn' : rFl (cCt N n (cNm N n z)) = none := by rw [← g2]; exact hn
  have hn0 : rFl (cNm N n z) = none := ef_no (ef_Ct (N := N) (z := cNm N n z) (n := n)).1 hn'
  obtain ⟨v1, v2, v3, v4, v5⟩ := cNm_e (N := N) (n := n) (a := n) hk
  obtain ⟨w1, w2, w3, w4⟩ := v5 hn0
  obtain ⟨⟨c1, c2, c3, c4, c5⟩, c6, c7, c8, c9, c10⟩ := ct_sim (y := y) hn' (w3.trans hf)
  have c10' : 30 ≤ nCn N n ∨ (10 ≤ nCn N n ∧ nCn N n < 30) := by
    by_cases c : nCn N n < 10
    · exfalso
      unfold cNm at hn0
      rw [if_pos c] at hn0
      exact tl_fl hn0
    · omega
  have hu2 : ∀ {zz : CR}, (cGb la (cCt N n zz)).1.2 = (cCt N n zz).1.2 := fun {zz} => by
    unfold cGb
    split <;> rfl
  rcases c10' with h30 | ⟨h10, h30⟩
  · -- a name of the program
    have hm : cMn N (nCn N n) z = true := Classical.byContradiction fun c => by
      unfold cNm at hn0
      rw [if_neg (by omega), if_neg (by omega), if_neg c] at hn0
      exact tl_fl hn0
    have eN : cNm N n z = cVr N (nCn N n) 16 (rDp z + 1) z := by
      unfold cNm
      rw [if_neg (by omega), if_neg (by omega), if_pos hm]
    rw [eN] at g1 g2 g3 g4 g5 g6 g7 hn' hn0 v1 v2 v3 v4 w1 w2 w3 w4 c6 c7 c8 c9 c10 ⊢
    have hA1 : SRa z (mCt N n y) := sra_y hA c4 (Nat.le_of_eq (congrArg (fun t => t.1) c5).symm)
    have har : mAr (mCt N n y) = mAr y := congrArg (fun t => t.2.2.1) c4
    have hlv : mLv (mCt N n y) = mLv y := congrArg (fun t => t.2.1) c4
    have hfe : mFe (mCt N n y) = mFe y := congrArg (fun t => t.2.2.2.2) c5
    have hla : mLa (mCt N n y) = mLa y := congrArg (fun t => t.1) c5
    have hsg : mSg (mCt N n y) = mSg y := congrArg (fun t => t.1) c4
    have hfs : fes (mCt N n y) = fes y := by funext M; unfold fes; rw [hfe]
    have hE1 : SRe z (mCt N n y) := sre_same hE rfl hsg hlv har hfe
    obtain ⟨u1, u2, u3, u4, u5, u6⟩ := us_sim (n := n) hA1 (fun l a b => (hE1 l a b).1) h30 hm
    obtain ⟨r1, uu, vv, r2, r3⟩ := vr_sim (N := N) (j := nCn N n) (o := 16) (dp := rDp z + 1) hk
    have kpe : rKp (cGb la (cCt N n (cVr N (nCn N n) 16 (rDp z + 1) z))) = rKp (cVr N (nCn N n) 16 (rDp z + 1) z) := by rw [(s_of g1).2.2, (s_of c8).2.2]
    have sce : rSc (cGb la (cCt N n (cVr N (nCn N n) 16 (rDp z + 1) z))) = rSc z := by rw [(s_of g1).1, (s_of c8).1, v1]
    obtain ⟨m1, m2, m3, m4, m5, m6⟩ := us_e (N := N) (a := n) (b := n + 1) (y := mCt N n y) (n := n) ⟨Nat.le_refl _, Nat.lt_succ_self _⟩ hn1
    have lvU : mLv (mUs N n (mCt N n y)) = mLv y := m1.2.1.trans hlv
    have arU : ∀ l, l ≤ mLv y → mAr (mUs N n (mCt N n y)) l = mAr y l := fun l hl => (m1.2.2.1 l (by omega)).trans (by rw [har])
    have sgU : sgD (mUs N n (mCt N n y)) = sgD y := by funext i; unfold sgD; rw [m1.1, hsg]
    have scU : scD (cGb la (cCt N n (cVr N (nCn N n) 16 (rDp z + 1) z))) = scD z := by funext i; unfold scD; rw [sce]
    rw [hlv] at u1 u2
    rw [har, hfs] at u2
    have SR1 : SRe (cGb la (cCt N n (cVr N (nCn N n) 16 (rDp z + 1) z))) (mUs N n (mCt N n y)) := fun l l1 l2 => by
      rw [lvU] at l2
      obtain ⟨f1, f2⟩ := u1 l l1 l2
      refine ⟨⟨f1, ?_⟩, fun x hx => ?_⟩
      · rw [sce, scU]; exact f2
      · rw [kpe] at hx
        rw [arU l l2, u2 l l2 x]
        rcases (r1 l (by rw [hA.1.2]; exact l2) x).mp hx with hx | hx
        · exact Or.inl ((hE l l1 l2).2 x hx)
        · exact Or.inr hx
    refine ⟨⟨by rw [g4, c6, u4, c2, w3, ← hf], ?_⟩, SR1, ?_, u3.trans c1, fun G gs H => ⟨?_, fun M h1 h2 => ?_⟩⟩
    · have e1 : rLm (cGb la (cCt N n (cVr N (nCn N n) 16 (rDp z + 1) z))) = rLm (cVr N (nCn N n) 16 (rDp z + 1) z) := by
        have := hu2 (zz := cVr N (nCn N n) 16 (rDp z + 1) z)
        rw [c7] at this
        exact congrArg (fun t => t.2.1) this
      have e2 : rLm (cVr N (nCn N n) 16 (rDp z + 1) z) = rLm z := by
        unfold cVr
        split
        · rfl
        · split <;> rfl
      rw [e1, e2, u5, hla]; exact hl
    · exact uq_kp hA.1.2 (fun l hl x => by rw [kpe]; exact r1 l hl x) u2
    · have e : rCd (cGb la (cCt N n (cVr N (nCn N n) 16 (rDp z + 1) z))) = rCd z ++ (uu, vv) :: (if la then [(34, 0)] else []) := by
        rw [gb_cd, (u_of c7).1, r2, List.append_assoc]; rfl
      obtain ⟨o1, o2⟩ := cd_at H e
      have hx2 := H.2.2.1.1
      have hx3 := H.2.2.1.2
      have aiL := hA.2.2.2.1 (mLv y) (Nat.le_refl _)
      refine lf_cod gs H e hn1 (by omega) hD.1 (by omega) ?_
      refine Or.inr (Or.inr (Or.inr (Or.inr ⟨?_, ?_⟩)))
      · rw [(gs.2.1 n hn1 (by omega)).1, h5]; rfl
      · have hm2 : Vmn N n z y (mUs N n (mCt N n y)) := by
          unfold Vmn at u6 ⊢
          rw [har, hlv, show sgD (mCt N n y) = sgD y from by funext i; unfold sgD; rw [hsg]] at u6
          exact u6
        have hls : mLs y (mAr y (mLv y)) ≤ mLs (mUs N n (mCt N n y)) (mAr y (mLv y)) := by
          have := (m4 (mAr y (mLv y)) (by rw [hla]; exact aiL)).2.2.1
          rw [show mLs (mCt N n y) = mLs y from congrArg (fun t => t.2.2.2.1) c5] at this
          exact this
        refine vrb_of gs hA hD hm2 (z2 := cVr N (nCn N n) 16 (rDp z + 1) z) r3 o1 o2 (H.2.1 n (Nat.le_refl _) hlt).1 (H.2.1 n (Nat.le_refl _) hlt).2 ?_ ?_ ?_ (fun k x h1 h2 => H.2.2.2.1 k x h1 (by rw [kpe]; exact h2)) (fun h1 => ?_) (List.prefix_refl _)
        · have : mLa (mUs N n (mCt N n y)) = mLa y := u5.trans hla
          omega
        · have := hD.1
          omega
        · omega
        · have := (SR1 (mLv y) h1 (by rw [lvU]; exact Nat.le_refl _)).1.1
          rw [arU _ (Nat.le_refl _)] at this
          exact this
    · rw [u5, hla] at h2
      omega
  · -- a word of procedures
    have eN : cNm N n z = cE 8 (nI (nCn N n - 10)) (rDp z + 1) z := by
      unfold cNm
      rw [if_neg (by omega), if_pos h30]
    have eU : mUs N n (mCt N n y) = mMn n 4 (nI (nCn N n + 1)) (mCt N n y) := by
      unfold mUs
      rw [if_neg (by omega), if_pos h30]
    rw [eN] at g1 g2 g3 g4 g5 g6 g7 hn' hn0 v1 v2 v3 v4 w1 w2 w3 w4 c6 c7 c8 c9 c10 ⊢
    rw [eU]
    refine ⟨⟨by rw [g4, c6]; show _ = mFm (mCt N n y); rw [c2, ← hf]; rfl, ?_⟩, ?_, ?_, c1, fun G gs H => ⟨?_, fun M h1 h2 => ?_⟩⟩
    · have e1 : rLm (cGb la (cCt N n (cE 8 (nI (nCn N n - 10)) (rDp z + 1) z))) = rLm z := by
        have := hu2 (zz := cE 8 (nI (nCn N n - 10)) (rDp z + 1) z)
        rw [c7] at this
        exact congrArg (fun t => t.2.1) this
      have e2 : mLa (mMn n 4 (nI (nCn N n + 1)) (mCt N n y)) = mLa y := congrArg (fun t => t.1) c5
      rw [e1, e2]; exact hl
    · exact sre_same hE (by rw [g1, c8]; rfl) (congrArg (fun t => t.1) c4) (congrArg (fun t => t.2.1) c4) (congrArg (fun t => t.2.2.1) c4) (congrArg (fun t => t.2.2.2.2) c5)
    · refine uq_same ?_ (fun M => ?_)
      · rw [(s_of g1).2.2, (s_of c8).2.2]; rfl
      · unfold fes
        rw [show mFe (mMn n 4 (nI (nCn N n + 1)) (mCt N n y)) = mFe y from congrArg (fun t => t.2.2.2.2) c5]
    · have e : rCd (cGb la (cCt N n (cE 8 (nI (nCn N n - 10)) (rDp z + 1) z))) = rCd z ++ (8, nI (nCn N n - 10)) :: (if la then [(34, 0)] else []) := by
        rw [gb_cd, (u_of c7).1]
        show (rCd z ++ [_]) ++ _ = _
        rw [List.append_assoc]; rfl
      obtain ⟨o1, o2⟩ := cd_at H e
      obtain ⟨m1, m2⟩ := H.2.1 n (Nat.le_refl _) hlt
      have m1 : G.1 26 (n - 1) = 4 := m1.trans (if_pos rfl)
      have m2 : G.1 27 (n - 1) = nI (nCn N n + 1) := m2.trans (if_pos rfl)
      refine lf_cod gs H e hn1 (by omega) hD.1 (by omega) ?_
      refine Or.inr (Or.inr (Or.inr (Or.inl ⟨?_, m1, nCn N n - 10, by omega, o1, o2, ?_⟩)))
      · rw [(gs.2.1 n hn1 (by omega)).1, h5]; rfl
      · rw [m2, show nCn N n - 10 + 11 = nCn N n + 1 by omega]
    · have e2 : mLa (mMn n 4 (nI (nCn N n + 1)) (mCt N n y)) = mLa y := congrArg (fun t => t.1) c5
      rw [e2] at h2
      omega
end SM5
