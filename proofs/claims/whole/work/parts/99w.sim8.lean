/-! BUILD. The two compilers against each other: calls, begin, and, or, if -/
/-- the tree is sound: kinds and contents -/
def Nok (N : NS) (mt : List Nat) : Prop := (∀ i, 1 ≤ i → i < N.1 → nKc mt (nK N i) (nC N i)) ∧ (∀ j, j ∈ mt → j < 100000) ∧ N.1 ≤ 6201
section SM9
variable {N : NS} {mt : List Nat} {z z1 z2 z' zm : CR} {y y1 y2 y' ym : MR} {n b g a m n1 b1 : Nat} {G : PG} {S : Shp} {la : Bool}
variable {F : Nat → Bool → CR → CR} {Fm : Nat → MR → MR}
theorem nok_m (h : Nok N mt) {i : Nat} (h1 : 1 ≤ i) (h2 : i < N.1) (h5 : nK N i = 5) : nCn N i ∈ mt := by
  rcases h.1 i h1 h2 with c | ⟨c | c, _⟩ | ⟨_, j, hj, e⟩ | c
  · rw [h5] at c; exact absurd c (by decide)
  · rw [h5] at c; exact absurd c (by decide)
  · rw [h5] at c; exact absurd c (by decide)
  · have : nCn N i = j := by
      unfold nCn
      rw [e, tn_nI (by have := h.2.1 j hj; omega)]
    rw [this]; exact hj
  · rw [h5] at c; exact absurd c (by decide)
/-- the count of a form -/
theorem xo_ct (hn : rFl (cCt N n z) = none) (hk : KI z.2.1) (hP : SRp S z y) : XO N n (n + 1) z (cCt N n z) y (mCt N n y) ∧ SRp S (cCt N n z) (mCt N n y) ∧ rCd (cCt N n z) = rCd z ∧ mAr (mCt N n y) (mLv (mCt N n y)) = mAr y (mLv y) ∧ mLa (mCt N n y) = mLa y := by
  obtain ⟨hA, hD, hE, hf, hl⟩ := hP
  obtain ⟨⟨c1, c2, c3, c4, c5⟩, c6, c7, c8, c9, c10⟩ := ct_sim (y := y) hn hf
  have har : mAr (mCt N n y) = mAr y := congrArg (fun t => t.2.2.1) c4
  have hlv : mLv (mCt N n y) = mLv y := congrArg (fun t => t.2.1) c4
  have hfe : mFe (mCt N n y) = mFe y := congrArg (fun t => t.2.2.2.2) c5
  have hla : mLa (mCt N n y) = mLa y := congrArg (fun t => t.1) c5
  have hsg : mSg (mCt N n y) = mSg y := congrArg (fun t => t.1) c4
  have hsl : mSl (mCt N n y) = mSl y := congrArg (fun t => t.2.2.2) c4
  have hls : mLs (mCt N n y) = mLs y := congrArg (fun t => t.2.2.2.1) c5
  have hE1 : SRe (cCt N n z) (mCt N n y) := sre_same hE c8 hsg hlv har hfe
  have e1 := ef_Ct (N := N) (z := z) (n := n)
  have hfm : rFm (cCt N n z) = mFm (mCt N n y) := by rw [c6, c2, hf]
  have hlm : (rLm (cCt N n z)).length = mLa (mCt N n y) := by rw [(u_of c7).2.2.1, hla]; exact hl
  have hA1 : SRa (cCt N n z) (mCt N n y) := by
    have h2 := sra_y hA c4 (Nat.le_of_eq hla.symm)
    have s1 : rSc (cCt N n z) = rSc z := (s_of c8).1
    have s2 : rBd (cCt N n z) = rBd z := (s_of c8).2.1
    have s3 : scD (cCt N n z) = scD z := by funext i; unfold scD; rw [s1]
    unfold SRa at h2 ⊢
    rw [s1, s2, s3]
    exact h2
  have hD1 : SRd S (cCt N n z) (mCt N n y) := by
    have s1 : rSc (cCt N n z) = rSc z := (s_of c8).1
    have s2 : rBd (cCt N n z) = rBd z := (s_of c8).2.1
    have s3 : scD (cCt N n z) = scD z := by funext i; unfold scD; rw [s1]
    have s4 : sgD (mCt N n y) = sgD y := by funext i; unfold sgD; rw [hsg]
    unfold SRd at hD ⊢
    rw [s1, s2, s3, s4, hlv, hsl, hls, har, c9]
    exact hD
  refine ⟨⟨e1.1.2 hn, mef_Ct ⟨Nat.le_refl _, Nat.lt_succ_self _⟩, ⟨(s_of c8).1, (s_of c8).2.1, by rw [c8]; exact hk⟩, ⟨hfm, hlm⟩, hE1, uq_same (s_of c8).2.2 (fun M => by unfold fes; rw [hfe]), c1⟩, ⟨hA1, hD1, hE1, hfm, hlm⟩, (u_of c7).1, by rw [har, hlv], hla⟩
/-- a form that is a list: what is the same for all -/
theorem so_ct {z0 : CR} {y0 : MR} (nk : Nok N mt) (ht : Tr (g + 1) N n b) (h6 : nK N n = 6) (hn1 : 1 ≤ n) (hb : b ≤ N.1) (hk : KI z0.2.1) (hP : SRp S z0 y0) (hn0 : rFl (cCt N n z0) = none) (hp : pts N n ≠ []) (X : XO N (n + 1) b (cCt N n z0) z' (mCt N n y0) y') (hdx : rDp z0 + 1 ≤ rDx z') (_hlt : (rCd z0).length < (rCd z').length)
    (hc : ∀ G, GS N mt G → HG G (cCt N n z0) z' (mCt N n y0) y' (n + 1) b → G.1 26 (n - 1) = mMe y' (n - 1) → G.1 27 (n - 1) = mNu y' (n - 1) → S.length < pDm G (mAr y0 (mLv y0)) → ∀ c l, (pts N n).map (· - 1) = c :: l → Fw G c (wrd N n) → Chn G (G.1 24 (n - 1)) (c :: l) → (∀ (Q : Prop), (Cod G (mAr y0 (mLv y0)) (g + 1) (n - 1) la S (rCd z0).length (rCd z').length → Q) → Q) ∧ ∀ M, mLa y0 < M → M ≤ mLa y' → WGM G M) :
    SO N mt (g + 1) n b la S z0 z' y0 y' := by
  obtain ⟨Xc, Pc, cd0, hL, hla⟩ := xo_ct (N := N) (n := n) hn0 hk hP
  have hlt' := tr_lt _ _ _ _ ht
  have X0 := xo_tr Xc X (Nat.le_succ _) (by omega)
  refine ⟨X0.2.2.2.1, X0.2.2.2.2.1, X0.2.2.2.2.2.1, X0.2.2.2.2.2.2, fun G gs H => ?_⟩
  have Hs := hg_snd H Xc X (Nat.le_succ _)
  obtain ⟨m1, m2⟩ := H.2.1 n (Nat.le_refl _) hlt'
  have hpd := H.2.2.1.1
  match hpp : pts N n, hp with
  | c :: l, _ =>
    have h3 := tr_pts ht h6 (by have := nk.2.2; omega)
    rw [hpp] at h3
    obtain ⟨e0, mm, e1, e2, e3, _⟩ := h3.2.2
    have ch := chn_n gs ht h6 hn1 hb
    rw [hpp] at ch
    have fw := fw_of gs hpp (by omega) (by omega) (fun h5 => nok_m nk (by omega) (by omega) h5)
    obtain ⟨q1, q2⟩ := hc G gs Hs m1 m2 (by have := hP.2.1.1; omega) (c - 1) (l.map (· - 1)) (by rw [hpp]; rfl) fw ch
    exact ⟨q1 _ id, q2⟩
/-- code of a list -/
theorem cod_l {z0 : CR} {L c e : Nat} {l : List Nat} (gs : GS N mt G) (ht : Tr (g + 1) N n b) (h6 : nK N n = 6) (hn1 : 1 ≤ n) (hb : b ≤ N.1) (hS : S.length < pDm G L) (hlt : (rCd z0).length < e) (he : e ≤ pCz G) (ch : Chn G (G.1 24 (n - 1)) (c :: l)) (fw : Fw G c (wrd N n)) : (n - 1 < pNn G ∧ S.length < pDm G L ∧ (rCd z0).length < e ∧ e ≤ pCz G) ∧ G.1 21 (n - 1) = 4 ∧ Chn G (G.1 24 (n - 1)) (c :: l) ∧ Fw G c (wrd N n) := by
  have := tr_lt _ _ _ _ ht
  have h2 := gs.1.1
  refine ⟨⟨by omega, hS, hlt, he⟩, ?_, ch, fw⟩
  rw [(gs.2.1 n hn1 (by omega)).1, h6]
  rfl
theorem call_sim (nk : Nok N mt) (hF : CFs N g F) (hM : MFs N g Fm) (hS : SFs N mt g F Fm) (ht : Tr (g + 1) N n b) (h6 : nK N n = 6) (hn1 : 1 ≤ n) (hb : b ≤ N.1) (hk : KI z.2.1) (hP : SRp S z y) (hw : wrd N n = 0) (hl : 1 ≤ (pts N n).length ∧ (pts N n).length ≤ 9) (hn : rFl (cCl F la (pts N n) (cCt N n z)) = none) : SO N mt (g + 1) n b la S z (cCl F la (pts N n) (cCt N n z)) y (mBo Fm (pts N n) (mCt N n y)) := by
  have hbb : b < 2000000000 := by have := nk.2.2; omega
  have hsq := frs_sqn _ _ _ (tr_pts ht h6 hbb).2.2 hbb
  have hpne : pts N n ≠ [] := fun e => by rw [e] at hl; simp at hl
  have hkc : KI (cCt N n z).2.1 := by rw [(ef_Ct (N := N) (z := z) (n := n)).2.1]; exact hk
  have hn2 : rFl ((pts N n).foldl (fun z a => F a false z) (cCt N n z)) = none := hn
  have hn0 : rFl (cCt N n z) = none := ef_no (cl_e hF (pts N n) (n + 1) b (cCt N n z) hsq hkc).2.2.2.1 hn2
  obtain ⟨Xc, Pc, cd0, hL, hla⟩ := xo_ct (N := N) (n := n) hn0 hk hP
  obtain ⟨X2, D2, G2⟩ := seq_sim hF hM hS (pts N n) (n + 1) b S (cCt N n z) (mCt N n y) hsq (by omega) hb hkc Pc hn2
  have Ce := (call_e hF (la := la) hsq hpne hkc).2.2.2.2 hn
  have dpc : rDp (cCt N n z) = rDp z := (ef_Ct (N := N) (z := z) (n := n)).2.2.1
  have X3 : XO N (n + 1) b (cCt N n z) (cCl F la (pts N n) (cCt N n z)) (mCt N n y) (mBo Fm (pts N n) (mCt N n y)) := xo_E X2
  refine so_ct nk ht h6 hn1 hb hk hP hn0 hpne X3 (by omega) (by rw [← cd0]; exact Ce.2.2.2.2) (fun G gs H m1 m2 hpd c l hcl fw ch => ⟨fun Q q => q ?_, ?_⟩)
  · have X2r : XO N b b ((pts N n).foldl (fun z a => F a false z) (cCt N n z)) (cCl F la (pts N n) (cCt N n z)) (mBo Fm (pts N n) (mCt N n y)) (mBo Fm (pts N n) (mCt N n y)) := xo_E (xo_rf (S := S ++ List.replicate (pts N n).length none) X2.2.2.1.2.2 ⟨xo_a Pc X2, D2, X2.2.2.2.2.1, X2.2.2.2.1.1, X2.2.2.2.1.2⟩)
    have Hf := hg_fst H X2 X2r Pc.1 (Nat.le_refl _) (by omega) (Nat.le_refl _)
    obtain ⟨d1, d2⟩ := G2 G gs Hf
    have hop := opz_at (z1 := (pts N n).foldl (fun z a => F a false z) (cCt N n z)) (u := if la then 33 else 32) (v := nI ((pts N n).length - 1)) (dp := rDp ((pts N n).foldl (fun z a => F a false z) (cCt N n z)) + 1 - (pts N n).length) H X2.1.1.1.length_le (List.prefix_refl _) rfl
    obtain ⟨⟨k1, k2, k3, k4⟩, k5, k6, k7⟩ := cod_l (z0 := z) gs ht h6 hn1 hb hpd (by rw [← cd0]; exact Ce.2.2.2.2) H.1.2 ch fw
    rw [hL, cd0, hcl] at d1
    rw [hw] at k7
    have hll : l.length + 1 = (pts N n).length := by
      have := congrArg List.length hcl
      rw [List.length_map, List.length_cons] at this
      omega
    refine ⟨k1, k2, k3, k4, Or.inr ⟨k5, c, l, 0, k6, k7, ?_⟩⟩
    refine Or.inr (Or.inr (Or.inr (Or.inr (Or.inr (Or.inr (Or.inr (Or.inr (Or.inr ⟨rfl, by omega, _, d1, hop.1, ?_, cd_E⟩))))))))
    rw [hop.2, ← hll]
    rfl
  · intro M h1 h2
    have X2r : XO N b b ((pts N n).foldl (fun z a => F a false z) (cCt N n z)) (cCl F la (pts N n) (cCt N n z)) (mBo Fm (pts N n) (mCt N n y)) (mBo Fm (pts N n) (mCt N n y)) := xo_E (xo_rf (S := S ++ List.replicate (pts N n).length none) X2.2.2.1.2.2 ⟨xo_a Pc X2, D2, X2.2.2.2.2.1, X2.2.2.2.1.1, X2.2.2.2.1.2⟩)
    have Hf := hg_fst H X2 X2r Pc.1 (Nat.le_refl _) (by omega) (Nat.le_refl _)
    exact (G2 G gs Hf).2 M (by omega) h2
end SM9
