/-! BUILD. Faults: lambda, and every form -/
section FL6
variable {N : NS} {mt : List Nat} {z z1 z2 z' : CR} {y y1 y2 y' yr : MR} {n b g a m : Nat} {S : Shp} {la : Bool}
variable {F : Nat → Bool → CR → CR} {Fm : Nat → MR → MR}
theorem lambda_flt {ns bo : List Nat} {i : Nat} (pl : Plo N) (hN : N.1 < 2000000000) (hF : CFs N g F) (hM : MFs N g Fm) (hS : SFs N mt g F Fm) (hX : FFs N g F Fm) (hi : Tr g N i m) (hni : n + 1 ≤ i) (hns : ∀ x, x ∈ ns → i < x ∧ x < m) (hpw : ns.Pairwise (fun x x' => nQ N x < nQ N x')) (s2 : Sqn g N bo m b) (hbo : bo ≠ []) (hb : b ≤ N.1) (hn1 : 1 ≤ n) (hk : KI z.2.1) (hP : SRp S z y) (hn : rFl z = none) (kid : ∀ j, n + 1 ≤ j → j < b → nQ N n < nQ N j) : FO N n b (cLa N F la n ns bo z) y (mLam N Fm n ns bo y) := by
  have hmb := seq_le _ _ _ s2
  have him := tr_lt _ _ _ _ hi
  have hlm0 : (rLm z).length = mLa y := hP.2.2.2.2
  have bdc : rBd z = mLv y := hP.1.1.2
  by_cases h120 : 120 ≤ (rLm z).length
  · -- no room
    have eC : cLa N F la n ns bo z = cTl 6 (nQ N n) z := by unfold cLa; rw [if_pos h120]
    have eM : mLam N Fm n ns bo y = mLv1 (mTk (mSg (mN1 n (nI (mLa y + 1)) (mW 6 (nQ N n) y))).length (mBo Fm bo (mBi N (mSg (mN1 n (nI (mLa y + 1)) (mW 6 (nQ N n) y))).length ns (mNl n ns.length (mN1 n (nI (mLa y + 1)) (mW 6 (nQ N n) y)))))) := by
      unfold mLam
      rw [if_pos (by omega)]
      rfl
    rw [eC, eM]
    have M1 := lam_m1 (y1 := mN1 n (nI (mLa y + 1)) (mW 6 (nQ N n) y)) (n := n) (a := n + 1) (ns := ns) hM (by omega) s2 (by omega) (fun x hx => by have := hns x hx; omega) hP.1.2.2.2.1
    intro k p h
    have h1 : rFl (cTl 6 (nQ N n) z) = some (6, nQ N n) := if_pos hn
    rw [h1] at h
    injection h with h
    injection h with h2 h3
    subst h2
    subst h3
    exact ⟨wr_keep M1 rfl kid, n, Nat.le_refl _, by omega, rfl⟩
  have eC : cLa N F la n ns bo z = cGb la (lds [(rCd z).length + 1] (cDD (rDp (cE 26 0 (rDp z + 1) (cE 25 (nI (rLm z).length) (rDp z + 1) (cAl ns.length z)))) (rDx (cE 26 0 (rDp z + 1) (cE 25 (nI (rLm z).length) (rDp z + 1) (cAl ns.length z)))) (cUn (rSc z).length (cLv (cEl (rLm z).length ((rCd z).length + 2) (cBo F true bo (cDD ns.length ns.length (cBn N ns [] 0 (cEn (cE 26 0 (rDp z + 1) (cE 25 (nI (rLm z).length) (rDp z + 1) (cAl ns.length z)))))))))))) := by
    unfold cLa
    rw [if_neg h120]
    rfl
  have eM : mLam N Fm n ns bo y = mLv1 (mTk (mSg y).length (mBo Fm bo (mBi N (mSg y).length ns (mNl n ns.length (mN1 n (nI (mLa y + 1)) y))))) := by
    unfold mLam
    rw [if_neg (by omega)]
  rw [eC, eM]
  have sA : (cE 26 0 (rDp z + 1) (cE 25 (nI (rLm z).length) (rDp z + 1) (cAl ns.length z))).2.1 = z.2.1 := rfl
  have lmA : rLm (cE 26 0 (rDp z + 1) (cE 25 (nI (rLm z).length) (rDp z + 1) (cAl ns.length z))) = rLm z ++ [(0, ns.length, 0, 0, [])] := rfl
  have fmA : rFm (cE 26 0 (rDp z + 1) (cE 25 (nI (rLm z).length) (rDp z + 1) (cAl ns.length z))) = rFm z := rfl
  have flA : rFl (cE 26 0 (rDp z + 1) (cE 25 (nI (rLm z).length) (rDp z + 1) (cAl ns.length z))) = rFl z := rfl
  generalize hzA : cE 26 0 (rDp z + 1) (cE 25 (nI (rLm z).length) (rDp z + 1) (cAl ns.length z)) = zA at *
  have kE : KI (cEn zA).2.1 := by
    have : KI zA.2.1 := by rw [sA]; exact hk
    exact ki_en this
  have scE : rSc (cEn zA) = rSc z := (s_of sA).1
  have bdE : rBd (cEn zA) = rBd z + 1 := by show rBd zA + 1 = _; rw [(s_of sA).2.1]
  have kpE : ∀ l, l ≤ rBd z → rKp (cEn zA) l = rKp z l := fun l hl => by
    show (if l = rBd zA + 1 then [] else rKp zA l) = _
    rw [if_neg (by rw [(s_of sA).2.1]; omega), (s_of sA).2.2]
  have kpE' : rKp (cEn zA) (rBd z + 1) = [] := by
    show (if rBd z + 1 = rBd zA + 1 then [] else rKp zA (rBd z + 1)) = _
    rw [if_pos (by rw [(s_of sA).2.1])]
  have flE : rFl (cEn zA) = none := flA.trans hn
  obtain ⟨Bb, Eb, b1', b2'⟩ := bn_e (N := N) (a := m) ns [] 0 (cEn zA) kE
  have bb := bnd_b Bb
  have R2 := bo_e hF (la := true) bo m b (cDD ns.length ns.length (cBn N ns [] 0 (cEn zA))) hbo s2 bb.2
  have efl : ∀ z2 : CR, rFl (cGb la (lds [(rCd z).length + 1] (cDD (rDp zA) (rDx zA) (cUn (rSc z).length (cLv (cEl (rLm z).length ((rCd z).length + 2) z2)))))) = rFl z2 := fun z2 => by
    rw [(gb_e (la := la)).2.1]
    exact congrArg (fun t => t.2.2) lds_o.1
  obtain ⟨XN, PN⟩ := xo_n1 (N := N) (n := n) (nu := nI (mLa y + 1)) hk hP hn1
  obtain ⟨AL, EL⟩ := open_sim (nu := n) (k := ns.length) (y := mN1 n (nI (mLa y + 1)) y) (z2 := cEn zA) PN.1 PN.2.2.1 kpE kpE' scE bdE
  have bwe := bi_bw (N := N) (w := (mSg y).length) ns [] (mNl n ns.length (mN1 n (nI (mLa y + 1)) y)) (by show ((mSg y).drop (mSg y).length).map (·.1) = _; rw [List.drop_length]; rfl) (Nat.le_refl _)
  have bwe : mWr (mBi N (mSg y).length ns (mNl n ns.length (mN1 n (nI (mLa y + 1)) y))) = bw N ns [] (mWr y) := bwe
  have Bm := bi_m (N := N) (a := i) (b := m) (w := (mSg y).length) ns (mNl n ns.length (mN1 n (nI (mLa y + 1)) y)) (fun x hx => by have := hns x hx; omega)
  have aiB := ai_be Bm AL.2.2.2.1
  intro k p h
  rw [efl] at h
  show mWr (mBo Fm bo (mBi N (mSg y).length ns (mNl n ns.length (mN1 n (nI (mLa y + 1)) y)))) = _ ∧ _
  rcases bn_flt (N := N) ns [] 0 (cEn zA) (mWr y) flE hpw with ⟨nB, bw0⟩ | ⟨x, x1, x2, x3⟩
  · -- the body's
    obtain ⟨c1, c2, c3, c4, nmo⟩ := bn_bC (N := N) ns [] 0 (cEn zA) nB
    have ebi := bi_S (N := N) (w := (mSg y).length) ns [] (mNl n ns.length (mN1 n (nI (mLa y + 1)) y)) nmo (by show ((mSg y).drop (mSg y).length).map (·.1) = _; rw [List.drop_length]; rfl) (Nat.le_refl _)
    have hjl : (ns.map (nCn N)).length = ns.length := List.length_map _
    have lvL : mLv (mNl n ns.length (mN1 n (nI (mLa y + 1)) y)) = mLv y + 1 := rfl
    have slL : mSl (mNl n ns.length (mN1 n (nI (mLa y + 1)) y)) (mLv y + 1) = 0 := if_pos rfl
    have laL : mLa (mNl n ns.length (mN1 n (nI (mLa y + 1)) y)) = mLa y + 1 := rfl
    have fmL : mFm (mNl n ns.length (mN1 n (nI (mLa y + 1)) y)) = mFm y := rfl
    have I2 := ins_S (ns.map (nCn N)) (mNl n ns.length (mN1 n (nI (mLa y + 1)) y))
    have Be := ins_m (N := N) (a := m) (b := b) (ns.map (nCn N)) (mNl n ns.length (mN1 n (nI (mLa y + 1)) y))
    obtain ⟨A2, E2, L2, T2⟩ := bind_sim (S := []) (s := 0) AL EL (fun i hi ho => by
      rw [scE] at hi
      have e : scD (cEn zA) i = scD z i := by unfold scD; rw [scE]
      rw [e, bdE, bdc] at ho
      have := (hP.1.2.1 i hi).2.2
      omega) (fun t ht => by cases ht) (by rw [lvL, slL]) c1 c3 I2
    rw [hjl, List.nil_append] at L2 T2
    rw [← ebi] at I2 Be A2 E2 L2 T2
    generalize hyB : mBi N (mSg y).length ns (mNl n ns.length (mN1 n (nI (mLa y + 1)) y)) = yB at *
    have lsB : mSl yB (mLv yB) ≤ mLs yB (mAr yB (mLv yB)) := by
      have := Be.2.2.2.2.2.2.2.2.2.2.2.2.1 (by rw [lvL, slL]; exact Nat.zero_le _)
      rw [I2.2.1, I2.2.2.1]
      exact this
    have P2 : SRp (bnd 0 ns.length) (cDD ns.length ns.length (cBn N ns [] 0 (cEn zA))) yB := by
      refine ⟨A2, ⟨bndz_len, L2, T2, lsB⟩, sre_same E2 rfl rfl rfl rfl rfl, ?_, ?_⟩
      · show rFm (cBn N ns [] 0 (cEn zA)) = _
        rw [(t_of c4).1, I2.2.2.2.2.2.2.2.1, fmL]
        show rFm zA = _
        rw [fmA]; exact hP.2.2.2.1
      · show (rLm (cBn N ns [] 0 (cEn zA))).length = _
        rw [(u_of c2).2.2.1, I2.2.2.2.2.2.1, laL]
        show (rLm zA).length = _
        rw [lmA, List.length_append, hlm0]
        rfl
    have f2 := bo_flt (la := true) pl hN hF hM hS hX bo m b (bnd 0 ns.length) (cDD ns.length ns.length (cBn N ns [] 0 (cEn zA))) yB hbo s2 (by omega) hb bb.2 P2 nB
    obtain ⟨y1', j, y2', y3', y4'⟩ := f2 k p h
    rw [bwe, bw0] at y1'
    exact ⟨y1', j, by omega, y3', y4'⟩
  · rw [R2.2.2.2.1.1 (by show rFl (cBn N ns [] 0 (cEn zA)) ≠ none; rw [x2]; simp)] at h
    have h : rFl (cBn N ns [] 0 (cEn zA)) = some (k, p) := h
    rw [x2] at h
    injection h with h
    injection h with h2 h3
    subst h2
    subst h3
    have M4 := bo_m hM bo m b (mBi N (mSg y).length ns (mNl n ns.length (mN1 n (nI (mLa y + 1)) y))) s2 (by omega) aiB
    have hx := hns x x1
    refine ⟨wr_keep M4 (bwe.trans x3) (fun q hq1 hq2 => ?_), x, by omega, by omega, rfl⟩
    exact pl_lt pl hi (by omega) (by omega) hN (by omega) hx.2 hq1 (by omega)
/-- the names of a lambda stand in their order -/
theorem nms_pw (pl : Plo N) (hN : N.1 < 2000000000) : ∀ (ns : List Nat) (a b : Nat), Frs (Tr g N) (nX N) ns a b → 1 ≤ a → b ≤ N.1 → ns.Pairwise (fun x x' => nQ N x < nQ N x') ∧ ∀ x, x ∈ ns → a ≤ x ∧ x < b
  | [], _, _, _, _, _ => ⟨List.Pairwise.nil, fun x hx => by cases hx⟩
  | c :: ns, a, b, h, ha, hb => by
    obtain ⟨rfl, m, h1, h2, h3, h4, h5⟩ := h
    obtain ⟨i1, i2⟩ := nms_pw pl hN ns m b h5 (by omega) hb
    refine ⟨List.pairwise_cons.mpr ⟨fun x hx => ?_, i1⟩, fun x hx => ?_⟩
    · have := i2 x hx
      exact pl_lt pl h1 ha (by omega) hN (Nat.le_refl _) h2 this.1 (by omega)
    · rcases List.mem_cons.mp hx with rfl | hx
      · omega
      · have := i2 x hx
        omega
/-- a define within the limit -/
def Rok2 (N : NS) (n : Nat) (row : Bool) : Prop := row = true → wrd N n = 10 → shp N n 10 true = true → ¬ (100 ≤ (gdf N).idxOf (nCn N (prt N n 1)) ∧ nCn N (prt N n 1) ∈ gdf N)
theorem cF_flt (nk : Nok N mt) (pl : Plo N) : ∀ (f g : Nat), g ≤ f → f ≤ 40 → g ≤ 39 → ∀ (n b : Nat) (la row : Bool) (S : Shp) (z : CR) (y : MR), Tr g N n b → 1 ≤ n → b ≤ N.1 → KI z.2.1 → SRp S z y → Rok2 N n row → rFl z = none → FO N n b (cF N mt f n la row z) y (mF N f n row y)
  | 0, g, hg, _, _, n, b, la, row, S, z, y, h, _, _, _, _, _, _ => by
    have : g = 0 := by omega
    subst this
    exact h.elim
  | f + 1, 0, _, _, _, _, _, _, _, _, _, _, h, _, _, _, _, _, _ => h.elim
  | f + 1, g + 1, hg, hf, hg9, n, b, la, row, S, z, y, h, hn1, hb, hk, hP, hr, hn => by
    have hN := nk.2.2
    have hN2 : N.1 < 2000000000 := by omega
    have hbb : b < 2000000000 := by omega
    have hlt := tr_lt _ _ _ _ h
    have hF : CFs N g (fun a la => cF N mt f a la false) := fun v m la z ht hk => cF_e f g (by omega) (by omega) v m la false z ht.1 ht.2 hk
    have hM : MFs N g (fun a => mF N f a false) := fun v m y ht hv hi => mF_e f g (by omega) v m false y ht.1 ht.2 hv hi
    have hS : SFs N mt g (fun a la => cF N mt f a la false) (fun a => mF N f a false) := fun v m la S z y ht hv hm hk hP hn => cF_sim nk f g (by omega) (by omega) (by omega) v m la false S z y ht.1 hv hm hk hP (fun h => by cases h) hn
    have hX : FFs N g (fun a la => cF N mt f a la false) (fun a => mF N f a false) := fun v m la S z y ht hv hm hk hP hn => cF_flt nk pl f g (by omega) (by omega) (by omega) v m la false S z y ht.1 hv hm hk hP (fun h => by cases h) hn
    have hcP : rFl (cCt N n z) = none → SRp S (cCt N n z) (mCt N n y) := fun c => (xo_ct (N := N) (n := n) c hk hP).2.1
    have hkc : KI (cCt N n z).2.1 := by rw [(ef_Ct (N := N) (z := z) (n := n)).2.1]; exact hk
    have aic : AI (mCt N n y) := ai_ef (mef_Ct (N := N) (a := n) (b := b) (n := n) ⟨Nat.le_refl _, hlt⟩) hP.1.2.2.2.1
    rw [cF, mF, if_neg (fun c => c hn)]
    by_cases c6 : nK N n = 6
    · have c5 : ¬ nK N n = 5 := by rw [c6]; decide
      have c6' : ¬ nK N n ≠ 6 := fun h => h c6
      rw [if_pos c6, if_neg c5, if_neg c6']
      by_cases cs : shp N n (wrd N n) row = false
      · rw [if_pos cs, if_pos cs]
        intro k p hh
        have h1 : rFl (cTl 3 (nQ N n) z) = some (3, nQ N n) := if_pos hn
        rw [h1] at hh
        injection hh with hh
        injection hh with h2 h3
        subst h2
        subst h3
        refine ⟨?_, n, Nat.le_refl _, hlt, rfl⟩
        show wMn (mWr (mCt N n y)) 3 (nQ N n) = _
        rcases mct_wr (N := N) (n := n) (y := y) with e | e
        · rw [e]
        · rw [e]; exact wmn_k (by decide)
      rw [if_neg cs, if_neg cs]
      have cs : shp N n (wrd N n) row = true := by simpa using cs
      have hw := wrd_le (N := N) (n := n)
      have hsq := frs_sqn _ _ _ (tr_pts h c6 hbb).2.2 hbb
      have hsq1 := sqn_drop 1 _ _ _ hsq
      have Mb : ∀ l, Sqn g N l (n + 1) b → MEf N (n + 1) b (mCt N n y) (mBo (fun a => mF N f a false) l (mCt N n y)) := fun l hl => bo_m hM l (n + 1) b _ hl (by omega) aic
      by_cases w1 : wrd N n = 1
      · have w3 : ¬ wrd N n = 3 := by omega
        have w4 : ¬ wrd N n = 4 := by omega
        have w5 : ¬ wrd N n = 5 := by omega
        have w7 : ¬ wrd N n = 7 := by omega
        have w8 : ¬ wrd N n = 8 := by omega
        have w9 : ¬ wrd N n = 9 := by omega
        have w0 : ¬ wrd N n = 0 := by omega
        have w2 : ¬ wrd N n = 2 := by omega
        rw [if_neg w3, if_neg w4, if_neg w5, if_neg w7, if_neg w8, if_neg w9, if_neg w0, if_neg w2, if_pos w1, if_pos w1]
        intro k p hh
        have e1 : rFl (cQt N mt 40 la (prt N n 1) (cCt N n z)) = rFl (cCt N n z) := by
          unfold cQt
          rw [(gb_e (la := la)).2.1]
          rfl
        rw [e1] at hh
        obtain ⟨q1, q2⟩ := ct_flt (N := N) (n := n) hn hP.2.2.2.1 (by rw [hh]; simp)
        rw [q1] at hh
        injection hh with hh
        injection hh with h2 h3
        subst h2
        subst h3
        exact ⟨q2, n, Nat.le_refl _, hlt, rfl⟩
      have kid := kid_lt pl hN2 h c6 hn1 hb w1
      by_cases w3 : wrd N n = 3
      · have w2 : ¬ wrd N n = 2 := by omega
        have w4 : ¬ wrd N n = 4 := by omega
        have w5 : ¬ wrd N n = 5 := by omega
        have w6 : ¬ wrd N n = 6 := by omega
        have w10 : ¬ wrd N n = 10 := by omega
        have w0 : ¬ wrd N n = 0 := by omega
        rw [if_pos w3, if_neg w1, if_neg w2, if_neg w4, if_neg w5, if_neg w6, if_neg w10, if_neg w0]
        rw [w3] at cs
        have hl := shp_3 cs
        have e : (pts N n).drop 1 = [prt N n 1, prt N n 2, prt N n 3] := by
          unfold prt
          match hp : pts N n, hl with
          | [a, b, c, d], _ => rfl
        have hs' := hsq1
        rw [e] at hs'
        refine fo_ct pl hN2 h c6 hn1 hb hk hP hn w1 (if_e hF hs' hkc).2.2.2.1.1 (Mb _ hsq1) rfl (fun c => ?_)
        rw [e]
        exact fo_wk (if_flt pl hN2 hF hM hS hX hs' (by omega) hb hkc (hcP c) c) (Nat.le_succ _) (Nat.le_refl _)
      rw [if_neg w3]
      by_cases w4 : wrd N n = 4
      · have w2 : ¬ wrd N n = 2 := by omega
        rw [if_pos w4, if_neg w1, if_neg w2, if_pos w4]
        rw [w4] at cs
        obtain ⟨l1, l2⟩ := shp_4 cs
        obtain ⟨m, q1, q2, q3, q4, q5⟩ := let_psq h c6 hbb l1 l2
        have hprw : Prw N (pts N (prt N n 1)) (n + 1) b := fun p hp => by
          have := psq_n _ _ _ q1 p hp
          omega
        refine fo_ct pl hN2 h c6 hn1 hb hk hP hn w1 (let_e hF (seq_wk (psq_v _ _ _ q1) (by omega : n + 1 ≤ _)) q2 (dr_ne (by omega)) hkc).2.2.2.1.1 (let_m1 (a := n + 1) (rec := false) hM (seq_wk (psq_v _ _ _ q1) (by omega)) q2 (by omega) hprw aic rfl) rfl (fun c => ?_)
        exact fo_wk (let_flt (a := n + 1) pl hN2 hF hM hS hX q3 ⟨by omega, by omega⟩ q1 q2 (dr_ne (by omega)) hb hn1 hkc (hcP c) c) (Nat.le_succ _) (Nat.le_refl _)
      rw [if_neg w4]
      by_cases w5 : wrd N n = 5
      · have w2 : ¬ wrd N n = 2 := by omega
        rw [if_pos w5, if_neg w1, if_neg w2, if_neg w4, if_pos w5]
        rw [w5] at cs
        obtain ⟨l1, l2⟩ := shp_5 cs
        obtain ⟨m, q1, q2, q3, q4, q5⟩ := let_psq h c6 hbb l1 l2
        have hprw : Prw N (pts N (prt N n 1)) (n + 1) b := fun p hp => by
          have := psq_n _ _ _ q1 p hp
          omega
        refine fo_ct pl hN2 h c6 hn1 hb hk hP hn w1 (lrc_e hF (seq_wk (psq_v _ _ _ q1) (by omega : n + 1 ≤ _)) q2 (dr_ne (by omega)) hkc).2.2.2.1.1 (let_m1 (a := n + 1) (rec := true) hM (seq_wk (psq_v _ _ _ q1) (by omega)) q2 (by omega) hprw aic rfl) rfl (fun c => ?_)
        exact fo_wk (letrec_flt (a := n + 1) pl hN2 hF hM hS hX q3 ⟨by omega, by omega⟩ q1 q2 (dr_ne (by omega)) hb hn1 hkc (hcP c) c) (Nat.le_succ _) (Nat.le_refl _)
      rw [if_neg w5]
      by_cases w7 : wrd N n = 7
      · have w2 : ¬ wrd N n = 2 := by omega
        have w6 : ¬ wrd N n = 6 := by omega
        have w10 : ¬ wrd N n = 10 := by omega
        have w0 : ¬ wrd N n = 0 := by omega
        rw [if_pos w7, if_neg w1, if_neg w2, if_neg w4, if_neg w5, if_neg w6, if_neg w10, if_neg w0]
        have l1 := shp_7 cs (Or.inl w7)
        refine fo_ct pl hN2 h c6 hn1 hb hk hP hn w1 (bo_e hF _ _ _ _ (dr_ne (by omega)) hsq1 hkc).2.2.2.1.1 (Mb _ hsq1) rfl (fun c => ?_)
        exact fo_wk (bo_flt pl hN2 hF hM hS hX _ (n + 1) b S _ _ (dr_ne (by omega)) hsq1 (by omega) hb hkc (hcP c) c) (Nat.le_succ _) (Nat.le_refl _)
      rw [if_neg w7]
      have utc : ∀ o : Int32, wrd N n = 8 ∨ wrd N n = 9 → FO N n b (cUn2 (fun a la => cF N mt f a la false) la o ((pts N n).drop 1) (cCt N n z)) y (mBo (fun a => mF N f a false) ((pts N n).drop 1) (mCt N n y)) := fun o hw8 => by
        have l1 := shp_7 cs (Or.inr hw8)
        have hdn : (pts N n).drop 1 ≠ [] := dr_ne (by omega)
        refine fo_ct pl hN2 h c6 hn1 hb hk hP hn w1 (un2_e hF hsq1 hdn hkc).2.2.2.1.1 (Mb _ hsq1) rfl (fun c => ?_)
        have f1 := ut_flt (la := la) (o := o) pl hN2 hF hM hS hX ((pts N n).drop 1) [] (n + 1) b S (cCt N n z) (mCt N n y) hdn hsq1 (by omega) hb hkc (hcP c) c
        intro k p hh
        unfold cUn2 at hh
        rw [(gb_e (la := la && decide (1 < ((pts N n).drop 1).length))).2.1, ut_0 _ _ _ hdn] at hh
        have e1 : ∀ U : CR × List Nat, rFl (lds U.2 U.1) = rFl U.1 := fun U => congrArg (fun t => t.2.2) (lds_o (z := U.1) (xs := U.2)).1
        rw [e1] at hh
        obtain ⟨x1, i, x2, x3, x4⟩ := f1 k p hh
        exact ⟨x1, i, by omega, x3, x4⟩
      by_cases w8 : wrd N n = 8
      · have w2 : ¬ wrd N n = 2 := by omega
        have w6 : ¬ wrd N n = 6 := by omega
        have w10 : ¬ wrd N n = 10 := by omega
        have w0 : ¬ wrd N n = 0 := by omega
        rw [if_pos w8, if_neg w1, if_neg w2, if_neg w4, if_neg w5, if_neg w6, if_neg w10, if_neg w0]
        exact utc 28 (Or.inl w8)
      rw [if_neg w8]
      by_cases w9 : wrd N n = 9
      · have w2 : ¬ wrd N n = 2 := by omega
        have w6 : ¬ wrd N n = 6 := by omega
        have w10 : ¬ wrd N n = 10 := by omega
        have w0 : ¬ wrd N n = 0 := by omega
        rw [if_pos w9, if_neg w1, if_neg w2, if_neg w4, if_neg w5, if_neg w6, if_neg w10, if_neg w0]
        exact utc 29 (Or.inr w9)
      rw [if_neg w9]
      by_cases w0 : wrd N n = 0
      · have w2 : ¬ wrd N n = 2 := by omega
        have w6 : ¬ wrd N n = 6 := by omega
        have w10 : ¬ wrd N n = 10 := by omega
        rw [if_pos w0, if_neg w1, if_neg w2, if_neg w4, if_neg w5, if_neg w6, if_neg w10, if_pos w0]
        rw [w0] at cs
        obtain ⟨l1, l2⟩ := shp_0 cs
        have hpne : pts N n ≠ [] := fun e => by rw [e] at l1; simp at l1
        refine fo_ct pl hN2 h c6 hn1 hb hk hP hn w1 (call_e hF hsq hpne hkc).2.2.2.1.1 (Mb _ hsq) rfl (fun c => ?_)
        have f1 := seq_flt pl hN2 hF hM hS hX (pts N n) (n + 1) b S (cCt N n z) (mCt N n y) hsq (by omega) hb hkc (hcP c) c
        intro k p hh
        obtain ⟨x1, i, x2, x3, x4⟩ := f1 k p hh
        exact ⟨x1, i, by omega, x3, x4⟩
      rw [if_neg w0]
      by_cases w2 : wrd N n = 2
      · rw [if_pos w2, if_neg w1, if_pos w2]
        rw [w2] at cs
        obtain ⟨l1, l2⟩ := shp_2 cs
        obtain ⟨m0, m, e1, e2, e3, e4, e5, e6, e7, e8⟩ := big_tr h c6 hbb (by omega)
        obtain ⟨p1, p2, p3⟩ := arN_2 l2
        cases g with
        | zero => exact e4.elim
        | succ g' =>
          obtain ⟨a1, a2, a3⟩ := tr_pts e4 p1 (by omega)
          obtain ⟨pw, pb⟩ := nms_pw pl hN2 _ _ _ a3 (by omega) (by omega)
          have M1 : MEf N (n + 1) b (mN1 n (nI (mLa (mCt N n y) + 1)) (if 120 < mLa (mCt N n y) + 1 then mW 6 (nQ N n) (mCt N n y) else mCt N n y)) (mLam N (fun a => mF N f a false) n (pts N (prt N n 1)) ((pts N n).drop 2) (mCt N n y)) := by
            have hsgg : mSg (mN1 n (nI (mLa (mCt N n y) + 1)) (if 120 < mLa (mCt N n y) + 1 then mW 6 (nQ N n) (mCt N n y) else mCt N n y)) = mSg (mCt N n y) := by split <;> rfl
            have := lam_m1 (y1 := mN1 n (nI (mLa (mCt N n y) + 1)) (if 120 < mLa (mCt N n y) + 1 then mW 6 (nQ N n) (mCt N n y) else mCt N n y)) (n := n) (a := n + 1) (ns := pts N (prt N n 1)) hM (by omega) e5 (by omega) (fun x hx => by have := pb x hx; omega) (by
              split
              · exact aic
              · exact aic)
            rw [hsgg] at this
            exact this
          have Ce := al_la hF (la := la) (n := n) (ns := pts N (prt N n 1)) (seq_wk e5 (show n + 1 ≤ m by omega)) (dr_ne (show 2 < (pts N n).length by omega)) hkc
          by_cases cc : rFl (cCt N n z) = none
          · obtain ⟨Xc, _⟩ := xo_ct (N := N) (n := n) cc hk hP
            exact fo_snd Xc.2.2.2.2.2.2 (lambda_flt pl hN2 hF hM hS hX e4 (by omega) (fun x hx => by have := pb x hx; omega) pw e5 (dr_ne (by omega)) hb hn1 hkc (hcP cc) cc kid) (Nat.le_refl _)
          · obtain ⟨c1, c2⟩ := ct_flt hn hP.2.2.2.1 cc
            intro k p hh
            rw [Ce.2.2.2.1.1 cc, c1] at hh
            injection hh with hh
            injection hh with h2 h3
            subst h2
            subst h3
            refine ⟨wr_keep M1 ?_ kid, n, Nat.le_refl _, hlt, rfl⟩
            show mWr (if 120 < mLa (mCt N n y) + 1 then mW 6 (nQ N n) (mCt N n y) else mCt N n y) = _
            split
            · show wMn (mWr (mCt N n y)) 6 (nQ N n) = _
              rw [c2, wmn_id]
            · exact c2
      rw [if_neg w2, if_neg w1]
      by_cases w6 : wrd N n = 6
      · rw [if_pos w6, if_neg w1, if_neg w2, if_neg w4, if_neg w5, if_pos w6]
        rw [w6] at cs
        obtain ⟨l1, l2⟩ := shp_6 cs
        obtain ⟨m1, t1, t2, t3, t4, t5, _⟩ := three_tr h c6 hbb l1
        have hl2 := tr_lt _ _ _ _ t1
        have e0 : MEf N (n + 1) b (mCt N n y) (if nCn N (prt N n 1) < 30 then mW 5 (nQ N (prt N n 1)) (mCt N n y) else mUs N (prt N n 1) (mCt N n y)) := by
          split
          · exact mef_W (by omega)
          · exact us_e (by omega) (by omega)
        refine fo_ct pl hN2 h c6 hn1 hb hk hP hn w1 (st_e hF (a := n + 1) ⟨t1, hbb⟩ (by omega) hkc).2.2.2.1.1 (mef_tr e0 (mef_wk (hM _ _ _ ⟨t1, hbb⟩ (by omega) (ai_ef e0 aic)) (by omega) (Nat.le_refl _))) rfl (fun c => ?_)
        exact fo_wk (set_flt (a := n + 1) pl hN2 hF hM hX (by omega) (by omega) l2 ⟨t1, hbb⟩ hb hkc (hcP c) c) (Nat.le_succ _) (Nat.le_refl _)
      · have w10 : wrd N n = 10 := by omega
        rw [if_neg w6, if_neg w1, if_neg w2, if_neg w4, if_neg w5, if_neg w6, if_pos w10]
        rw [w10] at cs
        obtain ⟨l0, l1, l2⟩ := shp_10 cs
        obtain ⟨m1, t1, t2, t3, t4, t5, _⟩ := three_tr h c6 hbb l1
        have hl2 := tr_lt _ _ _ _ t1
        have e0 : MEf N (n + 1) b (mCt N n y) (mMn (prt N n 1) 3 (dA N (nCn N (prt N n 1))) (if nCn N (prt N n 1) < 30 then mW 5 (nQ N (prt N n 1)) (mCt N n y) else mCt N n y)) := by
          split
          · exact mef_tr (mef_W (by omega)) (mef_Mn (by omega) (by omega))
          · exact mef_Mn (by omega) (by omega)
        refine fo_ct pl hN2 h c6 hn1 hb hk hP hn w1 (df_e hF (a := n + 1) ⟨t1, hbb⟩ (by omega) hkc).2.2.2.1.1 (mef_tr e0 (mef_wk (hM _ _ _ ⟨t1, hbb⟩ (by omega) (ai_ef e0 aic)) (by omega) (Nat.le_refl _))) rfl (fun c => ?_)
        rw [l0] at cs
        exact fo_wk (define_flt (a := n + 1) pl hN2 hF hM hX (by omega) (by omega) l2 ⟨t1, hbb⟩ hb hkc (hcP c) c (hr l0 w10 cs)) (Nat.le_succ _) (Nat.le_refl _)
    · rw [if_neg c6]
      by_cases c5 : nK N n = 5
      · rw [if_pos c5, if_pos c5]
        exact name_flt h hk hP hn
      · rw [if_neg c5, if_neg c5, if_pos c6]
        exact leaf_flt h hP hn
end FL6
