/-! BUILD. Faults: letrec, lambda -/
section FL5
variable {N : NS} {mt : List Nat} {z z1 z2 z' : CR} {y y1 y2 y' yr : MR} {n b g a m : Nat} {S : Shp} {la : Bool}
variable {F : Nat → Bool → CR → CR} {Fm : Nat → MR → MR}
theorem srp_y (h : SRp S z y) (e1 : y'.2.1 = y.2.1) (e2 : y'.2.2.1 = y.2.2.1) (e3 : mFm y' = mFm y) : SRp S z y' := by
  obtain ⟨hA, hD, hE, hf, hl⟩ := h
  have a1 : mSg y' = mSg y := congrArg (fun t => t.1) e1
  have a2 : mLv y' = mLv y := congrArg (fun t => t.2.1) e1
  have a3 : mAr y' = mAr y := congrArg (fun t => t.2.2.1) e1
  have a4 : mSl y' = mSl y := congrArg (fun t => t.2.2.2) e1
  have a5 : sgD y' = sgD y := by funext i; unfold sgD; rw [a1]
  have b1 : mLa y' = mLa y := congrArg (fun t => t.1) e2
  have b2 : mLs y' = mLs y := congrArg (fun t => t.2.2.2.1) e2
  have b3 : mFe y' = mFe y := congrArg (fun t => t.2.2.2.2) e2
  refine ⟨sra_y hA e1 (Nat.le_of_eq b1.symm), ?_, sre_same hE rfl a1 a2 a3 b3, hf.trans e3.symm, by rw [b1]; exact hl⟩
  unfold SRd at hD ⊢
  rw [a2, a3, a4, a5, b2]
  exact hD
/-- binding is the same whether names are faulty or not -/
theorem bi_ins {w : Nat} : ∀ (ns : List Nat) (y y0 : MR), y.1 = y0.1 → y.2.1 = y0.2.1 → y.2.2.1 = y0.2.2.1 → mFm y = mFm y0 → (mBi N w ns y).1 = ((ns.map (nCn N)).foldl (fun y j => mIn j y) y0).1 ∧ (mBi N w ns y).2.1 = ((ns.map (nCn N)).foldl (fun y j => mIn j y) y0).2.1 ∧ (mBi N w ns y).2.2.1 = ((ns.map (nCn N)).foldl (fun y j => mIn j y) y0).2.2.1 ∧ mFm (mBi N w ns y) = mFm ((ns.map (nCn N)).foldl (fun y j => mIn j y) y0)
  | [], _, _, h1, h2, h3, h4 => ⟨h1, h2, h3, h4⟩
  | n :: ns, y, y0, h1, h2, h3, h4 => by
    have e : (mBs N n w y).1 = y.1 ∧ (mBs N n w y).2.1 = y.2.1 ∧ (mBs N n w y).2.2.1 = y.2.2.1 ∧ mFm (mBs N n w y) = mFm y := by
      unfold mBs
      split
      · exact ⟨rfl, rfl, rfl, rfl⟩
      · exact ⟨rfl, rfl, rfl, rfl⟩
    obtain ⟨e1, e2, e3, e4⟩ := e
    have s1 : mSg (mBs N n w y) = mSg y0 := congrArg (fun t => t.1) (e2.trans h2)
    have s2 : mLv (mBs N n w y) = mLv y0 := congrArg (fun t => t.2.1) (e2.trans h2)
    have s3 : mAr (mBs N n w y) = mAr y0 := congrArg (fun t => t.2.2.1) (e2.trans h2)
    have s4 : mSl (mBs N n w y) = mSl y0 := congrArg (fun t => t.2.2.2) (e2.trans h2)
    have t1 : mLa (mBs N n w y) = mLa y0 := congrArg (fun t => t.1) (e3.trans h3)
    have t2 : mNd (mBs N n w y) = mNd y0 := congrArg (fun t => t.2.1) (e3.trans h3)
    have t3 : mNm (mBs N n w y) = mNm y0 := congrArg (fun t => t.2.2.1) (e3.trans h3)
    have t4 : mLs (mBs N n w y) = mLs y0 := congrArg (fun t => t.2.2.2.1) (e3.trans h3)
    have t5 : mFe (mBs N n w y) = mFe y0 := congrArg (fun t => t.2.2.2.2) (e3.trans h3)
    refine bi_ins ns (mIn (nCn N n) (mBs N n w y)) (mIn (nCn N n) y0) (e1.trans h1) ?_ ?_ (e4.trans h4)
    · show (mSg (mBs N n w y) ++ [_], mLv (mBs N n w y), mAr (mBs N n w y), updN (mSl (mBs N n w y)) (mLv (mBs N n w y)) (mSl (mBs N n w y) (mLv (mBs N n w y)) + 1)) = _
      rw [s1, s2, s3, s4]
      rfl
    · show (mLa (mBs N n w y), mNd (mBs N n w y), mNm (mBs N n w y), updN (mLs (mBs N n w y)) (mAr (mBs N n w y) (mLv (mBs N n w y))) (max (mLs (mBs N n w y) (mAr (mBs N n w y) (mLv (mBs N n w y)))) (mSl (mBs N n w y) (mLv (mBs N n w y)) + 1)), mFe (mBs N n w y)) = _
      rw [s2, s3, s4, t1, t2, t3, t4, t5]
      rfl
theorem letrec_flt {ps bo : List Nat} {i : Nat} (pl : Plo N) (hN : N.1 < 2000000000) (hF : CFs N g F) (hM : MFs N g Fm) (hS : SFs N mt g F Fm) (hX : FFs N g F Fm) (hi : Tr g N i m) (ha : 1 ≤ a ∧ a ≤ i) (hps : PSq g N ps (i + 1) m) (s2 : Sqn g N bo m b) (hbo : bo ≠ []) (hb : b ≤ N.1) (hn1 : 1 ≤ n) (hk : KI z.2.1) (hP : SRp S z y) (hn : rFl z = none) : FO N a b (cLrc N F la ps bo z) y (mLet N Fm true n ps bo y) := by
  have hmb := seq_le _ _ _ s2
  have him := tr_lt _ _ _ _ hi
  have s1 := psq_v ps _ _ hps
  obtain ⟨XN, PN⟩ := xo_n1 (N := N) (n := n) (nu := nI (mSl y (mLv y))) hk hP hn1
  have hjl : ((nms N ps).map (nCn N)).length = ps.length := by unfold nms; rw [List.length_map, List.length_map]
  obtain ⟨B1, B2, B3⟩ := bp_e (N := N) ps (rDp z) z hk
  obtain ⟨c1, c2, c3, c4⟩ := bp_bC (N := N) ps (rDp z) z
  have hSl : S.length = rDp z := hP.2.1.1
  unfold cLrc mLet
  dsimp only
  simp only [if_true]
  rw [show (ps.map (fun p => prt N p 0)) = nms N ps from rfl, lt_rec]
  have k1 := (bnd_b B1).2
  have ez1 : rFl (cBp N ps (rDp z) z) = none := by rw [(t_of B3).2.2.2]; exact hn
  generalize hz1 : cBp N ps (rDp z) z = z1 at *
  have I2 := ins_S ((nms N ps).map (nCn N)) (mN1 n (nI (mSl y (mLv y))) y)
  have Be := ins_m (N := N) (a := m) (b := b) ((nms N ps).map (nCn N)) (mN1 n (nI (mSl y (mLv y))) y)
  have lvN : mLv (mN1 n (nI (mSl y (mLv y))) y) = mLv y := rfl
  have slN : mSl (mN1 n (nI (mSl y (mLv y))) y) (mLv y) = mSl y (mLv y) := rfl
  rw [← hSl] at c1
  obtain ⟨A2, E2, L2, T2⟩ := bind_sim (s := mSl y (mLv y)) PN.1 PN.2.2.1 PN.2.1.2.1 (fun t ht => PN.2.1.2.2.1 t ht) rfl c1 c3 I2
  have ls2 := Be.2.2.2.2.2.2.2.2.2.2.2.2.1 PN.2.1.2.2.2
  obtain ⟨bi1, bi2, bi3, bi4⟩ := bi_ins (N := N) (w := (mSg y).length) (nms N ps) (mN1 n (nI (mSl y (mLv y))) y) (mN1 n (nI (mSl y (mLv y))) y) rfl rfl rfl rfl
  have bwe := bi_bw (N := N) (w := (mSg y).length) (nms N ps) [] (mN1 n (nI (mSl y (mLv y))) y) (by show ((mSg y).drop (mSg y).length).map (·.1) = _; rw [List.drop_length]; rfl) (Nat.le_refl _)
  have bwe : mWr (mBi N (mSg y).length (nms N ps) (mN1 n (nI (mSl y (mLv y))) y)) = bw N (nms N ps) [] (mWr y) := bwe
  generalize hyi : ((nms N ps).map (nCn N)).foldl (fun y j => mIn j y) (mN1 n (nI (mSl y (mLv y))) y) = yi at *
  rw [hjl] at L2 T2
  have Pi : SRp (S ++ bnd (mSl y (mLv y)) ps.length) (cE 22 (nI ps.length) (rDp z + ps.length) z1) yi := by
    refine ⟨A2, ⟨by rw [List.length_append, bndz_len, hSl]; rfl, L2, T2, by rw [I2.2.1, I2.2.2.1]; exact ls2⟩, sre_same E2 rfl rfl rfl rfl rfl, ?_, ?_⟩
    · show rFm z1 = _
      rw [(t_of c4).1, I2.2.2.2.2.2.2.2.1]
      exact PN.2.2.2.1
    · show (rLm z1).length = _
      rw [(u_of c2).2.2.1, I2.2.2.2.2.2.1]
      exact hP.2.2.2.2
  have P2 := srp_y Pi bi2 bi3 bi4
  generalize hy2 : mBi N (mSg y).length (nms N ps) (mN1 n (nI (mSl y (mLv y))) y) = y2 at *
  have fl := lr_flt pl hN hF hM hS hX ps [] (rDp z) (i + 1) m (S ++ bnd (mSl y (mLv y)) ps.length) (cE 22 (nI ps.length) (rDp z + ps.length) z1) y2 (mWr y) hps (by omega) (by omega) k1 P2 ez1 bwe
  have R1 := lr_e hF ps [] (rDp z) (i + 1) m (cE 22 (nI ps.length) (rDp z + ps.length) z1) s1 k1
  have R2 := bo_e hF (la := la) bo m b _ hbo s2 R1.2.2.1
  have efl : rFl (cLe la (rSc z).length (rDp z) ps.length (cBo F la bo (cLr N F ps [] (rDp z) (cE 22 (nI ps.length) (rDp z + ps.length) z1)))) = rFl (cBo F la bo (cLr N F ps [] (rDp z) (cE 22 (nI ps.length) (rDp z + ps.length) z1))) := (le_e (a := 0)).2.2.2.2.2.2.2
  have M3 := bo_m hM (vls N ps) (i + 1) m y2 s1 (by omega) P2.1.2.2.2.1
  intro k p h
  rw [efl] at h
  show mWr (mBo Fm bo (mBo Fm (vls N ps) y2)) = _ ∧ _
  by_cases c : rFl (cLr N F ps [] (rDp z) (cE 22 (nI ps.length) (rDp z + ps.length) z1)) = none
  · obtain ⟨X3, D3, _, _⟩ := lr_sim hF hM hS ps [] (rDp z) (i + 1) m (S ++ bnd (mSl y (mLv y)) ps.length) (cE 22 (nI ps.length) (rDp z + ps.length) z1) y2 s1 (by omega) (by omega) k1 P2 c
    have P3 : SRp (S ++ bnd (mSl y (mLv y)) ps.length) (cLr N F ps [] (rDp z) (cE 22 (nI ps.length) (rDp z + ps.length) z1)) (mBo Fm (vls N ps) y2) := ⟨xo_a P2 X3, D3, X3.2.2.2.2.1, X3.2.2.2.1.1, X3.2.2.2.1.2⟩
    have f2 := bo_flt (la := la) pl hN hF hM hS hX bo m b _ _ _ hbo s2 (by omega) hb R1.2.2.1 P3 c
    obtain ⟨x1, j, x2, x3, x4⟩ := f2 k p h
    rw [X3.2.2.2.2.2.2, fl.2 c] at x1
    exact ⟨x1, j, by omega, x3, x4⟩
  · rw [R2.2.2.2.1.1 c] at h
    obtain ⟨x1, j, x2, x3, x4⟩ := fl.1 k p h
    have M4 := bo_m hM bo m b (mBo Fm (vls N ps) y2) s2 (by omega) (ai_ef M3 P2.1.2.2.2.1)
    refine ⟨wr_keep M4 x1 (fun q hq1 hq2 => ?_), j, by omega, by omega, x4⟩
    rw [x4]
    exact pl_lt pl hi (by omega) (by omega) hN (by omega) x3 hq1 (by omega)
/-- names of a lambda -/
theorem bn_flt : ∀ (ns bf : List Nat) (i : Nat) (z : CR) (w : Option (Nat × Nat)), rFl z = none → ns.Pairwise (fun x x' => nQ N x < nQ N x') → (rFl (cBn N ns bf i z) = none ∧ bw N ns bf w = w) ∨ ∃ x, x ∈ ns ∧ rFl (cBn N ns bf i z) = some (5, nQ N x) ∧ bw N ns bf w = wMn w 5 (nQ N x)
  | [], _, _, _, _, hn, _ => Or.inl ⟨hn, rfl⟩
  | x :: ns, bf, i, z, w, hn, hs => by
    rw [List.pairwise_cons] at hs
    have ez : cBn N (x :: ns) bf i z = cBn N ns (bf ++ [nCn N x]) (i + 1) (cBi (nCn N x) i (cCk N bf x z)) := rfl
    have keep : ∀ (ns bf : List Nat) (i : Nat) (z : CR), rFl z ≠ none → rFl (cBn N ns bf i z) = rFl z := by
      intro ns
      induction ns with
      | nil => intro _ _ _ _; rfl
      | cons q ns ih =>
        intro bf i z h
        have e1 := (ck_e (N := N) (z := z) (b := bf) (n := q) (a := 0)).2.1.1 h
        have := ih (bf ++ [nCn N q]) (i + 1) (cBi (nCn N q) i (cCk N bf q z)) (by show rFl (cCk N bf q z) ≠ none; rw [e1]; exact h)
        exact this.trans e1
    rw [ez, bw]
    rcases ck_flt (N := N) (n := x) (bf := bf) hn with ⟨e1, e2, e3, e4⟩ | ⟨e1, e2⟩
    · rw [e2, if_pos ⟨e3, e4⟩]
      rcases bn_flt ns (bf ++ [nCn N x]) (i + 1) (cBi (nCn N x) i z) w hn hs.2 with h | ⟨q, h1, h2, h3⟩
      · exact Or.inl h
      · exact Or.inr ⟨q, List.mem_cons_of_mem _ h1, h2, h3⟩
    · rw [if_neg e2]
      refine Or.inr ⟨x, by simp, ?_, bw_keep _ _ _ _ _ hs.1⟩
      rw [keep _ _ _ _ (by show rFl (cCk N bf x z) ≠ none; rw [e1]; simp)]
      exact e1
theorem lam_m1 (hM : MFs N g Fm) {ns bo : List Nat} (ha : 1 ≤ a) (hs : Sqn g N bo m b) (hm : a ≤ m) (hp : ∀ x, x ∈ ns → a ≤ x ∧ x < b) (ai1 : AI y1) : MEf N a b y1 (mLv1 (mTk (mSg y1).length (mBo Fm bo (mBi N (mSg y1).length ns (mNl n ns.length y1))))) := by
  have hmb := seq_le _ _ _ hs
  have ai2 : AI (mNl n ns.length y1) := fun l hl => by
    show updN (mAr y1) (mLv y1 + 1) (mLa y1 + 1) l ≤ mLa y1 + 1
    have hl : l ≤ mLv y1 + 1 := hl
    unfold updN
    by_cases c : l = mLv y1 + 1
    · rw [if_pos c]; exact Nat.le_refl _
    · rw [if_neg c]
      have := ai1 l (by omega)
      omega
  have b2 := bi_m (N := N) (a := a) (b := b) (w := (mSg y1).length) ns (mNl n ns.length y1) hp
  have e5 := mef_wk (bo_m hM bo m b _ hs (by omega) (ai_be b2 ai2)) hm (Nat.le_refl _)
  generalize mBi N (mSg y1).length ns (mNl n ns.length y1) = y4 at *
  generalize mBo Fm bo y4 = y5 at *
  obtain ⟨⟨t, p1, p1'⟩, p2, p3, p4, p5, p6, p7, p8, p9, p10, p11, p12, p13, p14⟩ := b2
  obtain ⟨⟨q1, q2, q3, q4⟩, q5, q6, q7, q8, q9⟩ := e5
  have u1 : mMe y4 = mMe y1 ∧ mNu y4 = mNu y1 := ⟨congrArg (fun s => s.1) p6, congrArg (fun s => s.2) p6⟩
  have p2 : mLv y4 = mLv y1 + 1 := p2
  have p7 : mLa y4 = mLa y1 + 1 := p7
  have ar4 : ∀ l, l ≤ mLv y1 → mAr y4 l = mAr y1 l := fun l hl => by
    rw [p3]
    exact if_neg (by omega)
  have ar5 : mAr y4 (mLv y1 + 1) = mLa y1 + 1 := by
    rw [p3]
    exact if_pos rfl
  have nl1 : mAr (mNl n ns.length y1) (mLv (mNl n ns.length y1)) = mLa y1 + 1 := if_pos rfl
  rw [nl1] at p12
  refine ⟨⟨?_, ?_, fun l hl => ?_, fun l hl => ?_⟩, ?_, fun m hm => ?_, fun M hM => ?_, fun M hM hl => ?_, fun k q hq => ?_⟩
  · show (mSg y5).take (mSg y1).length = _
    rw [q1, p1]
    show (mSg y1 ++ t).take (mSg y1).length = _
    rw [List.take_left']
    rfl
  · show mLv y5 - 1 = _
    omega
  · show mAr y5 l = _
    rw [q3 l (by omega), ar4 l hl]
  · show mSl y5 l = _
    rw [q4 l (by omega), p4 l (by show l < mLv y1 + 1; omega)]
    show updN (mSl y1) (mLv y1 + 1) 0 l = _
    exact if_neg (by omega)
  · show mLa y1 ≤ mLa y5
    omega
  · show mMe y5 m = _ ∧ mNu y5 m = _
    rw [(q6 m hm).1, (q6 m hm).2, u1.1, u1.2]
    exact ⟨rfl, rfl⟩
  · obtain ⟨b1, b2, b3, b4⟩ := q7 M (by omega)
    show mNd y5 M = _ ∧ mNm y5 M = _ ∧ _ ≤ mLs y5 M ∧ _ <+: mFe y5 M
    rw [p8] at b1
    rw [p9] at b2
    rw [p10] at b4
    have hne : ¬ M = mLa y1 + 1 := by omega
    refine ⟨b1.trans (if_neg hne), b2.trans (if_neg hne), ?_, ?_⟩
    · have h1 : mLs (mNl n ns.length y1) M = mLs y1 M := if_neg hne
      have := p11 M
      omega
    · have h1 : mFe (mNl n ns.length y1) M = mFe y1 M := if_neg hne
      rw [h1] at b4
      exact b4
  · have hne : ¬ M = mLa y1 + 1 := by omega
    obtain ⟨b1, b2⟩ := q8 M (by omega) (fun l hl2 => by
      rw [p2] at hl2
      by_cases c : l = mLv y1 + 1
      · rw [c, ar5]; exact hne
      · rw [ar4 l (by omega)]; exact hl l (by omega))
    show mLs y5 M = _ ∧ mFe y5 M = _
    rw [b1, b2, p10, p12 M hne]
    exact ⟨if_neg hne, if_neg hne⟩
  · exact (q9 k q hq).trans (p14 k q hq)
end FL5
