/-! BUILD. Each list of a quote begins at one place of the data: every form -/
section TAH
variable {N : NS} {mt : List Nat} {z z1 z2 z' : CR} {a b g m n : Nat} {la : Bool} {F : Nat → Bool → CR → CR}
theorem if_t {u v w : Nat} (hF : CFs N g F) (hT : TFs N mt g F) (hs : Sqn g N [u, v, w] a b) (hk : KI z.2.1) : TZ N mt a b z (cIf F la u v w z) := by
  obtain ⟨s1, m1, t1, q1, r1, s2, m2, t2, q2, r2, s3, m3, t3, q3, s4, s5⟩ := hs
  have s5 : m3 ≤ b := s5
  have E1 := hF u m1 false z t1 hk
  have E2 := hF v m2 la (cE 27 0 (rDp (F u false z) - 1) (F u false z)) t2 E1.2.2.1
  have d1 : TZ N mt a m1 z (cE 27 0 (rDp (F u false z) - 1) (F u false z)) := tz_wk (tz_cg (hT u m1 false z t1 hk) rfl rfl) s1 (Nat.le_refl _)
  have d2 := tz_tr d1 (tz_wk (hT v m2 la (cE 27 0 (rDp (F u false z) - 1) (F u false z)) t2 E1.2.2.1) s2 (Nat.le_refl _)) (by omega) (by omega) E2.2.2.2.1
  unfold cIf
  dsimp only
  generalize hz1 : F u false z = z1 at *
  generalize hz2 : F v la (cE 27 0 (rDp z1 - 1) z1) = z2 at *
  obtain ⟨z3, ez3, f1, f2, f3⟩ : ∃ z3, z3 = (if la then z2 else cE 26 0 (rDp z2) z2) ∧ z3.2.1 = z2.2.1 ∧ rFl z3 = rFl z2 ∧ rDt z3 = rDt z2 := by
    cases la
    · exact ⟨_, rfl, rfl, rfl, rfl⟩
    · exact ⟨_, rfl, rfl, rfl, rfl⟩
  rw [← ez3]
  have kD : KI (cLd (rCd z1).length (cDp (rDp z3 - 1) z3)).2.1 := by show KI z3.2.1; rw [f1]; exact E2.2.2.1
  have E4 := hF w m3 la (cLd (rCd z1).length (cDp (rDp z3 - 1) z3)) t3 kD
  have dD : TZ N mt a m2 z (cLd (rCd z1).length (cDp (rDp z3 - 1) z3)) := tz_cg d2 f2 f3
  have d5 := tz_tr dD (tz_wk (hT w m3 la (cLd (rCd z1).length (cDp (rDp z3 - 1) z3)) t3 kD) s3 s5) (by omega) (by omega) E4.2.2.2.1
  split
  · exact d5
  · exact tz_cg d5 rfl rfl
theorem le_dt {ar st k : Nat} : rDt (cLe la ar st k z) = rDt z := by
  unfold cLe
  cases la <;> rfl
theorem let_t {ps bo : List Nat} (hF : CFs N g F) (hT : TFs N mt g F) (s1 : Sqn g N (vls N ps) a m) (s2 : Sqn g N bo m b) (hbo : bo ≠ []) (hk : KI z.2.1) : TZ N mt a b z (cLet N F la ps bo z) := by
  have T1 := lt_e hF ps [] a m z s1 hk
  obtain ⟨B1, B2, B3⟩ := bp_e (N := N) ps (rDp z) (cLt N F ps [] z) T1.2.2.1
  have R2 := bo_e hF (la := la) bo m b (cBp N ps (rDp z) (cLt N F ps [] z)) hbo s2 (bnd_b B1).2
  have d2 : TZ N mt a m z (cBp N ps (rDp z) (cLt N F ps [] z)) := tz_cg (lt_t hF hT ps [] a m z s1 hk) (t_of B3).2.2.2 (u_of B2).2.1
  unfold cLet
  exact tz_cg (tz_tr d2 (bo_t (la := la) hF hT bo m b _ s2 (bnd_b B1).2) (seq_le _ _ _ s1) (seq_le _ _ _ s2) R2.2.2.2.1) (le_e (a := 0)).2.2.2.2.2.2.2 le_dt
theorem lrc_t {ps bo : List Nat} (hF : CFs N g F) (hT : TFs N mt g F) (s1 : Sqn g N (vls N ps) a m) (s2 : Sqn g N bo m b) (hbo : bo ≠ []) (hk : KI z.2.1) : TZ N mt a b z (cLrc N F la ps bo z) := by
  obtain ⟨B1, B2, B3⟩ := bp_e (N := N) ps (rDp z) z hk
  have k1 := (bnd_b B1).2
  have R1 := lr_e hF ps [] (rDp z) a m (cE 22 (nI ps.length) (rDp z + ps.length) (cBp N ps (rDp z) z)) s1 k1
  have R2 := bo_e hF (la := la) bo m b _ hbo s2 R1.2.2.1
  have d1 := lr_t hF hT ps [] (rDp z) a m (cE 22 (nI ps.length) (rDp z + ps.length) (cBp N ps (rDp z) z)) s1 k1
  have d2 : TZ N mt a m z (cLr N F ps [] (rDp z) (cE 22 (nI ps.length) (rDp z + ps.length) (cBp N ps (rDp z) z))) := tz_cl d1 (u_of B2).2.1
  unfold cLrc
  exact tz_cg (tz_tr d2 (bo_t (la := la) hF hT bo m b _ s2 R1.2.2.1) (seq_le _ _ _ s1) (seq_le _ _ _ s2) R2.2.2.2.1) (le_e (a := 0)).2.2.2.2.2.2.2 le_dt
theorem la_t {ns bo : List Nat} (hF : CFs N g F) (hT : TFs N mt g F) (s2 : Sqn g N bo m b) (hk : KI z.2.1) : TZ N mt m b z (cLa N F la n ns bo z) := by
  unfold cLa
  split
  · exact fun h => absurd h tl_fl
  dsimp only
  generalize hzA : cE 26 0 (rDp z + 1) (cE 25 (nI (rLm z).length) (rDp z + 1) (cAl ns.length z)) = zA
  have sA : zA.2.1 = z.2.1 := by rw [← hzA]; rfl
  have dA' : rDt zA = rDt z := by rw [← hzA]; rfl
  have kE : KI (cEn zA).2.1 := by
    have : KI zA.2.1 := by rw [sA]; exact hk
    exact ki_en this
  obtain ⟨Bb, Eb, b1', b2'⟩ := bn_e (N := N) (a := m) ns [] 0 (cEn zA) kE
  have bb := bnd_b Bb
  have d1 := bo_t (la := true) hF hT bo m b (cDD ns.length ns.length (cBn N ns [] 0 (cEn zA))) s2 bb.2
  have d2 : TZ N mt m b z (cBo F true bo (cDD ns.length ns.length (cBn N ns [] 0 (cEn zA)))) := tz_cl d1 ((u_of b1').2.1.trans dA')
  refine tz_cg (tz_cg d2 (z2 := cLd ((rCd z).length + 1) (cDD (rDp zA) (rDx zA) (cUn (rSc z).length (cLv (cEl (rLm z).length ((rCd z).length + 2) (cBo F true bo (cDD ns.length ns.length (cBn N ns [] 0 (cEn zA))))))))) rfl rfl) (gb_e (la := la)).2.1 gb_dt
theorem cF_t : ∀ (f g : Nat), g ≤ f → f ≤ 40 → ∀ (n b : Nat) (la row : Bool) (z : CR), Tr g N n b → b < 2000000000 → KI z.2.1 → TZ N mt n b z (cF N mt f n la row z)
  | 0, g, hg, _, n, b, la, row, z, h, _, _ => by
    have : g = 0 := by omega
    subst this
    exact h.elim
  | f + 1, 0, _, _, _, _, _, _, _, h, _, _ => h.elim
  | f + 1, g + 1, hg, hf, n, b, la, row, z, h, hbb, hk => by
    have hlt := tr_lt _ _ _ _ h
    have hF : CFs N g (fun a la => cF N mt f a la false) := fun v m la z ht hk => cF_e f g (by omega) (by omega) v m la false z ht.1 ht.2 hk
    have hT : TFs N mt g (fun a la => cF N mt f a la false) := fun v m la z ht hk => cF_t f g (by omega) (by omega) v m la false z ht.1 ht.2 hk
    have hkc : KI (cCt N n z).2.1 := by rw [(ef_Ct (N := N) (z := z) (n := n)).2.1]; exact hk
    have dtc : ∀ z : CR, rDt (cCt N n z) = rDt z := fun z => by unfold cCt; split <;> rfl
    rw [cF]
    by_cases cf : rFl z ≠ none
    · rw [if_pos cf]; exact tz_same rfl
    rw [if_neg cf]
    by_cases c6 : nK N n = 6
    · rw [if_pos c6]
      by_cases cs : shp N n (wrd N n) row = false
      · rw [if_pos cs]
        exact fun hh => absurd hh tl_fl
      rw [if_neg cs]
      have cs : shp N n (wrd N n) row = true := by simpa using cs
      have hw := wrd_le (N := N) (n := n)
      have hsq := frs_sqn _ _ _ (tr_pts h c6 hbb).2.2 hbb
      have hsq1 := sqn_drop 1 _ _ _ hsq
      refine tz_cl (z1 := cCt N n z) ?_ (dtc z)
      refine tz_wk (a := n + 1) ?_ (Nat.le_succ _) (Nat.le_refl _)
      by_cases w3 : wrd N n = 3
      · rw [if_pos w3]
        rw [w3] at cs
        have hl := shp_3 cs
        have e : (pts N n).drop 1 = [prt N n 1, prt N n 2, prt N n 3] := by
          unfold prt
          match hp : pts N n, hl with
          | [a, b, c, d], _ => rfl
        rw [e] at hsq1
        exact if_t hF hT hsq1 hkc
      rw [if_neg w3]
      by_cases w4 : wrd N n = 4
      · rw [if_pos w4]
        rw [w4] at cs
        obtain ⟨l1, l2⟩ := shp_4 cs
        obtain ⟨m, q1, q2⟩ := let_sq h c6 hbb l1 l2
        exact let_t hF hT q1 q2 (dr_ne (by omega)) hkc
      rw [if_neg w4]
      by_cases w5 : wrd N n = 5
      · rw [if_pos w5]
        rw [w5] at cs
        obtain ⟨l1, l2⟩ := shp_5 cs
        obtain ⟨m, q1, q2⟩ := let_sq h c6 hbb l1 l2
        exact lrc_t hF hT q1 q2 (dr_ne (by omega)) hkc
      rw [if_neg w5]
      by_cases w7 : wrd N n = 7
      · rw [if_pos w7]
        exact bo_t hF hT _ _ _ _ hsq1 hkc
      rw [if_neg w7]
      have ut : ∀ o : Int32, wrd N n = 8 ∨ wrd N n = 9 → TZ N mt (n + 1) b (cCt N n z) (cUn2 (fun a la => cF N mt f a la false) la o ((pts N n).drop 1) (cCt N n z)) := fun o hw8 => by
        have l1 := shp_7 cs (Or.inr hw8)
        have hdn : (pts N n).drop 1 ≠ [] := dr_ne (by omega)
        obtain ⟨i1, i2⟩ := ut_t (la := la) (o := o) hF hT ((pts N n).drop 1) [] (n + 1) b (cCt N n z) hdn hsq1 hkc
        unfold cUn2
        rw [ut_0 _ _ _ hdn]
        generalize cU0 (fun a la => cF N mt f a la false) la o ((pts N n).drop 1) [] (cCt N n z) = W at *
        obtain ⟨o1, o2, o3⟩ := lds_o (z := W.1) (xs := W.2)
        exact tz_cg (tz_cg i1 (z2 := lds W.2 W.1) (congrArg (fun t => t.2.2) o1) (congrArg (fun t => t.1) o2)) (gb_e (la := la && decide (1 < ((pts N n).drop 1).length))).2.1 gb_dt
      by_cases w8 : wrd N n = 8
      · rw [if_pos w8]; exact ut 28 (Or.inl w8)
      rw [if_neg w8]
      by_cases w9 : wrd N n = 9
      · rw [if_pos w9]; exact ut 29 (Or.inr w9)
      rw [if_neg w9]
      by_cases w0 : wrd N n = 0
      · rw [if_pos w0]
        unfold cCl
        dsimp only
        exact tz_cg (cl_t hF hT (pts N n) (n + 1) b (cCt N n z) hsq hkc) rfl rfl
      rw [if_neg w0]
      by_cases w2 : wrd N n = 2
      · rw [if_pos w2]
        rw [w2] at cs
        obtain ⟨l1, l2⟩ := shp_2 cs
        obtain ⟨m0, m, e1, e2, e3, e4, e5, e6, e7, e8⟩ := big_tr h c6 hbb (by omega)
        exact tz_wk (la_t hF hT e5 hkc) (by omega) (Nat.le_refl _)
      rw [if_neg w2]
      by_cases w1 : wrd N n = 1
      · rw [if_pos w1]
        rw [w1] at cs
        have l1 := shp_1 cs
        obtain ⟨g', eg, _, t1, t2, _⟩ := two_tr h l1 hbb
        unfold cQt
        refine tz_cg (z1 := cDt (cDm N mt 40 (prt N n 1) (rDt (cCt N n z))).2 (cCt N n z)) ?_ (gb_e (la := la)).2.1 gb_dt
        exact fun _ => ⟨tgt_wk (dm_t 40 g' (prt N n 1) b (rDt (cCt N n z)) t1 (by omega) hbb) (by omega) (Nat.le_refl _), fun q => (dm_p 40 g' (prt N n 1) b (rDt (cCt N n z)) _ t1 (by omega) hbb q).1⟩
      rw [if_neg w1]
      have nv : ∀ (z0 : CR) (v : Nat), Trb g N v b → n + 1 ≤ v → z0.2.1 = (cCt N n z).2.1 → rDt z0 = rDt (cCt N n z) → TZ N mt (n + 1) b (cCt N n z) (cF N mt f v false false z0) := fun z0 v ht hv e1 e2 => tz_cl (tz_wk (hT v b false z0 ht (by rw [e1]; exact hkc)) hv (Nat.le_refl _)) e2
      by_cases w6 : wrd N n = 6
      · rw [if_pos w6]
        rw [w6] at cs
        obtain ⟨l1, l2⟩ := shp_6 cs
        obtain ⟨m1, t1, t2, t3, t4, _⟩ := three_tr h c6 hbb l1
        obtain ⟨z0, e0, s1, s2⟩ : ∃ z0, z0 = (if nCn N (prt N n 1) < 30 then cTl 5 (nQ N (prt N n 1)) (cCt N n z) else if cMn N (nCn N (prt N n 1)) (cCt N n z) then cCt N n z else cTl 4 (nQ N (prt N n 1)) (cCt N n z)) ∧ z0.2.1 = (cCt N n z).2.1 ∧ rDt z0 = rDt (cCt N n z) := by
          refine ⟨_, rfl, ?_⟩
          split
          · exact ⟨rfl, rfl⟩
          · split <;> exact ⟨rfl, rfl⟩
        unfold cSt
        dsimp only
        rw [← e0]
        have d1 := nv z0 (prt N n 2) ⟨t1, hbb⟩ (by omega) s1 s2
        have kk := (hF (prt N n 2) b false z0 ⟨t1, hbb⟩ (by rw [s1]; exact hkc)).2.2.1
        split
        · refine tz_cg (tz_cg d1 (z2 := cVr N (nCn N (prt N n 1)) 19 (rDp (cF N mt f (prt N n 2) false false z0)) (cF N mt f (prt N n 2) false false z0)) (vr_e (N := N) (j := nCn N (prt N n 1)) (o := 19) (dp := rDp (cF N mt f (prt N n 2) false false z0)) (a := 0) kk).2.2.2.2.2.2.2.2 ?_) (gb_e (la := la)).2.1 gb_dt
          unfold cVr
          split
          · rfl
          · split <;> rfl
        · exact tz_cg d1 (gb_e (la := la)).2.1 gb_dt
      · rw [if_neg w6]
        have w10 : wrd N n = 10 := by omega
        rw [w10] at cs
        obtain ⟨l0, l1, l2⟩ := shp_10 cs
        obtain ⟨m1, t1, t2, t3, t4, _⟩ := three_tr h c6 hbb l1
        obtain ⟨z0, e0, s1, s2⟩ : ∃ z0, z0 = (if nCn N (prt N n 1) < 30 then cTl 5 (nQ N (prt N n 1)) (cCt N n z) else if 100 ≤ (gdf N).idxOf (nCn N (prt N n 1)) ∧ nCn N (prt N n 1) ∈ gdf N then cTl 6 (nQ N (prt N n 1)) (cCt N n z) else cCt N n z) ∧ z0.2.1 = (cCt N n z).2.1 ∧ rDt z0 = rDt (cCt N n z) := by
          refine ⟨_, rfl, ?_⟩
          split
          · exact ⟨rfl, rfl⟩
          · split <;> exact ⟨rfl, rfl⟩
        unfold cDf
        dsimp only
        rw [← e0]
        exact tz_cg (nv z0 (prt N n 2) ⟨t1, hbb⟩ (by omega) s1 s2) rfl rfl
    · rw [if_neg c6]
      have gct : ∀ z1 : CR, rDt z1 = rDt z → TZ N mt n b z (cGb la (cCt N n z1)) := fun z1 e => tz_same (by rw [gb_dt, dtc, e])
      split
      · refine gct _ ?_
        unfold cNm
        split
        · rfl
        · split
          · rfl
          · split
            · unfold cVr
              split
              · rfl
              · split <;> rfl
            · rfl
      · exact gct _ rfl
end TAH
