/-! BUILD. The two compilers against each other: begin, and, or, if, set -/
section SMA
variable {N : NS} {mt : List Nat} {z z1 z2 z' zm : CR} {y y1 y2 y' ym : MR} {n b g a m n1 b1 : Nat} {G : PG} {S : Shp} {la : Bool}
variable {F : Nat → Bool → CR → CR} {Fm : Nat → MR → MR}
theorem drop_map {l : List Nat} {c : Nat} {t : List Nat} (h : l.map (· - 1) = c :: t) : (l.drop 1).map (· - 1) = t := by
  cases l with
  | nil => cases h
  | cons x l =>
    cases h
    rfl
theorem begin_sim (nk : Nok N mt) (hF : CFs N g F) (hM : MFs N g Fm) (hS : SFs N mt g F Fm) (ht : Tr (g + 1) N n b) (h6 : nK N n = 6) (hn1 : 1 ≤ n) (hb : b ≤ N.1) (hk : KI z.2.1) (hP : SRp S z y) (hw : wrd N n = 7) (hl : 2 ≤ (pts N n).length) (hn : rFl (cBo F la ((pts N n).drop 1) (cCt N n z)) = none) : SO N mt (g + 1) n b la S z (cBo F la ((pts N n).drop 1) (cCt N n z)) y (mBo Fm ((pts N n).drop 1) (mCt N n y)) := by
  have hbb : b < 2000000000 := by have := nk.2.2; omega
  have hsq := sqn_drop 1 _ _ _ (frs_sqn _ _ _ (tr_pts ht h6 hbb).2.2 hbb)
  have hdn : (pts N n).drop 1 ≠ [] := dr_ne (by omega)
  have hpne : pts N n ≠ [] := fun e => by rw [e] at hl; simp at hl
  have hkc : KI (cCt N n z).2.1 := by rw [(ef_Ct (N := N) (z := z) (n := n)).2.1]; exact hk
  have Ce := bo_e hF (la := la) _ (n + 1) b (cCt N n z) hdn hsq hkc
  have hn0 : rFl (cCt N n z) = none := ef_no Ce.2.2.2.1 hn
  obtain ⟨Xc, Pc, cd0, hL, hla⟩ := xo_ct (N := N) (n := n) hn0 hk hP
  obtain ⟨X2, D2, G2⟩ := bo_sim (la := la) hF hM hS _ (n + 1) b S (cCt N n z) (mCt N n y) hdn hsq (by omega) hb hkc Pc hn
  have Ce' := Ce.2.2.2.2 hn
  have dpc : rDp (cCt N n z) = rDp z := (ef_Ct (N := N) (z := z) (n := n)).2.2.1
  refine so_ct nk ht h6 hn1 hb hk hP hn0 hpne X2 (by omega) (by rw [← cd0]; exact Ce'.2.2.2.2) (fun G gs H m1 m2 hpd c l hcl fw ch => ⟨fun Q q => q ?_, ?_⟩)
  · obtain ⟨d1, d2⟩ := G2 G gs H
    obtain ⟨⟨k1, k2, k3, k4⟩, k5, k6, k7⟩ := cod_l (z0 := z) gs ht h6 hn1 hb hpd (by rw [← cd0]; exact Ce'.2.2.2.2) H.1.2 ch fw
    rw [hL, cd0, drop_map hcl] at d1
    rw [hw] at k7
    refine ⟨k1, k2, k3, k4, Or.inr ⟨k5, c, l, 7, k6, k7, ?_⟩⟩
    exact Or.inr (Or.inr (Or.inr (Or.inr (Or.inr (Or.inr (Or.inr (Or.inl ⟨rfl, d1⟩)))))))
  · intro M h1 h2
    exact (G2 G gs H).2 M (by omega) h2
/-- scope, counts and keeps do not see where jumps land -/
theorem xo_ld {xs : List Nat} (h : XO N a b z z1 y y1) (hx : ∀ x, x ∈ xs → (rCd z).length ≤ x) : XO N a b z (lds xs z1) y y1 := by
  obtain ⟨p1, p2, ⟨p3, p4, p5⟩, p6, p7, p8, p9⟩ := h
  obtain ⟨l1, l2, l3⟩ := lds_o (z := z1) (xs := xs)
  have s1 : (lds xs z1).2.1 = z1.2.1 := congrArg (fun t => t.1) l1
  have d1 : rSr (lds xs z1) = rSr z1 := congrArg (fun t => t.2.2) l2
  have d2 : rDt (lds xs z1) = rDt z1 := congrArg (fun t => t.1) l2
  have d3 : rLm (lds xs z1) = rLm z1 := congrArg (fun t => t.2.1) l2
  have d4 : rDx (lds xs z1) = rDx z1 := congrArg (fun t => t.2.1.2.2) l1
  have d5 : rKp (lds xs z1) = rKp z1 := congrArg (fun t => t.1.2.2) l1
  have d6 : rFm (lds xs z1) = rFm z1 := congrArg (fun t => t.2.1.1) l1
  obtain ⟨⟨o1, o2, o3, o4⟩, o5, o6, o7, o8, o9, o10⟩ := p1
  refine ⟨?_, p2, ⟨(s_of s1).1.trans p3, (s_of s1).2.1.trans p4, by rw [s1]; exact p5⟩, ⟨by rw [d6]; exact p6.1, by rw [d3]; exact p6.2⟩, sre_same p7 s1 rfl rfl rfl rfl, ?_, p9⟩
  · unfold OKe
    rw [d1, d2, d3, d4, d5, d6]
    exact ⟨⟨lds_p xs z1 o1 hx, o2, o3, o4⟩, o5, o6, o7, o8, o9, o10⟩
  · obtain ⟨U, u⟩ := p8
    exact ⟨U, fun l hl x => by rw [d5]; exact u l hl x⟩
theorem until_sim {o : Int32} (nk : Nok N mt) (hF : CFs N g F) (hM : MFs N g Fm) (hS : SFs N mt g F Fm) (ht : Tr (g + 1) N n b) (h6 : nK N n = 6) (hn1 : 1 ≤ n) (hb : b ≤ N.1) (hk : KI z.2.1) (hP : SRp S z y) (hw : (wrd N n = 8 ∧ o = 28) ∨ (wrd N n = 9 ∧ o = 29)) (hl : 2 ≤ (pts N n).length) (hn : rFl (cUn2 F la o ((pts N n).drop 1) (cCt N n z)) = none) : SO N mt (g + 1) n b la S z (cUn2 F la o ((pts N n).drop 1) (cCt N n z)) y (mBo Fm ((pts N n).drop 1) (mCt N n y)) := by
  have hbb : b < 2000000000 := by have := nk.2.2; omega
  have hsq := sqn_drop 1 _ _ _ (frs_sqn _ _ _ (tr_pts ht h6 hbb).2.2 hbb)
  have hdn : (pts N n).drop 1 ≠ [] := dr_ne (by omega)
  have hpne : pts N n ≠ [] := fun e => by rw [e] at hl; simp at hl
  have hkc : KI (cCt N n z).2.1 := by rw [(ef_Ct (N := N) (z := z) (n := n)).2.1]; exact hk
  have Ce := un2_e hF (la := la) (o := o) hsq hdn hkc
  have hn0 : rFl (cCt N n z) = none := ef_no Ce.2.2.2.1 hn
  obtain ⟨Xc, Pc, cd0, hL, hla⟩ := xo_ct (N := N) (n := n) hn0 hk hP
  have eU : cUn2 F la o ((pts N n).drop 1) (cCt N n z) = cGb (la && decide (1 < ((pts N n).drop 1).length)) (lds (cU0 F la o ((pts N n).drop 1) [] (cCt N n z)).2 (cU0 F la o ((pts N n).drop 1) [] (cCt N n z)).1) := by
    unfold cUn2
    rw [ut_0 _ _ _ hdn]
  have Ce' := Ce.2.2.2.2 hn
  have dpc : rDp (cCt N n z) = rDp z := (ef_Ct (N := N) (z := z) (n := n)).2.2.1
  rw [eU] at hn Ce' ⊢
  generalize hzU : cU0 F la o ((pts N n).drop 1) [] (cCt N n z) = U at *
  have hnU : rFl U.1 = none := by
    rw [(gb_e (z := lds U.2 U.1)).2.1] at hn
    have : rFl (lds U.2 U.1) = rFl U.1 := congrArg (fun t => t.2.2) (lds_o (z := U.1) (xs := U.2)).1
    rw [← this]; exact hn
  obtain ⟨X2, D2, A2, B2, G2⟩ := ut_sim (la := la) (o := o) hF hM hS ((pts N n).drop 1) [] (n + 1) b S (cCt N n z) (mCt N n y) hdn hsq (by omega) hb hkc Pc (by rw [hzU]; exact hnU) (fun x hx => by cases hx)
  rw [hzU] at X2 D2 A2 B2 G2
  have hx2 : ∀ x, x ∈ U.2 → (rCd (cCt N n z)).length ≤ x ∧ x < (rCd U.1).length := fun x hx => by
    rcases A2 x hx with h | h
    · cases h
    · exact h
  have X3 : XO N (n + 1) b (cCt N n z) (lds U.2 U.1) (mCt N n y) (mBo Fm ((pts N n).drop 1) (mCt N n y)) := xo_ld X2 (fun x hx => (hx2 x hx).1)
  have hlds : (rCd (lds U.2 U.1)).length = (rCd U.1).length := lds_o.2.2
  have P3 : SRp (S ++ [none]) (lds U.2 U.1) (mBo Fm ((pts N n).drop 1) (mCt N n y)) := by
    have l1 := (lds_o (z := U.1) (xs := U.2)).1
    have s1 : (lds U.2 U.1).2.1 = U.1.2.1 := congrArg (fun t => t.1) l1
    have d0 : rDp (lds U.2 U.1) = rDp U.1 := congrArg (fun t => t.2.1.2.1) l1
    refine ⟨xo_a Pc X3, ?_, X3.2.2.2.2.1, X3.2.2.2.1.1, X3.2.2.2.1.2⟩
    have s3 : scD (lds U.2 U.1) = scD U.1 := by funext i; unfold scD; rw [(s_of s1).1]
    unfold SRd at D2 ⊢
    rw [d0, (s_of s1).1, (s_of s1).2.1, s3]
    exact D2
  have X3r := xo_rf (N := N) (a := b) X3.2.2.1.2.2 P3
  have hgb : ∀ la', XO N b b (lds U.2 U.1) (cGb la' (lds U.2 U.1)) (mBo Fm ((pts N n).drop 1) (mCt N n y)) (mBo Fm ((pts N n).drop 1) (mCt N n y)) := fun la' => by
    unfold cGb
    split
    · exact xo_E X3r
    · exact X3r
  have X4 := xo_tr X3 (hgb (la && decide (1 < ((pts N n).drop 1).length))) (by have := seq_le _ _ _ hsq; omega) (Nat.le_refl _)
  refine so_ct nk ht h6 hn1 hb hk hP hn0 hpne X4 (by omega) (by rw [← cd0]; exact Ce'.2.2.2.2) (fun G gs H m1 m2 hpd c l hcl fw ch => ?_)
  have Hf := hg_fst H X3 (hgb _) Pc.1 (Nat.le_refl _) (by omega) (Nat.le_refl _)
  obtain ⟨d1, d2⟩ := G2 G gs Hf
  refine ⟨fun Q q => q ?_, fun M h1 h2 => d2 M (by omega) h2⟩
  obtain ⟨⟨k1, k2, k3, k4⟩, k5, k6, k7⟩ := cod_l (z0 := z) gs ht h6 hn1 hb hpd (by rw [← cd0]; exact Ce'.2.2.2.2) H.1.2 ch fw
  have hdm := drop_map hcl
  rw [hL, cd0, hdm] at d1
  have hlen : l.length = ((pts N n).drop 1).length := by rw [← hdm, List.length_map]
  have hlen0 : 0 < ((pts N n).drop 1).length := List.length_pos_iff.mpr hdn
  have tail : (l.length = 1 ∧ (rCd (cGb (la && decide (1 < ((pts N n).drop 1).length)) (lds U.2 U.1))).length = (rCd U.1).length) ∨ (1 < l.length ∧ Gb G la (rCd U.1).length (rCd (cGb (la && decide (1 < ((pts N n).drop 1).length)) (lds U.2 U.1))).length) := by
    by_cases c1 : 1 < ((pts N n).drop 1).length
    · refine Or.inr ⟨by omega, ?_⟩
      rw [decide_eq_true c1, Bool.and_true] at H ⊢
      cases la
      · refine Or.inr ⟨rfl, ?_⟩
        rw [gb_cd]
        simp only [Bool.false_eq_true, if_false, List.append_nil]
        exact hlds
      · refine Or.inl ⟨rfl, ?_, ?_⟩
        · have := (opz_at (z1 := lds U.2 U.1) (u := 34) (v := 0) (dp := rDp (lds U.2 U.1)) H X3.1.1.1.length_le (List.prefix_refl _) rfl).1
          rw [hlds] at this
          exact this
        · rw [gb_cd, if_pos rfl, List.length_append, hlds]
          rfl
    · refine Or.inl ⟨by omega, ?_⟩
      rw [decide_eq_false c1, Bool.and_false, gb_cd]
      simp only [Bool.false_eq_true, if_false, List.append_nil]
      exact hlds
  refine ⟨k1, k2, k3, k4, Or.inr ⟨k5, c, l, wrd N n, k6, k7, ?_⟩⟩
  refine Or.inr (Or.inr (Or.inr (Or.inr (Or.inr (Or.inr (Or.inr (Or.inr (Or.inl ⟨?_, (rCd U.1).length, ?_, tail⟩))))))))
  · rcases hw with ⟨h, _⟩ | ⟨h, _⟩
    · exact Or.inl h
    · exact Or.inr h
  · rcases hw with ⟨h, rfl⟩ | ⟨h, rfl⟩
    · rw [h, if_pos rfl]; exact d1
    · rw [h, if_neg (by decide)]; exact d1
end SMA
