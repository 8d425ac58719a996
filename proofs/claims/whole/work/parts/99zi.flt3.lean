/-! BUILD. Faults: forms -/
section FL3
variable {N : NS} {mt : List Nat} {z z1 z2 z' : CR} {y y1 y2 y' yr : MR} {n b g a m : Nat} {S : Shp} {la : Bool}
variable {F : Nat → Bool → CR → CR} {Fm : Nat → MR → MR}
theorem ct_flt (hn : rFl z = none) (hf : rFm z = mFm y) (hc : rFl (cCt N n z) ≠ none) : rFl (cCt N n z) = some (6, nQ N n) ∧ mWr (mCt N n y) = wMn (mWr y) 6 (nQ N n) := by
  by_cases c : 1500 < rFm z + 1
  · unfold cCt mCt
    rw [if_pos c, if_pos (by omega)]
    exact ⟨if_pos hn, rfl⟩
  · exfalso
    unfold cCt at hc
    rw [if_neg c] at hc
    exact hc hn
/-- the nodes of a form lie behind it, but for a quote sign's -/
theorem kid_lt (pl : Plo N) (hN : N.1 < 2000000000) (ht : Tr (g + 1) N n b) (h6 : nK N n = 6) (hn1 : 1 ≤ n) (hb : b ≤ N.1) (hw : wrd N n ≠ 1) : ∀ i, n + 1 ≤ i → i < b → nQ N n < nQ N i := fun i h1 h2 => by
  rcases pl n i hn1 (by omega) (by omega) with h | ⟨_, h3, _, h5, h7, h8⟩
  · exact h
  · exfalso
    apply hw
    obtain ⟨a1, a2, a3⟩ := tr_pts ht h6 (by omega)
    match hp : pts N n, a2, a3 with
    | [], a2, _ =>
      rw [h5] at a2
      have : nI i = -1 := a2
      have h9 := nI_nl (n := i) (by omega)
      rw [this] at h9
      exact absurd (by decide) h9
    | c :: l, _, a3 =>
      obtain ⟨e0, _⟩ := a3
      have ec : c = i := by omega
      unfold wrd
      rw [hp]
      dsimp only
      have : nCn N c = 0 := by
        unfold nCn
        rw [ec, h8]
        rfl
      rw [this, if_pos ⟨by rw [ec]; exact h7, by omega⟩]
theorem fo_ct (pl : Plo N) (hN : N.1 < 2000000000) (ht : Tr (g + 1) N n b) (h6 : nK N n = 6) (hn1 : 1 ≤ n) (hb : b ≤ N.1) (hk : KI z.2.1) (hP : SRp S z y) (hn : rFl z = none) (hw : wrd N n ≠ 1) (E : rFl (cCt N n z) ≠ none → rFl z' = rFl (cCt N n z)) (M : MEf N (n + 1) b yr y') (e : mWr yr = mWr (mCt N n y)) (h : rFl (cCt N n z) = none → FO N n b z' (mCt N n y) y') : FO N n b z' y y' := by
  have hlt := tr_lt _ _ _ _ ht
  by_cases c : rFl (cCt N n z) = none
  · obtain ⟨Xc, _⟩ := xo_ct (N := N) (n := n) c hk hP
    exact fo_snd Xc.2.2.2.2.2.2 (h c) (Nat.le_refl _)
  · obtain ⟨c1, c2⟩ := ct_flt hn hP.2.2.2.1 c
    intro k p hk'
    rw [E c, c1] at hk'
    injection hk' with hk'
    injection hk' with h1 h2
    subst h1
    subst h2
    exact ⟨wr_keep M (e.trans c2) (kid_lt pl hN ht h6 hn1 hb hw), n, Nat.le_refl _, hlt, rfl⟩
theorem leaf_flt (ht : Tr (g + 1) N n b) (hP : SRp S z y) (hn : rFl z = none) {o v : Int32} {dp : Nat} : FO N n b (cGb la (cCt N n (cE o v dp z))) y (mCt N n y) := by
  have hlt := tr_lt _ _ _ _ ht
  intro k p h
  rw [(gb_e (z := cCt N n (cE o v dp z)) (la := la)).2.1] at h
  obtain ⟨c1, c2⟩ := ct_flt (z := cE o v dp z) (y := y) (N := N) (n := n) hn hP.2.2.2.1 (by rw [h]; simp)
  rw [c1] at h
  injection h with h
  injection h with h1 h2
  subst h1
  subst h2
  exact ⟨c2, n, Nat.le_refl _, hlt, rfl⟩
theorem mct_wr : mWr (mCt N n y) = mWr y ∨ mWr (mCt N n y) = wMn (mWr y) 6 (nQ N n) := by
  unfold mCt
  split
  · exact Or.inr rfl
  · exact Or.inl rfl
theorem name_flt (ht : Tr (g + 1) N n b) (hk : KI z.2.1) (hP : SRp S z y) (hn : rFl z = none) : FO N n b (cGb la (cCt N n (cNm N n z))) y (mUs N n (mCt N n y)) := by
  have hlt := tr_lt _ _ _ _ ht
  obtain ⟨v1, v2, v3, v4, v5⟩ := cNm_e (N := N) (n := n) (a := n) hk
  have Ec := (ef_Ct (N := N) (z := cNm N n z) (n := n)).1
  intro k p h
  rw [(gb_e (z := cCt N n (cNm N n z)) (la := la)).2.1] at h
  have fin : ∀ kk, rFl (cNm N n z) = some (kk, nQ N n) → kk ≤ 6 → mWr (mUs N n (mCt N n y)) = wMn (mWr (mCt N n y)) kk (nQ N n) → mWr (mUs N n (mCt N n y)) = wMn (mWr y) k p ∧ ∃ i, n ≤ i ∧ i < b ∧ p = nQ N i := fun kk h1 h2 h3 => by
    rw [Ec.1 (by rw [h1]; simp), h1] at h
    injection h with h
    injection h with h4 h5
    subst h4
    subst h5
    refine ⟨?_, n, Nat.le_refl _, hlt, rfl⟩
    rw [h3]
    rcases mct_wr (N := N) (n := n) (y := y) with e | e
    · rw [e]
    · rw [e]; exact wmn_k h2
  by_cases c10 : nCn N n < 10
  · have e1 : cNm N n z = cTl 3 (nQ N n) z := by unfold cNm; rw [if_pos c10]
    have e2 : mUs N n (mCt N n y) = mW 3 (nQ N n) (mCt N n y) := by unfold mUs; rw [if_pos c10]
    exact fin 3 (by rw [e1]; exact if_pos hn) (by decide) (by rw [e2]; rfl)
  · have cnt : rFl (cNm N n z) = none → mWr (mUs N n (mCt N n y)) = mWr (mCt N n y) → mWr (mUs N n (mCt N n y)) = wMn (mWr y) k p ∧ ∃ i, n ≤ i ∧ i < b ∧ p = nQ N i := fun h1 h2 => by
      obtain ⟨w1, w2, w3, w4⟩ := v5 h1
      obtain ⟨c1, c2⟩ := ct_flt (z := cNm N n z) (y := y) (N := N) (n := n) h1 (w3.trans hP.2.2.2.1) (by rw [h]; simp)
      rw [c1] at h
      injection h with h
      injection h with h4 h5
      subst h4
      subst h5
      exact ⟨h2.trans c2, n, Nat.le_refl _, hlt, rfl⟩
    by_cases c30 : nCn N n < 30
    · have e1 : cNm N n z = cE 8 (nI (nCn N n - 10)) (rDp z + 1) z := by unfold cNm; rw [if_neg c10, if_pos c30]
      have e2 : mUs N n (mCt N n y) = mMn n 4 (nI (nCn N n + 1)) (mCt N n y) := by unfold mUs; rw [if_neg c10, if_pos c30]
      exact cnt (by rw [e1]; exact hn) (by rw [e2]; rfl)
    · have hA1 : SRa z (mCt N n y) := sra_n hP.1 rfl rfl (mef_Ct (N := N) (a := n) (b := n + 1) (n := n) ⟨Nat.le_refl _, Nat.lt_succ_self _⟩)
      have e2 : mCt N n y = ((mCt N n y).1, (mCt N n y).2) := rfl
      have q1 : (mCt N n y).2.1 = y.2.1 ∧ (mCt N n y).2.2.1 = y.2.2.1 := by
        unfold mCt
        split <;> exact ⟨rfl, rfl⟩
      by_cases cm : cMn N (nCn N n) z = true
      · have e1 : cNm N n z = cVr N (nCn N n) 16 (rDp z + 1) z := by unfold cNm; rw [if_neg c10, if_neg c30, if_pos cm]
        have hE1 : SRe z (mCt N n y) := sre_same hP.2.2.1 rfl (congrArg (fun t => t.1) q1.1) (congrArg (fun t => t.2.1) q1.1) (congrArg (fun t => t.2.2.1) q1.1) (congrArg (fun t => t.2.2.2.2) q1.2)
        obtain ⟨_, _, u3, _⟩ := us_sim (n := n) hA1 (fun l a b => (hE1 l a b).1) (by omega) cm
        exact cnt (by rw [e1, (vr_e (N := N) (j := nCn N n) (o := 16) (dp := rDp z + 1) (a := 0) hk).2.2.2.2.2.2.2.2]; exact hn) u3
      · have e1 : cNm N n z = cTl 4 (nQ N n) z := by unfold cNm; rw [if_neg c10, if_neg c30, if_neg cm]
        have e3 : mUs N n (mCt N n y) = mW 4 (nQ N n) (mCt N n y) := by
          unfold cMn at cm
          simp only [Bool.or_eq_true, decide_eq_true_eq, not_or] at cm
          unfold mUs
          rw [if_neg c10, if_neg c30, fd_eq hA1]
          have hb : cFd (nCn N n) (rSc z) = none := by
            cases hb : cFd (nCn N n) (rSc z) with
            | none => rfl
            | some b => rw [hb] at cm; exact absurd rfl cm.1
          rw [hb]
          dsimp only
          rw [if_neg cm.2]
        exact fin 4 (by rw [e1]; exact if_pos hn) (by decide) (by rw [e3]; rfl)
theorem ut_flt {o : Int32} (pl : Plo N) (hN : N.1 < 2000000000) (hF : CFs N g F) (hM : MFs N g Fm) (hS : SFs N mt g F Fm) (hX : FFs N g F Fm) : ∀ (l xs : List Nat) (a b : Nat) (S : Shp) (z : CR) (y : MR), l ≠ [] → Sqn g N l a b → 1 ≤ a → b ≤ N.1 → KI z.2.1 → SRp S z y → rFl z = none → FO N a b (cU0 F la o l xs z).1 y (mBo Fm l y)
  | [], _, _, _, _, _, _, h, _, _, _, _, _, _ => absurd rfl h
  | [v], xs, a, b, S, z, y, _, hs, ha, hb, hk, hP, hn => by
    obtain ⟨h1, m, h2, h3, h4, h5⟩ := hs
    exact fo_wk (hX v m la S z y h2 (by omega) (by omega) hk hP hn) h1 h4
  | v :: w :: l, xs, a, b, S, z, y, _, hs, ha, hb, hk, hP, hn => by
    obtain ⟨h1, m, h2, h3, h4, h5⟩ := hs
    have E1 := hF v m false z h2 hk
    have M1 := hM v m y h2 (by omega) hP.1.2.2.2.1
    have f1 := hX v m false S z y h2 (by omega) (by omega) hk hP hn
    by_cases c : rFl (F v false z) = none
    · have so := hS v m false S z y h2 (by omega) (by omega) hk hP c
      have X1 := xo_so E1 M1 so c
      have hA1 := xo_a hP X1
      have hD1 := srd_n hP.2.1 E1.1 E1.2.1 hP.1 M1 (E1.2.2.2.2 c).1
      have hP2 : SRp S (cE o (oI xs.head?) (rDp (F v false z) - 1) (F v false z)) (Fm v y) := ⟨hA1, srd_d hD1 rfl rfl rfl rfl, sre_same X1.2.2.2.2.1 rfl rfl rfl rfl rfl, X1.2.2.2.1.1, X1.2.2.2.1.2⟩
      exact fo_snd X1.2.2.2.2.2.2 (ut_flt pl hN hF hM hS hX (w :: l) ((rCd (F v false z)).length :: xs) m b S (cE o (oI xs.head?) (rDp (F v false z) - 1) (F v false z)) (Fm v y) (by simp) h5 (by omega) hb E1.2.2.1 hP2 c) (by omega)
    · have M2 := bo_m hM (w :: l) m b (Fm v y) h5 (by omega) (ai_ef M1 hP.1.2.2.2.1)
      have key : ∀ (l xs : List Nat) (a b : Nat) (z : CR), Sqn g N l a b → KI z.2.1 → rFl z ≠ none → rFl (cU0 F la o l xs z).1 = rFl z := by
        intro l
        induction l with
        | nil => intro _ _ _ _ _ _ _; rfl
        | cons v l ih =>
          intro xs a b z hs hk hc
          obtain ⟨h1, m, h2, h3, h4, h5⟩ := hs
          cases l with
          | nil => exact (hF v m la z h2 hk).2.2.2.1.1 hc
          | cons w l =>
            have E := hF v m false z h2 hk
            have e1 := E.2.2.2.1.1 hc
            have := ih ((rCd (F v false z)).length :: xs) m b (cE o (oI xs.head?) (rDp (F v false z) - 1) (F v false z)) h5 E.2.2.1 (by show rFl (F v false z) ≠ none; rw [e1]; exact hc)
            exact this.trans e1
      exact fo_wk (fo_fst pl hN h2.1 (by omega) h4 hb f1 c (key (w :: l) ((rCd (F v false z)).length :: xs) m b (cE o (oI xs.head?) (rDp (F v false z) - 1) (F v false z)) h5 E1.2.2.1 c) M2) h1 (Nat.le_refl _)
theorem if_flt {u v w : Nat} (pl : Plo N) (hN : N.1 < 2000000000) (hF : CFs N g F) (hM : MFs N g Fm) (hS : SFs N mt g F Fm) (hX : FFs N g F Fm) (hs : Sqn g N [u, v, w] a b) (ha : 1 ≤ a) (hb : b ≤ N.1) (hk : KI z.2.1) (hP : SRp S z y) (hn : rFl z = none) : FO N a b (cIf F la u v w z) y (mBo Fm [u, v, w] y) := by
  obtain ⟨s1, m1, t1, q1, r1, s2, m2, t2, q2, r2, s3, m3, t3, q3, s4, s5⟩ := hs
  have s5 : m3 ≤ b := s5
  have E1 := hF u m1 false z t1 hk
  have E2 := hF v m2 la (cE 27 0 (rDp (F u false z) - 1) (F u false z)) t2 E1.2.2.1
  have M1 := hM u m1 y t1 (by omega) hP.1.2.2.2.1
  have ai1 := ai_ef M1 hP.1.2.2.2.1
  have M2 := hM v m2 (Fm u y) t2 (by omega) ai1
  have ai2 := ai_ef M2 ai1
  have M3 := hM w m3 (Fm v (Fm u y)) t3 (by omega) ai2
  have f1 := hX u m1 false S z y t1 (by omega) (by omega) hk hP hn
  show FO N a b (cIf F la u v w z) y (Fm w (Fm v (Fm u y)))
  unfold cIf
  dsimp only
  generalize hz1 : F u false z = z1 at *
  generalize hz2 : F v la (cE 27 0 (rDp z1 - 1) z1) = z2 at *
  obtain ⟨z3, ez3, p1, p2, p3⟩ : ∃ z3, z3 = (if la then z2 else cE 26 0 (rDp z2) z2) ∧ z3.2.1 = z2.2.1 ∧ rFl z3 = rFl z2 ∧ (rDp z3 = rDp z2 ∧ rFm z3 = rFm z2 ∧ rLm z3 = rLm z2) := by
    cases la
    · exact ⟨_, rfl, rfl, rfl, rfl, rfl, rfl⟩
    · exact ⟨_, rfl, rfl, rfl, rfl, rfl, rfl⟩
  rw [← ez3]
  have kD : KI (cLd (rCd z1).length (cDp (rDp z3 - 1) z3)).2.1 := by
    show KI z3.2.1
    rw [p1]; exact E2.2.2.1
  have E4 := hF w m3 la (cLd (rCd z1).length (cDp (rDp z3 - 1) z3)) t3 kD
  generalize hz4 : F w la (cLd (rCd z1).length (cDp (rDp z3 - 1) z3)) = z4 at *
  have efl : rFl (if la = true then z4 else cLd (rCd z2).length z4) = rFl z4 := by
    split <;> rfl
  by_cases c1 : rFl z1 = none
  · have so1 := hS u m1 false S z y t1 (by omega) (by omega) hk hP (by rw [hz1]; exact c1)
    rw [hz1] at so1
    have X1 := xo_so E1 M1 so1 c1
    have A1 := xo_a hP X1
    have D1 := srd_n hP.2.1 E1.1 E1.2.1 hP.1 M1 (E1.2.2.2.2 c1).1
    have P1e : SRp S (cE 27 0 (rDp z1 - 1) z1) (Fm u y) := ⟨A1, srd_d D1 rfl rfl rfl rfl, sre_same X1.2.2.2.2.1 rfl rfl rfl rfl rfl, X1.2.2.2.1.1, X1.2.2.2.1.2⟩
    have f2 := hX v m2 la S (cE 27 0 (rDp z1 - 1) z1) (Fm u y) t2 (by omega) (by omega) E1.2.2.1 P1e c1
    rw [hz2] at f2
    refine fo_snd (m := m1) X1.2.2.2.2.2.2 ?_ (by omega)
    by_cases c2 : rFl z2 = none
    · have so2 := hS v m2 la S (cE 27 0 (rDp z1 - 1) z1) (Fm u y) t2 (by omega) (by omega) E1.2.2.1 P1e (by rw [hz2]; exact c2)
      rw [hz2] at so2
      have X2 := xo_so E2 M2 so2 c2
      have A2 := xo_a P1e X2
      have D2 := srd_n P1e.2.1 E2.1 E2.2.1 P1e.1 M2 (E2.2.2.2.2 c2).1
      have PD : SRp S (cLd (rCd z1).length (cDp (rDp z3 - 1) z3)) (Fm v (Fm u y)) := by
        refine ⟨?_, srd_d (z := z2) D2 (s_of p1).1 (s_of p1).2.1 (by show rDp z3 - 1 = _; rw [p3.1]) rfl, sre_same X2.2.2.2.2.1 p1 rfl rfl rfl rfl, by show rFm z3 = _; rw [p3.2.1]; exact X2.2.2.2.1.1, by show (rLm z3).length = _; rw [p3.2.2]; exact X2.2.2.2.1.2⟩
        have s3' : scD (cLd (rCd z1).length (cDp (rDp z3 - 1) z3)) = scD z2 := by
          funext i
          show (rSc z3).getD i (0, 0, 0) = _
          rw [(s_of p1).1]; rfl
        unfold SRa at A2 ⊢
        rw [s3']
        show ((rSc z3).length = _ ∧ rBd z3 = _) ∧ (∀ i, i < (rSc z3).length → _) ∧ _
        rw [(s_of p1).1, (s_of p1).2.1]
        exact A2
      have f3 := hX w m3 la S (cLd (rCd z1).length (cDp (rDp z3 - 1) z3)) (Fm v (Fm u y)) t3 (by omega) (by omega) kD PD (by show rFl z3 = none; rw [p2]; exact c2)
      rw [hz4] at f3
      refine fo_snd (m := m2) X2.2.2.2.2.2.2 ?_ (by omega)
      intro k p h
      rw [efl] at h
      obtain ⟨x1, i, x2, x3, x4⟩ := f3 k p h
      exact ⟨x1, i, by omega, by omega, x4⟩
    · have e4 : rFl z4 = rFl z2 := by
        rw [E4.2.2.2.1.1 (by show rFl z3 ≠ none; rw [p2]; exact c2)]
        exact p2
      exact fo_wk (fo_fst pl hN t2.1 (by omega) r2 hb f2 c2 (efl.trans e4) (mef_wk M3 s3 s5)) (by omega) (Nat.le_refl _)
  · have e2 : rFl z2 = rFl z1 := E2.2.2.2.1.1 c1
    have e4 : rFl z4 = rFl z1 := by
      rw [E4.2.2.2.1.1 (by show rFl z3 ≠ none; rw [p2, e2]; exact c1)]
      exact p2.trans e2
    exact fo_wk (fo_fst pl hN t1.1 (by omega) r1 hb f1 c1 (efl.trans e4) (mef_tr (mef_wk (a' := m1) (b' := b) M2 s2 r2) (mef_wk M3 (by omega) s5))) s1 (Nat.le_refl _)
end FL3
