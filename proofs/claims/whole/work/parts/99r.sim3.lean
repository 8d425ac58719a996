/-! BUILD. The two compilers against each other: leaves -/
def SRp (S : Shp) (z : CR) (y : MR) : Prop := SRa z y ∧ SRd S z y ∧ SRe z y ∧ rFm z = mFm y ∧ (rLm z).length = mLa y
def SO (N : NS) (mt : List Nat) (g n b : Nat) (la : Bool) (S : Shp) (z z' : CR) (y y' : MR) : Prop := (rFm z' = mFm y' ∧ (rLm z').length = mLa y') ∧ SRe z' y' ∧ Uq z z' y y' ∧ mWr y' = mWr y ∧ ∀ G, GS N mt G → HG G z z' y y' n b → Cod G (mAr y (mLv y)) g (n - 1) la S (rCd z).length (rCd z').length ∧ ∀ M, mLa y < M → M ≤ mLa y' → WGM G M
section SM4
variable {N : NS} {mt : List Nat} {z z1 z' : CR} {y y1 y' : MR} {n b g : Nat} {G : PG} {S : Shp} {la : Bool}
theorem ct_sim (hn : rFl (cCt N n z) = none) (hf : rFm z = mFm y) : (mWr (mCt N n y) = mWr y ∧ mFm (mCt N n y) = mFm y + 1 ∧ (mCt N n y).1 = y.1 ∧ (mCt N n y).2.1 = y.2.1 ∧ (mCt N n y).2.2.1 = y.2.2.1) ∧ rFm (cCt N n z) = rFm z + 1 ∧ (cCt N n z).1 = z.1 ∧ (cCt N n z).2.1 = z.2.1 ∧ rDp (cCt N n z) = rDp z ∧ rDx (cCt N n z) = rDx z := by
  have h1 := (ef_Ct (N := N) (z := z) (n := n)).2.2.2.2.2 hn
  unfold mCt cCt
  rw [if_neg (by omega), if_neg (by omega)]
  exact ⟨⟨rfl, rfl, rfl, rfl, rfl⟩, rfl, rfl, rfl, rfl, rfl⟩
theorem cd_at {u v : Int32} {t : List (Int32 × Int32)} (H : HG G z z' y y' n b) (e : rCd z' = rCd z ++ (u, v) :: t) : G.1 1 (rCd z).length = u ∧ G.1 2 (rCd z).length = v := by
  have h := H.1.1 (rCd z).length (Nat.le_refl _) (by rw [e, List.length_append, List.length_cons]; omega)
  rw [e, List.getElem?_append_right (Nat.le_refl _), Nat.sub_self] at h
  injection h with h
  injection h with h1 h2
  exact ⟨h1.symm, h2.symm⟩
theorem gb_cd : rCd (cGb la z) = rCd z ++ (if la then [(34, 0)] else []) := by
  unfold cGb
  cases la
  · rw [if_neg (by decide), if_neg (by decide), List.append_nil]
  · rw [if_pos rfl, if_pos rfl]
    rfl
/-- what gives a value back, behind one operation -/
theorem gb_at {u v : Int32} (H : HG G z z' y y' n b) (e : rCd z' = rCd z ++ (u, v) :: (if la then [(34, 0)] else [])) : Gb G la ((rCd z).length + 1) (rCd z').length := by
  cases la
  · rw [if_neg (by decide)] at e
    exact Or.inr ⟨rfl, by rw [e, List.length_append]; rfl⟩
  · rw [if_pos rfl] at e
    refine Or.inl ⟨rfl, ?_, by rw [e, List.length_append]; rfl⟩
    have h := H.1.1 ((rCd z).length + 1) (Nat.le_succ _) (by rw [e, List.length_append]; show _ < _ + 2; omega)
    rw [e, List.getElem?_append_right (Nat.le_succ _), show (rCd z).length + 1 - (rCd z).length = 1 by omega] at h
    injection h with h
    injection h with h1 h2
    exact h1.symm
theorem uq_kp {j : Nat} (hv : rBd z = mLv y) (h1 : ∀ l, l ≤ rBd z → ∀ x, x ∈ rKp z' l ↔ x ∈ rKp z l ∨ Vf j z l x) (h2 : ∀ l, l ≤ mLv y → ∀ x, x ∈ fes y' (mAr y l) ↔ x ∈ fes y (mAr y l) ∨ Vf j z l x) : Uq z z' y y' := ⟨fun l x => Vf j z l x, fun l hl x => ⟨h1 l (by omega) x, h2 l hl x⟩⟩
/-- the code of one operation that puts a value on the stack -/
theorem lf_cod {u v : Int32} (gs : GS N mt G) (H : HG G z z' y y' n b) (e : rCd z' = rCd z ++ (u, v) :: (if la then [(34, 0)] else [])) (hn : 1 ≤ n) (hb : n < N.1) (hd : S.length = rDp z) (hx : rDp z + 1 ≤ rDx z') (hf : Lf G (mAr y (mLv y)) S (n - 1) (rCd z).length) : Cod G (mAr y (mLv y)) (g + 1) (n - 1) la S (rCd z).length (rCd z').length := by
  have h1 := H.2.2.1.1
  have h2 := gs.1.1
  refine ⟨by omega, by omega, ?_, H.1.2, Or.inl ⟨hf, gb_at H e⟩⟩
  rw [e, List.length_append, List.length_cons]
  omega
/-- integers and truths -/
theorem leaf_sim (ht : Tr (g + 1) N n b) (hn1 : 1 ≤ n) (hb : b ≤ N.1) (hP : SRp S z y) (h5 : nK N n ≠ 5) (h6 : nK N n ≠ 6) (hk : nKc mt (nK N n) (nC N n)) (hn : rFl (cGb la (cCt N n (cE (nK N n) (nC N n) (rDp z + 1) z))) = none) : SO N mt (g + 1) n b la S z (cGb la (cCt N n (cE (nK N n) (nC N n) (rDp z + 1) z))) y (mCt N n y) := by
  obtain ⟨hA, hD, hE, hf, hl⟩ := hP
  have hlt := tr_lt _ _ _ _ ht
  have hn' : rFl (cCt N n (cE (nK N n) (nC N n) (rDp z + 1) z)) = none := by rw [← (gb_e (z := cCt N n (cE (nK N n) (nC N n) (rDp z + 1) z)) (la := la)).2.1]; exact hn
  obtain ⟨⟨c1, c2, c3, c4, c5⟩, c6, c7, c8, c9, c10⟩ := ct_sim (y := y) hn' hf
  obtain ⟨g1, g2, g3, g4, g5, g6, g7⟩ := gb_e (z := cCt N n (cE (nK N n) (nC N n) (rDp z + 1) z)) (la := la)
  have hu : (cGb la (cCt N n (cE (nK N n) (nC N n) (rDp z + 1) z))).1.2 = z.1.2 := by
    have : (cGb la (cCt N n (cE (nK N n) (nC N n) (rDp z + 1) z))).1.2 = (cCt N n (cE (nK N n) (nC N n) (rDp z + 1) z)).1.2 := by
      unfold cGb
      split <;> rfl
    rw [this, c7]
    rfl
  refine ⟨⟨by rw [g4, c6, c2, ← hf]; rfl, ?_⟩, ?_, ?_, c1, fun G gs H => ⟨?_, fun M h1 h2 => ?_⟩⟩
  · have e1 : rLm (cGb la (cCt N n (cE (nK N n) (nC N n) (rDp z + 1) z))) = rLm z := congrArg (fun t => t.2.1) hu
    have e2 : mLa (mCt N n y) = mLa y := congrArg (fun t => t.1) c5
    rw [e1, e2]; exact hl
  · exact sre_same hE (by rw [g1, c8]; rfl) (congrArg (fun t => t.1) c4) (congrArg (fun t => t.2.1) c4) (congrArg (fun t => t.2.2.1) c4) (congrArg (fun t => t.2.2.2.2) c5)
  · refine uq_same ?_ (fun M => ?_)
    · rw [(s_of g1).2.2, (s_of c8).2.2]; rfl
    · unfold fes
      rw [show mFe (mCt N n y) = mFe y from congrArg (fun t => t.2.2.2.2) c5]
  · have e : rCd (cGb la (cCt N n (cE (nK N n) (nC N n) (rDp z + 1) z))) = rCd z ++ (nK N n, nC N n) :: (if la then [(34, 0)] else []) := by
      rw [gb_cd, (u_of c7).1]
      show (rCd z ++ [_]) ++ _ = _
      rw [List.append_assoc]; rfl
    obtain ⟨o1, o2⟩ := cd_at H e
    refine lf_cod gs H e hn1 (by omega) hD.1 ?_ ?_
    · have : rDx (cE (nK N n) (nC N n) (rDp z + 1) z) = max (rDx z) (rDp z + 1) := rfl
      omega
    · obtain ⟨k1, k2, k3, _⟩ := gs.2.1 n hn1 (by omega)
      unfold Lf
      rcases hk with hk | ⟨hk | hk, hv⟩ | ⟨hk, _⟩ | hk
      · rw [o1, o2, k1, hk]
        exact Or.inl ⟨rfl, rfl, (k3 hk).symm⟩
      · rw [o1, o2, k1, hk, hv]
        exact Or.inr (Or.inr (Or.inl ⟨rfl, rfl, rfl⟩))
      · rw [o1, o2, k1, hk, hv]
        exact Or.inr (Or.inl ⟨rfl, rfl, rfl⟩)
      · exact absurd hk h5
      · exact absurd hk h6
  · have e2 : mLa (mCt N n y) = mLa y := congrArg (fun t => t.1) c5
    rw [e2] at h2
    omega
end SM4
