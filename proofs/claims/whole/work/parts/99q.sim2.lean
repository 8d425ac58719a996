/-! BUILD. The two compilers against each other: names -/
section SM3
variable {N : NS} {mt : List Nat} {z z2 : CR} {y : MR} {n : Nat}
/-- the binding that a use of a name adds to what levels keep -/
def Vf (j : Nat) (z : CR) (l x : Nat) : Prop := cFd j (rSc z) = some x ∧ (scD z x).2.2 ≠ rBd z ∧ (scD z x).2.2 < l
theorem fr_sim (hA : SRa z y) (hE : ∀ l, 1 ≤ l → l ≤ mLv y → FrO z y l) {s : Nat} (hs : s < (rSc z).length) (hl : (scD z s).2.2 < mLv y) :
    (∀ l, 1 ≤ l → l ≤ mLv y → FrO z (mFr (mLv y) s y).2 l) ∧ (∀ l, l ≤ mLv y → ∀ x, x ∈ fes (mFr (mLv y) s y).2 (mAr y l) ↔ x ∈ fes y (mAr y l) ∨ (x = s ∧ (scD z s).2.2 < l)) ∧ (fes (mFr (mLv y) s y).2 (mAr y (mLv y)))[(mFr (mLv y) s y).1]? = some s := by
  obtain ⟨i1, i2, i3⟩ := mfr_e hA hE hs (mLv y) hl (Nat.le_refl _)
  obtain ⟨⟨a1, a2⟩, a3, a4, a5, a6⟩ := id hA
  have inj : ∀ l l', l ≤ mLv y → l' ≤ mLv y → mAr y l = mAr y l' → l = l' := fun l l' h1 h2 e => by
    rcases Nat.lt_trichotomy l l' with c | c | c
    · have := a4 l l' c h2; omega
    · exact c
    · have := a4 l' l c h1; omega
  obtain ⟨_, _, e1, e2, _⟩ := fr_e (N := (0, fun _ => 0, fun _ => 0, fun _ => 0, fun _ => 0, fun _ => 0)) (a := 0) (b := 0) (mLv y) s y (Nat.le_refl _)
  have hsg : mSg (mFr (mLv y) s y).2 = mSg y := congrArg (fun t => t.1) e2
  have hlv : mLv (mFr (mLv y) s y).2 = mLv y := congrArg (fun t => t.2.1) e2
  have har : mAr (mFr (mLv y) s y).2 = mAr y := congrArg (fun t => t.2.2.1) e2
  have hsgd : sgD (mFr (mLv y) s y).2 = sgD y := by funext i; unfold sgD; rw [hsg]
  have low : ∀ l, l ≤ mLv y → l ≤ (scD z s).2.2 → mFe (mFr (mLv y) s y).2 (mAr y l) = mFe y (mAr y l) := fun l h1 h2 => i1 _ (fun l' h3 h4 e => by
    have := inj l l' h1 h4 e
    omega)
  have pre : ∀ l, l ≤ mLv y → fes y (mAr y l) <+: fes (mFr (mLv y) s y).2 (mAr y l) := fun l h1 => by
    by_cases c : (scD z s).2.2 < l
    · rcases i2 l c h1 with ⟨_, h⟩ | ⟨_, e, _, h, _⟩
      · unfold fes; rw [h]; exact List.prefix_refl _
      · unfold fes; rw [h, List.map_append]; exact List.prefix_append _ _
    · unfold fes; rw [low l h1 (by omega)]; exact List.prefix_refl _
  refine ⟨fun l h1 h2 => ?_, fun l h1 x => ?_, i3⟩
  · obtain ⟨f1, f2⟩ := hE l h1 h2
    have old : ∀ (k : Nat) (e : SGe), (mFe y (mAr y l))[k]? = some e → e.1 < (rSc z).length ∧ (scD z e.1).2.2 < l ∧ (((scD z e.1).2.2 + 1 = l ∧ e.2.1 = 1 ∧ e.2.2 = (sgD y e.1).2.2) ∨ ((scD z e.1).2.2 + 1 < l ∧ e.2.1 = 2 ∧ (fes (mFr (mLv y) s y).2 (mAr y (l - 1)))[e.2.2]? = some e.1)) := fun k e he => by
      obtain ⟨b1, b2, b3⟩ := f2 k e he
      exact ⟨b1, b2, b3.imp_right fun ⟨c1, c2, c3⟩ => ⟨c1, c2, pf_get (pre (l - 1) (by omega)) c3⟩⟩
    unfold FrO
    rw [har, hsgd]
    by_cases c : (scD z s).2.2 < l
    · rcases i2 l c h2 with ⟨_, h⟩ | ⟨hni, e0, h3, h, h4⟩
      · have hf : fes (mFr (mLv y) s y).2 (mAr y l) = fes y (mAr y l) := by unfold fes; rw [h]
        rw [hf, h]
        exact ⟨f1, old⟩
      · have hf : fes (mFr (mLv y) s y).2 (mAr y l) = fes y (mAr y l) ++ [s] := by unfold fes; rw [h, List.map_append, ← h3]; rfl
        rw [hf, h]
        refine ⟨List.nodup_append.mpr ⟨f1, by simp, fun x hx x' hx' e => by
          simp only [List.mem_cons, List.not_mem_nil, or_false] at hx'
          subst hx'
          exact hni (e ▸ hx)⟩, fun k e he => ?_⟩
        by_cases ck : k < (mFe y (mAr y l)).length
        · rw [List.getElem?_append_left ck] at he
          exact old k e he
        · have hlt := g_lt he
          rw [List.length_append, List.length_singleton] at hlt
          rw [List.getElem?_append_right (by omega), show k - (mFe y (mAr y l)).length = 0 by omega] at he
          have he : e0 = e := by simpa using he
          subst he
          rw [h3]
          exact ⟨hs, c, h4⟩
    · have h := low l h2 (by omega)
      have hf : fes (mFr (mLv y) s y).2 (mAr y l) = fes y (mAr y l) := by unfold fes; rw [h]
      rw [hf, h]
      exact ⟨f1, old⟩
  · by_cases c : (scD z s).2.2 < l
    · rcases i2 l c h1 with ⟨hm, h⟩ | ⟨_, e0, h3, h, _⟩
      · have hf : fes (mFr (mLv y) s y).2 (mAr y l) = fes y (mAr y l) := by unfold fes; rw [h]
        rw [hf]
        exact ⟨Or.inl, fun hx => hx.elim id (fun hx => hx.1 ▸ hm)⟩
      · have hf : fes (mFr (mLv y) s y).2 (mAr y l) = fes y (mAr y l) ++ [s] := by unfold fes; rw [h, List.map_append, ← h3]; rfl
        rw [hf, List.mem_append]
        simp only [List.mem_cons, List.not_mem_nil, or_false]
        exact ⟨fun hx => hx.imp_right (fun hx => ⟨hx, c⟩), fun hx => hx.imp_right (fun hx => hx.1)⟩
    · have hf : fes (mFr (mLv y) s y).2 (mAr y l) = fes y (mAr y l) := by unfold fes; rw [low l h1 (by omega)]
      rw [hf]
      exact ⟨Or.inl, fun hx => hx.elim id (fun hx => absurd hx.2 c)⟩
/-- what the reference says of a name: its meaning and number -/
def Vmn (N : NS) (n : Nat) (z : CR) (y y1 : MR) : Prop := (cFd (nCn N n) (rSc z) = none ∧ nCn N n ∈ gdf N ∧ mMe y1 (n - 1) = 3 ∧ mNu y1 (n - 1) = dA N (nCn N n)) ∨
  (∃ b, cFd (nCn N n) (rSc z) = some b ∧ (scD z b).2.2 = rBd z ∧ mMe y1 (n - 1) = 1 ∧ mNu y1 (n - 1) = nI (sgD y b).2.2) ∨
  (∃ b k, cFd (nCn N n) (rSc z) = some b ∧ (scD z b).2.2 < rBd z ∧ mMe y1 (n - 1) = 2 ∧ mNu y1 (n - 1) = nI k ∧ (fes y1 (mAr y (mLv y)))[k]? = some b)
theorem us_sim (hA : SRa z y) (hE : ∀ l, 1 ≤ l → l ≤ mLv y → FrO z y l) (h30 : 30 ≤ nCn N n) (hm : cMn N (nCn N n) z = true) :
    (∀ l, 1 ≤ l → l ≤ mLv y → FrO z (mUs N n y) l) ∧ (∀ l, l ≤ mLv y → ∀ x, x ∈ fes (mUs N n y) (mAr y l) ↔ x ∈ fes y (mAr y l) ∨ Vf (nCn N n) z l x) ∧ mWr (mUs N n y) = mWr y ∧ mFm (mUs N n y) = mFm y ∧ mLa (mUs N n y) = mLa y ∧ Vmn N n z y (mUs N n y) := by
  obtain ⟨⟨a1, a2⟩, a3, a4, a5, a6⟩ := id hA
  have hsame : ∀ (me nu : Int32) (y0 : MR), (∀ l, 1 ≤ l → l ≤ mLv y → FrO z y0 l) → ∀ l, 1 ≤ l → l ≤ mLv y → FrO z (mMn n me nu y0) l := fun me nu y0 h l h1 h2 => h l h1 h2
  unfold mUs
  rw [if_neg (by omega), if_neg (by omega), fd_eq hA]
  cases hb : cFd (nCn N n) (rSc z) with
  | none =>
    have hg : nCn N n ∈ gdf N := by
      unfold cMn at hm
      rw [hb] at hm
      simpa using hm
    dsimp only
    rw [if_pos hg]
    refine ⟨hsame 3 _ y hE, fun l hl x => ⟨Or.inl, fun h => h.elim id (fun h => by have := h.1; rw [hb] at this; cases this)⟩, rfl, rfl, rfl, Or.inl ⟨hb, hg, if_pos rfl, if_pos rfl⟩⟩
  | some b =>
    obtain ⟨hb1, _⟩ := fd_lt hb
    obtain ⟨b1, b2, b3⟩ := a3 b hb1
    dsimp only
    by_cases c : (scD z b).2.2 = rBd z
    · have hc : ((mSg y).getD b (0, 0, 0)).2.1 = mAr y (mLv y) := by
        have : ((mSg y).getD b (0, 0, 0)).2.1 = mAr y (scD z b).2.2 := b2
        rw [this, c, a2]
      rw [if_pos hc]
      refine ⟨hsame 1 _ y hE, fun l hl x => ⟨Or.inl, fun h => h.elim id (fun h => ?_)⟩, rfl, rfl, rfl, Or.inr (Or.inl ⟨b, hb, c, if_pos rfl, if_pos rfl⟩)⟩
      have h1 := h.1
      rw [hb] at h1
      injection h1 with h1
      rw [← h1] at h
      exact absurd c h.2.1
    · have hlt : (scD z b).2.2 < mLv y := by omega
      have hc : ¬ ((mSg y).getD b (0, 0, 0)).2.1 = mAr y (mLv y) := fun e => by
        have h1 : ((mSg y).getD b (0, 0, 0)).2.1 = mAr y (scD z b).2.2 := b2
        rw [h1] at e
        have := a4 _ _ hlt (Nat.le_refl _)
        omega
      rw [if_neg hc]
      obtain ⟨i1, i2, i3⟩ := fr_sim hA hE hb1 hlt
      obtain ⟨_, e0, e1, e2, e3⟩ := fr_e (N := N) (a := 0) (b := 0) (mLv y) b y (Nat.le_refl _)
      refine ⟨hsame 2 _ _ i1, fun l hl x => ?_, congrArg (fun t => t.2) e3, congrArg (fun t => t.1) e3, e0, Or.inr (Or.inr ⟨b, _, hb, by omega, if_pos rfl, if_pos rfl, i3⟩)⟩
      refine (i2 l hl x).trans (or_congr Iff.rfl ⟨fun h => ?_, fun h => ?_⟩)
      · rw [h.1]; exact ⟨hb, c, h.2⟩
      · have h1 := h.1
        rw [hb] at h1
        injection h1 with h1
        rw [← h1] at h
        exact ⟨h1.symm, h.2.2⟩
/-- the operation of the program under proof for it -/
theorem vr_sim {j o dp : Nat} (hk : KI z.2.1) : (∀ l, l ≤ rBd z → ∀ x, x ∈ rKp (cVr N j o dp z) l ↔ x ∈ rKp z l ∨ Vf j z l x) ∧ ∃ u v, rCd (cVr N j o dp z) = rCd z ++ [(u, v)] ∧ ((cFd j (rSc z) = none ∧ u = nI (o + 2) ∧ v = dA N j) ∨ (∃ b, cFd j (rSc z) = some b ∧ (scD z b).2.2 = rBd z ∧ u = nI o ∧ v = nI (scD z b).2.1) ∨ ∃ b k, cFd j (rSc z) = some b ∧ (scD z b).2.2 < rBd z ∧ u = nI (o + 1) ∧ v = nI k ∧ (rKp (cVr N j o dp z) (rBd z))[k]? = some b) := by
  unfold cVr
  cases hb : cFd j (rSc z) with
  | none =>
    dsimp only
    exact ⟨fun l _ x => ⟨Or.inl, fun h => h.elim id (fun h => by have := h.1; rw [hb] at this; cases this)⟩, _, _, rfl, Or.inl ⟨rfl, rfl, rfl⟩⟩
  | some b =>
    obtain ⟨hb1, _⟩ := fd_lt hb
    dsimp only
    by_cases c : ((rSc z).getD b (0, 0, 0)).2.2 = rBd z
    · rw [if_pos c]
      refine ⟨fun l _ x => ⟨Or.inl, fun h => h.elim id (fun h => ?_)⟩, _, _, rfl, Or.inr (Or.inl ⟨b, rfl, c, rfl, rfl⟩)⟩
      have h1 := h.1
      rw [hb] at h1
      injection h1 with h1
      rw [← h1] at h
      exact absurd c h.2.1
    · rw [if_neg c]
      have hle : ((rSc z).getD b (0, 0, 0)).2.2 ≤ rBd z := hk.2.1 b hb1
      have hmem : ∀ l, l ≤ rBd z → ∀ x, x ∈ rKp (cKp b z) l ↔ x ∈ rKp z l ∨ Vf j z l x := fun l hl x => by
        have hv : Vf j z l x ↔ x = b ∧ ((rSc z).getD b (0, 0, 0)).2.2 < l := by
          constructor
          · intro h
            have h1 := h.1
            rw [hb] at h1
            injection h1 with h1
            rw [← h1] at h
            exact ⟨h1.symm, h.2.2⟩
          · rintro ⟨rfl, h⟩
            exact ⟨hb, c, h⟩
        rw [hv]
        show x ∈ (if _ then _ else _) ↔ _
        split
        · rename_i c2
          rw [List.mem_append]
          simp only [List.mem_cons, List.not_mem_nil, or_false]
          exact ⟨fun h => h.imp_right (fun h => ⟨h, c2.1⟩), fun h => h.imp_right (fun h => h.1)⟩
        · rename_i c2
          refine ⟨Or.inl, fun h => h.elim id (fun h => ?_)⟩
          rw [h.1]
          exact Classical.byContradiction fun c3 => c2 ⟨h.2, hl, c3⟩
      refine ⟨hmem, _, _, rfl, Or.inr (Or.inr ⟨b, _, rfl, by show ((rSc z).getD b (0, 0, 0)).2.2 < _; omega, rfl, rfl, ?_⟩)⟩
      have hb2 : b ∈ rKp (cKp b z) (rBd z) := (hmem _ (Nat.le_refl _) b).mpr (Or.inr ⟨hb, c, by show ((rSc z).getD b (0, 0, 0)).2.2 < _; omega⟩)
      show (rKp (cKp b z) (rBd z))[(rKp (cKp b z) (rBd z)).idxOf b]? = some b
      rw [List.getElem?_eq_getElem (List.idxOf_lt_length_iff.mpr hb2), List.getElem_idxOf]
end SM3
