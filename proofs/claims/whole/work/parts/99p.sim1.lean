/-! BUILD. The two compilers against each other: what is claimed of a form -/
def LG (G : PG) (z' : CR) (y' : MR) (M : Nat) : Prop := ∃ e : LMe, (rLm z')[M - 1]? = some e ∧ M ≤ pLm G ∧ pEn G M = e.1 ∧ pWn G M = e.2.1 ∧ pDm G M = e.2.2.1 ∧ pKs G M = e.2.2.2.1 ∧ pFr G M = e.2.2.2.2.length ∧ (∀ (k x : Nat), e.2.2.2.2[k]? = some x → pKp G M k = (fes y' M).idxOf x) ∧ (pNd G M = mNd y' M ∧ G.2 9 M = mNm y' M ∧ G.2 10 M = (mFe y' M).length) ∧ pSn G M = mLs y' M ∧ ∀ (j : Nat) (e' : SGe), (mFe y' M)[j]? = some e' → G.1 38 (256 * M + j) = nI e'.2.1 ∧ G.1 39 (256 * M + j) = nI e'.2.2
/-- the program's tables hold what a form made (from z to z', from y to y', of the nodes n to b) -/
def HG (G : PG) (z z' : CR) (y y' : MR) (n b : Nat) : Prop :=
  ((∀ i, (rCd z).length ≤ i → i < (rCd z').length → (rCd z')[i]? = some (G.1 1 i, G.1 2 i)) ∧ (rCd z').length ≤ pCz G) ∧
  (∀ m, n ≤ m → m < b → G.1 26 (m - 1) = mMe y' (m - 1) ∧ G.1 27 (m - 1) = mNu y' (m - 1)) ∧
  (rDx z' ≤ pDm G (mAr y (mLv y)) ∧ mLs y' (mAr y (mLv y)) ≤ pSn G (mAr y (mLv y)) ∧ mLa y' ≤ pLm G) ∧
  (∀ (k x : Nat), 1 ≤ mLv y → (rKp z' (mLv y))[k]? = some x → k < pFr G (mAr y (mLv y)) ∧ pKp G (mAr y (mLv y)) k = (fes y' (mAr y (mLv y))).idxOf x) ∧
  (∀ M, mLa y < M → M ≤ mLa y' → LG G z' y' M) ∧
  (∀ i w : Nat, (rSr z).length ≤ i → (rSr z')[i]? = some w → G.1 9 i = nI w) ∧
  ∀ (i m : Nat) (v : Option Int64), (rDt z).length ≤ i → (rDt z')[i]? = some (m, v) → m ≠ 0 → pDs G (m - 1) = i ∧ i < 100000
/-- a lambda's body -/
def WGM (G : PG) (M : Nat) : Prop := (pWn G M = G.2 9 M ∧ pFr G M = G.2 10 M ∧ ∀ k, k < pFr G M → pKp G M k < pFr G M) ∧ pNd G M < pNn G ∧ pWn G M ≤ 8 ∧ pWn G M ≤ pSn G M ∧ ∃ f c li b d e, f ≤ 38 ∧ Chn G (G.1 24 (pNd G M)) (c :: li :: b :: d) ∧ Bod G (fun a la pc e => Cod G M f a la (bnd 0 (pWn G M)) pc e) true (b :: d) (pEn G M) e
def Uq (z z' : CR) (y y' : MR) : Prop := ∃ U : Nat → Nat → Prop, ∀ l, l ≤ mLv y → ∀ x, (x ∈ rKp z' l ↔ x ∈ rKp z l ∨ U l x) ∧ (x ∈ fes y' (mAr y l) ↔ x ∈ fes y (mAr y l) ∨ U l x)
/-- before and after a part of a form -/
def Bf (z z1 : CR) (y y1 : MR) : Prop := (rCd z).length ≤ (rCd z1).length ∧ (rSr z).length ≤ (rSr z1).length ∧ (rDt z).length ≤ (rDt z1).length ∧ mLa y ≤ mLa y1 ∧ mLv y1 = mLv y ∧ mAr y1 (mLv y) = mAr y (mLv y)
def Af (lo la n1 b1 lv L : Nat) (z2 z' : CR) (y2 y' : MR) : Prop := ((∀ i, lo ≤ i → i < (rCd z2).length → (rCd z')[i]? = (rCd z2)[i]?) ∧ (rCd z2).length ≤ (rCd z').length) ∧ (rSr z2 <+: rSr z' ∧ rDt z2 <+: rDt z') ∧ (∀ j, la ≤ j → j < (rLm z2).length → (rLm z')[j]? = (rLm z2)[j]?) ∧ rDx z2 ≤ rDx z' ∧ rKp z2 lv <+: rKp z' lv ∧ (∀ m, n1 ≤ m → m < b1 → mMe y' (m - 1) = mMe y2 (m - 1) ∧ mNu y' (m - 1) = mNu y2 (m - 1)) ∧ mLs y2 L ≤ mLs y' L ∧ mFe y2 L <+: mFe y' L ∧ (∀ M, la < M → M ≤ mLa y2 → (mNd y' M = mNd y2 M ∧ mNm y' M = mNm y2 M) ∧ mLs y' M = mLs y2 M ∧ mFe y' M = mFe y2 M) ∧ mLa y2 ≤ mLa y'
section SM2
variable {N : NS} {G : PG} {z z1 z2 z' : CR} {y y1 y2 y' : MR} {n b n1 b1 : Nat}
theorem pf_get {α : Type} {l l' : List α} {i : Nat} {x : α} (h : l <+: l') (e : l[i]? = some x) : l'[i]? = some x := by
  obtain ⟨t, rfl⟩ := h
  rw [List.getElem?_append_left (g_lt e)]
  exact e
theorem pf_ge {α : Type} {l l' : List α} {i : Nat} (h : l <+: l') (e : i < l.length) : l'[i]? = l[i]? := by
  obtain ⟨t, rfl⟩ := h
  rw [List.getElem?_append_left e]
theorem idx_pf {l l' : List Nat} {x : Nat} (h : l <+: l') (hx : x ∈ l) : l'.idxOf x = l.idxOf x := by
  obtain ⟨t, rfl⟩ := h
  rw [List.idxOf_append, if_pos hx]
theorem fes_pf {L : Nat} (h : mFe y L <+: mFe y' L) : fes y L <+: fes y' L := by
  obtain ⟨t, e⟩ := h
  exact ⟨t.map (·.1), by unfold fes; rw [← e, List.map_append]⟩
theorem hg_sub (H : HG G z z' y y' n b) (B : Bf z z1 y y1) (A : Af (rCd z1).length (mLa y1) n1 b1 (mLv y) (mAr y (mLv y)) z2 z' y2 y') (hn : n ≤ n1) (hb : b1 ≤ b) (hlm : (rLm z2).length = mLa y2) (hk : 1 ≤ mLv y → ∀ x, x ∈ rKp z2 (mLv y) → x ∈ fes y2 (mAr y (mLv y))) : HG G z1 z2 y1 y2 n1 b1 := by
  obtain ⟨⟨h1, h2⟩, h3, ⟨h4, h5, h5'⟩, h6, h7, h8, h9⟩ := H
  obtain ⟨b1', b2, b3, b4, b5, b6⟩ := B
  obtain ⟨⟨a1, a2⟩, ⟨a3, a4⟩, a5, a6, a7, a8, a9, a10, a11, a12⟩ := A
  unfold HG
  rw [b5, b6]
  refine ⟨⟨fun i hi1 hi2 => ?_, by omega⟩, fun m hm1 hm2 => ?_, ⟨by omega, by omega, by omega⟩, fun k x hl hx => ?_, fun M hM1 hM2 => ?_, fun i w hi hw => h8 i w (by omega) (pf_get a3 hw), fun i m v hi hv => h9 i m v (by omega) (pf_get a4 hv)⟩
  · rw [← a1 i hi1 hi2]
    exact h1 i (by omega) (by omega)
  · rw [← (a8 m hm1 hm2).1, ← (a8 m hm1 hm2).2]
    exact h3 m (by omega) (by omega)
  · obtain ⟨g1, g2⟩ := h6 k x hl (pf_get a7 hx)
    exact ⟨g1, by rw [g2]; exact idx_pf (fes_pf a10) (hk hl x (List.mem_of_getElem? hx))⟩
  · obtain ⟨e, e1, e2⟩ := h7 M (by omega) (by omega)
    obtain ⟨⟨m1, m1'⟩, m2, m3⟩ := a11 M hM1 hM2
    rw [a5 (M - 1) (by omega) (by omega)] at e1
    have hf : fes y' M = fes y2 M := by unfold fes; rw [m3]
    rw [hf, m1, m1', m2, m3] at e2
    exact ⟨e, e1, e2⟩
/-- nothing but what comes behind has changed -/
theorem af_of {lo la lv a' : Nat} (o : OKe a' b z2 z') (m : MEf N a' b y2 y') (ha : b1 ≤ a') (h1 : 1 ≤ n1) (hl : lv = rBd z2) (hv : mLv y2 = lv) (hi : ∀ l, l ≤ lv → mAr y2 l ≤ la) (hla : la ≤ mLa y2) : Af lo la n1 b1 lv (mAr y2 lv) z2 z' y2 y' := by
  obtain ⟨⟨o1, o2, o3, o4⟩, o5, o6, o7, o8, o9, o10⟩ := o
  obtain ⟨⟨p1, p2, p3, p4⟩, p5, p6, p7, p8, p9⟩ := m
  have hL : mAr y2 lv ≤ mLa y2 := Nat.le_trans (hi lv (Nat.le_refl _)) hla
  refine ⟨⟨fun i _ hi2 => pf_ge o1 hi2, o1.length_le⟩, ⟨o4, o2⟩, fun j _ hj => pf_ge o3 hj, o6, o5 lv (by omega), fun m hm1 hm2 => ?_, (p7 _ hL).2.2.1, (p7 _ hL).2.2.2, fun M hM1 hM2 => ?_, p5⟩
  · exact p6 (m - 1) (Or.inl (by omega))
  · obtain ⟨q1, q2⟩ := p8 M hM2 (fun l hl => by
      have := hi l (by omega)
      omega)
    exact ⟨⟨(p7 M hM2).1, (p7 M hM2).2.1⟩, q1, q2⟩
theorem sra_n (h : SRa z y) (h1 : rSc z' = rSc z) (h2 : rBd z' = rBd z) (m : MEf N n b y y') : SRa z' y' := by
  obtain ⟨⟨a1, a2⟩, a3, a4, a5, a6⟩ := h
  have ai := ai_ef m a5
  obtain ⟨⟨p1, p2, p3, p4⟩, _⟩ := m
  refine ⟨⟨by rw [h1, p1]; exact a1, by rw [h2, p2]; exact a2⟩, fun i hi => ?_, fun l l' hl hl' => ?_, ai, by rw [p3 0 (Nat.zero_le _)]; exact a6⟩
  · rw [h1] at hi
    obtain ⟨b1, b2, b3⟩ := a3 i hi
    have hsc : scD z' i = scD z i := by unfold scD; rw [h1]
    have hsg : sgD y' i = sgD y i := by unfold sgD; rw [p1]
    rw [hsc, hsg]
    exact ⟨b1, by rw [p3 _ b3]; exact b2, by rw [p2]; exact b3⟩
  · rw [p2] at hl'
    rw [p3 l (by omega), p3 l' hl']
    exact a4 l l' hl hl'
theorem srd_n {S : Shp} (h : SRd S z y) (h1 : rSc z' = rSc z) (h2 : rBd z' = rBd z) (hA : SRa z y) (m : MEf N n b y y') (hd : rDp z' = rDp z + 1) : SRd (S ++ [none]) z' y' := by
  obtain ⟨a1, a2, a3, a4⟩ := h
  obtain ⟨⟨p1, p2, p3, p4⟩, p5, p6, p7, _⟩ := m
  have hai := hA.2.2.2.1
  refine ⟨by rw [List.length_append, hd, ← a1]; rfl, fun i hi ho => ?_, fun t ht => ?_, ?_⟩
  · rw [h1] at hi
    have hsc : scD z' i = scD z i := by unfold scD; rw [h1]
    have hsg : sgD y' i = sgD y i := by unfold sgD; rw [p1]
    rw [hsc, h2] at ho
    rw [hsc, hsg]
    have := a2 i hi ho
    rw [List.getElem?_append_left (g_lt this)]
    exact this
  · rw [p2, p4 _ (Nat.le_refl _)]
    rcases List.mem_append.mp ht with ht | ht
    · exact a3 t ht
    · simp at ht
  · rw [p2, p4 _ (Nat.le_refl _), p3 _ (Nat.le_refl _)]
    exact Nat.le_trans a4 (p7 _ (hai _ (Nat.le_refl _))).2.2.1
/-- depth alone: the value goes away again -/
theorem srd_d {S : Shp} {o : Option Nat} {z2 : CR} (h : SRd (S ++ [o]) z y) (h1 : rSc z2 = rSc z) (h2 : rBd z2 = rBd z) (hd : rDp z2 = rDp z - 1) (ho : o = none) : SRd S z2 y := by
  subst ho
  obtain ⟨a1, a2, a3, a4⟩ := h
  rw [List.length_append, List.length_singleton] at a1
  refine ⟨by omega, fun i hi ho => ?_, fun t ht => a3 t (List.mem_append_left _ ht), a4⟩
  rw [h1] at hi
  have hsc : scD z2 i = scD z i := by unfold scD; rw [h1]
  rw [hsc, h2] at ho
  rw [hsc]
  have := a2 i hi ho
  by_cases c : (scD z i).2.1 < S.length
  · rw [List.getElem?_append_left c] at this
    exact this
  · have hlt := g_lt this
    rw [List.length_append, List.length_singleton] at hlt
    rw [List.getElem?_append_right (by omega), show (scD z i).2.1 - S.length = 0 by omega] at this
    cases this
theorem uq_rf : Uq z z y y := ⟨fun _ _ => False, fun _ _ _ => ⟨by simp, by simp⟩⟩
theorem uq_tr (h1 : Uq z z1 y y1) (h2 : Uq z1 z2 y1 y2) (hv : mLv y1 = mLv y) (ha : ∀ l, l ≤ mLv y → mAr y1 l = mAr y l) : Uq z z2 y y2 := by
  obtain ⟨U, u⟩ := h1
  obtain ⟨V, v⟩ := h2
  refine ⟨fun l x => U l x ∨ V l x, fun l hl x => ?_⟩
  obtain ⟨u1, u2⟩ := u l hl x
  obtain ⟨v1, v2⟩ := v l (by omega) x
  rw [ha l hl] at v2
  rw [v1, u1, v2, u2, or_assoc, or_assoc]
  exact ⟨Iff.rfl, Iff.rfl⟩
theorem uq_same (h1 : rKp z1 = rKp z) (h2 : ∀ M, fes y1 M = fes y M) : Uq z z1 y y1 := ⟨fun _ _ => False, fun l _ x => by rw [h1, h2]; simp⟩
/-- keeps of z1 and y1 are those of z and y -/
theorem sre_same (h : SRe z y) (h1 : z1.2.1 = z.2.1) (h2 : mSg y1 = mSg y) (h3 : mLv y1 = mLv y) (h4 : mAr y1 = mAr y) (h5 : mFe y1 = mFe y) : SRe z1 y1 := by
  have e1 : rSc z1 = rSc z := congrArg (fun s => s.1) h1
  have e2 : rKp z1 = rKp z := congrArg (fun s => s.2.2) h1
  have e3 : scD z1 = scD z := by funext i; unfold scD; rw [e1]
  have e4 : sgD y1 = sgD y := by funext i; unfold sgD; rw [h2]
  have e5 : fes y1 = fes y := by funext M; unfold fes; rw [h5]
  unfold SRe FrO at h ⊢
  rw [e1, e2, e3, e4, e5, h3, h4, h5]
  exact h
end SM2
