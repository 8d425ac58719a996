/-! BUILD. The two compilers against each other: forms in a row -/
/-- one piece of work of both -/
def XO (N : NS) (a b : Nat) (z z' : CR) (y y' : MR) : Prop := OKe a b z z' ∧ MEf N a b y y' ∧ (rSc z' = rSc z ∧ rBd z' = rBd z ∧ KI z'.2.1) ∧ (rFm z' = mFm y' ∧ (rLm z').length = mLa y') ∧ SRe z' y' ∧ Uq z z' y y' ∧ mWr y' = mWr y
def SFs (N : NS) (mt : List Nat) (g : Nat) (F : Nat → Bool → CR → CR) (Fm : Nat → MR → MR) : Prop := ∀ v m la S z y, Trb g N v m → 1 ≤ v → m ≤ N.1 → KI z.2.1 → SRp S z y → rFl (F v la z) = none → SO N mt g v m la S z (F v la z) y (Fm v y)
section SM6
variable {N : NS} {mt : List Nat} {z z1 z2 z' : CR} {y y1 y2 y' : MR} {n b g a m n1 b1 : Nat} {G : PG} {S : Shp} {la : Bool}
theorem xo_tr (h1 : XO N a m z z1 y y1) (h2 : XO N m b z1 z2 y1 y2) (ha : a ≤ m) (hb : m ≤ b) : XO N a b z z2 y y2 := by
  obtain ⟨p1, p2, ⟨p3, p4, p5⟩, p6, p7, p8, p9⟩ := h1
  obtain ⟨q1, q2, ⟨q3, q4, q5⟩, q6, q7, q8, q9⟩ := h2
  exact ⟨oke_tr p1 q1 (Nat.le_of_eq p4.symm), mef_tr (mef_wk p2 (Nat.le_refl _) hb) (mef_wk q2 ha (Nat.le_refl _)), ⟨q3.trans p3, q4.trans p4, q5⟩, q6, q7, uq_tr p8 q8 p2.1.2.1 p2.1.2.2.1, q9.trans p9⟩
theorem xo_wk {a' b' : Nat} (h : XO N a b z z1 y y1) (h1 : a' ≤ a) (h2 : b ≤ b') : XO N a' b' z z1 y y1 := by
  obtain ⟨p1, p2, p3⟩ := h
  exact ⟨oke_wk p1 h1 h2, mef_wk p2 h1 h2, p3⟩
theorem xo_rf (hk : KI z.2.1) (hP : SRp S z y) : XO N a a z z y y := ⟨oke_rf, mef_rf, ⟨rfl, rfl, hk⟩, ⟨hP.2.2.2.1, hP.2.2.2.2⟩, hP.2.2.1, uq_rf, rfl⟩
theorem xo_so (h : CFe n b z z') (hm : MEf N n b y y') (hs : SO N mt g n b la S z z' y y') (hn : rFl z' = none) : XO N n b z z' y y' := by
  obtain ⟨h1, h2, h3, h4, h5⟩ := h
  obtain ⟨s1, s2, s3, s4, _⟩ := hs
  exact ⟨h4.2 hn, hm, ⟨h1, h2, h3⟩, s1, s2, s3, s4⟩
/-- depth and operations alone -/
theorem xo_c (h : XO N a b z z1 y y1) (h1 : OKe b b z1 z2) (h2 : z2.2.1 = z1.2.1) (h3 : rFm z2 = rFm z1) (h4 : rLm z2 = rLm z1) : XO N a b z z2 y y1 := by
  obtain ⟨p1, p2, ⟨p3, p4, p5⟩, p6, p7, p8, p9⟩ := h
  refine ⟨oke_tr p1 h1 (Nat.le_of_eq p4.symm), p2, ⟨(s_of h2).1.trans p3, (s_of h2).2.1.trans p4, by rw [h2]; exact p5⟩, ⟨by rw [h3]; exact p6.1, by rw [h4]; exact p6.2⟩, sre_same p7 h2 rfl rfl rfl rfl, ?_, p9⟩
  obtain ⟨U, u⟩ := p8
  exact ⟨U, fun l hl x => by rw [(s_of h2).2.2]; exact u l hl x⟩
theorem xo_a (hP : SRp S z y) (h : XO N a b z z1 y y1) : SRa z1 y1 := sra_n hP.1 h.2.2.1.1 h.2.2.1.2.1 h.2.1
theorem oke_E {o v : Int32} {dp : Nat} : OKe a a z (cE o v dp z) := ⟨⟨List.prefix_append _ _, List.prefix_refl _, List.prefix_refl _, List.prefix_refl _⟩, fun _ _ => List.prefix_refl _, Nat.le_max_left _ _, Nat.le_refl _, by show rFm z + a ≤ _; omega, fun h => h, Nat.le_refl _⟩
theorem xo_E {o v : Int32} {dp : Nat} (h : XO N a b z z1 y y1) : XO N a b z (cE o v dp z1) y y1 := xo_c h oke_E rfl rfl rfl
theorem hg_fst (H : HG G z z' y y' n b) (h1 : XO N a m z z1 y y1) (h2 : XO N m b z1 z' y1 y') (hA : SRa z y) (hn : n ≤ a) (ha : 1 ≤ a) (hm : m ≤ b) : HG G z z1 y y1 a m := by
  have hv : mLv y1 = mLv y := h1.2.1.1.2.1
  have har : ∀ l, l ≤ mLv y → mAr y1 l = mAr y l := h1.2.1.1.2.2.1
  have hla : mLa y ≤ mLa y1 := h1.2.1.2.1
  have bd : rBd z1 = mLv y := h1.2.2.1.2.1.trans hA.1.2
  have A := af_of (N := N) (lo := (rCd z).length) (la := mLa y) (lv := mLv y) (n1 := a) (b1 := m) (a' := m) (b := b) h2.1 h2.2.1 (Nat.le_refl _) ha bd.symm hv (fun l hl => by rw [har l hl]; exact hA.2.2.2.1 l hl) hla
  rw [har _ (Nat.le_refl _)] at A
  refine hg_sub H ⟨Nat.le_refl _, Nat.le_refl _, Nat.le_refl _, Nat.le_refl _, rfl, rfl⟩ A hn hm h1.2.2.2.1.2 (fun hl x hx => ?_)
  have := (h1.2.2.2.2.1 (mLv y) hl (by rw [hv]; exact Nat.le_refl _)).2 x hx
  rw [har _ (Nat.le_refl _)] at this
  exact this
theorem hg_snd (H : HG G z z' y y' n b) (h1 : XO N a m z z1 y y1) (h2 : XO N m b z1 z' y1 y') (hn : n ≤ m) : HG G z1 z' y1 y' m b := by
  have hv : mLv y1 = mLv y := h1.2.1.1.2.1
  have har : ∀ l, l ≤ mLv y → mAr y1 l = mAr y l := h1.2.1.1.2.2.1
  have hv2 : mLv y' = mLv y1 := h2.2.1.1.2.1
  have har2 : ∀ l, l ≤ mLv y1 → mAr y' l = mAr y1 l := h2.2.1.1.2.2.1
  obtain ⟨⟨o1, o2, o3, o4⟩, _⟩ := h1.1
  refine hg_sub H ⟨o1.length_le, o4.length_le, o2.length_le, h1.2.1.2.1, hv, har _ (Nat.le_refl _)⟩ ⟨⟨fun _ _ _ => rfl, Nat.le_refl _⟩, ⟨List.prefix_refl _, List.prefix_refl _⟩, fun _ _ _ => rfl, Nat.le_refl _, List.prefix_refl _, fun _ _ _ => ⟨rfl, rfl⟩, Nat.le_refl _, List.prefix_refl _, fun _ _ _ => ⟨⟨rfl, rfl⟩, rfl, rfl⟩, Nat.le_refl _⟩ hn (Nat.le_refl _) h2.2.2.2.1.2 (fun hl x hx => ?_)
  have := (h2.2.2.2.2.1 (mLv y) hl (by omega)).2 x hx
  rw [har2 _ (by omega), har _ (Nat.le_refl _)] at this
  exact this
/-- an operation between two pieces -/
theorem opz_at {u v : Int32} {dp k : Nat} (H : HG G z z' y y' n b) (h1 : (rCd z).length ≤ (rCd z1).length) (h2 : rCd (cE u v dp z1) <+: rCd z') (hk : k = (rCd z1).length) : G.1 1 k = u ∧ G.1 2 k = v := by
  subst hk
  have hl := h2.length_le
  rw [cd_E] at hl
  have h3 := H.1.1 (rCd z1).length h1 (by omega)
  rw [pf_ge h2 (by rw [cd_E]; exact Nat.lt_succ_self _)] at h3
  have h4 : (rCd (cE u v dp z1))[(rCd z1).length]? = some (u, v) := by
    show (rCd z1 ++ [(u, v)])[(rCd z1).length]? = _
    rw [List.getElem?_append_right (Nat.le_refl _), Nat.sub_self]
    rfl
  rw [h4] at h3
  injection h3 with h3
  injection h3 with h5 h6
  exact ⟨h5.symm, h6.symm⟩
variable {F : Nat → Bool → CR → CR} {Fm : Nat → MR → MR}
theorem reps_s {k : Nat} : (S ++ [none]) ++ List.replicate k none = S ++ List.replicate (k + 1) none := by
  rw [List.append_assoc, List.replicate_succ]
  rfl
theorem seq_sim (hF : CFs N g F) (hM : MFs N g Fm) (hS : SFs N mt g F Fm) : ∀ (l : List Nat) (a b : Nat) (S : Shp) (z : CR) (y : MR), Sqn g N l a b → 1 ≤ a → b ≤ N.1 → KI z.2.1 → SRp S z y → rFl (l.foldl (fun z a => F a false z) z) = none →
    XO N a b z (l.foldl (fun z a => F a false z) z) y (mBo Fm l y) ∧ SRd (S ++ List.replicate l.length none) (l.foldl (fun z a => F a false z) z) (mBo Fm l y) ∧ ∀ G, GS N mt G → HG G z (l.foldl (fun z a => F a false z) z) y (mBo Fm l y) a b → Prs (fun v S pc e => Cod G (mAr y (mLv y)) g v false S pc e) (l.map (· - 1)) S (rCd z).length (rCd (l.foldl (fun z a => F a false z) z)).length ∧ ∀ M, mLa y < M → M ≤ mLa (mBo Fm l y) → WGM G M
  | [], a, b, S, z, y, hs, ha, hb, hk, hP, hn => ⟨xo_wk (xo_rf (a := a) hk hP) (Nat.le_refl _) hs, by simp only [List.length_nil, List.replicate_zero, List.append_nil]; exact hP.2.1, fun G gs H => ⟨rfl, fun M h1 h2 => absurd h2 (Nat.not_le.mpr h1)⟩⟩
  | v :: l, a, b, S, z, y, hs, ha, hb, hk, hP, hn => by
    obtain ⟨h1, m, h2, h3, h4, h5⟩ := hs
    have hn2 : rFl (l.foldl (fun z a => F a false z) (F v false z)) = none := hn
    have E1 := hF v m false z h2 hk
    have E2 := cl_e hF l m b (F v false z) h5 E1.2.2.1
    have hn1 : rFl (F v false z) = none := ef_no E2.2.2.2.1 hn2
    have M1 := hM v m y h2 (by omega) hP.1.2.2.2.1
    have so := hS v m false S z y h2 (by omega) (by omega) hk hP hn1
    have X1 := xo_so E1 M1 so hn1
    have hA1 := xo_a hP X1
    have hD1 := srd_n hP.2.1 E1.1 E1.2.1 hP.1 M1 (E1.2.2.2.2 hn1).1
    have hP1 : SRp (S ++ [none]) (F v false z) (Fm v y) := ⟨hA1, hD1, X1.2.2.2.2.1, X1.2.2.2.1.1, X1.2.2.2.1.2⟩
    obtain ⟨X2, D2, G2⟩ := seq_sim hF hM hS l m b (S ++ [none]) (F v false z) (Fm v y) h5 (by omega) hb E1.2.2.1 hP1 hn2
    have X1' : XO N a m z (F v false z) y (Fm v y) := xo_wk X1 h1 (Nat.le_refl _)
    have hL : mAr (Fm v y) (mLv (Fm v y)) = mAr y (mLv y) := by rw [M1.1.2.1, M1.1.2.2.1 _ (Nat.le_refl _)]
    refine ⟨xo_tr X1' X2 (by omega) h4, by rw [List.length_cons, ← reps_s]; exact D2, fun G gs H => ?_⟩
    have Hf : HG G z (F v false z) y (Fm v y) v m := by
      have := hg_fst H X1 X2 hP.1 h1 (by omega) h4
      exact this
    have Hs := hg_snd H X1' X2 (by omega)
    obtain ⟨c1, c2⟩ := so.2.2.2.2 G gs Hf
    obtain ⟨d1, d2⟩ := G2 G gs Hs
    rw [hL] at d1
    refine ⟨⟨_, c1, d1⟩, fun M hM1 hM2 => ?_⟩
    by_cases c : M ≤ mLa (Fm v y)
    · exact c2 M hM1 c
    · exact d2 M (by omega) hM2
theorem bo_sim (hF : CFs N g F) (hM : MFs N g Fm) (hS : SFs N mt g F Fm) : ∀ (l : List Nat) (a b : Nat) (S : Shp) (z : CR) (y : MR), l ≠ [] → Sqn g N l a b → 1 ≤ a → b ≤ N.1 → KI z.2.1 → SRp S z y → rFl (cBo F la l z) = none →
    XO N a b z (cBo F la l z) y (mBo Fm l y) ∧ SRd (S ++ [none]) (cBo F la l z) (mBo Fm l y) ∧ ∀ G, GS N mt G → HG G z (cBo F la l z) y (mBo Fm l y) a b → Bod G (fun a la pc e => Cod G (mAr y (mLv y)) g a la S pc e) la (l.map (· - 1)) (rCd z).length (rCd (cBo F la l z)).length ∧ ∀ M, mLa y < M → M ≤ mLa (mBo Fm l y) → WGM G M
  | [], _, _, _, _, _, h, _, _, _, _, _, _ => absurd rfl h
  | [v], a, b, S, z, y, _, hs, ha, hb, hk, hP, hn => by
    obtain ⟨h1, m, h2, h3, h4, h5⟩ := hs
    have hn1 : rFl (F v la z) = none := hn
    have E1 := hF v m la z h2 hk
    have M1 := hM v m y h2 (by omega) hP.1.2.2.2.1
    have so := hS v m la S z y h2 (by omega) (by omega) hk hP hn1
    have X1 := xo_so E1 M1 so hn1
    have hD1 := srd_n hP.2.1 E1.1 E1.2.1 hP.1 M1 (E1.2.2.2.2 hn1).1
    have hA1 := xo_a hP X1
    refine ⟨xo_wk X1 h1 h4, hD1, fun G gs H => ?_⟩
    have Xr : XO N m b (F v la z) (F v la z) (Fm v y) (Fm v y) := xo_wk (xo_rf (S := S ++ [none]) (a := m) E1.2.2.1 ⟨hA1, hD1, X1.2.2.2.2.1, X1.2.2.2.1.1, X1.2.2.2.1.2⟩) (Nat.le_refl _) h4
    exact so.2.2.2.2 G gs (hg_fst H X1 Xr hP.1 h1 (by omega) h4)
  | v :: w :: l, a, b, S, z, y, _, hs, ha, hb, hk, hP, hn => by
    obtain ⟨h1, m, h2, h3, h4, h5⟩ := hs
    have hn2 : rFl (cBo F la (w :: l) (cE 30 0 (rDp (F v false z) - 1) (F v false z))) = none := hn
    have E1 := hF v m false z h2 hk
    have E2 := bo_e hF (la := la) (w :: l) m b (cE 30 0 (rDp (F v false z) - 1) (F v false z)) (by simp) h5 E1.2.2.1
    have hn1 : rFl (F v false z) = none := ef_no (z := cE 30 0 (rDp (F v false z) - 1) (F v false z)) E2.2.2.2.1 hn2
    have M1 := hM v m y h2 (by omega) hP.1.2.2.2.1
    have so := hS v m false S z y h2 (by omega) (by omega) hk hP hn1
    have X1 := xo_so E1 M1 so hn1
    have hA1 := xo_a hP X1
    have hD1 := srd_n hP.2.1 E1.1 E1.2.1 hP.1 M1 (E1.2.2.2.2 hn1).1
    have hP1 : SRp (S ++ [none]) (F v false z) (Fm v y) := ⟨hA1, hD1, X1.2.2.2.2.1, X1.2.2.2.1.1, X1.2.2.2.1.2⟩
    have hP2 : SRp S (cE 30 0 (rDp (F v false z) - 1) (F v false z)) (Fm v y) := ⟨hA1, srd_d hD1 rfl rfl rfl rfl, sre_same X1.2.2.2.2.1 rfl rfl rfl rfl rfl, X1.2.2.2.1.1, X1.2.2.2.1.2⟩
    obtain ⟨X2, D2, G2⟩ := bo_sim hF hM hS (w :: l) m b S (cE 30 0 (rDp (F v false z) - 1) (F v false z)) (Fm v y) (by simp) h5 (by omega) hb E1.2.2.1 hP2 hn2
    have X1' : XO N a m z (F v false z) y (Fm v y) := xo_wk X1 h1 (Nat.le_refl _)
    have X1e : XO N a m z (cE 30 0 (rDp (F v false z) - 1) (F v false z)) y (Fm v y) := xo_E X1'
    have Xm : XO N m b (F v false z) (cBo F la (w :: l) (cE 30 0 (rDp (F v false z) - 1) (F v false z))) (Fm v y) (mBo Fm (w :: l) (Fm v y)) := xo_tr (xo_E (xo_rf E1.2.2.1 hP1)) X2 (Nat.le_refl _) h4
    have hL : mAr (Fm v y) (mLv (Fm v y)) = mAr y (mLv y) := by rw [M1.1.2.1, M1.1.2.2.1 _ (Nat.le_refl _)]
    refine ⟨xo_tr X1e X2 (by omega) h4, D2, fun G gs H => ?_⟩
    have Hf := hg_fst H X1 Xm hP.1 h1 (by omega) h4
    have Hs := hg_snd H X1e X2 (by omega)
    obtain ⟨c1, c2⟩ := so.2.2.2.2 G gs Hf
    obtain ⟨d1, d2⟩ := G2 G gs Hs
    rw [hL, cd_E] at d1
    have hop := opz_at (z1 := F v false z) (u := 30) (v := 0) (dp := rDp (F v false z) - 1) H (X1.1.1.1.length_le) X2.1.1.1 rfl
    refine ⟨⟨_, c1, hop.1, d1⟩, fun M hM1 hM2 => ?_⟩
    by_cases c : M ≤ mLa (Fm v y)
    · exact c2 M hM1 c
    · exact d2 M (by omega) hM2
end SM6
