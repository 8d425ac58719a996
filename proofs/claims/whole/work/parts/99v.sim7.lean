/-! BUILD. The two compilers against each other: and, or -/
def lds (xs : List Nat) (z : CR) : CR := xs.foldl (fun z x => cLd x z) z
/-- before the stops land -/
def cU0 (F : Nat → Bool → CR → CR) (la : Bool) (o : Int32) : List Nat → List Nat → CR → CR × List Nat
  | [], xs, z => (z, xs)
  | [a], xs, z => (F a la z, xs)
  | a :: b :: l, xs, z => cU0 F la o (b :: l) ((rCd (F a false z)).length :: xs) (cE o (oI xs.head?) (rDp (F a false z) - 1) (F a false z))
section SM8
variable {N : NS} {mt : List Nat} {z z1 z2 z' : CR} {y y1 y2 y' : MR} {n b g a m n1 b1 : Nat} {G : PG} {S : Shp} {la : Bool}
variable {F : Nat → Bool → CR → CR} {Fm : Nat → MR → MR}
theorem ut_0 {o : Int32} : ∀ (l xs : List Nat) (z : CR), l ≠ [] → cUt F la o l xs z = lds (cU0 F la o l xs z).2 (cU0 F la o l xs z).1
  | [], _, _, h => absurd rfl h
  | [a], xs, z, _ => rfl
  | a :: b :: l, xs, z, _ => ut_0 (b :: l) _ _ (by simp)
theorem lds_cd : ∀ (xs : List Nat) (z : CR) (i : Nat), (rCd (lds xs z))[i]? = if i ∈ xs then (rCd z)[i]?.map (fun p => (p.1, nI (rCd z).length)) else (rCd z)[i]?
  | [], z, i => by rw [if_neg (by simp)]; rfl
  | x :: xs, z, i => by
    show (rCd (lds xs (cLd x z)))[i]? = _
    rw [lds_cd xs (cLd x z) i, cd_Ld]
    have e : (rCd (cLd x z))[i]? = if x = i then (rCd z)[i]?.map (fun p => (p.1, nI (rCd z).length)) else (rCd z)[i]? := by
      show ((rCd z).set x _)[i]? = _
      rw [List.getElem?_set]
      by_cases c : x = i
      · subst c
        rw [if_pos rfl, if_pos rfl]
        by_cases c2 : x < (rCd z).length
        · rw [if_pos c2, List.getD_eq_getElem?_getD, List.getElem?_eq_getElem c2]
          rfl
        · rw [if_neg c2, List.getElem?_eq_none (by omega)]
          rfl
      · rw [if_neg c, if_neg c]
    rw [e]
    by_cases c : x = i
    · have hi : i ∈ x :: xs := by rw [c]; exact List.mem_cons_self
      rw [if_pos c, if_pos hi]
      split
      · cases (rCd z)[i]? with
        | none => rfl
        | some p => rfl
      · rfl
    · rw [if_neg c]
      by_cases c2 : i ∈ xs
      · rw [if_pos c2, if_pos (List.mem_cons_of_mem _ c2)]
      · rw [if_neg c2, if_neg (fun h => by
          rcases List.mem_cons.mp h with h | h
          · exact c h.symm
          · exact c2 h)]
theorem lds_o {xs : List Nat} : (lds xs z).2 = z.2 ∧ (lds xs z).1.2 = z.1.2 ∧ (rCd (lds xs z)).length = (rCd z).length := lds_e xs z
/-- behind a piece, but for jumps that landed outside of it -/
theorem af_ld {lo la' lv L : Nat} {xs : List Nat} (A : Af lo la' n1 b1 lv L z2 z' y2 y') (h : ∀ x, x ∈ xs → x < lo ∨ (rCd z2).length ≤ x) : Af lo la' n1 b1 lv L z2 (lds xs z') y2 y' := by
  obtain ⟨⟨a1, a2⟩, ⟨a3, a4⟩, a5, a6, a7, a8⟩ := A
  obtain ⟨l1, l2, l3⟩ := lds_o (z := z') (xs := xs)
  have d1 : rSr (lds xs z') = rSr z' := congrArg (fun t => t.2.2) l2
  have d2 : rDt (lds xs z') = rDt z' := congrArg (fun t => t.1) l2
  have d3 : rLm (lds xs z') = rLm z' := congrArg (fun t => t.2.1) l2
  have d4 : rDx (lds xs z') = rDx z' := congrArg (fun t => t.2.1.2.2) l1
  have d5 : rKp (lds xs z') = rKp z' := congrArg (fun t => t.1.2.2) l1
  unfold Af
  rw [d1, d2, d3, d4, d5]
  refine ⟨⟨fun i h1 h2 => ?_, by omega⟩, ⟨a3, a4⟩, a5, a6, a7, a8⟩
  rw [lds_cd, if_neg (fun c => by have := h i c; omega)]
  exact a1 i h1 h2
/-- the first piece, whatever landed outside of it -/
theorem hg_fst2 {xs : List Nat} (H : HG G z (lds xs z') y y' n b) (h1 : XO N a m z z1 y y1) (h2 : XO N m b z1 z' y1 y') (hA : SRa z y) (hn : n ≤ a) (ha : 1 ≤ a) (hm : m ≤ b) (hx : ∀ x, x ∈ xs → x < (rCd z).length ∨ (rCd z1).length ≤ x) : HG G z z1 y y1 a m := by
  have hv : mLv y1 = mLv y := h1.2.1.1.2.1
  have har : ∀ l, l ≤ mLv y → mAr y1 l = mAr y l := h1.2.1.1.2.2.1
  have hla : mLa y ≤ mLa y1 := h1.2.1.2.1
  have bd : rBd z1 = mLv y := h1.2.2.1.2.1.trans hA.1.2
  have A := af_of (N := N) (lo := (rCd z).length) (la := mLa y) (lv := mLv y) (n1 := a) (b1 := m) (a' := m) (b := b) h2.1 h2.2.1 (Nat.le_refl _) ha bd.symm hv (fun l hl => by rw [har l hl]; exact hA.2.2.2.1 l hl) hla
  rw [har _ (Nat.le_refl _)] at A
  refine hg_sub H ⟨Nat.le_refl _, Nat.le_refl _, Nat.le_refl _, Nat.le_refl _, rfl, rfl⟩ (af_ld A hx) hn hm h1.2.2.2.1.2 (fun hl x hx => ?_)
  have := (h1.2.2.2.2.1 (mLv y) hl (by rw [hv]; exact Nat.le_refl _)).2 x hx
  rw [har _ (Nat.le_refl _)] at this
  exact this
theorem hg_snd2 {xs : List Nat} (H : HG G z (lds xs z') y y' n b) (h1 : XO N a m z z1 y y1) (h2 : XO N m b z1 z' y1 y') (hn : n ≤ m) : HG G z1 (lds xs z') y1 y' m b := by
  have hv : mLv y1 = mLv y := h1.2.1.1.2.1
  have har : ∀ l, l ≤ mLv y → mAr y1 l = mAr y l := h1.2.1.1.2.2.1
  have hv2 : mLv y' = mLv y1 := h2.2.1.1.2.1
  have har2 : ∀ l, l ≤ mLv y1 → mAr y' l = mAr y1 l := h2.2.1.1.2.2.1
  obtain ⟨⟨o1, o2, o3, o4⟩, _⟩ := h1.1
  obtain ⟨l1, l2, l3⟩ := lds_o (z := z') (xs := xs)
  have d3 : rLm (lds xs z') = rLm z' := congrArg (fun t => t.2.1) l2
  have d5 : rKp (lds xs z') = rKp z' := congrArg (fun t => t.1.2.2) l1
  refine hg_sub H ⟨o1.length_le, o4.length_le, o2.length_le, h1.2.1.2.1, hv, har _ (Nat.le_refl _)⟩ ⟨⟨fun _ _ _ => rfl, Nat.le_refl _⟩, ⟨List.prefix_refl _, List.prefix_refl _⟩, fun _ _ _ => rfl, Nat.le_refl _, List.prefix_refl _, fun _ _ _ => ⟨rfl, rfl⟩, Nat.le_refl _, List.prefix_refl _, fun _ _ _ => ⟨⟨rfl, rfl⟩, rfl, rfl⟩, Nat.le_refl _⟩ hn (Nat.le_refl _) (by rw [d3]; exact h2.2.2.2.1.2) (fun hl x hx => ?_)
  rw [d5] at hx
  have := (h2.2.2.2.2.1 (mLv y) hl (by omega)).2 x hx
  rw [har2 _ (by omega), har _ (Nat.le_refl _)] at this
  exact this
theorem ut_sim {o : Int32} (hF : CFs N g F) (hM : MFs N g Fm) (hS : SFs N mt g F Fm) : ∀ (l xs : List Nat) (a b : Nat) (S : Shp) (z : CR) (y : MR), l ≠ [] → Sqn g N l a b → 1 ≤ a → b ≤ N.1 → KI z.2.1 → SRp S z y → rFl (cU0 F la o l xs z).1 = none → (∀ x, x ∈ xs → x < (rCd z).length) →
    XO N a b z (cU0 F la o l xs z).1 y (mBo Fm l y) ∧ SRd (S ++ [none]) (cU0 F la o l xs z).1 (mBo Fm l y) ∧ (∀ x, x ∈ (cU0 F la o l xs z).2 → x ∈ xs ∨ ((rCd z).length ≤ x ∧ x < (rCd (cU0 F la o l xs z).1).length)) ∧ (∀ x, x ∈ xs → x ∈ (cU0 F la o l xs z).2) ∧ ∀ G, GS N mt G → HG G z (lds (cU0 F la o l xs z).2 (cU0 F la o l xs z).1) y (mBo Fm l y) a b → Unt G (fun a la pc e => Cod G (mAr y (mLv y)) g a la S pc e) la o (l.map (· - 1)) (rCd z).length (rCd (cU0 F la o l xs z).1).length ∧ ∀ M, mLa y < M → M ≤ mLa (mBo Fm l y) → WGM G M
  | [], _, _, _, _, _, _, h, _, _, _, _, _, _, _ => absurd rfl h
  | [v], xs, a, b, S, z, y, _, hs, ha, hb, hk, hP, hn, hxs => by
    obtain ⟨h1, m, h2, h3, h4, h5⟩ := hs
    have hn1 : rFl (F v la z) = none := hn
    have E1 := hF v m la z h2 hk
    have M1 := hM v m y h2 (by omega) hP.1.2.2.2.1
    have so := hS v m la S z y h2 (by omega) (by omega) hk hP hn1
    have X1 := xo_so E1 M1 so hn1
    have hD1 := srd_n hP.2.1 E1.1 E1.2.1 hP.1 M1 (E1.2.2.2.2 hn1).1
    have hA1 := xo_a hP X1
    refine ⟨xo_wk X1 h1 h4, hD1, fun x hx => Or.inl hx, fun x hx => hx, fun G gs H => ?_⟩
    have Xr : XO N m b (F v la z) (F v la z) (Fm v y) (Fm v y) := xo_wk (xo_rf (S := S ++ [none]) (a := m) E1.2.2.1 ⟨hA1, hD1, X1.2.2.2.2.1, X1.2.2.2.1.1, X1.2.2.2.1.2⟩) (Nat.le_refl _) h4
    exact so.2.2.2.2 G gs (hg_fst2 (xs := xs) H X1 Xr hP.1 h1 (by omega) h4 (fun x hx => Or.inl (hxs x hx)))
  | v :: w :: l, xs, a, b, S, z, y, _, hs, ha, hb, hk, hP, hn, hxs => by
    obtain ⟨h1, m, h2, h3, h4, h5⟩ := hs
    have E1 := hF v m false z h2 hk
    have hkk : KI (cE o (oI xs.head?) (rDp (F v false z) - 1) (F v false z)).2.1 := E1.2.2.1
    have E2 := ut_e hF (la := la) (o := o) (z0 := cE o (oI xs.head?) (rDp (F v false z) - 1) (F v false z)) (c := m) (w :: l) [] m b _ (by simp) h5 hkk rfl (fun _ => ⟨oke_rf, fun x hx => by cases hx⟩)
    have hn2 : rFl (cU0 F la o (w :: l) ((rCd (F v false z)).length :: xs) (cE o (oI xs.head?) (rDp (F v false z) - 1) (F v false z))).1 = none := hn
    have hn1 : rFl (F v false z) = none := by
      have key : ∀ (l xs xs' : List Nat) (a b : Nat) (z : CR), l ≠ [] → Sqn g N l a b → KI z.2.1 → rFl (cU0 F la o l xs z).1 = none → rFl z = none := by
        intro l
        induction l with
        | nil => intro _ _ _ _ _ h; exact absurd rfl h
        | cons v l ih =>
          intro xs xs' a b z _ hs hk hn
          obtain ⟨h1, m, h2, h3, h4, h5⟩ := hs
          cases l with
          | nil => exact ef_no (hF v m la z h2 hk).2.2.2.1 hn
          | cons w l =>
            have E := hF v m false z h2 hk
            have := ih _ [] m b (cE o (oI xs.head?) (rDp (F v false z) - 1) (F v false z)) (by simp) h5 E.2.2.1 hn
            exact ef_no E.2.2.2.1 this
      exact key (w :: l) _ [] m b (cE o (oI xs.head?) (rDp (F v false z) - 1) (F v false z)) (by simp) h5 hkk hn2
    have M1 := hM v m y h2 (by omega) hP.1.2.2.2.1
    have so := hS v m false S z y h2 (by omega) (by omega) hk hP hn1
    have X1 := xo_so E1 M1 so hn1
    have hA1 := xo_a hP X1
    have hD1 := srd_n hP.2.1 E1.1 E1.2.1 hP.1 M1 (E1.2.2.2.2 hn1).1
    have hP1 : SRp (S ++ [none]) (F v false z) (Fm v y) := ⟨hA1, hD1, X1.2.2.2.2.1, X1.2.2.2.1.1, X1.2.2.2.1.2⟩
    have hP2 : SRp S (cE o (oI xs.head?) (rDp (F v false z) - 1) (F v false z)) (Fm v y) := ⟨hA1, srd_d hD1 rfl rfl rfl rfl, sre_same X1.2.2.2.2.1 rfl rfl rfl rfl rfl, X1.2.2.2.1.1, X1.2.2.2.1.2⟩
    have hlen1 := X1.1.1.1.length_le
    have hce : (rCd (cE o (oI xs.head?) (rDp (F v false z) - 1) (F v false z))).length = (rCd (F v false z)).length + 1 := cd_E
    obtain ⟨X2, D2, A2, B2, G2⟩ := ut_sim hF hM hS (w :: l) ((rCd (F v false z)).length :: xs) m b S (cE o (oI xs.head?) (rDp (F v false z) - 1) (F v false z)) (Fm v y) (by simp) h5 (by omega) hb E1.2.2.1 hP2 hn2 (fun x hx => by
      rcases List.mem_cons.mp hx with rfl | hx
      · omega
      · have := hxs x hx
        omega)
    have hlen2 := X2.1.1.1.length_le
    show XO N a b z (cU0 F la o (w :: l) ((rCd (F v false z)).length :: xs) (cE o (oI xs.head?) (rDp (F v false z) - 1) (F v false z))).1 y (mBo Fm (w :: l) (Fm v y)) ∧ _
    have X1' : XO N a m z (F v false z) y (Fm v y) := xo_wk X1 h1 (Nat.le_refl _)
    have X1e : XO N a m z (cE o (oI xs.head?) (rDp (F v false z) - 1) (F v false z)) y (Fm v y) := xo_E X1'
    have Xm := xo_tr (xo_E (o := o) (v := oI xs.head?) (dp := rDp (F v false z) - 1) (xo_rf (N := N) (a := m) E1.2.2.1 hP1)) X2 (Nat.le_refl _) h4
    have hL : mAr (Fm v y) (mLv (Fm v y)) = mAr y (mLv y) := by rw [M1.1.2.1, M1.1.2.2.1 _ (Nat.le_refl _)]
    refine ⟨xo_tr X1e X2 (by omega) h4, D2, fun x hx => ?_, fun x hx => B2 x (List.mem_cons_of_mem _ hx), fun G gs H => ?_⟩
    · rcases A2 x hx with h | h
      · rcases List.mem_cons.mp h with rfl | h
        · exact Or.inr ⟨hlen1, by show _ < (rCd (cU0 F la o (w :: l) _ _).1).length; omega⟩
        · exact Or.inl h
      · exact Or.inr ⟨by omega, h.2⟩
    · have Hf := hg_fst2 (xs := (cU0 F la o (w :: l) ((rCd (F v false z)).length :: xs) (cE o (oI xs.head?) (rDp (F v false z) - 1) (F v false z))).2) H X1 Xm hP.1 h1 (by omega) h4 (fun x hx => by
        rcases A2 x hx with h | h
        · rcases List.mem_cons.mp h with rfl | h
          · exact Or.inr (Nat.le_refl _)
          · exact Or.inl (hxs x h)
        · exact Or.inr (by omega))
      have Hs := hg_snd2 H X1e X2 (by omega)
      obtain ⟨k1, k2⟩ := so.2.2.2.2 G gs Hf
      obtain ⟨d1, d2⟩ := G2 G gs Hs
      rw [hL, hce] at d1
      have hst : G.1 1 (rCd (F v false z)).length = o ∧ G.1 2 (rCd (F v false z)).length = nI (rCd (cU0 F la o (w :: l) ((rCd (F v false z)).length :: xs) (cE o (oI xs.head?) (rDp (F v false z) - 1) (F v false z))).1).length := by
        have hlt : (rCd (F v false z)).length < (rCd (cU0 F la o (w :: l) ((rCd (F v false z)).length :: xs) (cE o (oI xs.head?) (rDp (F v false z) - 1) (F v false z))).1).length := by omega
        have h3 := H.1.1 (rCd (F v false z)).length hlen1 (by show _ < (rCd (lds _ (cU0 F la o (w :: l) _ _).1)).length; rw [lds_o.2.2]; exact hlt)
        have hmem : (rCd (F v false z)).length ∈ (cU0 F la o (w :: l) ((rCd (F v false z)).length :: xs) (cE o (oI xs.head?) (rDp (F v false z) - 1) (F v false z))).2 := B2 _ (by simp)
        have h4' : (rCd (lds (cU0 F la o (w :: l) ((rCd (F v false z)).length :: xs) (cE o (oI xs.head?) (rDp (F v false z) - 1) (F v false z))).2 (cU0 F la o (w :: l) ((rCd (F v false z)).length :: xs) (cE o (oI xs.head?) (rDp (F v false z) - 1) (F v false z))).1))[(rCd (F v false z)).length]? = some (o, nI (rCd (cU0 F la o (w :: l) ((rCd (F v false z)).length :: xs) (cE o (oI xs.head?) (rDp (F v false z) - 1) (F v false z))).1).length) := by
          rw [lds_cd, if_pos hmem, pf_ge X2.1.1.1 (by omega)]
          show ((rCd (F v false z) ++ [(o, oI xs.head?)])[(rCd (F v false z)).length]?).map _ = _
          rw [List.getElem?_append_right (Nat.le_refl _), Nat.sub_self]
          rfl
        have h5' := h4'.symm.trans h3
        injection h5' with h5'
        injection h5' with h6 h7
        exact ⟨h6.symm, h7.symm⟩
      refine ⟨⟨_, k1, by show _ < (rCd (cU0 F la o (w :: l) _ _).1).length; omega, hst.1, hst.2, d1⟩, fun M hM1 hM2 => ?_⟩
      by_cases c : M ≤ mLa (Fm v y)
      · exact k2 M hM1 c
      · exact d2 M (by omega) hM2
end SM8
