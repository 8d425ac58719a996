/-! BUILD. The two compilers against each other: the tree in the program's tables -/
def rkd (k : Int32) : Int32 := if k = 1 then 0 else if k = 3 then 1 else if k = 2 then 2 else if k = 5 then 3 else 4
def dnI (v : Int32) : Int32 := if v < 0 then -1 else v - 1
/-- the reference's nodes and names are the tree's -/
def GS (N : NS) (mt : List Nat) (G : PG) : Prop := (pNn G + 1 = N.1 ∧ N.1 ≤ 6201) ∧ (∀ n, 1 ≤ n → n < N.1 → G.1 21 (n - 1) = rkd (nK N n) ∧ (nK N n = 5 → G.1 22 (n - 1) = nI (mt.idxOf (nCn N n))) ∧ (nK N n = 1 → G.1 22 (n - 1) = nC N n) ∧ G.1 24 (n - 1) = dnI (nF N n) ∧ G.1 25 (n - 1) = dnI (nX N n)) ∧ (∀ j, j ∈ mt → mt.idxOf j < 3000 ∧ G.1 30 (mt.idxOf j) = nI (if j < 30 then j + 1 else 0)) ∧ pDf G = (gdf N).length ∧ (∀ L, L ≤ pLm G → pDm G L ≤ 300 ∧ pSn G L ≤ 250 ∧ pFr G L ≤ 250) ∧ True
section SM0
variable {N : NS} {mt : List Nat} {G : PG}
theorem dnI_nI {c : Nat} (h1 : 1 ≤ c) (h2 : c < 2000000000) : dnI (nI c) = nI (c - 1) := by
  unfold dnI
  rw [if_neg (nI_nl h2)]
  have : nI c = nI (c - 1) + 1 := by rw [nI_s, show c - 1 + 1 = c by omega]
  rw [this, Int32.add_sub_cancel]
theorem dnI_m : dnI (-1) = -1 := rfl
theorem chn_of (gs : GS N mt G) {R : Nat → Nat → Prop} : ∀ (ps : List Nat) (a b : Nat), Frs R (nX N) ps a b → 1 ≤ a → b ≤ N.1 → Chn G (dnI (oI ps.head?)) (ps.map (· - 1))
  | [], _, _, _, _, _ => dnI_m
  | c :: ps, a, b, h, ha, hb => by
    obtain ⟨rfl, m, h1, h2, h3, h4, h5⟩ := h
    obtain ⟨⟨g1, g2⟩, g3, _⟩ := gs
    refine ⟨dnI_nI ha (by omega), by show c - 1 < pNn G; omega, ?_⟩
    rw [(g3 c ha (by omega)).2.2.2.2, h4]
    exact chn_of ⟨⟨g1, g2⟩, g3, by assumption⟩ ps m b h5 (by omega) hb
theorem chn_n (gs : GS N mt G) {g n b : Nat} (h : Tr (g + 1) N n b) (h6 : nK N n = 6) (h1 : 1 ≤ n) (hb : b ≤ N.1) : Chn G (G.1 24 (n - 1)) ((pts N n).map (· - 1)) := by
  have hN := gs.1.2
  obtain ⟨a1, a2, a3⟩ := tr_pts h h6 (by omega)
  have hlt := tr_lt _ _ _ _ h
  rw [(gs.2.1 n h1 (by omega)).2.2.2.1, a2]
  exact chn_of gs _ _ _ a3 (by omega) hb
theorem rkd_3 {k : Int32} : rkd k = 3 ↔ k = 5 := by
  unfold rkd
  constructor
  · intro h
    by_cases c1 : k = 1
    · rw [if_pos c1] at h; exact absurd h (by decide)
    · by_cases c2 : k = 3
      · rw [if_neg c1, if_pos c2] at h; exact absurd h (by decide)
      · by_cases c3 : k = 2
        · rw [if_neg c1, if_neg c2, if_pos c3] at h; exact absurd h (by decide)
        · by_cases c4 : k = 5
          · exact c4
          · rw [if_neg c1, if_neg c2, if_neg c3, if_neg c4] at h; exact absurd h (by decide)
  · intro h
    rw [h]
    rfl
/-- the word that a list begins with -/
theorem fw_of (gs : GS N mt G) {n c : Nat} {l : List Nat} (hp : pts N n = c :: l) (h1 : 1 ≤ c) (h2 : c < N.1) (hm : nK N c = 5 → nCn N c ∈ mt) : Fw G (c - 1) (wrd N n) := by
  obtain ⟨g1, g2, g3, _⟩ := gs
  obtain ⟨k1, k2, _⟩ := g2 c h1 h2
  have e : wrd N n = if nK N c = 5 ∧ nCn N c < 10 then nCn N c + 1 else 0 := by unfold wrd; rw [hp]
  rw [e]
  by_cases c5 : nK N c = 5
  · refine Or.inr ⟨by rw [k1, c5]; rfl, ?_⟩
    obtain ⟨m1, m2⟩ := g3 _ (hm c5)
    refine ⟨_, if nCn N c < 30 then nCn N c + 1 else 0, m1, by split <;> omega, k2 c5, m2, ?_⟩
    by_cases c10 : nCn N c < 10
    · have e30 : (if nCn N c < 30 then nCn N c + 1 else 0) = nCn N c + 1 := if_pos (by omega)
      rw [if_pos ⟨c5, c10⟩, e30, if_pos (by omega)]
    · rw [if_neg (fun h => c10 h.2)]
      by_cases c30 : nCn N c < 30
      · rw [if_pos c30, if_neg (by omega)]
      · rw [if_neg c30, if_pos (by omega)]
  · exact Or.inl ⟨by rw [k1]; exact fun h => c5 (rkd_3.mp h), by rw [if_neg (fun h => c5 h.1)]⟩
end SM0
/-- scope and sight -/
def scD (z : CR) (i : Nat) : SCe := (rSc z).getD i (0, 0, 0)
def sgD (y : MR) (i : Nat) : SGe := (mSg y).getD i (0, 0, 0)
def fes (y : MR) (M : Nat) : List Nat := (mFe y M).map (·.1)
def SRa (z : CR) (y : MR) : Prop := ((rSc z).length = (mSg y).length ∧ rBd z = mLv y) ∧ (∀ i, i < (rSc z).length → (scD z i).1 = (sgD y i).1 ∧ (sgD y i).2.1 = mAr y (scD z i).2.2 ∧ (scD z i).2.2 ≤ mLv y) ∧ (∀ l l', l < l' → l' ≤ mLv y → mAr y l < mAr y l') ∧ AI y ∧ mAr y 0 = 0
def SRd (S : Shp) (z : CR) (y : MR) : Prop := S.length = rDp z ∧ (∀ i, i < (rSc z).length → (scD z i).2.2 = rBd z → S[(scD z i).2.1]? = some (some (sgD y i).2.2)) ∧ (∀ t, some t ∈ S → t < mSl y (mLv y)) ∧ mSl y (mLv y) ≤ mLs y (mAr y (mLv y))
/-- what a level keeps is sound -/
def FrO (z : CR) (y : MR) (l : Nat) : Prop := (fes y (mAr y l)).Nodup ∧ ∀ (k : Nat) (e : SGe), (mFe y (mAr y l))[k]? = some e → e.1 < (rSc z).length ∧ (scD z e.1).2.2 < l ∧ (((scD z e.1).2.2 + 1 = l ∧ e.2.1 = 1 ∧ e.2.2 = (sgD y e.1).2.2) ∨ ((scD z e.1).2.2 + 1 < l ∧ e.2.1 = 2 ∧ (fes y (mAr y (l - 1)))[e.2.2]? = some e.1))
def SRe (z : CR) (y : MR) : Prop := ∀ l, 1 ≤ l → l ≤ mLv y → FrO z y l ∧ ∀ x, x ∈ rKp z l → x ∈ fes y (mAr y l)
section SM1
variable {z : CR} {y : MR}
theorem find_cg {α : Type} {p q : α → Bool} : ∀ (l : List α), (∀ x, x ∈ l → p x = q x) → l.find? p = l.find? q
  | [], _ => rfl
  | a :: l, h => by
    rw [List.find?_cons, List.find?_cons, h a (by simp), find_cg l (fun x hx => h x (List.mem_cons_of_mem _ hx))]
theorem fd_eq (h : SRa z y) (j : Nat) : mFd j (mSg y) = cFd j (rSc z) := by
  obtain ⟨⟨h1, _⟩, h2, _⟩ := h
  unfold mFd cFd
  rw [← h1]
  refine find_cg _ (fun i hi => ?_)
  simp only [List.mem_reverse, List.mem_range] at hi
  have := (h2 i hi).1
  show ((sgD y i).1 == j) = ((scD z i).1 == j)
  rw [this]
theorem fes_app {M L : Nat} {e : SGe} {y0 : MR} : fes (mFs y0 L (mFe y0 L ++ [e])) M = if M = L then fes y0 L ++ [e.1] else fes y0 M := by
  unfold fes
  show (if M = L then mFe y0 L ++ [e] else mFe y0 M).map (·.1) = _
  split
  · rw [List.map_append]; rfl
  · rfl
/-- a binding comes among those kept, level by level -/
theorem mfr_e (hA : SRa z y) (hE : ∀ l, 1 ≤ l → l ≤ mLv y → FrO z y l) {s : Nat} (hs : s < (rSc z).length) : ∀ (l : Nat), (scD z s).2.2 < l → l ≤ mLv y →
    (∀ M, (∀ l', (scD z s).2.2 < l' → l' ≤ l → M ≠ mAr y l') → mFe (mFr l s y).2 M = mFe y M) ∧
    (∀ l', (scD z s).2.2 < l' → l' ≤ l → (s ∈ fes y (mAr y l') ∧ mFe (mFr l s y).2 (mAr y l') = mFe y (mAr y l')) ∨ (s ∉ fes y (mAr y l') ∧ ∃ e : SGe, e.1 = s ∧ mFe (mFr l s y).2 (mAr y l') = mFe y (mAr y l') ++ [e] ∧ (((scD z s).2.2 + 1 = l' ∧ e.2.1 = 1 ∧ e.2.2 = (sgD y s).2.2) ∨ ((scD z s).2.2 + 1 < l' ∧ e.2.1 = 2 ∧ (fes (mFr l s y).2 (mAr y (l' - 1)))[e.2.2]? = some s)))) ∧
    (fes (mFr l s y).2 (mAr y l))[(mFr l s y).1]? = some s := by
  have clo : ∀ (d l : Nat), (scD z s).2.2 < l → l + d ≤ mLv y → s ∈ fes y (mAr y (l + d)) → s ∈ fes y (mAr y l) := by
    intro d
    induction d with
    | zero => intro l _ _ h; exact h
    | succ d ih =>
      intro l h1 h2 h
      refine ih l h1 (by omega) ?_
      obtain ⟨e, he, hes⟩ := List.mem_map.mp h
      obtain ⟨k, hk⟩ := List.mem_iff_getElem?.mp he
      obtain ⟨_, _, h3⟩ := (hE (l + (d + 1)) (by omega) h2).2 k e hk
      rw [hes] at h3
      rcases h3 with ⟨h3, _⟩ | ⟨_, _, h3⟩
      · omega
      · exact List.mem_of_getElem? h3
  intro l
  induction l with
  | zero => intro h; omega
  | succ l ih =>
    intro h1 h2
    obtain ⟨⟨a1, a2⟩, a3, a4, a5, a6⟩ := hA
    rw [mFr]
    by_cases c : s ∈ (mFe y (mAr y (l + 1))).map (·.1)
    · rw [if_pos c]
      refine ⟨fun _ _ => rfl, fun l' hl1 hl2 => Or.inl ⟨?_, rfl⟩, ?_⟩
      · have := clo (l + 1 - l') l' hl1 (by omega)
        rw [show l' + (l + 1 - l') = l + 1 by omega] at this
        exact this c
      · show ((mFe y (mAr y (l + 1))).map (·.1))[((mFe y (mAr y (l + 1))).map (·.1)).idxOf s]? = _
        rw [List.getElem?_eq_getElem (List.idxOf_lt_length_iff.mpr c), List.getElem_idxOf]
    · rw [if_neg c]
      have hsg : ((mSg y).getD s (0, 0, 0)).2.1 = mAr y (scD z s).2.2 := (a3 s hs).2.1
      by_cases ch : (scD z s).2.2 = l
      · rw [if_pos (by rw [hsg, ch])]
        refine ⟨fun M hM => ?_, fun l' hl1 hl2 => ?_, ?_⟩
        · show (if M = mAr y (l + 1) then _ else _) = _
          rw [if_neg (hM (l + 1) (by omega) (Nat.le_refl _))]
        · have : l' = l + 1 := by omega
          subst this
          refine Or.inr ⟨c, (s, 1, ((mSg y).getD s (0, 0, 0)).2.2), rfl, ?_, Or.inl ⟨by omega, rfl, rfl⟩⟩
          show (if mAr y (l + 1) = mAr y (l + 1) then _ else _) = _
          rw [if_pos rfl]
        · show (fes (mFs y (mAr y (l + 1)) (mFe y (mAr y (l + 1)) ++ [_])) (mAr y (l + 1)))[(mFe y (mAr y (l + 1))).length]? = _
          rw [fes_app, if_pos rfl]
          have : (fes y (mAr y (l + 1))).length = (mFe y (mAr y (l + 1))).length := List.length_map ..
          rw [← this, List.getElem?_append_right (Nat.le_refl _), Nat.sub_self]
          rfl
      · have hneq : ¬ ((mSg y).getD s (0, 0, 0)).2.1 = mAr y l := fun e => by
          rw [hsg] at e
          have := a4 (scD z s).2.2 l (by omega) (by omega)
          omega
        rw [if_neg hneq]
        obtain ⟨i1, i2, i3⟩ := ih (by omega) (by omega)
        have hne : ∀ l', (scD z s).2.2 < l' → l' ≤ l → mAr y (l + 1) ≠ mAr y l' := fun l' _ hl => by
          have := a4 l' (l + 1) (by omega) h2
          omega
        have e1 := i1 (mAr y (l + 1)) hne
        rw [e1]
        have fe' : ∀ M, mFe (mFs (mFr l s y).2 (mAr y (l + 1)) (mFe y (mAr y (l + 1)) ++ [(s, 2, (mFr l s y).1)])) M = if M = mAr y (l + 1) then mFe y (mAr y (l + 1)) ++ [(s, 2, (mFr l s y).1)] else mFe (mFr l s y).2 M := fun _ => rfl
        have fs' : ∀ M, fes (mFs (mFr l s y).2 (mAr y (l + 1)) (mFe y (mAr y (l + 1)) ++ [(s, 2, (mFr l s y).1)])) M = if M = mAr y (l + 1) then fes y (mAr y (l + 1)) ++ [s] else fes (mFr l s y).2 M := fun M => by
          unfold fes
          rw [fe']
          split
          · rw [List.map_append]; rfl
          · rfl
        refine ⟨fun M hM => ?_, fun l' hl1 hl2 => ?_, ?_⟩
        · rw [fe', if_neg (hM (l + 1) (by omega) (Nat.le_refl _))]
          exact i1 M (fun l' h3 h4 => hM l' h3 (by omega))
        · by_cases cl : l' = l + 1
          · subst cl
            refine Or.inr ⟨c, (s, 2, (mFr l s y).1), rfl, by rw [fe', if_pos rfl], Or.inr ⟨by omega, rfl, ?_⟩⟩
            rw [fs', if_neg (by rw [Nat.add_sub_cancel]; exact Ne.symm (hne l (by omega) (Nat.le_refl _))), Nat.add_sub_cancel]
            exact i3
          · have hnl := hne l' hl1 (by omega)
            rw [fe', if_neg (Ne.symm hnl)]
            rcases i2 l' hl1 (by omega) with h | ⟨h3, e, h4, h5, h6⟩
            · exact Or.inl h
            · refine Or.inr ⟨h3, e, h4, h5, h6.imp_right fun ⟨h7, h8, h9⟩ => ⟨h7, h8, ?_⟩⟩
              rw [fs', if_neg (Ne.symm (hne (l' - 1) (by omega) (by omega)))]
              exact h9
        · rw [fs', if_pos rfl]
          have : (fes y (mAr y (l + 1))).length = (mFe y (mAr y (l + 1))).length := List.length_map ..
          rw [← this, List.getElem?_append_right (Nat.le_refl _), Nat.sub_self]
          rfl
end SM1
