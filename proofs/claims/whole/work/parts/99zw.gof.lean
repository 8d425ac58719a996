/-! BUILD. The program's tables out of what both compilers made -/
section GOF
variable (N : NS) (mt : List Nat) (nw : Nat → Int32)
def lmD (M : Nat) : LMe := (rLm (cAll N mt)).getD (M - 1) (0, 0, 0, 0, [])
def dtV (i : Nat) : Int64 := ((rDt (cAll N mt)).getD i (0, none)).2.getD 0
def gOf : PG := (fun t i => match t with
  | 1 => ((rCd (cAll N mt)).getD i (36, 0)).1
  | 2 => ((rCd (cAll N mt)).getD i (36, 0)).2
  | 3 => vkd (dtV N mt i)
  | 4 => (dtV N mt i).toInt32
  | 9 => nI ((rSr (cAll N mt)).getD i 0)
  | 21 => rkd (nK N (i + 1))
  | 22 => if nK N (i + 1) = 5 then nI (mt.idxOf (nCn N (i + 1))) else if nK N (i + 1) = 1 then nC N (i + 1) else 0
  | 23 => nP N (i + 1)
  | 24 => dnI (nF N (i + 1))
  | 25 => dnI (nX N (i + 1))
  | 26 => mMe (mAll N) i
  | 27 => mNu (mAll N) i
  | 30 => nw i
  | 38 => nI ((mFe (mAll N) (i / 256)).getD (i % 256) (0, 0, 0)).2.1
  | 39 => nI ((mFe (mAll N) (i / 256)).getD (i % 256) (0, 0, 0)).2.2
  | 40 => dnI (nF N 0)
  | _ => 0, fun t k => if 20 ≤ t then (fes (mAll N) (t - 20)).idxOf ((lmD N mt (t - 20)).2.2.2.2.getD k 0) else match t with
  | 0 => if k = 0 then 0 else (lmD N mt k).2.2.2.2.length
  | 1 => mLs (mAll N) k
  | 2 => if k = 0 then rDx (cAll N mt) else (lmD N mt k).2.2.1
  | 3 => (lmD N mt k).1
  | 4 => (lmD N mt k).2.1
  | 5 => mNd (mAll N) k
  | 6 => if k + 1 ∈ tgl (rDt (cAll N mt)) then (tgl (rDt (cAll N mt))).idxOf (k + 1) else 200000
  | 7 => match k with
    | 0 => N.1 - 1
    | 1 => mLa (mAll N)
    | 2 => (gdf N).length
    | 3 => (rCd (cAll N mt)).length
    | 4 => (rDt (cAll N mt)).length
    | 5 => (pts N 0).length
    | _ => 0
  | 8 => (lmD N mt k).2.2.2.1
  | 9 => mNm (mAll N) k
  | 10 => (mFe (mAll N) k).length
  | _ => 0)
end GOF
/-- what was read, fit to be built -/
def BK1 (N : NS) (mt : List Nat) (nw : Nat → Int32) : Prop := Nok N mt ∧ Plo N ∧ (∃ g, 1 ≤ g ∧ g ≤ 31 ∧ Frs (Tr g N) (nX N) (pts N 0) 1 N.1) ∧ nF N 0 = oI (pts N 0).head? ∧ 1 ≤ N.1 ∧ ∀ j, j ∈ mt → mt.idxOf j < 3000 ∧ nw (mt.idxOf j) = nI (if j < 30 then j + 1 else 0)
section GOG
variable {N : NS} {mt : List Nat} {nw : Nat → Int32}
theorem mdf_sm : ∀ (l b : List Nat) (w : Nat × Nat), mDf N l b (some w) ≠ none
  | [], _, w => by simp [mDf]
  | n :: l, b, w => by
    rw [mDf]
    split
    · unfold wMn
      dsimp only
      split <;> exact mdf_sm l _ _
    · exact mdf_sm l _ _
theorem mdf_len : ∀ (l b : List Nat), mDf N l b none = none → b.length ≤ 100 → (l.foldl (gdF N) b).length ≤ 100
  | [], _, _, h => h
  | n :: l, b, h, hb => by
    rw [mDf] at h
    rw [List.foldl_cons]
    by_cases c : gdF N b n ≠ b ∧ 100 ≤ b.length
    · rw [if_pos c] at h
      exact absurd h (mdf_sm l _ _)
    · rw [if_neg c] at h
      refine mdf_len l _ h ?_
      by_cases e : gdF N b n = b
      · rw [e]; exact hb
      · have h1 : ¬ 100 ≤ b.length := fun q => c ⟨e, q⟩
        unfold gdF at e ⊢
        split
        · rw [List.length_append]
          show b.length + 1 ≤ 100
          omega
        · exact hb
theorem rws_c {G : PG} : ∀ (l : List Nat) (pc e : Nat), Rws G l pc e → G.1 1 e = 36 → Rwc G l pc
  | [], pc, e, h, h6 => by
    have h : e = pc := h
    show G.1 1 pc = 36
    rw [← h]; exact h6
  | a :: l, pc, e, ⟨x, f, h1, h2, h3, h4⟩, h6 => ⟨x, f, h1, h2, h3, rws_c l (x + 1) e h4 h6⟩
/-- what both compilers' ends are like, if no fault was told -/
theorem all_bnd (hB : BK1 N mt nw) (hn : rFl (cAll N mt) = none) : ∃ z, cAll N mt = cE 36 0 0 z ∧ z = cRw N mt 40 (pts N 0) cZ0 ∧ rFl z = none ∧ rDp z = 0 ∧ (rCd z).length ≤ 7500 ∧ (rLm z).length ≤ 120 ∧ (rDt z).length ≤ 12400 ∧ rDx z ≤ 279 ∧ (rLm z).length = mLa (mAll N) ∧ (∀ (j : Nat) (e : LMe), (rLm z)[j]? = some e → e.2.2.1 ≤ 300 ∧ e.2.2.2.2.length ≤ 250) ∧ (∀ M, M ≤ mLa (mAll N) → mLs (mAll N) M ≤ 250) ∧ (∀ M, 1 ≤ M → M ≤ mLa (mAll N) → (mFe (mAll N) M).length ≤ 250) ∧ (∀ i t : Nat, (tgl (rDt z))[i]? = some t → t ≠ 0 → ∀ j : Nat, (tgl (rDt z))[j]? = some t → j = i) ∧ ((gdf N).length ≤ 100 ∧ PDo N mt (fun _ => False) (rDt z) ∧ ∀ i t : Nat, (tgl (rDt z))[i]? = some t → t ≠ 0 → 1 ≤ t ∧ t < N.1) ∧ ∀ G, GS N mt G → HG G cZ0 z (mY0 N) (mAll N) 1 N.1 → Rws G ((pts N 0).map (· - 1)) 0 (rCd z).length ∧ ∀ M, 1 ≤ M → M ≤ mLa (mAll N) → WGM G M := by
  obtain ⟨nk, pl, ⟨g, g1, g2, fr⟩, hF, h1, hw⟩ := hB
  have hN := nk.2.2
  have hs := frs_sqn _ _ _ fr (by omega : N.1 < 2000000000)
  have hn : rFl (cRw N mt 40 (pts N 0) cZ0) = none := hn
  have E := rw_e (N := N) (mt := mt) (pts N 0) 1 N.1 cZ0 hs (by omega) ki_0
  obtain ⟨S1, S2, S3⟩ := rw_sim nk (by omega : g ≤ 38) (pts N 0) 1 N.1 cZ0 (mY0 N) hs (Nat.le_refl _) (Nat.le_refl _) ki_0 srp_0 rfl rok_all hn
  have D := rw_d (N := N) (mt := mt) g1 g2 (pts N 0) 1 N.1 cZ0 hs ki_0 rfl (fun _ => rfl) hn
  have T := rw_t (N := N) (mt := mt) (g := g) (by omega) (pts N 0) 1 N.1 cZ0 hs ki_0 hn
  have ai : AI (mY0 N) := fun l hl => Nat.le_refl _
  have S := rw_s (N := N) g2 (B := 250) (Nat.le_refl _) (pts N 0) 1 N.1 (mY0 N) hs (Nat.le_refl _) ai (by show 0 + 8 * g ≤ 250; omega)
  have fi : FI (mY0 N) := ⟨fun i h => absurd h (Nat.not_lt_zero _), fun l l' q1 q2 => by
    have q2 : l' ≤ 0 := q2
    omega, ai, fun l l1 l2 => by
    have l2 : l ≤ 0 := l2
    omega⟩
  have F := rw_f (N := N) g2 (pts N 0) 1 N.1 (mY0 N) hs (Nat.le_refl _) fi (by show 0 + 8 * g ≤ 250; omega)
  have W := (rw_flt nk pl (by omega : g ≤ 38) (pts N 0) [] 1 N.1 cZ0 (mY0 N) hs (Nat.le_refl _) (Nat.le_refl _) ki_0 srp_0 rfl (Nat.zero_le _) rfl rok_all rfl).2 hn
  obtain ⟨e1, e2, e3, e4, e5⟩ := E
  obtain ⟨k1, k2, k3, k4, k5⟩ := e5 hn
  obtain ⟨o1, o2, o3, o4, o5, o6, o7⟩ := e4.2 hn
  have dp : rDp (cRw N mt 40 (pts N 0) cZ0) = 0 := k1
  have fm := o6 (Nat.zero_le _)
  have k3 : (rCd (cRw N mt 40 (pts N 0) cZ0)).length ≤ 0 + 5 * (rFm (cRw N mt 40 (pts N 0) cZ0) - 0) := k3
  have o7 : (rDt (cRw N mt 40 (pts N 0) cZ0)).length + 2 * 1 ≤ 0 + 2 * N.1 := o7
  have d1 : rDx (cRw N mt 40 (pts N 0) cZ0) ≤ max 0 (9 * g) := D.1
  have d2 : (rLm (cRw N mt 40 (pts N 0) cZ0)).length ≤ max 0 120 := D.2.1
  have m0 : mLs (mAll N) 0 ≤ max 0 250 := S.1
  refine ⟨_, ?_, rfl, hn, dp, by omega, by omega, by omega, by omega, S1.2.2.2.1.2, fun j e he => D.2.2 j e (Nat.zero_le _) he, fun M hM => ?_, fun M q1 q2 => F.2 M q1 q2, fun i t hi ht j hj => (T.1.2 i t (Nat.zero_le _) hi ht).2 j (Nat.zero_le _) hj, ⟨mdf_len (pts N 0) [] W (Nat.zero_le _), T.2 ⟨rfl, fun _ h => h.elim, fun i m ov h => (by cases h), fun i n h => (by cases h)⟩, fun i t hi ht => (T.1.2 i t (Nat.zero_le _) hi ht).1⟩, fun G gs H => S3 G gs H⟩
  · show cE 36 0 (rDp (cRw N mt 40 (pts N 0) cZ0)) _ = _
    rw [dp]
  · by_cases c : M = 0
    · rw [c]; omega
    · exact S.2.1 M (Nat.pos_of_ne_zero c) hM
theorem kp_of {L k : Nat} : pKp (gOf N mt nw) L k = (fes (mAll N) L).idxOf ((lmD N mt L).2.2.2.2.getD k 0) := by
  show (if 20 ≤ 20 + L then _ else _) = _
  rw [if_pos (Nat.le_add_right _ _), Nat.add_sub_cancel_left]
theorem fr_of {L : Nat} (h : 1 ≤ L) : pFr (gOf N mt nw) L = (lmD N mt L).2.2.2.2.length := if_neg (by omega)
theorem dm_of {L : Nat} (h : 1 ≤ L) : pDm (gOf N mt nw) L = (lmD N mt L).2.2.1 := if_neg (by omega)
theorem nkc_c (nk : Nok N mt) {i : Nat} (h1 : 1 ≤ i) (h2 : i < N.1) : nK N i = 1 ∨ nK N i = 2 ∨ nK N i = 3 ∨ nK N i = 5 ∨ nK N i = 6 := by
  rcases nk.1 i h1 h2 with c | ⟨c | c, _⟩ | ⟨c, _⟩ | c
  · exact Or.inl c
  · exact Or.inr (Or.inl c)
  · exact Or.inr (Or.inr (Or.inl c))
  · exact Or.inr (Or.inr (Or.inr (Or.inl c)))
  · exact Or.inr (Or.inr (Or.inr (Or.inr c)))
theorem gs_of (hB : BK1 N mt nw) (hn : rFl (cAll N mt) = none) : GS N mt (gOf N mt nw) := by
  obtain ⟨z, ez, _, _, _, b1, b2, b3, b4, b5, b6, b7, b8, b9, b10, _⟩ := all_bnd hB hn
  obtain ⟨nk, pl, _, hF, h1, hw⟩ := hB
  have lm : rLm (cAll N mt) = rLm z := by rw [ez]; rfl
  refine ⟨⟨by show N.1 - 1 + 1 = N.1; omega, nk.2.2⟩, fun n n1 n2 => ?_, hw, rfl, fun L hL => ?_, trivial⟩
  · have e : n - 1 + 1 = n := by omega
    refine ⟨?_, fun h5 => ?_, fun h5 => ?_, ?_, ?_⟩
    · show rkd (nK N (n - 1 + 1)) = _
      rw [e]
    · show (if nK N (n - 1 + 1) = 5 then _ else _) = _
      rw [e, if_pos h5]
    · show (if nK N (n - 1 + 1) = 5 then _ else if nK N (n - 1 + 1) = 1 then _ else _) = _
      rw [e, if_neg (by rw [h5]; decide), if_pos h5]
    · show dnI (nF N (n - 1 + 1)) = _
      rw [e]
    · show dnI (nX N (n - 1 + 1)) = _
      rw [e]
  · have hL : L ≤ mLa (mAll N) := hL
    by_cases c : L = 0
    · subst c
      refine ⟨?_, b7 0 (Nat.zero_le _), Nat.zero_le _⟩
      show rDx (cAll N mt) ≤ 300
      rw [ez]
      show max (rDx z) 0 ≤ 300
      omega
    · have hl : L - 1 < (rLm z).length := by omega
      have e : (rLm z)[L - 1]? = some (lmD N mt L) := by
        unfold lmD
        rw [lm, List.getD_eq_getElem?_getD, List.getElem?_eq_getElem hl]
        rfl
      rw [fr_of (by omega), dm_of (by omega)]
      exact ⟨(b6 _ _ e).1, b7 L hL, (b6 _ _ e).2⟩
theorem hg_of {z : CR} (ez : cAll N mt = cE 36 0 0 z) (b3 : (rDt z).length ≤ 12400) (b5 : (rLm z).length = mLa (mAll N)) (b8 : ∀ M, 1 ≤ M → M ≤ mLa (mAll N) → (mFe (mAll N) M).length ≤ 250) (b9 : ∀ i t : Nat, (tgl (rDt z))[i]? = some t → t ≠ 0 → ∀ j : Nat, (tgl (rDt z))[j]? = some t → j = i) : HG (gOf N mt nw) cZ0 z (mY0 N) (mAll N) 1 N.1 := by
  have cd : rCd (cAll N mt) = rCd z ++ [(36, 0)] := by rw [ez]; rfl
  have lm : rLm (cAll N mt) = rLm z := by rw [ez]; rfl
  have dt : rDt (cAll N mt) = rDt z := by rw [ez]; rfl
  have sr : rSr (cAll N mt) = rSr z := by rw [ez]; rfl
  refine ⟨⟨fun i _ hi => ?_, ?_⟩, fun m m1 m2 => ⟨rfl, rfl⟩, ⟨?_, Nat.le_refl _, Nat.le_refl _⟩, fun k x h => absurd h (Nat.not_lt_zero _), fun M hM1 hM2 => ?_, fun i w _ hw => ?_, fun i m v _ hv hm => ?_⟩
  · show _ = some (((rCd (cAll N mt)).getD i (36, 0)).1, ((rCd (cAll N mt)).getD i (36, 0)).2)
    rw [cd, gd_app1 hi, List.getD_eq_getElem?_getD, List.getElem?_eq_getElem hi]
    rfl
  · show _ ≤ (rCd (cAll N mt)).length
    rw [cd, List.length_append]; omega
  · show rDx z ≤ rDx (cAll N mt)
    rw [ez]; exact Nat.le_max_left _ _
  · have hM1 : 0 < M := hM1
    have hl : M - 1 < (rLm z).length := by omega
    have e : (rLm z)[M - 1]? = some (lmD N mt M) := by
      unfold lmD
      rw [lm, List.getD_eq_getElem?_getD, List.getElem?_eq_getElem hl]
      rfl
    refine ⟨lmD N mt M, e, hM2, rfl, rfl, dm_of hM1, rfl, fr_of hM1, fun k x hx => ?_, ⟨rfl, rfl, rfl⟩, rfl, fun j e' he => ?_⟩
    · rw [kp_of, List.getD_eq_getElem?_getD, hx]
      rfl
    · have hj := g_lt he
      have h8 := b8 M hM1 hM2
      have q1 : (256 * M + j) / 256 = M := by omega
      have q2 : (256 * M + j) % 256 = j := by omega
      refine ⟨?_, ?_⟩
      · show nI ((mFe (mAll N) ((256 * M + j) / 256)).getD ((256 * M + j) % 256) (0, 0, 0)).2.1 = _
        rw [q1, q2, List.getD_eq_getElem?_getD, he]
        rfl
      · show nI ((mFe (mAll N) ((256 * M + j) / 256)).getD ((256 * M + j) % 256) (0, 0, 0)).2.2 = _
        rw [q1, q2, List.getD_eq_getElem?_getD, he]
        rfl
  · show nI ((rSr (cAll N mt)).getD i 0) = _
    rw [sr, List.getD_eq_getElem?_getD, hw]
    rfl
  · show (if m - 1 + 1 ∈ tgl (rDt (cAll N mt)) then (tgl (rDt (cAll N mt))).idxOf (m - 1 + 1) else 200000) = i ∧ _
    rw [dt, show m - 1 + 1 = m by omega]
    have h1 : (tgl (rDt z))[i]? = some m := by unfold tgl; rw [List.getElem?_map, hv]; rfl
    have h2 := List.mem_of_getElem? h1
    have h4 := g_lt hv
    rw [if_pos h2]
    refine ⟨?_, by omega⟩
    have h3 := List.idxOf_lt_length_iff.mpr h2
    exact b9 i m h1 hm _ (by rw [List.getElem?_eq_getElem h3, List.getElem_idxOf])
/-- the program that both built is sound -/
theorem wg_of (hB : BK1 N mt nw) (hn : rFl (cAll N mt) = none) : WG (gOf N mt nw) ∧ ∃ l, Chn (gOf N mt nw) (pF1 (gOf N mt nw)) l ∧ Rwc (gOf N mt nw) l 0 := by
  have gs := gs_of hB hn
  obtain ⟨z, ez, _, _, _, b1, b2, b3, b4, b5, b6, b7, b8, b9, b10, b11⟩ := all_bnd hB hn
  have H := hg_of (nw := nw) ez b3 b5 b8 b9
  obtain ⟨nk, pl, ⟨g, g1, g2, fr⟩, hF, h1, hw⟩ := hB
  obtain ⟨R, W⟩ := b11 _ gs H
  have cd : rCd (cAll N mt) = rCd z ++ [(36, 0)] := by rw [ez]; rfl
  have hcz : pCz (gOf N mt nw) = (rCd z).length + 1 := by
    show (rCd (cAll N mt)).length = _
    rw [cd, List.length_append]; rfl
  have hlm : pLm (gOf N mt nw) = mLa (mAll N) := rfl
  refine ⟨⟨fun pc hp => ?_, by omega, ?_, by omega, b10.1, fun L hL => ?_, rfl, fun M q1 q2 => (W M q1 q2).2⟩, (pts N 0).map (· - 1), ?_, rws_c _ _ _ R ?_⟩
  · show ((rCd (cAll N mt)).getD pc (36, 0)).1 = 36
    have hp : (rCd (cAll N mt)).length ≤ pc := hp
    rw [List.getD_eq_getElem?_getD, List.getElem?_eq_none hp]
    rfl
  · have := nk.2.2
    show N.1 - 1 ≤ 6200
    omega
  · obtain ⟨a1, a2, a3⟩ := gs.2.2.2.2.1 L hL
    refine ⟨a1, a2, a3, fun k hk => ?_⟩
    by_cases c : L = 0
    · subst c
      exact absurd hk (Nat.not_lt_zero _)
    · exact (W L (by omega) hL).1.2.2 k hk
  · show Chn _ (dnI (nF N 0)) _
    rw [hF]
    exact chn_of gs _ _ _ fr (Nat.le_refl _) (Nat.le_refl _)
  · show ((rCd (cAll N mt)).getD (rCd z).length (36, 0)).1 = 36
    rw [cd, gd_app2]
end GOG
