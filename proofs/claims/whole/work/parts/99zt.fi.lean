/-! BUILD. How much the reference's lambdas keep -/
def FI (y : MR) : Prop := (∀ i, i < (mSg y).length → ∃ l, l ≤ mLv y ∧ (sgD y i).2.1 = mAr y l) ∧ (∀ l l', l < l' → l' ≤ mLv y → mAr y l < mAr y l') ∧ AI y ∧ ∀ l, 1 ≤ l → l ≤ mLv y → (fes y (mAr y l)).Nodup ∧ ∀ s, s ∈ fes y (mAr y l) → s < (mSg y).length ∧ (sgD y s).2.1 < mAr y l
def FIe (y y' : MR) : Prop := FI y' ∧ ∀ M, mLa y < M → M ≤ mLa y' → (mFe y' M).length ≤ 250
def FIs (N : NS) (g : Nat) (Fm : Nat → MR → MR) : Prop := ∀ v m y, Trb g N v m → 1 ≤ v → FI y → (mSg y).length + 8 * g ≤ 250 → FIe y (Fm v y)
section FII
variable {N : NS} {y y1 y2 y' : MR} {a b g m n : Nat} {Fm : Nat → MR → MR}
theorem fi_same (h : FI y) (e1 : y1.2.1 = y.2.1) (e2 : mFe y1 = mFe y) (e3 : mLa y ≤ mLa y1) : FI y1 := by
  have a1 : mSg y1 = mSg y := congrArg (fun t => t.1) e1
  have a2 : mLv y1 = mLv y := congrArg (fun t => t.2.1) e1
  have a3 : mAr y1 = mAr y := congrArg (fun t => t.2.2.1) e1
  have a4 : sgD y1 = sgD y := by funext i; unfold sgD; rw [a1]
  have a5 : fes y1 = fes y := by funext M; unfold fes; rw [e2]
  obtain ⟨h1, h2, h3, h4⟩ := h
  unfold FI AI
  rw [a1, a2, a3, a4, a5]
  exact ⟨h1, h2, fun l hl => Nat.le_trans (h3 l hl) e3, h4⟩
theorem fie_same (h : FI y) (e1 : y1.2.1 = y.2.1) (e2 : mFe y1 = mFe y) (e3 : mLa y1 = mLa y) : FIe y y1 := ⟨fi_same h e1 e2 (Nat.le_of_eq e3.symm), fun M h1 h2 => by omega⟩
/-- a piece, then another -/
theorem fie_tr (hi : FI y) (h1 : FIe y y1) (h2 : FIe y1 y2) (M1 : MEf N a b y y1) (M2 : MEf N a b y1 y2) : FIe y y2 := by
  refine ⟨h2.1, fun M h3 h4 => ?_⟩
  by_cases c : M ≤ mLa y1
  · rw [(M2.2.2.2.2.1 M c (fun l hl => by
      rw [M1.1.2.1] at hl
      rw [M1.1.2.2.1 l hl]
      have := hi.2.2.1 l hl
      omega)).2]
    exact h1.2 M h3 c
  · exact h2.2 M (by omega) h4
theorem mfr_hi : ∀ (l s : Nat) (y : MR) (M : Nat), (∀ l', l' ≤ l → M ≠ mAr y l') → mFe (mFr l s y).2 M = mFe y M
  | 0, _, _, _, _ => rfl
  | l + 1, s, y, M, h => by
    rw [mFr]
    split
    · rfl
    · split
      · show (if M = mAr y (l + 1) then _ else _) = _
        rw [if_neg (h (l + 1) (Nat.le_refl _))]
      · show (if M = mAr y (l + 1) then _ else _) = _
        rw [if_neg (h (l + 1) (Nat.le_refl _))]
        exact mfr_hi l s y M (fun l' hl => h l' (by omega))
/-- one more is kept -/
theorem fi_put {l : Nat} {e : SGe} (h : FI y) (hl : 1 ≤ l ∧ l ≤ mLv y) (he : e.1 < (mSg y).length) (hlt : (sgD y e.1).2.1 < mAr y l) (hn : e.1 ∉ fes y (mAr y l)) : FI (mFs y (mAr y l) (mFe y (mAr y l) ++ [e])) := by
  obtain ⟨h1, h2, h3, h4⟩ := h
  refine ⟨h1, h2, h3, fun l' l1 l2 => ?_⟩
  have l2 : l' ≤ mLv y := l2
  show (fes (mFs y (mAr y l) (mFe y (mAr y l) ++ [e])) (mAr y l')).Nodup ∧ ∀ s, s ∈ fes (mFs y (mAr y l) (mFe y (mAr y l) ++ [e])) (mAr y l') → s < (mSg y).length ∧ (sgD y s).2.1 < mAr y l'
  rw [fes_app]
  obtain ⟨f1, f2⟩ := h4 l' l1 l2
  by_cases c : mAr y l' = mAr y l
  · rw [if_pos c]
    rw [c] at f1 f2 ⊢
    refine ⟨List.nodup_append.mpr ⟨f1, by simp, fun x hx x' hx' q => by
      simp only [List.mem_cons, List.not_mem_nil, or_false] at hx'
      subst hx'
      exact hn (q ▸ hx)⟩, fun s hs => ?_⟩
    rcases List.mem_append.mp hs with hs | hs
    · exact f2 s hs
    · simp only [List.mem_cons, List.not_mem_nil, or_false] at hs
      rw [hs]; exact ⟨he, hlt⟩
  · rw [if_neg c]; exact ⟨f1, f2⟩
theorem fi_fr : ∀ (l s l' : Nat) (y : MR), FI y → s < (mSg y).length → (sgD y s).2.1 = mAr y l' → l' < l → l ≤ mLv y → FI (mFr l s y).2
  | 0, _, _, _, _, _, _, h, _ => by omega
  | l + 1, s, l', y, h, hs, hl, h1, h2 => by
    have hlt : (sgD y s).2.1 < mAr y (l + 1) := by rw [hl]; exact h.2.1 l' (l + 1) h1 h2
    rw [mFr]
    split
    · exact h
    · rename_i c
      split
      · exact fi_put h ⟨by omega, h2⟩ hs hlt c
      · rename_i c2
        have hne : l' ≠ l := fun e => c2 (by rw [← e]; exact hl)
        have i1 := fi_fr l s l' y h hs hl (by omega) (by omega)
        obtain ⟨_, f2, f3, f4, f5⟩ := fr_e (N := (0, fun _ => 0, fun _ => 0, fun _ => 0, fun _ => 0, fun _ => 0)) (a := 0) (b := 0) l s y (by omega)
        have a1 : mSg (mFr l s y).2 = mSg y := congrArg (fun t => t.1) f4
        have a2 : mLv (mFr l s y).2 = mLv y := congrArg (fun t => t.2.1) f4
        have a3 : mAr (mFr l s y).2 = mAr y := congrArg (fun t => t.2.2.1) f4
        have a4 : sgD (mFr l s y).2 = sgD y := by funext i; unfold sgD; rw [a1]
        have e1 : mFe (mFr l s y).2 (mAr y (l + 1)) = mFe y (mAr y (l + 1)) := mfr_hi l s y _ (fun l'' hl'' => by have := h.2.1 l'' (l + 1) (by omega) h2; omega)
        have := fi_put (y := (mFr l s y).2) (l := l + 1) (e := (s, 2, (mFr l s y).1)) i1 ⟨by omega, by rw [a2]; exact h2⟩ (by rw [a1]; exact hs) (by rw [a3, a4]; exact hlt) (by rw [a3]; unfold fes; rw [e1]; exact c)
        rw [a3] at this
        exact this
theorem us_f {x : Nat} (h : FI y) : FIe y (mUs N x y) := by
  unfold mUs
  split
  · exact fie_same h rfl rfl rfl
  · split
    · exact fie_same h rfl rfl rfl
    · split
      · rename_i s hs
        split
        · exact fie_same h rfl rfl rfl
        · rename_i c
          have hs1 : s < (mSg y).length := by
            unfold mFd at hs
            have := List.mem_of_find?_eq_some hs
            simpa using this
          obtain ⟨l', q1, q2⟩ := h.1 s hs1
          have hlt : l' < mLv y := by
            rcases Nat.lt_or_ge l' (mLv y) with q | q
            · exact q
            · exact absurd (by have : l' = mLv y := by omega
                               rw [this] at q2; exact q2) c
          have i1 := fi_fr (mLv y) s l' y h hs1 q2 hlt (Nat.le_refl _)
          have f2 := (fr_e (N := (0, fun _ => 0, fun _ => 0, fun _ => 0, fun _ => 0, fun _ => 0)) (a := 0) (b := 0) (mLv y) s y (Nat.le_refl _)).2.1
          refine ⟨fi_same i1 rfl rfl (Nat.le_refl _), fun M h1 h2 => ?_⟩
          have h2 : M ≤ mLa (mFr (mLv y) s y).2 := h2
          omega
      · split <;> exact fie_same h rfl rfl rfl
theorem bo_f (hM : MFs N g Fm) (hS : FIs N g Fm) : ∀ (l : List Nat) (a b : Nat) (y : MR), Sqn g N l a b → 1 ≤ a → FI y → (mSg y).length + 8 * g ≤ 250 → FIe y (mBo Fm l y)
  | [], _, _, _, _, _, h, _ => fie_same h rfl rfl rfl
  | v :: l, a, b, y, hs, ha, h, h1 => by
    obtain ⟨q1, m, q2, q3, q4, q5⟩ := hs
    have M1 := hM v m y q2 (by omega) h.2.2.1
    have f1 := hS v m y q2 (by omega) h h1
    have M2 := bo_m hM l m b (Fm v y) q5 (by omega) (ai_ef M1 h.2.2.1)
    exact fie_tr (N := N) (a := a) (b := b) h f1 (bo_f hM hS l m b (Fm v y) q5 (by omega) f1.1 (by rw [M1.1.1]; exact h1)) (mef_wk M1 q1 q4) (mef_wk M2 (by omega) (Nat.le_refl _))
theorem fi_in {j : Nat} (h : FI y) : FI (mIn j y) := by
  obtain ⟨h1, h2, h3, h4⟩ := h
  have len : (mSg (mIn j y)).length = (mSg y).length + 1 := by
    show (mSg y ++ [_]).length = _
    rw [List.length_append]; rfl
  have old : ∀ i, i < (mSg y).length → sgD (mIn j y) i = sgD y i := fun i hi => by
    unfold sgD
    show (mSg y ++ [_]).getD i _ = _
    rw [gd_app1 hi]
  refine ⟨fun i hi => ?_, h2, h3, fun l l1 l2 => ?_⟩
  · rw [len] at hi
    by_cases c : i < (mSg y).length
    · rw [old i c]; exact h1 i c
    · have : i = (mSg y).length := by omega
      subst this
      refine ⟨mLv y, Nat.le_refl _, ?_⟩
      unfold sgD
      show ((mSg y ++ [(j, mAr y (mLv y), mSl y (mLv y))]).getD (mSg y).length (0, 0, 0)).2.1 = _
      rw [gd_app2]
      rfl
  · obtain ⟨f1, f2⟩ := h4 l l1 l2
    refine ⟨f1, fun s hs => ?_⟩
    obtain ⟨q1, q2⟩ := f2 s hs
    rw [old s q1]
    exact ⟨by omega, q2⟩
theorem fi_ins : ∀ (js : List Nat) (y : MR), FI y → FI (js.foldl (fun y j => mIn j y) y)
  | [], _, h => h
  | j :: js, y, h => fi_ins js (mIn j y) (fi_in h)
theorem fi_bi {w : Nat} (ns : List Nat) (y : MR) (h : FI y) : FI (mBi N w ns y) := by
  obtain ⟨_, b2, b3, _⟩ := bi_ins (N := N) (w := w) ns y y rfl rfl rfl rfl
  exact fi_same (fi_ins (ns.map (nCn N)) y h) b2 (congrArg (fun t => t.2.2.2.2) b3) (Nat.le_of_eq (congrArg (fun t => t.1) b3).symm)
end FII
