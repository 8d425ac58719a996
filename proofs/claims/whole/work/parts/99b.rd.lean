/-! BUILD. The reading of tokens by recursion: mode 9 one datum, mode 3 a list's parts, mode 0 the row's forms -/
def nLs (p : Nat) (N : NS) (e : SE) : NS := adN (nwN N 6 0 (nI p)) e N.1
def nQu (p : Nat) (N : NS) (e : SE) : NS := adN (nwN (nLs p N e) 5 0 (nI p)) (N.1, none, true) (N.1 + 1)
abbrev RDr := Option (Nat × Nat) × List TK × NS × SE
def rd : Nat → Nat → List TK → NS → SE → Nat → RDr
  | 0, _, T, N, e, _ => (some (0, 0), T, N, e)
  | _ + 1, _, [], N, e, _ => (some (0, 0), [], N, e)
  | f + 1, m, x :: T, N, e, lv =>
    if m = 9 then
      (if x.1 ≤ 1 ∨ x.1 = 3 then (some (1, x.2.1), x :: T, N, e)
       else if x.1 = 2 then (if 30 ≤ lv then (some (2, x.2.1), x :: T, N, e) else ((rd f 3 T (nLs x.2.1 N e) (N.1, none, false) (lv + 1)).1, (rd f 3 T (nLs x.2.1 N e) (N.1, none, false) (lv + 1)).2.1, (rd f 3 T (nLs x.2.1 N e) (N.1, none, false) (lv + 1)).2.2.1, (e.1, some N.1, e.2.2)))
       else if x.1 = 4 then (if 30 ≤ lv then (some (2, x.2.1), x :: T, N, e) else ((rd f 9 T (nQu x.2.1 N e) (N.1, some (N.1 + 1), true) (lv + 1)).1, (rd f 9 T (nQu x.2.1 N e) (N.1, some (N.1 + 1), true) (lv + 1)).2.1, (rd f 9 T (nQu x.2.1 N e) (N.1, some (N.1 + 1), true) (lv + 1)).2.2.1, (e.1, some N.1, e.2.2)))
       else (none, T, adN (nwN N (tkK x.1) x.2.2 (nI x.2.1)) e N.1, (e.1, some N.1, e.2.2)))
    else if x.1 = m then (none, T, N, e)
    else if (rd f 9 (x :: T) N e lv).1 = none then rd f m (rd f 9 (x :: T) N e lv).2.1 (rd f 9 (x :: T) N e lv).2.2.1 (rd f 9 (x :: T) N e lv).2.2.2 lv
    else rd f 9 (x :: T) N e lv
/-- a row of tokens: the last is the end or no token, the others are tokens -/
def WT : List TK → Prop
  | [] => False
  | [x] => x.1 ≤ 1
  | x :: y :: T => 2 ≤ x.1 ∧ x.1 ≤ 8 ∧ WT (y :: T)
theorem wt_c {x : TK} {T : List TK} (h : WT (x :: T)) (hx : 2 ≤ x.1) : x.1 ≤ 8 ∧ WT T := by
  cases T with
  | nil => exact absurd (show x.1 ≤ 1 from h) (by omega)
  | cons y T => exact ⟨h.2.1, h.2.2⟩
section RDP
variable {N : NS} {e : SE} {lv f : Nat} {T : List TK} {x : TK}
theorem rd_9b (h : x.1 ≤ 1 ∨ x.1 = 3) : rd (f + 1) 9 (x :: T) N e lv = (some (1, x.2.1), x :: T, N, e) := by
  unfold rd
  rw [if_pos rfl, if_pos h]
theorem rd_92f (h : x.1 = 2) (hl : 30 ≤ lv) : rd (f + 1) 9 (x :: T) N e lv = (some (2, x.2.1), x :: T, N, e) := by
  unfold rd
  rw [if_pos rfl, if_neg (by omega), if_pos h, if_pos hl]
theorem rd_92 (h : x.1 = 2) (hl : lv < 30) : rd (f + 1) 9 (x :: T) N e lv = ((rd f 3 T (nLs x.2.1 N e) (N.1, none, false) (lv + 1)).1, (rd f 3 T (nLs x.2.1 N e) (N.1, none, false) (lv + 1)).2.1, (rd f 3 T (nLs x.2.1 N e) (N.1, none, false) (lv + 1)).2.2.1, (e.1, some N.1, e.2.2)) := by
  rw [rd, if_pos rfl, if_neg (by omega), if_pos h, if_neg (by omega)]
theorem rd_94f (h : x.1 = 4) (hl : 30 ≤ lv) : rd (f + 1) 9 (x :: T) N e lv = (some (2, x.2.1), x :: T, N, e) := by
  unfold rd
  rw [if_pos rfl, if_neg (by omega), if_neg (by omega), if_pos h, if_pos hl]
theorem rd_94 (h : x.1 = 4) (hl : lv < 30) : rd (f + 1) 9 (x :: T) N e lv = ((rd f 9 T (nQu x.2.1 N e) (N.1, some (N.1 + 1), true) (lv + 1)).1, (rd f 9 T (nQu x.2.1 N e) (N.1, some (N.1 + 1), true) (lv + 1)).2.1, (rd f 9 T (nQu x.2.1 N e) (N.1, some (N.1 + 1), true) (lv + 1)).2.2.1, (e.1, some N.1, e.2.2)) := by
  rw [rd, if_pos rfl, if_neg (by omega), if_neg (by omega), if_pos h, if_neg (by omega)]
theorem rd_95 (h : 5 ≤ x.1) : rd (f + 1) 9 (x :: T) N e lv = (none, T, adN (nwN N (tkK x.1) x.2.2 (nI x.2.1)) e N.1, (e.1, some N.1, e.2.2)) := by
  unfold rd
  rw [if_pos rfl, if_neg (by omega), if_neg (by omega), if_neg (by omega)]
theorem rd_me {m : Nat} (hm : m ≠ 9) (h : x.1 = m) : rd (f + 1) m (x :: T) N e lv = (none, T, N, e) := by
  unfold rd
  rw [if_neg hm, if_pos h]
theorem rd_mn {m : Nat} (hm : m ≠ 9) (h : x.1 ≠ m) (h9 : (rd f 9 (x :: T) N e lv).1 = none) : rd (f + 1) m (x :: T) N e lv = rd f m (rd f 9 (x :: T) N e lv).2.1 (rd f 9 (x :: T) N e lv).2.2.1 (rd f 9 (x :: T) N e lv).2.2.2 lv := by
  rw [rd, if_neg hm, if_neg h, if_pos h9]
theorem rd_mf {m : Nat} (hm : m ≠ 9) (h : x.1 ≠ m) (h9 : (rd f 9 (x :: T) N e lv).1 ≠ none) : rd (f + 1) m (x :: T) N e lv = rd f 9 (x :: T) N e lv := by
  rw [rd, if_neg hm, if_neg h, if_neg h9]
theorem wt_end {T : List TK} : WT T → T ≠ [] := fun h e => by subst e; exact h
/-- what is left is a row of tokens, shorter -/
theorem rd_wt : ∀ (f m : Nat) (T : List TK) (N : NS) (e : SE) (lv : Nat), (m = 9 ∨ m = 3 ∨ m = 0) → WT T → (rd f m T N e lv).1 = none → ((m = 9 → (rd f m T N e lv).2.2.2 = (e.1, some N.1, e.2.2) ∧ (rd f m T N e lv).2.1.length < T.length) ∧ (rd f m T N e lv).2.1.length < T.length ∧ (rd f m T N e lv).2.2.2.1 = e.1 ∧ (rd f m T N e lv).2.2.2.2.2 = e.2.2 ∧ (m ≠ 0 → WT (rd f m T N e lv).2.1)) := by
  intro f
  induction f with
  | zero => intro m T N e lv _ _ h; cases h
  | succ f ih =>
    intro m T N e lv hm hT hn
    cases T with
    | nil => exact hT.elim
    | cons x T =>
      by_cases h9 : m = 9
      · subst h9
        by_cases c1 : x.1 ≤ 1 ∨ x.1 = 3
        · rw [rd_9b c1] at hn; cases hn
        · have ⟨w1, w2⟩ := wt_c hT (by omega)
          by_cases c2 : x.1 = 2
          · by_cases cl : lv < 30
            · rw [rd_92 c2 cl] at hn ⊢
              have := ih 3 T _ _ _ (Or.inr (Or.inl rfl)) w2 hn
              exact ⟨fun _ => ⟨rfl, by simp only [List.length_cons]; omega⟩, by simp only [List.length_cons]; omega, rfl, rfl, fun _ => this.2.2.2.2 (by decide)⟩
            · rw [rd_92f c2 (by omega)] at hn; cases hn
          · by_cases c4 : x.1 = 4
            · by_cases cl : lv < 30
              · rw [rd_94 c4 cl] at hn ⊢
                have := ih 9 T _ _ _ (Or.inl rfl) w2 hn
                exact ⟨fun _ => ⟨rfl, by simp only [List.length_cons]; omega⟩, by simp only [List.length_cons]; omega, rfl, rfl, fun _ => this.2.2.2.2 (by decide)⟩
              · rw [rd_94f c4 (by omega)] at hn; cases hn
            · rw [rd_95 (by omega)]
              exact ⟨fun _ => ⟨rfl, by simp only [List.length_cons]; omega⟩, by simp only [List.length_cons]; omega, rfl, rfl, fun _ => w2⟩
      · by_cases ce : x.1 = m
        · rw [rd_me h9 ce]
          exact ⟨fun h => absurd h h9, by simp only [List.length_cons]; omega, rfl, rfl, fun h0 => (wt_c hT (by omega)).2⟩
        · by_cases c9 : (rd f 9 (x :: T) N e lv).1 = none
          · rw [rd_mn h9 ce c9] at hn ⊢
            obtain ⟨a1, a2, a3, a4, a5⟩ := ih 9 (x :: T) N e lv (Or.inl rfl) hT c9
            obtain ⟨b1, b2, b3, b4, b5⟩ := ih m _ _ _ lv hm (a5 (by decide)) hn
            exact ⟨fun h => absurd h h9, by omega, b3.trans a3, b4.trans a4, b5⟩
          · rw [rd_mf h9 ce c9] at hn; exact absurd hn c9
theorem prun_2 (h : x.1 = 2) {stk : List SE} (hl : ¬ 31 ≤ stk.length) : prun (x :: T) N stk = prun T (pOp x.2.1 N stk).1 (pOp x.2.1 N stk).2 := by
  rw [prun, if_neg (by omega), if_neg (by omega), if_pos h, if_neg hl]
theorem prun_4 (h : x.1 = 4) {stk : List SE} (hl : ¬ 31 ≤ stk.length) : prun (x :: T) N stk = prun T (pQu x.2.1 N stk).1 (pQu x.2.1 N stk).2 := by
  rw [prun, if_neg (by omega), if_neg (by omega), if_neg (by omega), if_neg (by omega), if_pos h, if_neg hl]
theorem prun_5 (h : 5 ≤ x.1) {stk : List SE} : prun (x :: T) N stk = prun T (pDa (tkK x.1) x.2.2 x.2.1 N stk).1 (pDa (tkK x.1) x.2.2 x.2.1 N stk).2 := by
  rw [prun, if_neg (by omega), if_neg (by omega), if_neg (by omega), if_neg (by omega), if_neg (by omega)]
/-- the stack machine reads as the recursion does -/
theorem rd_prun : ∀ (f m : Nat) (T : List TK) (N : NS) (e : SE) (l : List SE), WT T → 2 * T.length + (if m = 9 then 0 else 1) ≤ f → l.length ≤ 30 →
    (m = 9 → (∀ x T', T = x :: T' → (x.1 = 0 → l ≠ []) ∧ (x.1 = 3 → ¬ (l ≠ [] ∧ e.2.2 = false))) → ((rd f m T N e l.length).1 = none → prun T N (e :: l) = prun (rd f m T N e l.length).2.1 (rd f m T N e l.length).2.2.1 (cq ((rd f m T N e l.length).2.2.2 :: l))) ∧ ∀ y, (rd f m T N e l.length).1 = some y → (prun T N (e :: l)).1 = some y) ∧
    (m = 3 → l ≠ [] → e.2.2 = false → ((rd f m T N e l.length).1 = none → prun T N (e :: l) = prun (rd f m T N e l.length).2.1 (rd f m T N e l.length).2.2.1 (cq l)) ∧ ∀ y, (rd f m T N e l.length).1 = some y → (prun T N (e :: l)).1 = some y) ∧
    (m = 0 → l = [] → e.2.2 = false → ((rd f m T N e l.length).1 = none → prun T N (e :: l) = (none, (rd f m T N e l.length).2.2.1, [(rd f m T N e l.length).2.2.2])) ∧ ∀ y, (rd f m T N e l.length).1 = some y → (prun T N (e :: l)).1 = some y) := by
  intro f
  induction f with
  | zero =>
    intro m T N e l hT hf
    have : 0 < T.length := List.length_pos_iff.mpr (wt_end hT)
    split at hf <;> omega
  | succ f ih =>
    intro m T N e l hT hf hl
    cases T with
    | nil => exact hT.elim
    | cons x T =>
      have hf2 : 2 * T.length + 2 ≤ f + 1 := by
        simp only [List.length_cons] at hf
        split at hf <;> omega
      refine ⟨fun h9 hpre => ?_, fun h3 hl0 he => ?_, fun h0 hl0 he => ?_⟩
      · subst h9
        obtain ⟨p0, p3⟩ := hpre x T rfl
        by_cases c1 : x.1 ≤ 1 ∨ x.1 = 3
        · rw [rd_9b c1]
          refine ⟨fun h => (by cases h), fun y hy => ?_⟩
          injection hy with hy
          subst hy
          rw [prun]
          by_cases c0 : x.1 = 0
          · have := p0 c0
            have hlen : ¬ (e :: l).length = 1 := by
              cases l with
              | nil => exact absurd rfl this
              | cons a b => simp
            rw [if_pos c0, if_neg hlen]
          · by_cases cc : x.1 = 1
            · rw [if_neg c0, if_pos cc]
            · have c3 : x.1 = 3 := by omega
              rw [if_neg c0, if_neg cc, if_neg (by omega), if_pos c3, if_neg]
              rintro ⟨a1, a2⟩
              refine p3 c3 ⟨fun e => ?_, a2⟩
              subst e
              simp at a1
        · have ⟨w1, w2⟩ := wt_c hT (by omega)
          by_cases c2 : x.1 = 2
          · by_cases cl : l.length < 30
            · rw [rd_92 c2 cl, prun_2 c2 (by simp only [List.length_cons]; omega)]
              exact (ih 3 T (nLs x.2.1 N e) (N.1, none, false) ((e.1, some N.1, e.2.2) :: l) w2 (by rw [if_neg (by decide)]; omega) (by simp only [List.length_cons]; omega)).2.1 rfl (by simp) rfl
            · rw [rd_92f c2 (by omega)]
              refine ⟨fun h => (by cases h), fun y hy => ?_⟩
              injection hy with hy
              subst hy
              rw [prun, if_neg (by omega), if_neg (by omega), if_pos c2, if_pos (by simp only [List.length_cons]; omega)]
          · by_cases c4 : x.1 = 4
            · by_cases cl : l.length < 30
              · have hA := (ih 9 T (nQu x.2.1 N e) (N.1, some (N.1 + 1), true) ((e.1, some N.1, e.2.2) :: l) w2 (by rw [if_pos rfl]; omega) (by simp only [List.length_cons]; omega)).1 rfl (fun y T' _ => ⟨fun _ => by simp, fun _ h => by cases h.2⟩)
                have hW := rd_wt f 9 T (nQu x.2.1 N e) (N.1, some (N.1 + 1), true) (l.length + 1) (Or.inl rfl) w2
                rw [rd_94 c4 cl, prun_4 c4 (by simp only [List.length_cons]; omega)]
                refine ⟨fun h => ?_, hA.2⟩
                refine (hA.1 h).trans ?_
                have h1 := (hW h).2.2.2.1
                have : cq ((rd f 9 T (nQu x.2.1 N e) (N.1, some (N.1 + 1), true) (l.length + 1)).2.2.2 :: (e.1, some N.1, e.2.2) :: l) = cq ((e.1, some N.1, e.2.2) :: l) := by
                  rw [cq, if_pos h1]
                show prun _ _ (cq ((rd f 9 T (nQu x.2.1 N e) (N.1, some (N.1 + 1), true) (l.length + 1)).2.2.2 :: (e.1, some N.1, e.2.2) :: l)) = _
                rw [this]
                rfl
              · rw [rd_94f c4 (by omega)]
                refine ⟨fun h => (by cases h), fun y hy => ?_⟩
                injection hy with hy
                subst hy
                rw [prun, if_neg (by omega), if_neg (by omega), if_neg (by omega), if_neg (by omega), if_pos c4, if_pos (by simp only [List.length_cons]; omega)]
            · rw [rd_95 (by omega), prun_5 (by omega)]
              exact ⟨fun _ => rfl, fun y hy => (by cases hy)⟩
      · subst h3
        rw [if_neg (by decide)] at hf
        simp only [List.length_cons] at hf
        by_cases ce : x.1 = 3
        · rw [rd_me (by decide) ce]
          refine ⟨fun _ => ?_, fun y hy => (by cases hy)⟩
          rw [prun, if_neg (by omega), if_neg (by omega), if_neg (by omega), if_pos ce, if_pos]
          · rfl
          · refine ⟨?_, he⟩
            cases l with
            | nil => exact absurd rfl hl0
            | cons a b => simp
        · have hA := (ih 9 (x :: T) N e l hT (by rw [if_pos rfl]; simp only [List.length_cons]; omega) hl).1 rfl (fun y T' h => by injection h with h1 _; subst h1; exact ⟨fun _ => hl0, fun h => absurd h ce⟩)
          by_cases c9 : (rd f 9 (x :: T) N e l.length).1 = none
          · rw [rd_mn (by decide) ce c9, hA.1 c9]
            obtain ⟨a1, a2, a3, a4, a5⟩ := rd_wt f 9 (x :: T) N e l.length (Or.inl rfl) hT c9
            have ecq : cq ((rd f 9 (x :: T) N e l.length).2.2.2 :: l) = (rd f 9 (x :: T) N e l.length).2.2.2 :: l := by
              cases l with
              | nil => rfl
              | cons a b => rw [cq, if_neg (by rw [a4, he]; decide)]
            rw [ecq]
            refine (ih 3 _ _ _ l (a5 (by decide)) ?_ hl).2.1 rfl hl0 (a4.trans he)
            rw [if_neg (by decide)]
            simp only [List.length_cons] at a2
            omega
          · rw [rd_mf (by decide) ce c9]
            exact ⟨fun h => absurd h c9, hA.2⟩
      · subst h0
        subst hl0
        rw [if_neg (by decide)] at hf
        simp only [List.length_cons] at hf
        by_cases ce : x.1 = 0
        · rw [rd_me (by decide) ce]
          refine ⟨fun _ => ?_, fun y hy => (by cases hy)⟩
          rw [prun, if_pos ce]
          rfl
        · have hA := (ih 9 (x :: T) N e [] hT (by rw [if_pos rfl]; simp only [List.length_cons]; omega) hl).1 rfl (fun y T' h => by injection h with h1 _; subst h1; exact ⟨fun h => absurd h ce, fun _ h => h.1 rfl⟩)
          by_cases c9 : (rd f 9 (x :: T) N e ([] : List SE).length).1 = none
          · rw [rd_mn (by decide) ce c9, hA.1 c9]
            obtain ⟨a1, a2, a3, a4, a5⟩ := rd_wt f 9 (x :: T) N e ([] : List SE).length (Or.inl rfl) hT c9
            have ecq : cq ((rd f 9 (x :: T) N e ([] : List SE).length).2.2.2 :: []) = [(rd f 9 (x :: T) N e ([] : List SE).length).2.2.2] := rfl
            rw [ecq]
            refine (ih 0 _ _ _ [] (a5 (by decide)) ?_ hl).2.2 rfl rfl (a4.trans he)
            rw [if_neg (by decide)]
            simp only [List.length_cons] at a2
            omega
          · rw [rd_mf (by decide) ce c9]
            exact ⟨fun h => absurd h c9, hA.2⟩
end RDP
