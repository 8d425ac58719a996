/-! BUILD. Where the sources of each lambda lie -/
def LSz (z : CR) : Prop := ∀ (i : Nat) (e : LMe), (rLm z)[i]? = some e → e.2.2.2.1 + e.2.2.2.2.length ≤ (rSr z).length
section LSR
variable {N : NS} {mt : List Nat} {z : CR} {F : Nat → Bool → CR → CR}
theorem ls_c {z' : CR} (h : LSz z) (e1 : rLm z' = rLm z) (e2 : rSr z' = rSr z) : LSz z' := fun i e he => by
  rw [e1] at he
  rw [e2]
  exact h i e he
theorem ls_Gb {la : Bool} (h : LSz z) : LSz (cGb la z) := by
  unfold cGb
  split <;> exact h
theorem ls_Ct {n : Nat} (h : LSz z) : LSz (cCt N n z) := by
  unfold cCt
  split <;> exact h
theorem ls_Ck {b : List Nat} {n : Nat} (h : LSz z) : LSz (cCk N b n z) := by
  unfold cCk
  split <;> exact h
theorem ls_Vr {j o dp : Nat} (h : LSz z) : LSz (cVr N j o dp z) := by
  unfold cVr
  split
  · exact h
  · split <;> exact h
theorem ls_Nm {n : Nat} (h : LSz z) : LSz (cNm N n z) := by
  unfold cNm
  split
  · exact h
  · split
    · exact h
    · split
      · exact ls_Vr h
      · exact h
theorem ls_Bo (hF : ∀ a la z, LSz z → LSz (F a la z)) {la : Bool} : ∀ (l : List Nat) (z : CR), LSz z → LSz (cBo F la l z)
  | [], _, h => h
  | [a], z, h => hF a la z h
  | a :: b :: l, z, h => ls_Bo hF (b :: l) _ (hF a false z h)
theorem ls_Ld : ∀ (xs : List Nat) (z : CR), LSz z → LSz (xs.foldl (fun z x => cLd x z) z)
  | [], _, h => h
  | x :: xs, z, h => ls_Ld xs (cLd x z) h
theorem ls_Ut (hF : ∀ a la z, LSz z → LSz (F a la z)) {la : Bool} {o : Int32} : ∀ (l xs : List Nat) (z : CR), LSz z → LSz (cUt F la o l xs z)
  | [], _, _, h => h
  | [a], xs, z, h => ls_Ld xs _ (hF a la z h)
  | a :: b :: l, xs, z, h => ls_Ut hF (b :: l) _ _ (hF a false z h)
theorem ls_Lt (hF : ∀ a la z, LSz z → LSz (F a la z)) : ∀ (l b : List Nat) (z : CR), LSz z → LSz (cLt N F l b z)
  | [], _, _, h => h
  | p :: l, b, z, h => ls_Lt hF l _ _ (hF _ false _ (ls_Ck h))
theorem ls_Lr (hF : ∀ a la z, LSz z → LSz (F a la z)) : ∀ (l b : List Nat) (d : Nat) (z : CR), LSz z → LSz (cLr N F l b d z)
  | [], _, _, _, h => h
  | p :: l, b, d, z, h => ls_Lr hF l _ _ _ (hF _ false _ (ls_Ck h))
theorem ls_Bp : ∀ (l : List Nat) (d : Nat) (z : CR), LSz z → LSz (cBp N l d z)
  | [], _, _, h => h
  | p :: l, d, z, h => ls_Bp l _ _ h
theorem ls_Bn : ∀ (l b : List Nat) (i : Nat) (z : CR), LSz z → LSz (cBn N l b i z)
  | [], _, _, _, h => h
  | p :: l, b, i, z, h => ls_Bn l _ _ _ (ls_Ck h)
theorem ls_Le {la : Bool} {ar st k : Nat} (h : LSz z) : LSz (cLe la ar st k z) := by
  unfold cLe
  cases la
  · exact h
  · exact h
theorem ls_Al {w : Nat} (h : LSz z) : LSz (cAl w z) := fun i e he => by
  rcases ap1_c (l := rLm z) he with ⟨_, a2⟩ | ⟨_, rfl⟩
  · exact h i e a2
  · exact Nat.zero_le _
theorem ls_El {m en : Nat} (h : LSz z) : LSz (cEl m en z) := fun i e he => by
  have hl : (rSr (cEl m en z)).length = (rSr z).length + (rKp z (rBd z)).length := by
    show (rSr z ++ (rKp z (rBd z)).map (cSo z)).length = _
    rw [List.length_append, List.length_map]
  have he : ((rLm z).set m (en, ((rLm z).getD m (0, 0, 0, 0, [])).2.1, rDx z, (rSr z).length, rKp z (rBd z)))[i]? = some e := he
  rw [hl]
  by_cases c : m = i
  · subst c
    have hm : m < (rLm z).length := by
      have := g_lt he
      rw [List.length_set] at this
      exact this
    rw [List.getElem?_set_self hm] at he
    injection he with he
    subst he
    exact Nat.le_refl _
  · rw [List.getElem?_set_ne c] at he
    exact Nat.le_trans (h i e he) (Nat.le_add_right _ _)
theorem ls_La (hF : ∀ a la z, LSz z → LSz (F a la z)) {la : Bool} {n : Nat} {ns bo : List Nat} (h : LSz z) : LSz (cLa N F la n ns bo z) := by
  unfold cLa
  split
  · exact h
  · refine ls_Gb ?_
    exact ls_El (ls_Bo hF bo _ (ls_Bn ns [] 0 _ (ls_Al (w := ns.length) h)))
theorem ls_Cl (hF : ∀ a la z, LSz z → LSz (F a la z)) : ∀ (l : List Nat) (z : CR), LSz z → LSz (l.foldl (fun z a => F a false z) z)
  | [], _, h => h
  | a :: l, z, h => ls_Cl hF l _ (hF a false z h)
theorem ls_F : ∀ (f n : Nat) (la row : Bool) (z : CR), LSz z → LSz (cF N mt f n la row z)
  | 0, _, _, _, _, h => h
  | f + 1, n, la, row, z, h => by
    have hF : ∀ a la z, LSz z → LSz ((fun a la => cF N mt f a la false) a la z) := fun a la z h => ls_F f a la false z h
    have hc : LSz (cCt N n z) := ls_Ct h
    rw [cF]
    by_cases c0 : rFl z ≠ none
    · rw [if_pos c0]
      exact h
    rw [if_neg c0]
    by_cases c6 : nK N n = 6
    · rw [if_pos c6]
      by_cases cs : shp N n (wrd N n) row = false
      · rw [if_pos cs]
        exact h
      rw [if_neg cs]
      by_cases w3 : wrd N n = 3
      · rw [if_pos w3]
        unfold cIf
        dsimp only
        cases la
        · exact hF _ _ _ (hF _ _ _ (hF _ _ _ hc))
        · exact hF _ _ _ (hF _ _ _ (hF _ _ _ hc))
      rw [if_neg w3]
      by_cases w4 : wrd N n = 4
      · rw [if_pos w4]
        exact ls_Le (ls_Bo hF _ _ (ls_Bp _ _ _ (ls_Lt hF _ _ _ hc)))
      rw [if_neg w4]
      by_cases w5 : wrd N n = 5
      · rw [if_pos w5]
        exact ls_Le (ls_Bo hF _ _ (ls_Lr hF _ _ _ _ (ls_Bp _ _ _ hc)))
      rw [if_neg w5]
      by_cases w7 : wrd N n = 7
      · rw [if_pos w7]
        exact ls_Bo hF _ _ hc
      rw [if_neg w7]
      by_cases w8 : wrd N n = 8
      · rw [if_pos w8]
        exact ls_Gb (ls_Ut hF _ _ _ hc)
      rw [if_neg w8]
      by_cases w9 : wrd N n = 9
      · rw [if_pos w9]
        exact ls_Gb (ls_Ut hF _ _ _ hc)
      rw [if_neg w9]
      by_cases w0 : wrd N n = 0
      · rw [if_pos w0]
        exact ls_Cl hF _ _ hc
      rw [if_neg w0]
      by_cases w2 : wrd N n = 2
      · rw [if_pos w2]
        exact ls_La hF hc
      rw [if_neg w2]
      by_cases w1 : wrd N n = 1
      · rw [if_pos w1]
        exact ls_Gb hc
      rw [if_neg w1]
      by_cases w6 : wrd N n = 6
      · rw [if_pos w6]
        unfold cSt
        dsimp only
        refine ls_Gb ?_
        have h2 : LSz (if nCn N (prt N n 1) < 30 then cTl 5 (nQ N (prt N n 1)) (cCt N n z) else if cMn N (nCn N (prt N n 1)) (cCt N n z) = true then cCt N n z else cTl 4 (nQ N (prt N n 1)) (cCt N n z)) := by
          split
          · exact hc
          · split <;> exact hc
        have key : ∀ zz, LSz zz → LSz (if rFl (cF N mt f (prt N n 2) false false zz) = none then cVr N (nCn N (prt N n 1)) 19 (rDp (cF N mt f (prt N n 2) false false zz)) (cF N mt f (prt N n 2) false false zz) else cF N mt f (prt N n 2) false false zz) := fun zz hz => by
          have h3 := ls_F f (prt N n 2) false false zz hz
          generalize cF N mt f (prt N n 2) false false zz = z9 at *
          by_cases c9 : rFl z9 = none
          · rw [if_pos c9]
            exact ls_Vr h3
          · rw [if_neg c9]
            exact h3
        exact key _ h2
      rw [if_neg w6]
      unfold cDf
      dsimp only
      have h2 : LSz (if nCn N (prt N n 1) < 30 then cTl 5 (nQ N (prt N n 1)) (cCt N n z) else if 100 ≤ (gdf N).idxOf (nCn N (prt N n 1)) ∧ nCn N (prt N n 1) ∈ gdf N then cTl 6 (nQ N (prt N n 1)) (cCt N n z) else cCt N n z) := by
        split
        · exact hc
        · split <;> exact hc
      exact hF _ _ _ h2
    rw [if_neg c6]
    by_cases c5 : nK N n = 5
    · rw [if_pos c5]
      exact ls_Gb (ls_Ct (ls_Nm h))
    · rw [if_neg c5]
      exact ls_Gb (ls_Ct (N := N) (z := cE (nK N n) (nC N n) (rDp z + 1) z) h)
theorem ls_Rw {f : Nat} : ∀ (l : List Nat) (z : CR), LSz z → LSz (cRw N mt f l z)
  | [], _, h => h
  | a :: l, z, h => by
    rw [cRw]
    split
    · exact h
    · exact ls_Rw l _ (ls_F f a false true z h)
theorem ls_all : LSz (cAll N mt) := ls_Rw (N := N) (mt := mt) (f := 40) (pts N 0) cZ0 (fun i e he => by simp [cZ0, rLm] at he)
end LSR
