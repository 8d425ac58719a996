/-! BUILD. The two compilers against each other: every form -/
section SMI
variable {N : NS} {mt : List Nat}
/-- a form that stands in the row -/
def Rok (N : NS) (n : Nat) (la row : Bool) : Prop := row = true → la = false ∧ (wrd N n = 10 → shp N n 10 true = true → 30 ≤ nCn N (prt N n 1) → nCn N (prt N n 1) ∈ gdf N)
theorem cF_sim (nk : Nok N mt) : ∀ (f g : Nat), g ≤ f → f ≤ 40 → g ≤ 39 → ∀ (n b : Nat) (la row : Bool) (S : Shp) (z : CR) (y : MR), Tr g N n b → 1 ≤ n → b ≤ N.1 → KI z.2.1 → SRp S z y → Rok N n la row → rFl (cF N mt f n la row z) = none → SO N mt g n b la S z (cF N mt f n la row z) y (mF N f n row y)
  | 0, g, hg, _, _, n, b, la, row, S, z, y, h, _, _, _, _, _, _ => by
    have : g = 0 := by omega
    subst this
    exact h.elim
  | f + 1, 0, _, _, _, _, _, _, _, _, _, _, h, _, _, _, _, _, _ => h.elim
  | f + 1, g + 1, hg, hf, hg9, n, b, la, row, S, z, y, h, hn1, hb, hk, hP, hr, hn => by
    have hN := nk.2.2
    have hbb : b < 2000000000 := by omega
    have hlt := tr_lt _ _ _ _ h
    have hF : CFs N g (fun a la => cF N mt f a la false) := fun v m la z ht hk => cF_e f g (by omega) (by omega) v m la false z ht.1 ht.2 hk
    have hM : MFs N g (fun a => mF N f a false) := fun v m y ht hv hi => mF_e f g (by omega) v m false y ht.1 ht.2 hv hi
    have hS : SFs N mt g (fun a la => cF N mt f a la false) (fun a => mF N f a false) := fun v m la S z y ht hv hm hk hP hn => cF_sim nk f g (by omega) (by omega) (by omega) v m la false S z y ht.1 hv hm hk hP (fun h => by cases h) hn
    rw [cF] at hn ⊢
    rw [mF]
    by_cases cf : rFl z ≠ none
    · rw [if_pos cf] at hn
      exact absurd hn cf
    rw [if_neg cf] at hn ⊢
    by_cases c6 : nK N n = 6
    · have c5 : ¬ nK N n = 5 := by rw [c6]; decide
      have c6' : ¬ nK N n ≠ 6 := fun h => h c6
      rw [if_pos c6] at hn ⊢
      rw [if_neg c5, if_neg c6']
      by_cases cs : shp N n (wrd N n) row = false
      · rw [if_pos cs] at hn
        exact absurd hn tl_fl
      rw [if_neg cs] at hn ⊢
      rw [if_neg cs]
      have cs : shp N n (wrd N n) row = true := by simpa using cs
      have hw := wrd_le (N := N) (n := n)
      by_cases w3 : wrd N n = 3
      · have w1 : ¬ wrd N n = 1 := by omega
        have w2 : ¬ wrd N n = 2 := by omega
        have w4 : ¬ wrd N n = 4 := by omega
        have w5 : ¬ wrd N n = 5 := by omega
        have w6 : ¬ wrd N n = 6 := by omega
        have w10 : ¬ wrd N n = 10 := by omega
        have w0 : ¬ wrd N n = 0 := by omega
        rw [if_pos w3] at hn ⊢
        rw [if_neg w1, if_neg w2, if_neg w4, if_neg w5, if_neg w6, if_neg w10, if_neg w0]
        rw [w3] at cs
        have hl := shp_3 cs
        have e : (pts N n).drop 1 = [prt N n 1, prt N n 2, prt N n 3] := by
          unfold prt
          match hp : pts N n, hl with
          | [a, b, c, d], _ => rfl
        exact if_sim nk hF hM hS h c6 hn1 hb hk hP w3 e hn
      rw [if_neg w3] at hn ⊢
      by_cases w4 : wrd N n = 4
      · have w1 : ¬ wrd N n = 1 := by omega
        have w2 : ¬ wrd N n = 2 := by omega
        rw [if_pos w4] at hn ⊢
        rw [if_neg w1, if_neg w2, if_pos w4]
        rw [w4] at cs
        obtain ⟨l1, l2⟩ := shp_4 cs
        exact let_sim nk hF hM hS h c6 hn1 hb hk hP w4 l1 l2 hn
      rw [if_neg w4] at hn ⊢
      by_cases w5 : wrd N n = 5
      · have w1 : ¬ wrd N n = 1 := by omega
        have w2 : ¬ wrd N n = 2 := by omega
        rw [if_pos w5] at hn ⊢
        rw [if_neg w1, if_neg w2, if_neg w4, if_pos w5]
        rw [w5] at cs
        obtain ⟨l1, l2⟩ := shp_5 cs
        exact letrec_sim nk hF hM hS h c6 hn1 hb hk hP w5 l1 l2 hn
      rw [if_neg w5] at hn ⊢
      by_cases w7 : wrd N n = 7
      · have w1 : ¬ wrd N n = 1 := by omega
        have w2 : ¬ wrd N n = 2 := by omega
        have w6 : ¬ wrd N n = 6 := by omega
        have w10 : ¬ wrd N n = 10 := by omega
        have w0 : ¬ wrd N n = 0 := by omega
        rw [if_pos w7] at hn ⊢
        rw [if_neg w1, if_neg w2, if_neg w4, if_neg w5, if_neg w6, if_neg w10, if_neg w0]
        exact begin_sim nk hF hM hS h c6 hn1 hb hk hP w7 (shp_7 cs (Or.inl w7)) hn
      rw [if_neg w7] at hn ⊢
      by_cases w8 : wrd N n = 8
      · have w1 : ¬ wrd N n = 1 := by omega
        have w2 : ¬ wrd N n = 2 := by omega
        have w6 : ¬ wrd N n = 6 := by omega
        have w10 : ¬ wrd N n = 10 := by omega
        have w0 : ¬ wrd N n = 0 := by omega
        rw [if_pos w8] at hn ⊢
        rw [if_neg w1, if_neg w2, if_neg w4, if_neg w5, if_neg w6, if_neg w10, if_neg w0]
        exact until_sim nk hF hM hS h c6 hn1 hb hk hP (Or.inl ⟨w8, rfl⟩) (shp_7 cs (Or.inr (Or.inl w8))) hn
      rw [if_neg w8] at hn ⊢
      by_cases w9 : wrd N n = 9
      · have w1 : ¬ wrd N n = 1 := by omega
        have w2 : ¬ wrd N n = 2 := by omega
        have w6 : ¬ wrd N n = 6 := by omega
        have w10 : ¬ wrd N n = 10 := by omega
        have w0 : ¬ wrd N n = 0 := by omega
        rw [if_pos w9] at hn ⊢
        rw [if_neg w1, if_neg w2, if_neg w4, if_neg w5, if_neg w6, if_neg w10, if_neg w0]
        exact until_sim nk hF hM hS h c6 hn1 hb hk hP (Or.inr ⟨w9, rfl⟩) (shp_7 cs (Or.inr (Or.inr w9))) hn
      rw [if_neg w9] at hn ⊢
      by_cases w0 : wrd N n = 0
      · have w1 : ¬ wrd N n = 1 := by omega
        have w2 : ¬ wrd N n = 2 := by omega
        have w6 : ¬ wrd N n = 6 := by omega
        have w10 : ¬ wrd N n = 10 := by omega
        rw [if_pos w0] at hn ⊢
        rw [if_neg w1, if_neg w2, if_neg w4, if_neg w5, if_neg w6, if_neg w10, if_pos w0]
        rw [w0] at cs
        exact call_sim nk hF hM hS h c6 hn1 hb hk hP w0 (shp_0 cs) hn
      rw [if_neg w0] at hn ⊢
      by_cases w2 : wrd N n = 2
      · have w1 : ¬ wrd N n = 1 := by omega
        rw [if_pos w2] at hn ⊢
        rw [if_neg w1, if_pos w2]
        rw [w2] at cs
        obtain ⟨l1, l2⟩ := shp_2 cs
        exact lambda_sim nk (by omega) hF hM hS h c6 hn1 hb hk hP w2 l1 l2 hn
      rw [if_neg w2] at hn ⊢
      by_cases w1 : wrd N n = 1
      · rw [if_pos w1] at hn ⊢
        rw [if_pos w1]
        rw [w1] at cs
        have l1 := shp_1 cs
        obtain ⟨g', eg, _, t1, t2, t3⟩ := two_tr h l1 hbb
        have eg' : g' = g := by omega
        subst eg'
        refine quote_sim nk h (by omega) c6 hn1 hb hk hP w1 ?_ t2 t1 hn
        match hp : pts N n, l1 with
        | [a, d], _ =>
          have e0 : prt N n 0 = a := by unfold prt; rw [hp]; rfl
          have e1 : prt N n 1 = d := by unfold prt; rw [hp]; rfl
          rw [e1, ← t3, e0]
      rw [if_neg w1] at hn ⊢
      by_cases w6 : wrd N n = 6
      · rw [if_pos w6] at hn ⊢
        rw [if_neg w1, if_neg w2, if_neg w4, if_neg w5, if_pos w6]
        rw [w6] at cs
        obtain ⟨l1, l2⟩ := shp_6 cs
        obtain ⟨m1, t1, t2, t3, t4, t5, _⟩ := three_tr h c6 hbb l1
        exact set_sim nk hF hM hS h c6 hn1 hb hk hP w6 t5 ⟨t2, by omega⟩ ⟨t1, hbb⟩ hn
      · have w10 : wrd N n = 10 := by omega
        rw [if_neg w6] at hn ⊢
        rw [if_neg w1, if_neg w2, if_neg w4, if_neg w5, if_neg w6, if_pos w10]
        rw [w10] at cs
        obtain ⟨l0, l1, l2⟩ := shp_10 cs
        obtain ⟨m1, t1, t2, t3, t4, t5, _⟩ := three_tr h c6 hbb l1
        obtain ⟨r1, r2⟩ := hr l0
        rw [l0] at cs
        exact define_sim nk hF hM hS h c6 hn1 hb hk hP w10 t5 ⟨t2, by omega⟩ ⟨t1, hbb⟩ (r2 w10 cs) r1 hn
    · rw [if_neg c6] at hn ⊢
      by_cases c5 : nK N n = 5
      · rw [if_pos c5] at hn ⊢
        rw [if_pos c5]
        exact name_sim h hn1 hb hk hP c5 hn
      · rw [if_neg c5] at hn ⊢
        rw [if_neg c5, if_pos c6]
        exact leaf_sim h hn1 hb hP c5 c6 (nk.1 n hn1 (by omega)) hn
end SMI
