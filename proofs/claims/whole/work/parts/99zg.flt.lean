/-! BUILD. Faults: the first that the program under proof tells is the least that the reference finds -/
/-- places grow with nodes, but for the two of a quote sign -/
def Plo (N : NS) : Prop := ∀ i j, 1 ≤ i → i < j → j < N.1 → nQ N i < nQ N j ∨ (nQ N i = nQ N j ∧ j = i + 1 ∧ nK N i = 6 ∧ nF N i = nI j ∧ nK N j = 5 ∧ nC N j = 0)
section FL0
variable {N : NS} {y y1 y2 : MR} {a b m g : Nat}
theorem wmn_some (w : Option (Nat × Nat)) (k p : Nat) : ∃ k0 p0, wMn w k p = some (k0, p0) ∧ p0 ≤ p := by
  unfold wMn
  cases w with
  | none => exact ⟨k, p, rfl, Nat.le_refl _⟩
  | some x =>
    obtain ⟨k0, p0⟩ := x
    dsimp only
    by_cases c : p0 < p ∨ (p0 = p ∧ k0 ≤ k)
    · rw [if_pos c]; exact ⟨k0, p0, rfl, by omega⟩
    · rw [if_neg c]; exact ⟨k, p, rfl, Nat.le_refl _⟩
/-- later faults lie behind -/
theorem wr_keep {w : Option (Nat × Nat)} {k p : Nat} (h : MEf N a b y1 y2) (e : mWr y1 = wMn w k p) (hp : ∀ i, a ≤ i → i < b → p < nQ N i) : mWr y2 = wMn w k p := by
  obtain ⟨k0, p0, e1, hp0⟩ := wmn_some w k p
  have key : ∀ K, wMn (mWr y2) K p = wMn (mWr y1) K p := fun K => h.2.2.2.2.2 K p hp
  rw [e, e1] at key
  rw [e1]
  have k1 := key (k0 + 1)
  have r1 : wMn (some (k0, p0)) (k0 + 1) p = some (k0, p0) := by
    unfold wMn
    dsimp only
    rw [if_pos (by omega)]
  rw [r1] at k1
  cases hw : mWr y2 with
  | none =>
    rw [hw] at k1
    unfold wMn at k1
    injection k1 with k1
    injection k1 with k2 k3
    omega
  | some x =>
    obtain ⟨k2, p2⟩ := x
    rw [hw] at k1
    unfold wMn at k1
    dsimp only at k1
    by_cases c : p2 < p ∨ (p2 = p ∧ k2 ≤ k0 + 1)
    · rw [if_pos c] at k1; exact k1
    · rw [if_neg c] at k1
      injection k1 with k1
      injection k1 with k2 k3
      omega
theorem wmn_id {w : Option (Nat × Nat)} {k p : Nat} : wMn (wMn w k p) k p = wMn w k p := by
  obtain ⟨k0, p0, e1, hp0⟩ := wmn_some w k p
  unfold wMn at e1 ⊢
  cases w with
  | none => dsimp only; rw [if_pos (by omega)]
  | some x =>
    obtain ⟨k2, p2⟩ := x
    dsimp only at e1 ⊢
    by_cases c : p2 < p ∨ (p2 = p ∧ k2 ≤ k)
    · rw [if_pos c]; dsimp only; rw [if_pos c]
    · rw [if_neg c]; dsimp only; rw [if_pos (by omega)]
/-- a lesser kind at the same place -/
theorem wmn_k {w : Option (Nat × Nat)} {k k' p : Nat} (h : k ≤ k') : wMn (wMn w k' p) k p = wMn w k p := by
  unfold wMn
  cases w with
  | none =>
    dsimp only
    by_cases c : k' ≤ k
    · have : k = k' := by omega
      subst this
      rw [if_pos (by omega)]
    · rw [if_neg (by omega)]
  | some x =>
    obtain ⟨k2, p2⟩ := x
    dsimp only
    by_cases c : p2 < p ∨ (p2 = p ∧ k2 ≤ k')
    · rw [if_pos c]
    · rw [if_neg c]
      dsimp only
      rw [if_neg (by omega : ¬ (p2 < p ∨ (p2 = p ∧ k2 ≤ k)))]
      by_cases c2 : k' ≤ k
      · have : k = k' := by omega
        subst this
        rw [if_pos (by omega)]
      · rw [if_neg (by omega)]
/-- a list's first part lies with it -/
theorem tr_first : ∀ (g v m : Nat), Tr g N v m → m < 2000000000 → ∀ i, v ≤ i → i < m → nK N i = 6 → nF N i = nI (i + 1) → i + 1 < m
  | 0, _, _, h, _, _, _, _, _, _ => h.elim
  | g + 1, v, m, h, hm, i, h1, h2, h6, hf => by
    rcases h with ⟨c1, c2⟩ | ⟨c1, ps, c2, c3, c4, c5⟩
    · have : i = v := by omega
      subst this
      exact absurd h6 c1
    · by_cases ci : i = v
      · subst ci
        cases ps with
        | nil =>
          rw [c3] at hf
          have : nI (i + 1) = -1 := hf.symm
          have h3 := nI_nl (n := i + 1) (by omega)
          rw [this] at h3
          exact absurd (by decide) h3
        | cons c ps =>
          obtain ⟨e0, m1, e1, e2, e3, _⟩ := c5
          omega
      · have key : ∀ (ps : List Nat) (a b : Nat), Frs (Tr g N) (nX N) ps a b → b ≤ m → a ≤ i → i < b → i + 1 < b := by
          intro ps
          induction ps with
          | nil => intro a b h _ h3 h4; have h : a = b := h; omega
          | cons c ps ih =>
            intro a b h hb h3 h4
            obtain ⟨e0, m1, e1, e2, e3, e4, e5⟩ := h
            by_cases c : i < m1
            · have := tr_first g a m1 e1 (by omega) i h3 c h6 hf
              omega
            · exact ih m1 b e5 hb (by omega) h4
        exact key ps (v + 1) m c5 (Nat.le_refl _) (by omega) h2
/-- what comes behind a part has a greater place -/
theorem pl_lt (pl : Plo N) {v : Nat} (ht : Tr g N v m) (hv : 1 ≤ v) (hm : m ≤ N.1) (hN : N.1 < 2000000000) {i j : Nat} (h1 : v ≤ i) (h2 : i < m) (h3 : m ≤ j) (h4 : j < N.1) : nQ N i < nQ N j := by
  rcases pl i j (by omega) (by omega) h4 with h | ⟨_, h5, h6, h7, _⟩
  · exact h
  · have := tr_first g v m ht (by omega) i h1 h2 h6 (by rw [h7, h5])
    omega
end FL0
/-- a fault told, and where -/
def FO (N : NS) (n b : Nat) (z' : CR) (y y' : MR) : Prop := ∀ k p, rFl z' = some (k, p) → mWr y' = wMn (mWr y) k p ∧ ∃ i, n ≤ i ∧ i < b ∧ p = nQ N i
def FFs (N : NS) (g : Nat) (F : Nat → Bool → CR → CR) (Fm : Nat → MR → MR) : Prop := ∀ v m la S z y, Trb g N v m → 1 ≤ v → m ≤ N.1 → KI z.2.1 → SRp S z y → rFl z = none → FO N v m (F v la z) y (Fm v y)
section FL1
variable {N : NS} {mt : List Nat} {z z1 z2 z' : CR} {y y1 y2 y' : MR} {n b g a m : Nat} {S : Shp} {la : Bool}
variable {F : Nat → Bool → CR → CR} {Fm : Nat → MR → MR}
theorem fo_wk {a' b' : Nat} (h : FO N a b z' y y') (h1 : a' ≤ a) (h2 : b ≤ b') : FO N a' b' z' y y' := fun k p e => by
  obtain ⟨x1, i, x2, x3, x4⟩ := h k p e
  exact ⟨x1, i, by omega, by omega, x4⟩
/-- the fault lies in the first piece -/
theorem fo_fst {v : Nat} (pl : Plo N) (hN : N.1 < 2000000000) (ht : Tr g N v m) (hv : 1 ≤ v) (hm : m ≤ b) (hb : b ≤ N.1) (h : FO N v m z1 y y1) (hne : rFl z1 ≠ none) (e : rFl z' = rFl z1) (h2 : MEf N m b y1 y') : FO N v b z' y y' := fun k p hk => by
  rw [e] at hk
  obtain ⟨x1, i, x2, x3, x4⟩ := h k p hk
  refine ⟨wr_keep h2 x1 (fun j hj1 hj2 => ?_), i, x2, by omega, x4⟩
  rw [x4]
  exact pl_lt pl ht hv (by omega) hN x2 x3 hj1 (by omega)
theorem fo_snd (h1 : mWr y1 = mWr y) (h2 : FO N m b z' y1 y') (ha : a ≤ m) : FO N a b z' y y' := fun k p hk => by
  obtain ⟨x1, i, x2, x3, x4⟩ := h2 k p hk
  rw [h1] at x1
  exact ⟨x1, i, by omega, x3, x4⟩
theorem fl_some (h : rFl z ≠ none) : ∃ k p, rFl z = some (k, p) := by
  cases hz : rFl z with
  | none => exact absurd hz h
  | some x => exact ⟨x.1, x.2, rfl⟩
theorem seq_flt (pl : Plo N) (hN : N.1 < 2000000000) (hF : CFs N g F) (hM : MFs N g Fm) (hS : SFs N mt g F Fm) (hX : FFs N g F Fm) : ∀ (l : List Nat) (a b : Nat) (S : Shp) (z : CR) (y : MR), Sqn g N l a b → 1 ≤ a → b ≤ N.1 → KI z.2.1 → SRp S z y → rFl z = none → FO N a b (l.foldl (fun z a => F a false z) z) y (mBo Fm l y)
  | [], a, b, S, z, y, hs, ha, hb, hk, hP, hn => fun k p h => by
    have h : rFl z = some (k, p) := h
    rw [hn] at h; cases h
  | v :: l, a, b, S, z, y, hs, ha, hb, hk, hP, hn => by
    obtain ⟨h1, m, h2, h3, h4, h5⟩ := hs
    have E1 := hF v m false z h2 hk
    have E2 := cl_e hF l m b (F v false z) h5 E1.2.2.1
    have M1 := hM v m y h2 (by omega) hP.1.2.2.2.1
    have f1 := hX v m false S z y h2 (by omega) (by omega) hk hP hn
    by_cases c : rFl (F v false z) = none
    · have so := hS v m false S z y h2 (by omega) (by omega) hk hP c
      have X1 := xo_so E1 M1 so c
      have hA1 := xo_a hP X1
      have hD1 := srd_n hP.2.1 E1.1 E1.2.1 hP.1 M1 (E1.2.2.2.2 c).1
      exact fo_snd X1.2.2.2.2.2.2 (seq_flt pl hN hF hM hS hX l m b (S ++ [none]) (F v false z) (Fm v y) h5 (by omega) hb E1.2.2.1 ⟨hA1, hD1, X1.2.2.2.2.1, X1.2.2.2.1.1, X1.2.2.2.1.2⟩ c) (by omega)
    · have M2 := bo_m hM l m b (Fm v y) h5 (by omega) (ai_ef M1 hP.1.2.2.2.1)
      exact fo_wk (fo_fst pl hN h2.1 (by omega) h4 hb f1 c (E2.2.2.2.1.1 c) M2) h1 (Nat.le_refl _)
theorem bo_flt (pl : Plo N) (hN : N.1 < 2000000000) (hF : CFs N g F) (hM : MFs N g Fm) (hS : SFs N mt g F Fm) (hX : FFs N g F Fm) : ∀ (l : List Nat) (a b : Nat) (S : Shp) (z : CR) (y : MR), l ≠ [] → Sqn g N l a b → 1 ≤ a → b ≤ N.1 → KI z.2.1 → SRp S z y → rFl z = none → FO N a b (cBo F la l z) y (mBo Fm l y)
  | [], _, _, _, _, _, h, _, _, _, _, _, _ => absurd rfl h
  | [v], a, b, S, z, y, _, hs, ha, hb, hk, hP, hn => by
    obtain ⟨h1, m, h2, h3, h4, h5⟩ := hs
    exact fo_wk (hX v m la S z y h2 (by omega) (by omega) hk hP hn) h1 h4
  | v :: w :: l, a, b, S, z, y, _, hs, ha, hb, hk, hP, hn => by
    obtain ⟨h1, m, h2, h3, h4, h5⟩ := hs
    have E1 := hF v m false z h2 hk
    have E2 := bo_e hF (la := la) (w :: l) m b (cE 30 0 (rDp (F v false z) - 1) (F v false z)) (by simp) h5 E1.2.2.1
    have M1 := hM v m y h2 (by omega) hP.1.2.2.2.1
    have f1 := hX v m false S z y h2 (by omega) (by omega) hk hP hn
    by_cases c : rFl (F v false z) = none
    · have so := hS v m false S z y h2 (by omega) (by omega) hk hP c
      have X1 := xo_so E1 M1 so c
      have hA1 := xo_a hP X1
      have hD1 := srd_n hP.2.1 E1.1 E1.2.1 hP.1 M1 (E1.2.2.2.2 c).1
      have hP2 : SRp S (cE 30 0 (rDp (F v false z) - 1) (F v false z)) (Fm v y) := ⟨hA1, srd_d hD1 rfl rfl rfl rfl, sre_same X1.2.2.2.2.1 rfl rfl rfl rfl rfl, X1.2.2.2.1.1, X1.2.2.2.1.2⟩
      exact fo_snd X1.2.2.2.2.2.2 (bo_flt pl hN hF hM hS hX (w :: l) m b S (cE 30 0 (rDp (F v false z) - 1) (F v false z)) (Fm v y) (by simp) h5 (by omega) hb E1.2.2.1 hP2 c) (by omega)
    · have M2 := bo_m hM (w :: l) m b (Fm v y) h5 (by omega) (ai_ef M1 hP.1.2.2.2.1)
      exact fo_wk (fo_fst pl hN h2.1 (by omega) h4 hb f1 c (E2.2.2.2.1.1 c) M2) h1 (Nat.le_refl _)
end FL1
