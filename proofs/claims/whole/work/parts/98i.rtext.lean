/-! BUILD. The text is read -/
/-- steps of the reader from p on: to the text's end, or to a fault -/
def CRn (t : Nat → Nat) (n : Nat) : Nat → Nat → List KY → List Nat → NS → List SE → Option (Nat × Nat) → List KY → List Nat → NS → List SE → Prop
  | 0, _, _, _, _, _, _, _, _, _, _ => False
  | f + 1, p, K, mt, N, stk, r, K', mt', N', stk' => (n ≤ p ∧ r = none ∧ K' = K ∧ mt' = mt ∧ N' = N ∧ stk' = stk) ∨ (p < n ∧ ∃ k, k < 3 ∧ CTf t n p stk k ∧ r = some (k, p) ∧ K' = K ∧ mt' = mt ∧ N' = N ∧ stk' = stk) ∨ (p < n ∧ ∃ p1 K1 mt1 N1 stk1, CTg t n p K mt N stk p1 K1 mt1 N1 stk1 ∧ CRn t n f p1 K1 mt1 N1 stk1 r K' mt' N' stk')
section RTX
variable {t : Nat → Nat} {n : Nat}
theorem lne_gt {p : Nat} (hp : p < n) : p < lne t n p ∧ lne t n p ≤ n := by
  have key : ∀ (m i : Nat), i + m = n → i ≤ lne t n i ∧ lne t n i ≤ n ∧ (i < n → i < lne t n i) := by
    intro m
    induction m with
    | zero =>
      intro i hi
      have hi : i = n := by omega
      subst hi
      unfold lne
      rw [Nat.sub_self]
      exact ⟨Nat.le_refl _, Nat.le_refl _, fun c => absurd c (Nat.lt_irrefl _)⟩
    | succ m ih =>
      intro i hi
      have e0 : lne t n i = if t i = 10 then i + 1 else lne t n (i + 1) := by
        unfold lne
        obtain ⟨k, hk⟩ : ∃ k, n - i = k + 1 := ⟨n - i - 1, by omega⟩
        rw [hk, show n - (i + 1) = k by omega]
        show (if i < n then _ else _) = _
        rw [if_pos (by omega)]
      have := ih (i + 1) (by omega)
      rw [e0]
      split <;> omega
  exact ⟨(key (n - p) p (by omega)).2.2 hp, (key (n - p) p (by omega)).2.1⟩
theorem ctg_p {p p' : Nat} {K K' : List KY} {mt mt' : List Nat} {N N' : NS} {stk stk' : List SE} (hp : p < n) (g : CTg t n p K mt N stk p' K' mt' N' stk') : p < p' ∧ p' ≤ n := by
  rcases g with ⟨g, _⟩ | ⟨_, _, _, rfl, _⟩ | ⟨_, rfl, _⟩ | ⟨_, rfl, _⟩ | ⟨_, rfl, _⟩
  · rcases g with ⟨_, rfl⟩ | ⟨_, _, rfl⟩
    · omega
    · exact lne_gt hp
  · have := we_le (t := t) (n := n) (n - (p + 1)) (p + 1)
    have h2 := this.2 (by omega)
    have h1 := this.1
    exact ⟨by show p < wEn t n (n - (p + 1)) (p + 1); omega, h2⟩
  · omega
  · omega
  · omega
/-- a step adds two nodes at the most, one name at the most -/
theorem ctg_n {p p' : Nat} {K K' : List KY} {mt mt' : List Nat} {N N' : NS} {stk stk' : List SE} (g : CTg t n p K mt N stk p' K' mt' N' stk') : N.1 ≤ N'.1 ∧ N'.1 ≤ N.1 + 2 ∧ K.length ≤ K'.length ∧ K'.length ≤ K.length + 1 ∧ (isW (t p) = false → K' = K) := by
  rcases g with ⟨_, rfl, rfl, rfl, rfl⟩ | ⟨_, _, hw, rfl, k, v, e, l, wg, _, rfl, _⟩ | ⟨_, rfl, rfl, rfl, e, l, _, _, rfl, _⟩ | ⟨_, rfl, rfl, rfl, e, l, _, _, rfl, _⟩ | ⟨_, rfl, rfl, rfl, rfl, _⟩
  · exact ⟨Nat.le_refl _, by omega, Nat.le_refl _, by omega, fun _ => rfl⟩
  · have e1 : (adN (nwN N k v (nI p)) e N.1).1 = N.1 + 1 := adN_1
    have hK : K.length ≤ K'.length ∧ K'.length ≤ K.length + 1 := by
      rcases wg with ⟨_, _, _, _, _, rfl, _⟩ | ⟨_, _, _, _, _, rfl, _⟩ | ⟨_, _, _, _, i, _, ⟨_, rfl⟩ | ⟨_, _, rfl⟩, _⟩
      · omega
      · omega
      · omega
      · rw [List.length_append]
        exact ⟨by omega, Nat.le_refl _⟩
    rw [e1]
    exact ⟨by omega, by omega, hK.1, hK.2, fun c => by rw [c] at hw; cases hw⟩
  · have e1 : (adN (nwN N 6 0 (nI p)) e N.1).1 = N.1 + 1 := adN_1
    rw [e1]
    exact ⟨by omega, by omega, Nat.le_refl _, by omega, fun _ => rfl⟩
  · have e1 : (adN (nwN N 6 0 (nI p)) e N.1).1 = N.1 + 1 := adN_1
    have e2 : (adN (nwN (adN (nwN N 6 0 (nI p)) e N.1) 5 0 (nI p)) (N.1, none, true) (N.1 + 1)).1 = N.1 + 2 := by
      rw [adN_1]
      show (adN (nwN N 6 0 (nI p)) e N.1).1 + 1 = _
      rw [e1]
    rw [e2]
    exact ⟨by omega, by omega, Nat.le_refl _, by omega, fun _ => rfl⟩
  · exact ⟨Nat.le_refl _, by omega, Nat.le_refl _, by omega, fun _ => rfl⟩
end RTX
