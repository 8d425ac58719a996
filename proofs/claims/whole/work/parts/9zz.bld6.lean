/-! BUILD. What the class's reader reaches -/
def XR (a : Nat) : Prop := (1 ≤ a ∧ a ≤ 18) ∨ 130 ≤ a
theorem rtl_r : ∀ e, e ∈ RTl → (1 ≤ e.1.1 ∧ e.1.1 ≤ 18) → (1 ≤ e.2 ∧ e.2 ≤ 18) := by decide +kernel
theorem rtl_130 : ∀ e, e ∈ RTl → e.1.1 < 130 := by decide +kernel
theorem rg_r {h : Hp} {p q : Nat} (s : Sk h) (v : Vs p q h) : Rg XR h := by
  have h130 := s.2.2
  have sb : SB = 1000000 := rfl
  refine ⟨fun k hk => by unfold XR; omega, fun k hk => by unfold XR; omega, fun a b r ha e => ?_⟩
  cases c : isVr a b with
  | false =>
    rw [s.2.1 a b c] at e
    have hm := lkm_rt e
    have h1 := rtl_130 _ hm
    have h1 : a < 130 := h1
    have h2 := rtl_r _ hm (by unfold XR at ha; show 1 ≤ a ∧ a ≤ 18; omega)
    exact Or.inl h2
  | true =>
    have hc := vr_is c
    unfold XR at ha ⊢
    have : a = 3 ∧ b = 12 := by omega
    obtain ⟨rfl, rfl⟩ := this
    rcases v.2.2.2.1 with e2 | e2 <;> (rw [e2] at e; injection e with e; omega)
