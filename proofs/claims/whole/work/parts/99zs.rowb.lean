/-! BUILD. The row: bounds -/
section RWB
variable {N : NS} {mt : List Nat} {g : Nat}
theorem rw_d (hg1 : 1 ≤ g) (hg : g ≤ 31) : ∀ (l : List Nat) (a b : Nat) (z : CR), Sqn g N l a b → KI z.2.1 → rSc z = [] → (rFl z = none → rDp z = 0) → DBe (9 * g) z (cRw N mt 40 l z)
  | [], _, _, _, _, _, _, _ => dbe_rf
  | v :: l, a, b, z, hs, hk, h1, h2 => by
    obtain ⟨q1, m, q2, q3, q4, q5⟩ := hs
    rw [cRw]
    by_cases c : rFl z ≠ none
    · rw [if_pos c]; exact dbe_rf
    rw [if_neg c]
    have E1 := cF_e (N := N) (mt := mt) 40 g (by omega) (Nat.le_refl _) v m false true z q2.1 q2.2 hk
    have E2 := rw_e (mt := mt) l m b (cE 35 0 (rDp (cF N mt 40 v false true z) - 1) (cF N mt 40 v false true z)) q5 (by omega) E1.2.2.1
    have d1 := cF_d (N := N) (mt := mt) 40 g (by omega) (Nat.le_refl _) (by omega) v m false true z (9 * g) q2.1 q2.2 hk (by rw [h1]; show 0 + _ ≤ _; omega) (fun c => by rw [h2 c]; omega) (by omega)
    have dp : rFl (cF N mt 40 v false true z) = none → rDp (cF N mt 40 v false true z) = 1 := fun c => by
      rw [(E1.2.2.2.2 c).1, h2 (ef_no E1.2.2.2.1 c)]
    exact dbe_tr (dbe_tr d1 (dbe_E (fun c => by rw [dp c]; omega)) (ef_E (a := 0))) (rw_d hg1 hg l m b (cE 35 0 (rDp (cF N mt 40 v false true z) - 1) (cF N mt 40 v false true z)) q5 E1.2.2.1 (E1.1.trans h1) (fun c => by show rDp (cF N mt 40 v false true z) - 1 = 0; rw [dp c])) E2.2.2.2.1
theorem rw_t (hg : g ≤ 40) : ∀ (l : List Nat) (a b : Nat) (z : CR), Sqn g N l a b → KI z.2.1 → TZ N mt a b z (cRw N mt 40 l z)
  | [], _, _, _, _, _ => tz_same rfl
  | v :: l, a, b, z, hs, hk => by
    obtain ⟨q1, m, q2, q3, q4, q5⟩ := hs
    rw [cRw]
    by_cases c : rFl z ≠ none
    · rw [if_pos c]; exact tz_same rfl
    rw [if_neg c]
    have E1 := cF_e (N := N) (mt := mt) 40 g hg (Nat.le_refl _) v m false true z q2.1 q2.2 hk
    have E2 := rw_e (mt := mt) l m b (cE 35 0 (rDp (cF N mt 40 v false true z) - 1) (cF N mt 40 v false true z)) q5 hg E1.2.2.1
    have d1 := cF_t (N := N) (mt := mt) 40 g hg (Nat.le_refl _) v m false true z q2.1 q2.2 hk
    exact tz_tr (tz_wk (tz_cg (z2 := cE 35 0 (rDp (cF N mt 40 v false true z) - 1) (cF N mt 40 v false true z)) d1 rfl rfl) q1 (Nat.le_refl _)) (rw_t hg l m b _ q5 E1.2.2.1) (by omega) q4 E2.2.2.2.1
theorem rw_s (hg : g ≤ 31) {B : Nat} (hB : B ≤ 250) : ∀ (l : List Nat) (a b : Nat) (y : MR), Sqn g N l a b → 1 ≤ a → AI y → mSl y (mLv y) + 8 * g ≤ B → MSe B y (mRw N l y)
  | [], _, _, _, _, _, _, _ => mse_same rfl rfl
  | v :: l, a, b, y, hs, ha, hi, h1 => by
    obtain ⟨q1, m, q2, q3, q4, q5⟩ := hs
    have M1 := mF_e (N := N) 40 g (by omega) v m true y q2.1 q2.2 (by omega) hi
    have s1 := mF_s (N := N) 40 g (by omega) hg v m true y B q2.1 q2.2 (by omega) hi h1 hB
    exact mse_tr s1 (rw_s hg hB l m b (mF N 40 v true y) q5 (by omega) (ai_ef M1 hi) (by rw [M1.1.2.1, M1.1.2.2.2 _ (Nat.le_refl _)]; exact h1)) M1.1.2.1 (M1.1.2.2.1 _ (Nat.le_refl _)) hi M1.2.1
/-- both begin related -/
theorem ki_0 : KI (cZ0).2.1 := ⟨fun _ _ _ h => absurd h (Nat.not_lt_zero _), fun _ h => absurd h (Nat.not_lt_zero _), fun _ _ => ⟨List.nodup_nil, fun _ h => by cases h⟩⟩
theorem srp_0 : SRp [] cZ0 (mY0 N) := by
  refine ⟨⟨⟨rfl, rfl⟩, fun i h => absurd h (Nat.not_lt_zero _), fun l l' h1 h2 => ?_, fun l _ => Nat.le_refl _, rfl⟩, ⟨rfl, fun i h => absurd h (Nat.not_lt_zero _), fun t h => (by cases h), Nat.le_refl _⟩, fun l l1 l2 => ?_, rfl, rfl⟩
  · have h2 : l' ≤ 0 := h2
    omega
  · have l2 : l ≤ 0 := l2
    omega
theorem rok_all : ∀ n, n ∈ pts N 0 → Rok N n false true := fun n hn _ => ⟨rfl, fun h1 h2 h3 => gdf_mem (pts N 0) [] n hn h1 h2 h3⟩
/-- the fault that both tell, or none -/
theorem all_flt (nk : Nok N mt) (pl : Plo N) (hg : g ≤ 38) (hs : Sqn g N (pts N 0) 1 N.1) : (∀ k p, rFl (cAll N mt) = some (k, p) → mWr (mAll N) = some (k, p)) ∧ (rFl (cAll N mt) = none → mWr (mAll N) = none) := by
  have h := rw_flt nk pl hg (pts N 0) [] 1 N.1 cZ0 (mY0 N) hs (Nat.le_refl _) (Nat.le_refl _) ki_0 srp_0 rfl (Nat.zero_le _) rfl rok_all rfl
  refine ⟨h.1, fun hn => ?_⟩
  have hn : rFl (cRw N mt 40 (pts N 0) cZ0) = none := hn
  have h2 := h.2 hn
  have X := (rw_sim nk hg (pts N 0) 1 N.1 cZ0 (mY0 N) hs (Nat.le_refl _) (Nat.le_refl _) ki_0 srp_0 rfl rok_all hn).1
  exact X.2.2.2.2.2.2.trans h2
end RWB
