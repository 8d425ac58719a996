/-! BUILD. What compiling keeps: scope, code that was made, room -/
abbrev SCt := List SCe × Nat × (Nat → List Nat)
def ow (s : SCt) (b : Nat) : Nat := (s.1.getD b (0, 0, 0)).2.2
/-- the scope is sound: bindings by body, and each body keeps bindings of bodies around that the one around has -/
def KI (s : SCt) : Prop := (∀ i j, i ≤ j → j < s.1.length → ow s i ≤ ow s j) ∧ (∀ i, i < s.1.length → ow s i ≤ s.2.1) ∧ ∀ l, l ≤ s.2.1 → (s.2.2 l).Nodup ∧ ∀ x, x ∈ s.2.2 l → x < s.1.length ∧ ow s x < l ∧ (ow s x + 1 = l ∨ x ∈ s.2.2 (l - 1))
theorem gd_app1 {α : Type} {l t : List α} {i : Nat} {x : α} (h : i < l.length) : (l ++ t).getD i x = l.getD i x := by
  rw [List.getD_eq_getElem?_getD, List.getD_eq_getElem?_getD, List.getElem?_append_left h]
theorem gd_app2 {α : Type} {l : List α} {y x : α} : (l ++ [y]).getD l.length x = y := by
  rw [List.getD_eq_getElem?_getD, List.getElem?_append_right (Nat.le_refl _), Nat.sub_self]
  rfl
theorem gd_take {α : Type} {l : List α} {i k : Nat} {x : α} (h : i < k) : (l.take k).getD i x = l.getD i x := by
  rw [List.getD_eq_getElem?_getD, List.getD_eq_getElem?_getD, List.getElem?_take, if_pos h]
section KIS
variable {s : SCt}
theorem ki_bi {j sl : Nat} (h : KI s) : KI (s.1 ++ [(j, sl, s.2.1)], s.2) := by
  obtain ⟨h1, h2, h3⟩ := h
  have e1 : ∀ i, i < s.1.length → ow (s.1 ++ [(j, sl, s.2.1)], s.2) i = ow s i := fun i hi => by
    unfold ow
    rw [gd_app1 hi]
  have e2 : ow (s.1 ++ [(j, sl, s.2.1)], s.2) s.1.length = s.2.1 := by
    unfold ow
    rw [gd_app2]
  have el : (s.1 ++ [(j, sl, s.2.1)]).length = s.1.length + 1 := by rw [List.length_append]; rfl
  refine ⟨fun a b hab hb => ?_, fun i hi => ?_, fun l hl => ⟨(h3 l hl).1, fun x hx => ?_⟩⟩
  · have hb : b < s.1.length + 1 := by rw [← el]; exact hb
    by_cases cb : b = s.1.length
    · subst cb
      rw [e2]
      by_cases ca : a = s.1.length
      · rw [ca, e2]; exact Nat.le_refl _
      · rw [e1 a (by omega)]; exact h2 a (by omega)
    · rw [e1 a (by omega), e1 b (by omega)]
      exact h1 a b hab (by omega)
  · have hi : i < s.1.length + 1 := by rw [← el]; exact hi
    by_cases c : i = s.1.length
    · rw [c, e2]; exact Nat.le_refl _
    · rw [e1 i (by omega)]; exact h2 i (by omega)
  · obtain ⟨a1, a2, a3⟩ := (h3 l hl).2 x hx
    rw [e1 x a1]
    exact ⟨by show x < (s.1 ++ [(j, sl, s.2.1)]).length; omega, a2, a3⟩
theorem ki_un {k : Nat} (h : KI s) (ho : ∀ i, k ≤ i → i < s.1.length → ow s i = s.2.1) : KI (s.1.take k, s.2) := by
  obtain ⟨h1, h2, h3⟩ := h
  have el : (s.1.take k).length = min k s.1.length := List.length_take
  have e1 : ∀ i, i < k → ow (s.1.take k, s.2) i = ow s i := fun i hi => by
    unfold ow
    rw [gd_take hi]
  refine ⟨fun a b hab hb => ?_, fun i hi => ?_, fun l hl => ⟨(h3 l hl).1, fun x hx => ?_⟩⟩
  · have hb : b < min k s.1.length := by rw [← el]; exact hb
    rw [e1 a (by omega), e1 b (by omega)]
    exact h1 a b hab (by omega)
  · have hi : i < min k s.1.length := by rw [← el]; exact hi
    rw [e1 i (by omega)]
    exact h2 i (by omega)
  · have hl : l ≤ s.2.1 := hl
    obtain ⟨a1, a2, a3⟩ := (h3 l hl).2 x hx
    have hxk : x < k := Nat.lt_of_not_le fun c => by
      have := ho x c a1
      omega
    rw [e1 x hxk]
    exact ⟨by show x < (s.1.take k).length; omega, a2, a3⟩
theorem ki_en (h : KI s) : KI (s.1, s.2.1 + 1, fun l => if l = s.2.1 + 1 then [] else s.2.2 l) := by
  obtain ⟨h1, h2, h3⟩ := h
  refine ⟨h1, fun i hi => Nat.le_succ_of_le (h2 i hi), fun l hl => ?_⟩
  dsimp only
  by_cases c : l = s.2.1 + 1
  · rw [if_pos c]
    exact ⟨List.nodup_nil, fun x hx => by cases hx⟩
  · have hl : l ≤ s.2.1 + 1 := hl
    rw [if_neg c, if_neg (by omega)]
    exact h3 l (by omega)
theorem ki_lu {k : Nat} (h : KI s) (hb : 1 ≤ s.2.1) (ho : ∀ i, i < k → i < s.1.length → ow s i + 1 ≤ s.2.1) (hk : ∀ i, k ≤ i → i < s.1.length → ow s i = s.2.1) : KI (s.1.take k, s.2.1 - 1, s.2.2) := by
  obtain ⟨h1, h2, h3⟩ := h
  have el : (s.1.take k).length = min k s.1.length := List.length_take
  have e1 : ∀ i, i < k → ow (s.1.take k, s.2.1 - 1, s.2.2) i = ow s i := fun i hi => by
    unfold ow
    rw [gd_take hi]
  refine ⟨fun a b hab hb => ?_, fun i hi => ?_, fun l hl => ?_⟩
  · have hb : b < min k s.1.length := by rw [← el]; exact hb
    rw [e1 a (by omega), e1 b (by omega)]
    exact h1 a b hab (by omega)
  · have hi : i < min k s.1.length := by rw [← el]; exact hi
    rw [e1 i (by omega)]
    have := ho i (by omega) (by omega)
    show _ ≤ s.2.1 - 1
    omega
  · have hl : l ≤ s.2.1 - 1 := hl
    refine ⟨(h3 l (by omega)).1, fun x hx => ?_⟩
    obtain ⟨a1, a2, a3⟩ := (h3 l (by omega)).2 x hx
    have hxk : x < k := Nat.lt_of_not_le fun c => by
      have := hk x c a1
      omega
    rw [e1 x hxk]
    exact ⟨by show x < (s.1.take k).length; omega, a2, a3⟩
theorem ki_kp {b : Nat} (h : KI s) (hb : b < s.1.length) : KI (s.1, s.2.1, fun l => if ow s b < l ∧ l ≤ s.2.1 ∧ b ∉ s.2.2 l then s.2.2 l ++ [b] else s.2.2 l) := by
  obtain ⟨h1, h2, h3⟩ := h
  refine ⟨h1, h2, fun l hl => ?_⟩
  have hl : l ≤ s.2.1 := hl
  obtain ⟨a1, a2⟩ := h3 l hl
  have old : ∀ x, x ∈ s.2.2 l → x < s.1.length ∧ ow s x < l ∧ (ow s x + 1 = l ∨ x ∈ (if ow s b < l - 1 ∧ l - 1 ≤ s.2.1 ∧ b ∉ s.2.2 (l - 1) then s.2.2 (l - 1) ++ [b] else s.2.2 (l - 1))) := fun x hx => by
    obtain ⟨b1, b2, b3⟩ := a2 x hx
    refine ⟨b1, b2, b3.imp_right fun b4 => ?_⟩
    split
    · exact List.mem_append_left _ b4
    · exact b4
  dsimp only
  by_cases c : ow s b < l ∧ l ≤ s.2.1 ∧ b ∉ s.2.2 l
  · rw [if_pos c]
    refine ⟨List.nodup_append.mpr ⟨a1, by simp, fun x hx y hy e => by
      simp only [List.mem_cons, List.not_mem_nil, or_false] at hy
      subst hy
      exact c.2.2 (e ▸ hx)⟩, fun x hx => ?_⟩
    rcases List.mem_append.mp hx with hx | hx
    · exact old x hx
    · simp only [List.mem_cons, List.not_mem_nil, or_false] at hx
      subst hx
      refine ⟨hb, c.1, ?_⟩
      show ow s x + 1 = l ∨ _
      by_cases c1 : ow s x + 1 = l
      · exact Or.inl c1
      · refine Or.inr ?_
        by_cases c2 : x ∈ s.2.2 (l - 1)
        · split
          · exact List.mem_append_left _ c2
          · exact c2
        · rw [if_pos ⟨by omega, by omega, c2⟩]
          exact List.mem_append_right _ (by simp)
  · rw [if_neg c]
    exact ⟨a1, old⟩
end KIS
theorem fd_lt {j : Nat} {sc : List SCe} {b : Nat} (h : cFd j sc = some b) : b < sc.length ∧ (sc.getD b (0, 0, 0)).1 = j := by
  unfold cFd at h
  have h1 := List.mem_of_find?_eq_some h
  have h2 := List.find?_some h
  simp only [List.mem_reverse, List.mem_range] at h1
  exact ⟨h1, by simpa using h2⟩
