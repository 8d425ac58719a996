/-! a turn of the class's machine -/
theorem clo_g {G : PG} {M ba : Nat} {se : Int32} {a : Nat} {s' F' : List Int64} : ∀ (n i : Nat) (s F1 F2 : List Int64), F1.length = F2.length → (∀ j, ¬ (a + 1 + i ≤ j ∧ j < a + 1 + i + n) → F1[j]? = F2[j]?) → Clo G M ba se a n i s F1 s' F' → Clo G M ba se a n i s F2 s' F' := by
  intro n
  induction n with
  | zero =>
    intro i s F1 F2 hl h c
    obtain ⟨rfl, rfl⟩ := c
    exact ⟨rfl, List.ext_getElem? fun j => h j (by omega)⟩
  | succ n ih =>
    intro i s F1 F2 hl h c
    have st : ∀ (A B : List Int64) (x : Int64), A.length = B.length → (∀ j, ¬ (a + 1 + i ≤ j ∧ j < a + 1 + i + (n + 1)) → A[j]? = B[j]?) → (A.set (a + 1 + i) x).length = (B.set (a + 1 + i) x).length ∧ ∀ j, ¬ (a + 1 + (i + 1) ≤ j ∧ j < a + 1 + (i + 1) + n) → (A.set (a + 1 + i) x)[j]? = (B.set (a + 1 + i) x)[j]? := fun A B x e1 e2 => by
      refine ⟨by simp [e1], fun j hj => ?_⟩
      by_cases c : j = a + 1 + i
      · subst c
        rw [List.getElem?_set, List.getElem?_set, e1, if_pos rfl, if_pos rfl]
      · rw [List.getElem?_set_ne (Ne.symm c), List.getElem?_set_ne (Ne.symm c)]
        exact e2 j (by omega)
    obtain ⟨w, w1, w2, w3⟩ := c
    refine ⟨w, w1, w2, ?_⟩
    rcases w3 with ⟨p0, x, e1, e2⟩ | ⟨p1, b, y, m, b1, m1, b2, e1, e2, e3, e4⟩
    · refine Or.inl ⟨p0, x, e1, ?_⟩
      rcases e2 with ⟨m, m1, e3, e4⟩ | ⟨e3, e4⟩
      · obtain ⟨q1, q2⟩ := st F1 F2 (nI m).toInt64 hl h
        exact Or.inl ⟨m, m1, e3, ih _ _ _ _ q1 q2 e4⟩
      · rw [hl] at e4
        obtain ⟨q1, q2⟩ := st (F1 ++ [x]) (F2 ++ [x]) (nI F2.length).toInt64 (by simp [hl]) (fun j hj => by
          by_cases c : j < F1.length
          · rw [List.getElem?_append_left c, List.getElem?_append_left (by omega)]; exact h j hj
          · rw [List.getElem?_append_right (by omega), List.getElem?_append_right (by omega), hl])
        exact Or.inr ⟨e3, ih _ _ _ _ q1 q2 e4⟩
    · obtain ⟨q1, q2⟩ := st F1 F2 (nI m).toInt64 hl h
      exact Or.inr ⟨p1, b, y, m, b1, m1, b2, e1, by rw [← h _ (by omega)]; exact e2, e3, ih _ _ _ _ q1 q2 e4⟩
theorem clo_len {G : PG} {M ba : Nat} {se : Int32} {a : Nat} {s' F' : List Int64} : ∀ (n i : Nat) (s F : List Int64), Clo G M ba se a n i s F s' F' → s'.length = s.length := by
  intro n
  induction n with
  | zero =>
    intro i s F c
    obtain ⟨rfl, rfl⟩ := c
    rfl
  | succ n ih =>
    intro i s F c
    obtain ⟨w, w1, w2, w3⟩ := c
    rcases w3 with ⟨p0, x, e1, e2⟩ | ⟨p1, b, y, m, b1, m1, b2, e1, e2, e3, e4⟩
    · rcases e2 with ⟨m, m1, e3, e4⟩ | ⟨e3, e4⟩
      · exact ih _ _ _ e4
      · rw [ih _ _ _ e4, List.length_set]
    · exact ih _ _ _ e4
section COH
variable {h h' : Hp} {Q : Option Value → Hp → Prop} {d : Nat} {G : PG} {p pc : Nat} {cap : Nat} {s t xs : List Int64} {v x y c : Int64} {a b o : Int32} {ba : Nat} {se : Int32} {bk : List BK} {F F' : List Int64} {ce ce' : Nat} {gc : List Int64} {r n M i g : Nat} {P : List Int32 × List Int32 × Nat × Nat × Int64 × Nat}
/-- a new place of the code -/
theorem rxf_pc (f : RXf pc ba se bk h) {pc' : Nat} (hp : pc' < 1000000) : RXf pc' ba se bk (pI h 47 7 (nI pc')) := by
  obtain ⟨f1, f2, f3, f4, f5, f6, f7, f8, f9, f10⟩ := f
  exact ⟨f1, f2, rfl, f4, f5, hp, f7, f8, f9, f10⟩
theorem rx_push (r : RX G p ((pc, s), (ba, se, bk, cap), (F, ce, gc), P) h) (hc : s.length < cap) {pc' : Nat} (hp : pc' < 1000000) : RX G p ((pc', s ++ [v]), (ba, se, bk, cap), (F, ce, gc), P) (pI (hPs h s.length v) 47 7 (nI pc')) := by
  obtain ⟨r1, r2, r3, r4, r5, r6, r7⟩ := r
  exact ⟨sx_I (by decide) (sx_I (by decide) (sx_B r1)), r2, rxs_push r3 hc, rxf_pc (h := hPs h s.length v) r4 hp, r5, r6, r7⟩
theorem rx_pop (r : RX G p ((pc, s ++ [v]), (ba, se, bk, cap), (F, ce, gc), P) h) {pc' : Nat} (hp : pc' < 1000000) : RX G p ((pc', s), (ba, se, bk, cap), (F, ce, gc), P) (pI (pI h 47 4 (nI s.length)) 47 7 (nI pc')) := by
  obtain ⟨r1, r2, r3, r4, r5, r6, r7⟩ := r
  exact ⟨sx_I (by decide) (sx_I (by decide) r1), r2, (rxs_pop r3).1, rxf_pc (h := pI h 47 4 (nI s.length)) r4 hp, r5, r6, r7⟩
end COH
