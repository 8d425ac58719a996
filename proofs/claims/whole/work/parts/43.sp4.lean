/-! SPECS with loops: locals by what they hold; Arrays.fill -/
theorem lgv_ldel {L : ALS} {i j : Nat} (h1 : j ≠ i) (h2 : ¬ (j + 1 = i ∧ (lgv L j).category = 2)) : lgv (ldel i L) j = lgv L j := by
  induction L with
  | nil => rfl
  | cons q t ih =>
    show lgv (if q.1 = i ∨ (q.1 + 1 = i ∧ q.2.category = 2) then ldel i t else q :: ldel i t) j = (if q.1 = j then q.2 else lgv t j)
    by_cases hj : q.1 = j
    · have hl : lgv (q :: t) j = q.2 := if_pos hj
      rw [hl] at h2
      rw [if_neg (fun z => z.elim (fun e => h1 (hj.symm.trans e)) (fun e => h2 ⟨by rw [← hj]; exact e.1, e.2⟩)), if_pos hj]
      exact if_pos hj
    · have hl : lgv (q :: t) j = lgv t j := if_neg hj
      rw [hl] at h2
      rw [if_neg hj]
      split
      · exact ih h2
      · exact (if_neg hj).trans (ih h2)
theorem lgv_st {L : ALS} {i : Nat} {v : Value} : lgv (lst1 L i v) i = v := if_pos rfl
theorem lgv_ot {L : ALS} {i j : Nat} {v : Value} (h1 : (j = i) = False) (h2 : (j + 1 = i) = False) : lgv (lst1 L i v) j = lgv L j := by
  rw [lst1_d]
  have : (i = j) = False := eq_false (fun e => by rw [← h1]; exact e.symm)
  show (if i = j then v else lgv (ldel i L) j) = _
  rw [if_neg (by rw [this]; exact fun z => z)]
  exact lgv_ldel (by rw [ne_eq, h1]; exact fun z => z) (fun z => by rw [h2] at z; exact z.1)
theorem lgv_o1 {L : ALS} {i j : Nat} {v : Value} (h1 : (j = i) = False) (h2 : (lgv L j).category = 1) : lgv (lst1 L i v) j = lgv L j := by
  rw [lst1_d]
  have : (i = j) = False := eq_false (fun e => by rw [← h1]; exact e.symm)
  show (if i = j then v else lgv (ldel i L) j) = _
  rw [if_neg (by rw [this]; exact fun z => z)]
  exact lgv_ldel (by rw [ne_eq, h1]; exact fun z => z) (fun z => by rw [h2] at z; exact absurd z.2 (by decide))
def filI (f : Nat → Int32) (n : Nat) (v : Int32) : Nat → Int32 := fun i => if i < n then v else f i
theorem filI_s (f : Nat → Int32) (n : Nat) (v : Int32) : upd (filI f n v) n v = filI f (n + 1) v := by
  funext i
  unfold upd filI
  by_cases e : i = n
  · rw [if_pos e, if_pos (by omega)]
  · rw [if_neg e]
    by_cases e2 : i < n
    · rw [if_pos e2, if_pos (by omega)]
    · rw [if_neg e2, if_neg (by omega)]
theorem pA_pA (h : Hp) (k : Nat) (f g : Nat → Int32) : pA (pA h k f) k g = pA h k g := by
  show (h.1, h.2.1, h.2.2.1, h.2.2.2.1, va_up (va_up h.2.2.2.2.1 k f) k g, h.2.2.2.2.2) = _
  rw [bx_uu]; rfl
theorem fill_loop {d : Nat} {h : Hp} {k n : Nat} {v : Int32} {Q : Option Value → Hp → Prop} (hk : hK h k = 14) (hn0 : hN h k = n) (hn1 : n < 2 ^ 31) (hq : Q none (pA h k (filI (hA h k) n v))) : ∀ (m j : Nat) (L : ALS), j + m = n → lgv L 0 = .ref k → lgv L 1 = .int v → lgv L 2 = .int (nI j) → lgv L 3 = .int (nI n) → aWP d 281 5 L [] (pA h k (filI (hA h k) j v)) Q := by
  intro m
  induction m with
  | zero =>
    intro j L hj l0 l1 l2 l3
    simp only [b281_5, b281_20, z_v, l0, l1, l2, l3, true_and]
    have : j = n := by omega
    subst this
    exact ⟨fun _ => hq, fun e => absurd (show nI j ≤ nI j from (nI_leI (by omega) (by omega)).mpr (Nat.le_refl j)) e⟩
  | succ m ih =>
    intro j L hj l0 l1 l2 l3
    have hlt : j < n := by omega
    have hA1 : hA (pA h k (filI (hA h k) j v)) k = filI (hA h k) j v := up1_eq
    simp only [b281_5, z_v, l2, l3, true_and]
    refine ⟨fun e => absurd ((nI_leI (by omega) (by omega)).mp e) (by omega), fun _ => ?_⟩
    simp only [b281_10, z_v, l0, l1, l2, l3, z_h, hk, hn0, true_and, nI_1]
    refine ⟨⟨by rw [nI_toInt (by omega)]; omega, by rw [nI_toInt (by omega)]; omega⟩, ?_⟩
    rw [nI_clamp (by omega)]
    have e1 : va_up (hA h) k (filI (hA h k) j v) k = filI (hA h k) j v := up1_eq
    rw [e1, filI_s, pA_pA]
    exact ih (j + 1) _ (by omega) (by rw [lgv_ot (by decide) (by decide)]; exact l0) (by rw [lgv_o1 (by decide) (by rw [l1]; rfl)]; exact l1) lgv_st (by rw [lgv_ot (by decide) (by decide)]; exact l3)
theorem sp_fillI {d : Nat} {h : Hp} {k n : Nat} {v : Int32} {Q : Option Value → Hp → Prop} (hk : hK h k = 14) (hn0 : hN h k = n) (hn1 : n < 2 ^ 31) (hq : Q none (pA h k (filI (hA h k) n v))) : aEv d 281 [.ref k, .int v] h Q := by
  unfold aEv
  simp only [lv_args, z_v, Nat.reduceEqDiff, if_false, Nat.reduceAdd]
  simp only [b281_0, z_v, z_lg, lst1_d, ldel, hk, hn0, true_and, and_true, Nat.reduceEqDiff, Nat.reduceLeDiff, Nat.reduceAdd, or_self, or_false, false_or, false_and, if_false]
  have h0 : pA h k (filI (hA h k) 0 v) = h := by
    have : filI (hA h k) 0 v = hA h k := by funext i; exact if_neg (Nat.not_lt_zero i)
    rw [this]
    show (h.1, h.2.1, h.2.2.1, h.2.2.2.1, va_up (hA h) k (hA h k), h.2.2.2.2.2) = h
    have e2 : va_up (hA h) k (hA h k) = hA h := by
      funext a
      unfold va_up
      split
      · rename_i e; rw [e]
      · rfl
    rw [e2]; rfl
  have := fill_loop (d := d) hk hn0 hn1 hq n 0 [(3, .int (nI n)), (2, .int 0), (0, .ref k), (1, .int v)] (by omega) rfl rfl (by rw [nI_0]; rfl) rfl
  rw [h0] at this
  exact this
