/-! ROOM: rows that grow -/
def GLs : List Nat := [5, 6, 7, 8, 10, 11, 12, 13, 14, 20, 21, 22, 28, 30, 31, 32, 38, 41, 42, 43, 44, 46, 49, 52, 53, 54, 55, 56, 119, 120, 121, 122, 123, 124, 125]
/-- how long each may become -/
def cpR (a : Nat) : Nat := if a = 49 then 300000 else if a = 53 then 620000 else if a = 125 then 620000 else if a = 119 ∨ a = 120 then 300000 else if a = 121 then 262144 else if a = 122 ∨ a = 123 ∨ a = 124 then 90000 else if a = 28 ∨ a = 38 then 62000 else if a = 22 ∨ a = 32 then 24100 else if a = 20 ∨ a = 21 ∨ a = 30 ∨ a = 31 then 15100 else if a = 44 then 16000 else if a = 10 ∨ a = 11 ∨ a = 12 ∨ a = 13 ∨ a = 14 then 12100 else 3100
def Gs (h : Hp) : Nat := (GLs.map (hN h)).sum
/-- rows that stay as long as they are -/
def LNl : List (Nat × Nat) := [(1, 3000), (9, 256), (15, 31), (16, 31), (17, 31), (18, 0), (23, 120), (24, 120), (25, 120), (26, 120), (27, 120), (33, 120), (34, 120), (35, 120), (36, 120), (37, 120), (45, 32), (51, 200), (57, 100), (58, 4), (60, 3000), (61, 3000), (62, 3002), (63, 3002), (64, 3002), (67, 6200), (68, 6200), (69, 6200), (70, 6200), (71, 6200), (72, 6200), (73, 6200), (74, 3000), (75, 3000), (76, 3000), (77, 3000), (78, 3000), (79, 3000), (80, 3000), (81, 3000), (82, 3000), (83, 3000), (84, 30976), (85, 30976), (87, 6200), (88, 6200), (89, 6200), (90, 6200), (91, 6200), (92, 6200), (93, 6200), (94, 3000), (95, 3000), (96, 3000), (97, 3000), (98, 3000), (99, 3000), (100, 3000), (101, 3000), (102, 3000), (103, 3000), (104, 30976), (105, 30976), (106, 6200), (107, 6200), (108, 6200), (109, 32), (110, 32), (111, 8192), (112, 46200), (113, 46200), (114, 6200), (115, 6200), (116, 40001), (117, 40001), (118, 40001), (126, 3000), (127, 200), (128, 1000), (129, 4)]
def Fx (h : Hp) : Prop := ∀ e, e ∈ LNl → hN h e.1 = e.2
theorem ln_gl : ∀ e, e ∈ LNl → e.1 ∉ GLs ∧ e.1 < 130 := by decide +kernel
def Rm (h : Hp) : Prop := (hu h ≤ 561461 + 2 * Gs h ∧ Fx h) ∧ (16 * hn h ≤ 2080 + Gs h ∧ hN h 20 = hN h 21 ∧ hN h 30 = hN h 31) ∧ ∀ a, a ∈ GLs → 16 ≤ hN h a ∧ hN h a ≤ cpR a
theorem sum_upd {f g : Nat → Nat} {a : Nat} : ∀ {l : List Nat}, l.Nodup → a ∈ l → (∀ b, b ∈ l → b ≠ a → g b = f b) → (l.map g).sum + f a = (l.map f).sum + g a := by
  intro l
  induction l with
  | nil => intro _ h; simp at h
  | cons x l ih =>
    intro nd h q
    rw [List.nodup_cons] at nd
    simp only [List.map_cons, List.sum_cons]
    by_cases c : x = a
    · subst c
      have : l.map g = l.map f := List.map_congr_left fun b hb => q b (by simp [hb]) (fun e => nd.1 (e ▸ hb))
      rw [this]
      omega
    · have h2 : a ∈ l := by
        rcases List.mem_cons.mp h with h | h
        · exact absurd h.symm c
        · exact h
      have := ih nd.2 h2 (fun b hb => q b (by simp [hb]))
      have hx := q x (by simp) c
      omega
theorem sum_le {f g : Nat → Nat} : ∀ {l : List Nat}, (∀ b, b ∈ l → f b ≤ g b) → (l.map f).sum ≤ (l.map g).sum := by
  intro l
  induction l with
  | nil => intro _; simp
  | cons x l ih =>
    intro q
    simp only [List.map_cons, List.sum_cons]
    have := ih (fun b hb => q b (by simp [hb]))
    have := q x (by simp)
    omega
theorem rm_fin {h : Hp} (r : Rm h) : hn h ≤ 601024 ∧ hu h ≤ 7293034 := by
  obtain ⟨⟨r1, _⟩, ⟨r2, _⟩, r3⟩ := r
  have h1 : Gs h ≤ (GLs.map cpR).sum := sum_le fun b hb => (r3 b hb).2
  have h2 : (GLs.map cpR).sum = 3018444 := by decide
  omega
/-- references that vary -/
def Vy (h : Hp) : Prop := ∀ a b, isVr a b = true → ∃ r, hR h a b = some r ∧ (r = 1 ∨ r = 18 ∨ r = 19 ∨ r = 29 ∨ r = 66 ∨ r = 86)
theorem lkm_rt {l : List ((Nat × Nat) × Nat)} {k : Nat × Nat} {v : Nat} (h : l.lookup k = some v) : (k, v) ∈ l := by
  induction l with
  | nil => simp at h
  | cons x l ih =>
    obtain ⟨x1, x2⟩ := x
    rw [List.lookup_cons] at h
    by_cases c : k = x1
    · subst c
      simp at h
      subst h
      simp
    · have : (k == x1) = false := by simpa using c
      rw [this] at h
      exact List.mem_cons_of_mem _ (ih h)
theorem rtl_lt : ∀ e, e ∈ RTl → e.2 < 130 := by decide +kernel
theorem vy_lt {h : Hp} (s : Sk h) (v : Vy h) {a b r : Nat} (e : hR h a b = some r) : r < 130 := by
  cases c : isVr a b with
  | false =>
    rw [s.2.1 a b c] at e
    exact rtl_lt _ (lkm_rt e)
  | true =>
    obtain ⟨r', e1, e2⟩ := v a b c
    rw [e] at e1
    injection e1 with e1
    omega
theorem vy_cl {h : Hp} (s : Sk h) (v : Vy h) : ∀ a b, hR h a b ≠ some (hn h) := fun a b e => by
  have := vy_lt s v e
  have := s.2.2
  omega
theorem vy_uq {h : Hp} (s : Sk h) (v : Vy h) {f k j : Nat} (hf : f ≠ 1 ∧ f ≠ 18 ∧ f ≠ 19 ∧ f ≠ 29 ∧ f ≠ 66 ∧ f ≠ 86) (hd : ∀ e, e ∈ RTl → e.2 = f → e.1 = (k, j)) : ∀ a b, hR h a b = some f → a = k ∧ b = j := fun a b e => by
  cases c : isVr a b with
  | false =>
    rw [s.2.1 a b c] at e
    have := hd _ (lkm_rt e) rfl
    exact ⟨congrArg Prod.fst this, congrArg Prod.snd this⟩
  | true =>
    obtain ⟨r', e1, e2⟩ := v a b c
    rw [e] at e1
    injection e1 with e1
    omega
/-- row a has room for n -/
def Gro (a n : Nat) (h h' : Hp) : Prop := hR h' = hR h ∧ hI h' = hI h ∧ hL h' = hL h ∧ (∀ b, b < 130 → hK h' b = hK h b) ∧ (∀ b, b < 130 → b ≠ a → hA h' b = hA h b ∧ hB h' b = hB h b ∧ hN h' b = hN h b) ∧ n ≤ hN h' a ∧ hN h a ≤ hN h' a ∧ ((hN h' a = hN h a ∧ hn h' = hn h ∧ hu h' = hu h) ∨ (2 * hN h a ≤ hN h' a ∧ hn h' = hn h + 1 ∧ hu h' = hu h + hN h' a)) ∧ (hN h' a ≤ hN h a ∨ hN h' a ≤ n ∨ hN h' a ≤ 2 * hN h a)
theorem gro_J {h : Hp} (s : Sk h) {a : Nat} (ha : a < 130) (n : Nat) : Gro a n h (rmJ h a n) ∧ ∀ i, i < hN h a → hB (rmJ h a n) a i = hB h a i := by
  have h130 := s.2.2
  obtain ⟨g1, g2, g3, g4, g5, g6, g7, g8, g9, g10, g11⟩ := rmJ_r h a n (by omega)
  refine ⟨⟨g1, g2, g3, fun b hb => g4 b (by omega), fun b hb hne => g5 b (by omega) hne, g7, g8, ?_, ?_⟩, g6⟩
  · by_cases c : n ≤ hN h a
    · rw [if_pos c] at g9 g10 g11
      exact Or.inl ⟨g9, g10, g11⟩
    · rw [if_neg c] at g9 g10 g11
      exact Or.inr ⟨by omega, g10, by rw [g11, g9]⟩
  · by_cases c : n ≤ hN h a
    · rw [if_pos c] at g9; omega
    · rw [if_neg c] at g9; omega
theorem gro_I {h : Hp} (s : Sk h) {a : Nat} (ha : a < 130) (n : Nat) : Gro a n h (rmI h a n) ∧ ∀ i, i < hN h a → hA (rmI h a n) a i = hA h a i := by
  have h130 := s.2.2
  obtain ⟨g1, g2, g3, g4, g5, g6, g7, g8, g9, g10, g11⟩ := rmI_r h a n (by omega)
  refine ⟨⟨g1, g2, g3, fun b hb => g4 b (by omega), fun b hb hne => ⟨(g5 b (by omega) hne).2.1, (g5 b (by omega) hne).1, (g5 b (by omega) hne).2.2⟩, g7, g8, ?_, ?_⟩, g6⟩
  · by_cases c : n ≤ hN h a
    · rw [if_pos c] at g9 g10 g11
      exact Or.inl ⟨g9, g10, g11⟩
    · rw [if_neg c] at g9 g10 g11
      exact Or.inr ⟨by omega, g10, by rw [g11, g9]⟩
  · by_cases c : n ≤ hN h a
    · rw [if_pos c] at g9; omega
    · rw [if_neg c] at g9; omega
theorem gro_hn {a n : Nat} {h h' : Hp} (g : Gro a n h h') : hn h ≤ hn h' := by
  rcases g.2.2.2.2.2.2.2.1 with ⟨_, e, _⟩ | ⟨_, e, _⟩ <;> omega
theorem gro_sk {a n : Nat} {h h' : Hp} (g : Gro a n h h') (s : Sk h) : Sk h' := by
  refine ⟨fun k hk => (g.2.2.2.1 k hk).trans (s.1 k hk), fun x b c => by rw [g.1]; exact s.2.1 x b c, ?_⟩
  have := gro_hn g
  have := s.2.2
  omega
theorem gro_vy {a n : Nat} {h h' : Hp} (g : Gro a n h h') (v : Vy h) : Vy h' := by
  unfold Vy; rw [g.1]; exact v
theorem gl_lt : ∀ a, a ∈ GLs → a < 130 := by decide
theorem gro_rm {a n : Nat} {h h' : Hp} (g : Gro a n h h') (r : Rm h) (ha : a ∈ GLs) (hc : hN h' a ≤ cpR a) (hx : a ≠ 20 ∧ a ≠ 21 ∧ a ≠ 30 ∧ a ≠ 31) : Rm h' := by
  obtain ⟨g1, g2, g3, g4, g5, g7, g8, g9, g10⟩ := g
  obtain ⟨⟨r1, r4⟩, ⟨r2, r5, r6⟩, r3⟩ := r
  have hs : Gs h' + hN h a = Gs h + hN h' a := sum_upd (f := hN h) (g := hN h') (a := a) (by decide) ha (fun b hb hne => (g5 b (gl_lt b hb) hne).2.2)
  have h16 := (r3 a ha).1
  refine ⟨⟨?_, fun e he => ?_⟩, ?_, fun b hb => ?_⟩
  · rcases g9 with ⟨e1, e2, e3⟩ | ⟨e1, e2, e3⟩ <;> omega
  · obtain ⟨l1, l2⟩ := ln_gl e he
    rw [(g5 e.1 l2 (fun c => l1 (c ▸ ha))).2.2]; exact r4 e he
  · refine ⟨?_, ?_, ?_⟩
    · rcases g9 with ⟨e1, e2, e3⟩ | ⟨e1, e2, e3⟩ <;> omega
    · rw [(g5 20 (by decide) (Ne.symm hx.1)).2.2, (g5 21 (by decide) (Ne.symm hx.2.1)).2.2]; exact r5
    · rw [(g5 30 (by decide) (Ne.symm hx.2.2.1)).2.2, (g5 31 (by decide) (Ne.symm hx.2.2.2)).2.2]; exact r6
  · by_cases c : b = a
    · subst c; exact ⟨by omega, hc⟩
    · rw [(g5 b (gl_lt b hb) c).2.2]; exact r3 b hb
theorem rm_same {h g : Hp} (e1 : hN g = hN h) (e2 : hn g = hn h) (e3 : hu g = hu h) (r : Rm h) : Rm g := by
  unfold Rm Gs Fx
  rw [e1, e2, e3]
  exact r
theorem i0_rm : Rm hI0 := by
  refine ⟨⟨?_, ?_⟩, ?_, ?_⟩
  · have := hI0_u
    omega
  · unfold Fx; decide +kernel
  · have := hI0_n
    have h2 : Gs hI0 ≥ 16 := by decide +kernel
    exact ⟨by omega, by decide +kernel, by decide +kernel⟩
  · decide +kernel
theorem sb_v : SB = 1000000 := rfl
theorem rm_sb {h : Hp} (r : Rm h) : hn h < SB := by
  have := rm_fin r
  rw [sb_v]
  omega
