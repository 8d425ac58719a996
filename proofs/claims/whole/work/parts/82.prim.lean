/-! primitives -/
theorem vr_lt6 {D : VD} {v w : Int64} {k : Nat} (hk : k < 6) (r : VR D v w) (h : vkd v = nI k) : v = w ∧ ∃ c, v = vof (nI k) c ∧ (c = 0 ∨ k = 1 ∨ k = 5) := by
  rcases r with ⟨k', c, k1, rfl, rfl, k2⟩ | ⟨i, i1, rfl, rfl⟩ | ⟨i, i1, rfl, rfl⟩ | ⟨i, i1, rfl, rfl⟩ <;> rw [vof_kd] at h
  · have := nI_inj (by omega) (by omega) h
    subst this
    exact ⟨rfl, c, rfl, k2⟩
  · have := nI_inj (a := 6) (by omega) (by omega) h; omega
  · have := nI_inj (a := 7) (by omega) (by omega) h; omega
  · have := nI_inj (a := 8) (by omega) (by omega) h; omega
theorem vr_c0 {D : VD} {v w : Int64} {k : Nat} (hk : k = 0 ∨ k = 2 ∨ k = 3 ∨ k = 4) (r : VR D v w) : vkd v = nI k ↔ w = vof (nI k) 0 := by
  constructor
  · intro h
    obtain ⟨h1, c, h2, h3⟩ := vr_lt6 (by omega) r h
    rcases h3 with h3 | h3 | h3
    · rw [← h1, h2, h3]
    · omega
    · omega
  · intro h
    rw [(vr_kd r).1, h, vof_kd]
theorem pm_get {pm : List Nat} {i : Nat} (h : i < pm.length) : pm[i]? = some (pm.getD i 20000000) := by
  simp [List.getD, List.getElem?_eq_getElem h]
theorem pl_get {pl : List (Nat × Nat)} {i : Nat} (h : i < pl.length) : ∃ L, pl[i]? = some ((pl.getD i (20000000, 0)).1, L) := by
  refine ⟨(pl[i]).2, ?_⟩
  simp [List.getD, List.getElem?_eq_getElem h]
theorem set_same {α : Type} {l : List α} {i : Nat} {x : α} (h : l[i]? = some x) : l.set i x = l := by
  refine List.ext_getElem? fun j => ?_
  by_cases c : j = i
  · subst c
    rw [g_seteq (g_lt h), h]
  · rw [List.getElem?_set_ne (Ne.symm c)]
theorem tru_vr {D : VD} (b : Bool) : VR D (tru b) (tru b) := by
  cases b
  · exact vr_cst (k := 2) (by decide) (Or.inl rfl)
  · exact vr_cst (k := 3) (by decide) (Or.inl rfl)
theorem rck_vr {D : VD} (i : Nat) (a b : Int32) : VR D (Rck i a b) (Rck i a b) := by
  unfold Rck
  split
  · exact vr_cst (k := 1) (by decide) (Or.inr (Or.inl rfl))
  · split
    · exact vr_cst (k := 1) (by decide) (Or.inr (Or.inl rfl))
    · split
      · exact vr_cst (k := 1) (by decide) (Or.inr (Or.inl rfl))
      · split
        · exact tru_vr _
        · split
          · exact tru_vr _
          · split
            · exact vr_cst (k := 1) (by decide) (Or.inr (Or.inl rfl))
            · exact vr_cst (k := 1) (by decide) (Or.inr (Or.inl rfl))
section PRM
variable {G : PG} {qv : Nat → Int64} {pm : List Nat} {pl : List (Nat × Nat)} {ty : TY} {s : List Int64} {sh : List Nat} {wk F : List Int64} {ce : Nat} {gc bx : List Int64} {ps : List (Nat × List Nat)} {pa : List (Int64 × Int64)} {gr : List Int64} {inp out : List Int32} {x y x' y' : Int64}
theorem cor_vj (cor : Cor G qv pm pl ty s sh wk F ce gc bx ps pa gr) : VJ (Dv pm pl) := by
  obtain ⟨c1, c2, c3, c4, c5, c6, c7, ⟨z1, z2, z3, z4, z5, z6, z7⟩⟩ := cor
  have hp : ∀ i, i < pl.length → ∃ t : Nat, ty[(pl.getD i (20000000, 0)).1]? = some (2, i) := fun i hi => by
    obtain ⟨L, e⟩ := pl_get hi
    exact ⟨0, (c2 i _ L e).2.2.1⟩
  refine ⟨fun i j hi hj hl e => ?_, fun i j hi hj e => ?_, fun i hi => ?_, ?_, ?_⟩
  · have t1 := (c1 i _ (pm_get hi) hl).1
    have hl2 : pm.getD j 20000000 < 10000000 := by
      have e : pm.getD i 20000000 = pm.getD j 20000000 := e
      rw [← e]; exact hl
    have t2 := (c1 j _ (pm_get hj) hl2).1
    have e : pm.getD i 20000000 = pm.getD j 20000000 := e
    rw [e, t2] at t1
    simp only [Option.some.injEq, Prod.mk.injEq, true_and] at t1
    exact t1.symm
  · obtain ⟨_, t1⟩ := hp i hi
    obtain ⟨_, t2⟩ := hp j hj
    have e : (pl.getD i (20000000, 0)).1 = (pl.getD j (20000000, 0)).1 := e
    rw [e, t2] at t1
    simp only [Option.some.injEq, Prod.mk.injEq, true_and] at t1
    exact t1.symm
  · obtain ⟨_, t1⟩ := hp i hi
    have := g_lt t1
    show (pl.getD i (20000000, 0)).1 < 10000000
    omega
  · show pm.length < 10000000
    omega
  · show pl.length < 10000000
    omega
/-- a pair or none -/
theorem vr_pr (cor : Cor G qv pm pl ty s sh wk F ce gc bx ps pa gr) (r : VR (Dv pm pl) x x') : (vkd x ≠ 6 ∧ vkd x' ≠ 6) ∨ ∃ i a u v p q, pm[i]? = some a ∧ a < 10000000 ∧ a + 1 < 1000000 ∧ i < 1000000 ∧ x = vof 6 (nI a) ∧ x' = vof 6 (nI i) ∧ F[a]? = some u ∧ F[a + 1]? = some v ∧ pa[i]? = some (p, q) ∧ VR (Dv pm pl) u p ∧ VR (Dv pm pl) v q := by
  obtain ⟨c1, c2, c3, c4, c5, c6, c7, ⟨z1, z2, z3, z4, z5, z6, z7⟩⟩ := cor
  have hk := (vr_kd r).1
  by_cases c : vkd x = 6
  · right
    rcases r with ⟨k, d, k1, rfl, rfl, k2⟩ | ⟨i, ⟨i1, i2⟩, rfl, rfl⟩ | ⟨i, i1, rfl, rfl⟩ | ⟨i, i1, rfl, rfl⟩
    · rw [vof_kd] at c
      have := nI_inj (b := 6) (by omega) (by omega) c
      omega
    · obtain ⟨t1, t2, u, v, p, q, g1, g2, g3, g4, g5⟩ := c1 i _ (pm_get i1) i2
      have hi : i < pm.length := i1
      have h1 := g_lt g2
      exact ⟨i, _, u, v, p, q, pm_get i1, i2, by omega, by omega, rfl, rfl, g1, g2, g3, g4, g5⟩
    · rw [vof_kd] at c; exact absurd c (by decide)
    · rw [vof_kd] at c; exact absurd c (by decide)
  · exact Or.inl ⟨c, hk ▸ c⟩
theorem prim_ok {i : Nat} (hi : i < 20) (ho : out.length ≤ 1000) (cor : Cor G qv pm pl ty s sh wk F ce gc bx ps pa gr) (r1 : VR (Dv pm pl) x x') (r2 : VR (Dv pm pl) y y') :
    (∃ r, (r = 2 ∨ r = 3 ∨ 10 < r ∧ r < 18) ∧ Pce i x y ce inp out r ∧ Pce i x' y' ce inp out r) ∨ (∃ pm' ty' v v' F' ce' inp' out' pa', Pcl i x y (F, ce, inp, out) v (F', ce', inp', out') ∧ Prl i x' y' (pa, ce, inp, out) v' (pa', ce', inp', out') ∧ VR (Dv pm' pl) v v' ∧ Cor G qv pm' pl ty' s sh wk F' ce' gc bx ps pa' gr ∧ DL (Dv pm pl) (Dv pm' pl) ∧ out'.length ≤ 1000) := by
  have k1 := (vr_kd r1).1
  have k2 := (vr_kd r2).1
  have same : ∀ v, Pcl i x y (F, ce, inp, out) v (F, ce, inp, out) → ∀ v', Prl i x' y' (pa, ce, inp, out) v' (pa, ce, inp, out) → VR (Dv pm pl) v v' → (∃ pm' ty' v v' F' ce' inp' out' pa', Pcl i x y (F, ce, inp, out) v (F', ce', inp', out') ∧ Prl i x' y' (pa, ce, inp, out) v' (pa', ce', inp', out') ∧ VR (Dv pm' pl) v v' ∧ Cor G qv pm' pl ty' s sh wk F' ce' gc bx ps pa' gr ∧ DL (Dv pm pl) (Dv pm' pl) ∧ out'.length ≤ 1000) := fun v h v' h' r => ⟨pm, ty, v, v', F, ce, inp, out, pa, h, h', r, cor, dl_rf _, ho⟩
  rcases (show i = 0 ∨ i = 1 ∨ i = 2 ∨ i = 3 ∨ i = 4 ∨ i = 5 ∨ i = 6 ∨ i = 7 ∨ i = 8 ∨ i = 9 ∨ i = 10 ∨ i = 11 ∨ (12 ≤ i ∧ i ≤ 18) ∨ i = 19 by omega) with rfl | rfl | rfl | rfl | rfl | rfl | rfl | rfl | rfl | rfl | rfl | rfl | ⟨h1, h2⟩ | rfl
  · rcases vr_pr cor r1 with ⟨c, c'⟩ | ⟨j, a, u, v, p, q, e1, e2, e3, e4, e5, e6, e7, e8, e9, e10, e11⟩
    · exact Or.inl ⟨13, by decide, Or.inl ⟨Or.inl rfl, c, rfl⟩, Or.inl ⟨Or.inl rfl, c', rfl⟩⟩
    · exact Or.inr (same u (Or.inl ⟨rfl, a, by omega, e5, e7, rfl⟩) p (Or.inl ⟨rfl, j, q, e6, e4, e9, rfl⟩) e10)
  · rcases vr_pr cor r1 with ⟨c, c'⟩ | ⟨j, a, u, v, p, q, e1, e2, e3, e4, e5, e6, e7, e8, e9, e10, e11⟩
    · exact Or.inl ⟨13, by decide, Or.inl ⟨Or.inr (Or.inl rfl), c, rfl⟩, Or.inl ⟨Or.inr (Or.inl rfl), c', rfl⟩⟩
    · exact Or.inr (same v (Or.inr (Or.inl ⟨rfl, a, by omega, e5, e8, rfl⟩)) q (Or.inr (Or.inl ⟨rfl, j, p, e6, e4, e9, rfl⟩)) e11)
  · exact Or.inr (same _ (Or.inr (Or.inr (Or.inl ⟨rfl, rfl, rfl⟩))) _ (Or.inr (Or.inr (Or.inl ⟨rfl, rfl, rfl⟩))) (by rw [← k1]; exact tru_vr _))
  · refine Or.inr (same _ (Or.inr (Or.inr (Or.inr (Or.inl ⟨rfl, rfl, rfl⟩)))) _ (Or.inr (Or.inr (Or.inr (Or.inl ⟨rfl, rfl, rfl⟩)))) ?_)
    have : (vkd x == 4) = (x' == vof 4 0) := by
      rw [Bool.eq_iff_iff, beq_iff_eq, beq_iff_eq]
      exact vr_c0 (k := 4) (by decide) r1
    rw [this]
    exact tru_vr _
  · exact Or.inr (same _ (Or.inr (Or.inr (Or.inr (Or.inr (Or.inl ⟨rfl, rfl, rfl⟩))))) _ (Or.inr (Or.inr (Or.inr (Or.inr (Or.inl ⟨rfl, rfl, rfl⟩))))) (by rw [← k1]; exact tru_vr _))
  · exact Or.inr (same _ (Or.inr (Or.inr (Or.inr (Or.inr (Or.inr (Or.inl ⟨rfl, rfl, rfl⟩)))))) _ (Or.inr (Or.inr (Or.inr (Or.inr (Or.inr (Or.inl ⟨rfl, rfl, rfl⟩)))))) (by rw [← k1]; exact tru_vr _))
  · refine Or.inr (same _ (Or.inr (Or.inr (Or.inr (Or.inr (Or.inr (Or.inr (Or.inl ⟨rfl, rfl, rfl⟩))))))) _ (Or.inr (Or.inr (Or.inr (Or.inr (Or.inr (Or.inr (Or.inl ⟨rfl, rfl, rfl⟩))))))) ?_)
    have : (vkd x == 2) = (x' == vof 2 0) := by
      rw [Bool.eq_iff_iff, beq_iff_eq, beq_iff_eq]
      exact vr_c0 (k := 2) (by decide) r1
    rw [this]
    exact tru_vr _
  · by_cases c : vkd x = 1
    · have e := (vr_lt6 (k := 1) (by decide) r1 c).1
      subst e
      by_cases c2 : out.length < 1000
      · right
        exact ⟨pm, ty, 0, 0, F, ce, inp, out ++ [x.toInt32], pa, Or.inr (Or.inr (Or.inr (Or.inr (Or.inr (Or.inr (Or.inr (Or.inl ⟨rfl, c, c2, rfl, rfl⟩))))))), Or.inr (Or.inr (Or.inr (Or.inr (Or.inr (Or.inr (Or.inr (Or.inl ⟨rfl, c, c2, rfl, rfl⟩))))))), vr_0 _, cor, dl_rf _, by simp; omega⟩
      · exact Or.inl ⟨3, by decide, Or.inr (Or.inr (Or.inr (Or.inr (Or.inr (Or.inr ⟨rfl, c, by omega, rfl⟩))))), Or.inr (Or.inr (Or.inr (Or.inr (Or.inr (Or.inr ⟨rfl, c, by omega, rfl⟩)))))⟩
    · exact Or.inl ⟨13, by decide, Or.inr (Or.inl ⟨rfl, c, rfl⟩), Or.inr (Or.inl ⟨rfl, k1 ▸ c, rfl⟩)⟩
  · by_cases c : ce + 1 ≤ 40000
    · right
      have z := cor.2.2.2.2.2.2.2
      refine ⟨pm ++ [F.length], _, _, _, F ++ [x, y], ce + 1, inp, out, pa ++ [(x', y')], Or.inr (Or.inr (Or.inr (Or.inr (Or.inr (Or.inr (Or.inr (Or.inr (Or.inl ⟨rfl, c, rfl, rfl⟩)))))))), Or.inr (Or.inr (Or.inr (Or.inr (Or.inr (Or.inr (Or.inr (Or.inr (Or.inl ⟨rfl, c, rfl, rfl⟩)))))))), ?_, cor_pair cor c r1 r2, dl_pm _ _ _, ho⟩
      obtain ⟨z1, z2, z3, z4, z5, z6, z7⟩ := z
      refine Or.inr (Or.inl ⟨pm.length, ⟨by simp [Dv], ?_⟩, ?_, by rw [z4]⟩)
      · simp [Dv, List.getD]; omega
      · simp [Dv, List.getD]
    · exact Or.inl ⟨16, by decide, Or.inr (Or.inr (Or.inr (Or.inr (Or.inl ⟨rfl, c, rfl⟩)))), Or.inr (Or.inr (Or.inr (Or.inr (Or.inl ⟨rfl, c, rfl⟩))))⟩
  · rcases vr_pr cor r1 with ⟨c, c'⟩ | ⟨j, a, u, v, p, q, e1, e2, e3, e4, e5, e6, e7, e8, e9, e10, e11⟩
    · exact Or.inl ⟨13, by decide, Or.inl ⟨Or.inr (Or.inr (Or.inl rfl)), c, rfl⟩, Or.inl ⟨Or.inr (Or.inr (Or.inl rfl)), c', rfl⟩⟩
    · right
      have h := cor_alt cor e1 e2 e7 e8 e9 r2 e11
      rw [set_same (g_set e8 (by omega))] at h
      exact ⟨pm, ty, 0, 0, F.set a y, ce, inp, out, pa.set j (y', q), Or.inr (Or.inr (Or.inr (Or.inr (Or.inr (Or.inr (Or.inr (Or.inr (Or.inr (Or.inl ⟨rfl, a, g_lt e7, e5, rfl, rfl⟩))))))))), Or.inr (Or.inr (Or.inr (Or.inr (Or.inr (Or.inr (Or.inr (Or.inr (Or.inr (Or.inl ⟨rfl, j, p, q, e6, e4, e9, rfl, rfl⟩))))))))), vr_0 _, h, dl_rf _, ho⟩
  · rcases vr_pr cor r1 with ⟨c, c'⟩ | ⟨j, a, u, v, p, q, e1, e2, e3, e4, e5, e6, e7, e8, e9, e10, e11⟩
    · exact Or.inl ⟨13, by decide, Or.inl ⟨Or.inr (Or.inr (Or.inr rfl)), c, rfl⟩, Or.inl ⟨Or.inr (Or.inr (Or.inr rfl)), c', rfl⟩⟩
    · right
      have h := cor_alt cor e1 e2 e7 e8 e9 e10 r2
      rw [set_same e7] at h
      exact ⟨pm, ty, 0, 0, F.set (a + 1) y, ce, inp, out, pa.set j (p, y'), Or.inr (Or.inr (Or.inr (Or.inr (Or.inr (Or.inr (Or.inr (Or.inr (Or.inr (Or.inr (Or.inl ⟨rfl, a, g_lt e8, e5, rfl, rfl⟩)))))))))), Or.inr (Or.inr (Or.inr (Or.inr (Or.inr (Or.inr (Or.inr (Or.inr (Or.inr (Or.inr (Or.inl ⟨rfl, j, p, q, e6, e4, e9, rfl, rfl⟩)))))))))), vr_0 _, h, dl_rf _, ho⟩
  · refine Or.inr (same _ (Or.inr (Or.inr (Or.inr (Or.inr (Or.inr (Or.inr (Or.inr (Or.inr (Or.inr (Or.inr (Or.inr (Or.inl ⟨rfl, rfl, rfl⟩)))))))))))) _ (Or.inr (Or.inr (Or.inr (Or.inr (Or.inr (Or.inr (Or.inr (Or.inr (Or.inr (Or.inr (Or.inr (Or.inl ⟨rfl, rfl, rfl⟩)))))))))))) ?_)
    have : (x == y) = (x' == y') := by
      rw [Bool.eq_iff_iff, beq_iff_eq, beq_iff_eq]
      exact vr_eq (cor_vj cor) r1 r2
    rw [this]
    exact tru_vr _
  · by_cases c : vkd x = 1 ∧ vkd y = 1
    · have e := (vr_lt6 (k := 1) (by decide) r1 c.1).1
      have e2 := (vr_lt6 (k := 1) (by decide) r2 c.2).1
      subst e e2
      by_cases c2 : (i = 15 ∨ i = 16) ∧ y.toInt32 = 0
      · exact Or.inl ⟨14, by decide, Or.inr (Or.inr (Or.inr (Or.inl ⟨c2.1, c.1, c.2, c2.2, rfl⟩))), Or.inr (Or.inr (Or.inr (Or.inl ⟨c2.1, c.1, c.2, c2.2, rfl⟩)))⟩
      · exact Or.inr (same _ (Or.inr (Or.inr (Or.inr (Or.inr (Or.inr (Or.inr (Or.inr (Or.inr (Or.inr (Or.inr (Or.inr (Or.inr (Or.inl ⟨h1, h2, c.1, c.2, fun q q2 => c2 ⟨q, q2⟩, rfl, rfl⟩))))))))))))) _ (Or.inr (Or.inr (Or.inr (Or.inr (Or.inr (Or.inr (Or.inr (Or.inr (Or.inr (Or.inr (Or.inr (Or.inr (Or.inl ⟨h1, h2, c.1, c.2, fun q q2 => c2 ⟨q, q2⟩, rfl, rfl⟩))))))))))))) (rck_vr _ _ _))
    · have c' : vkd x ≠ 1 ∨ vkd y ≠ 1 := by
        by_cases c3 : vkd x = 1
        · exact Or.inr fun c4 => c ⟨c3, c4⟩
        · exact Or.inl c3
      exact Or.inl ⟨13, by decide, Or.inr (Or.inr (Or.inl ⟨h1, h2, c', rfl⟩)), Or.inr (Or.inr (Or.inl ⟨h1, h2, by rw [← k1, ← k2]; exact c', rfl⟩))⟩
  · cases inp with
    | nil => exact Or.inl ⟨2, by decide, Or.inr (Or.inr (Or.inr (Or.inr (Or.inr (Or.inl ⟨rfl, rfl, rfl⟩))))), Or.inr (Or.inr (Or.inr (Or.inr (Or.inr (Or.inl ⟨rfl, rfl, rfl⟩)))))⟩
    | cons c t => exact Or.inr ⟨pm, ty, vof 1 c, vof 1 c, F, ce, t, out, pa, Or.inr (Or.inr (Or.inr (Or.inr (Or.inr (Or.inr (Or.inr (Or.inr (Or.inr (Or.inr (Or.inr (Or.inr (Or.inr ⟨rfl, c, t, rfl, rfl, rfl⟩)))))))))))), Or.inr (Or.inr (Or.inr (Or.inr (Or.inr (Or.inr (Or.inr (Or.inr (Or.inr (Or.inr (Or.inr (Or.inr (Or.inr ⟨rfl, c, t, rfl, rfl, rfl⟩)))))))))))), vr_cst (k := 1) (by decide) (Or.inr (Or.inl rfl)), cor, dl_rf _, ho⟩
end PRM
