/-! the stores keep their relation -/
theorem nI9 : (9 : Int32) = nI 9 := rfl
theorem nI10 : (10 : Int32) = nI 10 := rfl
theorem vr_kd {D : VD} {v w : Int64} (r : VR D v w) : vkd v = vkd w ∧ vkd v ≠ 9 ∧ vkd v ≠ 10 := by
  rcases r with ⟨k, c, k1, rfl, rfl, k2⟩ | ⟨i, i1, rfl, rfl⟩ | ⟨i, i1, rfl, rfl⟩ | ⟨i, i1, rfl, rfl⟩ <;> simp only [vof_kd]
  · refine ⟨trivial, fun e => ?_, fun e => ?_⟩
    · have := nI_inj (a := k) (b := 9) (by omega) (by omega) e; omega
    · have := nI_inj (a := k) (b := 10) (by omega) (by omega) e; omega
  all_goals exact ⟨trivial, by decide, by decide⟩
theorem vu_10 {D : VD} {v w : Int64} (r : VU D v w) : vkd v ≠ 10 := by
  rcases r with r | ⟨rfl, rfl⟩
  · exact (vr_kd r).2.2
  · rw [vof_kd]; decide
theorem vu_9 {D : VD} {v w : Int64} (r : VU D v w) : (vkd v = 9 ∧ w = vof 9 0) ∨ (vkd v ≠ 9 ∧ w ≠ vof 9 0 ∧ VR D v w) := by
  rcases r with r | ⟨rfl, rfl⟩
  · refine Or.inr ⟨(vr_kd r).2.1, fun e => ?_, r⟩
    have := (vr_kd r).1
    rw [e, vof_kd] at this
    exact (vr_kd r).2.1 this
  · exact Or.inl ⟨vof_kd _ _, rfl⟩
theorem g_lt {α : Type} {l : List α} {i : Nat} {x : α} (e : l[i]? = some x) : i < l.length := (List.getElem?_eq_some_iff.mp e).1
theorem g_app {α : Type} {l m : List α} {i : Nat} {x : α} (e : l[i]? = some x) : (l ++ m)[i]? = some x := by rw [List.getElem?_append_left (g_lt e)]; exact e
theorem g_set {α : Type} {l : List α} {i j : Nat} {x y : α} (e : l[i]? = some x) (q : i ≠ j) : (l.set j y)[i]? = some x := by rw [List.getElem?_set_ne (Ne.symm q)]; exact e
theorem g_seteq {α : Type} {l : List α} {i : Nat} {y : α} (q : i < l.length) : (l.set i y)[i]? = some y := by simp [q]
theorem g_some {α : Type} {l : List α} {i : Nat} (q : i < l.length) : ∃ x, l[i]? = some x := ⟨l[i], by simp [q]⟩
section COR
variable {G : PG} {qv : Nat → Int64} {pm : List Nat} {pl : List (Nat × Nat)} {ty : TY} {s : List Int64} {sh : List Nat} {wk F : List Int64} {ce : Nat} {gc bx : List Int64} {ps : List (Nat × List Nat)} {pa : List (Int64 × Int64)} {gr : List Int64}
theorem hst_app {D : VD} {s2 : List Int64} {sh2 : List Nat} (h : Hst D s sh ty bx) (q : s.length = sh.length) (h2 : ∀ c, c ∈ sh2 → c < 2) : Hst D (s ++ s2) (sh ++ sh2) ty bx := by
  have old : ∀ P b : Nat, (sh ++ sh2)[P]? = some (b + 2) → sh[P]? = some (b + 2) := fun P b e => by
    by_cases c : P < sh.length
    · rw [List.getElem?_append_left c] at e; exact e
    · rw [List.getElem?_append_right (by omega)] at e
      have := h2 _ (List.mem_of_getElem? e)
      omega
  refine ⟨fun P b e => ?_, fun P P' b e e' => h.2 P P' b (old P b e) (old P' b e')⟩
  obtain ⟨x, w, g1, g2, g3⟩ := h.1 P b (old P b e)
  exact ⟨x, w, g_app g1, g2, g3⟩
theorem hst_drop {D : VD} {s2 : List Int64} {sh2 : List Nat} (h : Hst D (s ++ s2) (sh ++ sh2) ty bx) (q : s.length = sh.length) : Hst D s sh ty bx := by
  refine ⟨fun P b e => ?_, fun P P' b e e' => h.2 P P' b (g_app e) (g_app e')⟩
  obtain ⟨x, w, g1, g2, g3⟩ := h.1 P b (g_app e)
  rw [List.getElem?_append_left (by have := g_lt e; omega)] at g1
  exact ⟨x, w, g1, g2, g3⟩
theorem cor_app {s2 : List Int64} {sh2 : List Nat} {wk2 : List Int64} (h : Cor G qv pm pl ty s sh wk F ce gc bx ps pa gr) (h2 : ∀ c, c ∈ sh2 → c < 2) (w : Wks (Dv pm pl) s2 sh2 wk2) : Cor G qv pm pl ty (s ++ s2) (sh ++ sh2) (wk ++ wk2) F ce gc bx ps pa gr := by
  obtain ⟨c1, c2, c3, c4, c5, c6, c7, c8⟩ := h
  exact ⟨c1, c2, c3, hst_app c4 (wks_len c5) h2, wks_app c5 w, c6, c7, c8⟩
theorem cor_push {v w : Int64} (h : Cor G qv pm pl ty s sh wk F ce gc bx ps pa gr) (r : VR (Dv pm pl) v w) : Cor G qv pm pl ty (s ++ [v]) (sh ++ [0]) (wk ++ [w]) F ce gc bx ps pa gr :=
  cor_app h (by simp) (Or.inl ⟨rfl, w, [], rfl, r, rfl⟩)
theorem cor_drop {s2 : List Int64} {sh2 : List Nat} (h : Cor G qv pm pl ty (s ++ s2) (sh ++ sh2) wk F ce gc bx ps pa gr) (q : s.length = sh.length) : ∃ w1 w2, wk = w1 ++ w2 ∧ Cor G qv pm pl ty s sh w1 F ce gc bx ps pa gr ∧ Wks (Dv pm pl) s2 sh2 w2 := by
  obtain ⟨c1, c2, c3, c4, c5, c6, c7, c8⟩ := h
  obtain ⟨w1, w2, e, g1, g2⟩ := wks_spl q c5
  exact ⟨w1, w2, e, ⟨c1, c2, c3, hst_drop c4 q, g1, c6, c7, c8⟩, g2⟩
/-- a binding of the heap is set -/
theorem cor_setH {m b : Nat} {x w : Int64} (h : Cor G qv pm pl ty s sh wk F ce gc bx ps pa gr) (e : ty[m]? = some (3, b)) (r : VU (Dv pm pl) x w) : Cor G qv pm pl ty s sh wk (F.set m x) ce gc (bx.set b w) ps pa gr := by
  obtain ⟨c1, c2, c3, c4, c5, c6, c7, c8⟩ := h
  have ne : ∀ {a : Nat} {t : Nat × Nat}, ty[a]? = some t → t.1 ≠ 3 → a ≠ m := fun q n c => by
    rw [c, e] at q
    injection q with q
    exact n (by rw [← q])
  obtain ⟨x0, w0, f1, f2, f3⟩ := c3.1 m b e
  refine ⟨fun i a p1 p2 => ?_, fun i a L p => ?_, ⟨fun m' b' e' => ?_, c3.2⟩, ⟨fun P b' e' => ?_, c4.2⟩, c5, c6, c7, ?_⟩
  · obtain ⟨t1, t2, x, y, u, v, g1, g2, g3, g4, g5⟩ := c1 i a p1 p2
    exact ⟨t1, t2, x, y, u, v, g_set g1 (ne t1 (by simp)), g_set g2 (ne t2 (by simp)), g3, g4, g5⟩
  · obtain ⟨l1, l2, t1, g1, ks, g2, g3, g4⟩ := c2 i a L p
    refine ⟨l1, l2, t1, g_set g1 (ne t1 (by simp)), ks, g2, g3, fun k hk => ?_⟩
    obtain ⟨t2, m', b', g5, g6, g7⟩ := g4 k hk
    exact ⟨t2, m', b', g_set g5 (ne t2 (by simp; omega)), g6, g7⟩
  · by_cases c : b' = b
    · subst c
      have := c3.2 m' m b' e' e
      subst this
      exact ⟨x, w, g_seteq (g_lt f1), g_seteq (g_lt f2), r⟩
    · obtain ⟨x1, w1, g1, g2, g3⟩ := c3.1 m' b' e'
      refine ⟨x1, w1, g_set g1 (fun q => c ?_), g_set g2 c, g3⟩
      rw [q, e] at e'
      injection e' with e'
      injection e' with _ e'
      exact e'.symm
  · obtain ⟨x1, w1, g1, g2, g3⟩ := c4.1 P b' e'
    by_cases c : b' = b
    · subst c
      refine ⟨x1, w, g1, g_seteq (g_lt f2), ?_⟩
      rcases g3 with ⟨m', e1, e2⟩ | ⟨_, g4⟩
      · exact Or.inl ⟨m', e1, e2⟩
      · exact absurd e (g4 m)
    · exact ⟨x1, w1, g1, g_set g2 c, g3⟩
  · simpa [Hsz] using c8
/-- a slot is set -/
theorem cor_setS {P b : Nat} {x w : Int64} (h : Cor G qv pm pl ty s sh wk F ce gc bx ps pa gr) (e : sh[P]? = some (b + 2)) (r : VU (Dv pm pl) x w) : ∃ s' F', Sts P x s F s' F' ∧ Cor G qv pm pl ty s' sh wk F' ce gc (bx.set b w) ps pa gr := by
  have h0 := h
  obtain ⟨c1, c2, c3, c4, c5, c6, c7, c8⟩ := h
  obtain ⟨x0, w0, f1, f2, f3⟩ := c4.1 P b e
  rcases f3 with ⟨m, e1, e2⟩ | ⟨f3, f4⟩
  · obtain ⟨y, _, k1, _, _⟩ := c3.1 m b e2
    have := g_lt k1
    obtain ⟨z1, z2, z3, _⟩ := c8
    exact ⟨s, F.set m x, ⟨x0, f1, Or.inr ⟨m, by omega, e1, this, rfl, rfl⟩⟩, cor_setH h0 e2 r⟩
  · refine ⟨s.set P x, F, ⟨x0, f1, Or.inl ⟨vu_10 f3, rfl, rfl⟩⟩, c1, c2, ⟨fun m' b' e' => ?_, c3.2⟩, ⟨fun P' b' e' => ?_, c4.2⟩, wks_set c5 e (by omega), c6, c7, c8⟩
    · obtain ⟨x1, w1, g1, g2, g3⟩ := c3.1 m' b' e'
      exact ⟨x1, w1, g1, g_set g2 (fun q => f4 m' (q ▸ e')), g3⟩
    · by_cases c : b' = b
      · subst c
        have := c4.2 P' P b' e' e
        subst this
        exact ⟨x, w, g_seteq (g_lt f1), g_seteq (g_lt f2), Or.inr ⟨r, f4⟩⟩
      · obtain ⟨x1, w1, g1, g2, g3⟩ := c4.1 P' b' e'
        refine ⟨x1, w1, g_set g1 (fun q => c ?_), g_set g2 c, g3⟩
        rw [q, e] at e'
        injection e' with e'
        omega
theorem cor_setG {g : Nat} {x w : Int64} (h : Cor G qv pm pl ty s sh wk F ce gc bx ps pa gr) (r : VU (Dv pm pl) x w) : Cor G qv pm pl ty s sh wk F ce (gc.set g x) bx ps pa (gr.set g w) := by
  obtain ⟨c1, c2, c3, c4, c5, ⟨g1, g2, g3, g4⟩, c7, c8⟩ := h
  refine ⟨c1, c2, c3, c4, c5, ⟨by simp [g1], by simp [g2], g3, fun k hk => ?_⟩, c7, c8⟩
  obtain ⟨x1, w1, e1, e2, e3⟩ := g4 k hk
  by_cases c : k = g
  · subst c
    exact ⟨x, w, g_seteq (by omega), g_seteq (by omega), r⟩
  · exact ⟨x1, w1, g_set e1 c, g_set e2 c, e3⟩
/-- new bindings on the stack -/
def nbx (b k : Nat) : List Nat := (List.range k).map (fun i => b + i + 2)
def Vus (D : VD) : List Int64 → List Int64 → Prop
  | [], [] => True
  | x :: s, w :: wk => VU D x w ∧ Vus D s wk
  | _, _ => False
theorem vus_get {D : VD} : ∀ {s wk : List Int64} {i : Nat}, Vus D s wk → i < s.length → ∃ x w, s[i]? = some x ∧ wk[i]? = some w ∧ VU D x w
  | _ :: _, _ :: _, 0, h, _ => ⟨_, _, rfl, rfl, h.1⟩
  | _ :: _, _ :: _, i + 1, h, e => by
    simp only [List.getElem?_cons_succ]
    exact vus_get h.2 (by simpa using e)
  | [], _, _, _, e => by simp at e
  | _ :: _, [], _, h, _ => h.elim
theorem vus_len {D : VD} : ∀ {s wk : List Int64}, Vus D s wk → s.length = wk.length
  | [], [], _ => rfl
  | _ :: _, _ :: _, h => by simp [vus_len h.2]
  | [], _ :: _, h => h.elim
  | _ :: _, [], h => h.elim
theorem vus_of {D : VD} : ∀ {s wk : List Int64}, Vrs D s wk → Vus D s wk
  | [], [], _ => trivial
  | _ :: _, _ :: _, h => ⟨Or.inl h.1, vus_of h.2⟩
  | [], _ :: _, h => h.elim
  | _ :: _, [], h => h.elim
theorem vus_rep (D : VD) : ∀ k, Vus D (List.replicate k (vof 9 0)) (List.replicate k (vof 9 0))
  | 0 => trivial
  | k + 1 => by rw [List.replicate_succ]; exact ⟨Or.inr ⟨rfl, rfl⟩, vus_rep D k⟩
theorem nbx_get {b k i : Nat} (h : i < k) : (nbx b k)[i]? = some (b + i + 2) := by simp [nbx, h]
theorem nbx_inv {b k i c : Nat} (h : (nbx b k)[i]? = some c) : i < k ∧ c = b + i + 2 := by
  have h1 := g_lt h
  simp only [nbx, List.length_map, List.length_range] at h1
  rw [nbx_get h1] at h
  injection h with h
  exact ⟨h1, h.symm⟩
theorem wks_new {D : VD} : ∀ (xs : List Int64) (l : List Nat), xs.length = l.length → (∀ c, c ∈ l → c ≠ 0) → Wks D xs l []
  | [], [], _, _ => rfl
  | _ :: xs, c :: l, q, h => Or.inr ⟨h c (by simp), wks_new xs l (by simpa using q) (fun c hc => h c (by simp [hc]))⟩
  | [], _ :: _, q, _ => by simp at q
  | _ :: _, [], q, _ => by simp at q
theorem cor_new {xs ws : List Int64} (h : Cor G qv pm pl ty s sh wk F ce gc bx ps pa gr) (r : Vus (Dv pm pl) xs ws) : Cor G qv pm pl ty (s ++ xs) (sh ++ nbx bx.length xs.length) wk F ce gc (bx ++ ws) ps pa gr := by
  obtain ⟨c1, c2, c3, c4, c5, c6, c7, c8⟩ := h
  have q := wks_len c5
  have old : ∀ P b : Nat, (sh ++ nbx bx.length xs.length)[P]? = some (b + 2) → (P < sh.length ∧ sh[P]? = some (b + 2) ∧ b < bx.length) ∨ (sh.length ≤ P ∧ P - sh.length < xs.length ∧ b = bx.length + (P - sh.length)) := fun P b e => by
    by_cases c : P < sh.length
    · rw [List.getElem?_append_left c] at e
      obtain ⟨_, _, _, g, _⟩ := c4.1 P b e
      exact Or.inl ⟨c, e, g_lt g⟩
    · rw [List.getElem?_append_right (by omega)] at e
      have := nbx_inv e
      exact Or.inr ⟨by omega, this.1, by omega⟩
  refine ⟨c1, c2, ⟨fun m b e => ?_, c3.2⟩, ⟨fun P b e => ?_, fun P P' b e e' => ?_⟩, ?_, c6, c7, c8⟩
  · obtain ⟨x, w, g1, g2, g3⟩ := c3.1 m b e
    exact ⟨x, w, g1, g_app g2, g3⟩
  · rcases old P b e with ⟨_, e1, _⟩ | ⟨p1, p2, rfl⟩
    · obtain ⟨x, w, g1, g2, g3⟩ := c4.1 P b e1
      exact ⟨x, w, g_app g1, g_app g2, g3⟩
    · obtain ⟨x, w, g1, g2, g3⟩ := vus_get r p2
      refine ⟨x, w, ?_, ?_, Or.inr ⟨g3, fun m e2 => ?_⟩⟩
      · rw [List.getElem?_append_right (by omega), q]; exact g1
      · rw [List.getElem?_append_right (by omega), Nat.add_sub_cancel_left]; exact g2
      · obtain ⟨_, _, _, g, _⟩ := c3.1 m _ e2
        have := g_lt g
        omega
  · rcases old P b e with ⟨_, e1, h1⟩ | ⟨p1, p2, h1⟩ <;> rcases old P' b e' with ⟨_, e2, h2⟩ | ⟨p3, p4, h2⟩
    · exact c4.2 P P' b e1 e2
    · omega
    · omega
    · omega
  · have := wks_app c5 (wks_new (D := Dv pm pl) xs (nbx bx.length xs.length) (by simp [nbx]) (by simp [nbx]))
    rwa [List.append_nil] at this
/-- a new pair -/
theorem cor_pair {x y u v : Int64} (h : Cor G qv pm pl ty s sh wk F ce gc bx ps pa gr) (hc : ce + 1 ≤ 40000) (r : VR (Dv pm pl) x u) (r2 : VR (Dv pm pl) y v) : Cor G qv (pm ++ [F.length]) pl (ty ++ [(0, pm.length), (1, pm.length)]) s sh wk (F ++ [x, y]) (ce + 1) gc bx ps (pa ++ [(u, v)]) gr := by
  obtain ⟨c1, c2, c3, c4, c5, ⟨g1, g2, g3, g4⟩, c7, ⟨z1, z2, z3, z4, z5, z6, z7⟩⟩ := h
  have dl := dl_pm pm [F.length] pl
  have oty : ∀ {a : Nat} {t : Nat × Nat}, (ty ++ [(0, pm.length), (1, pm.length)])[a]? = some t → 2 ≤ t.1 → ty[a]? = some t := fun {a t} e n => by
    by_cases c : a < ty.length
    · rw [List.getElem?_append_left c] at e; exact e
    · rw [List.getElem?_append_right (by omega)] at e
      have := List.mem_of_getElem? e
      simp only [List.mem_cons, List.not_mem_nil, or_false] at this
      rcases this with rfl | rfl <;> simp at n
  refine ⟨fun i a p1 p2 => ?_, fun i a L p => ?_, ⟨fun m b e => ?_, fun m m' b e e' => c3.2 m m' b (oty e (by simp)) (oty e' (by simp))⟩, ⟨fun P b e => ?_, c4.2⟩, wks_mono dl c5, ⟨g1, g2, g3, fun g hg => ?_⟩, hqv_mono dl c7, ?_⟩
  · by_cases c : i < pm.length
    · rw [List.getElem?_append_left c] at p1
      obtain ⟨t1, t2, x, y, u, v, g1, g2, g3, g4, g5⟩ := c1 i a p1 p2
      exact ⟨g_app t1, g_app t2, x, y, u, v, g_app g1, g_app g2, g_app g3, vr_mono dl g4, vr_mono dl g5⟩
    · have hi : i = pm.length := by
        have := g_lt p1
        simp at this
        omega
      subst hi
      rw [List.getElem?_append_right (Nat.le_refl _), Nat.sub_self] at p1
      simp only [List.getElem?_cons_zero, Option.some.injEq] at p1
      subst p1
      refine ⟨?_, ?_, x, y, u, v, ?_, ?_, ?_, vr_mono dl r, vr_mono dl r2⟩
      · rw [List.getElem?_append_right (by omega), z1, Nat.sub_self]; rfl
      · rw [List.getElem?_append_right (by omega), z1, Nat.add_sub_cancel_left]; rfl
      · rw [List.getElem?_append_right (by omega), Nat.sub_self]; rfl
      · rw [List.getElem?_append_right (by omega), Nat.add_sub_cancel_left]; rfl
      · rw [List.getElem?_append_right (by omega), z4, Nat.sub_self]; rfl
  · obtain ⟨l1, l2, t1, g1, ks, g2, g3, g4⟩ := c2 i a L p
    refine ⟨l1, l2, g_app t1, g_app g1, ks, g2, g3, fun k hk => ?_⟩
    obtain ⟨t2, m', b', g5, g6, g7⟩ := g4 k hk
    exact ⟨g_app t2, m', b', g_app g5, g_app g6, g7⟩
  · obtain ⟨x, w, k1, k2, k3⟩ := c3.1 m b (oty e (by simp))
    exact ⟨x, w, g_app k1, k2, vu_mono dl k3⟩
  · obtain ⟨x, w, k1, k2, k3⟩ := c4.1 P b e
    refine ⟨x, w, k1, k2, ?_⟩
    rcases k3 with ⟨m, e1, e2⟩ | ⟨k3, k4⟩
    · exact Or.inl ⟨m, e1, g_app e2⟩
    · exact Or.inr ⟨vu_mono dl k3, fun m e2 => k4 m (oty e2 (by simp))⟩
  · obtain ⟨x, w, k1, k2, k3⟩ := g4 g hg
    exact ⟨x, w, k1, k2, vu_mono dl k3⟩
  · simp only [Hsz, List.length_append, List.length_cons, List.length_nil]
    omega
/-- a pair is altered -/
theorem cor_alt {i a : Nat} {x y u v x' y' u' v' : Int64} (h : Cor G qv pm pl ty s sh wk F ce gc bx ps pa gr) (e : pm[i]? = some a) (ha : a < 10000000) (f1 : F[a]? = some x) (f2 : F[a + 1]? = some y) (f3 : pa[i]? = some (u, v)) (r1 : VR (Dv pm pl) x' u') (r2 : VR (Dv pm pl) y' v') : Cor G qv pm pl ty s sh wk ((F.set a x').set (a + 1) y') ce gc bx ps (pa.set i (u', v')) gr := by
  obtain ⟨c1, c2, c3, c4, c5, c6, c7, c8⟩ := h
  obtain ⟨t1, t2, _⟩ := c1 i a e ha
  have ne : ∀ {k : Nat} {t : Nat × Nat}, ty[k]? = some t → t ≠ (0, i) → t ≠ (1, i) → k ≠ a ∧ k ≠ a + 1 := fun q n1 n2 => by
    refine ⟨fun c => ?_, fun c => ?_⟩
    · rw [c, t1] at q; injection q with q; exact n1 q.symm
    · rw [c, t2] at q; injection q with q; exact n2 q.symm
  have gs : ∀ {k : Nat} {t : Nat × Nat} {z : Int64}, ty[k]? = some t → t ≠ (0, i) → t ≠ (1, i) → F[k]? = some z → ((F.set a x').set (a + 1) y')[k]? = some z := fun q n1 n2 e => g_set (g_set e (ne q n1 n2).1) (ne q n1 n2).2
  refine ⟨fun j b p1 p2 => ?_, fun j b L p => ?_, ⟨fun m b e => ?_, c3.2⟩, c4, c5, c6, c7, ?_⟩
  · obtain ⟨k1, k2, x0, y0, u0, v0, g1, g2, g3, g4, g5⟩ := c1 j b p1 p2
    by_cases c : j = i
    · subst c
      rw [e] at p1
      injection p1 with p1
      subst p1
      refine ⟨k1, k2, x', y', u', v', g_set (g_seteq (g_lt f1)) (by omega), g_seteq (by simpa using g_lt f2), g_seteq (g_lt f3), r1, r2⟩
    · exact ⟨k1, k2, x0, y0, u0, v0, gs k1 (by simp [c]) (by simp) g1, gs k2 (by simp) (by simp [c]) g2, g_set g3 c, g4, g5⟩
  · obtain ⟨l1, l2, k1, g1, ks, g2, g3, g4⟩ := c2 j b L p
    refine ⟨l1, l2, k1, gs k1 (by simp) (by simp) g1, ks, g2, g3, fun k hk => ?_⟩
    obtain ⟨k2, m', b', g5, g6, g7⟩ := g4 k hk
    exact ⟨k2, m', b', gs k2 (by simp) (by simp; omega) g5, g6, g7⟩
  · obtain ⟨x, w, k1, k2, k3⟩ := c3.1 m b e
    exact ⟨x, w, gs e (by simp) (by simp) k1, k2, k3⟩
  · simpa [Hsz] using c8
end COR
