/-! a procedure closes over bindings -/
theorem i64_32 (x : Int32) : x.toInt64.toInt32 = x := by simp
section CLO
variable {G : PG} {qv : Nat → Int64} {pm : List Nat} {pl : List (Nat × Nat)} {ty : TY} {s : List Int64} {sh : List Nat} {wk F : List Int64} {ce : Nat} {gc bx : List Int64} {ps : List (Nat × List Nat)} {pa : List (Int64 × Int64)} {gr : List Int64}
/-- more fields, none of them a binding -/
theorem cor_ext {ce' : Nat} {F2 : List Int64} {t2 : TY} (h : Cor G qv pm pl ty s sh wk F ce gc bx ps pa gr) (q : F2.length = t2.length) (h2 : ∀ t, t ∈ t2 → t.1 ≠ 3) (hc : ce ≤ ce') (hc2 : ce' ≤ 40000) (hF : F.length + F2.length ≤ 13000 + 3 * ce') : Cor G qv pm pl (ty ++ t2) s sh wk (F ++ F2) ce' gc bx ps pa gr := by
  obtain ⟨c1, c2, c3, c4, c5, c6, c7, ⟨z1, z2, z3, z4, z5, z6, z7⟩⟩ := h
  have oty : ∀ {a : Nat} {b : Nat}, (ty ++ t2)[a]? = some (3, b) → ty[a]? = some (3, b) := fun {a b} e => by
    by_cases c : a < ty.length
    · rw [List.getElem?_append_left c] at e; exact e
    · rw [List.getElem?_append_right (by omega)] at e
      exact absurd rfl (h2 _ (List.mem_of_getElem? e))
  refine ⟨fun i a p1 p2 => ?_, fun i a L p => ?_, ⟨fun m b e => ?_, fun m m' b e e' => c3.2 m m' b (oty e) (oty e')⟩, ⟨fun P b e => ?_, c4.2⟩, c5, c6, c7, ?_⟩
  · obtain ⟨t1, t2, x, y, u, v, g1, g2, g3, g4, g5⟩ := c1 i a p1 p2
    exact ⟨g_app t1, g_app t2, x, y, u, v, g_app g1, g_app g2, g3, g4, g5⟩
  · obtain ⟨l1, l2, t1, g1, ks, g2, g3, g4⟩ := c2 i a L p
    refine ⟨l1, l2, g_app t1, g_app g1, ks, g2, g3, fun k hk => ?_⟩
    obtain ⟨t2, m', b', g5, g6, g7⟩ := g4 k hk
    exact ⟨g_app t2, m', b', g_app g5, g_app g6, g7⟩
  · obtain ⟨x, w, k1, k2, k3⟩ := c3.1 m b (oty e)
    exact ⟨x, w, g_app k1, k2, k3⟩
  · obtain ⟨x, w, k1, k2, k3⟩ := c4.1 P b e
    refine ⟨x, w, k1, k2, ?_⟩
    rcases k3 with ⟨m, e1, e2⟩ | ⟨k3, k4⟩
    · exact Or.inl ⟨m, e1, g_app e2⟩
    · exact Or.inr ⟨k3, fun m e2 => k4 m (oty e2)⟩
  · simp only [Hsz, List.length_append]
    omega
/-- a field of a procedure that is not there yet is set -/
theorem cor_put {f : Nat} {t : Nat × Nat} {x : Int64} (h : Cor G qv pm pl ty s sh wk F ce gc bx ps pa gr) (e : ty[f]? = some t) (h1 : 4 ≤ t.1) (h2 : pl.length ≤ t.2) : Cor G qv pm pl ty s sh wk (F.set f x) ce gc bx ps pa gr := by
  obtain ⟨c1, c2, c3, c4, c5, c6, c7, c8⟩ := h
  have ne : ∀ {k : Nat} {u : Nat × Nat} {z : Int64}, ty[k]? = some u → u ≠ t → F[k]? = some z → (F.set f x)[k]? = some z := fun q n g => g_set g (fun c => by
    rw [c, e] at q
    injection q with q
    exact n q.symm)
  refine ⟨fun i a p1 p2 => ?_, fun i a L p => ?_, ⟨fun m b e => ?_, c3.2⟩, c4, c5, c6, c7, ?_⟩
  · obtain ⟨t1, t2, x, y, u, v, g1, g2, g3, g4, g5⟩ := c1 i a p1 p2
    exact ⟨t1, t2, x, y, u, v, ne t1 (fun c => by rw [← c] at h1; simp at h1) g1, ne t2 (fun c => by rw [← c] at h1; simp at h1) g2, g3, g4, g5⟩
  · obtain ⟨l1, l2, t1, g1, ks, g2, g3, g4⟩ := c2 i a L p
    have hi := g_lt p
    refine ⟨l1, l2, t1, ne t1 (fun c => by rw [← c] at h1; simp at h1) g1, ks, g2, g3, fun k hk => ?_⟩
    obtain ⟨t2, m', b', g5, g6, g7⟩ := g4 k hk
    exact ⟨t2, m', b', ne t2 (fun c => by rw [← c] at h2; simp at h2; omega) g5, g6, g7⟩
  · obtain ⟨x, w, k1, k2, k3⟩ := c3.1 m b e
    exact ⟨x, w, ne e (fun c => by rw [← c] at h1; simp at h1) k1, k2, k3⟩
  · simpa [Hsz] using c8
/-- a binding moves to the heap -/
theorem cor_share {P b : Nat} {x : Int64} (h : Cor G qv pm pl ty s sh wk F ce gc bx ps pa gr) (e : sh[P]? = some (b + 2)) (ex : s[P]? = some x) (hx : vkd x ≠ 10) (hF : F.length + 1 ≤ 13000 + 3 * ce) : Cor G qv pm pl (ty ++ [(3, b)]) (s.set P (vof 10 (nI F.length))) sh wk (F ++ [x]) ce gc bx ps pa gr := by
  obtain ⟨c1, c2, c3, c4, c5, c6, c7, ⟨z1, z2, z3, z4, z5, z6, z7⟩⟩ := h
  obtain ⟨x0, w0, f1, f2, f3⟩ := c4.1 P b e
  rw [ex] at f1
  injection f1 with f1
  subst f1
  have f4 : VU (Dv pm pl) x w0 ∧ ∀ m : Nat, ty[m]? ≠ some (3, b) := by
    rcases f3 with ⟨m, e1, _⟩ | f3
    · rw [e1, vof_kd] at hx; exact absurd rfl hx
    · exact f3
  have oty : ∀ {a : Nat} {b' : Nat}, (ty ++ [(3, b)])[a]? = some (3, b') → ty[a]? = some (3, b') ∨ (a = ty.length ∧ b' = b) := fun {a b'} q => by
    by_cases c : a < ty.length
    · rw [List.getElem?_append_left c] at q; exact Or.inl q
    · have := g_lt q
      simp only [List.length_append, List.length_cons, List.length_nil] at this
      have ha : a = ty.length := by omega
      subst ha
      rw [List.getElem?_append_right (Nat.le_refl _), Nat.sub_self] at q
      simp only [List.getElem?_cons_zero, Option.some.injEq, Prod.mk.injEq, true_and] at q
      exact Or.inr ⟨rfl, q.symm⟩
  refine ⟨fun i a p1 p2 => ?_, fun i a L p => ?_, ⟨fun m b' q => ?_, fun m m' b' q q' => ?_⟩, ⟨fun P' b' q => ?_, c4.2⟩, wks_set c5 e (by omega), c6, c7, ?_⟩
  · obtain ⟨t1, t2, x, y, u, v, g1, g2, g3, g4, g5⟩ := c1 i a p1 p2
    exact ⟨g_app t1, g_app t2, x, y, u, v, g_app g1, g_app g2, g3, g4, g5⟩
  · obtain ⟨l1, l2, t1, g1, ks, g2, g3, g4⟩ := c2 i a L p
    refine ⟨l1, l2, g_app t1, g_app g1, ks, g2, g3, fun k hk => ?_⟩
    obtain ⟨t2, m', b', g5, g6, g7⟩ := g4 k hk
    exact ⟨g_app t2, m', b', g_app g5, g_app g6, g7⟩
  · rcases oty q with q | ⟨rfl, rfl⟩
    · obtain ⟨x, w, k1, k2, k3⟩ := c3.1 m b' q
      exact ⟨x, w, g_app k1, k2, k3⟩
    · exact ⟨x, w0, by rw [z1, List.getElem?_append_right (Nat.le_refl _), Nat.sub_self]; rfl, f2, f4.1⟩
  · rcases oty q with q | ⟨rfl, rfl⟩ <;> rcases oty q' with q' | ⟨rfl, h2⟩
    · exact c3.2 m m' b' q q'
    · exact absurd (h2 ▸ q) (f4.2 m)
    · exact absurd q' (f4.2 m')
    · rfl
  · obtain ⟨x1, w1, k1, k2, k3⟩ := c4.1 P' b' q
    by_cases c : P' = P
    · subst c
      rw [e] at q
      injection q with q
      have q : b = b' := by omega
      subst q
      exact ⟨_, w0, g_seteq (g_lt ex), f2, Or.inl ⟨F.length, rfl, by rw [← z1, List.getElem?_append_right (Nat.le_refl _), Nat.sub_self]; rfl⟩⟩
    · refine ⟨x1, w1, g_set k1 c, k2, ?_⟩
      rcases k3 with ⟨m, e1, e2⟩ | ⟨k3, k4⟩
      · exact Or.inl ⟨m, e1, g_app e2⟩
      · refine Or.inr ⟨k3, fun m e2 => ?_⟩
        rcases oty e2 with e2 | ⟨_, rfl⟩
        · exact k4 m e2
        · exact c (c4.2 P' P b' q e)
  · simp only [Hsz, List.length_append, List.length_cons, List.length_nil]
    omega
/-- the procedure is there -/
theorem cor_fin {a M : Nat} {ks : List Nat} (h : Cor G qv pm pl ty s sh wk F ce gc bx ps pa gr) (l1 : 1 ≤ M) (l2 : M ≤ pLm G) (t1 : ty[a]? = some (2, pl.length)) (g1 : F[a]? = some (nI (M - 1)).toInt64) (g3 : ks.length = pFr G M) (g4 : ∀ k, k < pFr G M → ty[a + 1 + k]? = some (4 + k, pl.length) ∧ ∃ m b : Nat, F[a + 1 + k]? = some (nI m).toInt64 ∧ ty[m]? = some (3, b) ∧ ks[pKp G M k]? = some b) (hc : pl.length + 1 ≤ ce) : Cor G qv pm (pl ++ [(a, M)]) ty s sh wk F ce gc bx (ps ++ [(M, ks)]) pa gr := by
  obtain ⟨c1, c2, c3, c4, c5, ⟨y1, y2, y3, y4⟩, c7, ⟨z1, z2, z3, z4, z5, z6, z7⟩⟩ := h
  have dl := dl_pl pm pl [(a, M)]
  refine ⟨fun i a p1 p2 => ?_, fun i a' L p => ?_, ⟨fun m b e => ?_, c3.2⟩, ⟨fun P b e => ?_, c4.2⟩, wks_mono dl c5, ⟨y1, y2, y3, fun g hg => ?_⟩, hqv_mono dl c7, ?_⟩
  · obtain ⟨t1, t2, x, y, u, v, g1, g2, g3, g4, g5⟩ := c1 i a p1 p2
    exact ⟨t1, t2, x, y, u, v, g1, g2, g3, vr_mono dl g4, vr_mono dl g5⟩
  · by_cases c : i < pl.length
    · rw [List.getElem?_append_left c] at p
      obtain ⟨l1, l2, t1, g1, ks, g2, g3, g4⟩ := c2 i a' L p
      exact ⟨l1, l2, t1, g1, ks, g_app g2, g3, g4⟩
    · have hi : i = pl.length := by
        have := g_lt p
        simp at this
        omega
      subst hi
      rw [List.getElem?_append_right (Nat.le_refl _), Nat.sub_self] at p
      simp only [List.getElem?_cons_zero, Option.some.injEq, Prod.mk.injEq] at p
      obtain ⟨rfl, rfl⟩ := p
      refine ⟨l1, l2, t1, g1, ks, ?_, g3, g4⟩
      rw [List.getElem?_append_right (by omega), z6, Nat.sub_self]; rfl
  · obtain ⟨x, w, k1, k2, k3⟩ := c3.1 m b e
    exact ⟨x, w, k1, k2, vu_mono dl k3⟩
  · obtain ⟨x, w, k1, k2, k3⟩ := c4.1 P b e
    refine ⟨x, w, k1, k2, ?_⟩
    rcases k3 with k3 | ⟨k3, k4⟩
    · exact Or.inl k3
    · exact Or.inr ⟨vu_mono dl k3, k4⟩
  · obtain ⟨x, w, k1, k2, k3⟩ := y4 g hg
    exact ⟨x, w, k1, k2, vu_mono dl k3⟩
  · simp only [Hsz, List.length_append, List.length_cons, List.length_nil]
    omega
theorem clo_ok {L M ba bs a : Nat} {se : Int32} {S : Shp} {shl shf sll slf ks : List Nat} {pr : Option Nat} (hS : Slf pl pr se L) (hC : Cur S shf slf) (hb : ba = shl.length) (hb2 : bs = sll.length) (e1 : sh = shl ++ shf) (hK : Kps G L S M) (hk : Kpt G M (sll ++ slf, bs, pr) ps ks) (hold : ∀ i a' L' k' : Nat, pl[i]? = some (a', L') → k' < pFr G L' → a' + 1 + k' < a) : ∀ (n k : Nat) (s F : List Int64) (ty : TY), k + n = pFr G M → F.length + n ≤ 13000 + 3 * ce → Cor G qv pm pl ty s sh wk F ce gc bx ps pa gr → (∀ j, j < pFr G M → ty[a + 1 + j]? = some (4 + j, pl.length)) → ty[a]? = some (2, pl.length) → F[a]? = some (nI (M - 1)).toInt64 → (∀ j, j < k → ∃ m b : Nat, F[a + 1 + j]? = some (nI m).toInt64 ∧ ty[m]? = some (3, b) ∧ ks[pKp G M j]? = some b) →
    ∃ s' F' ty', Clo G M ba se a n k s F s' F' ∧ s'.length = s.length ∧ Cor G qv pm pl ty' s' sh wk F' ce gc bx ps pa gr ∧ (∀ j, j < pFr G M → ty'[a + 1 + j]? = some (4 + j, pl.length)) ∧ ty'[a]? = some (2, pl.length) ∧ F'[a]? = some (nI (M - 1)).toInt64 ∧ ∀ j, j < pFr G M → ∃ m b : Nat, F'[a + 1 + j]? = some (nI m).toInt64 ∧ ty'[m]? = some (3, b) ∧ ks[pKp G M j]? = some b := by
  intro n
  induction n with
  | zero =>
    intro k s F ty hn hF hcor t4 t2 f2 hd
    exact ⟨s, F, ty, ⟨rfl, rfl⟩, rfl, hcor, t4, t2, f2, fun j hj => hd j (by omega)⟩
  | succ n ih =>
    intro k s F ty hn hF hcor t4 t2 f2 hd
    have c8 := hcor.2.2.2.2.2.2.2
    obtain ⟨z1, z2, z3, _⟩ := c8
    obtain ⟨kp1, w, w1, w2, w3⟩ := hK.2 k (by omega)
    obtain ⟨b, kb, w4⟩ := hk.2 _ kp1
    have tk := t4 k (by omega)
    have hak : a + 1 + k < F.length := by have := g_lt tk; omega
    -- what is done at k: the field is set to m
    have fin : ∀ (m : Nat) (s1 F1 : List Int64) (ty1 : TY), F1.length + n ≤ 13000 + 3 * ce → Cor G qv pm pl ty1 s1 sh wk F1 ce gc bx ps pa gr → ty1[m]? = some (3, b) → (∀ {j : Nat} {t : Nat × Nat}, ty[j]? = some t → ty1[j]? = some t) → (∀ {j : Nat} {x : Int64}, F[j]? = some x → F1[j]? = some x) →
        ∃ s' F' ty', Clo G M ba se a n (k + 1) s1 (F1.set (a + 1 + k) (nI m).toInt64) s' F' ∧ s'.length = s1.length ∧ Cor G qv pm pl ty' s' sh wk F' ce gc bx ps pa gr ∧ (∀ j, j < pFr G M → ty'[a + 1 + j]? = some (4 + j, pl.length)) ∧ ty'[a]? = some (2, pl.length) ∧ F'[a]? = some (nI (M - 1)).toInt64 ∧ ∀ j, j < pFr G M → ∃ m b : Nat, F'[a + 1 + j]? = some (nI m).toInt64 ∧ ty'[m]? = some (3, b) ∧ ks[pKp G M j]? = some b := by
      intro m s1 F1 ty1 hF1 cor1 hm ht hf
      refine ih (k + 1) s1 _ ty1 (by omega) (by simpa using hF1) (cor_put cor1 (ht tk) (by simp) (Nat.le_refl _)) (fun j hj => ht (t4 j hj)) (ht t2) (g_set (hf f2) (by omega)) (fun j hj => ?_)
      by_cases c : j = k
      · subst c
        obtain ⟨y, hy⟩ := g_some hak
        exact ⟨m, b, g_seteq (g_lt (hf hy)), hm, kb⟩
      · obtain ⟨m', b', q1, q2, q3⟩ := hd j (by omega)
        exact ⟨m', b', g_set (hf q1) (by omega), ht q2, q3⟩
    rcases w3 with ⟨p0, sx, s1, m1, m2, m3⟩ | ⟨p1, q1, m1, m2⟩
    · obtain ⟨b0, cb1, cb2⟩ := hC.2.2 _ _ m3
      have hb0 : b0 = b := by
        rcases w4 with ⟨_, sy, sy1, sy2, sy3⟩ | ⟨n1, _⟩
        · have : sx = sy := nI_inj (by omega) (by omega) (m2.symm.trans sy2)
          subst this
          have sy3 : (sll ++ slf)[bs + sx]? = some (b + 2) := sy3
          rw [hb2, List.getElem?_append_right (by omega), Nat.add_sub_cancel_left, cb2] at sy3
          injection sy3 with sy3
          omega
        · rw [m1] at n1; exact absurd n1 (by decide)
      subst hb0
      have esh : sh[ba + w / 2]? = some (b0 + 2) := by rw [e1, hb, List.getElem?_append_right (by omega), Nat.add_sub_cancel_left]; exact cb1
      obtain ⟨x0, w0, f1, f2', f3⟩ := hcor.2.2.2.1.1 _ _ esh
      rcases f3 with ⟨m, e3, e4⟩ | ⟨f3, f4⟩
      · obtain ⟨s', F', ty', q1, q2⟩ := fin m s F ty (by omega) hcor e4 (fun q => q) (fun q => q)
        have hm : m < 1000000 := by have := g_lt e4; omega
        exact ⟨s', F', ty', ⟨w, w1, w2, Or.inl ⟨p0, x0, f1, Or.inl ⟨m, hm, e3, q1⟩⟩⟩, q2⟩
      · have hx := vu_10 f3
        obtain ⟨s', F', ty', q1, q2, q3⟩ := fin F.length _ _ _ (by simp; omega) (cor_share hcor esh f1 hx (by omega)) (by rw [← z1, List.getElem?_append_right (Nat.le_refl _), Nat.sub_self]; rfl) (fun q => g_app q) (fun q => g_app q)
        exact ⟨s', F', ty', ⟨w, w1, w2, Or.inl ⟨p0, x0, f1, Or.inr ⟨hx, q1⟩⟩⟩, by simpa using q2, q3⟩
    · rcases hS with ⟨rfl, rfl, rfl⟩ | ⟨p, a', rfl, rfl, hpl⟩
      · rcases w4 with ⟨n1, _⟩ | ⟨_, i, p, L', k', _, _, n3, _⟩
        · rw [m1] at n1; exact absurd n1 (by decide)
        · exact absurd n3 (by simp)
      · obtain ⟨l1, l2, t1, g1, ks', g2, g3, g4⟩ := hcor.2.1 p a' L hpl
        obtain ⟨t5, m, b0, g5, g6, g7⟩ := g4 (w / 2) q1
        have hb0 : b0 = b := by
          rcases w4 with ⟨n1, _⟩ | ⟨_, i, p', L', k', i1, i2, i3, i4, i5⟩
          · rw [m1] at n1; exact absurd n1 (by decide)
          · have i3 : some p = some p' := i3
            injection i3 with i3
            subst i3
            rw [g2] at i4
            injection i4 with i4
            injection i4 with i6 i7
            subst i7
            have hlt := g_lt g7
            have : ks'.length ≤ 1000000 := by
              have := g_lt (t4 k (by omega))
              rw [g3]
              have h3 := g4
              rcases Nat.eq_zero_or_pos (pFr G L) with q | q
              · omega
              · have := g_lt (g4 (pFr G L - 1) (by omega)).1
                omega
            have : pKp G L (w / 2) = i := nI_inj (by omega) (by omega) (m2.symm.trans i2)
            subst this
            rw [g7] at i5
            injection i5
        subst hb0
        obtain ⟨s', F', ty', q2, q3⟩ := fin m s F ty (by omega) hcor g6 (fun q => q) (fun q => q)
        have hm : m < 1000000 := by have := g_lt g6; omega
        have ha : a' < 1000000 := by have := g_lt t1; omega
        exact ⟨s', F', ty', ⟨w, w1, w2, Or.inr ⟨p1, a', _, m, ha, hm, hold p a' L (w / 2) hpl q1, rfl, g5, i64_32 _, q2⟩⟩, q3⟩
end CLO
