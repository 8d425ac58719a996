/-! a form is worked -/
theorem list_of {P : Nat → Nat → Prop} : ∀ n, (∀ j, j < n → ∃ b, P j b) → ∃ ks : List Nat, ks.length = n ∧ ∀ j, j < n → ∃ b, ks[j]? = some b ∧ P j b
  | 0, _ => ⟨[], rfl, fun j h => by omega⟩
  | n + 1, h => by
    obtain ⟨ks, h1, h2⟩ := list_of n (fun j hj => h j (by omega))
    obtain ⟨b, hb⟩ := h n (by omega)
    refine ⟨ks ++ [b], by simp [h1], fun j hj => ?_⟩
    by_cases c : j = n
    · subst c
      exact ⟨b, by rw [List.getElem?_append_right (by omega), h1, Nat.sub_self]; rfl, hb⟩
    · obtain ⟨b', q1, q2⟩ := h2 j (by omega)
      exact ⟨b', g_app q1, q2⟩
section SIM
variable {G : PG} {qv : Nat → Int64} {N pc : Nat} {s : List Int64} {ba : Nat} {se : Int32} {bk : List BK} {cap : Nat} {F : List Int64} {ce : Nat} {gc : List Int64} {inp out : List Int32} {th st : Nat} {lt : Int64} {lf : Nat} {n : Nat} {nw : Int64} {td : List TD} {wk : List Int64} {sl : List Nat} {bs : Nat} {pr : Option Nat} {bx : List Int64} {ps : List (Nat × List Nat)} {pa : List (Int64 × Int64)} {gr : List Int64} {op : Nat} {lt' : Int64} {pm : List Nat} {pl : List (Nat × Nat)} {ty : TY} {sh : List Nat} {S : Shp} {L : Nat} {shl sll shf slf : List Nat} {la : Bool} {e f : Nat}
theorem relV {v w : Int64} (ho : out.length ≤ 1000) (hv : VR (Dv pm pl) lt lt') (cor : Cor G qv pm pl ty s sh wk F ce gc bx ps pa gr) (env : Env G pl S L shl sll shf slf sh ba se bk cap sl bs pr op) (r : VR (Dv pm pl) v w) (hd : S.length < pDm G L) (k : Kn G pl cap td false pc S L bk shl sll) : Rel G qv 100 ((pc, s ++ [v]), (ba, se, bk, cap), (F, ce, gc), (inp, out, th, st, lt, lf)) ((none, w, td, wk), (sl, bs, pr), (bx, ps, pa, ce, gr), (inp, out, th, op, st, lt', lf)) :=
  ⟨⟨rfl, rfl, rfl, rfl, rfl, rfl, ho⟩, pm, pl, ty, sh, s, S, L, shl, sll, shf, slf, hv, cor, env, Or.inr (Or.inl ⟨v, rfl, rfl, r, hd, Nat.le_refl _, k⟩)⟩
theorem relF (ho : out.length ≤ 1000) (hv : VR (Dv pm pl) lt lt') (cor : Cor G qv pm pl ty s sh wk F ce gc bx ps pa gr) (env : Env G pl S L shl sll shf slf sh ba se bk cap sl bs pr op) (c : Cod G L f n la S pc e) (hf : Fvq f td la) (k : Kn G pl cap td la e S L bk shl sll) : Rel G qv f ((pc, s), (ba, se, bk, cap), (F, ce, gc), (inp, out, th, st, lt, lf)) ((some n, nw, td, wk), (sl, bs, pr), (bx, ps, pa, ce, gr), (inp, out, th, op, st, lt', lf)) :=
  ⟨⟨rfl, rfl, rfl, rfl, rfl, rfl, ho⟩, pm, pl, ty, sh, s, S, L, shl, sll, shf, slf, hv, cor, env, Or.inl ⟨n, f, la, e, rfl, rfl, c, hf, Nat.le_refl _, k⟩⟩
/-- a binding is read -/
theorem rd_var (hW : WG G) {o : Nat} {P : List Int32 × List Int32 × Nat × Nat × Int64 × Nat} (cor : Cor G qv pm pl ty s sh wk F ce gc bx ps pa gr) (env : Env G pl S L shl sll shf slf sh ba se bk cap sl bs pr op) (h : Vrb G L S n pc o) : ∃ v w, Rcv G o ((pc, s), (ba, se, bk, cap), (F, ce, gc), P) v ∧ Rdv G n (sl, bs, pr) bx ps gr w ∧ VU (Dv pm pl) v w := by
  obtain ⟨c1, c2, c3, c4, c5, ⟨y1, y2, y3, y4⟩, c7, ⟨z1, z2, z3, z4, z5, z6, z7⟩⟩ := cor
  rcases h with ⟨h1, j, t, h2, h3, h4, h5, h6, h7⟩ | ⟨h1, k, h2, h3, h4, h5⟩ | ⟨h1, g, h2, h3, h4, h5⟩
  · obtain ⟨b, e1, e2⟩ := env_get env h7
    obtain ⟨x, w, g1, g2, g3⟩ := c4.1 _ b e1
    rcases g3 with ⟨m, e3, e4⟩ | ⟨g3, g4⟩
    · obtain ⟨v, w', k1, k2, k3⟩ := c3.1 m b e4
      rw [g2] at k2
      injection k2 with k2
      subst k2
      have : m < 1000000 := by have := g_lt e4; omega
      exact ⟨v, w, Or.inl ⟨h4, j, x, h2, h5, g1, Or.inr ⟨m, this, e3, k1⟩⟩, Or.inl ⟨b, Or.inl ⟨h1, t, h3, h6, e2⟩, g2⟩, k3⟩
    · exact ⟨x, w, Or.inl ⟨h4, j, x, h2, h5, g1, Or.inl ⟨vu_10 g3, rfl⟩⟩, Or.inl ⟨b, Or.inl ⟨h1, t, h3, h6, e2⟩, g2⟩, g3⟩
  · rcases env.2.2.2.2.1 with ⟨_, _, hL⟩ | ⟨i, a, h6, h7, h8⟩
    · subst hL
      -- the row keeps nothing
      have := hW.2.2.2.2.2.2.1
      omega
    · obtain ⟨l1, l2, t1, g1, ks, g2, g3, g4⟩ := c2 i a L h8
      obtain ⟨t2, m, b, g5, g6, g7⟩ := g4 k h2
      obtain ⟨v, w, k1, k2, k3⟩ := c3.1 m b g6
      have hm : m < 1000000 := by have := g_lt g6; omega
      have ha : a + 1 + k < 1000000 := by have := g_lt t2; omega
      have hW2 := hW.2.2.2.2.2.1 L env.2.2.2.2.2.2.2.2.2.2.2
      have hk := hW2.2.2.2 k h2
      exact ⟨v, w, Or.inr (Or.inl ⟨h3, k, a, _, m, by omega, by omega, hm, h4, h7, g5, i64_32 _, k1⟩), Or.inl ⟨b, Or.inr ⟨h1, _, i, L, ks, by omega, h5, h6, g2, g7⟩, k2⟩, k3⟩
  · obtain ⟨x, w, k1, k2, k3⟩ := y4 g h2
    exact ⟨x, w, Or.inr (Or.inr ⟨h3, g, by omega, h4, k1⟩), Or.inr (Or.inl ⟨h1, g, by omega, h5, k2⟩), k3⟩

theorem f_push {j j' : Nat} {v w : Int64} (hI : IHy G qv N) (hN : mu G pc bk lf * 200 ≤ N) (hp : pc ≤ pCz G) (ho : out.length ≤ 1000) (hv : VR (Dv pm pl) lt lt') (cor : Cor G qv pm pl ty s sh wk F ce gc bx ps pa gr) (env : Env G pl S L shl sll shf slf sh ba se bk cap sl bs pr op) (hC : CS1 G j ((pc, s), (ba, se, bk, cap), (F, ce, gc), (inp, out, th, st, lt, lf)) ((pc + 1, s ++ [v]), (ba, se, bk, cap), (F, ce, gc), (inp, out, th, st, lt, lf))) (hR : RS1 G qv j' ((some n, nw, td, wk), (sl, bs, pr), (bx, ps, pa, ce, gr), (inp, out, th, op, st, lt', lf)) ((none, w, td, wk), (sl, bs, pr), (bx, ps, pa, ce, gr), (inp, out, th, op, st, lt', lf))) (r : VR (Dv pm pl) v w) (hd : S.length < pDm G L) (g : Gb G la (pc + 1) e) (k : Kn G pl cap td la e S L bk shl sll) (hb : Bnd ((some n, nw, td, wk), (sl, bs, pr), (bx, ps, pa, ce, gr), (inp, out, th, op, st, lt', lf)) := by assumption) :
    Gol G qv (mu G pc bk lf + 1) ((pc, s), (ba, se, bk, cap), (F, ce, gc), (inp, out, th, st, lt, lf)) ((some n, nw, td, wk), (sl, bs, pr), (bx, ps, pa, ce, gr), (inp, out, th, op, st, lt', lf)) :=
  g_r hR (g_ci hI hC (mz_pc (Nat.lt_succ_self _) hp) hN (by decide) (relV ho hv cor env r hd (kn_gb g k)))
theorem vr_cst {D : VD} {k : Nat} {c : Int32} (hk : k < 6) (hc : c = 0 ∨ k = 1 ∨ k = 5) : VR D (vof (nI k) c) (vof (nI k) c) := Or.inl ⟨k, c, hk, rfl, rfl, hc⟩
theorem fnl_err {r : Nat} {s1 : List Int64} {md' : Option Nat} {nw' : Int64} {td' : List TD} {wk' : List Int64} (hr : r = 0 ∨ 10 < r ∧ r < 18) (ho : out.length ≤ 1000) (hv : VR (Dv pm pl) lt lt') (cor : Cor G qv pm pl ty s sh wk F ce gc bx ps pa gr) (env : Env G pl S L shl sll shf slf sh ba se bk cap sl bs pr op) : Fnl G qv r ((pc, s1), (ba, se, bk, cap), (F, ce, gc), (inp, out, th, st, lt, lf)) ((md', nw', td', wk'), (sl, bs, pr), (bx, ps, pa, ce, gr), (inp, out, th, op, st, lt', lf)) :=
  ⟨⟨rfl, rfl, rfl, rfl, rfl, env.2.2.2.2.2.2.2.2.1, ho⟩, ⟨pm, pl, ty, s, sh, wk, hv, cor⟩, Or.inl hr⟩
theorem sF_leaf (hW : WG G) (hI : IHy G qv N) (hN : mu G pc bk lf * 200 ≤ N) (hp : pc < e) (hp2 : e ≤ pCz G) (hn : n < pNn G) (ho : out.length ≤ 1000) (hv : VR (Dv pm pl) lt lt') (cor : Cor G qv pm pl ty s sh wk F ce gc bx ps pa gr) (env : Env G pl S L shl sll shf slf sh ba se bk cap sl bs pr op) (h : Lf G L S n pc) (hd : S.length < pDm G L) (g : Gb G la (pc + 1) e) (k : Kn G pl cap td la e S L bk shl sll) (hb : Bnd ((some n, nw, td, wk), (sl, bs, pr), (bx, ps, pa, ce, gr), (inp, out, th, op, st, lt', lf)) := by assumption) :
    Gol G qv (mu G pc bk lf + 1) ((pc, s), (ba, se, bk, cap), (F, ce, gc), (inp, out, th, st, lt, lf)) ((some n, nw, td, wk), (sl, bs, pr), (bx, ps, pa, ce, gr), (inp, out, th, op, st, lt', lf)) := by
  have hl := env_len env
  have hsl := wks_len cor.2.2.2.2.1
  have hcap : s.length < cap := by omega
  rcases h with ⟨h1, h2, h3⟩ | ⟨h1, h2, h3⟩ | ⟨h1, h2, h3⟩ | ⟨h1, h2, i, h3, h4, h5, h6⟩ | ⟨h1, h2⟩
  · exact f_push (j := 0) (j' := 0) hI hN (by omega) ho hv cor env ⟨Or.inl h2, hcap, rfl⟩ ⟨hn, _, Or.inl ⟨h1, rfl⟩, rfl⟩ (by rw [h2, h3]; exact vr_cst (k := 1) (by decide) (Or.inr (Or.inl rfl))) hd g k
  · exact f_push (j := 0) (j' := 0) hI hN (by omega) ho hv cor env ⟨Or.inr (Or.inr (Or.inl h2)), hcap, rfl⟩ ⟨hn, _, Or.inr (Or.inl ⟨h1, rfl⟩), rfl⟩ (by rw [h2, h3]; exact vr_cst (k := 3) (by decide) (Or.inl rfl)) hd g k
  · exact f_push (j := 0) (j' := 0) hI hN (by omega) ho hv cor env ⟨Or.inr (Or.inl h2), hcap, rfl⟩ ⟨hn, _, Or.inr (Or.inr ⟨h1, rfl⟩), rfl⟩ (by rw [h2, h3]; exact vr_cst (k := 2) (by decide) (Or.inl rfl)) hd g k
  · exact f_push (j := 0) (j' := 1) hI hN (by omega) ho hv cor env ⟨Or.inr (Or.inr (Or.inr (Or.inr (Or.inr (Or.inr h4))))), hcap, rfl⟩ ⟨hn, h1, vof 8 (nI (i + 11)), Or.inr (Or.inr ⟨h2, i, h3, h6, rfl⟩), fun q => absurd (vof_inj q).1 (by decide), rfl⟩ (by rw [h4, h5]; exact Or.inr (Or.inr (Or.inr ⟨i, h3, rfl, rfl⟩))) hd g k
  · obtain ⟨v, w, q1, q2, q3⟩ := rd_var (P := (inp, out, th, st, lt, lf)) hW cor env h2
    rcases vu_9 q3 with ⟨c1, c2⟩ | ⟨c1, c2, c3⟩
    · subst c2
      exact g_e (j := 1) (j' := 1) (r := 15) ⟨v, q1, c1, rfl⟩ ⟨hn, h1, q2, rfl, rfl⟩ (fnl_err (Or.inr ⟨by decide, by decide⟩) ho hv cor env)
    · exact f_push (j := 1) (j' := 1) hI hN (by omega) ho hv cor env ⟨v, q1, c1, hcap, rfl⟩ ⟨hn, h1, w, q2, c2, rfl⟩ c3 hd g k
theorem sF_quote {c a : Nat} (hI : IHy G qv N) (hN : mu G pc bk lf * 200 ≤ N) (hp : pc < e) (hp2 : e ≤ pCz G) (hn : n < pNn G) (ho : out.length ≤ 1000) (hv : VR (Dv pm pl) lt lt') (cor : Cor G qv pm pl ty s sh wk F ce gc bx ps pa gr) (env : Env G pl S L shl sll shf slf sh ba se bk cap sl bs pr op) (h4 : G.1 21 n = 4) (hc : Chn G (G.1 24 n) [c, a]) (hw : Fw G c 1) (h1 : pDl G a) (h2 : vof (G.1 1 pc) (G.1 2 pc) = pDv G a) (h3 : G.1 1 pc = 1 ∨ G.1 1 pc = 2 ∨ G.1 1 pc = 3 ∨ G.1 1 pc = 4 ∨ G.1 1 pc = 5 ∨ G.1 1 pc = 6) (hd : S.length < pDm G L) (g : Gb G la (pc + 1) e) (k : Kn G pl cap td la e S L bk shl sll) (hb : Bnd ((some n, nw, td, wk), (sl, bs, pr), (bx, ps, pa, ce, gr), (inp, out, th, op, st, lt', lf)) := by assumption) :
    Gol G qv (mu G pc bk lf + 1) ((pc, s), (ba, se, bk, cap), (F, ce, gc), (inp, out, th, st, lt, lf)) ((some n, nw, td, wk), (sl, bs, pr), (bx, ps, pa, ce, gr), (inp, out, th, op, st, lt', lf)) := by
  have hl := env_len env
  have hsl := wks_len cor.2.2.2.2.1
  have hcap : s.length < cap := by omega
  refine f_push (j := 0) (j' := 2) hI hN (by omega) ho hv cor env ⟨?_, hcap, rfl⟩ ⟨hn, h4, c, a, hc, hw, rfl⟩ (by rw [h2]; exact cor.2.2.2.2.2.2.1.1 a h1) hd g k
  rcases h3 with h | h | h | h | h | h
  · exact Or.inl h
  · exact Or.inr (Or.inl h)
  · exact Or.inr (Or.inr (Or.inl h))
  · exact Or.inr (Or.inr (Or.inr (Or.inl h)))
  · exact Or.inr (Or.inr (Or.inr (Or.inr (Or.inl h))))
  · exact Or.inr (Or.inr (Or.inr (Or.inr (Or.inr (Or.inl h)))))
theorem sF_lam {c M x : Nat} {l : List Nat} (hW : WG G) (hI : IHy G qv N) (hN : mu G pc bk lf * 200 ≤ N) (hp : pc < e) (hp2 : e ≤ pCz G) (hn : n < pNn G) (ho : out.length ≤ 1000) (hv : VR (Dv pm pl) lt lt') (cor : Cor G qv pm pl ty s sh wk F ce gc bx ps pa gr) (env : Env G pl S L shl sll shf slf sh ba se bk cap sl bs pr op) (h4 : G.1 21 n = 4) (hc : Chn G (G.1 24 n) (c :: l)) (hw : Fw G c 2) (m1 : 1 ≤ M) (m2 : M ≤ pLm G) (m3 : G.1 27 n = nI M) (o1 : G.1 1 pc = 25) (o2 : G.1 2 pc = nI (M - 1)) (o3 : G.1 1 (pc + 1) = 26) (o4 : G.1 2 (pc + 1) = nI x) (o5 : pc + 1 < x) (hK : Kps G L S M) (hd : S.length < pDm G L) (g : Gb G la x e) (k : Kn G pl cap td la e S L bk shl sll) (hb : Bnd ((some n, nw, td, wk), (sl, bs, pr), (bx, ps, pa, ce, gr), (inp, out, th, op, st, lt', lf)) := by assumption) :
    Gol G qv (mu G pc bk lf + 1) ((pc, s), (ba, se, bk, cap), (F, ce, gc), (inp, out, th, st, lt, lf)) ((some n, nw, td, wk), (sl, bs, pr), (bx, ps, pa, ce, gr), (inp, out, th, op, st, lt', lf)) := by
  have hl := env_len env
  have hsl := wks_len cor.2.2.2.2.1
  have hcap : s.length < cap := by omega
  by_cases hr : ce + (1 + pFr G M) ≤ 40000
  · have env' := env
    obtain ⟨n1, n2, n3, n4, n5, n6, n7, n8, n9, n10, n11, n12⟩ := env'
    have cor' := cor
    obtain ⟨c1, c2, c3, c4, c5, c6, c7, ⟨z1, z2, z3, z4, z5, z6, z7⟩⟩ := cor'
    -- the reference's boxes
    have hks : ∃ ks, Kpt G M (sl, bs, pr) ps ks := by
      refine (list_of (P := fun j b => (G.1 38 (256 * M + j) = 1 ∧ ∃ s, s < 100000 ∧ G.1 39 (256 * M + j) = nI s ∧ sl[bs + s]? = some (b + 2)) ∨ (G.1 38 (256 * M + j) = 2 ∧ ∃ i p L k, i < 100000 ∧ G.1 39 (256 * M + j) = nI i ∧ pr = some p ∧ ps[p]? = some (L, k) ∧ k[i]? = some b)) (pFr G M) (fun j hj => ?_)).imp fun ks h => h
      obtain ⟨k, k1, k2⟩ := hK.1 j hj
      obtain ⟨_, w, w1, w2, w3⟩ := hK.2 k k1
      rw [k2] at w3
      rcases w3 with ⟨_, t, t1, t2, t3, t4⟩ | ⟨_, t1, t2, t3⟩
      · obtain ⟨b, _, e2⟩ := env_get env t4
        exact ⟨b, Or.inl ⟨t2, t, t1, t3, e2⟩⟩
      · rcases n5 with ⟨_, _, hL⟩ | ⟨i, a, h6, h7, h8⟩
        · subst hL
          have := hW.2.2.2.2.2.2.1
          omega
        · obtain ⟨l1, l2, u1, g1, ks, g2, g3, g4⟩ := c2 i a L h8
          obtain ⟨_, m, b, g5, g6, g7⟩ := g4 (w / 2) t1
          have hW2 := hW.2.2.2.2.2.1 L n12
          have := hW2.2.2.2 _ t1
          exact ⟨b, Or.inr ⟨t2, _, i, L, ks, by omega, t3, h6, g2, g7⟩⟩
    obtain ⟨ks, hk⟩ := hks
    obtain ⟨g0, hg0⟩ : ∃ g : List Int64, g.length = pFr G M := ⟨List.replicate (pFr G M) 0, by simp⟩
    obtain ⟨t0, ht0⟩ : ∃ t : TY, t = (2, pl.length) :: (List.range (pFr G M)).map (fun i => (4 + i, pl.length)) := ⟨_, rfl⟩
    have corA := cor_ext (ce' := ce + (1 + pFr G M)) (F2 := (nI (M - 1)).toInt64 :: g0) (t2 := t0) cor (by simp [hg0, ht0]) (fun t ht => by
      simp only [ht0, List.mem_cons, List.mem_map] at ht
      rcases ht with rfl | ⟨i, _, rfl⟩
      · simp
      · simp; omega) (by omega) hr (by simp [hg0]; omega)
    have t4 : ∀ j, j < pFr G M → (ty ++ t0)[F.length + 1 + j]? = some (4 + j, pl.length) := fun j hj => by
      rw [List.getElem?_append_right (by omega), z1, show F.length + 1 + j - F.length = j + 1 by omega]
      simp [ht0, hj]
    obtain ⟨s', F', ty', q1, q2, q3, q4, q5, q6, q7⟩ := clo_ok (a := F.length) n5 n6 n3 n4 n1 hK (by rw [← n2]; exact hk) (fun i a' L' k' e1 e2 => by
      obtain ⟨_, _, _, _, _, _, _, g4⟩ := c2 i a' L' e1
      have := g_lt (g4 k' e2).1
      omega) (pFr G M) 0 s _ _ (by omega) (by simp [hg0]; omega) corA t4 (by rw [List.getElem?_append_right (by omega), z1, Nat.sub_self, ht0]; rfl) (by rw [List.getElem?_append_right (by omega), Nat.sub_self]; rfl) (fun j hj => by omega)
    have corB := cor_fin (ks := ks) q3 m1 m2 q5 q6 hk.1 (fun k hk => ⟨q4 k hk, q7 k hk⟩) (by omega)
    have hx : x ≤ pCz G := by rcases g with ⟨_, _, g⟩ | ⟨_, g⟩ <;> omega
    refine g_r (j := 3) ⟨hn, h4, c, l, M, ks, hc, hw, m1, m2, m3, hr, hk, rfl⟩ ?_
    have hpc : pc ≤ pCz G := by omega
    have hC : CS1 G 6 ((pc, s), (ba, se, bk, cap), (F, ce, gc), (inp, out, th, st, lt, lf)) ((pc + 1, s' ++ [vof 7 (nI F.length)]), (ba, se, bk, cap), (F', ce + (1 + pFr G M), gc), (inp, out, th, st, lt, lf)) := ⟨o1, hcap, z2, M, g0, s', F', m1, m2, o2, hr, hg0, q1, rfl⟩
    refine g_ci (j := 6) (ph := 100) hI hC (mz_pc (Nat.lt_succ_self pc) hpc) hN (by decide) ?_
    refine relV (pl := pl ++ [(F.length, M)]) ho (vr_mono (dl_pl _ _ _) hv) corB (env_pl env) (Or.inr (Or.inr (Or.inl ⟨pl.length, by simp [Dv], ?_, ?_⟩))) hd (kn_jmp o3 o4 o5 hx (kn_gb g (kn_mono (Nat.le_refl _) _ (by simp) k)))
    · simp [Dv, List.getD]
    · rw [z6]
  · exact g_e (j := 3) (j' := 3) (r := 16) ⟨o1, M, m1, m2, o2, hr, rfl⟩ ⟨hn, h4, c, l, M, hc, hw, m1, m2, m3, hr, rfl, rfl⟩ (fnl_err (Or.inr ⟨by decide, by decide⟩) ho hv cor env)
end SIM
