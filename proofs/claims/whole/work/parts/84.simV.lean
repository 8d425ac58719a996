/-! a value goes on -/
section SIV
variable {G : PG} {qv : Nat → Int64} {N pc : Nat} {s : List Int64} {ba : Nat} {se : Int32} {bk : List BK} {cap : Nat} {F : List Int64} {ce : Nat} {gc : List Int64} {inp out : List Int32} {th st : Nat} {lt : Int64} {lf : Nat} {n m : Int32} {v nw : Int64} {td : List TD} {wk : List Int64} {sl : List Nat} {bs : Nat} {pr : Option Nat} {bx : List Int64} {ps : List (Nat × List Nat)} {pa : List (Int64 × Int64)} {gr : List Int64} {op : Nat} {lt' : Int64} {pm : List Nat} {pl : List (Nat × Nat)} {ty : TY} {sh : List Nat} {S : Shp} {L : Nat} {shl sll shf slf : List Nat} {la : Bool} {e f : Nat}
theorem env_ns {B : Shp} (h : Env G pl (S ++ B) L shl sll shf slf sh ba se bk cap sl bs pr op) (q : ∀ o, o ∈ B → o ≠ none) : ∀ c, c ∈ shf.drop S.length → c ≠ 0 := by
  intro c hc
  obtain ⟨j, hj⟩ := List.getElem?_of_mem hc
  rw [List.getElem?_drop] at hj
  have hC := h.2.2.2.2.2.1
  have hl := g_lt hj
  have hl2 := hC.1
  rw [List.length_append] at hl2
  have hB : j < B.length := by omega
  obtain ⟨o, ho⟩ := g_some hB
  cases o with
  | none => exact absurd rfl (q none (List.mem_of_getElem? ho))
  | some t =>
    obtain ⟨b, e1, _⟩ := hC.2.2 (S.length + j) t (by rw [List.getElem?_append_right (by omega), Nat.add_sub_cancel_left]; exact ho)
    rw [hj] at e1
    injection e1 with e1
    omega
theorem vr_Fa {D : VD} (r : VR D v nw) : vkd v = 2 ↔ nw = vof 2 0 := vr_c0 (k := 2) (by decide) r
theorem sV_slide {S' B : Shp} (hW : WG G) (hI : IHy G qv N) (hN : mu G pc bk lf * 200 ≤ N) (ho : out.length ≤ 1000) (hv : VR (Dv pm pl) lt lt') (cor : Cor G qv pm pl ty s sh wk F ce gc bx ps pa gr) (env : Env G pl (S' ++ B) L shl sll shf slf sh ba se bk cap sl bs pr op) (r : VR (Dv pm pl) v nw) (hd : (S' ++ B).length < pDm G L) (o1 : G.1 1 pc = 31) (o2 : G.1 2 pc = nI B.length) (h8 : B.length ≤ 8) (hB : ∀ o, o ∈ B → o ≠ none) (k : Kn G pl cap td false (pc + 1) S' L bk shl sll) (hb : Bnd ((none, nw, td, wk), (sl, bs, pr), (bx, ps, pa, ce, gr), (inp, out, th, op, st, lt', lf)) := by assumption) :
    Gol G qv (mu G pc bk lf + 1) ((pc, s ++ [v]), (ba, se, bk, cap), (F, ce, gc), (inp, out, th, st, lt, lf)) ((none, nw, td, wk), (sl, bs, pr), (bx, ps, pa, ce, gr), (inp, out, th, op, st, lt', lf)) := by
  have hp : pc < pCz G := op_lt hW o1 (by decide)
  have hl := env_len env
  have hsl := wks_len cor.2.2.2.2.1
  have hns := env_ns env hB
  obtain ⟨e1, e2, e3⟩ := env_drop env
  have hn3 := env.2.2.1
  rw [List.length_append] at hl hd
  have hlen : (s.take (ba + S'.length)).length = (sh.take (shl.length + S'.length)).length := by simp; omega
  have e6 : s = s.take (ba + S'.length) ++ s.drop (ba + S'.length) := (List.take_append_drop _ _).symm
  have cor' := cor
  rw [e6, e2] at cor'
  obtain ⟨w1, w2, g1, g2, g3⟩ := cor_drop cor' hlen
  have w2e := wks_ns g3 hns
  subst w2e
  rw [List.append_nil] at g1
  subst g1
  have hu : (s.drop (ba + S'.length)).length = B.length := by simp; omega
  have hC : CS1 G 13 ((pc, s ++ [v]), (ba, se, bk, cap), (F, ce, gc), (inp, out, th, st, lt, lf)) ((pc + 1, s.take (ba + S'.length) ++ [v]), (ba, se, bk, cap), (F, ce, gc), (inp, out, th, st, lt, lf)) :=
    ⟨o1, s.take (ba + S'.length), s.drop (ba + S'.length), v, by rw [← List.append_assoc, ← e6], by omega, by simp; omega, by rw [hu]; exact o2, rfl⟩
  exact g_ci (ph := 100) hI hC (mz_pc (Nat.lt_succ_self pc) (Nat.le_of_lt hp)) hN (by decide) (relV ho hv g2 e1 r (by omega) k)
theorem sV_ret (hW : WG G) (hI : IHy G qv N) (hN : mu G pc bk lf * 200 ≤ N) (ho : out.length ≤ 1000) (hv : VR (Dv pm pl) lt lt') (cor : Cor G qv pm pl ty s sh wk F ce gc bx ps pa gr) (env : Env G pl S L shl sll shf slf sh ba se bk cap sl bs pr op) (r : VR (Dv pm pl) v nw) (hd : S.length < pDm G L) (o1 : G.1 1 pc = 34) (hS : ∀ o, o ∈ S → o ≠ none) (h : Ret G pl cap n m td bk shl sll) (hb : Bnd ((none, nw, (8, n, m) :: td, wk), (sl, bs, pr), (bx, ps, pa, ce, gr), (inp, out, th, op, st, lt', lf)) := by assumption) :
    Gol G qv (mu G pc bk lf + 1) ((pc, s ++ [v]), (ba, se, bk, cap), (F, ce, gc), (inp, out, th, st, lt, lf)) ((none, nw, (8, n, m) :: td, wk), (sl, bs, pr), (bx, ps, pa, ce, gr), (inp, out, th, op, st, lt', lf)) := by
  have hp : pc < pCz G := op_lt hW o1 (by decide)
  have hl := env_len env
  have hsl := wks_len cor.2.2.2.2.1
  obtain ⟨pb, sb, bk', sh', shb, sl', slb, Sb, Lb, rp, q1, q2, q3, q4, q5, q6, q7, q8, q9, q10, q11, q12, q13, q14⟩ := ret_ok cor env hS h
  subst q1
  have hC : CS1 G 11 ((pc, s ++ [v]), (ba, se, (pb, sh'.length, sb) :: bk', cap), (F, ce, gc), (inp, out, th, st, lt, lf)) ((pb, s.take (ba - 1) ++ [v]), (sh'.length, sb, bk', cap), (F, ce, gc), (inp, out, th, st, lt, lf)) :=
    ⟨o1, s, v, pb, sh'.length, sb, bk', rfl, by simp; omega, rfl, q2, q3, rfl⟩
  refine g_r (j := 21) ⟨sl'.length, rp, q4, q5, q6, q7, q8, slf_lt cor q14.2.2.2.2.1, rfl⟩ ?_
  exact g_ci (ph := 100) hI hC (mu_back hp) hN (by decide) (relV ho hv q13 q14 r q11 q12)
theorem rel_row {a x f : Nat} {l : List Nat} (ho : out.length ≤ 1000) (hv : VR (Dv pm pl) lt lt') (cor : Cor G qv pm pl ty s sh wk F ce gc bx ps pa gr) (env : Env G pl [] 0 [] [] shf slf sh ba se [] cap sl bs pr op) (hf : f ≤ 38) (hc : Cod G 0 f a false [] pc x) (h1 : Chn G (G.1 25 a) l) (h2 : G.1 1 x = 35) (h3 : Rwc G l (x + 1)) : Rel G qv f ((pc, s), (ba, se, [], cap), (F, ce, gc), (inp, out, th, st, lt, lf)) ((some a, nw, [(9, G.1 25 a, 1)], wk), (sl, bs, pr), (bx, ps, pa, ce, gr), (inp, out, th, op, st, lt', lf)) := by
  refine relF ho hv cor env hc ⟨by simp [cnt]; omega, fun _ => ⟨_, _, rfl, (show (9 : Nat) ≠ 8 by decide)⟩⟩ ?_
  unfold Kn
  exact ⟨x, [], Or.inr ⟨rfl, 0, rfl, rfl⟩, Or.inr (Or.inl ⟨rfl, h2, rfl, rfl, rfl, rfl, rfl, rfl, rfl, l, h1, h3⟩)⟩
theorem sV_row {l : List Nat} (hW : WG G) (hI : IHy G qv N) (hN : mu G pc [] lf * 200 ≤ N) (ho : out.length ≤ 1000) (cor : Cor G qv pm pl ty s sh wk F ce gc bx ps pa gr) (env : Env G pl [] 0 [] [] shf slf sh ba se [] cap sl bs pr op) (r : VR (Dv pm pl) v nw) (o1 : G.1 1 pc = 35) (hc : Chn G n l) (hR : Rwc G l (pc + 1)) (hb : Bnd ((none, nw, [(9, n, 1)], wk), (sl, bs, pr), (bx, ps, pa, ce, gr), (inp, out, th, op, st, lt', lf)) := by assumption) :
    Gol G qv (mu G pc [] lf + 1) ((pc, s ++ [v]), (ba, se, [], cap), (F, ce, gc), (inp, out, th, st, lt, lf)) ((none, nw, [(9, n, 1)], wk), (sl, bs, pr), (bx, ps, pa, ce, gr), (inp, out, th, op, st, lt', lf)) := by
  have hp : pc < pCz G := op_lt hW o1 (by decide)
  have hm := mz_pc (bk := []) (lf := lf) (Nat.lt_succ_self pc) (Nat.le_of_lt hp)
  have hC : CS1 G 14 ((pc, s ++ [v]), (ba, se, [], cap), (F, ce, gc), (inp, out, th, st, lt, lf)) ((pc + 1, s), (ba, se, [], cap), (F, ce, gc), (inp, out, th + 1, st, v, lf)) := ⟨o1, s, v, rfl, rfl⟩
  cases l with
  | nil =>
    have hm0 : 0 < mu G pc [] lf := by omega
    refine g_w (g_c hC (g_e (a := 0) (j := 0) (j' := 0) (r := 0) ⟨hR, rfl⟩ ⟨hc, rfl, Or.inr ⟨rfl, rfl⟩⟩ (fnl_err (Or.inl rfl) ho r cor env))) (by omega)
  | cons a l =>
    obtain ⟨x, f, q1, q2, q3, q4⟩ := hR
    obtain ⟨c1, c2, c3⟩ := chn_hd hc
    refine g_r (j := 12) ⟨a, c1, c2, Or.inr ⟨rfl, rfl⟩⟩ (g_ci (ph := f) hI hC hm hN (by omega) (rel_row ho r cor env q1 q2 c3 q3 q4))
theorem sV_set {i c a w : Nat} {x : Nat} (hW : WG G) (hI : IHy G qv N) (hN : mu G pc bk lf * 200 ≤ N) (ho : out.length ≤ 1000) (hv : VR (Dv pm pl) lt lt') (cor : Cor G qv pm pl ty s sh wk F ce gc bx ps pa gr) (env : Env G pl S L shl sll shf slf sh ba se bk cap sl bs pr op) (r : VR (Dv pm pl) v nw) (hd : S.length < pDm G L) (h1 : n = nI i) (h2 : i < pNn G) (h3 : Chn G (G.1 24 i) [c, a, x]) (h4 : Fw G c w) (h5 : (w = 6 ∧ Vrb G L S a pc 19) ∨ (w = 10 ∧ ∃ g, g < pDf G ∧ G.1 26 a = 3 ∧ G.1 27 a = nI g ∧ G.1 1 pc = 24 ∧ G.1 2 pc = nI g)) (k : Kn G pl cap td false (pc + 1) S L bk shl sll) (hb : Bnd ((none, nw, (4, n, m) :: td, wk), (sl, bs, pr), (bx, ps, pa, ce, gr), (inp, out, th, op, st, lt', lf)) := by assumption) :
    Gol G qv (mu G pc bk lf + 1) ((pc, s ++ [v]), (ba, se, bk, cap), (F, ce, gc), (inp, out, th, st, lt, lf)) ((none, nw, (4, n, m) :: td, wk), (sl, bs, pr), (bx, ps, pa, ce, gr), (inp, out, th, op, st, lt', lf)) := by
  have hl := env_len env
  have hsl := wks_len cor.2.2.2.2.1
  have hcap : (s ++ [v]).length ≤ cap := by simp; omega
  obtain ⟨c1, c2, c3, c4, c5, ⟨y1, y2, y3, y4⟩, c7, ⟨z1, z2, z3, z4, z5, z6, z7⟩⟩ := id cor
  rcases h5 with ⟨rfl, h5⟩ | ⟨rfl, g, g1, g2, g3, g4, g5⟩
  · obtain ⟨u, w, q1, q2, q3⟩ := rd_var (P := (inp, out, th, st, lt, lf)) hW cor env h5
    rcases vu_9 q3 with ⟨d1, d2⟩ | ⟨d1, d2, d3⟩
    · subst d2
      exact g_e (j := 2) (j' := 2) (r := 15) ⟨u, s, v, rfl, q1, d1, rfl⟩ ⟨i, c, a, x, h1, h2, h3, h4, q2, rfl, rfl⟩ (fnl_err (Or.inr ⟨by decide, by decide⟩) ho hv cor env)
    · rcases h5 with ⟨h5, j, t, j1, j2, j3, j4, j5, j6⟩ | ⟨h5, k', j1, j2, j3, j4⟩ | ⟨h5, g, j1, j2, j3, j4⟩
      · obtain ⟨b, e1, e2⟩ := env_get env j6
        obtain ⟨s', F', g1, g2⟩ := cor_setS cor e1 (Or.inl r)
        have hp : pc < pCz G := op_lt hW j3 (by decide)
        have hC : CS1 G 2 ((pc, s ++ [v]), (ba, se, bk, cap), (F, ce, gc), (inp, out, th, st, lt, lf)) ((pc + 1, s' ++ [0]), (ba, se, bk, cap), (F', ce, gc), (inp, out, th, st, lt, lf)) :=
          ⟨s, v, u, s', F', gc, rfl, q1, d1, hcap, Or.inl ⟨j3, j, j1, j4, g1, rfl⟩, rfl⟩
        refine g_r (j := 16) ⟨i, c, a, x, 6, h1, h2, h3, h4, Or.inl ⟨rfl, ⟨w, q2, d2⟩, Or.inl ⟨b, Or.inl ⟨h5, t, j2, j5, e2⟩, rfl⟩⟩⟩ ?_
        exact g_ci (ph := 100) hI hC (mz_pc (Nat.lt_succ_self pc) (Nat.le_of_lt hp)) hN (by decide) (relV ho hv g2 env (vr_0 _) hd k)
      · have hp : pc < pCz G := op_lt hW j2 (by decide)
        rcases env.2.2.2.2.1 with ⟨_, _, hL⟩ | ⟨p, a', h6, h7, h8⟩
        · subst hL
          have := hW.2.2.2.2.2.2.1
          omega
        · obtain ⟨l1, l2, t1, g1, ks, g2, g3, g4⟩ := c2 p a' L h8
          obtain ⟨t2, m', b, g5, g6, g7⟩ := g4 k' j1
          have ha : a' + 1 + k' < 1000000 := by have := g_lt t2; omega
          have hm : m' < F.length := by have := g_lt g6; omega
          have hW2 := hW.2.2.2.2.2.1 L env.2.2.2.2.2.2.2.2.2.2.2
          have hk := hW2.2.2.2 k' j1
          have hC : CS1 G 2 ((pc, s ++ [v]), (ba, se, bk, cap), (F, ce, gc), (inp, out, th, st, lt, lf)) ((pc + 1, s ++ [0]), (ba, se, bk, cap), (F.set m' v, ce, gc), (inp, out, th, st, lt, lf)) :=
            ⟨s, v, u, s, F.set m' v, gc, rfl, q1, d1, hcap, Or.inr (Or.inl ⟨j2, k', a', _, m', by omega, by omega, j3, h7, g5, i64_32 _, hm, rfl, rfl, rfl⟩), rfl⟩
          refine g_r (j := 16) ⟨i, c, a, x, 6, h1, h2, h3, h4, Or.inl ⟨rfl, ⟨w, q2, d2⟩, Or.inl ⟨b, Or.inr ⟨h5, _, p, L, ks, by omega, j4, h6, g2, g7⟩, rfl⟩⟩⟩ ?_
          exact g_ci (ph := 100) hI hC (mz_pc (Nat.lt_succ_self pc) (Nat.le_of_lt hp)) hN (by decide) (relV ho hv (cor_setH cor g6 (Or.inl r)) env (vr_0 _) hd k)
      · have hp : pc < pCz G := op_lt hW j2 (by decide)
        have hC : CS1 G 2 ((pc, s ++ [v]), (ba, se, bk, cap), (F, ce, gc), (inp, out, th, st, lt, lf)) ((pc + 1, s ++ [0]), (ba, se, bk, cap), (F, ce, gc.set g v), (inp, out, th, st, lt, lf)) :=
          ⟨s, v, u, s, F, gc.set g v, rfl, q1, d1, hcap, Or.inr (Or.inr ⟨j2, g, by omega, j3, rfl, rfl, rfl⟩), rfl⟩
        refine g_r (j := 16) ⟨i, c, a, x, 6, h1, h2, h3, h4, Or.inl ⟨rfl, ⟨w, q2, d2⟩, Or.inr ⟨h5, g, by omega, j4, rfl⟩⟩⟩ ?_
        exact g_ci (ph := 100) hI hC (mz_pc (Nat.lt_succ_self pc) (Nat.le_of_lt hp)) hN (by decide) (relV ho hv (cor_setG cor (Or.inl r)) env (vr_0 _) hd k)
  · have hp : pc < pCz G := op_lt hW g4 (by decide)
    have hC : CS1 G 5 ((pc, s ++ [v]), (ba, se, bk, cap), (F, ce, gc), (inp, out, th, st, lt, lf)) ((pc + 1, s ++ [0]), (ba, se, bk, cap), (F, ce, gc.set g v), (inp, out, th, st, lt, lf)) :=
      ⟨g4, s, v, g, by omega, g5, rfl, hcap, rfl⟩
    refine g_r (j := 16) ⟨i, c, a, x, 10, h1, h2, h3, h4, Or.inr ⟨rfl, g2, g, by omega, g3, by omega, rfl⟩⟩ ?_
    exact g_ci (ph := 100) hI hC (mz_pc (Nat.lt_succ_self pc) (Nat.le_of_lt hp)) hN (by decide) (relV ho hv (cor_setG cor (Or.inl r)) env (vr_0 _) hd k)
theorem rep_s {k : Nat} {S0 : Shp} : S0 ++ List.replicate k none ++ [none] = S0 ++ List.replicate (k + 1) none := by
  rw [List.append_assoc, List.replicate_succ']
theorem sV_let {i p c li : Nat} {b p0 p1 p2 vs : List Nat} {t x y : Nat} {S0 : Shp} (hW : WG G) (hI : IHy G qv N) (hN : mu G pc bk lf * 200 + 100 ≤ N) (ho : out.length ≤ 1000) (hv : VR (Dv pm pl) lt lt') (cor : Cor G qv pm pl ty s sh wk F ce gc bx ps pa gr) (env : Env G pl (S0 ++ List.replicate p1.length none) L shl sll shf slf sh ba se bk cap sl bs pr op) (r : VR (Dv pm pl) v nw) (hd : (S0 ++ List.replicate p1.length none : Shp).length < pDm G L) (h1 : n = nI p) (h2 : p < pNn G) (h3 : m = nI i) (h4 : i < pNn G) (h5 : Chn G (G.1 24 i) (c :: li :: b)) (h6 : Chn G (G.1 24 li) p0) (h7 : p0 = p1 ++ p :: p2) (h8 : Pvs G p2 vs) (h9 : p0.length ≤ 8) (hf : Fu f td la) (h10 : Chn G (G.1 25 p) p2) (h11 : G.1 27 i = nI t) (h12 : t + p0.length ≤ pSn G L) (h13 : ∀ u, some u ∈ S0 → u < t) (h14 : S0.length + p0.length ≤ pDm G L) (h15 : Prs (fun v S pc e => Cod G L f v false S pc e) vs (S0 ++ List.replicate p1.length none ++ [none]) pc x) (h16 : Bod G (fun a la pc e => Cod G L f a la (S0 ++ bnd t p0.length) pc e) la b x y) (h17 : Sld G la p0.length y e) (k : Kn G pl cap td la e S0 L bk shl sll) (hb : Bnd ((none, nw, (5, n, m) :: td, wk), (sl, bs, pr), (bx, ps, pa, ce, gr), (inp, out, th, op, st, lt', lf)) := by assumption) :
    Gol G qv (mu G pc bk lf + 1) ((pc, s ++ [v]), (ba, se, bk, cap), (F, ce, gc), (inp, out, th, st, lt, lf)) ((none, nw, (5, n, m) :: td, wk), (sl, bs, pr), (bx, ps, pa, ce, gr), (inp, out, th, op, st, lt', lf)) := by
  have hf1 := hf.1
  have cor2 := cor_push cor r
  have env2 := env_push env hd
  rw [rep_s] at env2
  match p2, vs, h8 with
  | [], [], _ =>
    have h15 : x = pc := h15
    subst h15
    have e0 : p0.length = p1.length + 1 := by rw [h7]; simp
    obtain ⟨t0, c0, xs, wk', cw, ws, e1, e2, e3, e4, r0, rs, e5, corT, envT⟩ := call_split cor2 env2
    have corN := cor_new (xs := c0 :: xs) (ws := cw :: ws) corT (vus_of ⟨r0, rs⟩)
    have envN := env_bnd (s := t) (k := p0.length) (b := bx.length) envT h13 h12 h14
    rw [show (c0 :: xs).length = p0.length by simp; omega] at corN
    rw [← e1] at corN
    cases b with
    | nil => exact h16.elim
    | cons b0 d =>
      have hW2 := hW.2.2.2.2.2.1 L env.2.2.2.2.2.2.2.2.2.2.2
      have hsl2 : bs + t + p0.length ≤ sl.length := by
        rw [env.2.1, env.2.2.2.1, List.length_append, env.2.2.2.2.2.2.1]
        omega
      refine g_r (j := 18) ⟨p, i, c, li, b0, d, p0, t, cw :: ws, wk', h1, h2, h10, h3, h4, h5, h6, h9, e2, by simp; omega, h11, by omega, hsl2, rfl⟩ ?_
      exact hI f _ _ (rel_forms ho hv corN envN (chn_hd (chn_hd h5).2.2).2.2 h16 hf (kn_sld h9 h17 k)) (by show mu G x bk lf * 200 + f < N; omega)
  | q :: p2, v1 :: vs, ⟨⟨a, g1⟩, g2⟩ =>
    obtain ⟨x1, g3, g4⟩ := h15
    rw [rep_s] at g3 g4
    obtain ⟨d1, d2, d3⟩ := chn_hd h10
    have e0 : p0 = (p1 ++ [p]) ++ q :: p2 := by rw [h7]; simp
    refine g_r (j := 17) ⟨p, q, a, v1, h1, h2, d1, d2, g1, rfl⟩ (hI f _ _ (relF ho hv cor2 env2 g3 (fu_c (by decide) hf) ?_) (by show mu G pc bk lf * 200 + f < N; omega))
    unfold Kn
    exact ⟨x1, _, Or.inr ⟨rfl, 0, rfl, rfl⟩, Or.inr (Or.inr (Or.inr (Or.inr (Or.inr (Or.inr (Or.inl ⟨rfl, i, q, c, li, b, p0, p1 ++ [p], p2, vs, t, f, x, y, e, S0, la, rfl, d2, h3, h4, h5, h6, e0, g2, h9, hf, by simp, d3, h11, h12, h13, h14, g4, h16, h17, k⟩))))))⟩
theorem sV_letrec {i p c li : Nat} {b p0 p1 p2 vs : List Nat} {t x y : Nat} {S0 : Shp} (hW : WG G) (hI : IHy G qv N) (hN : mu G pc bk lf * 200 ≤ N) (ho : out.length ≤ 1000) (hv : VR (Dv pm pl) lt lt') (cor : Cor G qv pm pl ty s sh wk F ce gc bx ps pa gr) (env : Env G pl (S0 ++ bnd t p0.length) L shl sll shf slf sh ba se bk cap sl bs pr op) (r : VR (Dv pm pl) v nw) (h1 : n = nI p) (h2 : p < pNn G) (h3 : m = nI i) (h4 : i < pNn G) (h5 : Chn G (G.1 24 i) (c :: li :: b)) (h6 : Chn G (G.1 24 li) p0) (h7 : p0 = p1 ++ p :: p2) (h8 : Pvs G p2 vs) (h9 : p0.length ≤ 8) (hf : Fu f td la) (h10 : Chn G (G.1 25 p) p2) (h11 : G.1 27 i = nI t) (h12 : t + p0.length ≤ pSn G L) (o1 : G.1 1 pc = 23) (o2 : G.1 2 pc = nI (S0.length + p1.length)) (h15 : Lrs G (fun v pc e => Cod G L f v false (S0 ++ bnd t p0.length) pc e) vs (S0.length + p1.length + 1) (pc + 1) x) (h16 : Bod G (fun a la pc e => Cod G L f a la (S0 ++ bnd t p0.length) pc e) la b x y) (h17 : Sld G la p0.length y e) (k : Kn G pl cap td la e S0 L bk shl sll) (hb : Bnd ((none, nw, (6, n, m) :: td, wk), (sl, bs, pr), (bx, ps, pa, ce, gr), (inp, out, th, op, st, lt', lf)) := by assumption) :
    Gol G qv (mu G pc bk lf + 1) ((pc, s ++ [v]), (ba, se, bk, cap), (F, ce, gc), (inp, out, th, st, lt, lf)) ((none, nw, (6, n, m) :: td, wk), (sl, bs, pr), (bx, ps, pa, ce, gr), (inp, out, th, op, st, lt', lf)) := by
  have hf1 := hf.1
  have hp : pc < pCz G := op_lt hW o1 (by decide)
  have hW2 := hW.2.2.2.2.2.1 L env.2.2.2.2.2.2.2.2.2.2.2
  have hl := env_len env
  rw [List.length_append, bnd_len] at hl
  have hp1 : p1.length < p0.length := by rw [h7]; simp
  have hS : (S0 ++ bnd t p0.length)[S0.length + p1.length]? = some (some (t + p1.length)) := by
    rw [List.getElem?_append_right (by omega), Nat.add_sub_cancel_left]
    simp [bnd, hp1]
  obtain ⟨b', e1, e2⟩ := env_get env hS
  obtain ⟨s', F', g1, g2⟩ := cor_setS cor e1 (Or.inl r)
  have hC : CS1 G 4 ((pc, s ++ [v]), (ba, se, bk, cap), (F, ce, gc), (inp, out, th, st, lt, lf)) ((pc + 1, s'), (ba, se, bk, cap), (F', ce, gc), (inp, out, th, st, lt, lf)) :=
    ⟨o1, s, v, S0.length + p1.length, s', F', by omega, o2, rfl, g1, rfl⟩
  have hm : mu G (pc + 1) bk lf < mu G pc bk lf := mz_pc (Nat.lt_succ_self pc) (Nat.le_of_lt hp)
  rw [← Nat.add_assoc] at e2
  cases b with
  | nil => exact h16.elim
  | cons b0 d =>
    match p2, vs, h8 with
    | [], [], _ =>
      have h15 : x = pc + 1 := h15
      subst h15
      refine g_r (j := 19) ⟨p, i, c, li, b0, d, p1, [], t, b', h1, h2, h3, h4, h5, by rw [← h7]; exact h6, by omega, h11, by omega, e2, Or.inl ⟨rfl, rfl⟩⟩ ?_
      exact g_ci (ph := f) hI hC hm hN (by omega) (rel_forms ho hv g2 env (chn_hd (chn_hd h5).2.2).2.2 h16 hf (kn_sld h9 h17 k))
    | q :: p2, v1 :: vs, ⟨⟨a, g3⟩, g4⟩ =>
      obtain ⟨x1, g5, g6, g7, g8⟩ := h15
      obtain ⟨d1, d2, d3⟩ := chn_hd h10
      have e0 : p0 = (p1 ++ [p]) ++ q :: p2 := by rw [h7]; simp
      refine g_r (j := 19) ⟨p, i, c, li, b0, d, p1, q :: p2, t, b', h1, h2, h3, h4, h5, by rw [← h7]; exact h6, by omega, h11, by omega, e2, Or.inr ⟨q, p2, a, v1, rfl, g3, rfl⟩⟩ ?_
      refine g_ci (ph := f) hI hC hm hN (by omega) (relF ho hv g2 env g5 (fu_c (by decide) hf) ?_)
      unfold Kn
      refine ⟨x1, _, Or.inr ⟨rfl, 0, rfl, rfl⟩, Or.inr (Or.inr (Or.inr (Or.inr (Or.inr (Or.inr (Or.inr (Or.inl ⟨rfl, i, q, c, li, b0 :: d, p0, p1 ++ [p], p2, vs, t, f, x, y, e, S0, la, rfl, d2, h3, h4, h5, h6, e0, g4, h9, hf, rfl, d3, h11, h12, g6, ?_, ?_, h16, h17, k⟩)))))))⟩
      · rw [g7]; simp [Nat.add_assoc]
      · simpa [Nat.add_assoc] using g8
/-- all values -/
theorem sim_V (hW : WG G) (hI : IHy G qv N) (hN : mu G pc bk lf * 200 + 100 ≤ N) (ho : out.length ≤ 1000) (hv : VR (Dv pm pl) lt lt') (cor : Cor G qv pm pl ty s sh wk F ce gc bx ps pa gr) (env : Env G pl S L shl sll shf slf sh ba se bk cap sl bs pr op) (r : VR (Dv pm pl) v nw) (hd : S.length < pDm G L) (k : Kn G pl cap td false pc S L bk shl sll) (hb : Bnd ((none, nw, td, wk), (sl, bs, pr), (bx, ps, pa, ce, gr), (inp, out, th, op, st, lt', lf)) := by assumption) :
    Gol G qv (mu G pc bk lf + 1) ((pc, s ++ [v]), (ba, se, bk, cap), (F, ce, gc), (inp, out, th, st, lt, lf)) ((none, nw, td, wk), (sl, bs, pr), (bx, ps, pa, ce, gr), (inp, out, th, op, st, lt', lf)) := by
  have hN1 : mu G pc bk lf * 200 ≤ N := by omega
  cases td with
  | nil => exact k.elim
  | cons t0 td =>
    obtain ⟨k0, n, m⟩ := t0
    unfold Kn at k
    obtain ⟨pc1, S1, h0, h⟩ := k
    rcases h0 with ⟨h0, _⟩ | ⟨_, j, h0⟩
    · exact absurd h0 (by simp)
    cases j with
    | succ j =>
      rcases h0 with ⟨o1, x, x1, x2, x3, h0⟩ | ⟨o1, S', B, e1, e2, e3, e4, h0⟩
      · have hp : pc < pCz G := op_lt hW o1 (by decide)
        have k' : Kn G pl cap ((k0, n, m) :: td) false x S L bk shl sll := by
          unfold Kn
          exact ⟨pc1, S1, Or.inr ⟨rfl, j, h0⟩, h⟩
        have hC : CS1 G 15 ((pc, s ++ [v]), (ba, se, bk, cap), (F, ce, gc), (inp, out, th, st, lt, lf)) ((x, s ++ [v]), (ba, se, bk, cap), (F, ce, gc), (inp, out, th, st, lt, lf)) := ⟨o1, x, x2, x3, rfl⟩
        exact g_ci (ph := 100) hI hC (mz_pc x1 (Nat.le_of_lt hp)) hN1 (by decide) (relV ho hv cor env r hd k')
      · subst e1
        have k' : Kn G pl cap ((k0, n, m) :: td) false (pc + 1) S' L bk shl sll := by
          unfold Kn
          exact ⟨pc1, S1, Or.inr ⟨rfl, j, h0⟩, h⟩
        exact sV_slide hW hI hN1 ho hv cor env r hd o1 e4 e2 e3 k'
    | zero =>
      obtain ⟨rfl, rfl⟩ := h0
      rcases h with ⟨rfl, o1, hS, h⟩ | ⟨rfl, o1, rfl, rfl, rfl, rfl, rfl, rfl, rfl, l, q1, q2⟩ | ⟨rfl, o1, l, f, e, la', q1, q2, q3, q4⟩ | ⟨rfl, o1, i, c, a, b, d, f, y, z, e, la', q1, q2, q3, q4, q5, q6, q7, q8, q9, q10⟩ | ⟨hk, o1, l, f, x, e, la', q1, q2, q3, q4, q5, q6, q7, q8⟩ | ⟨rfl, i, c, a, x, w, q1, q2, q3, q4, q5, q6⟩ | ⟨rfl, i, p, c, li, b, ps0, p1, p2, vs, t, f, x, y, e, S0, la', q1, q2, q3, q4, q5, q6, q7, q8, q9, q10, q11, q12, q13, q14, q15, q16, q17, q18, q19, q20⟩ | ⟨rfl, i, p, c, li, b, ps0, p1, p2, vs, t, f, x, y, e, S0, la', q1, q2, q3, q4, q5, q6, q7, q8, q9, q10, q11, q12, q13, q14, q15, q16, q17, q18, q19, q20⟩ | ⟨rfl, i, p, c, q, q', f, x, S0, la', q1, q2, q3, q4, q5, q6, q7, q8, q9, q10, q11, q12, q13, q14, q15⟩
      · exact sV_ret hW hI hN1 ho hv cor env r hd (o1 rfl) hS h
      · exact sV_row hW hI hN1 ho cor env r o1 q1 q2
      · have hp : pc < pCz G := op_lt hW o1 (by decide)
        cases l with
        | nil => exact q3.elim
        | cons a b =>
          have hC : CS1 G 12 ((pc, s ++ [v]), (ba, se, bk, cap), (F, ce, gc), (inp, out, th, st, lt, lf)) ((pc + 1, s), (ba, se, bk, cap), (F, ce, gc), (inp, out, th, st, lt, lf)) := ⟨o1, s, v, rfl, rfl⟩
          have hf := q2.1
          exact g_r (j := 13) ⟨a, b, q1, rfl⟩ (g_ci (ph := f) hI hC (mz_pc (Nat.lt_succ_self pc) (Nat.le_of_lt hp)) hN1 (by omega) (rel_forms ho hv cor env q1 q3 q2 q4))
      · have hp : pc < pCz G := op_lt hW o1 (by decide)
        have hf := q4.1
        have p7 := cod_pc q7
        have p9 := cod_pc q9
        have hC : CS1 G 16 ((pc, s ++ [v]), (ba, se, bk, cap), (F, ce, gc), (inp, out, th, st, lt, lf)) ((if vkd v = 2 then z else pc + 1, s), (ba, se, bk, cap), (F, ce, gc), (inp, out, th, st, lt, lf)) := ⟨o1, s, v, z, rfl, by omega, q5, rfl⟩
        have hR : RS1 G qv 14 ((none, nw, (1, n, m) :: td, wk), (sl, bs, pr), (bx, ps, pa, ce, gr), (inp, out, th, op, st, lt', lf)) ((some (if nw = vof 2 0 then d else b), nw, td, wk), (sl, bs, pr), (bx, ps, pa, ce, gr), (inp, out, th, op, st, lt', lf)) := ⟨i, c, a, b, d, q1, q2, q3, rfl⟩
        by_cases c1 : vkd v = 2
        · rw [if_pos c1] at hC
          rw [if_pos ((vr_Fa r).mp c1)] at hR
          exact g_r hR (g_ci (ph := f) hI hC (mz_pc q6 (Nat.le_of_lt hp)) hN1 (by omega) (relF ho hv cor env q9 (fu_v q4) q10))
        · rw [if_neg c1] at hC
          rw [if_neg (fun c2 => c1 ((vr_Fa r).mpr c2))] at hR
          refine g_r hR (g_ci (ph := f) hI hC (mz_pc (Nat.lt_succ_self pc) (Nat.le_of_lt hp)) hN1 (by omega) (relF ho hv cor env q7 (fu_v q4) ?_))
          rcases q8 with ⟨rfl, _⟩ | ⟨rfl, j1, j2, j3, _⟩
          · exact kn_true (kn_ns q10) q10
          · exact kn_jmp j1 j2 j3 (by omega) q10
      · have hp : pc < pCz G := op_lt hW o1 (by rcases hk with rfl | rfl <;> decide)
        have hf := q2.1
        cases l with
        | nil => exact q6.elim
        | cons a b =>
          have ho2 : G.1 1 pc = 28 ∨ G.1 1 pc = 29 := by rcases hk with rfl | rfl <;> simp_all
          have hk2 : G.1 1 pc = 28 ↔ k0 = 2 := by
            rcases hk with rfl | rfl
            · simp at o1; simp [o1]
            · simp at o1; rw [o1]; decide
          have heq : (vkd v = 2 ↔ G.1 1 pc = 28) ↔ (nw = vof 2 0 ↔ k0 = 2) := by rw [vr_Fa r, hk2]
          have hC : CS1 G 17 ((pc, s ++ [v]), (ba, se, bk, cap), (F, ce, gc), (inp, out, th, st, lt, lf)) (if (vkd v = 2 ↔ G.1 1 pc = 28) then (x, s ++ [v]) else (pc + 1, s), (ba, se, bk, cap), (F, ce, gc), (inp, out, th, st, lt, lf)) := ⟨ho2, s, v, x, rfl, q5, q3, rfl⟩
          have hR : RS1 G qv 15 ((none, nw, (k0, n, m) :: td, wk), (sl, bs, pr), (bx, ps, pa, ce, gr), (inp, out, th, op, st, lt', lf)) ((if (nw = vof 2 0 ↔ k0 = 2) then none else some a, nw, if (nw = vof 2 0 ↔ k0 = 2) then td else chs k0 (a :: b) td, wk), (sl, bs, pr), (bx, ps, pa, ce, gr), (inp, out, th, op, st, lt', lf)) := ⟨hk, a, b, q1, rfl⟩
          by_cases c1 : (vkd v = 2 ↔ G.1 1 pc = 28)
          · rw [if_pos c1] at hC
            rw [if_pos (heq.mp c1), if_pos (heq.mp c1)] at hR
            exact g_r hR (g_ci (ph := 100) hI hC (mz_pc q4 (Nat.le_of_lt hp)) hN1 (by decide) (relV ho hv cor env r hd (kn_gb q7 q8)))
          · rw [if_neg c1] at hC
            rw [if_neg (fun c2 => c1 (heq.mpr c2)), if_neg (fun c2 => c1 (heq.mpr c2))] at hR
            refine g_r hR (g_ci (ph := f) hI hC (mz_pc (Nat.lt_succ_self pc) (Nat.le_of_lt hp)) hN1 (by omega) (rel_until hk ho hv cor env q1 q6 q5 q2 (fun hb => ?_) (fun _ => ⟨e, q7, q8⟩)))
            rcases q7 with ⟨rfl, _, _⟩ | ⟨rfl, rfl⟩
            · exact kn_true (kn_ns q8) q8
            · exact q8
      · exact sV_set hW hI hN1 ho hv cor env r hd q1.1 q2 q3 q4 q5 q6
      · subst q11
        exact sV_let hW hI hN ho hv cor env r hd q1 q2 q3 q4 q5 q6 q7 q8 q9 q10 q12 q13 q14 q15 q16 q17 q18 q19 q20
      · subst q11
        exact sV_letrec hW hI hN1 ho hv cor env r q1 q2 q3 q4 q5 q6 q7 q8 q9 q10 q12 q13 q14 q15 q16 q17 q18 q19 q20
      · subst q10
        have hf := q9.1
        have cor2 := cor_push cor r
        have env2 := env_push env hd
        rw [rep_s] at env2
        generalize hrest : (c :: q').drop (q.length + 1) = rest at q7 q8 q11
        cases rest with
        | nil =>
          have q11 : x = pc := q11
          subst q11
          have e0 : q.length = q'.length := by
            have := congrArg List.length q7
            simp at this
            omega
          rw [e0] at env2
          exact sim_ap hW hI hN1 ho hv cor2 env2 (A := (none, nw, (7, n, m) :: td, wk)) ⟨rfl, 7, n, m, rfl, Or.inl ⟨rfl, p, q1, q2, q8, q3, rfl⟩⟩ q4 q5 q6 q12 q13 q14 q15 q9.2
        | cons p' rest =>
          obtain ⟨d1, d2, d3⟩ := chn_hd q8
          obtain ⟨x1, g1, g2⟩ := q11
          rw [rep_s] at g1 g2
          have e1 : (c :: q').drop (q.length + 1 + 1) = rest := by
            rw [← List.drop_drop, hrest]; rfl
          refine g_r (j := 20) ⟨p, p', q1, q2, d1, d2, rfl⟩ (hI f _ _ (relF ho hv cor2 env2 g1 (fu_c (by decide) q9) ?_) (by show mu G pc bk lf * 200 + f < N; omega))
          unfold Kn
          refine ⟨x1, _, Or.inr ⟨rfl, 0, rfl, rfl⟩, Or.inr (Or.inr (Or.inr (Or.inr (Or.inr (Or.inr (Or.inr (Or.inr ⟨rfl, i, p', c, q ++ [p], q', f, x, S0, la', rfl, d2, q3, q4, q5, q6, ?_, ?_, q9, by simp, ?_, q12, q13, q14, q15⟩)))))))⟩
          · rw [List.length_append, List.length_singleton, e1]; simp [q7]
          · rw [List.length_append, List.length_singleton, e1]; exact d3
          · rw [List.length_append, List.length_singleton, e1]; exact g2
end SIV
/-- THE SIMULATION -/
theorem sim_all {G : PG} {qv : Nat → Int64} (hW : WG G) : ∀ N, IHy G qv N := by
  intro N
  induction N with
  | zero => intro ph z y _ h; omega
  | succ N ih =>
    intro ph z y h hN
    obtain ⟨⟨pc, s⟩, ⟨ba, se, bk, cap⟩, ⟨F, ce, gc⟩, ⟨inp, out, th, st, lt, lf⟩⟩ := z
    obtain ⟨⟨md, nw, td, wk⟩, ⟨sl, bs, pr⟩, ⟨bx, ps, pa, ce', gr⟩, ⟨inp', out', th', op, st', lt', bu⟩⟩ := y
    have hb := rel_bnd hW h
    obtain ⟨⟨rfl, rfl, rfl, rfl, rfl, rfl, ho⟩, pm, pl, ty, sh, s0, S, L, shl, sll, shf, slf, hv, cor, env, h⟩ := h
    have hN : mu G pc bk bu * 200 + ph ≤ N := Nat.lt_succ_iff.mp hN
    show Gol G qv (mu G pc bk bu + 1) _ _
    rcases h with ⟨n, f, la, ex, rfl, rfl, h1, h2, h3, h4⟩ | ⟨v, rfl, rfl, h1, h2, h3, h4⟩ | ⟨rfl, rfl, i, c, l, S0, la, td', rfl, h1, h2, h3, rfl, h4, h5, h6, h7, h8⟩ | ⟨rfl, rfl, rfl, rfl, rfl, rfl, rfl, rfl, h1, n, l, rfl, h2, h3⟩
    · exact sim_F hW ih (by omega) ho hv cor env h1 h2 h4
    · exact sim_V hW ih (by omega) ho hv cor env h1 h2 h4
    · exact sim_ap hW ih (by omega) ho hv cor env (A := (none, nw, (10, nI i, 0) :: td', wk)) ⟨rfl, 10, nI i, 0, rfl, Or.inr ⟨rfl, rfl, rfl⟩⟩ h1 h2 h3 h4 h5 h6 h8 h7
    · have hs : s0 = [] := by
        have h1 := wks_len cor.2.2.2.2.1
        have h2 := (env_len env).1
        have h3 := env.2.2.1
        simp at h2 h3
        exact List.length_eq_zero_iff.mp (by omega)
      subst hs
      cases l with
      | nil => exact g_e (j := 0) (j' := 0) (r := 0) ⟨h3, rfl⟩ ⟨h2, rfl, Or.inl ⟨rfl, rfl⟩⟩ (fnl_err (Or.inl rfl) ho hv cor env)
      | cons a l =>
        obtain ⟨x, f, q1, q2, q3, q4⟩ := h3
        obtain ⟨c1, c2, c3⟩ := chn_hd h2
        exact g_r (j := 12) ⟨a, c1, c2, Or.inl ⟨rfl, rfl⟩⟩ (ih f _ _ (rel_row ho hv cor env q1 q2 c3 q3 q4) (by show mu G pc [] bu * 200 + f < N; omega))
