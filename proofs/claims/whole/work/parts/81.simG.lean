/-! a list form is worked -/
section SIG
variable {G : PG} {qv : Nat → Int64} {N pc : Nat} {s : List Int64} {ba : Nat} {se : Int32} {bk : List BK} {cap : Nat} {F : List Int64} {ce : Nat} {gc : List Int64} {inp out : List Int32} {th st : Nat} {lt : Int64} {lf : Nat} {n : Nat} {nw : Int64} {td : List TD} {wk : List Int64} {sl : List Nat} {bs : Nat} {pr : Option Nat} {bx : List Int64} {ps : List (Nat × List Nat)} {pa : List (Int64 × Int64)} {gr : List Int64} {op : Nat} {lt' : Int64} {pm : List Nat} {pl : List (Nat × Nat)} {ty : TY} {sh : List Nat} {S : Shp} {L : Nat} {shl sll shf slf : List Nat} {la : Bool} {e f : Nat}
theorem cnt_c {k : Nat} {n m : Int32} (h : k ≠ 8) : cnt ((k, n, m) :: td) = cnt td + 1 := by simp [cnt, h]
theorem fu_v (h : Fu f td la) : Fvq f td la := ⟨by have := h.1; omega, h.2⟩
theorem fv_u (h : Fvq (f + 1) td la) : Fu f td la := ⟨by have := h.1; omega, h.2⟩
theorem fu_c {k : Nat} {n m : Int32} (hk : k ≠ 8) (h : Fu f td la) : Fvq f ((k, n, m) :: td) false := ⟨by rw [cnt_c hk]; have := h.1; omega, fun _ => ⟨_, _, rfl, hk⟩⟩
theorem chn_hd {c : Int32} {a : Nat} {l : List Nat} (h : Chn G c (a :: l)) : c = nI a ∧ a < pNn G ∧ Chn G (G.1 25 a) l := h
/-- a row of forms begins -/
theorem rel_forms {a : Nat} {b : List Nat} {c0 : Int32} (ho : out.length ≤ 1000) (hv : VR (Dv pm pl) lt lt') (cor : Cor G qv pm pl ty s sh wk F ce gc bx ps pa gr) (env : Env G pl S L shl sll shf slf sh ba se bk cap sl bs pr op) (hc : Chn G c0 (a :: b)) (hB : Bod G (fun a la pc e => Cod G L f a la S pc e) la (a :: b) pc e) (hf : Fu f td la) (k : Kn G pl cap td la e S L bk shl sll) : Rel G qv f ((pc, s), (ba, se, bk, cap), (F, ce, gc), (inp, out, th, st, lt, lf)) ((some a, nw, chs 0 (a :: b) td, wk), (sl, bs, pr), (bx, ps, pa, ce, gr), (inp, out, th, op, st, lt', lf)) := by
  cases b with
  | nil => exact relF ho hv cor env hB (fu_v hf) k
  | cons b1 b =>
    obtain ⟨x, h1, h2, h3⟩ := hB
    refine relF ho hv cor env h1 (fu_c (by decide) hf) ?_
    unfold chs Kn
    have hc2 := (chn_hd hc).2.2
    exact ⟨x, S, Or.inr ⟨rfl, 0, rfl, rfl⟩, Or.inr (Or.inr (Or.inl ⟨rfl, h2, b1 :: b, f, e, la, ⟨rfl, hc2.2⟩, hf, h3, k⟩))⟩
/-- and, or -/
theorem rel_until {a k' : Nat} {b : List Nat} {c0 : Int32} {x : Nat} (hk : k' = 2 ∨ k' = 3) (ho : out.length ≤ 1000) (hv : VR (Dv pm pl) lt lt') (cor : Cor G qv pm pl ty s sh wk F ce gc bx ps pa gr) (env : Env G pl S L shl sll shf slf sh ba se bk cap sl bs pr op) (hc : Chn G c0 (a :: b)) (hB : Unt G (fun a la pc e => Cod G L f a la S pc e) la (if k' = 2 then 28 else 29) (a :: b) pc x) (hx : x ≤ pCz G) (hf : Fu f td la) (k1 : b = [] → Kn G pl cap td la x S L bk shl sll) (k2 : b ≠ [] → ∃ e, Gb G la x e ∧ Kn G pl cap td la e S L bk shl sll) : Rel G qv f ((pc, s), (ba, se, bk, cap), (F, ce, gc), (inp, out, th, st, lt, lf)) ((some a, nw, chs k' (a :: b) td, wk), (sl, bs, pr), (bx, ps, pa, ce, gr), (inp, out, th, op, st, lt', lf)) := by
  cases b with
  | nil => exact relF ho hv cor env hB (fu_v hf) (k1 rfl)
  | cons b1 b =>
    obtain ⟨y, h1, h4, h2, h3, h5⟩ := hB
    obtain ⟨e, k3, k4⟩ := k2 (by simp)
    refine relF ho hv cor env h1 (fu_c (by omega) hf) ?_
    unfold chs Kn
    have hc2 := (chn_hd hc).2.2
    exact ⟨y, S, Or.inr ⟨rfl, 0, rfl, rfl⟩, Or.inr (Or.inr (Or.inr (Or.inr (Or.inl ⟨hk, h2, b1 :: b, f, x, e, la, ⟨rfl, hc2.2⟩, hf, h3, h4, hx, h5, k3, k4⟩))))⟩
theorem sF_if {c a b d x y z : Nat} (hI : IHy G qv N) (hN : mu G pc bk lf * 200 + f < N) (hn : n < pNn G) (ho : out.length ≤ 1000) (hv : VR (Dv pm pl) lt lt') (cor : Cor G qv pm pl ty s sh wk F ce gc bx ps pa gr) (env : Env G pl S L shl sll shf slf sh ba se bk cap sl bs pr op) (h4 : G.1 21 n = 4) (hc : Chn G (G.1 24 n) [c, a, b, d]) (hw : Fw G c 3) (hf : Fu f td la) (q1 : Cod G L f a false S pc x) (q2 : G.1 1 x = 27) (q3 : G.1 2 x = nI z) (q4 : Cod G L f b la S (x + 1) y) (q5 : (la = true ∧ z = y) ∨ (la = false ∧ G.1 1 y = 26 ∧ G.1 2 y = nI e ∧ z = y + 1)) (q6 : Cod G L f d la S z e) (k : Kn G pl cap td la e S L bk shl sll) (hb : Bnd ((some n, nw, td, wk), (sl, bs, pr), (bx, ps, pa, ce, gr), (inp, out, th, op, st, lt', lf)) := by assumption) :
    Gol G qv (mu G pc bk lf + 1) ((pc, s), (ba, se, bk, cap), (F, ce, gc), (inp, out, th, st, lt, lf)) ((some n, nw, td, wk), (sl, bs, pr), (bx, ps, pa, ce, gr), (inp, out, th, op, st, lt', lf)) := by
  have p4 := cod_pc q4
  have p6 := cod_pc q6
  refine g_r (j := 4) ⟨hn, h4, c, a, b, d, hc, hw, rfl⟩ (hI f _ _ (relF ho hv cor env q1 (fu_c (by decide) hf) ?_) hN)
  unfold Kn
  refine ⟨x, S, Or.inr ⟨rfl, 0, rfl, rfl⟩, Or.inr (Or.inr (Or.inr (Or.inl ⟨rfl, q2, n, c, a, b, d, f, y, z, e, la, rfl, hn, hc, hf, q3, ?_, q4, ?_, q6, k⟩)))⟩
  · rcases q5 with ⟨_, h⟩ | ⟨_, _, _, h⟩ <;> omega
  · rcases q5 with h | ⟨h1, h2, h3, h⟩
    · exact Or.inl h
    · exact Or.inr ⟨h1, h2, h3, by omega, h⟩
theorem sF_let {c i : Nat} {b p0 vs : List Nat} {t x y : Nat} (hI : IHy G qv N) (hN : mu G pc bk lf * 200 + f < N) (hn : n < pNn G) (ho : out.length ≤ 1000) (hv : VR (Dv pm pl) lt lt') (cor : Cor G qv pm pl ty s sh wk F ce gc bx ps pa gr) (env : Env G pl S L shl sll shf slf sh ba se bk cap sl bs pr op) (h4 : G.1 21 n = 4) (hc : Chn G (G.1 24 n) (c :: i :: b)) (hw : Fw G c 4) (hf : Fu f td la) (q1 : Chn G (G.1 24 i) p0) (q2 : Pvs G p0 vs) (q3 : p0.length ≤ 8) (q4 : G.1 27 n = nI t) (q5 : t + p0.length ≤ pSn G L) (q6 : ∀ u, some u ∈ S → u < t) (q7 : S.length + p0.length ≤ pDm G L) (q8 : Prs (fun v S pc e => Cod G L f v false S pc e) vs S pc x) (q9 : Bod G (fun a la pc e => Cod G L f a la (S ++ bnd t p0.length) pc e) la b x y) (q10 : Sld G la p0.length y e) (k : Kn G pl cap td la e S L bk shl sll) (hb : Bnd ((some n, nw, td, wk), (sl, bs, pr), (bx, ps, pa, ce, gr), (inp, out, th, op, st, lt', lf)) := by assumption) :
    Gol G qv (mu G pc bk lf + 1) ((pc, s), (ba, se, bk, cap), (F, ce, gc), (inp, out, th, st, lt, lf)) ((some n, nw, td, wk), (sl, bs, pr), (bx, ps, pa, ce, gr), (inp, out, th, op, st, lt', lf)) := by
  match p0, vs, q2 with
  | [], [], _ =>
    have q8 : x = pc := q8
    subst q8
    cases b with
    | nil => exact q9.elim
    | cons a b =>
      have e0 : S ++ bnd t ([] : List Nat).length = S := by simp [bnd]
      rw [e0] at q9
      have k := kn_sld (s := t) (Nat.zero_le 8) q10 k
      rw [show S ++ bnd t 0 = S by simp [bnd]] at k
      exact g_r (j := 6) ⟨hn, h4, c, i, a, b, hc, hw, q1, rfl⟩ (hI f _ _ (rel_forms ho hv cor env (chn_hd (chn_hd hc).2.2).2.2 q9 hf k) hN)
  | p :: l, v :: vs, ⟨⟨a, g1⟩, g2⟩ =>
    obtain ⟨x1, g3, g4⟩ := q8
    refine g_r (j := 5) ⟨hn, h4, c, i, b, p, l, a, v, hc, hw, q1, g1, rfl⟩ (hI f _ _ (relF ho hv cor env g3 (fu_c (by decide) hf) ?_) hN)
    unfold Kn
    have h := chn_hd q1
    exact ⟨x1, S, Or.inr ⟨rfl, 0, rfl, rfl⟩, Or.inr (Or.inr (Or.inr (Or.inr (Or.inr (Or.inr (Or.inl ⟨rfl, n, p, c, i, b, p :: l, [], l, vs, t, f, x, y, e, S, la, rfl, h.2.1, rfl, hn, hc, q1, rfl, g2, q3, hf, by simp, h.2.2, q4, q5, q6, q7, g4, q9, q10, k⟩))))))⟩
theorem sF_letrec {c i : Nat} {b p0 vs : List Nat} {t x y : Nat} (hI : IHy G qv N) (hW : WG G) (hN : mu G pc bk lf * 200 ≤ N) (hp : pc < pCz G) (hf40 : f < 100) (hn : n < pNn G) (ho : out.length ≤ 1000) (hv : VR (Dv pm pl) lt lt') (cor : Cor G qv pm pl ty s sh wk F ce gc bx ps pa gr) (env : Env G pl S L shl sll shf slf sh ba se bk cap sl bs pr op) (h4 : G.1 21 n = 4) (hc : Chn G (G.1 24 n) (c :: i :: b)) (hw : Fw G c 5) (hf : Fu f td la) (q1 : Chn G (G.1 24 i) p0) (q2 : Pvs G p0 vs) (q3 : p0.length ≤ 8) (q4 : G.1 27 n = nI t) (q5 : t + p0.length ≤ pSn G L) (q6 : ∀ u, some u ∈ S → u < t) (q7 : S.length + p0.length ≤ pDm G L) (o1 : G.1 1 pc = 22) (o2 : G.1 2 pc = nI p0.length) (q8 : Lrs G (fun v pc e => Cod G L f v false (S ++ bnd t p0.length) pc e) vs S.length (pc + 1) x) (q9 : Bod G (fun a la pc e => Cod G L f a la (S ++ bnd t p0.length) pc e) la b x y) (q10 : Sld G la p0.length y e) (k : Kn G pl cap td la e S L bk shl sll) (hb : Bnd ((some n, nw, td, wk), (sl, bs, pr), (bx, ps, pa, ce, gr), (inp, out, th, op, st, lt', lf)) := by assumption) :
    Gol G qv (mu G pc bk lf + 1) ((pc, s), (ba, se, bk, cap), (F, ce, gc), (inp, out, th, st, lt, lf)) ((some n, nw, td, wk), (sl, bs, pr), (bx, ps, pa, ce, gr), (inp, out, th, op, st, lt', lf)) := by
  have hl := env_len env
  have hsl := wks_len cor.2.2.2.2.1
  have hcap : s.length + p0.length ≤ cap := by omega
  have hm : mu G (pc + 1) bk lf < mu G pc bk lf := mz_pc (Nat.lt_succ_self pc) (Nat.le_of_lt hp)
  match p0, vs, q2 with
  | [], [], _ =>
    have q8 : x = pc + 1 := q8
    subst q8
    cases b with
    | nil => exact q9.elim
    | cons a b =>
      have e0 : S ++ bnd t ([] : List Nat).length = S := by simp [bnd]
      rw [e0] at q9
      have k := kn_sld (s := t) (Nat.zero_le 8) q10 k
      rw [show S ++ bnd t 0 = S by simp [bnd]] at k
      have hC : CS1 G 3 ((pc, s), (ba, se, bk, cap), (F, ce, gc), (inp, out, th, st, lt, lf)) ((pc + 1, s), (ba, se, bk, cap), (F, ce, gc), (inp, out, th, st, lt, lf)) := ⟨o1, 0, by decide, o2, hcap, by simp⟩
      exact g_r (j := 8) ⟨hn, h4, c, i, a, b, hc, hw, q1, rfl⟩ (g_ci (ph := f) hI hC hm hN (by omega) (rel_forms ho hv cor env (chn_hd (chn_hd hc).2.2).2.2 q9 hf k))
  | p :: l, v :: vs, ⟨⟨a, g1⟩, g2⟩ =>
    obtain ⟨x1, g3, g4, g5, g6⟩ := q8
    have h := chn_hd q1
    have hsn := (hW.2.2.2.2.2.1 L env.2.2.2.2.2.2.2.2.2.2.2).2.1
    have hC : CS1 G 3 ((pc, s), (ba, se, bk, cap), (F, ce, gc), (inp, out, th, st, lt, lf)) ((pc + 1, s ++ List.replicate (p :: l).length (vof 9 0)), (ba, se, bk, cap), (F, ce, gc), (inp, out, th, st, lt, lf)) := ⟨o1, _, q3, o2, hcap, rfl⟩
    have hsl2 : bs + t + (l.length + 1) ≤ sl.length := by
      rw [env.2.1, env.2.2.2.1, List.length_append, env.2.2.2.2.2.2.1]
      simp only [List.length_cons] at q5
      omega
    refine g_r (j := 7) ⟨hn, h4, c, i, b, p, l, a, v, t, hc, hw, q1, g1, by simp at q3; omega, q4, by omega, hsl2, rfl⟩ (g_ci (ph := f) hI hC hm hN (by omega) ?_)
    have corN := cor_new cor (vus_rep (Dv pm pl) (p :: l).length)
    rw [List.length_replicate] at corN
    refine relF ho hv corN (env_bnd (b := bx.length) env q6 q5 q7) g3 (fu_c (by decide) hf) ?_
    unfold Kn
    exact ⟨x1, _, Or.inr ⟨rfl, 0, rfl, rfl⟩, Or.inr (Or.inr (Or.inr (Or.inr (Or.inr (Or.inr (Or.inr (Or.inl ⟨rfl, n, p, c, i, b, p :: l, [], l, vs, t, f, x, y, e, S, la, rfl, h.2.1, rfl, hn, hc, q1, rfl, g2, q3, hf, rfl, h.2.2, q4, q5, g4, g5, g6, q9, q10, k⟩)))))))⟩
theorem sF_set {c a v x w : Nat} (hI : IHy G qv N) (hN : mu G pc bk lf * 200 + f < N) (hn : n < pNn G) (ho : out.length ≤ 1000) (hv : VR (Dv pm pl) lt lt') (cor : Cor G qv pm pl ty s sh wk F ce gc bx ps pa gr) (env : Env G pl S L shl sll shf slf sh ba se bk cap sl bs pr op) (h4 : G.1 21 n = 4) (hc : Chn G (G.1 24 n) [c, a, v]) (hw : Fw G c w) (hf : Fu f td la) (q1 : Cod G L f v false S pc x) (q2 : (w = 6 ∧ Vrb G L S a x 19) ∨ (w = 10 ∧ ∃ g, g < pDf G ∧ G.1 26 a = 3 ∧ G.1 27 a = nI g ∧ G.1 1 x = 24 ∧ G.1 2 x = nI g)) (k : Kn G pl cap td false (x + 1) S L bk shl sll) (hb : Bnd ((some n, nw, td, wk), (sl, bs, pr), (bx, ps, pa, ce, gr), (inp, out, th, op, st, lt', lf)) := by assumption) :
    Gol G qv (mu G pc bk lf + 1) ((pc, s), (ba, se, bk, cap), (F, ce, gc), (inp, out, th, st, lt, lf)) ((some n, nw, td, wk), (sl, bs, pr), (bx, ps, pa, ce, gr), (inp, out, th, op, st, lt', lf)) := by
  refine g_r (j := 9) ⟨hn, h4, c, a, v, w, hc, hw, q2.elim (fun h => Or.inl h.1) (fun h => Or.inr h.1), rfl⟩ (hI f _ _ (relF ho hv cor env q1 (fu_c (by decide) hf) ?_) hN)
  unfold Kn
  exact ⟨x, S, Or.inr ⟨rfl, 0, rfl, rfl⟩, Or.inr (Or.inr (Or.inr (Or.inr (Or.inr (Or.inl ⟨rfl, n, c, a, v, w, ⟨rfl, by have := hf.1; omega⟩, hn, hc, hw, q2, k⟩)))))⟩
theorem sF_call {c x : Nat} {l : List Nat} (hI : IHy G qv N) (hN : mu G pc bk lf * 200 + f < N) (hn : n < pNn G) (ho : out.length ≤ 1000) (hv : VR (Dv pm pl) lt lt') (cor : Cor G qv pm pl ty s sh wk F ce gc bx ps pa gr) (env : Env G pl S L shl sll shf slf sh ba se bk cap sl bs pr op) (h4 : G.1 21 n = 4) (hc : Chn G (G.1 24 n) (c :: l)) (hw : Fw G c 0) (hf : Fu f td la) (q0 : l.length ≤ 8) (hd : S.length < pDm G L) (q1 : Prs (fun v S pc e => Cod G L f v false S pc e) (c :: l) S pc x) (q2 : G.1 1 x = (if la then 33 else 32)) (q3 : G.1 2 x = nI l.length) (k : Kn G pl cap td la (x + 1) S L bk shl sll) (hb : Bnd ((some n, nw, td, wk), (sl, bs, pr), (bx, ps, pa, ce, gr), (inp, out, th, op, st, lt', lf)) := by assumption) :
    Gol G qv (mu G pc bk lf + 1) ((pc, s), (ba, se, bk, cap), (F, ce, gc), (inp, out, th, st, lt, lf)) ((some n, nw, td, wk), (sl, bs, pr), (bx, ps, pa, ce, gr), (inp, out, th, op, st, lt', lf)) := by
  obtain ⟨x1, g1, g2⟩ := q1
  have h := chn_hd hc
  refine g_r (j := 11) ⟨hn, h4, c, l, hc, hw, rfl⟩ (hI f _ _ (relF ho hv cor env g1 (fu_c (by decide) hf) ?_) hN)
  unfold Kn
  exact ⟨x1, S, Or.inr ⟨rfl, 0, rfl, rfl⟩, Or.inr (Or.inr (Or.inr (Or.inr (Or.inr (Or.inr (Or.inr (Or.inr ⟨rfl, n, c, c, [], l, f, x, S, la, rfl, h.2.1, rfl, hn, hc, q0, by simp, h.2.2, hf, by simp, g2, q2, q3, hd, k⟩)))))))⟩
theorem unt_le {K : Nat → Bool → Nat → Nat → Prop} (hK : ∀ a la pc e, K a la pc e → e ≤ pCz G) {o : Int32} : ∀ {l : List Nat} {pc e : Nat}, Unt G K la o l pc e → e ≤ pCz G
  | [], _, _, h => h.elim
  | [_], _, _, h => hK _ _ _ _ h
  | _ :: b :: l, _, _, h => by
    obtain ⟨x, _, _, _, _, h⟩ := h
    exact unt_le hK h
/-- all forms -/
theorem sim_F (hW : WG G) (hI : IHy G qv N) (hN : mu G pc bk lf * 200 + f ≤ N) (ho : out.length ≤ 1000) (hv : VR (Dv pm pl) lt lt') (cor : Cor G qv pm pl ty s sh wk F ce gc bx ps pa gr) (env : Env G pl S L shl sll shf slf sh ba se bk cap sl bs pr op) (hc : Cod G L f n la S pc e) (hf : Fvq f td la) (k : Kn G pl cap td la e S L bk shl sll) (hb : Bnd ((some n, nw, td, wk), (sl, bs, pr), (bx, ps, pa, ce, gr), (inp, out, th, op, st, lt', lf)) := by assumption) :
    Gol G qv (mu G pc bk lf + 1) ((pc, s), (ba, se, bk, cap), (F, ce, gc), (inp, out, th, st, lt, lf)) ((some n, nw, td, wk), (sl, bs, pr), (bx, ps, pa, ce, gr), (inp, out, th, op, st, lt', lf)) := by
  cases f with
  | zero => exact hc.elim
  | succ f =>
    have hN1 : mu G pc bk lf * 200 ≤ N := by omega
    have hN2 : mu G pc bk lf * 200 + f < N := by omega
    have hf2 : Fu f td la := fv_u hf
    have hf3 : f < 100 := by have := hf.1; omega
    obtain ⟨hn, hd, p1, p2, h⟩ := hc
    rcases h with ⟨h1, h2⟩ | ⟨h4, c, l, w, hc, hw, h⟩
    · exact sF_leaf hW hI hN1 p1 p2 hn ho hv cor env h1 hd h2 k
    · rcases h with ⟨rfl, a, rfl, q1, q2, q3, q4⟩ | ⟨rfl, M, x, q1, q2, q3, q4, q5, q6, q7, q8, q9, q10⟩ | ⟨rfl, a, b, d, x, y, z, rfl, q1, q2, q3, q4, q5, q6⟩ | ⟨rfl, i, b, p0, vs, t, x, y, rfl, q1, q2, q3, q4, q5, q6, q7, q8, q9, q10⟩ | ⟨rfl, i, b, p0, vs, t, x, y, rfl, q1, q2, q3, q4, q5, q6, q7, o1, o2, q8, q9, q10⟩ | ⟨rfl, a, v, x, rfl, q1, q2, q3⟩ | ⟨rfl, a, v, x, g, rfl, q1, q2, q3, q4, q5, q6, rfl, rfl⟩ | ⟨rfl, q1⟩ | ⟨hw2, x, q1, q2⟩ | ⟨rfl, q0, x, q1, q2, q3, rfl⟩
      · exact sF_quote hI hN1 p1 p2 hn ho hv cor env h4 hc hw q1 q2 q3 hd q4 k
      · exact sF_lam hW hI hN1 p1 p2 hn ho hv cor env h4 hc hw q1 q2 q3 q4 q5 q6 q7 q8 q9 hd q10 k
      · exact sF_if hI hN2 hn ho hv cor env h4 hc hw hf2 q1 q2 q3 q4 q5 q6 k
      · exact sF_let hI hN2 hn ho hv cor env h4 hc hw hf2 q1 q2 q3 q4 q5 q6 q7 q8 q9 q10 k
      · exact sF_letrec hI hW hN1 (by omega) hf3 hn ho hv cor env h4 hc hw hf2 q1 q2 q3 q4 q5 q6 q7 o1 o2 q8 q9 q10 k
      · exact sF_set hI hN2 hn ho hv cor env h4 hc hw hf2 q1 (Or.inl ⟨rfl, q2⟩) (kn_gb q3 k)
      · exact sF_set hI hN2 hn ho hv cor env h4 hc hw hf2 q1 (Or.inr ⟨rfl, g, q2, q3, q4, q5, q6⟩) k
      · cases l with
        | nil => exact q1.elim
        | cons a l => exact g_r (j := 10) ⟨hn, h4, c, a, l, 7, hc, hw, Or.inl rfl, rfl⟩ (hI f _ _ (rel_forms ho hv cor env (chn_hd hc).2.2 q1 hf2 k) hN2)
      · cases l with
        | nil => exact q1.elim
        | cons a l =>
          have hx : x ≤ pCz G := unt_le (fun a la pc e h => (cod_pc h).2.2.2.1) q1
          have k1 : l = [] → Kn G pl cap td la x S L bk shl sll := fun hl => by
            subst hl
            rcases q2 with ⟨_, q2⟩ | ⟨q2, _⟩
            · exact q2 ▸ k
            · simp at q2
          have k2 : l ≠ [] → ∃ e, Gb G la x e ∧ Kn G pl cap td la e S L bk shl sll := fun hl => by
            rcases q2 with ⟨q2, _⟩ | ⟨_, q2⟩
            · simp at q2; exact absurd q2 hl
            · exact ⟨e, q2, k⟩
          rcases hw2 with rfl | rfl
          · exact g_r (j := 10) ⟨hn, h4, c, a, l, 8, hc, hw, Or.inr (Or.inl rfl), rfl⟩ (hI f _ _ (rel_until (k' := 2) (Or.inl rfl) ho hv cor env (chn_hd hc).2.2 q1 hx hf2 k1 k2) hN2)
          · exact g_r (j := 10) ⟨hn, h4, c, a, l, 9, hc, hw, Or.inr (Or.inr rfl), rfl⟩ (hI f _ _ (rel_until (k' := 3) (Or.inr rfl) ho hv cor env (chn_hd hc).2.2 q1 hx hf2 k1 k2) hN2)
      · exact sF_call hI hN2 hn ho hv cor env h4 hc hw hf2 q0 hd q1 q2 q3 k
end SIG
