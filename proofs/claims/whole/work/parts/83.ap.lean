/-! calls -/
section APP
variable {G : PG} {qv : Nat → Int64} {N pc : Nat} {s : List Int64} {ba : Nat} {se : Int32} {bk : List BK} {cap : Nat} {F : List Int64} {ce : Nat} {gc : List Int64} {inp out : List Int32} {th st : Nat} {lt : Int64} {lf : Nat} {n : Nat} {nw : Int64} {td : List TD} {wk : List Int64} {sl : List Nat} {bs : Nat} {pr : Option Nat} {bx : List Int64} {ps : List (Nat × List Nat)} {pa : List (Int64 × Int64)} {gr : List Int64} {op : Nat} {lt' : Int64} {pm : List Nat} {pl : List (Nat × Nat)} {ty : TY} {sh : List Nat} {S : Shp} {L : Nat} {shl sll shf slf : List Nat} {la : Bool} {e f : Nat}
theorem wks_ns {D : VD} : ∀ {s : List Int64} {sh : List Nat} {wk : List Int64}, Wks D s sh wk → (∀ c, c ∈ sh → c ≠ 0) → wk = []
  | [], [], _, h, _ => h
  | _ :: _, c :: sh, _, h, q => by
    rcases h with ⟨h, _⟩ | ⟨_, h⟩
    · exact absurd h (q c (by simp))
    · exact wks_ns h (fun c hc => q c (by simp [hc]))
  | [], _ :: _, _, h, _ => h.elim
  | _ :: _, [], _, h, _ => h.elim
theorem cur_ns {S : Shp} {sh sl : List Nat} (h : Cur S sh sl) (q : ∀ o, o ∈ S → o ≠ none) : ∀ c, c ∈ sh → c ≠ 0 := by
  intro c hc
  obtain ⟨j, hj⟩ := List.getElem?_of_mem hc
  have hl := g_lt hj
  rw [h.1] at hl
  obtain ⟨o, ho⟩ := g_some hl
  cases o with
  | none => exact absurd rfl (q none (List.mem_of_getElem? ho))
  | some t =>
    obtain ⟨b, e1, _⟩ := h.2.2 j t ho
    rw [hj] at e1
    injection e1 with e1
    omega
theorem slf_lm (cor : Cor G qv pm pl ty s sh wk F ce gc bx ps pa gr) {r : Option Nat} {x : Int32} (h : Slf pl r x L) : L ≤ pLm G := by
  rcases h with ⟨_, _, rfl⟩ | ⟨i, a, _, _, h⟩
  · exact Nat.zero_le _
  · exact (cor.2.1 i a L h).2.1
theorem slf_lt (cor : Cor G qv pm pl ty s sh wk F ce gc bx ps pa gr) {r : Option Nat} {x : Int32} (h : Slf pl r x L) : ∀ i, r = some i → i < ps.length := fun i e => by
  rcases h with ⟨e', _, _⟩ | ⟨j, a, e', _, h⟩
  · rw [e] at e'; cases e'
  · rw [e] at e'
    injection e' with e'
    subst e'
    have := g_lt h
    have z := cor.2.2.2.2.2.2.2
    have := z.2.2.2.2.2.1
    omega
/-- the open call is left -/
theorem ret_ok {m1 m2 : Int32} {td' : List TD} (cor : Cor G qv pm pl ty s sh wk F ce gc bx ps pa gr) (env : Env G pl S L shl sll shf slf sh ba se bk cap sl bs pr op) (hS : ∀ o, o ∈ S → o ≠ none) (h : Ret G pl cap m1 m2 td' bk shl sll) : ∃ pb sb bk' sh' shb sl' slb Sb Lb rp, bk = (pb, sh'.length, sb) :: bk' ∧ 1 ≤ ba ∧ ba ≤ s.length ∧ m1 = nI sl'.length ∧ sl'.length ≤ bs ∧ bs ≤ sl.length ∧ m2 = oI rp ∧ 0 < op ∧ shl = (sh' ++ shb) ++ [1] ∧ ba - 1 = (sh' ++ shb).length ∧ Sb.length < pDm G Lb ∧ Kn G pl cap td' false pb Sb Lb bk' sh' sl' ∧ Cor G qv pm pl ty (s.take (ba - 1)) (sh' ++ shb) wk F ce gc bx ps pa gr ∧ Env G pl Sb Lb sh' sl' shb slb (sh' ++ shb) sh'.length sb bk' cap (sl.take bs) sl'.length rp (op - 1) := by
  obtain ⟨pb, sb, bk', sh', shb, sl', slb, Sb, Lb, rp, q1, q2, q3, q4, q5, q6, q7, q8, q9, q10, q11⟩ := h
  have hl := wks_len cor.2.2.2.2.1
  obtain ⟨n1, n2, n3, n4, n5, n6, n7, n8, n9, n10, n11, n12⟩ := env
  have e1 : shl = (sh' ++ shb) ++ [1] := by rw [q2, List.append_assoc]
  have e2 : ba - 1 = (sh' ++ shb).length := by rw [n3, e1]; simp
  have e3 : 1 ≤ ba := by rw [n3, e1]; simp; omega
  have e4 : ba ≤ s.length := by rw [hl, n1, n3, List.length_append]; omega
  have e5 : sh = (sh' ++ shb) ++ ([1] ++ shf) := by rw [n1, e1]; simp
  have e6 : s = s.take (ba - 1) ++ s.drop (ba - 1) := (List.take_append_drop _ _).symm
  have cor' := cor
  rw [e6, e5] at cor'
  obtain ⟨w1, w2, g1, g2, g3⟩ := cor_drop cor' (by rw [List.length_take, ← e2]; omega)
  have w2e : w2 = [] := wks_ns g3 (fun c hc => by
    rcases List.mem_append.mp hc with hc | hc
    · simp at hc; omega
    · exact cur_ns n6 hS c hc)
  rw [w2e, List.append_nil] at g1
  subst g1
  have hop : op = bk'.length + 1 := by rw [n9, q1]; rfl
  refine ⟨pb, sb, bk', sh', shb, sl', slb, Sb, Lb, rp, q1, e3, e4, q4, ?_, ?_, q5, by omega, e1, e2, q9, q11, g2, rfl, ?_, rfl, rfl, q6, q7, q8, q10, by omega, by omega, by omega, slf_lm cor q6⟩
  · rw [n4, q3]; simp
  · rw [n2, n4]; simp
  · rw [n2, n4, List.take_left']; exact q3
    rfl
/-- the parts of a call, off the stack -/
theorem call_split {k : Nat} (cor : Cor G qv pm pl ty s sh wk F ce gc bx ps pa gr) (env : Env G pl (S ++ List.replicate (k + 1) none) L shl sll shf slf sh ba se bk cap sl bs pr op) : ∃ t c xs wk' cw ws, s = t ++ c :: xs ∧ wk = wk' ++ cw :: ws ∧ xs.length = k ∧ ws.length = k ∧ VR (Dv pm pl) c cw ∧ Vrs (Dv pm pl) xs ws ∧ t.length = ba + S.length ∧ Cor G qv pm pl ty t (shl ++ shf.take S.length) wk' F ce gc bx ps pa gr ∧ Env G pl S L shl sll (shf.take S.length) slf (shl ++ shf.take S.length) ba se bk cap sl bs pr op := by
  obtain ⟨e1, e2, e3⟩ := env_drop env
  have e4 := env_tmp env
  have hl := wks_len cor.2.2.2.2.1
  have hl2 := env_len env
  have hl3 : s.length = ba + (S.length + (k + 1)) := by rw [hl, hl2.1]; simp
  have n3 := env.2.2.1
  have e5 : sh.take (shl.length + S.length) = shl ++ shf.take S.length := e1.1
  rw [e4, e5] at e2
  rw [e5] at e1
  have e6 : s = s.take (ba + S.length) ++ s.drop (ba + S.length) := (List.take_append_drop _ _).symm
  have cor' := cor
  rw [e6, e2] at cor'
  have hlen : (s.take (ba + S.length)).length = (shl ++ shf.take S.length).length := by
    have := (env_len e1).1
    rw [this]; simp; omega
  obtain ⟨w1, w2, g1, g2, g3⟩ := cor_drop cor' hlen
  obtain ⟨g4, g5⟩ := wks_vrs g3
  generalize hd : s.drop (ba + S.length) = ds at *
  generalize ht : s.take (ba + S.length) = ts at *
  match ds, w2, g5 with
  | c :: xs, cw :: ws, ⟨g6, g7⟩ =>
    refine ⟨ts, c, xs, w1, cw, ws, e6, g1, by simpa using g4, ?_, g6, g7, ?_, g2, e1⟩
    · have := vrs_len g7
      simp at g4
      omega
    · rw [← ht]; simp; omega
  | [], [], _ => simp at g4
theorem mu_call {pb : Nat} {b : Nat} {x : Int32} (h : pc < pCz G) (hl : 0 < lf) : mu G pb ((pc + 1, b, x) :: bk) (lf - 1) < mu G pc bk lf := by
  obtain ⟨m, rfl⟩ : ∃ m, lf = m + 1 := ⟨lf - 1, by omega⟩
  show pCz G + 1 - pb + (pCz G + 1 - (pc + 1) + bks G bk) + (m + 1 - 1) * (pCz G + 2) < pCz G + 1 - pc + bks G bk + (m + 1) * (pCz G + 2)
  rw [Nat.add_sub_cancel, Nat.add_mul m 1]
  omega
theorem mu_last {pb : Nat} (h : pc < pCz G) (hl : 0 < lf) : mu G pb bk (lf - 1) < mu G pc bk lf := by
  obtain ⟨m, rfl⟩ : ∃ m, lf = m + 1 := ⟨lf - 1, by omega⟩
  show pCz G + 1 - pb + bks G bk + (m + 1 - 1) * (pCz G + 2) < pCz G + 1 - pc + bks G bk + (m + 1) * (pCz G + 2)
  rw [Nat.add_sub_cancel, Nat.add_mul m 1]
  omega
theorem mu_back {pb b : Nat} {x : Int32} (h : pc < pCz G) : mu G pb bk lf < mu G pc ((pb, b, x) :: bk) lf := by
  show pCz G + 1 - pb + bks G bk + lf * (pCz G + 2) < pCz G + 1 - pc + (pCz G + 1 - pb + bks G bk) + lf * (pCz G + 2)
  omega
theorem cur_new {w k b : Nat} (h : w ≤ k) : Cur (bnd 0 w) (nbx b w) (nsl (List.replicate k 0) 0 b w) := by
  have := cur_bnd (S := []) (sh := []) (sl := List.replicate k 0) (s := 0) (k := w) (b := b) ⟨rfl, fun j h => by simp at h, fun j s h => by simp at h⟩ (fun t h => by simp at h) (by simp; omega)
  simpa using this
/-- a call that is held up stays as it is -/
theorem fnl_hold {r i c : Nat} {l : List Nat} (hr : r = 1 ∨ r = 2 ∨ r = 3) (ho : out.length ≤ 1000) (hv : VR (Dv pm pl) lt lt') (cor : Cor G qv pm pl ty s sh wk F ce gc bx ps pa gr) (env : Env G pl (S ++ List.replicate (l.length + 1) none) L shl sll shf slf sh ba se bk cap sl bs pr op) (hi : i < pNn G) (hc : Chn G (G.1 24 i) (c :: l)) (hl : l.length ≤ 8) (o1 : G.1 1 pc = (if la then 33 else 32)) (o2 : G.1 2 pc = nI l.length) (hd : S.length < pDm G L) (hr2 : nr td la) (k : Kn G pl cap td la (pc + 1) S L bk shl sll) : Fnl G qv r ((pc, s), (ba, se, bk, cap), (F, ce, gc), (inp, out, th, st, lt, lf)) ((none, 0, (10, nI i, 0) :: td, wk), (sl, bs, pr), (bx, ps, pa, ce, gr), (inp, out, th, op, st, lt', lf)) :=
  ⟨⟨rfl, rfl, rfl, rfl, rfl, env.2.2.2.2.2.2.2.2.1, ho⟩, ⟨pm, pl, ty, s, sh, wk, hv, cor⟩, Or.inr ⟨hr, ⟨rfl, rfl, rfl, rfl, rfl, rfl, ho⟩, pm, pl, ty, sh, s, _, L, shl, sll, shf, slf, hv, cor, env, Or.inr (Or.inr (Or.inl ⟨rfl, rfl, i, c, l, S, la, td, rfl, hi, hc, hl, rfl, o1, o2, hd, hr2, k⟩))⟩⟩
theorem kn_cons {x : Nat} (k : Kn G pl cap td la x S L bk shl sll) : ∃ t u, td = t :: u := by
  cases td with
  | nil => exact k.elim
  | cons t u => exact ⟨t, u, rfl⟩
theorem kn_cap {cap' x : Nat} (hc : cap ≤ cap') (k : Kn G pl cap td la x S L bk shl sll) : Kn G pl cap' td la x S L bk shl sll := by
  have := kn_mono hc [] (by simp) k
  rwa [List.append_nil] at this
theorem vrs_getD {D : VD} : ∀ {xs ws : List Int64} (i : Nat), Vrs D xs ws → VR D (xs.getD i 0) (ws.getD i 0)
  | [], [], _, _ => by simpa using vr_0 D
  | _ :: _, _ :: _, 0, h => by simpa using h.1
  | _ :: _, _ :: _, i + 1, h => by simpa using vrs_getD i h.2
  | [], _ :: _, _, h => h.elim
  | _ :: _, [], _, h => h.elim
theorem bod_dm {K : Nat → Bool → Nat → Nat → Prop} {P : Prop} (hK : ∀ a la pc e, K a la pc e → P) : ∀ {l : List Nat} {pc e : Nat}, Bod G K la l pc e → P
  | [], _, _, h => h.elim
  | [_], _, _, h => hK _ _ _ _ h
  | _ :: _ :: _, _, _, h => by
    obtain ⟨x, h, _⟩ := h
    exact hK _ _ _ _ h
/-- a procedure is called -/
theorem sim_proc {i c a M j : Nat} {l : List Nat} {t xs wk' ws : List Int64} {A : Option Nat × Int64 × List TD × List Int64} (hW : WG G) (hI : IHy G qv N) (hN : mu G pc bk lf * 200 ≤ N) (ho : out.length ≤ 1000) (hv : VR (Dv pm pl) lt lt') (corT : Cor G qv pm pl ty t (shl ++ shf) wk' F ce gc bx ps pa gr) (envT : Env G pl S L shl sll shf slf (shl ++ shf) ba se bk cap sl bs pr op) (hA : Apx G i (A, (sl, bs, pr), (bx, ps, pa, ce, gr), (inp, out, th, op, st, lt', lf)) td (wk' ++ vof 7 (nI j) :: ws)) (hi : i < pNn G) (hc : Chn G (G.1 24 i) (c :: l)) (hl : l.length ≤ 8) (o1 : G.1 1 pc = (if la then 33 else 32)) (o2 : G.1 2 pc = nI l.length) (hd : S.length < pDm G L) (k : Kn G pl cap td la (pc + 1) S L bk shl sll) (kf : nr td la) (e3 : xs.length = l.length) (e4 : ws.length = l.length) (rs : Vrs (Dv pm pl) xs ws) (e5 : t.length = ba + S.length) (hpl : pl[j]? = some (a, M)) (hw : l.length = pWn G M) (hlf : 0 < lf) (hop : la = false → bk.length < 1000) (hb : Bnd (A, (sl, bs, pr), (bx, ps, pa, ce, gr), (inp, out, th, op, st, lt', lf)) := by assumption) :
    Gol G qv (mu G pc bk lf + 1) ((pc, t ++ vof 7 (nI a) :: xs), (ba, se, bk, cap), (F, ce, gc), (inp, out, th, st, lt, lf)) (A, (sl, bs, pr), (bx, ps, pa, ce, gr), (inp, out, th, op, st, lt', lf)) := by
  have hp : pc < pCz G := op_lt hW o1 (by cases la <;> decide)
  obtain ⟨l1, l2, t1, g1, ks, g2, g3, g4⟩ := corT.2.1 j a M hpl
  obtain ⟨w0, w1, w2, f, cc, li, b, d, ex, w3, w4, w5⟩ := hW.2.2.2.2.2.2.2 M l1 l2
  have z := corT.2.2.2.2.2.2.2
  have ha : a < 1000000 := by have := g_lt t1; have := z.1; have := z.2.1; have := z.2.2.1; omega
  have hdm : (bnd 0 (pWn G M)).length < pDm G M := bod_dm (fun a la pc e h => (cod_pc h).2.1) w5
  rw [bnd_len] at hdm
  have hchn : Chn G (G.1 25 li) (b :: d) := (chn_hd (chn_hd w4).2.2).2.2
  have envT' := envT
  obtain ⟨n1, n2, n3, n4, n5, n6, n7, n8, n9, n10, n11, n12⟩ := envT'
  have hslf : Slf pl (some j) (nI a) M := Or.inr ⟨j, a, rfl, rfl, hpl⟩
  have hsz := kn_sz hW (fun i a L e => (corT.2.1 i a L e).2.1) k
  have hdL := (hW.2.2.2.2.2.1 L n12).1
  have hdM := (hW.2.2.2.2.2.1 M l2).1
  have hf2 : ∀ {n m : Int32} {u : List TD}, Fu f ((8, n, m) :: u) true := fun {n m u} => ⟨by simp [cnt]; omega, fun h => absurd h (by simp)⟩
  have hwks : Wks (Dv pm pl) [vof 7 (nI a)] [1] [] := Or.inr ⟨by decide, rfl⟩
  cases la with
  | false =>
    obtain ⟨t0, u, k1, k2⟩ := kf rfl
    have hop := hop rfl
    have hC : CS1 G 7 ((pc, t ++ vof 7 (nI a) :: xs), (ba, se, bk, cap), (F, ce, gc), (inp, out, th, st, lt, lf)) ((pEn G M, t ++ vof 7 (nI a) :: xs), (t.length + 1, nI a, (pc + 1, ba, se) :: bk, max cap (t.length + 1 + pDm G M)), (F, ce, gc), (inp, out, th, st + 1, lt, lf - 1)) :=
      ⟨by simpa using o1, t, a, M, xs, ha, rfl, by rw [o2, e3], g1, l1, l2, by omega, hop, hlf, by omega, rfl⟩
    refine g_r (j := 22) ⟨i, c, l, td, _, wk', ws, j, M, ks, cc, li, b, d, hA, hi, hc, hl, rfl, e4, g2, l1, l2, hw.symm, w4, hlf, by rw [n2, n4]; simp, w2, Or.inr ⟨⟨t0, u, k1, k2⟩, by omega, rfl⟩⟩ ?_
    refine g_ci (ph := f) hI hC (mu_call hp hlf) hN (by omega) ?_
    have c1 := cor_app corT (s2 := [vof 7 (nI a)]) (sh2 := [1]) (wk2 := []) (by simp) hwks
    have c2 := cor_new c1 (vus_of rs)
    rw [List.append_assoc t, List.append_nil] at c2
    have e6 : t.length = shl.length + shf.length := by
      have := wks_len corT.2.2.2.2.1
      simpa using this
    have env' : Env G pl (bnd 0 (pWn G M)) M (shl ++ (shf ++ [1])) sl (nbx bx.length xs.length) (nsl (List.replicate (pSn G M) 0) 0 bx.length l.length) ((shl ++ shf ++ [1]) ++ nbx bx.length xs.length) (t.length + 1) (nI a) ((pc + 1, ba, se) :: bk) (max cap (t.length + 1 + pDm G M)) (nsl (sl ++ List.replicate (pSn G M) 0) sl.length bx.length l.length) sl.length (some j) (op + 1) := by
      refine ⟨by simp, ?_, by simp; omega, rfl, hslf, ?_, by rw [nsl_len]; simp, ?_, by simp [n9], by omega, by rw [bnd_len]; omega, l2⟩
      · exact nsl_app (sll := sl) (P := 0)
      · rw [e3, hw]; exact cur_new w2
      · simp; omega
    refine rel_forms ho hv c2 env' hchn w5 hf2 (ret_kn bnd_some ?_)
    refine ⟨pc + 1, se, bk, shl, shf, sll, slf, S, L, pr, by rw [n3], rfl, n2, by rw [n4], rfl, n5, n6, n7, hd, by omega, kn_cap (by omega) k⟩
  | true =>
    obtain ⟨m1, m2, td', k1, k2⟩ := kn_ret k
    have hns := kn_ns k
    subst k1
    obtain ⟨pb, sb, bk', sh', shb, sl', slb, Sb, Lb, rp, q1, q2, q3, q4, q5, q6, q7, q8, q9, q10, q11, q12, q13, q14⟩ := ret_ok corT envT hns k2
    have hC : CS1 G 8 ((pc, t ++ vof 7 (nI a) :: xs), (ba, se, bk, cap), (F, ce, gc), (inp, out, th, st, lt, lf)) ((pEn G M, t.take (ba - 1) ++ vof 7 (nI a) :: xs), (ba, nI a, bk, max cap (ba + pDm G M)), (F, ce, gc), (inp, out, th, st + 1, lt, lf - 1)) :=
      ⟨by simpa using o1, t, a, M, xs, ha, rfl, q2, q3, by rw [o2, e3], g1, l1, l2, by omega, hlf, by omega, rfl⟩
    refine g_r (j := 22) ⟨i, c, l, (8, m1, m2) :: td', _, wk', ws, j, M, ks, cc, li, b, d, hA, hi, hc, hl, rfl, e4, g2, l1, l2, hw.symm, w4, hlf, q6, w2, Or.inl ⟨m1, m2, td', rfl, rfl⟩⟩ ?_
    refine g_ci (ph := f) hI hC (mu_last hp hlf) hN (by omega) ?_
    have c1 := cor_app q13 (s2 := [vof 7 (nI a)]) (sh2 := [1]) (wk2 := []) (by simp) hwks
    have c2 := cor_new c1 (vus_of rs)
    rw [List.append_assoc (t.take (ba - 1)), List.append_nil, ← q9] at c2
    have e7 : sl.take bs = sll := by rw [n2, n4]; simp
    have env' : Env G pl (bnd 0 (pWn G M)) M shl sll (nbx bx.length xs.length) (nsl (List.replicate (pSn G M) 0) 0 bx.length l.length) (shl ++ nbx bx.length xs.length) ba (nI a) bk (max cap (ba + pDm G M)) (nsl (sl.take bs ++ List.replicate (pSn G M) 0) bs bx.length l.length) bs (some j) op := by
      refine ⟨rfl, ?_, n3, n4, hslf, ?_, by rw [nsl_len]; simp, by omega, n9, n10, by rw [bnd_len]; omega, l2⟩
      · rw [e7, n4]; exact nsl_app (sll := sll) (P := 0)
      · rw [e3, hw]; exact cur_new w2
    exact rel_forms ho hv c2 env' hchn w5 hf2 (kn_true bnd_some (kn_cap (by omega) k))
/-- a primitive is called -/
theorem sim_prim {i c j : Nat} {l : List Nat} {t xs wk' ws : List Int64} {x y x' y' v v' : Int64} {F' : List Int64} {ce' : Nat} {inp' out' : List Int32} {pa' : List (Int64 × Int64)} {pm' : List Nat} {ty' : TY} {A : Option Nat × Int64 × List TD × List Int64} (hW : WG G) (hI : IHy G qv N) (hN : mu G pc bk lf * 200 ≤ N) (ho : out'.length ≤ 1000) (hv : VR (Dv pm' pl) lt lt') (corT : Cor G qv pm' pl ty' t (shl ++ shf) wk' F' ce' gc bx ps pa' gr) (envT : Env G pl S L shl sll shf slf (shl ++ shf) ba se bk cap sl bs pr op) (hA : Apx G i (A, (sl, bs, pr), (bx, ps, pa, ce, gr), (inp, out, th, op, st, lt', lf)) td (wk' ++ vof 8 (nI (j + 11)) :: ws)) (hi : i < pNn G) (hc : Chn G (G.1 24 i) (c :: l)) (hl : l.length ≤ 8) (o1 : G.1 1 pc = (if la then 33 else 32)) (o2 : G.1 2 pc = nI l.length) (hd : S.length < pDm G L) (k : Kn G pl cap td la (pc + 1) S L bk shl sll) (e3 : xs.length = l.length) (e4 : ws.length = l.length) (e5 : t.length = ba + S.length) (hcap : t.length + 1 + xs.length ≤ cap) (hj : j < 20) (hw : l.length = pwt j) (a1 : Arg xs x y) (a2 : Arg ws x' y') (hFl : F.length ≤ 13000 + 3 * ce) (p1 : Pcl j x y (F, ce, inp, out) v (F', ce', inp', out')) (p2 : Prl j x' y' (pa, ce, inp, out) v' (pa', ce', inp', out')) (r : VR (Dv pm' pl) v v') (hb : Bnd (A, (sl, bs, pr), (bx, ps, pa, ce, gr), (inp, out, th, op, st, lt', lf)) := by assumption) :
    Gol G qv (mu G pc bk lf + 1) ((pc, t ++ vof 8 (nI j) :: xs), (ba, se, bk, cap), (F, ce, gc), (inp, out, th, st, lt, lf)) (A, (sl, bs, pr), (bx, ps, pa, ce, gr), (inp, out, th, op, st, lt', lf)) := by
  have hp : pc < pCz G := op_lt hW o1 (by cases la <;> decide)
  have hcap2 : (t ++ vof 8 (nI j) :: xs).length ≤ cap := by simp; omega
  refine g_r (j := 23) ⟨i, c, l, td, _, wk', ws, j, x', y', v', pa', ce', inp', out', hA, hi, hc, hl, rfl, hj, e4, hw, a2, p2, rfl⟩ ?_
  cases la with
  | false =>
    have hC : CS1 G 9 ((pc, t ++ vof 8 (nI j) :: xs), (ba, se, bk, cap), (F, ce, gc), (inp, out, th, st, lt, lf)) ((pc + 1, t ++ [v]), (ba, se, bk, cap), (F', ce', gc), (inp', out', th, st, lt, lf)) :=
      ⟨by simpa using o1, hFl, t, j, xs, x, y, v, F', ce', inp', out', hj, rfl, hcap2, by rw [o2, e3], by omega, a1, p1, rfl⟩
    exact g_ci (ph := 100) hI hC (mz_pc (Nat.lt_succ_self pc) (Nat.le_of_lt hp)) hN (by decide) (relV ho hv corT envT r hd k)
  | true =>
    obtain ⟨m1, m2, td', k1, k2⟩ := kn_ret k
    have hns := kn_ns k
    subst k1
    obtain ⟨pb, sb, bk', sh', shb, sl', slb, Sb, Lb, rp, q1, q2, q3, q4, q5, q6, q7, q8, q9, q10, q11, q12, q13, q14⟩ := ret_ok corT envT hns k2
    subst q1
    have hC : CS1 G 10 ((pc, t ++ vof 8 (nI j) :: xs), (ba, se, (pb, sh'.length, sb) :: bk', cap), (F, ce, gc), (inp, out, th, st, lt, lf)) ((pb, t.take (ba - 1) ++ [v]), (sh'.length, sb, bk', cap), (F', ce', gc), (inp', out', th, st, lt, lf)) :=
      ⟨by simpa using o1, hFl, t, j, xs, x, y, v, F', ce', inp', out', pb, sh'.length, sb, bk', hj, rfl, hcap2, by rw [o2, e3], by omega, a1, p1, rfl, q2, q3, rfl⟩
    have hb2 : Bnd ((none, v', (8, m1, m2) :: td', wk'), (sl, bs, pr), (bx, ps, pa', ce', gr), (inp', out', th, op, st, lt', lf)) := by
      obtain ⟨md0, nw0, td0, wk0⟩ := A
      obtain ⟨_, k0, n0, m0, e0, e1⟩ := hA
      obtain ⟨b1, b2, b3⟩ := hb
      have b1 : td0.length ≤ 44000 := b1
      have b2 : wk0.length ≤ 304000 := b2
      have e2 := congrArg List.length e0
      simp only [List.length_cons] at e2
      refine ⟨show ((8, m1, m2) :: td').length ≤ 44000 by simp only [List.length_cons]; omega, show wk'.length ≤ 304000 from ?_, b3⟩
      rcases e1 with ⟨_, p, _, _, _, _, e3⟩ | ⟨_, _, e3⟩
      · have := congrArg List.length e3
        simp at this
        omega
      · have := congrArg List.length e3
        simp at this
        omega
    refine g_r (j := 21) ⟨sl'.length, rp, q4, q5, q6, q7, q8, slf_lt corT q14.2.2.2.2.1, rfl⟩ ?_ hb2
    exact g_ci (ph := 100) hI hC (mu_back hp) hN (by decide) (relV ho hv q13 q14 r q11 q12)
/-- a call is made -/
theorem sim_ap {i c : Nat} {l : List Nat} {A : Option Nat × Int64 × List TD × List Int64} (hW : WG G) (hI : IHy G qv N) (hN : mu G pc bk lf * 200 ≤ N) (ho : out.length ≤ 1000) (hv : VR (Dv pm pl) lt lt') (cor : Cor G qv pm pl ty s sh wk F ce gc bx ps pa gr) (env : Env G pl (S ++ List.replicate (l.length + 1) none) L shl sll shf slf sh ba se bk cap sl bs pr op) (hA : Apx G i (A, (sl, bs, pr), (bx, ps, pa, ce, gr), (inp, out, th, op, st, lt', lf)) td wk) (hi : i < pNn G) (hc : Chn G (G.1 24 i) (c :: l)) (hl : l.length ≤ 8) (o1 : G.1 1 pc = (if la then 33 else 32)) (o2 : G.1 2 pc = nI l.length) (hd : S.length < pDm G L) (k : Kn G pl cap td la (pc + 1) S L bk shl sll) (kf : nr td la) (hb : Bnd (A, (sl, bs, pr), (bx, ps, pa, ce, gr), (inp, out, th, op, st, lt', lf)) := by assumption) :
    Gol G qv (mu G pc bk lf + 1) ((pc, s), (ba, se, bk, cap), (F, ce, gc), (inp, out, th, st, lt, lf)) (A, (sl, bs, pr), (bx, ps, pa, ce, gr), (inp, out, th, op, st, lt', lf)) := by
  obtain ⟨t, c0, xs, wk', cw, ws, e1, e2, e3, e4, r, rs, e5, corT, envT⟩ := call_split cor env
  obtain ⟨t0, u0, k0⟩ := kn_cons k
  have ho2 : G.1 1 pc = 32 ∨ G.1 1 pc = 33 := by cases la <;> simp_all
  have hcap : t.length + 1 + xs.length ≤ cap := by
    have := env_len env
    simp at this
    omega
  have bad : ∀ {r' j j' : Nat}, 10 < r' ∧ r' < 18 → CE1 G j ((pc, s), (ba, se, bk, cap), (F, ce, gc), (inp, out, th, st, lt, lf)) r' → RE1 G j' (A, (sl, bs, pr), (bx, ps, pa, ce, gr), (inp, out, th, op, st, lt', lf)) r' ((none, A.2.1, td, wk), (sl, bs, pr), (bx, ps, pa, ce, gr), (inp, out, th, op, st, lt', lf)) → Gol G qv (mu G pc bk lf + 1) ((pc, s), (ba, se, bk, cap), (F, ce, gc), (inp, out, th, st, lt, lf)) (A, (sl, bs, pr), (bx, ps, pa, ce, gr), (inp, out, th, op, st, lt', lf)) := fun h1 h2 h3 => g_e h2 h3 (fnl_err (Or.inr h1) ho hv cor env)
  have hold : ∀ {r' j j' : Nat}, (r' = 1 ∨ r' = 2 ∨ r' = 3) → CE1 G j ((pc, s), (ba, se, bk, cap), (F, ce, gc), (inp, out, th, st, lt, lf)) r' → RE1 G j' (A, (sl, bs, pr), (bx, ps, pa, ce, gr), (inp, out, th, op, st, lt', lf)) r' ((none, 0, (10, nI i, 0) :: td, wk), (sl, bs, pr), (bx, ps, pa, ce, gr), (inp, out, th, op, st, lt', lf)) → Gol G qv (mu G pc bk lf + 1) ((pc, s), (ba, se, bk, cap), (F, ce, gc), (inp, out, th, st, lt, lf)) (A, (sl, bs, pr), (bx, ps, pa, ce, gr), (inp, out, th, op, st, lt', lf)) := fun h1 h2 h3 => g_e h2 h3 (fnl_hold h1 ho hv cor env hi hc hl o1 o2 hd kf k)
  have z := cor.2.2.2.2.2.2.2
  have n9 := env.2.2.2.2.2.2.2.2.1
  have n10 := env.2.2.2.2.2.2.2.2.2.1
  have hx : G.1 2 pc = nI xs.length := by rw [o2, e3]
  have not : vkd c0 ≠ 7 → vkd c0 ≠ 8 → Gol G qv (mu G pc bk lf + 1) ((pc, s), (ba, se, bk, cap), (F, ce, gc), (inp, out, th, st, lt, lf)) (A, (sl, bs, pr), (bx, ps, pa, ce, gr), (inp, out, th, op, st, lt', lf)) := fun h7 h8 => by
    have hk := (vr_kd r).1
    exact bad (r' := 11) (j := 4) (j' := 4) (by decide) ⟨ho2, t, c0, xs, e1, hx, by omega, h7, h8, rfl⟩ ⟨i, c, l, td, wk, wk', cw, ws, hA, hi, hc, hl, e2, e4, hk ▸ h7, hk ▸ h8, rfl, rfl⟩
  rcases r with ⟨k', d, k1, rfl, rfl, k2⟩ | ⟨j, j1, rfl, rfl⟩ | ⟨j, j1, rfl, rfl⟩ | ⟨j, j1, rfl, rfl⟩
  · refine not (fun h => ?_) (fun h => ?_) <;> rw [vof_kd] at h
    · have := nI_inj (b := 7) (by omega) (by omega) h; omega
    · have := nI_inj (b := 8) (by omega) (by omega) h; omega
  · exact not (by rw [vof_kd]; decide) (by rw [vof_kd]; decide)
  · obtain ⟨M, hpl⟩ := pl_get j1
    obtain ⟨l1, l2, t1, g1, ks, g2, g3, g4⟩ := cor.2.1 j _ M hpl
    have ha : (pl.getD j (20000000, 0)).1 < 1000000 := by have := g_lt t1; have := z.1; have := z.2.1; have := z.2.2.1; omega
    by_cases c1 : l.length = pWn G M
    · by_cases c2 : la = false ∧ ¬ bk.length < 1000
      · refine bad (r' := 17) (j := 5) (j' := 5) (by decide) ⟨ho2, t, _, M, xs, ha, e1, hx, by omega, g1, l1, l2, Or.inr (Or.inl ⟨by omega, ?_, c2.2, rfl⟩)⟩ ⟨i, c, l, td, wk, wk', ws, j, M, ks, hA, hi, hc, hl, e2, e4, g2, l1, l2, t0, u0, k0, Or.inr (Or.inl ⟨c1, ?_, by omega, rfl, rfl⟩)⟩
        · rw [o1, c2.1]; rfl
        · obtain ⟨t1, u1, k1, k2⟩ := kf c2.1
          rw [k0] at k1
          injection k1 with k1
          exact k1 ▸ k2
      · have c3 : la = false → bk.length < 1000 := fun h => by
          by_cases c4 : bk.length < 1000
          · exact c4
          · exact absurd ⟨h, c4⟩ c2
        rcases Nat.eq_zero_or_pos lf with c4 | c4
        · refine hold (r' := 1) (j := 5) (j' := 5) (Or.inl rfl) ⟨ho2, t, _, M, xs, ha, e1, hx, by omega, g1, l1, l2, Or.inr (Or.inr ⟨by omega, ?_, c4, rfl⟩)⟩ ⟨i, c, l, td, wk, wk', ws, j, M, ks, hA, hi, hc, hl, e2, e4, g2, l1, l2, t0, u0, k0, Or.inr (Or.inr ⟨c1, ?_, c4, rfl, rfl⟩)⟩
          · cases la with
            | false => exact Or.inr (c3 rfl)
            | true => exact Or.inl (by rw [o1]; rfl)
          · cases la with
            | false => exact Or.inr (by rw [n9]; exact c3 rfl)
            | true =>
              obtain ⟨m1, m2, td', k1, _⟩ := kn_ret k
              rw [k0] at k1
              injection k1 with k1
              exact Or.inl (by rw [k1])
        · subst e1 e2
          exact sim_proc hW hI hN ho hv corT envT hA hi hc hl o1 o2 hd k kf e3 e4 rs e5 hpl c1 c4 c3
    · exact bad (r' := 12) (j := 5) (j' := 5) (by decide) ⟨ho2, t, _, M, xs, ha, e1, hx, by omega, g1, l1, l2, Or.inl ⟨by omega, rfl⟩⟩ ⟨i, c, l, td, wk, wk', ws, j, M, ks, hA, hi, hc, hl, e2, e4, g2, l1, l2, t0, u0, k0, Or.inl ⟨c1, rfl, rfl⟩⟩
  · by_cases c1 : l.length = pwt j
    · rcases prim_ok (inp := inp) j1 ho corT (vrs_getD 0 rs) (vrs_getD 1 rs) with ⟨r', h1, h2, h3⟩ | ⟨pm', ty', v, v', F', ce', inp', out', pa', p1, p2, p3, p4, p5, p6⟩
      · have hE : CE1 G 6 ((pc, s), (ba, se, bk, cap), (F, ce, gc), (inp, out, th, st, lt, lf)) r' := ⟨ho2, t, j, xs, _, _, j1, e1, hx, by omega, Or.inr ⟨by omega, ⟨rfl, rfl⟩, h2⟩⟩
        rcases (show (r' = 2 ∨ r' = 3) ∨ 10 < r' ∧ r' < 18 by omega) with h4 | h4
        · exact hold (by omega) hE (j' := 6) ⟨i, c, l, td, wk, wk', ws, j, _, _, hA, hi, hc, hl, e2, j1, e4, Or.inr ⟨c1, ⟨rfl, rfl⟩, h3, Or.inr ⟨by omega, rfl⟩⟩⟩
        · exact bad h4 hE (j' := 6) ⟨i, c, l, td, wk, wk', ws, j, _, _, hA, hi, hc, hl, e2, j1, e4, Or.inr ⟨c1, ⟨rfl, rfl⟩, h3, Or.inl ⟨by omega, rfl⟩⟩⟩
      · subst e1 e2
        exact sim_prim hW hI hN p6 (vr_mono p5 hv) p4 envT hA hi hc hl o1 o2 hd k e3 e4 e5 hcap j1 c1 ⟨rfl, rfl⟩ ⟨rfl, rfl⟩ z.2.1 p1 p2 p3
    · exact bad (r' := 12) (j := 6) (j' := 6) (by decide) ⟨ho2, t, j, xs, 0, 0, j1, e1, hx, by omega, Or.inl ⟨by omega, rfl⟩⟩ ⟨i, c, l, td, wk, wk', ws, j, 0, 0, hA, hi, hc, hl, e2, j1, e4, Or.inl ⟨c1, rfl, rfl⟩⟩
end APP
