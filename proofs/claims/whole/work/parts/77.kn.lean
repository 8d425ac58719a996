/-! code and what goes on, as time passes -/
/-- what is fixed of a program that was built -/
def WG (G : PG) : Prop := (∀ pc, pCz G ≤ pc → G.1 1 pc = 36) ∧ pCz G ≤ 7501 ∧ pNn G ≤ 6200 ∧ pLm G ≤ 120 ∧ pDf G ≤ 100 ∧ (∀ L, L ≤ pLm G → pDm G L ≤ 300 ∧ pSn G L ≤ 250 ∧ pFr G L ≤ 250 ∧ ∀ k, k < pFr G L → pKp G L k < pFr G L) ∧ pFr G 0 = 0 ∧
  ∀ M, 1 ≤ M → M ≤ pLm G → pNd G M < pNn G ∧ pWn G M ≤ 8 ∧ pWn G M ≤ pSn G M ∧ ∃ f c li b d e, f ≤ 38 ∧ Chn G (G.1 24 (pNd G M)) (c :: li :: b :: d) ∧ Bod G (fun a la pc e => Cod G M f a la (bnd 0 (pWn G M)) pc e) true (b :: d) (pEn G M) e
theorem slf_mono {pl : List (Nat × Nat)} {x : Nat × Nat} {r : Option Nat} {s : Int32} {L : Nat} (h : Slf pl r s L) : Slf (pl ++ [x]) r s L := by
  rcases h with h | ⟨i, a, h1, h2, h3⟩
  · exact Or.inl h
  · exact Or.inr ⟨i, a, h1, h2, g_app h3⟩
theorem kn_mono {G : PG} {pl : List (Nat × Nat)} {cap cap' : Nat} (hc : cap ≤ cap') (x : List (Nat × Nat)) (hx : x.length ≤ 1) : ∀ {td : List TD} {la : Bool} {pc : Nat} {S : Shp} {L : Nat} {bk : List BK} {sh sl : List Nat}, Kn G pl cap td la pc S L bk sh sl → Kn G (pl ++ x) cap' td la pc S L bk sh sl := by
  intro td
  induction td with
  | nil => intro _ _ _ _ _ _ _ h; exact h.elim
  | cons t td ih =>
    obtain ⟨k, n, m⟩ := t
    intro la pc S L bk sh sl h
    have sm : ∀ {r s L}, Slf pl r s L → Slf (pl ++ x) r s L := fun h => by
      rcases h with h | ⟨i, a, h1, h2, h3⟩
      · exact Or.inl h
      · exact Or.inr ⟨i, a, h1, h2, g_app h3⟩
    unfold Kn at h ⊢
    obtain ⟨pc1, S1, h0, h⟩ := h
    refine ⟨pc1, S1, h0, ?_⟩
    rcases h with ⟨h1, h2, h3, pb, sb, bk', sh', shb, sl', slb, Sb, Lb, rp, q1, q2, q3, q4, q5, q6, q7, q8, q9, q10, q11⟩ | h | ⟨h1, h2, l, f, e, la', q1, q2, q3, q4⟩ | ⟨h1, h2, i, c, a, b, d, f, y, z, e, la', q1, q2, q3, q4, q5, q6, q7, q8, q9, q10⟩ | ⟨h1, h2, l, f, x, e, la', q1, q2, q3, q4, q5, q6, q7, q8⟩ | ⟨h1, i, c, a, v, w, q1, q2, q3, q4, q5, q6⟩ | ⟨h1, i, p, c, li, b, ps0, ps, ps', vs, s, f, x, y, e, S0, la', q1, q2, q3, q4, q5, q6, q7, q8, q9, q10, q11, q12, q13, q14, q15, q16, q17, q18, q19, q20⟩ | ⟨h1, i, p, c, li, b, ps0, ps, ps', vs, s, f, x, y, e, S0, la', q1, q2, q3, q4, q5, q6, q7, q8, q9, q10, q11, q12, q13, q14, q15, q16, q17, q18, q19, q20⟩ | ⟨h1, i, p, c, q, q', f, x, S0, la', q1, q2, q3, q4, q5, q6, q7, q8, q9, q10, q11, q12, q13, q14, q15⟩
    · exact Or.inl ⟨h1, h2, h3, pb, sb, bk', sh', shb, sl', slb, Sb, Lb, rp, q1, q2, q3, q4, q5, sm q6, q7, q8, q9, by omega, ih q11⟩
    · exact Or.inr (Or.inl h)
    · exact Or.inr (Or.inr (Or.inl ⟨h1, h2, l, f, e, la', q1, q2, q3, ih q4⟩))
    · exact Or.inr (Or.inr (Or.inr (Or.inl ⟨h1, h2, i, c, a, b, d, f, y, z, e, la', q1, q2, q3, q4, q5, q6, q7, q8, q9, ih q10⟩)))
    · exact Or.inr (Or.inr (Or.inr (Or.inr (Or.inl ⟨h1, h2, l, f, x, e, la', q1, q2, q3, q4, q5, q6, q7, ih q8⟩))))
    · exact Or.inr (Or.inr (Or.inr (Or.inr (Or.inr (Or.inl ⟨h1, i, c, a, v, w, q1, q2, q3, q4, q5, ih q6⟩)))))
    · exact Or.inr (Or.inr (Or.inr (Or.inr (Or.inr (Or.inr (Or.inl ⟨h1, i, p, c, li, b, ps0, ps, ps', vs, s, f, x, y, e, S0, la', q1, q2, q3, q4, q5, q6, q7, q8, q9, q10, q11, q12, q13, q14, q15, q16, q17, q18, q19, ih q20⟩))))))
    · exact Or.inr (Or.inr (Or.inr (Or.inr (Or.inr (Or.inr (Or.inr (Or.inl ⟨h1, i, p, c, li, b, ps0, ps, ps', vs, s, f, x, y, e, S0, la', q1, q2, q3, q4, q5, q6, q7, q8, q9, q10, q11, q12, q13, q14, q15, q16, q17, q18, q19, ih q20⟩)))))))
    · exact Or.inr (Or.inr (Or.inr (Or.inr (Or.inr (Or.inr (Or.inr (Or.inr ⟨h1, i, p, c, q, q', f, x, S0, la', q1, q2, q3, q4, q5, q6, q7, q8, q9, q10, q11, q12, q13, q14, ih q15⟩)))))))
/-- a form in last place gives its value back -/
theorem kn_gb {G : PG} {pl : List (Nat × Nat)} {cap : Nat} {td : List TD} {la : Bool} {x e : Nat} {S : Shp} {L : Nat} {bk : List BK} {sh sl : List Nat} (g : Gb G la x e) (h : Kn G pl cap td la e S L bk sh sl) : Kn G pl cap td false x S L bk sh sl := by
  rcases g with ⟨rfl, g1, rfl⟩ | ⟨rfl, rfl⟩
  · cases td with
    | nil => exact h.elim
    | cons t td =>
      obtain ⟨k, n, m⟩ := t
      unfold Kn at h ⊢
      obtain ⟨pc1, S1, h0, h⟩ := h
      have hk : k = 8 ∧ S1 = S := by
        rcases h0 with ⟨_, h0⟩ | ⟨h0, _⟩
        · exact h0
        · exact absurd h0 (by simp)
      obtain ⟨hk, rfl⟩ := hk
      refine ⟨x, S1, Or.inr ⟨rfl, 0, rfl, rfl⟩, Or.inl ?_⟩
      rcases h with ⟨h1, h2, h3⟩ | ⟨h, _⟩ | ⟨h, _⟩ | ⟨h, _⟩ | ⟨h, _⟩ | ⟨h, _⟩ | ⟨h, _⟩ | ⟨h, _⟩ | ⟨h, _⟩
      · exact ⟨h1, fun _ => g1, h3⟩
      all_goals omega
  · exact h
/-- silent moves ahead of what goes on -/
theorem kn_sil {G : PG} {pl : List (Nat × Nat)} {cap : Nat} {td : List TD} {x y : Nat} {S S' : Shp} {L : Nat} {bk : List BK} {sh sl : List Nat} (g : ∀ {j pc1 S1}, Sil G j y S' pc1 S1 → Sil G (j + 1) x S pc1 S1) (h : Kn G pl cap td false y S' L bk sh sl) : Kn G pl cap td false x S L bk sh sl := by
  cases td with
  | nil => exact h.elim
  | cons t td =>
    obtain ⟨k, n, m⟩ := t
    unfold Kn at h ⊢
    obtain ⟨pc1, S1, h0, h⟩ := h
    refine ⟨pc1, S1, ?_, h⟩
    rcases h0 with ⟨h0, _⟩ | ⟨_, j, h0⟩
    · exact absurd h0 (by simp)
    · exact Or.inr ⟨rfl, j + 1, g h0⟩
theorem kn_jmp {G : PG} {pl : List (Nat × Nat)} {cap : Nat} {td : List TD} {x y : Nat} {S : Shp} {L : Nat} {bk : List BK} {sh sl : List Nat} (g1 : G.1 1 x = 26) (g2 : G.1 2 x = nI y) (g3 : x < y) (g4 : y ≤ pCz G) (h : Kn G pl cap td false y S L bk sh sl) : Kn G pl cap td false x S L bk sh sl :=
  kn_sil (fun q => Or.inl ⟨g1, y, g3, g4, g2, q⟩) h
theorem bnd_some {s k : Nat} : ∀ o, o ∈ bnd s k → o ≠ none := by
  intro o h
  simp only [bnd, List.mem_map] at h
  obtain ⟨i, _, rfl⟩ := h
  simp
theorem bnd_len {s k : Nat} : (bnd s k).length = k := by simp [bnd]
theorem kn_sld {G : PG} {pl : List (Nat × Nat)} {cap : Nat} {td : List TD} {la : Bool} {k y e s : Nat} {S : Shp} {L : Nat} {bk : List BK} {sh sl : List Nat} (hk : k ≤ 8) (g : Sld G la k y e) (h : Kn G pl cap td la e S L bk sh sl) : Kn G pl cap td la y (S ++ bnd s k) L bk sh sl := by
  rcases g with ⟨rfl, rfl⟩ | ⟨rfl, g1, g2, rfl⟩
  · cases td with
    | nil => exact h.elim
    | cons t td =>
      obtain ⟨k', n, m⟩ := t
      unfold Kn at h ⊢
      obtain ⟨pc1, S1, h0, h⟩ := h
      have hk : k' = 8 ∧ S1 = S := by
        rcases h0 with ⟨_, h0⟩ | ⟨h0, _⟩
        · exact h0
        · exact absurd h0 (by simp)
      obtain ⟨hk, rfl⟩ := hk
      refine ⟨pc1, S1 ++ bnd s k, Or.inl ⟨rfl, hk, rfl⟩, ?_⟩
      rcases h with ⟨h1, h2, h3, h4⟩ | ⟨h, _⟩ | ⟨h, _⟩ | ⟨h, _⟩ | ⟨h, _⟩ | ⟨h, _⟩ | ⟨h, _⟩ | ⟨h, _⟩ | ⟨h, _⟩
      · exact Or.inl ⟨h1, h2, fun o ho => (List.mem_append.mp ho).elim (h3 o) (bnd_some o), h4⟩
      all_goals omega
  · exact kn_sil (fun q => Or.inr ⟨g1, S, bnd s k, rfl, by rw [bnd_len]; exact hk, bnd_some, by rw [bnd_len]; exact g2, q⟩) h
/-- nothing to do but to give back: the place and the shape don't matter -/
theorem kn_true {G : PG} {pl : List (Nat × Nat)} {cap : Nat} {td : List TD} {x y : Nat} {S S' : Shp} {L L' : Nat} {bk : List BK} {sh sl : List Nat} (hS : ∀ o, o ∈ S' → o ≠ none) (h : Kn G pl cap td true x S L bk sh sl) : Kn G pl cap td true y S' L' bk sh sl := by
  cases td with
  | nil => exact h.elim
  | cons t td =>
    obtain ⟨k, n, m⟩ := t
    unfold Kn at h ⊢
    obtain ⟨pc1, S1, h0, h⟩ := h
    have hk : k = 8 := by
      rcases h0 with ⟨_, h0, _⟩ | ⟨h0, _⟩
      · exact h0
      · exact absurd h0 (by simp)
    refine ⟨pc1, S', Or.inl ⟨rfl, hk, rfl⟩, ?_⟩
    rcases h with ⟨h1, h2, h3, h4⟩ | ⟨h, _⟩ | ⟨h, _⟩ | ⟨h, _⟩ | ⟨h, _⟩ | ⟨h, _⟩ | ⟨h, _⟩ | ⟨h, _⟩ | ⟨h, _⟩
    · exact Or.inl ⟨h1, fun h => absurd h (by simp), hS, h4⟩
    all_goals omega
theorem kn_ns {G : PG} {pl : List (Nat × Nat)} {cap : Nat} {td : List TD} {x : Nat} {S : Shp} {L : Nat} {bk : List BK} {sh sl : List Nat} (h : Kn G pl cap td true x S L bk sh sl) : ∀ o, o ∈ S → o ≠ none := by
  cases td with
  | nil => exact h.elim
  | cons t td =>
    obtain ⟨k, n, m⟩ := t
    unfold Kn at h
    obtain ⟨pc1, S1, h0, h⟩ := h
    have hk : k = 8 ∧ S1 = S := by
      rcases h0 with ⟨_, h0⟩ | ⟨h0, _⟩
      · exact h0
      · exact absurd h0 (by simp)
    obtain ⟨hk, rfl⟩ := hk
    rcases h with ⟨h1, h2, h3, h4⟩ | ⟨h, _⟩ | ⟨h, _⟩ | ⟨h, _⟩ | ⟨h, _⟩ | ⟨h, _⟩ | ⟨h, _⟩ | ⟨h, _⟩ | ⟨h, _⟩
    · exact h3
    all_goals omega
/-- what is given back to -/
def Ret (G : PG) (pl : List (Nat × Nat)) (cap : Nat) (n m : Int32) (td : List TD) (bk : List BK) (sh sl : List Nat) : Prop := ∃ pb sb bk' sh' shb sl' slb Sb Lb rp, bk = (pb, sh'.length, sb) :: bk' ∧ sh = sh' ++ (shb ++ [1]) ∧ sl = sl' ++ slb ∧ n = nI sl'.length ∧ m = oI rp ∧ Slf pl rp sb Lb ∧ Cur Sb shb slb ∧ slb.length = pSn G Lb ∧ Sb.length < pDm G Lb ∧ sh'.length + pDm G Lb ≤ cap ∧ Kn G pl cap td false pb Sb Lb bk' sh' sl'
theorem kn_ret {G : PG} {pl : List (Nat × Nat)} {cap : Nat} {td : List TD} {x : Nat} {S : Shp} {L : Nat} {bk : List BK} {sh sl : List Nat} (h : Kn G pl cap td true x S L bk sh sl) : ∃ n m td', td = (8, n, m) :: td' ∧ Ret G pl cap n m td' bk sh sl := by
  cases td with
  | nil => exact h.elim
  | cons t td =>
    obtain ⟨k, n, m⟩ := t
    unfold Kn at h
    obtain ⟨pc1, S1, h0, h⟩ := h
    have hk : k = 8 := by
      rcases h0 with ⟨_, h0, _⟩ | ⟨h0, _⟩
      · exact h0
      · exact absurd h0 (by simp)
    rcases h with ⟨h1, h2, h3, h4⟩ | ⟨h, _⟩ | ⟨h, _⟩ | ⟨h, _⟩ | ⟨h, _⟩ | ⟨h, _⟩ | ⟨h, _⟩ | ⟨h, _⟩ | ⟨h, _⟩
    · subst h1
      exact ⟨n, m, td, rfl, h4⟩
    all_goals omega
theorem ret_kn {G : PG} {pl : List (Nat × Nat)} {cap : Nat} {td : List TD} {n m : Int32} {x : Nat} {S : Shp} {L : Nat} {bk : List BK} {sh sl : List Nat} (hS : ∀ o, o ∈ S → o ≠ none) (h : Ret G pl cap n m td bk sh sl) : Kn G pl cap ((8, n, m) :: td) true x S L bk sh sl := by
  unfold Kn
  exact ⟨x, S, Or.inl ⟨rfl, rfl, rfl⟩, Or.inl ⟨rfl, fun h => absurd h (by simp), hS, h⟩⟩

/-- how much is open -/
theorem kn_sz {G : PG} {pl : List (Nat × Nat)} {cap : Nat} (hW : WG G) (hpl : ∀ i a L : Nat, pl[i]? = some (a, L) → L ≤ pLm G) : ∀ {td : List TD} {la : Bool} {pc : Nat} {S : Shp} {L : Nat} {bk : List BK} {sh sl : List Nat}, Kn G pl cap td la pc S L bk sh sl → sh.length ≤ 301 * bk.length ∧ sl.length ≤ 250 * bk.length ∧ cnt td ≤ 40 ∧ td.length ≤ cnt td + 41 * bk.length := by
  intro td
  induction td with
  | nil => intro _ _ _ _ _ _ _ h; exact h.elim
  | cons t td ih =>
    obtain ⟨k, n, m⟩ := t
    intro la pc S L bk sh sl h
    unfold Kn at h
    obtain ⟨pc1, S1, h0, h⟩ := h
    have c8 : k ≠ 8 → cnt ((k, n, m) :: td) = cnt td + 1 := fun c => by simp [cnt, c]
    rcases h with ⟨h1, h2, h3, pb, sb, bk', sh', shb, sl', slb, Sb, Lb, rp, q1, q2, q3, q4, q5, q6, q7, q8, q9, q10, q11⟩ | ⟨h1, h2, h3, h4, h5, h6, h7, h8, h9, h10⟩ | ⟨h1, h2, l, f, e, la', q1, q2, q3, q4⟩ | ⟨h1, h2, i, c, a, b, d, f, y, z, e, la', q1, q2, q3, q4, q5, q6, q7, q8, q9, q10⟩ | ⟨h1, h2, l, f, x, e, la', q1, q2, q3, q4, q5, q6, q7, q8⟩ | ⟨h1, i, c, a, v, w, q1, q2, q3, q4, q5, q6⟩ | ⟨h1, i, p, c, li, b, ps0, ps, ps', vs, s, f, x, y, e, S0, la', q1, q2, q3, q4, q5, q6, q7, q8, q9, q10, q11, q12, q13, q14, q15, q16, q17, q18, q19, q20⟩ | ⟨h1, i, p, c, li, b, ps0, ps, ps', vs, s, f, x, y, e, S0, la', q1, q2, q3, q4, q5, q6, q7, q8, q9, q10, q11, q12, q13, q14, q15, q16, q17, q18, q19, q20⟩ | ⟨h1, i, p, c, q, q', f, x, S0, la', q1, q2, q3, q4, q5, q6, q7, q8, q9, q10, q11, q12, q13, q14, q15⟩
    · obtain ⟨g1, g2, g3, g4⟩ := ih q11
      have hL : Lb ≤ pLm G := by
        rcases q6 with ⟨_, _, e⟩ | ⟨i, a, _, _, e⟩
        · omega
        · exact hpl i a Lb e
      have hb := hW.2.2.2.2.2.1 Lb hL
      have h7 := q7.1
      subst h1 q1 q2 q3
      simp only [List.length_append, List.length_cons, List.length_nil, cnt]
      refine ⟨by omega, by omega, ?_, ?_⟩
      · simp
      · simp; omega
    · subst h6 h7 h8 h9
      have := c8 (by omega)
      rw [this]
      simp [cnt]
    · have := c8 (by omega)
      have hf := q2.1
      obtain ⟨g1, g2, g3, g4⟩ := ih q4
      rw [this]
      exact ⟨g1, g2, by omega, by simp only [List.length_cons]; omega⟩
    · have := c8 (by omega)
      have hf := q4.1
      obtain ⟨g1, g2, g3, g4⟩ := ih q10
      rw [this]
      exact ⟨g1, g2, by omega, by simp only [List.length_cons]; omega⟩
    · have := c8 (by omega)
      have hf := q2.1
      obtain ⟨g1, g2, g3, g4⟩ := ih q8
      rw [this]
      exact ⟨g1, g2, by omega, by simp only [List.length_cons]; omega⟩
    · have := c8 (by omega)
      have hf := q1.2
      obtain ⟨g1, g2, g3, g4⟩ := ih q6
      rw [this]
      exact ⟨g1, g2, by omega, by simp only [List.length_cons]; omega⟩
    · have := c8 (by omega)
      have hf := q10.1
      obtain ⟨g1, g2, g3, g4⟩ := ih q20
      rw [this]
      exact ⟨g1, g2, by omega, by simp only [List.length_cons]; omega⟩
    · have := c8 (by omega)
      have hf := q10.1
      obtain ⟨g1, g2, g3, g4⟩ := ih q20
      rw [this]
      exact ⟨g1, g2, by omega, by simp only [List.length_cons]; omega⟩
    · have := c8 (by omega)
      have hf := q9.1
      obtain ⟨g1, g2, g3, g4⟩ := ih q15
      rw [this]
      exact ⟨g1, g2, by omega, by simp only [List.length_cons]; omega⟩
