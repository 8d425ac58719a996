/-! BUILD. The data of quotes as a run begins: the class's fields against the reference's pairs -/
section QQ0
variable {N : NS} {mt : List Nat} {nw : Nat → Int32}
theorem frs_in {R : Nat → Nat → Prop} {X : Nat → Int32} : ∀ (ps : List Nat) (a b i : Nat), Frs R X ps a b → a ≤ i → i < b → ∃ u v, R u v ∧ a ≤ u ∧ u ≤ i ∧ i < v ∧ v ≤ b
  | [], a, b, i, h, h1, h2 => by
    have h : a = b := h
    omega
  | c :: ps, a, b, i, h, h1, h2 => by
    obtain ⟨rfl, m, q1, q2, q3, q4, q5⟩ := h
    by_cases cc : i < m
    · exact ⟨c, m, q1, Nat.le_refl _, h1, cc, q3⟩
    · obtain ⟨u, v, r1, r2, r3, r4, r5⟩ := frs_in ps m b i q5 (by omega) h2
      exact ⟨u, v, r1, by omega, r3, r4, r5⟩
theorem frs_mm {R : Nat → Nat → Prop} {X : Nat → Int32} : ∀ (ps : List Nat) (a b : Nat), Frs R X ps a b → ∀ c, c ∈ ps → a ≤ c ∧ c < b
  | [], _, _, _, _, h => by cases h
  | p :: ps, a, b, h, c, hc => by
    obtain ⟨rfl, m, q1, q2, q3, q4, q5⟩ := h
    rcases List.mem_cons.mp hc with rfl | hc
    · omega
    · have := frs_mm ps m b q5 c hc
      omega
/-- every node is a datum -/
theorem tr_in : ∀ (g a b i : Nat), Tr g N a b → a ≤ i → i < b → ∃ g' b', g' ≤ g ∧ Tr g' N i b' ∧ b' ≤ b
  | 0, _, _, _, h, _, _ => h.elim
  | g + 1, a, b, i, h, h1, h2 => by
    by_cases c : i = a
    · exact ⟨g + 1, b, Nat.le_refl _, c ▸ h, Nat.le_refl _⟩
    · rcases h with ⟨_, h⟩ | ⟨_, ps, _, _, _, h⟩
      · omega
      · obtain ⟨u, v, r1, r2, r3, r4, r5⟩ := frs_in ps (a + 1) b i h (by omega) h2
        obtain ⟨g', b', s1, s2, s3⟩ := tr_in g u v i r1 r3 r4
        exact ⟨g', b', by omega, s2, by omega⟩
/-- how many parts the last j nodes have -/
def sPt (N : NS) : Nat → Nat
  | 0 => 0
  | j + 1 => sPt N j + (pts N (N.1 - (j + 1))).length
theorem sPt_s {a : Nat} (h : a < N.1) : sPt N (N.1 - a) = sPt N (N.1 - (a + 1)) + (pts N a).length := by
  have e : N.1 - a = (N.1 - (a + 1)) + 1 := by omega
  rw [e, sPt, show N.1 - (N.1 - (a + 1) + 1) = a by omega]
theorem frs_sPt {R : Nat → Nat → Prop} {X : Nat → Int32} (hR : ∀ u v, R u v → v ≤ N.1 → u < v ∧ sPt N (N.1 - u) + 1 = sPt N (N.1 - v) + (v - u)) : ∀ (ps : List Nat) (a b : Nat), Frs R X ps a b → b ≤ N.1 → sPt N (N.1 - a) + ps.length = sPt N (N.1 - b) + (b - a)
  | [], a, b, h, _ => by
    have h : a = b := h
    rw [h, Nat.sub_self]
    rfl
  | c :: ps, a, b, h, hb => by
    obtain ⟨rfl, m, q1, q2, q3, q4, q5⟩ := h
    have i1 := frs_sPt hR ps m b q5 hb
    have i2 := hR c m q1 (by omega)
    rw [List.length_cons]
    omega
theorem tr_sPt : ∀ (g a b : Nat), Tr g N a b → b ≤ N.1 → N.1 < 2000000000 → a < b ∧ sPt N (N.1 - a) + 1 = sPt N (N.1 - b) + (b - a)
  | 0, _, _, h, _, _ => h.elim
  | g + 1, a, b, h, hb, hN => by
    have hab := tr_lt _ _ _ _ h
    refine ⟨hab, ?_⟩
    rw [sPt_s (by omega)]
    by_cases c6 : nK N a = 6
    · obtain ⟨a1, a2, a3⟩ := tr_pts h c6 (by omega)
      have := frs_sPt (N := N) (fun u v hr hv => tr_sPt g u v hr hv hN) (pts N a) (a + 1) b a3 hb
      omega
    · have e : pts N a = [] := by unfold pts; rw [if_neg c6]
      rcases h with ⟨_, h⟩ | ⟨h, _⟩
      · rw [e, h]
        show sPt N (N.1 - (a + 1)) + 0 + 1 = _
        omega
      · exact absurd h c6
theorem qls_e {qv : Nat → Int64} : ∀ (l : List Nat) (pa : List (Int64 × Int64)), (qLs qv l pa).2.length = pa.length + l.length ∧ pa <+: (qLs qv l pa).2 ∧ (qLs qv l pa).1 = (if l = [] then vof 4 0 else vof 6 (nI (pa.length + l.length - 1))) ∧ ∀ t c : Nat, l[t]? = some c → (qLs qv l pa).2[pa.length + l.length - 1 - t]? = some (qv c, if t + 1 = l.length then vof 4 0 else vof 6 (nI (pa.length + l.length - 1 - t - 1)))
  | [], pa => ⟨rfl, List.prefix_refl _, rfl, fun t c h => (by simp at h)⟩
  | c :: l, pa => by
    obtain ⟨i1, i2, i3, i4⟩ := qls_e (qv := qv) l pa
    rw [qLs]
    dsimp only
    refine ⟨?_, i2.trans (List.prefix_append _ _), ?_, fun t x hx => ?_⟩
    · rw [List.length_append, i1, List.length_cons]; rfl
    · rw [if_neg (by simp), i1, List.length_cons]; rfl
    · rw [List.length_cons]
      cases t with
      | zero =>
        have hx : c = x := by simpa using hx
        subst hx
        rw [show pa.length + (l.length + 1) - 1 - 0 = (qLs qv l pa).2.length by rw [i1]; omega, List.getElem?_append_right (Nat.le_refl _), Nat.sub_self, i3]
        show some _ = some _
        by_cases cl : l = []
        · rw [if_pos cl, if_pos (by rw [cl]; rfl)]
        · have : l.length ≠ 0 := fun e => cl (List.length_eq_zero_iff.mp e)
          rw [if_neg cl, if_neg (by omega), i1]
      | succ t =>
        have hx : l[t]? = some x := by simpa using hx
        have ht := g_lt hx
        have := i4 t x hx
        rw [show pa.length + (l.length + 1) - 1 - (t + 1) = pa.length + l.length - 1 - t by omega, List.getElem?_append_left (by rw [i1]; omega), this]
        simp only [Nat.add_right_cancel_iff]
/-- addresses of a list's pairs, in the order in which the reference makes them -/
def bkA (s k : Nat) : List Nat := (List.range k).reverse.map (fun t => s + 2 * t)
theorem bkA_len {s k : Nat} : (bkA s k).length = k := by simp [bkA]
theorem bkA_get {s k t : Nat} (h : t < k) : (bkA s k)[k - 1 - t]? = some (s + 2 * t) := by
  unfold bkA
  rw [List.getElem?_map, List.getElem?_reverse (by rw [List.length_range]; omega), List.length_range, show k - 1 - (k - 1 - t) = t by omega, List.getElem?_range h]
  rfl
def qNv (N : NS) (mt : List Nat) (n : Nat) (qv : Nat → Int64) (pa : List (Int64 × Int64)) : Int64 := if nK N n = 5 then vof 5 (nI (mt.idxOf (nCn N n))) else if nK N n = 6 then (qLs qv ((pts N n).map (· - 1)) pa).1 else vof (nK N n) (nC N n)
def qNp (N : NS) (n : Nat) (qv : Nat → Int64) (pa : List (Int64 × Int64)) : List (Int64 × Int64) := if nK N n = 6 then (qLs qv ((pts N n).map (· - 1)) pa).2 else pa
def qNm (N : NS) (dt : List DTe) (n : Nat) : List Nat := if n ∈ tgl dt then bkA ((tgl dt).idxOf n) (pts N n).length else List.replicate (pts N n).length 20000000
def qP (N : NS) (mt : List Nat) (dt : List DTe) : Nat → (Nat → Int64) × List (Int64 × Int64) × List Nat
  | 0 => (fun _ => 0, [], [])
  | j + 1 => (fun m => if m = N.1 - (j + 1) - 1 then qNv N mt (N.1 - (j + 1)) (qP N mt dt j).1 (qP N mt dt j).2.1 else (qP N mt dt j).1 m, qNp N (N.1 - (j + 1)) (qP N mt dt j).1 (qP N mt dt j).2.1, (qP N mt dt j).2.2 ++ qNm N dt (N.1 - (j + 1)))
/-- what holds behind the last j nodes -/
def QI (N : NS) (mt : List Nat) (dt : List DTe) (j : Nat) (qv : Nat → Int64) (pa : List (Int64 × Int64)) (pm : List Nat) : Prop :=
  (pa.length = sPt N j ∧ pm.length = sPt N j) ∧
  (∀ i a : Nat, pm[i]? = some a → a < 10000000 → ∃ n s t c, (N.1 - j ≤ n ∧ n < N.1) ∧ dTg dt s = some n ∧ (pts N n)[t]? = some c ∧ a = s + 2 * t ∧ i + t + 1 = sPt N (N.1 - (n + 1)) + (pts N n).length ∧ ∃ w, pa[i]? = some (qv (c - 1), w) ∧ ((t + 1 = (pts N n).length ∧ w = vof 4 0) ∨ (t + 1 < (pts N n).length ∧ w = vof 6 (nI (i - 1)) ∧ pm[i - 1]? = some (s + 2 * (t + 1))))) ∧
  (∀ n, N.1 - j ≤ n → n < N.1 → (nK N n = 5 → qv (n - 1) = vof 5 (nI (mt.idxOf (nCn N n)))) ∧ (nK N n ≠ 5 → nK N n ≠ 6 → qv (n - 1) = vof (nK N n) (nC N n)) ∧ (nK N n = 6 → pts N n = [] → qv (n - 1) = vof 4 0) ∧ (nK N n = 6 → pts N n ≠ [] → n ∈ tgl dt → ∃ i : Nat, pm[i]? = some ((tgl dt).idxOf n) ∧ qv (n - 1) = vof 6 (nI i))) ∧
  ∀ m, N.1 - 1 ≤ m → qv m = 0
theorem dtg_tgl {dt : List DTe} {i : Nat} : dTg dt i = (tgl dt)[i]? := by unfold dTg tgl; rw [List.getElem?_map]
theorem qi_s {dt : List DTe} (hl : dt.length ≤ 12400) (hu : ∀ i t : Nat, (tgl dt)[i]? = some t → t ≠ 0 → ∀ j : Nat, (tgl dt)[j]? = some t → j = i) (h6 : ∀ n, n ∈ tgl dt → n ≠ 0 → nK N n = 6) (hch : ∀ n, 1 ≤ n → n < N.1 → nK N n = 6 → ∀ c, c ∈ pts N n → n < c ∧ c < N.1) : ∀ j, j + 1 ≤ N.1 → QI N mt dt j (qP N mt dt j).1 (qP N mt dt j).2.1 (qP N mt dt j).2.2
  | 0, _ => ⟨⟨rfl, rfl⟩, fun i a h => (by cases h), fun n h1 h2 => (by omega), fun _ _ => rfl⟩
  | j + 1, hj => by
    obtain ⟨⟨i1, i2⟩, i3, i4, i5⟩ := qi_s hl hu h6 hch j (by omega)
    rw [qP]
    dsimp only
    generalize hN' : N.1 - (j + 1) = n at *
    generalize (qP N mt dt j).1 = qv at *
    generalize (qP N mt dt j).2.1 = pa at *
    generalize (qP N mt dt j).2.2 = pm at *
    have hn1 : 1 ≤ n := by omega
    have hnN : n < N.1 := by omega
    have hsj : N.1 - (n + 1) = j := by omega
    have pl : (pts N n).length = ((pts N n).map (· - 1)).length := by rw [List.length_map]
    have ne6 : nK N n ≠ 6 → pts N n = [] := fun c => by unfold pts; rw [if_neg c]
    obtain ⟨Q1, Q2, Q3, Q4⟩ := qls_e (qv := qv) ((pts N n).map (· - 1)) pa
    have lenp : (qNp N n qv pa).length = pa.length + (pts N n).length := by
      unfold qNp
      by_cases c : nK N n = 6
      · rw [if_pos c, Q1, List.length_map]
      · rw [if_neg c, ne6 c]; rfl
    have pfp : pa <+: qNp N n qv pa := by
      unfold qNp
      split
      · exact Q2
      · exact List.prefix_refl _
    have lenm : (qNm N dt n).length = (pts N n).length := by
      unfold qNm
      split
      · exact bkA_len
      · exact List.length_replicate
    have sSj : sPt N (j + 1) = sPt N j + (pts N n).length := by rw [sPt, hN']
    obtain ⟨qw, hqw⟩ : ∃ qw : Nat → Int64, qw = fun m => if m = n - 1 then qNv N mt n qv pa else qv m := ⟨_, rfl⟩
    have qo : ∀ m, m ≠ n - 1 → qw m = qv m := fun m hm => by rw [hqw]; exact if_neg hm
    have qe : qw (n - 1) = qNv N mt n qv pa := by rw [hqw]; exact if_pos rfl
    rw [← hqw]
    have tgI : n ∈ tgl dt → (tgl dt)[(tgl dt).idxOf n]? = some n := fun h => by rw [List.getElem?_eq_getElem (List.idxOf_lt_length_iff.mpr h), List.getElem_idxOf]
    refine ⟨⟨by rw [lenp, i1, sSj], by rw [List.length_append, lenm, i2, sSj]⟩, fun i a hi ha => ?_, fun x hx1 hx2 => ?_, fun m hm => ?_⟩
    · by_cases ci : i < pm.length
      · rw [List.getElem?_append_left ci] at hi
        obtain ⟨x, s, t, c, ⟨k1, k2⟩, k3, k4, k5, k6, w, k7, k8⟩ := i3 i a hi ha
        have hcx : x < c := by
          have h6x : nK N x = 6 := Classical.byContradiction fun c6 => by
            have : pts N x = [] := by unfold pts; rw [if_neg c6]
            rw [this] at k4
            simp at k4
          exact (hch x (by omega) k2 h6x c (List.mem_of_getElem? k4)).1
        refine ⟨x, s, t, c, ⟨by omega, k2⟩, k3, k4, k5, k6, w, ?_, ?_⟩
        · rw [qo (c - 1) (by omega)]
          exact pf_get pfp k7
        · rcases k8 with k8 | ⟨k8, k9, k10⟩
          · exact Or.inl k8
          · exact Or.inr ⟨k8, k9, by rw [List.getElem?_append_left (g_lt k10)]; exact k10⟩
      · rw [List.getElem?_append_right (by omega)] at hi
        by_cases ct : n ∈ tgl dt
        · have e6 := h6 n ct (by omega)
          have eNm : qNm N dt n = bkA ((tgl dt).idxOf n) (pts N n).length := by unfold qNm; rw [if_pos ct]
          rw [eNm] at hi
          have hlt := g_lt hi
          rw [bkA_len] at hlt
          obtain ⟨t, ht⟩ : ∃ t, t = (pts N n).length - 1 - (i - pm.length) := ⟨_, rfl⟩
          have htk : t < (pts N n).length := by omega
          have hit : i - pm.length = (pts N n).length - 1 - t := by omega
          rw [hit, bkA_get htk] at hi
          injection hi with hi
          have hct := List.getElem?_eq_getElem htk
          obtain ⟨hc1, hc2⟩ := hch n hn1 hnN e6 _ (List.getElem_mem htk)
          generalize (pts N n)[t] = c at hct hc1 hc2
          have q := Q4 t (c - 1) (by rw [List.getElem?_map, hct]; rfl)
          rw [← pl] at q
          refine ⟨n, (tgl dt).idxOf n, t, c, ⟨by omega, hnN⟩, by rw [dtg_tgl]; exact tgI ct, hct, hi.symm, by rw [hsj, ← i2]; omega, (if t + 1 = (pts N n).length then vof 4 0 else vof 6 (nI (pa.length + (pts N n).length - 1 - t - 1))), ?_, ?_⟩
          · rw [qo (c - 1) (by omega)]
            unfold qNp
            rw [if_pos e6, show i = pa.length + (pts N n).length - 1 - t by omega]
            exact q
          · by_cases cl : t + 1 = (pts N n).length
            · exact Or.inl ⟨cl, if_pos cl⟩
            · refine Or.inr ⟨by omega, ?_, ?_⟩
              · rw [if_neg cl, show pa.length + (pts N n).length - 1 - t = i by omega]
              · rw [List.getElem?_append_right (by omega), eNm, show i - 1 - pm.length = (pts N n).length - 1 - (t + 1) by omega]
                exact bkA_get (by omega)
        · have eNm : qNm N dt n = List.replicate (pts N n).length 20000000 := by unfold qNm; rw [if_neg ct]
          rw [eNm, List.getElem?_replicate] at hi
          split at hi
          · injection hi with hi
            omega
          · cases hi
    · by_cases cx : x = n
      · subst cx
        rw [qe]
        unfold qNv
        refine ⟨fun c => by rw [if_pos c], fun c d => by rw [if_neg c, if_neg d], fun c d => ?_, fun c d ct => ?_⟩
        · rw [if_neg (by rw [c]; decide), if_pos c, Q3, if_pos (by rw [d]; rfl)]
        · have hk : 1 ≤ (pts N x).length := Nat.pos_of_ne_zero (fun e => d (List.length_eq_zero_iff.mp e))
          refine ⟨pm.length + (pts N x).length - 1, ?_, ?_⟩
          · rw [List.getElem?_append_right (by omega)]
            unfold qNm
            rw [if_pos ct, show pm.length + (pts N x).length - 1 - pm.length = (pts N x).length - 1 - 0 by omega, bkA_get (by omega)]
            rfl
          · rw [if_neg (by rw [c]; decide), if_pos c, Q3, if_neg (fun e => d (List.map_eq_nil_iff.mp e)), List.length_map, i1, i2]
      · obtain ⟨a1, a2, a3, a4⟩ := i4 x (by omega) hx2
        rw [qo (x - 1) (by omega)]
        refine ⟨a1, a2, a3, fun c d ct => ?_⟩
        obtain ⟨i, b1, b2⟩ := a4 c d ct
        exact ⟨i, by rw [List.getElem?_append_left (g_lt b1)]; exact b1, b2⟩
    · rw [qo m (by omega)]
      exact i5 m hm
theorem qst_s {dt : List DTe} (gs : GS N mt (gOf N mt nw)) (nk : Nok N mt) (h1 : 1 ≤ N.1) (hT : ∀ i, 1 ≤ i → i < N.1 → ∃ g b, Tr (g + 1) N i b ∧ b ≤ N.1) : ∀ j, j + 1 ≤ N.1 → Qst (gOf N mt nw) j (qP N mt dt j).1 (qP N mt dt j).2.1
  | 0, _ => ⟨rfl, fun _ => rfl⟩
  | j + 1, hj => by
    have i1 := qst_s (dt := dt) gs nk h1 hT j (by omega)
    have en : pNn (gOf N mt nw) - (j + 1) = N.1 - (j + 1) - 1 := by
      show N.1 - 1 - (j + 1) = _
      omega
    obtain ⟨n, hn⟩ : ∃ n, n = N.1 - (j + 1) := ⟨_, rfl⟩
    refine ⟨(qP N mt dt j).1, (qP N mt dt j).2.1, qNv N mt n (qP N mt dt j).1 (qP N mt dt j).2.1, i1, ?_, ?_⟩
    · rw [en, ← hn]
      have e2 : (qP N mt dt (j + 1)).2.1 = qNp N n (qP N mt dt j).1 (qP N mt dt j).2.1 := by rw [qP, ← hn]
      rw [e2]
      obtain ⟨k1, k2, k3, _⟩ := gs.2.1 n (by omega) (by omega)
      have kc := nk.1 n (by omega) (by omega)
      unfold qNv qNp
      rcases nkc_c nk (i := n) (by omega) (by omega) with c | c | c | c | c
      · rw [c, if_neg (by decide), if_neg (by decide), if_neg (by decide)]
        exact Or.inl ⟨by rw [k1, c]; rfl, by rw [k3 c], rfl⟩
      · have c0 : nC N n = 0 := by
          rcases kc with q | ⟨_, q⟩ | ⟨q, _⟩ | q
          · rw [c] at q; exact absurd q (by decide)
          · exact q
          · rw [c] at q; exact absurd q (by decide)
          · rw [c] at q; exact absurd q (by decide)
        rw [c, if_neg (by decide), if_neg (by decide), if_neg (by decide), c0]
        exact Or.inr (Or.inr (Or.inl ⟨by rw [k1, c]; rfl, rfl, rfl⟩))
      · have c0 : nC N n = 0 := by
          rcases kc with q | ⟨_, q⟩ | ⟨q, _⟩ | q
          · rw [c] at q; exact absurd q (by decide)
          · exact q
          · rw [c] at q; exact absurd q (by decide)
          · rw [c] at q; exact absurd q (by decide)
        rw [c, if_neg (by decide), if_neg (by decide), if_neg (by decide), c0]
        exact Or.inr (Or.inl ⟨by rw [k1, c]; rfl, rfl, rfl⟩)
      · rw [if_pos c, if_neg (by rw [c]; decide)]
        exact Or.inr (Or.inr (Or.inr (Or.inl ⟨by rw [k1, c]; rfl, by rw [k2 c], rfl⟩)))
      · rw [if_neg (by rw [c]; decide), if_pos c, if_pos c]
        obtain ⟨g, b, t1, t2⟩ := hT n (by omega) (by omega)
        exact Or.inr (Or.inr (Or.inr (Or.inr ⟨by rw [k1, c]; rfl, (pts N n).map (· - 1), chn_n gs t1 c (by omega) t2, rfl⟩)))
    · rw [en, ← hn]
      have e1 : (qP N mt dt (j + 1)).1 = fun m => if m = N.1 - (j + 1) - 1 then qNv N mt (N.1 - (j + 1)) (qP N mt dt j).1 (qP N mt dt j).2.1 else (qP N mt dt j).1 m := by rw [qP]
      rw [e1, ← hn]
/-- a field of the class's data -/
theorem dat_at {dt : List DTe} (ed : rDt (cAll N mt) = dt) {i m : Nat} {k c : Int32} (h : dt[i]? = some (m, some (vof k c))) : (dat (gOf N mt nw))[i]? = some (vof k c) := by
  have hl := g_lt h
  have hz : i < pDz (gOf N mt nw) := by
    show i < (rDt (cAll N mt)).length
    rw [ed]; exact hl
  have hv : dtV N mt i = vof k c := by
    unfold dtV
    rw [ed, List.getD_eq_getElem?_getD, h]
    rfl
  unfold dat
  rw [List.getElem?_map, List.getElem?_range hz]
  show some (vof (vkd (dtV N mt i)) (dtV N mt i).toInt32) = _
  rw [hv, vof_kd, vof_lo]
theorem q0_of (hB : BK1 N mt nw) (hn : rFl (cAll N mt) = none) : Q0 (gOf N mt nw) := by
  have gs := gs_of hB hn
  obtain ⟨z, ez, _, _, _, b1, b2, b3, b4, b5, b6, b7, b8, b9, ⟨b10, bD, bT⟩, b11⟩ := all_bnd hB hn
  obtain ⟨nk, pl, ⟨g, g1, g2, fr⟩, hF, h1, hw⟩ := hB
  have hN := nk.2.2
  have ed : rDt (cAll N mt) = rDt z := by rw [ez]; rfl
  obtain ⟨dt, hdt⟩ : ∃ dt, dt = rDt z := ⟨_, rfl⟩
  rw [← hdt] at b3 b9 bD bT ed
  obtain ⟨D1, _, D3, D4⟩ := bD
  have hT : ∀ i, 1 ≤ i → i < N.1 → ∃ g b, Tr (g + 1) N i b ∧ b ≤ N.1 := fun i i1 i2 => by
    obtain ⟨u, v, r1, r2, r3, r4, r5⟩ := frs_in _ _ _ i fr i1 i2
    obtain ⟨g', b', s1, s2, s3⟩ := tr_in g u v i r1 r3 r4
    cases g' with
    | zero => exact s2.elim
    | succ g' => exact ⟨g', b', s2, by omega⟩
  have hch : ∀ n, 1 ≤ n → n < N.1 → nK N n = 6 → ∀ c, c ∈ pts N n → n < c ∧ c < N.1 := fun n n1 n2 c6 c hc => by
    obtain ⟨g', b', t1, t2⟩ := hT n n1 n2
    obtain ⟨a1, a2, a3⟩ := tr_pts t1 c6 (by omega)
    have := frs_mm _ _ _ a3 c hc
    omega
  have mem : ∀ n, n ∈ tgl dt → (tgl dt)[(tgl dt).idxOf n]? = some n := fun n h => by rw [List.getElem?_eq_getElem (List.idxOf_lt_length_iff.mpr h), List.getElem_idxOf]
  have blk : ∀ n, n ∈ tgl dt → n ≠ 0 → BLK N mt (fun _ => False) dt ((tgl dt).idxOf n) n := fun n h h0 => D4 _ _ (by rw [dtg_tgl]; exact mem n h) h0 (fun q => q)
  have h6 : ∀ n, n ∈ tgl dt → n ≠ 0 → nK N n = 6 := fun n h h0 => (blk n h h0).2.1
  have QI0 := qi_s (N := N) (mt := mt) (dt := dt) b3 b9 h6 hch (N.1 - 1) (by omega)
  have Q := qst_s (nw := nw) (dt := dt) gs nk h1 hT (N.1 - 1) (by omega)
  have tot := frs_sPt (N := N) (fun u v hr hv => tr_sPt g u v hr hv (by omega)) (pts N 0) 1 N.1 fr (Nat.le_refl _)
  generalize (qP N mt dt (N.1 - 1)).1 = qv at *
  generalize (qP N mt dt (N.1 - 1)).2.1 = pa at *
  generalize (qP N mt dt (N.1 - 1)).2.2 = pm at *
  obtain ⟨⟨l1, l2⟩, I3, I4, I5⟩ := QI0
  rw [Nat.sub_self] at tot
  have t0 : sPt N 0 = 0 := rfl
  have e1 : N.1 - (N.1 - 1) = 1 := by omega
  rw [e1] at I3 I4
  -- each live pair has one place
  have inj : ∀ i i' a : Nat, pm[i]? = some a → pm[i']? = some a → a < 10000000 → i = i' := fun i i' a hi hi' ha => by
    obtain ⟨n, s, t, c, ⟨k1, k2⟩, k3, k4, k5, k6, _⟩ := I3 i a hi ha
    obtain ⟨n', s', t', c', ⟨k1', k2'⟩, k3', k4', k5', k6', _⟩ := I3 i' a hi' ha
    have B := D4 s n k3 (by omega) (fun q => q)
    have B' := D4 s' n' k3' (by omega) (fun q => q)
    have ht := g_lt k4
    have ht' := g_lt k4'
    have hs : s = s' := by
      rcases Nat.lt_trichotomy s s' with q | q | q
      · have := B.2.2.1.2 s' q (by omega)
        rw [k3'] at this
        injection this with this
        omega
      · exact q
      · have := B'.2.2.1.2 s q (by omega)
        rw [k3] at this
        injection this with this
        omega
    subst hs
    rw [k3] at k3'
    injection k3' with k3'
    subst k3'
    omega
  have dvi : ∀ {i a : Nat}, pm[i]? = some a → (Dv pm []).1 i = a := fun {i a} h => by
    show pm.getD i 20000000 = a
    rw [List.getD_eq_getElem?_getD, h]
    rfl
  -- a node's value in both
  have vr6 : ∀ {i a : Nat}, pm[i]? = some a → a < 10000000 → VR (Dv pm []) (vof 6 (nI a)) (vof 6 (nI i)) := fun {i a} h ha => Or.inr (Or.inl ⟨i, ⟨g_lt h, by rw [dvi h]; exact ha⟩, by rw [dvi h], rfl⟩)
  have tlen : (tgl dt).length = dt.length := by unfold tgl; rw [List.length_map]
  have vr0 : ∀ c, 1 ≤ c → c < N.1 → nK N c ≠ 5 → nK N c ≠ 6 → VR (Dv pm []) (vof (nK N c) (nC N c)) (vof (nK N c) (nC N c)) := fun c c1 c2 n5 n6 => by
    rcases nk.1 c c1 c2 with q | ⟨q | q, q0⟩ | ⟨q, _⟩ | q
    · exact Or.inl ⟨1, nC N c, by decide, by rw [q]; rfl, by rw [q]; rfl, Or.inr (Or.inl rfl)⟩
    · exact Or.inl ⟨2, nC N c, by decide, by rw [q]; rfl, by rw [q]; rfl, Or.inl q0⟩
    · exact Or.inl ⟨3, nC N c, by decide, by rw [q]; rfl, by rw [q]; rfl, Or.inl q0⟩
    · exact absurd q n5
    · exact absurd q n6
  have vrC : ∀ c v, 1 ≤ c → c < N.1 → CV N mt dt c v → VR (Dv pm []) v (qv (c - 1)) := fun c v c1 c2 hv => by
    obtain ⟨q1, q2, q3, q4⟩ := I4 c c1 c2
    rcases hv with ⟨a1, a2⟩ | ⟨a1, a2, a3⟩ | ⟨a1, a2, a3⟩ | ⟨a1, a2, s, a3, a4⟩
    · rw [a2, q1 a1]
      exact Or.inl ⟨5, _, by decide, rfl, rfl, Or.inr (Or.inr rfl)⟩
    · rw [a3, q2 a1 a2]
      exact vr0 c c1 c2 a1 a2
    · rw [a3, q3 a1 a2]
      exact Or.inl ⟨4, 0, by decide, rfl, rfl, Or.inl rfl⟩
    · rw [dtg_tgl] at a3
      have hm := List.mem_of_getElem? a3
      obtain ⟨i, r1, r2⟩ := q4 a1 a2 hm
      have hs : (tgl dt).idxOf c = s := b9 s c a3 (by omega) _ (mem c hm)
      have := g_lt a3
      rw [a4, r2]
      rw [hs] at r1
      exact vr6 r1 (by omega)
  refine ⟨qv, pa, ?_, by omega, pm, (List.range dt.length).map (fun a => if a % 2 = 0 then (0, pm.idxOf a) else (1, pm.idxOf (a - 1))), ?_⟩
  · exact Q
  have idx : ∀ {i a : Nat}, pm[i]? = some a → a < 10000000 → pm.idxOf a = i := fun {i a} h ha => by
    have hm := List.mem_of_getElem? h
    exact inj _ _ a (by rw [List.getElem?_eq_getElem (List.idxOf_lt_length_iff.mpr hm), List.getElem_idxOf]) h ha
  have dlen : (dat (gOf N mt nw)).length = dt.length := by
    unfold dat
    rw [List.length_map, List.length_range]
    show (rDt (cAll N mt)).length = _
    rw [ed]
  refine ⟨fun i a hi ha => ?_, fun i a L h => (by cases h), ⟨fun m b h => ?_, fun m m' b h => ?_⟩, ⟨fun P b h => (by cases h), fun P P' b h => (by cases h)⟩, rfl, ⟨List.length_replicate, List.length_replicate, b10, fun g hg => ?_⟩, ⟨fun n hn => ?_, ⟨fun i hi => ?_, fun i hi => ?_⟩⟩, ⟨?_, ?_, Nat.zero_le _, by omega, by omega, rfl, Nat.le_refl _⟩⟩
  · obtain ⟨n, s, t, c, ⟨k1, k2⟩, k3, k4, k5, k6, w, k7, k8⟩ := I3 i a hi ha
    have B := D4 s n k3 (by omega) (fun q => q)
    obtain ⟨_, ⟨m1, v, c1, c2⟩, m2, c3⟩ := B.2.2.2 t c k4
    rw [← k5] at c1 c3
    have la := g_lt c1
    have la1 := g_lt c3
    have hev : a % 2 = 0 := by have := B.1; omega
    obtain ⟨vk, vc, hv⟩ := cv_v c2
    rw [hv] at c1
    obtain ⟨hc1, hc2⟩ := hch n k1 k2 B.2.1 c (List.mem_of_getElem? k4)
    have ix := idx hi ha
    refine ⟨?_, ?_, ?_⟩
    · rw [List.getElem?_map, List.getElem?_range la]
      show some (if a % 2 = 0 then (0, pm.idxOf a) else (1, pm.idxOf (a - 1))) = _
      rw [if_pos hev, ix]
    · rw [List.getElem?_map, List.getElem?_range la1]
      show some (if (a + 1) % 2 = 0 then (0, pm.idxOf (a + 1)) else (1, pm.idxOf (a + 1 - 1))) = _
      rw [if_neg (by omega), Nat.add_sub_cancel, ix]
    · have x1 := dat_at (nw := nw) ed c1
      have v1 := vrC c v (by omega) hc2 c2
      rw [hv] at v1
      rcases k8 with ⟨t1, hw8⟩ | ⟨t1, hw8, hw9⟩
      · rw [if_pos t1] at c3
        refine ⟨_, _, _, _, x1, dat_at (nw := nw) ed c3, k7, v1, ?_⟩
        rw [hw8]
        exact Or.inl ⟨4, 0, by decide, rfl, rfl, Or.inl rfl⟩
      · rw [if_neg (by omega)] at c3
        refine ⟨_, _, _, _, x1, dat_at (nw := nw) ed c3, k7, v1, ?_⟩
        rw [hw8, show a + 2 = s + 2 * (t + 1) by omega]
        have : s + 2 * (t + 1) < 10000000 := by omega
        exact vr6 hw9 this
  · rw [List.getElem?_map] at h
    obtain ⟨x, _, h⟩ := Option.map_eq_some_iff.mp h
    split at h
    · injection h with h; cases h
    · injection h with h; cases h
  · rw [List.getElem?_map] at h
    obtain ⟨x, _, h⟩ := Option.map_eq_some_iff.mp h
    split at h
    · injection h with h; cases h
    · injection h with h; cases h
  · have hg : g < (gdf N).length := hg
    exact ⟨vof 9 0, vof 9 0, by rw [List.getElem?_replicate, if_pos (by omega)], by rw [List.getElem?_replicate]; exact if_pos hg, Or.inr ⟨rfl, rfl⟩⟩
  · obtain ⟨hn0, hn⟩ := hn
    have hn0 : n < N.1 - 1 := hn0
    obtain ⟨k1, k2, k3, k4, _⟩ := gs.2.1 (n + 1) (by omega) (by omega)
    rw [Nat.add_sub_cancel] at k1 k2 k3 k4
    obtain ⟨q1, q2, q3, q4⟩ := I4 (n + 1) (by omega) (by omega)
    rw [Nat.add_sub_cancel] at q1 q2 q3 q4
    have v0 := vr0 (n + 1) (by omega) (by omega)
    unfold pDv
    rcases nk.1 (n + 1) (by omega) (by omega) with c | ⟨c | c, c0⟩ | ⟨c, _⟩ | c
    · have e : (gOf N mt nw).1 21 n = 0 := by rw [k1, c]; rfl
      rw [if_pos e, k3 c, q2 (by rw [c]; decide) (by rw [c]; decide)]
      have := v0 (by rw [c]; decide) (by rw [c]; decide)
      rw [c] at this ⊢
      exact this
    · have e : (gOf N mt nw).1 21 n = 2 := by rw [k1, c]; rfl
      rw [e, if_neg (by decide), if_neg (by decide), if_pos rfl, q2 (by rw [c]; decide) (by rw [c]; decide)]
      have := v0 (by rw [c]; decide) (by rw [c]; decide)
      rw [c, c0] at this
      rw [c, c0]
      exact this
    · have e : (gOf N mt nw).1 21 n = 1 := by rw [k1, c]; rfl
      rw [e, if_neg (by decide), if_pos rfl, q2 (by rw [c]; decide) (by rw [c]; decide)]
      have := v0 (by rw [c]; decide) (by rw [c]; decide)
      rw [c, c0] at this
      rw [c, c0]
      exact this
    · have e : (gOf N mt nw).1 21 n = 3 := by rw [k1, c]; rfl
      rw [e, if_neg (by decide), if_neg (by decide), if_neg (by decide), if_pos rfl, k2 c, q1 c]
      exact Or.inl ⟨5, _, by decide, rfl, rfl, Or.inr (Or.inr rfl)⟩
    · have e : (gOf N mt nw).1 21 n = 4 := by rw [k1, c]; rfl
      rw [e, if_neg (by decide), if_neg (by decide), if_neg (by decide), if_neg (by decide)]
      obtain ⟨g', b', t1, t2⟩ := hT (n + 1) (by omega) (by omega)
      obtain ⟨a1, a2, a3⟩ := tr_pts t1 c (by omega)
      by_cases cp : pts N (n + 1) = []
      · have : (gOf N mt nw).1 24 n = -1 := by rw [k4, a2, cp]; rfl
        rw [if_pos this, q3 c cp]
        exact Or.inl ⟨4, 0, by decide, rfl, rfl, Or.inl rfl⟩
      · have hne : ¬ (gOf N mt nw).1 24 n = -1 := by
          rw [k4, a2]
          match hpq : pts N (n + 1), cp with
          | c0 :: t0, _ =>
            rw [hpq] at a3
            obtain ⟨r0, mm, _, r1, r2, _⟩ := a3
            show ¬ dnI (nI c0) = -1
            rw [dnI_nI (by omega) (by omega)]
            intro e
            have := nI_nl (n := c0 - 1) (by omega)
            rw [e] at this
            exact this (by decide)
        rw [if_neg hne]
        have hds : pDs (gOf N mt nw) n = if n + 1 ∈ tgl (rDt (cAll N mt)) then (tgl (rDt (cAll N mt))).idxOf (n + 1) else 200000 := rfl
        rw [ed] at hds
        have hlt : pDs (gOf N mt nw) n < 100000 := by
          rcases hn with q | q | q | q | ⟨_, q | q⟩
          · rw [e] at q; exact absurd q (by decide)
          · rw [e] at q; exact absurd q (by decide)
          · rw [e] at q; exact absurd q (by decide)
          · rw [e] at q; exact absurd q (by decide)
          · exact absurd q hne
          · exact q
        by_cases cm : n + 1 ∈ tgl dt
        · rw [if_pos cm] at hds
          rw [hds]
          obtain ⟨i, r1, r2⟩ := q4 c cp cm
          rw [r2]
          exact vr6 r1 (by omega)
        · rw [if_neg cm] at hds
          omega
  · have hi : i < (qv 999998).toNatClampNeg := hi
    rw [I5 _ (by omega)] at hi
    exact absurd hi (Nat.not_lt_zero _)
  · have hi : i < (qv 999999).toNatClampNeg := hi
    rw [I5 _ (by omega)] at hi
    exact absurd hi (Nat.not_lt_zero _)
  · rw [List.length_map, List.length_range, dlen]
  · rw [dlen]; omega
theorem ps_of (hB : BK1 N mt nw) (hn : rFl (cAll N mt) = none) : PS (gOf N mt nw) := ⟨(wg_of hB hn).1, (wg_of hB hn).2, q0_of hB hn⟩
/-- names and kept of a lambda are the same in both -/
theorem gof_mn (hB : BK1 N mt nw) (hn : rFl (cAll N mt) = none) {M : Nat} (h1 : 1 ≤ M) (h2 : M ≤ mLa (mAll N)) : pWn (gOf N mt nw) M = mNm (mAll N) M ∧ pFr (gOf N mt nw) M = (mFe (mAll N) M).length := by
  have gs := gs_of hB hn
  obtain ⟨z, ez, _, _, _, b1, b2, b3, b4, b5, b6, b7, b8, b9, b10, b11⟩ := all_bnd hB hn
  have W := ((b11 _ gs (hg_of (nw := nw) ez b3 b5 b8 b9)).2 M h1 h2).1
  exact ⟨W.1, W.2.1⟩
end QQ0
