/-! BUILD. The data of quotes: what the fields hold -/
def dTg (dt : List DTe) (i : Nat) : Option Nat := (dt[i]?).map (·.1)
def CV (N : NS) (mt : List Nat) (dt : List DTe) (c : Nat) (v : Int64) : Prop := (nK N c = 5 ∧ v = vof 5 (nI (mt.idxOf (nCn N c)))) ∨ (nK N c ≠ 5 ∧ nK N c ≠ 6 ∧ v = vof (nK N c) (nC N c)) ∨ (nK N c = 6 ∧ pts N c = [] ∧ v = vof 4 0) ∨ (nK N c = 6 ∧ pts N c ≠ [] ∧ ∃ s, dTg dt s = some c ∧ v = vof 6 (nI s))
/-- a list's fields, from i on -/
def BLK (N : NS) (mt : List Nat) (O : Nat → Prop) (dt : List DTe) (i n : Nat) : Prop := i % 2 = 0 ∧ nK N n = 6 ∧ (pts N n ≠ [] ∧ ∀ x, i < x → x < i + 2 * (pts N n).length → dTg dt x = some 0) ∧ ∀ j c : Nat, (pts N n)[j]? = some c → (¬ O (i + 2 * j) ∧ ¬ O (i + 2 * j + 1)) ∧ (∃ m v, dt[i + 2 * j]? = some (m, some v) ∧ CV N mt dt c v) ∧ ∃ m, dt[i + 2 * j + 1]? = some (m, some (if j + 1 = (pts N n).length then vof 4 0 else vof 6 (nI (i + 2 * j + 2))))
/-- all data but for the fields of O, which are still open -/
def PDo (N : NS) (mt : List Nat) (O : Nat → Prop) (dt : List DTe) : Prop := dt.length % 2 = 0 ∧ (∀ i, O i → i < dt.length) ∧ (∀ (i m : Nat) (ov : Option Int64), dt[i]? = some (m, ov) → ¬ O i → ∃ k c, ov = some (vof k c)) ∧ ∀ i n, dTg dt i = some n → n ≠ 0 → ¬ O i → BLK N mt O dt i n
section DAT
variable {N : NS} {mt : List Nat} {O : Nat → Prop} {dt dt' : List DTe}
theorem cv_v {c : Nat} {v : Int64} (h : CV N mt dt c v) : ∃ k c', v = vof k c' := by
  rcases h with ⟨_, h⟩ | ⟨_, _, h⟩ | ⟨_, _, h⟩ | ⟨_, _, s, _, h⟩ <;> exact ⟨_, _, h⟩
theorem cv_tg {c : Nat} {v : Int64} (h : CV N mt dt c v) (e : ∀ s n, dTg dt s = some n → dTg dt' s = some n) : CV N mt dt' c v := by
  rcases h with h | h | h | ⟨h1, h2, s, h3, h4⟩
  · exact Or.inl h
  · exact Or.inr (Or.inl h)
  · exact Or.inr (Or.inr (Or.inl h))
  · exact Or.inr (Or.inr (Or.inr ⟨h1, h2, s, e s c h3, h4⟩))
/-- the open fields alone change -/
theorem pdo_ch (h : PDo N mt O dt) (hl : dt'.length = dt.length) (e1 : ∀ i, ¬ O i → dt'[i]? = dt[i]?) (e2 : ∀ i, dTg dt' i = dTg dt i) : PDo N mt O dt' := by
  obtain ⟨h1, h2, h3, h4⟩ := h
  refine ⟨by rw [hl]; exact h1, fun i hi => by rw [hl]; exact h2 i hi, fun i m ov hi ho => h3 i m ov (by rw [← e1 i ho]; exact hi) ho, fun i n hi hn ho => ?_⟩
  rw [e2] at hi
  obtain ⟨k1, k2, k3, k4⟩ := h4 i n hi hn ho
  refine ⟨k1, k2, ⟨k3.1, fun x h5 h6 => by rw [e2]; exact k3.2 x h5 h6⟩, fun j c hc => ?_⟩
  obtain ⟨⟨q1, q1'⟩, ⟨m, v, q2, q3⟩, m', q4⟩ := k4 j c hc
  exact ⟨⟨q1, q1'⟩, ⟨m, v, by rw [e1 _ q1]; exact q2, cv_tg q3 (fun s n hs => by rw [e2]; exact hs)⟩, m', by rw [e1 _ q1']; exact q4⟩
theorem dU_ne {s i : Nat} {v : Int64} (h : s ≠ i) : (dU dt s v)[i]? = dt[i]? := by
  unfold dU
  rw [List.getElem?_set, if_neg h]
theorem dU_eq {s : Nat} {v : Int64} (h : s < dt.length) : ∃ m, (dU dt s v)[s]? = some (m, some v) := by
  unfold dU
  rw [List.getElem?_set, if_pos rfl, if_pos h]
  exact ⟨_, rfl⟩
theorem dU_len {s : Nat} {v : Int64} : (dU dt s v).length = dt.length := List.length_set
theorem dU_tg {s i : Nat} {v : Int64} : dTg (dU dt s v) i = dTg dt i := dU_tag
theorem pdo_U {s : Nat} {v : Int64} (h : PDo N mt O dt) (hs : O s) : PDo N mt O (dU dt s v) := pdo_ch h dU_len (fun i hi => dU_ne (fun e => hi (e ▸ hs))) (fun _ => dU_tg)
theorem dtg_pf (h : dt <+: dt') {s n : Nat} (e : dTg dt s = some n) : dTg dt' s = some n := by
  unfold dTg at e ⊢
  obtain ⟨x, h1, h2⟩ := Option.map_eq_some_iff.mp e
  rw [pf_get h h1]
  exact congrArg some h2
/-- a list's parts, field by field -/
theorem dml_p {R : Nat → Nat → Prop} {Fd : Nat → List DTe → Int64 × List DTe} {X : Nat → Int32} (hF : ∀ p m dt O, R p m → PDo N mt O dt → PDo N mt O (Fd p dt).2 ∧ CV N mt (Fd p dt).2 p (Fd p dt).1 ∧ dt <+: (Fd p dt).2) : ∀ (l : List Nat) (a b s : Nat) (dt : List DTe), Frs R X l a b → PDo N mt O dt → (∀ x, s ≤ x → x < s + 2 * l.length → O x) →
    PDo N mt O (cDmL Fd l s dt) ∧ (∀ j c : Nat, l[j]? = some c → (∃ m v, (cDmL Fd l s dt)[s + 2 * j]? = some (m, some v) ∧ CV N mt (cDmL Fd l s dt) c v) ∧ ∃ m, (cDmL Fd l s dt)[s + 2 * j + 1]? = some (m, some (if j + 1 = l.length then vof 4 0 else vof 6 (nI (s + 2 * j + 2))))) ∧ (∀ i, i < dt.length → (i < s ∨ s + 2 * l.length ≤ i) → (cDmL Fd l s dt)[i]? = dt[i]?) ∧ (∀ i n, dTg dt i = some n → dTg (cDmL Fd l s dt) i = some n) ∧ (∀ i, i < dt.length → dTg (cDmL Fd l s dt) i = dTg dt i)
  | [], _, _, _, _, _, hp, _ => ⟨hp, fun j c h => (by simp at h), fun _ _ _ => rfl, fun _ _ h => h, fun _ _ => rfl⟩
  | p :: l, a, b, s, dt, h, hp, ho => by
    obtain ⟨rfl, m, h1, h2, h3, h4, h5⟩ := h
    obtain ⟨f1, f2, f3⟩ := hF p m dt O h1 hp
    have hs0 : O s := ho s (Nat.le_refl _) (by rw [List.length_cons]; omega)
    have hs1 : O (s + 1) := ho (s + 1) (by omega) (by rw [List.length_cons]; omega)
    have l0 := hp.2.1 s hs0
    have l1 := hp.2.1 (s + 1) hs1
    have lf := f3.length_le
    obtain ⟨w, hw⟩ : ∃ w, w = (if l = [] then vof 4 0 else vof 6 (nI (s + 2))) := ⟨_, rfl⟩
    have P1 : PDo N mt O (dU (dU (Fd p dt).2 s (Fd p dt).1) (s + 1) w) := pdo_U (pdo_U f1 hs0) hs1
    obtain ⟨i1, i2, i3, i4, i5⟩ := dml_p hF l m b (s + 2) (dU (dU (Fd p dt).2 s (Fd p dt).1) (s + 1) w) h5 P1 (fun x hx1 hx2 => ho x (by omega) (by rw [List.length_cons]; omega))
    have e0 : cDmL Fd (p :: l) s dt = cDmL Fd l (s + 2) (dU (dU (Fd p dt).2 s (Fd p dt).1) (s + 1) w) := by rw [cDmL, hw]
    rw [e0]
    have len1 : (dU (dU (Fd p dt).2 s (Fd p dt).1) (s + 1) w).length = (Fd p dt).2.length := by rw [dU_len, dU_len]
    have tgU : ∀ i, dTg (dU (dU (Fd p dt).2 s (Fd p dt).1) (s + 1) w) i = dTg (Fd p dt).2 i := fun i => by rw [dU_tg, dU_tg]
    refine ⟨i1, fun j c hc => ?_, fun i hi1 hi2 => ?_, fun i n hn => i4 i n (by rw [tgU]; exact dtg_pf f3 hn), fun i hi => ?_⟩
    · cases j with
      | zero =>
        have hc : p = c := by simpa using hc
        subst hc
        obtain ⟨x1, hx1⟩ := dU_eq (dt := (Fd p dt).2) (v := (Fd p dt).1) (by omega : s < _)
        obtain ⟨x2, hx2⟩ := dU_eq (dt := dU (Fd p dt).2 s (Fd p dt).1) (v := w) (by rw [dU_len]; omega : s + 1 < _)
        refine ⟨⟨x1, (Fd p dt).1, ?_, cv_tg f2 (fun q n hq => i4 q n (by rw [tgU]; exact hq))⟩, x2, ?_⟩
        · rw [i3 _ (by omega) (Or.inl (by omega)), dU_ne (by omega)]
          exact hx1
        · rw [i3 _ (by omega) (Or.inl (by omega))]
          show (dU (dU (Fd p dt).2 s (Fd p dt).1) (s + 1) w)[s + 1]? = _
          rw [hx2, hw]
          by_cases cl : l = []
          · rw [if_pos cl, if_pos (by rw [cl]; rfl)]
          · have : l.length ≠ 0 := fun e => cl (List.length_eq_zero_iff.mp e)
            rw [if_neg cl, if_neg (by rw [List.length_cons]; omega)]
      | succ j =>
        have hc : l[j]? = some c := by simpa using hc
        obtain ⟨k1, x, k2⟩ := i2 j c hc
        rw [show s + 2 + 2 * j = s + 2 * (j + 1) by omega] at k1 k2
        refine ⟨k1, x, ?_⟩
        rw [k2, List.length_cons]
        simp only [Nat.add_right_cancel_iff]
    · rw [List.length_cons] at hi2
      rw [i3 i (by omega) (by omega), dU_ne (by omega), dU_ne (by omega)]
      exact pf_ge f3 hi1
    · rw [i5 i (by omega), tgU]
      unfold dTg
      rw [pf_ge f3 hi]
theorem dm_p : ∀ (f g n m : Nat) (dt : List DTe) (O : Nat → Prop), Tr g N n m → g ≤ f → m < 2000000000 → PDo N mt O dt → PDo N mt O (cDm N mt f n dt).2 ∧ CV N mt (cDm N mt f n dt).2 n (cDm N mt f n dt).1
  | 0, g, n, m, dt, O, h, hg, _, _ => by
    have : g = 0 := by omega
    subst this
    exact h.elim
  | f + 1, g, n, m, dt, O, h, hg, hm, hp => by
    have hlt := tr_lt _ _ _ _ h
    rw [cDm]
    by_cases c5 : nK N n = 5
    · rw [if_pos c5]; exact ⟨hp, Or.inl ⟨c5, rfl⟩⟩
    rw [if_neg c5]
    by_cases c6 : nK N n ≠ 6
    · rw [if_pos c6]; exact ⟨hp, Or.inr (Or.inl ⟨c5, c6, rfl⟩)⟩
    rw [if_neg c6]
    have c6 : nK N n = 6 := Classical.byContradiction c6
    by_cases cp : pts N n = []
    · rw [if_pos cp]; exact ⟨hp, Or.inr (Or.inr (Or.inl ⟨c6, cp, rfl⟩))⟩
    rw [if_neg cp]
    cases g with
    | zero => exact h.elim
    | succ g =>
      obtain ⟨a1, a2, a3⟩ := tr_pts h c6 hm
      have hk : 1 ≤ (pts N n).length := Nat.pos_of_ne_zero (fun e => cp (List.length_eq_zero_iff.mp e))
      obtain ⟨h1, h2, h3, h4⟩ := hp
      have n0 : n ≠ 0 ∨ n = 0 := by omega
      generalize hd1 : dt ++ (n, none) :: List.replicate (2 * (pts N n).length - 1) (0, none) = dt1
      have len1 : dt1.length = dt.length + 2 * (pts N n).length := by
        rw [← hd1, List.length_append, List.length_cons, List.length_replicate]; omega
      have old : ∀ i, i < dt.length → dt1[i]? = dt[i]? := fun i hi => by rw [← hd1, List.getElem?_append_left hi]
      have tg0 : dTg dt1 dt.length = some n := by
        unfold dTg
        rw [← hd1, List.getElem?_append_right (Nat.le_refl _), Nat.sub_self]
        rfl
      have tgn : ∀ i, dt.length < i → i < dt1.length → dTg dt1 i = some 0 := fun i hi1 hi2 => by
        unfold dTg
        rw [← hd1, List.getElem?_append_right (by omega)]
        obtain ⟨k, hk2⟩ : ∃ k, i - dt.length = k + 1 := ⟨i - dt.length - 1, by omega⟩
        rw [hk2, List.getElem?_cons_succ, List.getElem?_replicate, if_pos (by omega)]
        rfl
      obtain ⟨O1, hO1⟩ : ∃ O1 : Nat → Prop, O1 = fun i => O i ∨ (dt.length ≤ i ∧ i < dt1.length) := ⟨_, rfl⟩
      have nO : ∀ i, i < dt.length → ¬ O i → ¬ O1 i := fun i hi hn hc => by
        rw [hO1] at hc
        rcases hc with hc | hc
        · exact hn hc
        · omega
      have p1 : PDo N mt O1 dt1 := by
        refine ⟨by omega, fun i hi => ?_, fun i m ov hi ho => ?_, fun i x hi hx ho => ?_⟩
        · rw [hO1] at hi
          rcases hi with hi | hi
          · have := h2 i hi; omega
          · exact hi.2
        · have hl := g_lt hi
          have hlo : i < dt.length := Nat.lt_of_not_le fun cc => ho (by rw [hO1]; exact Or.inr ⟨cc, hl⟩)
          rw [old i hlo] at hi
          exact h3 i m ov hi (fun q => ho (by rw [hO1]; exact Or.inl q))
        · obtain ⟨y, hy, _⟩ := Option.map_eq_some_iff.mp hi
          have hl := g_lt hy
          have hlo : i < dt.length := Nat.lt_of_not_le fun cc => ho (by rw [hO1]; exact Or.inr ⟨cc, hl⟩)
          have hi' : dTg dt i = some x := by
            unfold dTg at hi ⊢
            rw [← old i hlo]; exact hi
          obtain ⟨k1, k2, k3, k4⟩ := h4 i x hi' hx (fun q => ho (by rw [hO1]; exact Or.inl q))
          refine ⟨k1, k2, ⟨k3.1, fun x h5 h6 => dtg_pf (by rw [← hd1]; exact List.prefix_append _ _) (k3.2 x h5 h6)⟩, fun j c hc => ?_⟩
          obtain ⟨⟨q1, q1'⟩, ⟨m, v, q2, q3⟩, m', q4⟩ := k4 j c hc
          have b1 := g_lt q2
          have b2 := g_lt q4
          refine ⟨⟨nO _ b1 q1, nO _ b2 q1'⟩, ⟨m, v, by rw [old _ b1]; exact q2, cv_tg q3 (fun s n' hs => ?_)⟩, m', by rw [old _ b2]; exact q4⟩
          exact dtg_pf (by rw [← hd1]; exact List.prefix_append _ _) hs
      obtain ⟨i1, i2, i3, i4, i5⟩ := dml_p (N := N) (mt := mt) (O := O1) (Fd := cDm N mt f) (R := fun u v => Tr g N u v ∧ v < 2000000000) (X := nX N) (fun p m' dt' O' hr hp' => by
        obtain ⟨x1, x2⟩ := dm_p f g p m' dt' O' hr.1 (by omega) hr.2 hp'
        exact ⟨x1, x2, (dm_e f g p m' dt' hr.1 (by omega) hr.2).1⟩) (pts N n) (n + 1) m dt.length dt1 (frs_cg _ _ _ a3 (fun u v hu hv hr => ⟨hr, by omega⟩) (fun _ _ _ => rfl)) p1 (fun x hx1 hx2 => by rw [hO1]; exact Or.inr ⟨hx1, by omega⟩)
      dsimp only
      generalize cDmL (cDm N mt f) (pts N n) dt.length dt1 = d2 at *
      obtain ⟨e1, e2, e3, e4⟩ := i1
      have tb : dTg d2 dt.length = some n := i4 _ _ tg0
      have nO1 : ∀ i, ¬ O1 i → ¬ O i := fun i hi hc => hi (by rw [hO1]; exact Or.inl hc)
      have bO : ∀ i, dt.length ≤ i → ¬ O i := fun i hi hc => by have := h2 i hc; omega
      have cell : ∀ x, dt.length ≤ x → x < dt1.length → ∃ j c, (pts N n)[j]? = some c ∧ (x = dt.length + 2 * j ∨ x = dt.length + 2 * j + 1) := fun x hx1 hx2 => by
        have hj : (x - dt.length) / 2 < (pts N n).length := by omega
        exact ⟨(x - dt.length) / 2, _, List.getElem?_eq_getElem hj, by omega⟩
      have len2 : dt1.length ≤ d2.length := by
        by_cases cl : dt1.length = 0
        · omega
        · have := i5 (dt1.length - 1) (by omega)
          unfold dTg at this
          rw [List.getElem?_eq_getElem (by omega : dt1.length - 1 < dt1.length)] at this
          obtain ⟨y, hy, _⟩ := Option.map_eq_some_iff.mp this
          have := g_lt hy
          omega
      refine ⟨⟨e1, fun i hi => ?_, fun i m ov hi ho => ?_, fun i x hi hx ho => ?_⟩, Or.inr (Or.inr (Or.inr ⟨c6, cp, dt.length, tb, rfl⟩))⟩
      · have := h2 i hi
        omega
      · by_cases cO : O1 i
        · rw [hO1] at cO
          rcases cO with cO | ⟨q1, q2⟩
          · exact absurd cO ho
          · obtain ⟨j, c, hc, hx⟩ := cell i q1 q2
            obtain ⟨⟨m1, v, k1, k2⟩, m2, k3⟩ := i2 j c hc
            rcases hx with hx | hx
            · rw [hx, k1] at hi
              obtain ⟨k, c', hv⟩ := cv_v k2
              injection hi with hi
              injection hi with hi1 hi2
              exact ⟨k, c', by rw [← hi2, hv]⟩
            · rw [hx, k3] at hi
              injection hi with hi
              injection hi with hi1 hi2
              rw [← hi2]
              split
              · exact ⟨_, _, rfl⟩
              · exact ⟨_, _, rfl⟩
        · exact e3 i m ov hi cO
      · by_cases cO : O1 i
        · rw [hO1] at cO
          rcases cO with cO | ⟨q1, q2⟩
          · exact absurd cO ho
          · by_cases ci : i = dt.length
            · rw [ci] at hi
              rw [tb] at hi
              injection hi with hi
              subst hi
              rw [ci]
              refine ⟨h1, c6, ⟨cp, fun x h5 h6 => by rw [i5 x (by omega)]; exact tgn x h5 (by omega)⟩, fun j c hc => ?_⟩
              obtain ⟨k1, k2⟩ := i2 j c hc
              exact ⟨⟨bO _ (by omega), bO _ (by omega)⟩, k1, k2⟩
            · rw [i5 i q2, tgn i (by omega) q2] at hi
              injection hi with hi
              exact absurd hi.symm hx
        · obtain ⟨k1, k2, k3, k4⟩ := e4 i x hi hx cO
          refine ⟨k1, k2, k3, fun j c hc => ?_⟩
          obtain ⟨⟨q1, q1'⟩, q2, q3⟩ := k4 j c hc
          exact ⟨⟨nO1 _ q1, nO1 _ q1'⟩, q2, q3⟩
end DAT
