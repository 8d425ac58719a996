/-! THE RELATION OF THE TWO MACHINES -/
def Dv (pm : List Nat) (pl : List (Nat × Nat)) : VD := (fun i => pm.getD i 20000000, fun i => (pl.getD i (20000000, 0)).1, pm.length, pl.length)
def VU (D : VD) (v w : Int64) : Prop := VR D v w ∨ (v = vof 9 0 ∧ w = vof 9 0)
def DL (D D' : VD) : Prop := (∀ i, i < D.2.2.1 → D'.1 i = D.1 i) ∧ D.2.2.1 ≤ D'.2.2.1 ∧ (∀ i, i < D.2.2.2 → D'.2.1 i = D.2.1 i) ∧ D.2.2.2 ≤ D'.2.2.2
theorem vr_mono {D D' : VD} {v w : Int64} (q : DL D D') (r : VR D v w) : VR D' v w := by
  obtain ⟨q1, q2, q3, q4⟩ := q
  rcases r with r | ⟨i, ⟨i1, i2⟩, e1, e2⟩ | ⟨i, i1, e1, e2⟩ | r
  · exact Or.inl r
  · exact Or.inr (Or.inl ⟨i, ⟨by omega, by rw [q1 i i1]; exact i2⟩, by rw [q1 i i1]; exact e1, e2⟩)
  · exact Or.inr (Or.inr (Or.inl ⟨i, by omega, by rw [q3 i i1]; exact e1, e2⟩))
  · exact Or.inr (Or.inr (Or.inr r))
theorem vu_mono {D D' : VD} {v w : Int64} (q : DL D D') (r : VU D v w) : VU D' v w := r.elim (fun r => Or.inl (vr_mono q r)) Or.inr
theorem dl_rf (D : VD) : DL D D := ⟨fun _ _ => rfl, Nat.le_refl _, fun _ _ => rfl, Nat.le_refl _⟩
theorem dl_pm (pm a : List Nat) (pl : List (Nat × Nat)) : DL (Dv pm pl) (Dv (pm ++ a) pl) := by
  refine ⟨fun i hi => ?_, ?_, fun _ _ => rfl, Nat.le_refl _⟩
  · show (pm ++ a).getD i _ = pm.getD i _
    have hi : i < pm.length := hi
    simp [List.getD, List.getElem?_append_left hi]
  · show pm.length ≤ (pm ++ a).length
    simp
theorem dl_pl (pm : List Nat) (pl a : List (Nat × Nat)) : DL (Dv pm pl) (Dv pm (pl ++ a)) := by
  refine ⟨fun _ _ => rfl, Nat.le_refl _, fun i hi => ?_, ?_⟩
  · show ((pl ++ a).getD i _).1 = (pl.getD i _).1
    have hi : i < pl.length := hi
    simp [List.getD, List.getElem?_append_left hi]
  · show pl.length ≤ (pl ++ a).length
    simp
/-- the values that wait -/
def Wks (D : VD) : List Int64 → List Nat → List Int64 → Prop
  | [], [], wk => wk = []
  | x :: s, c :: sh, wk => (c = 0 ∧ ∃ w wk', wk = w :: wk' ∧ VR D x w ∧ Wks D s sh wk') ∨ (c ≠ 0 ∧ Wks D s sh wk)
  | _, _, _ => False
theorem wks_len {D : VD} : ∀ {s : List Int64} {sh : List Nat} {wk : List Int64}, Wks D s sh wk → s.length = sh.length
  | [], [], _, _ => rfl
  | _ :: _, _ :: _, _, h => by
    rcases h with ⟨_, w, wk', _, _, h⟩ | ⟨_, h⟩ <;> simp [wks_len h]
  | [], _ :: _, _, h => h.elim
  | _ :: _, [], _, h => h.elim
theorem wks_mono {D D' : VD} (q : DL D D') : ∀ {s : List Int64} {sh : List Nat} {wk : List Int64}, Wks D s sh wk → Wks D' s sh wk
  | [], [], _, h => h
  | _ :: _, _ :: _, _, h => by
    rcases h with ⟨c, w, wk', e, r, h⟩ | ⟨c, h⟩
    · exact Or.inl ⟨c, w, wk', e, vr_mono q r, wks_mono q h⟩
    · exact Or.inr ⟨c, wks_mono q h⟩
  | [], _ :: _, _, h => h.elim
  | _ :: _, [], _, h => h.elim
theorem wks_app {D : VD} : ∀ {s : List Int64} {sh : List Nat} {wk s2 : List Int64} {sh2 : List Nat} {wk2 : List Int64}, Wks D s sh wk → Wks D s2 sh2 wk2 → Wks D (s ++ s2) (sh ++ sh2) (wk ++ wk2)
  | [], [], _, _, _, _, h, h2 => by have h : _ = [] := h; subst h; exact h2
  | _ :: _, _ :: _, _, _, _, _, h, h2 => by
    rcases h with ⟨c, w, wk', e, r, h⟩ | ⟨c, h⟩
    · subst e
      exact Or.inl ⟨c, w, _, rfl, r, wks_app h h2⟩
    · exact Or.inr ⟨c, wks_app h h2⟩
  | [], _ :: _, _, _, _, _, h, _ => h.elim
  | _ :: _, [], _, _, _, _, h, _ => h.elim
theorem wks_spl {D : VD} : ∀ {s : List Int64} {sh : List Nat} {wk s2 : List Int64} {sh2 : List Nat}, s.length = sh.length → Wks D (s ++ s2) (sh ++ sh2) wk → ∃ w1 w2, wk = w1 ++ w2 ∧ Wks D s sh w1 ∧ Wks D s2 sh2 w2
  | [], [], wk, _, _, _, h => ⟨[], wk, rfl, rfl, h⟩
  | _ :: _, _ :: _, _, _, _, q, h => by
    simp only [List.length_cons, Nat.add_right_cancel_iff] at q
    rcases h with ⟨c, w, wk', e, r, h⟩ | ⟨c, h⟩
    · obtain ⟨w1, w2, e2, g1, g2⟩ := wks_spl q h
      subst e e2
      exact ⟨w :: w1, w2, rfl, Or.inl ⟨c, w, w1, rfl, r, g1⟩, g2⟩
    · obtain ⟨w1, w2, e2, g1, g2⟩ := wks_spl q h
      exact ⟨w1, w2, e2, Or.inr ⟨c, g1⟩, g2⟩
  | [], _ :: _, _, _, _, q, _ => absurd q (by simp)
  | _ :: _, [], _, _, _, q, _ => absurd q (by simp)
theorem wks_set {D : VD} {v : Int64} : ∀ {s : List Int64} {sh : List Nat} {wk : List Int64} {P c : Nat}, Wks D s sh wk → sh[P]? = some c → c ≠ 0 → Wks D (s.set P v) sh wk
  | [], [], _, _, _, h, _, _ => h
  | _ :: _, _ :: _, _, 0, c, h, e, q => by
    simp only [List.getElem?_cons_zero, Option.some.injEq] at e
    subst e
    rcases h with ⟨c, _⟩ | ⟨c, h⟩
    · exact absurd c q
    · exact Or.inr ⟨c, h⟩
  | _ :: _, _ :: _, _, P + 1, c, h, e, q => by
    simp only [List.getElem?_cons_succ] at e
    rcases h with ⟨c, w, wk', e2, r, h⟩ | ⟨c, h⟩
    · exact Or.inl ⟨c, w, wk', e2, r, wks_set h e q⟩
    · exact Or.inr ⟨c, wks_set h e q⟩
  | [], _ :: _, _, _, _, h, _, _ => h.elim
  | _ :: _, [], _, _, _, h, _, _ => h.elim
/-- values that all wait -/
def Vrs (D : VD) : List Int64 → List Int64 → Prop
  | [], [] => True
  | x :: s, w :: wk => VR D x w ∧ Vrs D s wk
  | _, _ => False
theorem wks_vrs {D : VD} : ∀ {k : Nat} {s wk : List Int64}, Wks D s (List.replicate k 0) wk → s.length = k ∧ Vrs D s wk
  | 0, [], wk, h => by have h : wk = [] := h; subst h; exact ⟨rfl, trivial⟩
  | k + 1, x :: s, wk, h => by
    rw [List.replicate_succ] at h
    rcases h with ⟨c, w, wk', e, r, h⟩ | ⟨c, h⟩
    · subst e
      have := wks_vrs h
      exact ⟨by simp [this.1], r, this.2⟩
    · exact absurd rfl c
  | 0, _ :: _, _, h => h.elim
  | k + 1, [], _, h => by rw [List.replicate_succ] at h; exact h.elim
theorem vrs_wks {D : VD} : ∀ {s wk : List Int64}, Vrs D s wk → Wks D s (List.replicate s.length 0) wk
  | [], [], _ => rfl
  | _ :: _, _ :: _, h => by
    rw [List.length_cons, List.replicate_succ]
    exact Or.inl ⟨rfl, _, _, rfl, h.1, vrs_wks h.2⟩
  | [], _ :: _, h => h.elim
  | _ :: _, [], h => h.elim
theorem vrs_len {D : VD} : ∀ {s wk : List Int64}, Vrs D s wk → s.length = wk.length
  | [], [], _ => rfl
  | _ :: _, _ :: _, h => by simp [vrs_len h.2]
  | [], _ :: _, h => h.elim
  | _ :: _, [], h => h.elim
theorem vrs_get {D : VD} : ∀ {s wk : List Int64} {i : Nat} {x : Int64}, Vrs D s wk → s[i]? = some x → ∃ w, wk[i]? = some w ∧ VR D x w
  | _ :: _, _ :: _, 0, x, h, e => by
    simp only [List.getElem?_cons_zero, Option.some.injEq] at e ⊢
    exact ⟨_, rfl, e ▸ h.1⟩
  | _ :: _, _ :: _, i + 1, x, h, e => by
    simp only [List.getElem?_cons_succ] at e ⊢
    exact vrs_get h.2 e
  | [], _, _, _, _, e => by simp at e
  | _ :: _, [], _, _, h, _ => h.elim
theorem vrs_mono {D D' : VD} (q : DL D D') : ∀ {s wk : List Int64}, Vrs D s wk → Vrs D' s wk
  | [], [], _ => trivial
  | _ :: _, _ :: _, h => ⟨vr_mono q h.1, vrs_mono q h.2⟩
  | [], _ :: _, h => h.elim
  | _ :: _, [], h => h.elim
abbrev TY := List (Nat × Nat)
/-- pairs (tags 0, 1), procedures (tags 2, 4 + k), bindings (tag 3) of the class's heap -/
def Hpr (D : VD) (pm : List Nat) (ty : TY) (F : List Int64) (pa : List (Int64 × Int64)) : Prop := ∀ i a : Nat, pm[i]? = some a → a < 10000000 → ty[a]? = some (0, i) ∧ ty[a + 1]? = some (1, i) ∧ ∃ x y u v, F[a]? = some x ∧ F[a + 1]? = some y ∧ pa[i]? = some (u, v) ∧ VR D x u ∧ VR D y v
def Hpc (G : PG) (pl : List (Nat × Nat)) (ty : TY) (F : List Int64) (ps : List (Nat × List Nat)) : Prop := ∀ i a L : Nat, pl[i]? = some (a, L) → 1 ≤ L ∧ L ≤ pLm G ∧ ty[a]? = some (2, i) ∧ F[a]? = some (nI (L - 1)).toInt64 ∧ ∃ ks, ps[i]? = some (L, ks) ∧ ks.length = pFr G L ∧ ∀ k, k < pFr G L → ty[a + 1 + k]? = some (4 + k, i) ∧ ∃ m b : Nat, F[a + 1 + k]? = some (nI m).toInt64 ∧ ty[m]? = some (3, b) ∧ ks[pKp G L k]? = some b
def Hbd (D : VD) (ty : TY) (F bx : List Int64) : Prop := (∀ m b : Nat, ty[m]? = some (3, b) → ∃ x w, F[m]? = some x ∧ bx[b]? = some w ∧ VU D x w) ∧ ∀ m m' b : Nat, ty[m]? = some (3, b) → ty[m']? = some (3, b) → m = m'
/-- bindings on the stack -/
def Hst (D : VD) (s : List Int64) (sh : List Nat) (ty : TY) (bx : List Int64) : Prop := (∀ P b : Nat, sh[P]? = some (b + 2) → ∃ x w, s[P]? = some x ∧ bx[b]? = some w ∧ ((∃ m : Nat, x = vof 10 (nI m) ∧ ty[m]? = some (3, b)) ∨ (VU D x w ∧ ∀ m : Nat, ty[m]? ≠ some (3, b)))) ∧ ∀ P P' b : Nat, sh[P]? = some (b + 2) → sh[P']? = some (b + 2) → P = P'
def Hgl (D : VD) (n : Nat) (gc gr : List Int64) : Prop := gc.length = 100 ∧ gr.length = n ∧ n ≤ 100 ∧ ∀ g, g < n → ∃ x w, gc[g]? = some x ∧ gr[g]? = some w ∧ VU D x w
/-- a map of before that is written down behind the quotes' values, and that it is kept -/
def dQ (qv : Nat → Int64) : VD := (fun i => (qv (1000000 + 2 * i)).toNatClampNeg, fun i => (qv (1000001 + 2 * i)).toNatClampNeg, (qv 999998).toNatClampNeg, (qv 999999).toNatClampNeg)
def DW (D D' : VD) : Prop := (∀ i, i < D.2.2.1 → D.1 i < 10000000 → i < D'.2.2.1 ∧ D'.1 i = D.1 i) ∧ ∀ i, i < D.2.2.2 → i < D'.2.2.2 ∧ D'.2.1 i = D.2.1 i
theorem dw_mono {D D' D2 : VD} (w : DW D D') (q : DL D' D2) : DW D D2 := ⟨fun i h1 h2 => ⟨Nat.lt_of_lt_of_le (w.1 i h1 h2).1 q.2.1, (q.1 i (w.1 i h1 h2).1).trans (w.1 i h1 h2).2⟩, fun i h1 => ⟨Nat.lt_of_lt_of_le (w.2 i h1).1 q.2.2.2, (q.2.2.1 i (w.2 i h1).1).trans (w.2 i h1).2⟩⟩
theorem vr_dw {D D' : VD} {v w : Int64} (q : DW D D') (r : VR D v w) : VR D' v w := by
  rcases r with r | ⟨i, ⟨i1, i2⟩, e1, e2⟩ | ⟨i, i1, e1, e2⟩ | r
  · exact Or.inl r
  · obtain ⟨q1, q2⟩ := q.1 i i1 i2
    exact Or.inr (Or.inl ⟨i, ⟨q1, by rw [q2]; exact i2⟩, by rw [q2]; exact e1, e2⟩)
  · obtain ⟨q1, q2⟩ := q.2 i i1
    exact Or.inr (Or.inr (Or.inl ⟨i, q1, by rw [q2]; exact e1, e2⟩))
  · exact Or.inr (Or.inr (Or.inr r))
def Hqv (G : PG) (qv : Nat → Int64) (D : VD) : Prop := (∀ n, pDl G n → VR D (pDv G n) (qv n)) ∧ DW (dQ qv) D
theorem hqv_mono {G : PG} {qv : Nat → Int64} {D D' : VD} (q : DL D D') (h : Hqv G qv D) : Hqv G qv D' := ⟨fun n hn => vr_mono q (h.1 n hn), dw_mono h.2 q⟩
def Hsz (ty : TY) (F : List Int64) (ce : Nat) (pm : List Nat) (pa : List (Int64 × Int64)) (pl : List (Nat × Nat)) (ps : List (Nat × List Nat)) : Prop := ty.length = F.length ∧ F.length ≤ 13000 + 3 * ce ∧ ce ≤ 40000 ∧ pm.length = pa.length ∧ pm.length ≤ 6200 + ce ∧ pl.length = ps.length ∧ pl.length ≤ ce
/-- all stores -/
def Cor (G : PG) (qv : Nat → Int64) (pm : List Nat) (pl : List (Nat × Nat)) (ty : TY) (s : List Int64) (sh : List Nat) (wk F : List Int64) (ce : Nat) (gc bx : List Int64) (ps : List (Nat × List Nat)) (pa : List (Int64 × Int64)) (gr : List Int64) : Prop :=
  Hpr (Dv pm pl) pm ty F pa ∧ Hpc G pl ty F ps ∧ Hbd (Dv pm pl) ty F bx ∧ Hst (Dv pm pl) s sh ty bx ∧ Wks (Dv pm pl) s sh wk ∧ Hgl (Dv pm pl) (pDf G) gc gr ∧ Hqv G qv (Dv pm pl) ∧ Hsz ty F ce pm pa pl ps
