/-! BUILD. The compiler of the program under proof: what the heap holds while it works -/
def XP (p a : Nat) : Prop := a = 2 ∨ (39 ≤ a ∧ a ≤ 46) ∨ (p ≤ a ∧ a ≤ p + 9) ∨ 130 ≤ a
/-- all else is as it was -/
def KX (p : Nat) (h0 h : Hp) : Prop := (hR h = hR h0 ∧ hI h p 13 = hI h0 p 13 ∧ hI h p 15 = hI h0 p 15) ∧ ∀ a, ¬ XP p a → hI h a = hI h0 a ∧ hL h a = hL h0 a ∧ hA h a = hA h0 a ∧ hB h a = hB h0 a ∧ hN h a = hN h0 a
def RD (N : NS) (h : Hp) : Prop := RNs N h ∧ N.1 ≤ hN h 10 ∧ N.1 ≤ hN h 11 ∧ N.1 ≤ hN h 12 ∧ N.1 ≤ hN h 13 ∧ N.1 ≤ hN h 14
/-- what stays while a text is compiled -/
def CC (N : NS) (mt : List Nat) (K : List KY) (p c1 c2 : Nat) (h0 : Hp) : Prop := (p = 19 ∨ p = 29) ∧ hR h0 39 3 = some p ∧ RD N h0 ∧ (NT K mt h0 ∧ K.length ≤ hN h0 8 ∧ 30 ≤ K.length) ∧ Nok N mt ∧ (c1 ≤ 15100 ∧ c2 ≤ 24100 ∧ (gdf N).length ≤ 7000) ∧ ∀ i, 1 ≤ i → i < N.1 → nP N i = nI (nQ N i)
def DAx (N : NS) (K : List KY) (h : Hp) : Prop := K.length ≤ hN h 46 ∧ ∀ j, j < K.length → hA h 46 j = dA N j
def FTx (r : Option (Nat × Nat)) (h0 h : Hp) : Prop := (r = none → hI h 2 0 = 0 ∧ hI h 2 1 = hI h0 2 1) ∧ ∀ k f, r = some (k, f) → hI h 2 0 = nI k ∧ hI h 2 1 = nI f ∧ 0 < k ∧ k < 10
/-- what each body keeps -/
def KPx (f : Nat → List Nat) (bd : Nat) (h : Hp) : Prop := ∀ l, l ≤ bd → hA h 45 l = nI (f l).length ∧ (f l).length ≤ 248 ∧ ∀ j b : Nat, (f l)[j]? = some b → 248 * l + j < hN h 44 ∧ hA h 44 (248 * l + j) = nI b
def SCx (z : CR) (h : Hp) : Prop := hI h 40 3 = nI (rSc z).length ∧ (rSc z).length ≤ 248 ∧ ((rSc z).length ≤ hN h 41 ∧ (rSc z).length ≤ hN h 42 ∧ (rSc z).length ≤ hN h 43) ∧ (∀ (i : Nat) (e : SCe), (rSc z)[i]? = some e → hA h 41 i = nI e.1 ∧ hA h 43 i = nI e.2.2 ∧ e.1 < 100000) ∧ hI h 40 4 = nI (rBd z) ∧ rBd z ≤ 31 ∧ KPx (rKp z) (rBd z) h
/-- counters within their bounds, come what may -/
def PBx (op : List Nat) (p : Nat) (z : CR) (h : Hp) : Prop := (∃ s, hI h p 2 = nI s ∧ s ≤ hN h (p + 1)) ∧ (∃ s, hI h p 4 = nI s ∧ s ≤ hN h (p + 3)) ∧ (hI h p 12 = nI (rLm z).length ∧ (rLm z).length ≤ 120 ∧ ∀ i, i ∈ op → i < (rLm z).length) ∧ ∃ s, hI h p 11 = nI s ∧ s + 248 * op.length ≤ 248 * (rLm z).length ∧ s ≤ hN h (p + 9)
/-- no fault, and all fits -/
def gd (c1 c2 : Nat) (z : CR) : Prop := rFl z = none ∧ (rCd z).length ≤ c1 ∧ (rDt z).length ≤ c2
def GDx (op : List Nat) (p : Nat) (z : CR) (h : Hp) : Prop := hI h 39 6 = nI (rDp z) ∧ hI h 39 7 = nI (rDx z) ∧ (∀ (i : Nat) (e : SCe), (rSc z)[i]? = some e → hA h 42 i = nI e.2.1) ∧ hI h p 2 = nI (rCd z).length ∧ (∀ (i : Nat) (e : Int32 × Int32), (rCd z)[i]? = some e → hA h (p + 1) i = e.1 ∧ hA h (p + 2) i = e.2) ∧ hI h p 4 = nI (rDt z).length ∧ (∀ (i m : Nat) (v : Int64), (rDt z)[i]? = some (m, some v) → hB h (p + 3) i = v) ∧ (∀ (i : Nat) (e : LMe), (rLm z)[i]? = some e → hA h (p + 5) i = nI e.2.1 ∧ (i ∉ op → hA h (p + 4) i = nI e.1 ∧ hA h (p + 6) i = nI e.2.2.1 ∧ hA h (p + 7) i = nI e.2.2.2.1 ∧ hA h (p + 8) i = nI e.2.2.2.2.length)) ∧ hI h p 11 = nI (rSr z).length ∧ (rSr z).length ≤ 62000 ∧ ∀ i x : Nat, (rSr z)[i]? = some x → hA h (p + 9) i = nI x
def CH0 (N : NS) (K : List KY) (p c1 c2 : Nat) (h0 : Hp) (op : List Nat) (z : CR) (h : Hp) : Prop := (CB h ∧ KX p h0 h) ∧ (hN h (p + 1) = c1 ∧ hN h (p + 3) = c2) ∧ DAx N K h ∧ FTx (rFl z) h0 h ∧ SCx z h ∧ PBx op p z h ∧ (gd c1 c2 z → GDx op p z h)
def CH (N : NS) (K : List KY) (p c1 c2 : Nat) (h0 : Hp) (op : List Nat) (z : CR) (h : Hp) : Prop := CH0 N K p c1 c2 h0 op z h ∧ (rFl z = none → hI h 39 5 = nI (rFm z) ∧ rFm z ≤ 1500)
theorem ap1_c {α : Type} {l : List α} {x e : α} {i : Nat} (h : (l ++ [x])[i]? = some e) : (i < l.length ∧ l[i]? = some e) ∨ (i = l.length ∧ e = x) := by
  by_cases c : i < l.length
  · rw [List.getElem?_append_left c] at h
    exact Or.inl ⟨c, h⟩
  · have h2 := g_lt h
    rw [List.length_append, List.length_singleton] at h2
    have e1 : i = l.length := by omega
    subst e1
    rw [List.getElem?_append_right (Nat.le_refl _), Nat.sub_self] at h
    simp only [List.getElem?_cons_zero, Option.some.injEq] at h
    exact Or.inr ⟨rfl, h.symm⟩
theorem i32_0 {a : Int32} (h : ¬ a < 0) : 0 ≤ a.toInt := by
  have h1 : ¬ a.toInt < (0 : Int32).toInt := fun c => h (Int32.lt_iff_toInt_lt.mpr c)
  have h2 : (0 : Int32).toInt = 0 := rfl
  rw [h2] at h1
  omega
theorem i32_lt {a : Int32} {n : Nat} (hn : n < 2000000000) (h : a < nI n) : a.toInt < (n : Int) := by
  have h1 := Int32.lt_iff_toInt_lt.mp h
  rw [nI_toInt (by omega)] at h1
  exact h1
theorem i32_nx {a : Int32} (h : ¬ a < 0) : a = nI a.toNatClampNeg := by
  have h1 := i32_0 h
  refine Int32.toInt_inj.mp ?_
  have h2 : a.toNatClampNeg = a.toInt.toNat := rfl
  have h3 : a.toInt < 2147483648 := by
    have := Int32.toInt_lt a
    omega
  rw [h2, nI_toInt (by omega)]
  omega
section CRL
variable {h h' h0 : Hp} {p : Nat}
theorem kx_I {a i : Nat} {v : Int32} (k : KX p h0 h) (ha : XP p a) (hi : ¬ (a = p ∧ (i = 13 ∨ i = 15)) := by omega) : KX p h0 (pI h a i v) := ⟨⟨k.1.1, (up2_ne (by omega)).trans k.1.2.1, (up2_ne (by omega)).trans k.1.2.2⟩, fun x hx => by
  obtain ⟨k1, k2, k3, k4, k5⟩ := k.2 x hx
  exact ⟨(up2_row (fun e => hx (by rw [e]; exact ha))).trans k1, k2, k3, k4, k5⟩⟩
theorem kx_A {a : Nat} {f : Nat → Int32} (k : KX p h0 h) (ha : XP p a) : KX p h0 (pA h a f) := ⟨k.1, fun x hx => by
  obtain ⟨k1, k2, k3, k4, k5⟩ := k.2 x hx
  exact ⟨k1, k2, (up1_ne (fun e => hx (by rw [e]; exact ha))).trans k3, k4, k5⟩⟩
theorem kx_B {a : Nat} {f : Nat → Int64} (k : KX p h0 h) (ha : XP p a) : KX p h0 (pB h a f) := ⟨k.1, fun x hx => by
  obtain ⟨k1, k2, k3, k4, k5⟩ := k.2 x hx
  exact ⟨k1, k2, k3, (up1_ne (fun e => hx (by rw [e]; exact ha))).trans k4, k5⟩⟩
theorem kx_G {a n : Nat} (k : KX p h0 h) (g : Gro a n h h') (ha : XP p a) : KX p h0 h' := ⟨⟨g.1.trans k.1.1, by rw [g.2.1]; exact k.1.2.1, by rw [g.2.1]; exact k.1.2.2⟩, fun x hx => by
  obtain ⟨k1, k2, k3, k4, k5⟩ := k.2 x hx
  have hx2 : x < 130 := Nat.lt_of_not_le (fun c => hx (Or.inr (Or.inr (Or.inr c))))
  obtain ⟨g1, g2, g3⟩ := g.2.2.2.2.1 x hx2 (fun e => hx (by rw [e]; exact ha))
  exact ⟨(congrFun g.2.1 x).trans k1, (congrFun g.2.2.1 x).trans k2, g1.trans k3, g2.trans k4, g3.trans k5⟩⟩
theorem cb_i {a i : Nat} {v : Int32} (c : CB h) : CB (pI h a i v) := ⟨sk_u1 c.1, c.2.1, rm_same rfl rfl rfl c.2.2⟩
theorem cb_a {a : Nat} {f : Nat → Int32} (c : CB h) : CB (pA h a f) := ⟨sk_u3 c.1, c.2.1, rm_same rfl rfl rfl c.2.2⟩
theorem cb_b {a : Nat} {f : Nat → Int64} (c : CB h) : CB (pB h a f) := ⟨sk_u4 c.1, c.2.1, rm_same rfl rfl rfl c.2.2⟩
theorem rd_kx {N : NS} (k : KX p h0 h) (hp : p = 19 ∨ p = 29) (r : RD N h0) : RD N h := by
  have f : ∀ a, a < 19 → a ≠ 2 → ¬ XP p a := fun a h1 h2 c => by unfold XP at c; omega
  unfold RD RNs at r ⊢
  rw [(k.2 3 (f 3 (by decide) (by decide))).1, (k.2 10 (f 10 (by decide) (by decide))).2.2.1, (k.2 11 (f 11 (by decide) (by decide))).2.2.1, (k.2 12 (f 12 (by decide) (by decide))).2.2.1, (k.2 13 (f 13 (by decide) (by decide))).2.2.1, (k.2 14 (f 14 (by decide) (by decide))).2.2.1,
    (k.2 10 (f 10 (by decide) (by decide))).2.2.2.2, (k.2 11 (f 11 (by decide) (by decide))).2.2.2.2, (k.2 12 (f 12 (by decide) (by decide))).2.2.2.2, (k.2 13 (f 13 (by decide) (by decide))).2.2.2.2, (k.2 14 (f 14 (by decide) (by decide))).2.2.2.2]
  exact r
end CRL
section RDA
variable {h : Hp} {Q : Option Value → Hp → Prop} {d n : Nat} {N : NS}
theorem rd_k (s : Sk h) (r : RD N h) (hn : n < N.1) : aEv d 122 [.ref 3, .int (nI n)] h Q ↔ Q (some (.int (nK N n))) h := by
  obtain ⟨⟨r1, r2, r3⟩, m1, m2, m3, m4, m5⟩ := r
  have e := (r3 n hn).1
  have c1 : (N.1 ≤ n) = False := eq_false (by omega)
  have c2 : (n < hN h 10) = True := eq_true (by omega)
  rw [e122_3 _ _ s, r1]
  simp (disch := omega) only [nI_lt0, nI_leN, nI_ti, nI_cl, le0N, ltNN, c1, c2, false_imp_iff, not_false_eq_true, true_imp_iff, true_and, and_true, e]
  exact Iff.rfl
theorem rd_c (s : Sk h) (r : RD N h) (hn : n < N.1) : aEv d 115 [.ref 3, .int (nI n)] h Q ↔ Q (some (.int (nC N n))) h := by
  obtain ⟨⟨r1, r2, r3⟩, m1, m2, m3, m4, m5⟩ := r
  have e := (r3 n hn).2.1
  have c1 : (N.1 ≤ n) = False := eq_false (by omega)
  have c2 : (n < hN h 11) = True := eq_true (by omega)
  rw [e115_3 _ _ s, r1]
  simp (disch := omega) only [nI_lt0, nI_leN, nI_ti, nI_cl, le0N, ltNN, c1, c2, false_imp_iff, not_false_eq_true, true_imp_iff, true_and, and_true, e]
  exact Iff.rfl
theorem rd_f (s : Sk h) (r : RD N h) (hn : n < N.1) : aEv d 116 [.ref 3, .int (nI n)] h Q ↔ Q (some (.int (nF N n))) h := by
  obtain ⟨⟨r1, r2, r3⟩, m1, m2, m3, m4, m5⟩ := r
  have e := (r3 n hn).2.2.2.1
  have c1 : (N.1 ≤ n) = False := eq_false (by omega)
  have c2 : (n < hN h 13) = True := eq_true (by omega)
  rw [e116_3 _ _ s, r1]
  simp (disch := omega) only [nI_lt0, nI_leN, nI_ti, nI_cl, le0N, ltNN, c1, c2, false_imp_iff, not_false_eq_true, true_imp_iff, true_and, and_true, e]
  exact Iff.rfl
theorem rd_x (s : Sk h) (r : RD N h) (hn : n < N.1) : aEv d 125 [.ref 3, .int (nI n)] h Q ↔ Q (some (.int (nX N n))) h := by
  obtain ⟨⟨r1, r2, r3⟩, m1, m2, m3, m4, m5⟩ := r
  have e := (r3 n hn).2.2.2.2
  have c1 : (N.1 ≤ n) = False := eq_false (by omega)
  have c2 : (n < hN h 14) = True := eq_true (by omega)
  rw [e125_3 _ _ s, r1]
  simp (disch := omega) only [nI_lt0, nI_leN, nI_ti, nI_cl, le0N, ltNN, c1, c2, false_imp_iff, not_false_eq_true, true_imp_iff, true_and, and_true, e]
  exact Iff.rfl
theorem rd_p (s : Sk h) (r : RD N h) (hn : n < N.1) : aEv d 129 [.ref 3, .int (nI n)] h Q ↔ Q (some (.int (nP N n))) h := by
  obtain ⟨⟨r1, r2, r3⟩, m1, m2, m3, m4, m5⟩ := r
  have e := (r3 n hn).2.2.1
  have c1 : (N.1 ≤ n) = False := eq_false (by omega)
  have c2 : (n < hN h 12) = True := eq_true (by omega)
  rw [e129_3 _ _ s, r1]
  simp (disch := omega) only [nI_lt0, nI_leN, nI_ti, nI_cl, le0N, ltNN, c1, c2, false_imp_iff, not_false_eq_true, true_imp_iff, true_and, and_true, e]
  exact Iff.rfl
def bI (b : Bool) : Int32 := if b then 1 else 0
theorem rd_l (s : Sk h) (r : RD N h) (hn : n < N.1) : aEv d 119 [.ref 3, .int (nI n)] h Q ↔ Q (some (.int (bI (nK N n == 6)))) h := by
  obtain ⟨⟨r1, r2, r3⟩, m1, m2, m3, m4, m5⟩ := r
  have e := (r3 n hn).1
  have c1 : (N.1 ≤ n) = False := eq_false (by omega)
  have c2 : (n < hN h 10) = True := eq_true (by omega)
  rw [e119_3 _ _ s, r1]
  simp (disch := omega) only [nI_lt0, nI_leN, nI_ti, nI_cl, le0N, ltNN, c1, c2, false_imp_iff, not_false_eq_true, true_imp_iff, true_and, and_true, e]
  show (¬ nK N n = 6 → _) ∧ (nK N n = 6 → _) ↔ _
  by_cases c : nK N n = 6
  · have e2 : bI (nK N n == 6) = 1 := by rw [c]; rfl
    rw [e2]
    exact ⟨fun w => w.2 c, fun w => ⟨fun c' => absurd c c', fun _ => w⟩⟩
  · have e2 : bI (nK N n == 6) = 0 := by
      have : (nK N n == 6) = false := by simpa using c
      rw [this]; rfl
    rw [e2]
    exact ⟨fun w => w.1 c, fun w => ⟨fun _ => w, fun c' => absurd c' c⟩⟩
theorem rd_n (s : Sk h) (r : RD N h) (hn : n < N.1) : aEv d 120 [.ref 3, .int (nI n)] h Q ↔ Q (some (.int (bI (nK N n == 5)))) h := by
  obtain ⟨⟨r1, r2, r3⟩, m1, m2, m3, m4, m5⟩ := r
  have e := (r3 n hn).1
  have c1 : (N.1 ≤ n) = False := eq_false (by omega)
  have c2 : (n < hN h 10) = True := eq_true (by omega)
  rw [e120_3 _ _ s, r1]
  simp (disch := omega) only [nI_lt0, nI_leN, nI_ti, nI_cl, le0N, ltNN, c1, c2, false_imp_iff, not_false_eq_true, true_imp_iff, true_and, and_true, e]
  show (¬ nK N n = 5 → _) ∧ (nK N n = 5 → _) ↔ _
  by_cases c : nK N n = 5
  · have e2 : bI (nK N n == 5) = 1 := by rw [c]; rfl
    rw [e2]
    exact ⟨fun w => w.2 c, fun w => ⟨fun c' => absurd c c', fun _ => w⟩⟩
  · have e2 : bI (nK N n == 5) = 0 := by
      have : (nK N n == 5) = false := by simpa using c
      rw [this]; rfl
    rw [e2]
    exact ⟨fun w => w.1 c, fun w => ⟨fun _ => w, fun c' => absurd c' c⟩⟩
/-- how many parts -/
theorem rd_m {g b : Nat} (s : Sk h) (r : RD N h) (hn : n < N.1) (ht : Tr (g + 1) N n b) (hb : b < 2000000000) (hd : 0 < d) : aEv d 128 [.ref 3, .int (nI n)] h Q ↔ Q (some (.int (nI (pts N n).length))) h := by
  obtain ⟨⟨r1, r2, r3⟩, m1, m2, m3, m4, m5⟩ := r
  have e := (r3 n hn).1
  have e2 := (r3 n hn).2.1
  have c1 : (N.1 ≤ n) = False := eq_false (by omega)
  have c2 : (n < hN h 10) = True := eq_true (by omega)
  have c3 : (n < hN h 11) = True := eq_true (by omega)
  have c4 : (0 < d) = True := eq_true hd
  rw [e128_3 _ _ s, r1]
  simp (disch := omega) only [nI_lt0, nI_leN, nI_ti, nI_cl, le0N, ltNN, c1, c2, c3, c4, false_imp_iff, not_false_eq_true, true_imp_iff, true_and, and_true, e, e2]
  show (¬ nK N n = 6 → Q (some (.int 0)) h) ∧ (nK N n = 6 → Q (some (.int (nC N n))) h) ↔ _
  by_cases c : nK N n = 6
  · obtain ⟨t1, _, t3⟩ := tr_pts ht c hb
    have e3 : nC N n = nI (pts N n).length := by
      rcases ht with ⟨c', _⟩ | ⟨_, ps, u1, u2, u3, u4⟩
      · exact absurd c c'
      · rw [u1]
        have hl := frs_len ps _ _ u4
        have : nCn N n = ps.length := by unfold nCn; rw [u1, tn_nI (by omega)]
        rw [← t1, this]
    rw [e3]
    exact ⟨fun w => w.2 c, fun w => ⟨fun c' => absurd c c', fun _ => w⟩⟩
  · rw [pts_no c]
    exact ⟨fun w => w.1 c, fun w => ⟨fun _ => w, fun c' => absurd c' c⟩⟩
end RDA
