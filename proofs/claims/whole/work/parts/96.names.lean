/-! BUILD. The table of names of the program under proof -/
abbrev KY := Int64 × Int64
def hsI (k : KY) : Int32 := ((k.1 * (-7046029254386353131) + k.2 * (-4417276706812531889)).toUInt64 >>> ((56 : Int32).toInt64.toUInt64 &&& Int64.toUInt64 63)).toInt64.toInt32 &&& 255
def hs (k : KY) : Nat := (hsI k).toInt.toNat
theorem and255 (x : Int32) : 0 ≤ (x &&& 255).toInt ∧ (x &&& 255).toInt < 256 := by
  have h1 : (x &&& 255).toBitVec = x.toBitVec &&& 255#32 := rfl
  have h2 : (x.toBitVec &&& 255#32).toNat ≤ 255 := by
    rw [BitVec.toNat_and]
    exact Nat.and_le_right
  have h3 : (x &&& 255).toInt = (x.toBitVec &&& 255#32).toInt := rfl
  rw [h3, BitVec.toInt_eq_toNat_of_lt (by omega)]
  omega
theorem hs_lt (k : KY) : hs k < 256 := by
  have := and255 ((k.1 * (-7046029254386353131) + k.2 * (-4417276706812531889)).toUInt64 >>> ((56 : Int32).toInt64.toUInt64 &&& Int64.toUInt64 63)).toInt64.toInt32
  unfold hs hsI
  omega
theorem hs_nI (k : KY) : hsI k = nI (hs k) := by
  have h1 := and255 ((k.1 * (-7046029254386353131) + k.2 * (-4417276706812531889)).toUInt64 >>> ((56 : Int32).toInt64.toUInt64 &&& Int64.toUInt64 63)).toInt64.toInt32
  have h2 := hs_lt k
  refine Int32.toInt_inj.mp ?_
  rw [nI_toInt (by omega)]
  unfold hs
  have : 0 ≤ (hsI k).toInt := h1.1
  omega
/-- K the keys in their order, mt the names met, in theirs -/
def NT (K : List KY) (mt : List Nat) (h : Hp) : Prop := (hI h 4 5 = nI K.length ∧ K.length ≤ 3000) ∧ (∀ (i : Nat) (k : KY), K[i]? = some k → hB h 5 i = k.1 ∧ hB h 6 i = k.2) ∧ hN h 9 = 256 ∧ K.Nodup ∧ (∃ bk : Nat → List Nat, ∀ b, b < 256 → Fch (hA h 7) (hA h 9 b) (bk b) ∧ (bk b).Nodup ∧ ∀ i, i ∈ bk b ↔ ∃ k, K[i]? = some k ∧ hs k = b) ∧ (hI h 4 6 = nI mt.length ∧ mt.Nodup ∧ ∀ t, t ∈ mt → t < K.length) ∧ ∀ i, i < K.length → (∃ j : Nat, mt[j]? = some i ∧ hA h 8 i = nI j) ∨ (i ∉ mt ∧ hA h 8 i = -1)
/-- all but the table of names is alike -/
def FrN (h h' : Hp) : Prop := hK h' = hK h ∧ hR h' = hR h ∧ hN h' = hN h ∧ hn h' = hn h ∧ hu h' = hu h ∧ hv h' = hv h ∧ (∀ a, a ≠ 4 → hI h' a = hI h a) ∧ (∀ a, a ≠ 4 → hL h' a = hL h a) ∧ (∀ a, a ≠ 7 → a ≠ 8 → a ≠ 9 → hA h' a = hA h a) ∧ ∀ a, a ≠ 5 → a ≠ 6 → hB h' a = hB h a
theorem frn_rf {h : Hp} : FrN h h := ⟨rfl, rfl, rfl, rfl, rfl, rfl, fun _ _ => rfl, fun _ _ => rfl, fun _ _ _ _ => rfl, fun _ _ _ => rfl⟩
theorem frn_tr {h h1 h2 : Hp} (a : FrN h h1) (b : FrN h1 h2) : FrN h h2 := by
  obtain ⟨a1, a2, a3, a4, a5, a6, a7, a8, a9, a10⟩ := a
  obtain ⟨b1, b2, b3, b4, b5, b6, b7, b8, b9, b10⟩ := b
  exact ⟨b1.trans a1, b2.trans a2, b3.trans a3, b4.trans a4, b5.trans a5, b6.trans a6, fun x c => (b7 x c).trans (a7 x c), fun x c => (b8 x c).trans (a8 x c), fun x c1 c2 c3 => (b9 x c1 c2 c3).trans (a9 x c1 c2 c3), fun x c1 c2 => (b10 x c1 c2).trans (a10 x c1 c2)⟩
theorem frn_sk {h h' : Hp} (f : FrN h h') (s : Sk h) : Sk h' := (sk_same f.1 f.2.1 f.2.2.2.1 : Sk _ = Sk h) ▸ s
section NMS
variable {h h' : Hp} {Q : Option Value → Hp → Prop} {d : Nat} {K : List KY} {mt : List Nat} {k : KY}
/-- a key that is not there is put behind the others -/
theorem nt_add {f7 f8 f9 : Nat → Int32} {f5 f6 : Nat → Int64} (nt : NT K mt h) (hk : k ∉ K) (hl : K.length < 3000) (e5 : f5 = vp_updL (hB h 5) K.length k.1) (e6 : f6 = vp_updL (hB h 6) K.length k.2) (e7 : f7 = upd (hA h 7) K.length (hA h 9 (hs k))) (e8 : f8 = upd (hA h 8) K.length (-1)) (e9 : f9 = upd (hA h 9) (hs k) (nI K.length))
    (g5 : hB h' 5 = f5) (g6 : hB h' 6 = f6) (g7 : hA h' 7 = f7) (g8 : hA h' 8 = f8) (g9 : hA h' 9 = f9) (gN : hN h' 9 = hN h 9) (gi : hI h' 4 5 = nI (K.length + 1)) (gm : hI h' 4 6 = hI h 4 6) : NT (K ++ [k]) mt h' := by
  obtain ⟨⟨n1, n2⟩, n3, n4, n5, ⟨bk, n6⟩, ⟨n7, n8, n9⟩, n10⟩ := nt
  have hlen : (K ++ [k]).length = K.length + 1 := by rw [List.length_append]; rfl
  have hb := hs_lt k
  refine ⟨⟨by rw [hlen]; exact gi, by rw [hlen]; omega⟩, fun i x hi => ?_, by rw [gN]; exact n4, ?_, ⟨fun b => if b = hs k then K.length :: bk b else bk b, fun b hb' => ?_⟩, ⟨by rw [gm]; exact n7, n8, fun t ht => by rw [hlen]; have := n9 t ht; omega⟩, fun i hi => ?_⟩
  · rw [g5, g6, e5, e6]
    unfold vp_updL
    by_cases c : i = K.length
    · subst c
      rw [List.getElem?_append_right (Nat.le_refl _), Nat.sub_self] at hi
      simp only [List.getElem?_cons_zero, Option.some.injEq] at hi
      rw [if_pos rfl, if_pos rfl, hi]
      exact ⟨rfl, rfl⟩
    · have := g_lt hi
      rw [hlen] at this
      rw [List.getElem?_append_left (by omega)] at hi
      rw [if_neg c, if_neg c]
      exact n3 i x hi
  · exact List.nodup_append.mpr ⟨n5, by simp, fun a ha b hb e => by
      simp only [List.mem_cons, List.not_mem_nil, or_false] at hb
      subst hb
      exact hk (e ▸ ha)⟩
  · obtain ⟨m1, m2, m3⟩ := n6 b hb'
    have hni : K.length ∉ bk b := fun e => by
      obtain ⟨x, hx, _⟩ := (m3 _).mp e
      have := g_lt hx
      omega
    have key : ∀ i, (∃ x, (K ++ [k])[i]? = some x ∧ hs x = b) ↔ (∃ x, K[i]? = some x ∧ hs x = b) ∨ (i = K.length ∧ hs k = b) := by
      intro i
      constructor
      · rintro ⟨x, hx, hxb⟩
        by_cases c : i = K.length
        · subst c
          rw [List.getElem?_append_right (Nat.le_refl _), Nat.sub_self] at hx
          simp only [List.getElem?_cons_zero, Option.some.injEq] at hx
          exact Or.inr ⟨rfl, by rw [hx]; exact hxb⟩
        · have := g_lt hx
          rw [hlen] at this
          rw [List.getElem?_append_left (by omega)] at hx
          exact Or.inl ⟨x, hx, hxb⟩
      · rintro (⟨x, hx, hxb⟩ | ⟨rfl, hxb⟩)
        · exact ⟨x, g_app hx, hxb⟩
        · exact ⟨k, by simp, hxb⟩
    rw [g7, e7, g9, e9]
    dsimp only
    by_cases c : b = hs k
    · rw [if_pos c]
      have e1 : upd (hA h 9) (hs k) (nI K.length) b = nI K.length := if_pos c
      rw [e1, ← c]
      refine ⟨fch_add hni (by omega) m1, List.nodup_cons.mpr ⟨hni, m2⟩, fun i => ?_⟩
      rw [key i, List.mem_cons, m3 i]
      constructor
      · rintro (rfl | hx)
        · exact Or.inr ⟨rfl, c.symm⟩
        · exact Or.inl hx
      · rintro (hx | ⟨hx, _⟩)
        · exact Or.inr hx
        · exact Or.inl hx
    · rw [if_neg c]
      have e1 : upd (hA h 9) (hs k) (nI K.length) b = hA h 9 b := if_neg c
      rw [e1]
      refine ⟨fch_up hni m1, m2, fun i => ?_⟩
      rw [key i, m3 i]
      constructor
      · exact Or.inl
      · rintro (hx | ⟨_, hx⟩)
        · exact hx
        · exact absurd hx.symm c
  · rw [hlen] at hi
    rw [g8, e8]
    unfold upd
    by_cases c : i = K.length
    · rw [if_pos c]
      refine Or.inr ⟨fun e => ?_, rfl⟩
      have := n9 i e
      omega
    · rw [if_neg c]
      exact n10 i (by omega)
theorem sp_added {a n : Nat} (s : Sk h) (e5 : hI h 4 5 = nI n) (m5 : n < hN h 5) (b5 : hN h 5 ≤ 1000000) (m6 : n < hN h 6) (m7 : n < hN h 7) (m8 : n < hN h 8) (ha : a < 256) (n9 : hN h 9 = 256) (hq : Q (some (.int (nI n))) (pI (pA (pA (pA (pB (pB h 5 (vp_updL (hB h 5) n (hL h 4 7))) 6 (vp_updL (hB h 6) n (hL h 4 8))) 7 (upd (hA h 7) n (hA h 9 a))) 8 (upd (hA h 8) n (-1))) 9 (upd (hA h 9) a (nI n))) 4 5 (nI (n + 1)))) : aEv d 77 [.ref 4, .int (nI a)] h Q := by
  have c0 : (nI (hN h 5) ≤ nI n) = False := by rw [nI_leN (by omega) (by omega)]; exact eq_false (by omega)
  have c1 : (nI a < 0) = False := nI_lt0 (by omega)
  have z256 : (256 : Int32) = nI 256 := rfl
  have c2 : (nI a < nI 256) = True := by rw [nI_ltN (by omega) (by omega)]; exact eq_true ha
  unfold aEv
  simp only [lv_args, z_v, z_lg, z_h, z_u, z_u1, z_c, z_ct, z_sk, sbne, lst1_d, ldel, lst2_d, ldel2, z_sw, z_rok, zi, eq_self, List.map_cons, List.map_nil, List.append_nil, List.nil_append, List.cons_append, Int32.reduceLT, Int32.reduceLE, Int32.reduceAdd, Int32.reduceSub, Int32.reduceMul, Int32.reduceToInt, Int32.reduceToNatClampNeg, Int.reduceLT, Int.reduceLE, Int.reduceNeg, true_and, and_true, or_self, or_false, false_or, false_and, and_false, true_or, or_true, if_true, if_false, ne_eq, Classical.not_not, not_true_eq_false, not_false_eq_true, true_implies, false_implies, implies_true, Nat.reduceEqDiff, Nat.reduceAdd, Nat.reduceLeDiff, Nat.reduceSub, reduceCtorEq, reduceIte, b77_0, skX s, srX s, e5, c0]
  simp only [lv_args, z_v, z_lg, z_h, z_u, z_u1, z_c, z_ct, z_sk, sbne, lst1_d, ldel, lst2_d, ldel2, z_sw, z_rok, zi, eq_self, List.map_cons, List.map_nil, List.append_nil, List.nil_append, List.cons_append, Int32.reduceLT, Int32.reduceLE, Int32.reduceAdd, Int32.reduceSub, Int32.reduceMul, Int32.reduceToInt, Int32.reduceToNatClampNeg, Int.reduceLT, Int.reduceLE, Int.reduceNeg, true_and, and_true, or_self, or_false, false_or, false_and, and_false, true_or, or_true, if_true, if_false, ne_eq, Classical.not_not, not_true_eq_false, not_false_eq_true, true_implies, false_implies, implies_true, Nat.reduceEqDiff, Nat.reduceAdd, Nat.reduceLeDiff, Nat.reduceSub, reduceCtorEq, reduceIte, b77_12, c1]
  simp only [lv_args, z_v, z_lg, z_h, z_u, z_u1, z_c, z_ct, z_sk, sbne, lst1_d, ldel, lst2_d, ldel2, z_sw, z_rok, zi, eq_self, List.map_cons, List.map_nil, List.append_nil, List.nil_append, List.cons_append, Int32.reduceLT, Int32.reduceLE, Int32.reduceAdd, Int32.reduceSub, Int32.reduceMul, Int32.reduceToInt, Int32.reduceToNatClampNeg, Int.reduceLT, Int.reduceLE, Int.reduceNeg, true_and, and_true, or_self, or_false, false_or, false_and, and_false, true_or, or_true, if_true, if_false, ne_eq, Classical.not_not, not_true_eq_false, not_false_eq_true, true_implies, false_implies, implies_true, Nat.reduceEqDiff, Nat.reduceAdd, Nat.reduceLeDiff, Nat.reduceSub, reduceCtorEq, reduceIte, b77_16, z256, c2]
  simp only [lv_args, z_v, z_lg, z_h, z_u, z_u1, z_c, z_ct, z_sk, sbne, lst1_d, ldel, lst2_d, ldel2, z_sw, z_rok, zi, eq_self, List.map_cons, List.map_nil, List.append_nil, List.nil_append, List.cons_append, Int32.reduceLT, Int32.reduceLE, Int32.reduceAdd, Int32.reduceSub, Int32.reduceMul, Int32.reduceToInt, Int32.reduceToNatClampNeg, Int.reduceLT, Int.reduceLE, Int.reduceNeg, true_and, and_true, or_self, or_false, false_or, false_and, and_false, true_or, or_true, if_true, if_false, ne_eq, Classical.not_not, not_true_eq_false, not_false_eq_true, true_implies, false_implies, implies_true, Nat.reduceEqDiff, Nat.reduceAdd, Nat.reduceLeDiff, Nat.reduceSub, reduceCtorEq, reduceIte, b77_25, skX s, srX s, e5]
  simp (disch := omega) only [nI_ti, nI_cl, le0N, ltNN, n9, nI_1, nI_m1, true_and]
  refine ⟨m5, m6, ha, m7, m8, ha, ?_⟩
  try simp only [lv_args, z_v, z_lg, z_h, z_u, z_u1, z_c, z_ct, z_sk, sbne, lst1_d, ldel, lst2_d, ldel2, z_sw, z_rok, zi, eq_self, List.map_cons, List.map_nil, List.append_nil, List.nil_append, List.cons_append, Int32.reduceLT, Int32.reduceLE, Int32.reduceAdd, Int32.reduceSub, Int32.reduceMul, Int32.reduceToInt, Int32.reduceToNatClampNeg, Int.reduceLT, Int.reduceLE, Int.reduceNeg, true_and, and_true, or_self, or_false, false_or, false_and, and_false, true_or, or_true, if_true, if_false, ne_eq, Classical.not_not, not_true_eq_false, not_false_eq_true, true_implies, false_implies, implies_true, Nat.reduceEqDiff, Nat.reduceAdd, Nat.reduceLeDiff, Nat.reduceSub, reduceCtorEq, reduceIte, b77_25, skX s, srX s, nI_1, nI_m1]
  exact hq
theorem sp_endName (s : Sk h) (nt : NT K mt h) (e7 : hL h 4 7 = k.1) (e8 : hL h 4 8 = k.2) (room : K.length < hN h 5 ∧ K.length < hN h 6 ∧ K.length < hN h 7 ∧ K.length < hN h 8) (hl : K.length < 3000) (hr5 : hN h 5 ≤ 10000) (hd : 1 < d) (q1 : ∀ i : Nat, K[i]? = some k → Q (some (.int (nI i))) h) (q2 : k ∉ K → ∀ h', NT (K ++ [k]) mt h' → FrN h h' → Q (some (.int (nI K.length))) h') : aEv d 79 [.ref 4] h Q := by
  have h0 : 0 < d := by omega
  have nt0 := nt
  obtain ⟨⟨n1, n2⟩, n3, n4, n5, ⟨bk, n6⟩, ⟨n7, n8, n9⟩, n10⟩ := nt
  have hb := hs_lt k
  obtain ⟨b1, b2, b3⟩ := n6 (hs k) hb
  have eh := hs_nI k
  unfold hsI at eh
  -- not found
  have fin : k ∉ K → ∀ (x2 x3 : Int32), aWP d 79 98 [(3, .int x3), (2, .int x2), (1, .int (nI (hs k))), (0, .ref 4)] [] h Q := by
    intro hk x2 x3
    simp only [lv_args, z_v, z_lg, z_h, z_u, z_u1, z_c, z_ct, z_sk, sbne, lst1_d, ldel, lst2_d, ldel2, z_sw, z_rok, zi, eq_self, List.map_cons, List.map_nil, List.append_nil, List.nil_append, List.cons_append, Int32.reduceLT, Int32.reduceLE, Int32.reduceAdd, Int32.reduceSub, Int32.reduceMul, Int32.reduceToInt, Int32.reduceToNatClampNeg, Int.reduceLT, Int.reduceLE, Int.reduceNeg, true_and, and_true, or_self, or_false, false_or, false_and, and_false, true_or, or_true, if_true, if_false, ne_eq, Classical.not_not, not_true_eq_false, not_false_eq_true, true_implies, false_implies, implies_true, Nat.reduceEqDiff, Nat.reduceAdd, Nat.reduceLeDiff, Nat.reduceSub, reduceCtorEq, reduceIte, b79_98, skX s, h0]
    refine sp_added s n1 room.1 (by omega) room.2.1 room.2.2.1 room.2.2.2 hb n4 ?_
    rw [e7, e8]
    simp only [lv_args, z_v, z_lg, z_h, z_u, z_u1, z_c, z_ct, z_sk, sbne, lst1_d, ldel, lst2_d, ldel2, z_sw, z_rok, zi, eq_self, List.map_cons, List.map_nil, List.append_nil, List.nil_append, List.cons_append, Int32.reduceLT, Int32.reduceLE, Int32.reduceAdd, Int32.reduceSub, Int32.reduceMul, Int32.reduceToInt, Int32.reduceToNatClampNeg, Int.reduceLT, Int.reduceLE, Int.reduceNeg, true_and, and_true, or_self, or_false, false_or, false_and, and_false, true_or, or_true, if_true, if_false, ne_eq, Classical.not_not, not_true_eq_false, not_false_eq_true, true_implies, false_implies, implies_true, Nat.reduceEqDiff, Nat.reduceAdd, Nat.reduceLeDiff, Nat.reduceSub, reduceCtorEq, reduceIte, b79_98, skX s]
    refine q2 hk _ ?_ ?_
    · exact nt_add nt0 hk hl rfl rfl rfl rfl rfl rfl rfl rfl rfl rfl rfl rfl rfl
    · exact ⟨rfl, rfl, rfl, rfl, rfl, rfl, fun a c => up2_row c, fun _ _ => rfl, fun a c1 c2 c3 => (up1_ne c3).trans ((up1_ne c2).trans (up1_ne c1)), fun a c1 c2 => (up1_ne c2).trans (up1_ne c1)⟩
  have loop : ∀ (l : List Nat) (j : Nat) (c : Int32), Fch (hA h 7) c l → (∃ l1, bk (hs k) = l1 ++ l ∧ l1.length = j ∧ ∀ i, i ∈ l1 → K[i]? ≠ some k) → aWP d 79 35 [(3, .int (nI j)), (2, .int c), (1, .int (nI (hs k))), (0, .ref 4)] [] h Q := by
    intro l
    induction l with
    | nil =>
      intro j c hc hl1
      have hc : c = -1 := hc
      subst hc
      obtain ⟨l1, e, ej, hno⟩ := hl1
      rw [List.append_nil] at e
      have hk : k ∉ K := fun hk => by
        obtain ⟨i, hi⟩ := List.mem_iff_getElem?.mp hk
        have := (b3 i).mpr ⟨k, hi, rfl⟩
        rw [e] at this
        exact hno i this hi
      have cm : ((-1 : Int32) < 0) = True := eq_true (by decide)
      simp only [lv_args, z_v, z_lg, z_h, z_u, z_u1, z_c, z_ct, z_sk, sbne, lst1_d, ldel, lst2_d, ldel2, z_sw, z_rok, zi, eq_self, List.map_cons, List.map_nil, List.append_nil, List.nil_append, List.cons_append, Int32.reduceLT, Int32.reduceLE, Int32.reduceAdd, Int32.reduceSub, Int32.reduceMul, Int32.reduceToInt, Int32.reduceToNatClampNeg, Int.reduceLT, Int.reduceLE, Int.reduceNeg, true_and, and_true, or_self, or_false, false_or, false_and, and_false, true_or, or_true, if_true, if_false, ne_eq, Classical.not_not, not_true_eq_false, not_false_eq_true, true_implies, false_implies, implies_true, Nat.reduceEqDiff, Nat.reduceAdd, Nat.reduceLeDiff, Nat.reduceSub, reduceCtorEq, reduceIte, b79_35, skX s, n1]
      refine ⟨fun _ => fin hk _ _, fun _ => ?_⟩
      simp only [lv_args, z_v, z_lg, z_h, z_u, z_u1, z_c, z_ct, z_sk, sbne, lst1_d, ldel, lst2_d, ldel2, z_sw, z_rok, zi, eq_self, List.map_cons, List.map_nil, List.append_nil, List.nil_append, List.cons_append, Int32.reduceLT, Int32.reduceLE, Int32.reduceAdd, Int32.reduceSub, Int32.reduceMul, Int32.reduceToInt, Int32.reduceToNatClampNeg, Int.reduceLT, Int.reduceLE, Int.reduceNeg, true_and, and_true, or_self, or_false, false_or, false_and, and_false, true_or, or_true, if_true, if_false, ne_eq, Classical.not_not, not_true_eq_false, not_false_eq_true, true_implies, false_implies, implies_true, Nat.reduceEqDiff, Nat.reduceAdd, Nat.reduceLeDiff, Nat.reduceSub, reduceCtorEq, reduceIte, b79_43, cm]
      exact fin hk _ _
    | cons i l ih =>
      intro j c hc hl1
      obtain ⟨rfl, hi3, hc⟩ := hc
      obtain ⟨l1, e, ej, hno⟩ := hl1
      have hmem : i ∈ bk (hs k) := by rw [e]; simp
      obtain ⟨x, hx, hxb⟩ := (b3 i).mp hmem
      have hiK := g_lt hx
      obtain ⟨k1, k2⟩ := n3 i x hx
      have hjb : j < K.length := by
        have h1 := pige_nd K.length (bk (hs k)) b2 (fun y hy => by
          obtain ⟨z, hz, _⟩ := (b3 y).mp hy
          exact g_lt hz)
        rw [e, List.length_append, List.length_cons] at h1
        omega
      have next : (K[i]? ≠ some k) → aWP d 79 85 [(3, .int (nI j)), (2, .int (nI i)), (1, .int (nI (hs k))), (0, .ref 4)] [] h Q := fun hne => by
        have := ih (j + 1) (hA h 7 i) hc ⟨l1 ++ [i], by rw [e]; simp, by rw [List.length_append, List.length_singleton, ej], fun y hy => by
          rcases List.mem_append.mp hy with hy | hy
          · exact hno y hy
          · simp only [List.mem_cons, List.not_mem_nil, or_false] at hy
            rw [hy]; exact hne⟩
        simp only [lv_args, z_v, z_lg, z_h, z_u, z_u1, z_c, z_ct, z_sk, sbne, lst1_d, ldel, lst2_d, ldel2, z_sw, z_rok, zi, eq_self, List.map_cons, List.map_nil, List.append_nil, List.nil_append, List.cons_append, Int32.reduceLT, Int32.reduceLE, Int32.reduceAdd, Int32.reduceSub, Int32.reduceMul, Int32.reduceToInt, Int32.reduceToNatClampNeg, Int.reduceLT, Int.reduceLE, Int.reduceNeg, true_and, and_true, or_self, or_false, false_or, false_and, and_false, true_or, or_true, if_true, if_false, ne_eq, Classical.not_not, not_true_eq_false, not_false_eq_true, true_implies, false_implies, implies_true, Nat.reduceEqDiff, Nat.reduceAdd, Nat.reduceLeDiff, Nat.reduceSub, reduceCtorEq, reduceIte, b79_85, skX s, srX s]
        simp (disch := omega) only [nI_ti, nI_cl, le0N, ltNN, true_and]
        refine ⟨by omega, ?_⟩
        try simp only [lv_args, z_v, z_lg, z_h, z_u, z_u1, z_c, z_ct, z_sk, sbne, lst1_d, ldel, lst2_d, ldel2, z_sw, z_rok, zi, eq_self, List.map_cons, List.map_nil, List.append_nil, List.nil_append, List.cons_append, Int32.reduceLT, Int32.reduceLE, Int32.reduceAdd, Int32.reduceSub, Int32.reduceMul, Int32.reduceToInt, Int32.reduceToNatClampNeg, Int.reduceLT, Int.reduceLE, Int.reduceNeg, true_and, and_true, or_self, or_false, false_or, false_and, and_false, true_or, or_true, if_true, if_false, ne_eq, Classical.not_not, not_true_eq_false, not_false_eq_true, true_implies, false_implies, implies_true, Nat.reduceEqDiff, Nat.reduceAdd, Nat.reduceLeDiff, Nat.reduceSub, reduceCtorEq, reduceIte, b79_85, nI_1]
        exact this
      simp only [lv_args, z_v, z_lg, z_h, z_u, z_u1, z_c, z_ct, z_sk, sbne, lst1_d, ldel, lst2_d, ldel2, z_sw, z_rok, zi, eq_self, List.map_cons, List.map_nil, List.append_nil, List.nil_append, List.cons_append, Int32.reduceLT, Int32.reduceLE, Int32.reduceAdd, Int32.reduceSub, Int32.reduceMul, Int32.reduceToInt, Int32.reduceToNatClampNeg, Int.reduceLT, Int.reduceLE, Int.reduceNeg, true_and, and_true, or_self, or_false, false_or, false_and, and_false, true_or, or_true, if_true, if_false, ne_eq, Classical.not_not, not_true_eq_false, not_false_eq_true, true_implies, false_implies, implies_true, Nat.reduceEqDiff, Nat.reduceAdd, Nat.reduceLeDiff, Nat.reduceSub, reduceCtorEq, reduceIte, b79_35, skX s, n1]
      simp (disch := omega) only [nI_leN]
      refine ⟨fun c => absurd c (by omega), fun _ => ?_⟩
      simp only [lv_args, z_v, z_lg, z_h, z_u, z_u1, z_c, z_ct, z_sk, sbne, lst1_d, ldel, lst2_d, ldel2, z_sw, z_rok, zi, eq_self, List.map_cons, List.map_nil, List.append_nil, List.nil_append, List.cons_append, Int32.reduceLT, Int32.reduceLE, Int32.reduceAdd, Int32.reduceSub, Int32.reduceMul, Int32.reduceToInt, Int32.reduceToNatClampNeg, Int.reduceLT, Int.reduceLE, Int.reduceNeg, true_and, and_true, or_self, or_false, false_or, false_and, and_false, true_or, or_true, if_true, if_false, ne_eq, Classical.not_not, not_true_eq_false, not_false_eq_true, true_implies, false_implies, implies_true, Nat.reduceEqDiff, Nat.reduceAdd, Nat.reduceLeDiff, Nat.reduceSub, reduceCtorEq, reduceIte, b79_43]
      simp (disch := omega) only [nI_lt0, false_imp_iff, true_imp_iff, not_false_eq_true, true_and]
      simp only [lv_args, z_v, z_lg, z_h, z_u, z_u1, z_c, z_ct, z_sk, sbne, lst1_d, ldel, lst2_d, ldel2, z_sw, z_rok, zi, eq_self, List.map_cons, List.map_nil, List.append_nil, List.nil_append, List.cons_append, Int32.reduceLT, Int32.reduceLE, Int32.reduceAdd, Int32.reduceSub, Int32.reduceMul, Int32.reduceToInt, Int32.reduceToNatClampNeg, Int.reduceLT, Int.reduceLE, Int.reduceNeg, true_and, and_true, or_self, or_false, false_or, false_and, and_false, true_or, or_true, if_true, if_false, ne_eq, Classical.not_not, not_true_eq_false, not_false_eq_true, true_implies, false_implies, implies_true, Nat.reduceEqDiff, Nat.reduceAdd, Nat.reduceLeDiff, Nat.reduceSub, reduceCtorEq, reduceIte, b79_47, skX s, n1]
      simp (disch := omega) only [nI_leN]
      refine ⟨fun c => absurd c (by omega), fun _ => ?_⟩
      simp only [lv_args, z_v, z_lg, z_h, z_u, z_u1, z_c, z_ct, z_sk, sbne, lst1_d, ldel, lst2_d, ldel2, z_sw, z_rok, zi, eq_self, List.map_cons, List.map_nil, List.append_nil, List.nil_append, List.cons_append, Int32.reduceLT, Int32.reduceLE, Int32.reduceAdd, Int32.reduceSub, Int32.reduceMul, Int32.reduceToInt, Int32.reduceToNatClampNeg, Int.reduceLT, Int.reduceLE, Int.reduceNeg, true_and, and_true, or_self, or_false, false_or, false_and, and_false, true_or, or_true, if_true, if_false, ne_eq, Classical.not_not, not_true_eq_false, not_false_eq_true, true_implies, false_implies, implies_true, Nat.reduceEqDiff, Nat.reduceAdd, Nat.reduceLeDiff, Nat.reduceSub, reduceCtorEq, reduceIte, b79_55, skX s, srX s, e7]
      simp (disch := omega) only [nI_ti, nI_cl, le0N, ltNN, k1, true_and]
      refine ⟨by omega, ?_⟩
      try simp only [lv_args, z_v, z_lg, z_h, z_u, z_u1, z_c, z_ct, z_sk, sbne, lst1_d, ldel, lst2_d, ldel2, z_sw, z_rok, zi, eq_self, List.map_cons, List.map_nil, List.append_nil, List.nil_append, List.cons_append, Int32.reduceLT, Int32.reduceLE, Int32.reduceAdd, Int32.reduceSub, Int32.reduceMul, Int32.reduceToInt, Int32.reduceToNatClampNeg, Int.reduceLT, Int.reduceLE, Int.reduceNeg, true_and, and_true, or_self, or_false, false_or, false_and, and_false, true_or, or_true, if_true, if_false, ne_eq, Classical.not_not, not_true_eq_false, not_false_eq_true, true_implies, false_implies, implies_true, Nat.reduceEqDiff, Nat.reduceAdd, Nat.reduceLeDiff, Nat.reduceSub, reduceCtorEq, reduceIte, b79_55, cmp_0]
      refine ⟨fun c1 => next (fun hxk => c1 (by rw [hx] at hxk; injection hxk with hxk; rw [hxk])), fun c1 => ?_⟩
      simp only [lv_args, z_v, z_lg, z_h, z_u, z_u1, z_c, z_ct, z_sk, sbne, lst1_d, ldel, lst2_d, ldel2, z_sw, z_rok, zi, eq_self, List.map_cons, List.map_nil, List.append_nil, List.nil_append, List.cons_append, Int32.reduceLT, Int32.reduceLE, Int32.reduceAdd, Int32.reduceSub, Int32.reduceMul, Int32.reduceToInt, Int32.reduceToNatClampNeg, Int.reduceLT, Int.reduceLE, Int.reduceNeg, true_and, and_true, or_self, or_false, false_or, false_and, and_false, true_or, or_true, if_true, if_false, ne_eq, Classical.not_not, not_true_eq_false, not_false_eq_true, true_implies, false_implies, implies_true, Nat.reduceEqDiff, Nat.reduceAdd, Nat.reduceLeDiff, Nat.reduceSub, reduceCtorEq, reduceIte, b79_69, skX s, srX s, e8]
      simp (disch := omega) only [nI_ti, nI_cl, le0N, ltNN, k2, true_and]
      refine ⟨by omega, ?_⟩
      try simp only [lv_args, z_v, z_lg, z_h, z_u, z_u1, z_c, z_ct, z_sk, sbne, lst1_d, ldel, lst2_d, ldel2, z_sw, z_rok, zi, eq_self, List.map_cons, List.map_nil, List.append_nil, List.nil_append, List.cons_append, Int32.reduceLT, Int32.reduceLE, Int32.reduceAdd, Int32.reduceSub, Int32.reduceMul, Int32.reduceToInt, Int32.reduceToNatClampNeg, Int.reduceLT, Int.reduceLE, Int.reduceNeg, true_and, and_true, or_self, or_false, false_or, false_and, and_false, true_or, or_true, if_true, if_false, ne_eq, Classical.not_not, not_true_eq_false, not_false_eq_true, true_implies, false_implies, implies_true, Nat.reduceEqDiff, Nat.reduceAdd, Nat.reduceLeDiff, Nat.reduceSub, reduceCtorEq, reduceIte, b79_69, cmp_0]
      refine ⟨fun c2 => next (fun hxk => c2 (by rw [hx] at hxk; injection hxk with hxk; rw [hxk])), fun c2 => ?_⟩
      simp only [lv_args, z_v, z_lg, z_h, z_u, z_u1, z_c, z_ct, z_sk, sbne, lst1_d, ldel, lst2_d, ldel2, z_sw, z_rok, zi, eq_self, List.map_cons, List.map_nil, List.append_nil, List.nil_append, List.cons_append, Int32.reduceLT, Int32.reduceLE, Int32.reduceAdd, Int32.reduceSub, Int32.reduceMul, Int32.reduceToInt, Int32.reduceToNatClampNeg, Int.reduceLT, Int.reduceLE, Int.reduceNeg, true_and, and_true, or_self, or_false, false_or, false_and, and_false, true_or, or_true, if_true, if_false, ne_eq, Classical.not_not, not_true_eq_false, not_false_eq_true, true_implies, false_implies, implies_true, Nat.reduceEqDiff, Nat.reduceAdd, Nat.reduceLeDiff, Nat.reduceSub, reduceCtorEq, reduceIte, b79_83]
      refine q1 i ?_
      rw [hx]
      exact congrArg some (Prod.ext c1 c2)
  unfold aEv
  simp only [lv_args, z_v, z_lg, z_h, z_u, z_u1, z_c, z_ct, z_sk, sbne, lst1_d, ldel, lst2_d, ldel2, z_sw, z_rok, zi, eq_self, List.map_cons, List.map_nil, List.append_nil, List.nil_append, List.cons_append, Int32.reduceLT, Int32.reduceLE, Int32.reduceAdd, Int32.reduceSub, Int32.reduceMul, Int32.reduceToInt, Int32.reduceToNatClampNeg, Int.reduceLT, Int.reduceLE, Int.reduceNeg, true_and, and_true, or_self, or_false, false_or, false_and, and_false, true_or, or_true, if_true, if_false, ne_eq, Classical.not_not, not_true_eq_false, not_false_eq_true, true_implies, false_implies, implies_true, Nat.reduceEqDiff, Nat.reduceAdd, Nat.reduceLeDiff, Nat.reduceSub, reduceCtorEq, reduceIte, b79_0, skX s, srX s, e7, e8, eh]
  simp (disch := omega) only [nI_ti, nI_cl, le0N, ltNN, n4, true_and]
  refine ⟨by omega, ?_⟩
  try simp only [lv_args, z_v, z_lg, z_h, z_u, z_u1, z_c, z_ct, z_sk, sbne, lst1_d, ldel, lst2_d, ldel2, z_sw, z_rok, zi, eq_self, List.map_cons, List.map_nil, List.append_nil, List.nil_append, List.cons_append, Int32.reduceLT, Int32.reduceLE, Int32.reduceAdd, Int32.reduceSub, Int32.reduceMul, Int32.reduceToInt, Int32.reduceToNatClampNeg, Int.reduceLT, Int.reduceLE, Int.reduceNeg, true_and, and_true, or_self, or_false, false_or, false_and, and_false, true_or, or_true, if_true, if_false, ne_eq, Classical.not_not, not_true_eq_false, not_false_eq_true, true_implies, false_implies, implies_true, Nat.reduceEqDiff, Nat.reduceAdd, Nat.reduceLeDiff, Nat.reduceSub, reduceCtorEq, reduceIte, b79_0]
  exact loop (bk (hs k)) 0 _ b1 ⟨[], rfl, rfl, fun i hi => by cases hi⟩
end NMS
