/-! BUILD. The reference: a name out of the text, a token -/
def TKp (T : List TK) (mt : List Nat) (h : Hp) : Prop := hI h 59 9 = nI T.length ∧ (∀ (i : Nat) (x : TK), T[i]? = some x → hA h 62 i = nI x.1 ∧ hA h 63 i = nI x.2.1 ∧ (2 ≤ x.1 → hA h 64 i = tvl mt x)) ∧ ∀ x, x ∈ T → x.1 ≤ 8 ∧ (x.1 = 8 → x.2.2.toInt.toNat ∈ mt) ∧ (x.1 = 4 → 0 ∈ mt)
section MNO
variable {h h' h0 : Hp} {Q : Option Value → Hp → Prop} {d n q : Nat} {t : Nat → Nat} {K : List KY} {mt : List Nat} {T : List TK}
theorem tvl_mt {i : Nat} {x : TK} (h8 : x.1 = 8 → x.2.2.toInt.toNat ∈ mt) (h4 : x.1 = 4 → 0 ∈ mt) : tvl (if i ∈ mt then mt else mt ++ [i]) x = tvl mt x := by
  by_cases c : i ∈ mt
  · rw [if_pos c]
  · rw [if_neg c]
    unfold tvl
    by_cases c8 : x.1 = 8
    · rw [if_pos c8, if_pos c8, idx_app (h8 c8)]
    · rw [if_neg c8, if_neg c8]
      by_cases c4 : x.1 = 4
      · rw [if_pos c4, if_pos c4, idx_app (h4 c4)]
      · rw [if_neg c4, if_neg c4]
theorem tkp_mt {i : Nat} (k : TKp T mt h) (e9 : hI h' 59 9 = hI h 59 9) (ea : ∀ a, 62 ≤ a → a ≤ 64 → hA h' a = hA h a) : TKp T (if i ∈ mt then mt else mt ++ [i]) h' := by
  obtain ⟨k1, k2, k3⟩ := k
  refine ⟨by rw [e9]; exact k1, fun j x hx => ?_, fun x hx => ?_⟩
  · obtain ⟨a1, a2, a3⟩ := k2 j x hx
    obtain ⟨b1, b2, b3⟩ := k3 x (List.mem_of_getElem? hx)
    rw [ea 62 (by decide) (by decide), ea 63 (by decide) (by decide), ea 64 (by decide) (by decide), tvl_mt b2 b3]
    exact ⟨a1, a2, a3⟩
  · obtain ⟨b1, b2, b3⟩ := k3 x hx
    have sub : ∀ y, y ∈ mt → y ∈ (if i ∈ mt then mt else mt ++ [i]) := fun y hy => by
      split
      · exact hy
      · exact List.mem_append_left _ hy
    exact ⟨b1, fun w => sub _ (b2 w), fun w => sub _ (b3 w)⟩
theorem sp_token {x : TK} {k' p' v' : Int32} (m : SMt t n q h0) (ky : KS q h0 h) (M : MTn t n K mt q h) (tk : TKp T mt h) (hl : T.length < 3002) (x8 : x.1 ≤ 8) (h8 : x.1 = 8 → x.2.2.toInt.toNat ∈ mt) (h4 : x.1 = 4 → 0 ∈ mt) (e1 : k' = nI x.1) (e2 : p' = nI x.2.1) (e3 : 2 ≤ x.1 → v' = tvl mt x) (hq : ∀ h', KS q h0 h' → MTn t n K mt q h' → TKp (T ++ [x]) mt h' → Q none h') : aEv d 264 [.ref 59, .int k', .int p', .int v'] h Q := by
  subst e1
  subst e2
  have m1 := sm_k ky m
  have s := m1.1.1
  have hq66 := sm_q m
  obtain ⟨k1, k2, k3⟩ := tk
  have n62 : hN h 62 = 3002 := m1.1.2.1.2 (62, 3002) (by decide)
  have n63 : hN h 63 = 3002 := m1.1.2.1.2 (63, 3002) (by decide)
  have n64 : hN h 64 = 3002 := m1.1.2.1.2 (64, 3002) (by decide)
  have c2 : (T.length < 3002) = True := eq_true hl
  have kz : KS q h0 (pI (pA (pA (pA h 62 (upd (hA h 62) T.length (nI x.1))) 63 (upd (hA h 63) T.length (nI x.2.1))) 64 (upd (hA h 64) T.length v')) 59 9 (nI (T.length + 1))) := ks_I (ks_A (ks_A (ks_A ky (by omega)) (by omega)) (by omega)) (by omega)
  have P := hq _ kz (by rcases hq66 with rfl | rfl <;> exact M) ⟨by rw [List.length_append]; rfl, fun i y hy => by
    show upd (hA h 62) T.length (nI x.1) i = _ ∧ upd (hA h 63) T.length (nI x.2.1) i = _ ∧ (_ → upd (hA h 64) T.length v' i = _)
    unfold upd
    by_cases ci : i < T.length
    · rw [List.getElem?_append_left ci] at hy
      have ci' : ¬ i = T.length := by omega
      rw [if_neg ci', if_neg ci', if_neg ci']
      exact k2 i y hy
    · have hi := g_lt hy
      rw [List.length_append, List.length_singleton] at hi
      have ei : i = T.length := by omega
      subst ei
      rw [List.getElem?_append_right (Nat.le_refl _), Nat.sub_self] at hy
      have hy : x = y := by injection hy
      subst hy
      rw [if_pos rfl, if_pos rfl, if_pos rfl]
      exact ⟨rfl, rfl, e3⟩, fun y hy => by
    rcases List.mem_append.mp hy with hy | hy
    · exact k3 y hy
    · simp only [List.mem_cons, List.not_mem_nil, or_false] at hy
      subst hy
      exact ⟨x8, h8, h4⟩⟩
  unfold aEv
  simp only [lv_args, z_v, z_lg, z_h, z_u, z_u1, z_c, z_ct, z_sk, sbne, lst1_d, ldel, lst2_d, ldel2, z_sw, z_rok, zi, eq_self, List.map_cons, List.map_nil, List.append_nil, List.nil_append, List.cons_append, Int32.reduceLT, Int32.reduceLE, Int32.reduceAdd, Int32.reduceSub, Int32.reduceMul, Int32.reduceToInt, Int32.reduceToNatClampNeg, Int.reduceLT, Int.reduceLE, Int.reduceNeg, true_and, and_true, or_self, or_false, false_or, false_and, and_false, true_or, or_true, if_true, if_false, ne_eq, Classical.not_not, not_true_eq_false, not_false_eq_true, true_implies, false_implies, implies_true, Nat.reduceEqDiff, Nat.reduceAdd, Nat.reduceLeDiff, Nat.reduceSub, reduceCtorEq, reduceIte, b264_0, skM s, srM s, k1, n62, n63, n64, nI_s]
  simp (disch := omega) only [nI_ti, nI_cl, le0N, ltNN, c2, true_and]
  try simp only [lv_args, z_v, z_lg, z_h, z_u, z_u1, z_c, z_ct, z_sk, sbne, lst1_d, ldel, lst2_d, ldel2, z_sw, z_rok, zi, eq_self, List.map_cons, List.map_nil, List.append_nil, List.nil_append, List.cons_append, Int32.reduceLT, Int32.reduceLE, Int32.reduceAdd, Int32.reduceSub, Int32.reduceMul, Int32.reduceToInt, Int32.reduceToNatClampNeg, Int.reduceLT, Int.reduceLE, Int.reduceNeg, true_and, and_true, or_self, or_false, false_or, false_and, and_false, true_or, or_true, if_true, if_false, ne_eq, Classical.not_not, not_true_eq_false, not_false_eq_true, true_implies, false_implies, implies_true, Nat.reduceEqDiff, Nat.reduceAdd, Nat.reduceLeDiff, Nat.reduceSub, reduceCtorEq, reduceIte, b264_0, skM s, srM s, k1, n62, n63, n64, nI_s]
  try simp (disch := omega) only [nI_ti, nI_cl, le0N, ltNN, c2, true_and]
  try simp only [lv_args, z_v, z_lg, z_h, z_u, z_u1, z_c, z_ct, z_sk, sbne, lst1_d, ldel, lst2_d, ldel2, z_sw, z_rok, zi, eq_self, List.map_cons, List.map_nil, List.append_nil, List.nil_append, List.cons_append, Int32.reduceLT, Int32.reduceLE, Int32.reduceAdd, Int32.reduceSub, Int32.reduceMul, Int32.reduceToInt, Int32.reduceToNatClampNeg, Int.reduceLT, Int.reduceLE, Int.reduceNeg, true_and, and_true, or_self, or_false, false_or, false_and, and_false, true_or, or_true, if_true, if_false, ne_eq, Classical.not_not, not_true_eq_false, not_false_eq_true, true_implies, false_implies, implies_true, Nat.reduceEqDiff, Nat.reduceAdd, Nat.reduceLeDiff, Nat.reduceSub, reduceCtorEq, reduceIte, b264_0, skM s, srM s, k1, n62, n63, n64, nI_s]
  exact P
theorem wsD {v : Nat} (hv : v < 30) : (wS.getD v []) ∈ wS ∧ K30[v]? = some (kyN (wS.getD v [])) := by
  have hl : v < wS.length := by rw [ws_ok.1]; exact hv
  have e : wS.getD v [] = wS[v] := by rw [List.getD_eq_getElem?_getD, List.getElem?_eq_getElem hl]; rfl
  rw [e]
  refine ⟨List.getElem_mem hl, ?_⟩
  rw [ws_ok.2.2, List.getElem?_map, List.getElem?_eq_getElem hl]
  rfl
theorem sp_nameOf {p e : Nat} (m : SMt t n q h0) (ky : KS q h0 h) (M : MTn t n K mt q h) (hl : mt.length < 3000) (hpe : p < e) (hen : e ≤ n) (h12 : e - p ≤ 12) (hdg : Dgs (sN t p e)) (hd : 30 < d) (hq : ∀ h' K' i, ((K[i]? = some (kyN (sN t p e)) ∧ K' = K) ∨ (kyN (sN t p e) ∉ K ∧ i = K.length ∧ K' = K ++ [kyN (sN t p e)])) → KS q h0 h' → MTn t n K' (if i ∈ mt then mt else mt ++ [i]) q h' → hI h' 59 9 = hI h 59 9 → (∀ a, 62 ≤ a → a ≤ 64 → hA h' a = hA h a) → Q (some (.int (nI ((if i ∈ mt then mt else mt ++ [i]).idxOf i)))) h') : aEv d 238 [.ref 59, .int (nI p), .int (nI (e - p))] h Q := by
  have h00 : 0 < d := by omega
  have m1 := sm_k ky m
  have s := m1.1.1
  have hq66 := sm_q m
  have R := sm_R m1
  have sw := sq s hq66
  have nn := nq m1.1.2 hq66
  have M0 := M
  obtain ⟨⟨M1, M2, M3⟩, M4, M5, M6, M7, M8⟩ := M
  have hlen : (sN t p e).length = e - p := sN_len
  have z0 : (0 : Int32) = nI 0 := rfl
  have z1 : (1 : Int32) = nI 1 := rfl
  have z31 : (31 : Int32) = nI 31 := rfl
  have z10 : ¬ (1 : Int32) = 0 := by decide
  have eb0 : bI false = 0 := rfl
  have eb1 : bI true = 1 := rfl
  -- no word
  have names : (∀ v, v < 30 → sN t p e ≠ wS.getD v []) → aWP d 238 46 [(4, .int (nI 31)), (3, .int (nI 0)), (0, .ref 59), (1, .int (nI p)), (2, .int (nI (e - p)))] [] h Q := by
    intro hnw
    -- which name it is
    obtain ⟨i, K', hi30, hiK, hKK, hmatch, hnew⟩ : ∃ i K', 30 ≤ i ∧ ((K[i]? = some (kyN (sN t p e)) ∧ K' = K) ∨ (kyN (sN t p e) ∉ K ∧ i = K.length ∧ K' = K ++ [kyN (sN t p e)])) ∧ ((K' = K ∧ i < K.length) ∨ (∃ k, k ∉ K ∧ K' = K ++ [k] ∧ i = K.length)) ∧ (∀ j a b, K[j]? = some (kyN (sN t a b)) → Dgs (sN t a b) → b - a ≤ 12 → (sN t a b = sN t p e ↔ j = i)) ∧ K'[i]? = some (kyN (sN t p e)) := by
      by_cases hk : kyN (sN t p e) ∈ K
      · obtain ⟨i, hi⟩ := List.mem_iff_getElem?.mp hk
        have hil := g_lt hi
        refine ⟨i, K, ?_, Or.inl ⟨hi, rfl⟩, Or.inl ⟨rfl, hil⟩, fun j a b hj hdg2 hl2 => ⟨fun w => ?_, fun w => ?_⟩, hi⟩
        · apply Classical.byContradiction
          intro c
          have c : i < 30 := by omega
          obtain ⟨w1, w2⟩ := wsD c
          have h1 := M7 i c
          rw [hi, w2] at h1
          injection h1 with h1
          obtain ⟨u1, u2, u3⟩ := ws_ok.2.1 _ w1
          exact hnw i c (ky_inj hdg u3 (by omega) u1 h1)
        · rw [w] at hj
          exact nd_get M6 hj hi
        · subst w
          rw [hi] at hj
          injection hj with hj
          exact (ky_inj hdg hdg2 (by omega) (by rw [sN_len]; exact hl2) hj).symm
      · refine ⟨K.length, K ++ [kyN (sN t p e)], M8, Or.inr ⟨hk, rfl, rfl⟩, Or.inr ⟨_, hk, rfl, rfl⟩, fun j a b hj hdg2 hl2 => ⟨fun w => ?_, fun w => ?_⟩, by simp⟩
        · rw [w] at hj
          exact absurd (List.mem_of_getElem? hj) hk
        · subst w
          have := g_lt hj
          omega
    have loop : ∀ (r k : Nat), k + r = mt.length → (∀ k', k' < k → mt[k']? ≠ some i) → aWP d 238 49 [(4, .int (nI k)), (3, .int (nI 0)), (0, .ref 59), (1, .int (nI p)), (2, .int (nI (e - p)))] [] h Q := by
      intro r
      induction r with
      | zero =>
        intro k hk hno
        have hk : k = mt.length := hk
        have him : i ∉ mt := fun w => by
          obtain ⟨k', hk'⟩ := List.mem_iff_getElem?.mp w
          exact hno k' (by have := g_lt hk'; omega) hk'
        have hq2 := fun h' => hq h' K' i hiK
        rw [if_neg him] at hq2
        have e : (mt ++ [i]).idxOf i = mt.length := idx_first (by simp) (fun i' hi' => by
          rw [List.getElem?_append_left hi']
          exact fun e => him (List.mem_of_getElem? e))
        rw [e] at hq2
        simp only [lv_args, z_v, z_lg, z_h, z_u, z_u1, z_c, z_ct, z_sk, sbne, lst1_d, ldel, lst2_d, ldel2, z_sw, z_rok, zi, eq_self, List.map_cons, List.map_nil, List.append_nil, List.nil_append, List.cons_append, Int32.reduceLT, Int32.reduceLE, Int32.reduceAdd, Int32.reduceSub, Int32.reduceMul, Int32.reduceToInt, Int32.reduceToNatClampNeg, Int.reduceLT, Int.reduceLE, Int.reduceNeg, true_and, and_true, or_self, or_false, false_or, false_and, and_false, true_or, or_true, if_true, if_false, ne_eq, Classical.not_not, not_true_eq_false, not_false_eq_true, true_implies, false_implies, implies_true, Nat.reduceEqDiff, Nat.reduceAdd, Nat.reduceLeDiff, Nat.reduceSub, reduceCtorEq, reduceIte, b238_49, skM s, R, sw, M1]
        simp (disch := omega) only [nI_leN]
        refine ⟨fun _ => ?_, fun c => absurd (by omega) c⟩
        simp only [lv_args, z_v, z_lg, z_h, z_u, z_u1, z_c, z_ct, z_sk, sbne, lst1_d, ldel, lst2_d, ldel2, z_sw, z_rok, zi, eq_self, List.map_cons, List.map_nil, List.append_nil, List.nil_append, List.cons_append, Int32.reduceLT, Int32.reduceLE, Int32.reduceAdd, Int32.reduceSub, Int32.reduceMul, Int32.reduceToInt, Int32.reduceToNatClampNeg, Int.reduceLT, Int.reduceLE, Int.reduceNeg, true_and, and_true, or_self, or_false, false_or, false_and, and_false, true_or, or_true, if_true, if_false, ne_eq, Classical.not_not, not_true_eq_false, not_false_eq_true, true_implies, false_implies, implies_true, Nat.reduceEqDiff, Nat.reduceAdd, Nat.reduceLeDiff, Nat.reduceSub, reduceCtorEq, reduceIte, b238_98, skM s, h00, z0]
        refine sp_newName (w := 0) (K' := K') m ky M0 hl hKK him (by rw [if_neg (by omega)]) (fun _ => ⟨_, hpe, hen, h12, hdg, hnew, rfl⟩) (fun h' k' M' a9 aT => ?_)
        have s' := (sm_k k' m).1.1
        have P := hq2 h' k' M' a9 aT
        simp only [lv_args, z_v, z_lg, z_h, z_u, z_u1, z_c, z_ct, z_sk, sbne, lst1_d, ldel, lst2_d, ldel2, z_sw, z_rok, zi, eq_self, List.map_cons, List.map_nil, List.append_nil, List.nil_append, List.cons_append, Int32.reduceLT, Int32.reduceLE, Int32.reduceAdd, Int32.reduceSub, Int32.reduceMul, Int32.reduceToInt, Int32.reduceToNatClampNeg, Int.reduceLT, Int.reduceLE, Int.reduceNeg, true_and, and_true, or_self, or_false, false_or, false_and, and_false, true_or, or_true, if_true, if_false, ne_eq, Classical.not_not, not_true_eq_false, not_false_eq_true, true_implies, false_implies, implies_true, Nat.reduceEqDiff, Nat.reduceAdd, Nat.reduceLeDiff, Nat.reduceSub, reduceCtorEq, reduceIte, b238_98, skM s, skM s', Nat.reduceLT]
        exact P
      | succ r ih =>
        intro k hk hno
        have hkl : k < mt.length := by omega
        have hg := List.getElem?_eq_getElem hkl
        obtain ⟨o1, o2, o3, o4⟩ := M4 k _ hg
        have c2 : (k < 3000) = True := eq_true (by omega)
        have next : mt[k] ≠ i → aWP d 238 92 [(4, .int (nI k)), (3, .int (nI 0)), (0, .ref 59), (1, .int (nI p)), (2, .int (nI (e - p)))] [] h Q := fun c => by
          have go := ih (k + 1) (by omega) (fun k' hk' => by
            by_cases ck : k' = k
            · rw [ck, hg]
              intro w
              injection w with w
              exact c w
            · exact hno k' (by omega))
          simp only [lv_args, z_v, z_lg, z_h, z_u, z_u1, z_c, z_ct, z_sk, sbne, lst1_d, ldel, lst2_d, ldel2, z_sw, z_rok, zi, eq_self, List.map_cons, List.map_nil, List.append_nil, List.nil_append, List.cons_append, Int32.reduceLT, Int32.reduceLE, Int32.reduceAdd, Int32.reduceSub, Int32.reduceMul, Int32.reduceToInt, Int32.reduceToNatClampNeg, Int.reduceLT, Int.reduceLE, Int.reduceNeg, true_and, and_true, or_self, or_false, false_or, false_and, and_false, true_or, or_true, if_true, if_false, ne_eq, Classical.not_not, not_true_eq_false, not_false_eq_true, true_implies, false_implies, implies_true, Nat.reduceEqDiff, Nat.reduceAdd, Nat.reduceLeDiff, Nat.reduceSub, reduceCtorEq, reduceIte, b238_92, nI_s]
          exact go
        simp only [lv_args, z_v, z_lg, z_h, z_u, z_u1, z_c, z_ct, z_sk, sbne, lst1_d, ldel, lst2_d, ldel2, z_sw, z_rok, zi, eq_self, List.map_cons, List.map_nil, List.append_nil, List.nil_append, List.cons_append, Int32.reduceLT, Int32.reduceLE, Int32.reduceAdd, Int32.reduceSub, Int32.reduceMul, Int32.reduceToInt, Int32.reduceToNatClampNeg, Int.reduceLT, Int.reduceLE, Int.reduceNeg, true_and, and_true, or_self, or_false, false_or, false_and, and_false, true_or, or_true, if_true, if_false, ne_eq, Classical.not_not, not_true_eq_false, not_false_eq_true, true_implies, false_implies, implies_true, Nat.reduceEqDiff, Nat.reduceAdd, Nat.reduceLeDiff, Nat.reduceSub, reduceCtorEq, reduceIte, b238_49, skM s, R, sw, M1]
        simp (disch := omega) only [nI_leN]
        refine ⟨fun c => absurd c (by omega), fun _ => ?_⟩
        simp only [lv_args, z_v, z_lg, z_h, z_u, z_u1, z_c, z_ct, z_sk, sbne, lst1_d, ldel, lst2_d, ldel2, z_sw, z_rok, zi, eq_self, List.map_cons, List.map_nil, List.append_nil, List.nil_append, List.cons_append, Int32.reduceLT, Int32.reduceLE, Int32.reduceAdd, Int32.reduceSub, Int32.reduceMul, Int32.reduceToInt, Int32.reduceToNatClampNeg, Int.reduceLT, Int.reduceLE, Int.reduceNeg, true_and, and_true, or_self, or_false, false_or, false_and, and_false, true_or, or_true, if_true, if_false, ne_eq, Classical.not_not, not_true_eq_false, not_false_eq_true, true_implies, false_implies, implies_true, Nat.reduceEqDiff, Nat.reduceAdd, Nat.reduceLeDiff, Nat.reduceSub, reduceCtorEq, reduceIte, b238_61, skM s, R, srM s, sw, nn]
        simp (disch := omega) only [nI_ti, nI_cl, le0N, ltNN, c2, o2, true_and]
        try simp only [lv_args, z_v, z_lg, z_h, z_u, z_u1, z_c, z_ct, z_sk, sbne, lst1_d, ldel, lst2_d, ldel2, z_sw, z_rok, zi, eq_self, List.map_cons, List.map_nil, List.append_nil, List.nil_append, List.cons_append, Int32.reduceLT, Int32.reduceLE, Int32.reduceAdd, Int32.reduceSub, Int32.reduceMul, Int32.reduceToInt, Int32.reduceToNatClampNeg, Int.reduceLT, Int.reduceLE, Int.reduceNeg, true_and, and_true, or_self, or_false, false_or, false_and, and_false, true_or, or_true, if_true, if_false, ne_eq, Classical.not_not, not_true_eq_false, not_false_eq_true, true_implies, false_implies, implies_true, Nat.reduceEqDiff, Nat.reduceAdd, Nat.reduceLeDiff, Nat.reduceSub, reduceCtorEq, reduceIte, b238_61]
        rw [w_eq']
        refine ⟨fun c => next (by omega), fun c => ?_⟩
        have c30 : 30 ≤ mt[k] := by first | exact c | exact Classical.not_not.mp c
        obtain ⟨a, b, p1, p2, p3, p4, p5, p6, p7⟩ := o4 c30
        have key := hmatch mt[k] a b p5 p4 p3
        simp only [lv_args, z_v, z_lg, z_h, z_u, z_u1, z_c, z_ct, z_sk, sbne, lst1_d, ldel, lst2_d, ldel2, z_sw, z_rok, zi, eq_self, List.map_cons, List.map_nil, List.append_nil, List.nil_append, List.cons_append, Int32.reduceLT, Int32.reduceLE, Int32.reduceAdd, Int32.reduceSub, Int32.reduceMul, Int32.reduceToInt, Int32.reduceToNatClampNeg, Int.reduceLT, Int.reduceLE, Int.reduceNeg, true_and, and_true, or_self, or_false, false_or, false_and, and_false, true_or, or_true, if_true, if_false, ne_eq, Classical.not_not, not_true_eq_false, not_false_eq_true, true_implies, false_implies, implies_true, Nat.reduceEqDiff, Nat.reduceAdd, Nat.reduceLeDiff, Nat.reduceSub, reduceCtorEq, reduceIte, b238_74, skM s, srM s, h00]
        refine sp_isName (K := K) m ky M0 hg (by omega) hen (by omega) p2 p6 p7 ?_
        simp only [lv_args, z_v, z_lg, z_h, z_u, z_u1, z_c, z_ct, z_sk, sbne, lst1_d, ldel, lst2_d, ldel2, z_sw, z_rok, zi, eq_self, List.map_cons, List.map_nil, List.append_nil, List.nil_append, List.cons_append, Int32.reduceLT, Int32.reduceLE, Int32.reduceAdd, Int32.reduceSub, Int32.reduceMul, Int32.reduceToInt, Int32.reduceToNatClampNeg, Int.reduceLT, Int.reduceLE, Int.reduceNeg, true_and, and_true, or_self, or_false, false_or, false_and, and_false, true_or, or_true, if_true, if_false, ne_eq, Classical.not_not, not_true_eq_false, not_false_eq_true, true_implies, false_implies, implies_true, Nat.reduceEqDiff, Nat.reduceAdd, Nat.reduceLeDiff, Nat.reduceSub, reduceCtorEq, reduceIte, b238_74, skM s, Nat.reduceLT]
        by_cases ce : sN t a b = sN t p e
        · have ei := key.mp ce
          rw [decide_eq_true ce, eb1]
          have him : i ∈ mt := by rw [← ei]; exact List.getElem_mem hkl
          have hq2 := fun h' => hq h' K' i hiK
          rw [if_pos him] at hq2
          have e : mt.idxOf i = k := idx_first (by rw [hg, ei]) hno
          rw [e] at hq2
          have eK : K' = K := by
            rcases hiK with ⟨_, e⟩ | ⟨_, e2, _⟩
            · exact e
            · omega
          have P := hq2 h ky (by rw [eK]; exact M0) rfl (fun _ _ _ => rfl)
          simp only [z10, not_false_eq_true, false_imp_iff, true_imp_iff, true_and, and_true]
          simp only [lv_args, z_v, z_lg, z_h, z_u, z_u1, z_c, z_ct, z_sk, sbne, lst1_d, ldel, lst2_d, ldel2, z_sw, z_rok, zi, eq_self, List.map_cons, List.map_nil, List.append_nil, List.nil_append, List.cons_append, Int32.reduceLT, Int32.reduceLE, Int32.reduceAdd, Int32.reduceSub, Int32.reduceMul, Int32.reduceToInt, Int32.reduceToNatClampNeg, Int.reduceLT, Int.reduceLE, Int.reduceNeg, true_and, and_true, or_self, or_false, false_or, false_and, and_false, true_or, or_true, if_true, if_false, ne_eq, Classical.not_not, not_true_eq_false, not_false_eq_true, true_implies, false_implies, implies_true, Nat.reduceEqDiff, Nat.reduceAdd, Nat.reduceLeDiff, Nat.reduceSub, reduceCtorEq, reduceIte, b238_89]
          exact P
        · have go := next (fun w => ce (key.mpr w))
          rw [decide_eq_false ce, eb0]
          simp only [not_true_eq_false, false_imp_iff, true_imp_iff, true_and, and_true]
          exact go
    have go := loop mt.length 0 (Nat.zero_add _) (fun k hk => by omega)
    simp only [lv_args, z_v, z_lg, z_h, z_u, z_u1, z_c, z_ct, z_sk, sbne, lst1_d, ldel, lst2_d, ldel2, z_sw, z_rok, zi, eq_self, List.map_cons, List.map_nil, List.append_nil, List.nil_append, List.cons_append, Int32.reduceLT, Int32.reduceLE, Int32.reduceAdd, Int32.reduceSub, Int32.reduceMul, Int32.reduceToInt, Int32.reduceToNatClampNeg, Int.reduceLT, Int.reduceLE, Int.reduceNeg, true_and, and_true, or_self, or_false, false_or, false_and, and_false, true_or, or_true, if_true, if_false, ne_eq, Classical.not_not, not_true_eq_false, not_false_eq_true, true_implies, false_implies, implies_true, Nat.reduceEqDiff, Nat.reduceAdd, Nat.reduceLeDiff, Nat.reduceSub, reduceCtorEq, reduceIte, b238_46, z0]
    exact go
  -- words
  have wl : ∀ (r w f : Nat), w + r = 31 → 1 ≤ w → ((f = 0 ∧ ∀ v, v + 1 < w → sN t p e ≠ wS.getD v []) ∨ (1 ≤ f ∧ f < w ∧ sN t p e = wS.getD (f - 1) [])) → aWP d 238 5 [(4, .int (nI w)), (3, .int (nI f)), (0, .ref 59), (1, .int (nI p)), (2, .int (nI (e - p)))] [] h Q := by
    intro r
    induction r with
    | zero =>
      intro w f hw w1 hf
      have hw : w = 31 := hw
      subst hw
      simp only [lv_args, z_v, z_lg, z_h, z_u, z_u1, z_c, z_ct, z_sk, sbne, lst1_d, ldel, lst2_d, ldel2, z_sw, z_rok, zi, eq_self, List.map_cons, List.map_nil, List.append_nil, List.nil_append, List.cons_append, Int32.reduceLT, Int32.reduceLE, Int32.reduceAdd, Int32.reduceSub, Int32.reduceMul, Int32.reduceToInt, Int32.reduceToNatClampNeg, Int.reduceLT, Int.reduceLE, Int.reduceNeg, true_and, and_true, or_self, or_false, false_or, false_and, and_false, true_or, or_true, if_true, if_false, ne_eq, Classical.not_not, not_true_eq_false, not_false_eq_true, true_implies, false_implies, implies_true, Nat.reduceEqDiff, Nat.reduceAdd, Nat.reduceLeDiff, Nat.reduceSub, reduceCtorEq, reduceIte, b238_5, z31]
      simp (disch := omega) only [nI_leN]
      refine ⟨fun _ => ?_, fun c => absurd (Nat.le_refl _) c⟩
      simp only [lv_args, z_v, z_lg, z_h, z_u, z_u1, z_c, z_ct, z_sk, sbne, lst1_d, ldel, lst2_d, ldel2, z_sw, z_rok, zi, eq_self, List.map_cons, List.map_nil, List.append_nil, List.nil_append, List.cons_append, Int32.reduceLT, Int32.reduceLE, Int32.reduceAdd, Int32.reduceSub, Int32.reduceMul, Int32.reduceToInt, Int32.reduceToNatClampNeg, Int.reduceLT, Int.reduceLE, Int.reduceNeg, true_and, and_true, or_self, or_false, false_or, false_and, and_false, true_or, or_true, if_true, if_false, ne_eq, Classical.not_not, not_true_eq_false, not_false_eq_true, true_implies, false_implies, implies_true, Nat.reduceEqDiff, Nat.reduceAdd, Nat.reduceLeDiff, Nat.reduceSub, reduceCtorEq, reduceIte, b238_36]
      rw [z0, nI_leN (by omega) (by omega)]
      rcases hf with ⟨rfl, hf⟩ | ⟨f1, f2, hf⟩
      · refine ⟨fun _ => names (fun v hv => hf v (by omega)), fun c => absurd (Nat.le_refl _) c⟩
      · refine ⟨fun c => absurd c (by omega), fun _ => ?_⟩
        obtain ⟨u1, u2⟩ := wsD (v := f - 1) (by omega)
        have hK : K[f - 1]? = some (kyN (sN t p e)) := by rw [M7 (f - 1) (by omega), u2, hf]
        have hq2 := fun h' => hq h' K (f - 1) (Or.inl ⟨hK, rfl⟩)
        have ef : f = f - 1 + 1 := by omega
        rw [ef]
        simp only [lv_args, z_v, z_lg, z_h, z_u, z_u1, z_c, z_ct, z_sk, sbne, lst1_d, ldel, lst2_d, ldel2, z_sw, z_rok, zi, eq_self, List.map_cons, List.map_nil, List.append_nil, List.nil_append, List.cons_append, Int32.reduceLT, Int32.reduceLE, Int32.reduceAdd, Int32.reduceSub, Int32.reduceMul, Int32.reduceToInt, Int32.reduceToNatClampNeg, Int.reduceLT, Int.reduceLE, Int.reduceNeg, true_and, and_true, or_self, or_false, false_or, false_and, and_false, true_or, or_true, if_true, if_false, ne_eq, Classical.not_not, not_true_eq_false, not_false_eq_true, true_implies, false_implies, implies_true, Nat.reduceEqDiff, Nat.reduceAdd, Nat.reduceLeDiff, Nat.reduceSub, reduceCtorEq, reduceIte, b238_40, skM s, h00]
        refine sp_wordName m ky M0 hl (by omega) (by omega) (fun h' k' M' a9 aT => ?_)
        have s' := (sm_k k' m).1.1
        have P := hq2 h' k' M' a9 aT
        simp only [lv_args, z_v, z_lg, z_h, z_u, z_u1, z_c, z_ct, z_sk, sbne, lst1_d, ldel, lst2_d, ldel2, z_sw, z_rok, zi, eq_self, List.map_cons, List.map_nil, List.append_nil, List.nil_append, List.cons_append, Int32.reduceLT, Int32.reduceLE, Int32.reduceAdd, Int32.reduceSub, Int32.reduceMul, Int32.reduceToInt, Int32.reduceToNatClampNeg, Int.reduceLT, Int.reduceLE, Int.reduceNeg, true_and, and_true, or_self, or_false, false_or, false_and, and_false, true_or, or_true, if_true, if_false, ne_eq, Classical.not_not, not_true_eq_false, not_false_eq_true, true_implies, false_implies, implies_true, Nat.reduceEqDiff, Nat.reduceAdd, Nat.reduceLeDiff, Nat.reduceSub, reduceCtorEq, reduceIte, b238_40, skM s, skM s', Nat.reduceLT]
        exact P
    | succ r ih =>
      intro w f hw w1 hf
      simp only [lv_args, z_v, z_lg, z_h, z_u, z_u1, z_c, z_ct, z_sk, sbne, lst1_d, ldel, lst2_d, ldel2, z_sw, z_rok, zi, eq_self, List.map_cons, List.map_nil, List.append_nil, List.nil_append, List.cons_append, Int32.reduceLT, Int32.reduceLE, Int32.reduceAdd, Int32.reduceSub, Int32.reduceMul, Int32.reduceToInt, Int32.reduceToNatClampNeg, Int.reduceLT, Int.reduceLE, Int.reduceNeg, true_and, and_true, or_self, or_false, false_or, false_and, and_false, true_or, or_true, if_true, if_false, ne_eq, Classical.not_not, not_true_eq_false, not_false_eq_true, true_implies, false_implies, implies_true, Nat.reduceEqDiff, Nat.reduceAdd, Nat.reduceLeDiff, Nat.reduceSub, reduceCtorEq, reduceIte, b238_5, z31]
      simp (disch := omega) only [nI_leN]
      refine ⟨fun c => absurd c (by omega), fun _ => ?_⟩
      simp only [lv_args, z_v, z_lg, z_h, z_u, z_u1, z_c, z_ct, z_sk, sbne, lst1_d, ldel, lst2_d, ldel2, z_sw, z_rok, zi, eq_self, List.map_cons, List.map_nil, List.append_nil, List.nil_append, List.cons_append, Int32.reduceLT, Int32.reduceLE, Int32.reduceAdd, Int32.reduceSub, Int32.reduceMul, Int32.reduceToInt, Int32.reduceToNatClampNeg, Int.reduceLT, Int.reduceLE, Int.reduceNeg, true_and, and_true, or_self, or_false, false_or, false_and, and_false, true_or, or_true, if_true, if_false, ne_eq, Classical.not_not, not_true_eq_false, not_false_eq_true, true_implies, false_implies, implies_true, Nat.reduceEqDiff, Nat.reduceAdd, Nat.reduceLeDiff, Nat.reduceSub, reduceCtorEq, reduceIte, b238_12, skM s, srM s, h00]
      refine sp_isWord s m1.1.2 m1.2.2 (by omega) hen hdg w1 (by omega) (by omega) ?_
      simp only [lv_args, z_v, z_lg, z_h, z_u, z_u1, z_c, z_ct, z_sk, sbne, lst1_d, ldel, lst2_d, ldel2, z_sw, z_rok, zi, eq_self, List.map_cons, List.map_nil, List.append_nil, List.nil_append, List.cons_append, Int32.reduceLT, Int32.reduceLE, Int32.reduceAdd, Int32.reduceSub, Int32.reduceMul, Int32.reduceToInt, Int32.reduceToNatClampNeg, Int.reduceLT, Int.reduceLE, Int.reduceNeg, true_and, and_true, or_self, or_false, false_or, false_and, and_false, true_or, or_true, if_true, if_false, ne_eq, Classical.not_not, not_true_eq_false, not_false_eq_true, true_implies, false_implies, implies_true, Nat.reduceEqDiff, Nat.reduceAdd, Nat.reduceLeDiff, Nat.reduceSub, reduceCtorEq, reduceIte, b238_12, skM s, Nat.reduceLT]
      by_cases ce : sN t p e = wS.getD (w - 1) []
      · have go := ih (w + 1) w (by omega) (by omega) (Or.inr ⟨w1, by omega, ce⟩)
        rw [decide_eq_true ce, eb1]
        simp only [z10, not_false_eq_true, false_imp_iff, true_imp_iff, true_and, and_true]
        simp only [lv_args, z_v, z_lg, z_h, z_u, z_u1, z_c, z_ct, z_sk, sbne, lst1_d, ldel, lst2_d, ldel2, z_sw, z_rok, zi, eq_self, List.map_cons, List.map_nil, List.append_nil, List.nil_append, List.cons_append, Int32.reduceLT, Int32.reduceLE, Int32.reduceAdd, Int32.reduceSub, Int32.reduceMul, Int32.reduceToInt, Int32.reduceToNatClampNeg, Int.reduceLT, Int.reduceLE, Int.reduceNeg, true_and, and_true, or_self, or_false, false_or, false_and, and_false, true_or, or_true, if_true, if_false, ne_eq, Classical.not_not, not_true_eq_false, not_false_eq_true, true_implies, false_implies, implies_true, Nat.reduceEqDiff, Nat.reduceAdd, Nat.reduceLeDiff, Nat.reduceSub, reduceCtorEq, reduceIte, b238_27, b238_30, nI_s]
        exact go
      · have go := ih (w + 1) f (by omega) (by omega) (by
          rcases hf with ⟨rfl, hf⟩ | ⟨f1, f2, hf⟩
          · refine Or.inl ⟨rfl, fun v hv => ?_⟩
            by_cases cv : v + 1 = w
            · rw [show v = w - 1 by omega]; exact ce
            · exact hf v (by omega)
          · exact Or.inr ⟨f1, by omega, hf⟩)
        rw [decide_eq_false ce, eb0]
        simp only [not_true_eq_false, false_imp_iff, true_imp_iff, true_and, and_true]
        simp only [lv_args, z_v, z_lg, z_h, z_u, z_u1, z_c, z_ct, z_sk, sbne, lst1_d, ldel, lst2_d, ldel2, z_sw, z_rok, zi, eq_self, List.map_cons, List.map_nil, List.append_nil, List.nil_append, List.cons_append, Int32.reduceLT, Int32.reduceLE, Int32.reduceAdd, Int32.reduceSub, Int32.reduceMul, Int32.reduceToInt, Int32.reduceToNatClampNeg, Int.reduceLT, Int.reduceLE, Int.reduceNeg, true_and, and_true, or_self, or_false, false_or, false_and, and_false, true_or, or_true, if_true, if_false, ne_eq, Classical.not_not, not_true_eq_false, not_false_eq_true, true_implies, false_implies, implies_true, Nat.reduceEqDiff, Nat.reduceAdd, Nat.reduceLeDiff, Nat.reduceSub, reduceCtorEq, reduceIte, b238_30, nI_s]
        exact go
  have go := wl 30 1 0 (by omega) (by omega) (Or.inl ⟨rfl, fun v hv => by omega⟩)
  unfold aEv
  simp only [lv_args, z_v, z_lg, z_h, z_u, z_u1, z_c, z_ct, z_sk, sbne, lst1_d, ldel, lst2_d, ldel2, z_sw, z_rok, zi, eq_self, List.map_cons, List.map_nil, List.append_nil, List.nil_append, List.cons_append, Int32.reduceLT, Int32.reduceLE, Int32.reduceAdd, Int32.reduceSub, Int32.reduceMul, Int32.reduceToInt, Int32.reduceToNatClampNeg, Int.reduceLT, Int.reduceLE, Int.reduceNeg, true_and, and_true, or_self, or_false, false_or, false_and, and_false, true_or, or_true, if_true, if_false, ne_eq, Classical.not_not, not_true_eq_false, not_false_eq_true, true_implies, false_implies, implies_true, Nat.reduceEqDiff, Nat.reduceAdd, Nat.reduceLeDiff, Nat.reduceSub, reduceCtorEq, reduceIte, b238_0, z0, z1]
  exact go
end MNO
