/-! BUILD. The reference: nodes as they are read -/
def KYr (q : Nat) (h0 h : Hp) : Prop := (hK h = hK h0 ∧ hR h = hR h0 ∧ hN h = hN h0 ∧ hn h = hn h0 ∧ hu h = hu h0 ∧ hv h = hv h0 ∧ hL h = hL h0 ∧ hB h = hB h0) ∧ (∀ a i, ¬ ((a = 59 ∧ (i = 10 ∨ i = 11)) ∨ (a = q ∧ (i = 0 ∨ i = 2 ∨ i = 3))) → hI h a i = hI h0 a i) ∧ ∀ a, ¬ (q + 1 ≤ a ∧ a ≤ q + 7) → hA h a = hA h0 a
def KYt (q : Nat) (h0 h : Hp) : Prop := (hK h = hK h0 ∧ hR h = hR h0 ∧ hN h = hN h0 ∧ hn h = hn h0 ∧ hu h = hu h0 ∧ hv h = hv h0 ∧ hL h = hL h0 ∧ hB h = hB h0) ∧ (∀ a i, ¬ ((a = 59 ∧ (i = 10 ∨ i = 11 ∨ i = 13 ∨ i = 14)) ∨ (a = q ∧ (i = 0 ∨ i = 2 ∨ i = 3))) → hI h a i = hI h0 a i) ∧ ∀ a, ¬ (q + 1 ≤ a ∧ a ≤ q + 7) → hA h a = hA h0 a
/-- the value that the reference keeps with a token -/
def tvl (mt : List Nat) (x : TK) : Int32 := if x.1 = 8 then nI (mt.idxOf x.2.2.toInt.toNat) else if x.1 = 4 then nI (mt.idxOf 0) else x.2.2
def TKs (T0 : List TK) (mt : List Nat) (h : Hp) : Prop := T0.length ≤ 3001 ∧ (∀ x, x ∈ T0 → x.1 ≤ 8) ∧ ∀ (i : Nat) (x : TK), T0[i]? = some x → hA h 62 i = nI x.1 ∧ hA h 63 i = nI x.2.1 ∧ (2 ≤ x.1 → hA h 64 i = tvl mt x)
/-- what stays while the tokens are read -/
def RMt (T0 : List TK) (mt : List Nat) (q : Nat) (h0 : Hp) : Prop := (Sk h0 ∧ Rm h0) ∧ YY q h0 ∧ TKs T0 mt h0
def HX (N : NS) (mt : List Nat) (q : Nat) (PF PX : Nat → Prop) (h : Hp) : Prop := hI h q 0 = nI (N.1 - 1) ∧ ∀ n, 1 ≤ n → n < N.1 → hA h (q + 1) (n - 1) = rkd (nK N n) ∧ hA h (q + 2) (n - 1) = (if nK N n = 5 then nI (mt.idxOf (nCn N n)) else if nK N n = 1 then nC N n else 0) ∧ hA h (q + 3) (n - 1) = nP N n ∧ (¬ PF n → hA h (q + 4) (n - 1) = dnI (nF N n)) ∧ (¬ PX n → hA h (q + 5) (n - 1) = dnI (nX N n)) ∧ hA h (q + 6) (n - 1) = 0 ∧ hA h (q + 7) (n - 1) = 0
def RS (N : NS) (mt : List Nat) (q : Nat) (PF PX : Nat → Prop) (i lv : Nat) (h0 h : Hp) : Prop := KYr q h0 h ∧ HX N mt q PF PX h ∧ hI h 59 10 = nI i ∧ hI h 59 11 = nI lv
def pdF (e : SE) (PF : Nat → Prop) (n : Nat) : Prop := PF n ∨ (n = e.1 ∧ e.2.1 = none)
def pdX (e : SE) (PX : Nat → Prop) (n : Nat) : Prop := PX n ∨ e.2.1 = some n
section MRD
variable {h h' h0 : Hp} {Q : Option Value → Hp → Prop} {d n q g a b i lv : Nat} {N : NS} {mt : List Nat} {T0 : List TK} {PF PX : Nat → Prop} {e : SE}
theorem kt_of (k : KYr q h0 h) : KYt q h0 h := ⟨k.1, fun a i c => k.2.1 a i (by omega), k.2.2⟩
theorem kt_I {a i : Nat} {v : Int32} (k : KYt q h0 h) (ha : (a = 59 ∧ (i = 10 ∨ i = 11 ∨ i = 13 ∨ i = 14)) ∨ (a = q ∧ (i = 0 ∨ i = 2 ∨ i = 3))) : KYt q h0 (pI h a i v) := ⟨k.1, fun x j hx => (up2_ne (fun e => hx (by rw [e.1, e.2]; exact ha))).trans (k.2.1 x j hx), k.2.2⟩
theorem kr_I {a i : Nat} {v : Int32} (k : KYr q h0 h) (ha : (a = 59 ∧ (i = 10 ∨ i = 11)) ∨ (a = q ∧ (i = 0 ∨ i = 2 ∨ i = 3))) : KYr q h0 (pI h a i v) := ⟨k.1, fun x j hx => (up2_ne (fun e => hx (by rw [e.1, e.2]; exact ha))).trans (k.2.1 x j hx), k.2.2⟩
theorem kr_A {a : Nat} {f : Nat → Int32} (k : KYr q h0 h) (ha : q + 1 ≤ a ∧ a ≤ q + 7) : KYr q h0 (pA h a f) := ⟨k.1, k.2.1, fun x hx => (up1_ne (fun e => hx (by rw [e]; exact ha))).trans (k.2.2 x hx)⟩
theorem rm_t (k : KYt q h0 h) (m : RMt T0 mt q h0) : RMt T0 mt q h := by
  obtain ⟨⟨s, r⟩, yy, tk⟩ := m
  have hq : q = 66 ∨ q = 86 := yy.elim (fun w => Or.inl w.1) (fun w => Or.inr w.1)
  refine ⟨⟨(sk_same k.1.1 k.1.2.1 k.1.2.2.2.1 : Sk _ = Sk h0) ▸ s, rm_same k.1.2.2.1 k.1.2.2.2.1 k.1.2.2.2.2.1 r⟩, ?_, ?_⟩
  · unfold YY; rw [k.1.2.1]; exact yy
  · unfold TKs
    rw [k.2.2 62 (by omega), k.2.2 63 (by omega), k.2.2 64 (by omega)]
    exact tk
theorem rm_k (k : KYr q h0 h) (m : RMt T0 mt q h0) : RMt T0 mt q h := rm_t (kt_of k) m
theorem rm_q (m : RMt T0 mt q h) : q = 66 ∨ q = 86 := m.2.1.elim (fun w => Or.inl w.1) (fun w => Or.inr w.1)
theorem rm_R (m : RMt T0 mt q h) : hR h 59 18 = some q := by
  rcases m.2.1 with ⟨rfl, _, e⟩ | ⟨rfl, _, e⟩ <;> exact e
theorem rm_n (m : RMt T0 mt q h) : hN h 62 = 3002 ∧ hN h 63 = 3002 ∧ hN h 64 = 3002 := ⟨m.1.2.1.2 (62, 3002) (by decide), m.1.2.1.2 (63, 3002) (by decide), m.1.2.1.2 (64, 3002) (by decide)⟩
theorem hx_new {k v p : Int32} (H : HX N mt q PF PX h) (he : Eo N e) (h6 : nK N e.1 = 6) (h1 : 1 ≤ N.1) (ei : hI h' q 0 = nI N.1)
    (ea : hA h' (q + 1) = upd (hA h (q + 1)) (N.1 - 1) (rkd k) ∧ hA h' (q + 2) = upd (hA h (q + 2)) (N.1 - 1) (if k = 5 then nI (mt.idxOf v.toInt.toNat) else if k = 1 then v else 0) ∧ hA h' (q + 3) = upd (hA h (q + 3)) (N.1 - 1) p ∧ hA h' (q + 4) = upd (hA h (q + 4)) (N.1 - 1) (-1) ∧ hA h' (q + 5) = upd (hA h (q + 5)) (N.1 - 1) (-1) ∧ hA h' (q + 6) = upd (hA h (q + 6)) (N.1 - 1) 0 ∧ hA h' (q + 7) = upd (hA h (q + 7)) (N.1 - 1) 0) : HX (adN (nwN N k v p) e N.1) mt q (pdF e PF) (pdX e PX) h' := by
  obtain ⟨a1, a2, a3, a4, a5, a6, a7⟩ := ea
  obtain ⟨⟨d1, d2⟩, d3⟩ := dm_ad (N := N) (e := e) (k := k) (v := v) (p := p)
  obtain ⟨w1, w2, w3, w4, w5⟩ := nw_at (N := N) (e := e) (k := k) (v := v) (p := p) he.1 (fun x hx => (he.2.2 x hx).1)
  refine ⟨by rw [ei, d3]; rfl, fun n n1 n2 => ?_⟩
  rw [d3] at n2
  rw [a1, a2, a3, a4, a5, a6, a7]
  by_cases c : n = N.1
  · subst c
    unfold upd
    rw [if_pos rfl, if_pos rfl, if_pos rfl, if_pos rfl, if_pos rfl, if_pos rfl, if_pos rfl, w1, w3, w4, w5]
    refine ⟨rfl, ?_, rfl, fun _ => rfl, fun _ => rfl, rfl, rfl⟩
    unfold nCn
    rw [w2]
  · have c2 : n - 1 ≠ N.1 - 1 := by omega
    obtain ⟨b1, b2, b3, b4, b5⟩ := d2 n (by omega)
    obtain ⟨o1, o2, o3, o4, o5, o6, o7⟩ := H.2 n n1 (by omega)
    unfold upd
    rw [if_neg c2, if_neg c2, if_neg c2, if_neg c2, if_neg c2, if_neg c2, if_neg c2, b1, b2]
    refine ⟨o1, ?_, o3, fun hp => ?_, fun hp => ?_, o6, o7⟩
    · rw [o2]
      unfold nCn
      rw [b3]
      by_cases ce : n = e.1
      · subst ce
        rw [h6, if_neg (by decide), if_neg (by decide), if_neg (by decide), if_neg (by decide)]
      · rw [if_neg ce]
    · rw [b4, if_neg (fun w => hp (Or.inr w))]
      exact o4 (fun w => hp (Or.inl w))
    · rw [b5, if_neg (fun w => hp (Or.inr w))]
      exact o5 (fun w => hp (Or.inl w))
theorem hx_F {c : Nat} (hq66 : q = 66 ∨ q = 86) (H : HX N mt q (fun n => PF n ∨ n = a) PX h) (h1 : 1 ≤ a) (ha : nF N a = nI c) (hc : 1 ≤ c) (hc2 : c < 100000) : HX N mt q PF PX (pA h (q + 4) (upd (hA h (q + 4)) (a - 1) (nI (c - 1)))) := by
  have x4 : hA (pA h (q + 4) (upd (hA h (q + 4)) (a - 1) (nI (c - 1)))) (q + 4) = upd (hA h (q + 4)) (a - 1) (nI (c - 1)) := up1_eq
  have xx : ∀ j, j ≠ 4 → hA (pA h (q + 4) (upd (hA h (q + 4)) (a - 1) (nI (c - 1)))) (q + j) = hA h (q + j) := fun j hj => up1_ne (by omega)
  refine ⟨H.1, fun n n1 n2 => ?_⟩
  obtain ⟨o1, o2, o3, o4, o5, o6, o7⟩ := H.2 n n1 n2
  rw [xx 1 (by decide), xx 2 (by decide), xx 3 (by decide), xx 5 (by decide), xx 6 (by decide), xx 7 (by decide), x4]
  refine ⟨o1, o2, o3, fun hp => ?_, o5, o6, o7⟩
  unfold upd
  by_cases cn : n = a
  · rw [if_pos (by rw [cn]), cn, ha, dnI_nI hc (by omega)]
  · rw [if_neg (by omega)]
    exact o4 (fun w => w.elim hp cn)
theorem hx_X {c : Nat} (hq66 : q = 66 ∨ q = 86) (H : HX N mt q PF (fun n => PX n ∨ n = a) h) (h1 : 1 ≤ a) (ha : nX N a = nI c) (hc : 1 ≤ c) (hc2 : c < 100000) : HX N mt q PF PX (pA h (q + 5) (upd (hA h (q + 5)) (a - 1) (nI (c - 1)))) := by
  have x4 : hA (pA h (q + 5) (upd (hA h (q + 5)) (a - 1) (nI (c - 1)))) (q + 5) = upd (hA h (q + 5)) (a - 1) (nI (c - 1)) := up1_eq
  have xx : ∀ j, j ≠ 5 → hA (pA h (q + 5) (upd (hA h (q + 5)) (a - 1) (nI (c - 1)))) (q + j) = hA h (q + j) := fun j hj => up1_ne (by omega)
  refine ⟨H.1, fun n n1 n2 => ?_⟩
  obtain ⟨o1, o2, o3, o4, o5, o6, o7⟩ := H.2 n n1 n2
  rw [xx 1 (by decide), xx 2 (by decide), xx 3 (by decide), xx 4 (by decide), xx 6 (by decide), xx 7 (by decide), x4]
  refine ⟨o1, o2, o3, o4, fun hp => ?_, o6, o7⟩
  unfold upd
  by_cases cn : n = a
  · rw [if_pos (by rw [cn]), cn, ha, dnI_nI hc (by omega)]
  · rw [if_neg (by omega)]
    exact o5 (fun w => w.elim hp cn)
theorem hx_w {PF' PX' : Nat → Prop} (H : HX N mt q PF PX h) (h1 : ∀ n, 1 ≤ n → PF n → PF' n) (h2 : ∀ n, 1 ≤ n → PX n → PX' n) : HX N mt q PF' PX' h := ⟨H.1, fun n n1 n2 => by
  obtain ⟨o1, o2, o3, o4, o5, o6, o7⟩ := H.2 n n1 n2
  exact ⟨o1, o2, o3, fun w => o4 (fun w2 => w (h1 n n1 w2)), fun w => o5 (fun w2 => w (h2 n n1 w2)), o6, o7⟩⟩
/-- a node -/
theorem sp_node {k v p : Int32} {k' v' : Int32} (m : RMt T0 mt q h0) (S : RS N mt q PF PX i lv h0 h) (he : Eo N e) (h6 : nK N e.1 = 6) (h1 : 1 ≤ N.1) (hN2 : N.1 ≤ 6200) (ek : k' = rkd k) (ev : v' = if k = 5 then nI (mt.idxOf v.toInt.toNat) else if k = 1 then v else 0) (hq : ∀ h', RS (adN (nwN N k v p) e N.1) mt q (pdF e PF) (pdX e PX) i lv h0 h' → hI h' q 3 = hI h q 3 → hI h' q 2 = hI h q 2 → Q (some (.int (nI (N.1 - 1)))) h') : aEv d 241 [.ref 59, .int k', .int v', .int p] h Q := by
  obtain ⟨ky, H, e10, e11⟩ := S
  have m1 := rm_k ky m
  have s := m1.1.1
  have hq66 := rm_q m
  have R := rm_R m1
  have nn := nq m1.1.2 hq66
  have e0 := H.1
  have c2 : (N.1 - 1 < 6200) = True := eq_true (by omega)
  have en : nI (N.1 - 1) + 1 = nI N.1 := by rw [nI_s, show N.1 - 1 + 1 = N.1 by omega]
  rcases hq66 with rfl | rfl
  · have n1 : hN h 67 = 6200 := nn.1
    have n2 : hN h 68 = 6200 := nn.2.1
    have n3 : hN h 69 = 6200 := nn.2.2.1
    have n4 : hN h 70 = 6200 := nn.2.2.2.1
    have n5 : hN h 71 = 6200 := nn.2.2.2.2.1
    have n6 : hN h 72 = 6200 := nn.2.2.2.2.2.1
    have n7 : hN h 73 = 6200 := nn.2.2.2.2.2.2.1
    have kz : KYr 66 h0 (pA (pA (pA (pA (pA (pA (pA (pI h 66 0 (nI N.1)) 67 (upd (hA h 67) (N.1 - 1) k')) 68 (upd (hA h 68) (N.1 - 1) v')) 69 (upd (hA h 69) (N.1 - 1) p)) 70 (upd (hA h 70) (N.1 - 1) (-1))) 71 (upd (hA h 71) (N.1 - 1) (-1))) 72 (upd (hA h 72) (N.1 - 1) 0)) 73 (upd (hA h 73) (N.1 - 1) 0)) := kr_A (kr_A (kr_A (kr_A (kr_A (kr_A (kr_A (kr_I ky (by omega)) (by omega)) (by omega)) (by omega)) (by omega)) (by omega)) (by omega)) (by omega)
    have P := hq _ ⟨kz, hx_new (k := k) (v := v) (p := p) H he h6 h1 rfl ⟨by rw [← ek]; rfl, by rw [← ev]; rfl, rfl, rfl, rfl, rfl, rfl⟩, e10, e11⟩ rfl rfl
    unfold aEv
    simp only [lv_args, z_v, z_lg, z_h, z_u, z_u1, z_c, z_ct, z_sk, sbne, lst1_d, ldel, lst2_d, ldel2, z_sw, z_rok, zi, eq_self, List.map_cons, List.map_nil, List.append_nil, List.nil_append, List.cons_append, Int32.reduceLT, Int32.reduceLE, Int32.reduceAdd, Int32.reduceSub, Int32.reduceMul, Int32.reduceToInt, Int32.reduceToNatClampNeg, Int.reduceLT, Int.reduceLE, Int.reduceNeg, true_and, and_true, or_self, or_false, false_or, false_and, and_false, true_or, or_true, if_true, if_false, ne_eq, Classical.not_not, not_true_eq_false, not_false_eq_true, true_implies, false_implies, implies_true, Nat.reduceEqDiff, Nat.reduceAdd, Nat.reduceLeDiff, Nat.reduceSub, reduceCtorEq, reduceIte, b241_0, skM s, srM s, R, e0, en, n1, n2, n3, n4, n5, n6, n7]
    simp (disch := omega) only [nI_ti, nI_cl, le0N, ltNN, c2, true_and]
    try simp only [lv_args, z_v, z_lg, z_h, z_u, z_u1, z_c, z_ct, z_sk, sbne, lst1_d, ldel, lst2_d, ldel2, z_sw, z_rok, zi, eq_self, List.map_cons, List.map_nil, List.append_nil, List.nil_append, List.cons_append, Int32.reduceLT, Int32.reduceLE, Int32.reduceAdd, Int32.reduceSub, Int32.reduceMul, Int32.reduceToInt, Int32.reduceToNatClampNeg, Int.reduceLT, Int.reduceLE, Int.reduceNeg, true_and, and_true, or_self, or_false, false_or, false_and, and_false, true_or, or_true, if_true, if_false, ne_eq, Classical.not_not, not_true_eq_false, not_false_eq_true, true_implies, false_implies, implies_true, Nat.reduceEqDiff, Nat.reduceAdd, Nat.reduceLeDiff, Nat.reduceSub, reduceCtorEq, reduceIte, b241_0, skM s, srM s, R, e0, en, n1, n2, n3, n4, n5, n6, n7]
    try simp (disch := omega) only [nI_ti, nI_cl, le0N, ltNN, c2, true_and]
    try simp only [lv_args, z_v, z_lg, z_h, z_u, z_u1, z_c, z_ct, z_sk, sbne, lst1_d, ldel, lst2_d, ldel2, z_sw, z_rok, zi, eq_self, List.map_cons, List.map_nil, List.append_nil, List.nil_append, List.cons_append, Int32.reduceLT, Int32.reduceLE, Int32.reduceAdd, Int32.reduceSub, Int32.reduceMul, Int32.reduceToInt, Int32.reduceToNatClampNeg, Int.reduceLT, Int.reduceLE, Int.reduceNeg, true_and, and_true, or_self, or_false, false_or, false_and, and_false, true_or, or_true, if_true, if_false, ne_eq, Classical.not_not, not_true_eq_false, not_false_eq_true, true_implies, false_implies, implies_true, Nat.reduceEqDiff, Nat.reduceAdd, Nat.reduceLeDiff, Nat.reduceSub, reduceCtorEq, reduceIte, b241_0, skM s, srM s, R, e0, en, n1, n2, n3, n4, n5, n6, n7]
    exact P
  · have n1 : hN h 87 = 6200 := nn.1
    have n2 : hN h 88 = 6200 := nn.2.1
    have n3 : hN h 89 = 6200 := nn.2.2.1
    have n4 : hN h 90 = 6200 := nn.2.2.2.1
    have n5 : hN h 91 = 6200 := nn.2.2.2.2.1
    have n6 : hN h 92 = 6200 := nn.2.2.2.2.2.1
    have n7 : hN h 93 = 6200 := nn.2.2.2.2.2.2.1
    have kz : KYr 86 h0 (pA (pA (pA (pA (pA (pA (pA (pI h 86 0 (nI N.1)) 87 (upd (hA h 87) (N.1 - 1) k')) 88 (upd (hA h 88) (N.1 - 1) v')) 89 (upd (hA h 89) (N.1 - 1) p)) 90 (upd (hA h 90) (N.1 - 1) (-1))) 91 (upd (hA h 91) (N.1 - 1) (-1))) 92 (upd (hA h 92) (N.1 - 1) 0)) 93 (upd (hA h 93) (N.1 - 1) 0)) := kr_A (kr_A (kr_A (kr_A (kr_A (kr_A (kr_A (kr_I ky (by omega)) (by omega)) (by omega)) (by omega)) (by omega)) (by omega)) (by omega)) (by omega)
    have P := hq _ ⟨kz, hx_new (k := k) (v := v) (p := p) H he h6 h1 rfl ⟨by rw [← ek]; rfl, by rw [← ev]; rfl, rfl, rfl, rfl, rfl, rfl⟩, e10, e11⟩ rfl rfl
    unfold aEv
    simp only [lv_args, z_v, z_lg, z_h, z_u, z_u1, z_c, z_ct, z_sk, sbne, lst1_d, ldel, lst2_d, ldel2, z_sw, z_rok, zi, eq_self, List.map_cons, List.map_nil, List.append_nil, List.nil_append, List.cons_append, Int32.reduceLT, Int32.reduceLE, Int32.reduceAdd, Int32.reduceSub, Int32.reduceMul, Int32.reduceToInt, Int32.reduceToNatClampNeg, Int.reduceLT, Int.reduceLE, Int.reduceNeg, true_and, and_true, or_self, or_false, false_or, false_and, and_false, true_or, or_true, if_true, if_false, ne_eq, Classical.not_not, not_true_eq_false, not_false_eq_true, true_implies, false_implies, implies_true, Nat.reduceEqDiff, Nat.reduceAdd, Nat.reduceLeDiff, Nat.reduceSub, reduceCtorEq, reduceIte, b241_0, skM s, srM s, R, e0, en, n1, n2, n3, n4, n5, n6, n7]
    simp (disch := omega) only [nI_ti, nI_cl, le0N, ltNN, c2, true_and]
    try simp only [lv_args, z_v, z_lg, z_h, z_u, z_u1, z_c, z_ct, z_sk, sbne, lst1_d, ldel, lst2_d, ldel2, z_sw, z_rok, zi, eq_self, List.map_cons, List.map_nil, List.append_nil, List.nil_append, List.cons_append, Int32.reduceLT, Int32.reduceLE, Int32.reduceAdd, Int32.reduceSub, Int32.reduceMul, Int32.reduceToInt, Int32.reduceToNatClampNeg, Int.reduceLT, Int.reduceLE, Int.reduceNeg, true_and, and_true, or_self, or_false, false_or, false_and, and_false, true_or, or_true, if_true, if_false, ne_eq, Classical.not_not, not_true_eq_false, not_false_eq_true, true_implies, false_implies, implies_true, Nat.reduceEqDiff, Nat.reduceAdd, Nat.reduceLeDiff, Nat.reduceSub, reduceCtorEq, reduceIte, b241_0, skM s, srM s, R, e0, en, n1, n2, n3, n4, n5, n6, n7]
    try simp (disch := omega) only [nI_ti, nI_cl, le0N, ltNN, c2, true_and]
    try simp only [lv_args, z_v, z_lg, z_h, z_u, z_u1, z_c, z_ct, z_sk, sbne, lst1_d, ldel, lst2_d, ldel2, z_sw, z_rok, zi, eq_self, List.map_cons, List.map_nil, List.append_nil, List.nil_append, List.cons_append, Int32.reduceLT, Int32.reduceLE, Int32.reduceAdd, Int32.reduceSub, Int32.reduceMul, Int32.reduceToInt, Int32.reduceToNatClampNeg, Int.reduceLT, Int.reduceLE, Int.reduceNeg, true_and, and_true, or_self, or_false, false_or, false_and, and_false, true_or, or_true, if_true, if_false, ne_eq, Classical.not_not, not_true_eq_false, not_false_eq_true, true_implies, false_implies, implies_true, Nat.reduceEqDiff, Nat.reduceAdd, Nat.reduceLeDiff, Nat.reduceSub, reduceCtorEq, reduceIte, b241_0, skM s, srM s, R, e0, en, n1, n2, n3, n4, n5, n6, n7]
    exact P
/-- what is wrong is told -/
theorem sp_bad {k : Nat} {x : TK} (m : RMt T0 mt q h0) (S : RS N mt q PF PX i lv h0 h) (hx : T0[i]? = some x) (hq : ∀ h', KYt q h0 h' → hI h' 59 13 = nI k → hI h' 59 14 = nI x.2.1 → Q (some (.ref 65)) h') : aEv d 185 [.ref 59, .int (nI k)] h Q := by
  obtain ⟨ky, H, e10, e11⟩ := S
  have m1 := rm_k ky m
  have s := m1.1.1
  obtain ⟨t1, _, t2⟩ := m1.2.2
  obtain ⟨_, x2, _⟩ := t2 i x hx
  have hi := g_lt hx
  have n63 := (rm_n m1).2.1
  have c2 : (i < 3002) = True := eq_true (by omega)
  have P := hq (pI (pI h 59 13 (nI k)) 59 14 (nI x.2.1)) (kt_I (kt_I (kt_of ky) (by omega)) (by omega)) rfl rfl
  unfold aEv
  simp only [lv_args, z_v, z_lg, z_h, z_u, z_u1, z_c, z_ct, z_sk, sbne, lst1_d, ldel, lst2_d, ldel2, z_sw, z_rok, zi, eq_self, List.map_cons, List.map_nil, List.append_nil, List.nil_append, List.cons_append, Int32.reduceLT, Int32.reduceLE, Int32.reduceAdd, Int32.reduceSub, Int32.reduceMul, Int32.reduceToInt, Int32.reduceToNatClampNeg, Int.reduceLT, Int.reduceLE, Int.reduceNeg, true_and, and_true, or_self, or_false, false_or, false_and, and_false, true_or, or_true, if_true, if_false, ne_eq, Classical.not_not, not_true_eq_false, not_false_eq_true, true_implies, false_implies, implies_true, Nat.reduceEqDiff, Nat.reduceAdd, Nat.reduceLeDiff, Nat.reduceSub, reduceCtorEq, reduceIte, b185_0, skM s, srM s, e10, n63]
  simp (disch := omega) only [nI_ti, nI_cl, le0N, ltNN, c2, x2, true_and]
  try simp only [lv_args, z_v, z_lg, z_h, z_u, z_u1, z_c, z_ct, z_sk, sbne, lst1_d, ldel, lst2_d, ldel2, z_sw, z_rok, zi, eq_self, List.map_cons, List.map_nil, List.append_nil, List.nil_append, List.cons_append, Int32.reduceLT, Int32.reduceLE, Int32.reduceAdd, Int32.reduceSub, Int32.reduceMul, Int32.reduceToInt, Int32.reduceToNatClampNeg, Int.reduceLT, Int.reduceLE, Int.reduceNeg, true_and, and_true, or_self, or_false, false_or, false_and, and_false, true_or, or_true, if_true, if_false, ne_eq, Classical.not_not, not_true_eq_false, not_false_eq_true, true_implies, false_implies, implies_true, Nat.reduceEqDiff, Nat.reduceAdd, Nat.reduceLeDiff, Nat.reduceSub, reduceCtorEq, reduceIte, b185_0, skM s, srM s, e10, n63]
  exact P
/-- one level deeper -/
theorem sp_enters {x : TK} (m : RMt T0 mt q h0) (S : RS N mt q PF PX i lv h0 h) (hx : T0[i]? = some x) (hlv : lv ≤ 30) (hd : 1 < d) (hq1 : lv < 30 → ∀ h', RS N mt q PF PX (i + 1) (lv + 1) h0 h' → hI h' q 3 = hI h q 3 → hI h' q 2 = hI h q 2 → Q none h') (hq2 : 30 ≤ lv → ∀ h', KYt q h0 h' → hI h' 59 13 = nI 2 → hI h' 59 14 = nI x.2.1 → Q (some (.retAddr 65)) h') : aEv d 201 [.ref 59] h Q := by
  have h00 : 0 < d := by omega
  have S0 := S
  obtain ⟨ky, H, e10, e11⟩ := S
  have m1 := rm_k ky m
  have s := m1.1.1
  have hq66 := rm_q m
  have z30 : (30 : Int32) = nI 30 := rfl
  have z2 : (2 : Int32) = nI 2 := rfl
  unfold aEv
  simp only [lv_args, z_v, z_lg, z_h, z_u, z_u1, z_c, z_ct, z_sk, sbne, lst1_d, ldel, lst2_d, ldel2, z_sw, z_rok, zi, eq_self, List.map_cons, List.map_nil, List.append_nil, List.nil_append, List.cons_append, Int32.reduceLT, Int32.reduceLE, Int32.reduceAdd, Int32.reduceSub, Int32.reduceMul, Int32.reduceToInt, Int32.reduceToNatClampNeg, Int.reduceLT, Int.reduceLE, Int.reduceNeg, true_and, and_true, or_self, or_false, false_or, false_and, and_false, true_or, or_true, if_true, if_false, ne_eq, Classical.not_not, not_true_eq_false, not_false_eq_true, true_implies, false_implies, implies_true, Nat.reduceEqDiff, Nat.reduceAdd, Nat.reduceLeDiff, Nat.reduceSub, reduceCtorEq, reduceIte, b201_0, skM s, srM s, e11, z30]
  simp (disch := omega) only [nI_eqN]
  refine ⟨fun c => ?_, fun c => ?_⟩
  · have P := hq1 (by omega) (pI (pI h 59 11 (nI (lv + 1))) 59 10 (nI (i + 1))) ⟨kr_I (kr_I ky (by omega)) (by omega), ?_, rfl, rfl⟩ ?_ ?_
    · simp only [lv_args, z_v, z_lg, z_h, z_u, z_u1, z_c, z_ct, z_sk, sbne, lst1_d, ldel, lst2_d, ldel2, z_sw, z_rok, zi, eq_self, List.map_cons, List.map_nil, List.append_nil, List.nil_append, List.cons_append, Int32.reduceLT, Int32.reduceLE, Int32.reduceAdd, Int32.reduceSub, Int32.reduceMul, Int32.reduceToInt, Int32.reduceToNatClampNeg, Int.reduceLT, Int.reduceLE, Int.reduceNeg, true_and, and_true, or_self, or_false, false_or, false_and, and_false, true_or, or_true, if_true, if_false, ne_eq, Classical.not_not, not_true_eq_false, not_false_eq_true, true_implies, false_implies, implies_true, Nat.reduceEqDiff, Nat.reduceAdd, Nat.reduceLeDiff, Nat.reduceSub, reduceCtorEq, reduceIte, b201_15, skM s, e10, e11, nI_s]
      exact P
    · rcases hq66 with rfl | rfl <;> exact H
    · rcases hq66 with rfl | rfl <;> rfl
    · rcases hq66 with rfl | rfl <;> rfl
  · simp only [lv_args, z_v, z_lg, z_h, z_u, z_u1, z_c, z_ct, z_sk, sbne, lst1_d, ldel, lst2_d, ldel2, z_sw, z_rok, zi, eq_self, List.map_cons, List.map_nil, List.append_nil, List.nil_append, List.cons_append, Int32.reduceLT, Int32.reduceLE, Int32.reduceAdd, Int32.reduceSub, Int32.reduceMul, Int32.reduceToInt, Int32.reduceToNatClampNeg, Int.reduceLT, Int.reduceLE, Int.reduceNeg, true_and, and_true, or_self, or_false, false_or, false_and, and_false, true_or, or_true, if_true, if_false, ne_eq, Classical.not_not, not_true_eq_false, not_false_eq_true, true_implies, false_implies, implies_true, Nat.reduceEqDiff, Nat.reduceAdd, Nat.reduceLeDiff, Nat.reduceSub, reduceCtorEq, reduceIte, b201_9, skM s, h00, z2]
    refine sp_bad m S0 hx (fun h' k' a1 a2 => ?_)
    have s' := (rm_t k' m).1.1
    have P := hq2 (by omega) h' k' a1 a2
    simp only [lv_args, z_v, z_lg, z_h, z_u, z_u1, z_c, z_ct, z_sk, sbne, lst1_d, ldel, lst2_d, ldel2, z_sw, z_rok, zi, eq_self, List.map_cons, List.map_nil, List.append_nil, List.nil_append, List.cons_append, Int32.reduceLT, Int32.reduceLE, Int32.reduceAdd, Int32.reduceSub, Int32.reduceMul, Int32.reduceToInt, Int32.reduceToNatClampNeg, Int.reduceLT, Int.reduceLE, Int.reduceNeg, true_and, and_true, or_self, or_false, false_or, false_and, and_false, true_or, or_true, if_true, if_false, ne_eq, Classical.not_not, not_true_eq_false, not_false_eq_true, true_implies, false_implies, implies_true, Nat.reduceEqDiff, Nat.reduceAdd, Nat.reduceLeDiff, Nat.reduceSub, reduceCtorEq, reduceIte, b201_9, skM s, skM s', Nat.reduceLT]
    exact P
/-- tokens bound nodes -/
theorem rd_cnt : ∀ (f m : Nat) (T : List TK) (N : NS) (e : SE) (lv : Nat), WT T → (m = 9 ∨ m = 3 ∨ m = 0) → (rd f m T N e lv).1 = none → (rd f m T N e lv).2.2.1.1 + 2 * (rd f m T N e lv).2.1.length ≤ N.1 + 2 * T.length := by
  intro f
  induction f with
  | zero => intro m T N e lv _ _ h; cases h
  | succ f ih =>
    intro m T N e lv hT hm hn
    have ad : ∀ (N : NS) (k v p : Int32) (e : SE), (adN (nwN N k v p) e N.1).1 = N.1 + 1 := fun N k v p e => (dm_ad (N := N) (e := e)).2
    cases T with
    | nil => exact hT.elim
    | cons x T =>
      by_cases h9 : m = 9
      · subst h9
        by_cases c1 : x.1 ≤ 1 ∨ x.1 = 3
        · rw [rd_9b c1] at hn; cases hn
        · have ⟨w1, w2⟩ := wt_c hT (by omega)
          by_cases c2 : x.1 = 2
          · by_cases cl : lv < 30
            · rw [rd_92 c2 cl] at hn ⊢
              have := ih 3 T _ _ _ w2 (Or.inr (Or.inl rfl)) hn
              have e1 : (nLs x.2.1 N e).1 = N.1 + 1 := ad N _ _ _ _
              simp only [List.length_cons]
              omega
            · rw [rd_92f c2 (by omega)] at hn; cases hn
          · by_cases c4 : x.1 = 4
            · by_cases cl : lv < 30
              · rw [rd_94 c4 cl] at hn ⊢
                have := ih 9 T _ _ _ w2 (Or.inl rfl) hn
                have e1 : (nLs x.2.1 N e).1 = N.1 + 1 := ad N _ _ _ _
                have e2 : (nQu x.2.1 N e).1 = (nLs x.2.1 N e).1 + 1 := by
                  unfold nQu
                  rw [← e1]
                  exact ad _ _ _ _ _
                simp only [List.length_cons]
                omega
              · rw [rd_94f c4 (by omega)] at hn; cases hn
            · rw [rd_95 (by omega)]
              have e1 := ad N (tkK x.1) x.2.2 (nI x.2.1) e
              simp only [List.length_cons]
              omega
      · by_cases ce : x.1 = m
        · rw [rd_me h9 ce]
          simp only [List.length_cons]
          omega
        · by_cases c9 : (rd f 9 (x :: T) N e lv).1 = none
          · rw [rd_mn h9 ce c9] at hn ⊢
            have a := ih 9 (x :: T) N e lv hT (Or.inl rfl) c9
            obtain ⟨_, _, _, _, a5⟩ := rd_wt f 9 (x :: T) N e lv (Or.inl rfl) hT c9
            have b := ih m _ _ _ lv (a5 (by decide)) hm hn
            omega
          · rw [rd_mf h9 ce c9] at hn; exact absurd hn c9
end MRD
