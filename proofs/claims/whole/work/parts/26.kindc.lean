/-! rows as the generator uses them; rows that simp uses -/
section KNC
variable {d mi pc : Nat} {L : ALS} {st : List Value} {h : Hp} {Q : Option Value → Hp → Prop} {x : MI}
theorem k_ic (hx : mInfo mi = some x) {n : Int} {v : Int32} (hd : decode x.2.1 pc = .ok (.iconst n, 1)) (hv : Int32.ofInt n = v) : aWP d mi pc L st h Q ↔ aWP d mi (pc + 1) L (.int v :: st) h Q := by
  subst hv; exact k_cst hx hd rfl (fun _ => rfl) (fun _ => rfl)
theorem k_lc (hx : mInfo mi = some x) {n : Fin 2} {v : Int64} (hd : decode x.2.1 pc = .ok (.lconst n, 1)) (hv : Int64.ofNat (n : Nat) = v) : aWP d mi pc L st h Q ↔ aWP d mi (pc + 1) L (.long v :: st) h Q := by
  subst hv; exact k_cst hx hd rfl (fun _ => rfl) (fun _ => rfl)
theorem k_bi (hx : mInfo mi = some x) {n : Int} {v : Int32} (hd : decode x.2.1 pc = .ok (.bipush n, 2)) (hv : (Int8.ofInt n).toInt32 = v) : aWP d mi pc L st h Q ↔ aWP d mi (pc + 2) L (.int v :: st) h Q := by
  subst hv; exact k_psh hx hd rfl (fun _ => rfl) (fun _ => rfl)
theorem k_si (hx : mInfo mi = some x) {n : Int} {v : Int32} (hd : decode x.2.1 pc = .ok (.sipush n, 3)) (hv : (Int16.ofInt n).toInt32 = v) : aWP d mi pc L st h Q ↔ aWP d mi (pc + 3) L (.int v :: st) h Q := by
  subst hv; exact k_psh hx hd rfl (fun _ => rfl) (fun _ => rfl)
theorem k_ldc (hx : mInfo mi = some x) {idx : Nat} {v : Int32} (hd : decode x.2.1 pc = .ok (.ldc idx, 2)) (hv : cTab.lookup (x.2.2.2.2.1, idx) = some v) (hs : sTab.lookup (x.2.2.2.2.1, idx) = none) : aWP d mi pc L st h Q ↔ aWP d mi (pc + 2) L (.int v :: st) h Q :=
  k_psh hx hd rfl (fun st => by unfold sB; dsimp only; rw [hv]) (fun st => by unfold sX; dsimp only; rw [hs])
theorem k_ldw (hx : mInfo mi = some x) {idx : Nat} {v : Int32} (hd : decode x.2.1 pc = .ok (.ldc_w idx, 3)) (hv : cTab.lookup (x.2.2.2.2.1, idx) = some v) : aWP d mi pc L st h Q ↔ aWP d mi (pc + 3) L (.int v :: st) h Q :=
  k_psh hx hd rfl (fun st => by unfold sB; dsimp only; rw [hv]) (fun st => rfl)
theorem k_ld2 (hx : mInfo mi = some x) {idx : Nat} {v : Int64} (hd : decode x.2.1 pc = .ok (.ldc2_w idx, 3)) (hv : lTab.lookup (x.2.2.2.2.1, idx) = some v) : aWP d mi pc L st h Q ↔ aWP d mi (pc + 3) L (.long v :: st) h Q :=
  k_psh hx hd rfl (fun st => by unfold sB; dsimp only; rw [hv]) (fun st => rfl)
theorem k_callS (hx : mInfo mi = some x) {idx : Nat} (hd : decode x.2.1 pc = .ok (.invokestatic idx, 3)) {mj : Nat} (hm : mlk x.2.2.2.2.1 idx = some mj) {y : MI} (hy : mInfC mj = some y) (hck : y.2.2.2.2.2.2 = 1) (vs : List Value) (hlen : vs.length = y.2.2.2.2.2.1) {s0 r : List Value} (hs0 : s0 = vs.reverse ++ r) (ht : thrOK x.2.2.2.2.1 mj = false) : aWP d mi pc L s0 h Q ↔ (0 < d ∧ catS r ≤ 8 ∧ catS vs ≤ y.2.2.1) ∧ aEv (d - 1) mj vs h (aCt d mi (pc + 3) L r h Q) := by
  rw [k_call hx hd (fun _ => rfl) rfl rfl hm hy hck.symm vs hlen hs0 ht]
  constructor
  · rintro ⟨⟨a, b, c, e⟩, f⟩; exact ⟨⟨a, b, e⟩, f⟩
  · rintro ⟨⟨a, b, e⟩, f⟩; exact ⟨⟨a, b, Or.inl hck, e⟩, f⟩
theorem k_recvG {y : MI} {k ci : Nat} {P E : Prop} (As : List Value) (hlen : As.length + 1 = y.2.2.2.2.2.1) {s0 r : List Value} (hs0 : s0 = As.reverse ++ .ref k :: r) (hne : y.2.2.2.2.2.2 ≠ 1) (hci : ciO y.2.2.2.2.1 = ci) (hw : P ↔ (0 < d ∧ catS r ≤ 8 ∧ (y.2.2.2.2.2.2 = 1 ∨ rcv h y.2.2.2.2.1 s0[y.2.2.2.2.2.1 - 1]? = true) ∧ catS (.ref k :: As) ≤ y.2.2.1) ∧ E) : P ↔ (0 < d ∧ catS r ≤ 8 ∧ hK h k = ci ∧ catS (.ref k :: As) ≤ y.2.2.1) ∧ E := by
  have hg : s0[y.2.2.2.2.2.1 - 1]? = some (.ref k) := by
    rw [hs0, ← hlen, List.getElem?_append_right (by rw [List.length_reverse]; omega), List.length_reverse]
    simp
  rw [hw, hg]
  subst hci
  have hr : (rcv h y.2.2.2.2.1 (some (.ref k)) = true) ↔ hK h k = ciO y.2.2.2.2.1 := by
    show (hK h k == ciO y.2.2.2.2.1) = true ↔ _
    exact beq_iff_eq
  constructor
  · rintro ⟨⟨a, b, c, e⟩, f⟩; exact ⟨⟨a, b, hr.mp (c.resolve_left hne), e⟩, f⟩
  · rintro ⟨⟨a, b, c, e⟩, f⟩; exact ⟨⟨a, b, Or.inr (hr.mpr c), e⟩, f⟩
theorem k_callV (hx : mInfo mi = some x) {i : Instr} (hd : decode x.2.1 pc = .ok (i, 3)) (hsx : ∀ st, sX mi pc x.2.2.2.2.1 i st h = none) (hc : cls i = 7) {ck idx mj : Nat} (hk : sK i = some (ck, idx)) (hm : mlk x.2.2.2.2.1 idx = some mj) {y : MI} (hy : mInfC mj = some y) (hck : ck = y.2.2.2.2.2.2) (hne : y.2.2.2.2.2.2 ≠ 1) {k ci : Nat} (hci : ciO y.2.2.2.2.1 = ci) (As : List Value) (hlen : As.length + 1 = y.2.2.2.2.2.1) {s0 r : List Value} (hs0 : s0 = As.reverse ++ .ref k :: r) (ht : thrOK x.2.2.2.2.1 mj = false) : aWP d mi pc L s0 h Q ↔ (0 < d ∧ catS r ≤ 8 ∧ hK h k = ci ∧ catS (.ref k :: As) ≤ y.2.2.1) ∧ aEv (d - 1) mj (.ref k :: As) h (aCt d mi (pc + 3) L r h Q) :=
  k_recvG As hlen hs0 hne hci (k_call hx hd hsx hc hk hm hy hck (.ref k :: As) hlen (by rw [hs0]; simp) ht)
theorem k_callVX (hx : mInfo mi = some x) {i : Instr} (hd : decode x.2.1 pc = .ok (i, 3)) (hsx : ∀ st, sX mi pc x.2.2.2.2.1 i st h = none) (hc : cls i = 7) {ck idx mj : Nat} (hk : sK i = some (ck, idx)) (hm : mlk x.2.2.2.2.1 idx = some mj) {y : MI} (hy : mInfC mj = some y) (hck : ck = y.2.2.2.2.2.2) (hne : y.2.2.2.2.2.2 ≠ 1) {k ci : Nat} (hci : ciO y.2.2.2.2.1 = ci) (As : List Value) (hlen : As.length + 1 = y.2.2.2.2.2.1) {s0 r : List Value} (hs0 : s0 = As.reverse ++ .ref k :: r) (ht : thrOK x.2.2.2.2.1 mj = true) (hh : hnd mi pc = none) : aWP d mi pc L s0 h Q ↔ (0 < d ∧ catS r ≤ 8 ∧ hK h k = ci ∧ catS (.ref k :: As) ≤ y.2.2.1) ∧ aEv (d - 1) mj (.ref k :: As) h (aCx d mi (pc + 3) L r h Q) :=
  k_recvG As hlen hs0 hne hci (k_callX hx hd hsx hc hk hm hy hck (.ref k :: As) hlen (by rw [hs0]; simp) ht hh)
theorem k_callVH (hx : mInfo mi = some x) {i : Instr} (hd : decode x.2.1 pc = .ok (i, 3)) (hsx : ∀ st, sX mi pc x.2.2.2.2.1 i st h = none) (hc : cls i = 7) {ck idx mj : Nat} (hk : sK i = some (ck, idx)) (hm : mlk x.2.2.2.2.1 idx = some mj) {y : MI} (hy : mInfC mj = some y) (hck : ck = y.2.2.2.2.2.2) (hne : y.2.2.2.2.2.2 ≠ 1) {k ci : Nat} (hci : ciO y.2.2.2.2.1 = ci) (As : List Value) (hlen : As.length + 1 = y.2.2.2.2.2.1) {s0 r : List Value} (hs0 : s0 = As.reverse ++ .ref k :: r) (ht : thrOK x.2.2.2.2.1 mj = true) {t : Nat} (hh : hnd mi pc = some t) : aWP d mi pc L s0 h Q ↔ (0 < d ∧ catS r ≤ 8 ∧ hK h k = ci ∧ catS (.ref k :: As) ≤ y.2.2.1) ∧ aEv (d - 1) mj (.ref k :: As) h (aCh d mi (pc + 3) t L r h Q) :=
  k_recvG As hlen hs0 hne hci (k_callH hx hd hsx hc hk hm hy hck (.ref k :: As) hlen (by rw [hs0]; simp) ht hh)
end KNC
/-- simp: values, locals, words -/
theorem z_v : (∀ x : Int32, vIsI (.int x) = True) ∧ (∀ x : Int64, vIsL (.long x) = True) ∧ (∀ x : Nat, vIsR (.ref x) = True) ∧ (∀ x : Int32, vOI (.int x) = x) ∧ (∀ x : Int64, vOL (.long x) = x) ∧ (∀ x : Nat, vOR (.ref x) = x) ∧ (∀ x : Int32, (Value.int x).category = 1) ∧ (∀ x : Int64, (Value.long x).category = 2) ∧ (∀ x : Nat, (Value.ref x).category = 1) ∧ (∀ k : Nat, rfv (some k) = .ref k) ∧ (∀ (i : Nat) (v : Value) (t : ALS), lgv ((i, v) :: t) i = v) :=
  ⟨fun _ => rfl, fun _ => rfl, fun _ => rfl, fun _ => rfl, fun _ => rfl, fun _ => rfl, fun _ => rfl, fun _ => rfl, fun _ => rfl, fun _ => rfl, fun i v t => if_pos rfl⟩
theorem z_lg (i j : Nat) (v : Value) (t : ALS) (hn : (j = i) = False) : lgv ((j, v) :: t) i = lgv t i := if_neg (by rw [hn]; exact fun z => z)
def ldel (i : Nat) : ALS → ALS
  | [] => []
  | q :: t => if q.1 = i ∨ (q.1 + 1 = i ∧ q.2.category = 2) then ldel i t else q :: ldel i t
theorem lst1_d (L : ALS) (i : Nat) (v : Value) : lst1 L i v = (i, v) :: ldel i L := by
  unfold lst1
  congr 1
  induction L with
  | nil => rfl
  | cons q t ih =>
    rw [List.filter_cons, ih]
    show _ = (if q.1 = i ∨ (q.1 + 1 = i ∧ q.2.category = 2) then ldel i t else q :: ldel i t)
    by_cases h1 : q.1 = i
    · simp [h1]
    · by_cases h2 : q.1 + 1 = i
      · by_cases h3 : q.2.category = 2
        · simp [h1, h2, h3]
        · simp [h1, h2, h3]
      · simp [h1, h2]
def ldel2 (i : Nat) : ALS → ALS
  | [] => []
  | q :: t => if q.1 = i ∨ q.1 = i + 1 ∨ (q.1 + 1 = i ∧ q.2.category = 2) then ldel2 i t else q :: ldel2 i t
theorem lst2_d (L : ALS) (i : Nat) (v : Value) : lst2 L i v = (i, v) :: ldel2 i L := by
  unfold lst2
  congr 1
  induction L with
  | nil => rfl
  | cons q t ih =>
    rw [List.filter_cons, ih]
    show _ = (if q.1 = i ∨ q.1 = i + 1 ∨ (q.1 + 1 = i ∧ q.2.category = 2) then ldel2 i t else q :: ldel2 i t)
    by_cases h1 : q.1 = i
    · simp [h1]
    · by_cases h4 : q.1 = i + 1
      · simp [h4]
      · by_cases h2 : q.1 + 1 = i
        · by_cases h3 : q.2.category = 2
          · simp [h1, h2, h3]
          · simp [h1, h2, h3, h4]
        · simp [h1, h2, h4]
theorem z_c : catS [] = 0 ∧ (∀ (x : Int32) (t : List Value), catS (.int x :: t) = 1 + catS t) ∧ (∀ (x : Int64) (t : List Value), catS (.long x :: t) = 2 + catS t) ∧ (∀ (x : Nat) (t : List Value), catS (.ref x :: t) = 1 + catS t) :=
  ⟨rfl, fun x t => (ct_s x 0 0 t).1.2.1, fun x t => (ct_s 0 x 0 t).1.2.2.1, fun x t => (ct_s 0 0 x t).1.2.2.2.1⟩
theorem z_rok (h h1 : Hp) : rok h h1 [] = True ∧ (∀ (x : Int32) (t : List Value), rok h h1 (.int x :: t) = rok h h1 t) ∧ (∀ (x : Int64) (t : List Value), rok h h1 (.long x :: t) = rok h h1 t) ∧ (∀ (k : Nat) (t : List Value), rok h h1 (.ref k :: t) = ((hK h k < 13 ∨ SB ≤ k ∨ hv h1 k = hv h k) ∧ rok h h1 t)) :=
  ⟨(rok_s h h1 0 0 0 []).1, fun x t => (rok_s h h1 x 0 0 t).2.1, fun x t => (rok_s h h1 0 x 0 t).2.2.1, fun k t => (rok_s h h1 0 0 k t).2.2.2⟩
theorem z_ct (d mi pc : Nat) (L : ALS) (rest : List Value) (h h1 : Hp) (Q : Option Value → Hp → Prop) : (aCt d mi pc L rest h Q none h1 ↔ (hv h1 = hv h ∨ rok h h1 (L.map (fun q => q.2) ++ rest)) ∧ aWP d mi pc L rest h1 Q) ∧ (∀ x : Int32, aCt d mi pc L rest h Q (some (.int x)) h1 ↔ (hv h1 = hv h ∨ rok h h1 (L.map (fun q => q.2) ++ rest)) ∧ aWP d mi pc L (.int x :: rest) h1 Q) ∧ (∀ x : Int64, aCt d mi pc L rest h Q (some (.long x)) h1 ↔ (hv h1 = hv h ∨ rok h h1 (L.map (fun q => q.2) ++ rest)) ∧ aWP d mi pc L (.long x :: rest) h1 Q) ∧ (∀ x : Nat, aCt d mi pc L rest h Q (some (.ref x)) h1 ↔ (hv h1 = hv h ∨ rok h h1 (L.map (fun q => q.2) ++ rest)) ∧ aWP d mi pc L (.ref x :: rest) h1 Q) :=
  ⟨(aCt_s 0 0 0).1, fun x => (aCt_s x 0 0).2.1, fun x => (aCt_s 0 x 0).2.2.1, fun x => (aCt_s 0 0 x).2.2.2⟩
theorem z_h : (∀ (h : Hp) (k i : Nat) (x : Int32), hK (pI h k i x) = hK h ∧ hI (pI h k i x) = up2 (hI h) k i x ∧ hL (pI h k i x) = hL h ∧ hR (pI h k i x) = hR h ∧ hA (pI h k i x) = hA h ∧ hB (pI h k i x) = hB h ∧ hN (pI h k i x) = hN h ∧ hn (pI h k i x) = hn h ∧ hu (pI h k i x) = hu h ∧ hv (pI h k i x) = hv h) ∧
    (∀ (h : Hp) (k i : Nat) (y : Int64), hK (pL h k i y) = hK h ∧ hI (pL h k i y) = hI h ∧ hL (pL h k i y) = up2 (hL h) k i y ∧ hR (pL h k i y) = hR h ∧ hA (pL h k i y) = hA h ∧ hB (pL h k i y) = hB h ∧ hN (pL h k i y) = hN h ∧ hn (pL h k i y) = hn h ∧ hu (pL h k i y) = hu h ∧ hv (pL h k i y) = hv h) ∧
    (∀ (h : Hp) (k i : Nat) (r : Option Nat), hK (pR h k i r) = hK h ∧ hI (pR h k i r) = hI h ∧ hL (pR h k i r) = hL h ∧ hR (pR h k i r) = up2 (hR h) k i r ∧ hA (pR h k i r) = hA h ∧ hB (pR h k i r) = hB h ∧ hN (pR h k i r) = hN h ∧ hn (pR h k i r) = hn h ∧ hu (pR h k i r) = hu h ∧ hv (pR h k i r) = hv h) ∧
    (∀ (h : Hp) (k : Nat) (f : Nat → Int32), hK (pA h k f) = hK h ∧ hI (pA h k f) = hI h ∧ hL (pA h k f) = hL h ∧ hR (pA h k f) = hR h ∧ hA (pA h k f) = va_up (hA h) k f ∧ hB (pA h k f) = hB h ∧ hN (pA h k f) = hN h ∧ hn (pA h k f) = hn h ∧ hu (pA h k f) = hu h ∧ hv (pA h k f) = hv h) ∧
    (∀ (h : Hp) (k : Nat) (g : Nat → Int64), hK (pB h k g) = hK h ∧ hI (pB h k g) = hI h ∧ hL (pB h k g) = hL h ∧ hR (pB h k g) = hR h ∧ hA (pB h k g) = hA h ∧ hB (pB h k g) = va_up (hB h) k g ∧ hN (pB h k g) = hN h ∧ hn (pB h k g) = hn h ∧ hu (pB h k g) = hu h ∧ hv (pB h k g) = hv h) ∧
    (∀ (h : Hp) (kd len : Nat), hK (nA h kd len) = va_up (hK h) (hn h) kd ∧ hI (nA h kd len) = hI h ∧ hL (nA h kd len) = hL h ∧ hR (nA h kd len) = hR h ∧ hA (nA h kd len) = va_up (hA h) (hn h) (fun _ => 0) ∧ hB (nA h kd len) = va_up (hB h) (hn h) (fun _ => 0) ∧ hN (nA h kd len) = va_up (hN h) (hn h) len ∧ hn (nA h kd len) = hn h + 1 ∧ hu (nA h kd len) = hu h + len ∧ hv (nA h kd len) = hv h) ∧
    (∀ (h : Hp) (kd len : Nat), hK (nO h kd len) = va_up (hK h) (hn h) kd ∧ hI (nO h kd len) = va_up (hI h) (hn h) (fun _ => 0) ∧ hL (nO h kd len) = va_up (hL h) (hn h) (fun _ => 0) ∧ hR (nO h kd len) = va_up (hR h) (hn h) (fun _ => none) ∧ hA (nO h kd len) = hA h ∧ hB (nO h kd len) = hB h ∧ hN (nO h kd len) = hN h ∧ hn (nO h kd len) = hn h + 1 ∧ hu (nO h kd len) = hu h + len ∧ hv (nO h kd len) = hv h) ∧
    (∀ (h : Hp) (k i : Nat), hK (nS h k i) = hK h ∧ hI (nS h k i) = hI h ∧ hL (nS h k i) = hL h ∧ hR (nS h k i) = hR h ∧ hA (nS h k i) = swp (hA h) k i ∧ hB (nS h k i) = swp (hB h) k i ∧ hN (nS h k i) = swp (hN h) k i ∧ hn (nS h k i) = hn h ∧ hu (nS h k i) = hu h ∧ hv (nS h k i) = hvS (hv h) k i) :=
  ⟨fun _ _ _ _ => ⟨rfl, rfl, rfl, rfl, rfl, rfl, rfl, rfl, rfl, rfl⟩, fun _ _ _ _ => ⟨rfl, rfl, rfl, rfl, rfl, rfl, rfl, rfl, rfl, rfl⟩, fun _ _ _ _ => ⟨rfl, rfl, rfl, rfl, rfl, rfl, rfl, rfl, rfl, rfl⟩, fun _ _ _ => ⟨rfl, rfl, rfl, rfl, rfl, rfl, rfl, rfl, rfl, rfl⟩, fun _ _ _ => ⟨rfl, rfl, rfl, rfl, rfl, rfl, rfl, rfl, rfl, rfl⟩, fun _ _ _ => ⟨rfl, rfl, rfl, rfl, rfl, rfl, rfl, rfl, rfl, rfl⟩, fun _ _ _ => ⟨rfl, rfl, rfl, rfl, rfl, rfl, rfl, rfl, rfl, rfl⟩, fun _ _ _ => ⟨rfl, rfl, rfl, rfl, rfl, rfl, rfl, rfl, rfl, rfl⟩⟩
theorem z_u {α : Type} (f : Nat → Nat → α) (k i a b : Nat) (v : α) : up2 f k i v a b = if a = k ∧ b = i then v else f a b := rfl
theorem z_u1 {α : Type} (f : Nat → α) (k a : Nat) (v : α) : va_up f k v a = if a = k then v else f a := rfl
