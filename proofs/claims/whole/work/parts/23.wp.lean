-- values
def vIsI (v : Value) : Prop := match v with | .int _ => True | _ => False
def vIsL (v : Value) : Prop := match v with | .long _ => True | _ => False
def vIsR (v : Value) : Prop := match v with | .ref _ => True | _ => False
def vOI (v : Value) : Int32 := match v with | .int x => x | _ => 0
def vOL (v : Value) : Int64 := match v with | .long x => x | _ => 0
def vOR (v : Value) : Nat := match v with | .ref x => x | _ => 0
def lgv : ALS → Nat → Value
  | [], _ => .null
  | q :: t, i => if q.1 = i then q.2 else lgv t i
theorem lget_lgv {L : ALS} {i : Nat} (h : lgv L i ≠ .null) : lget L i = some (lgv L i) := by
  induction L with
  | nil => exact absurd rfl h
  | cons q t ih =>
    unfold lgv at h ⊢
    unfold lget
    split
    · rfl
    · rename_i hq
      rw [if_neg hq] at h
      exact ih h
/-- of values: the rows that simp uses -/
theorem av_s (x : Int32) (y : Int64) (k : Nat) : (vIsI (.int x) = True ∧ vIsL (.long y) = True ∧ vIsR (.ref k) = True) ∧ (vOI (.int x) = x ∧ vOL (.long y) = y ∧ vOR (.ref k) = k) := ⟨⟨rfl, rfl, rfl⟩, rfl, rfl, rfl⟩
section AWPS
variable {d mi pc : Nat} {L : ALS} {st : List Value} {h : Hp} {Q : Option Value → Hp → Prop} {x : MI}
theorem wp_A (hx : mInfo mi = some x) {i : Instr} (hd : decode x.2.1 pc = .ok (i, 1)) (hc : cls i = 1) (hsx : sX mi pc x.2.2.2.2.1 i st h = none) : aWP d mi pc L st h Q ↔ ∃ st', sA i st = some st' ∧ aWP d mi (pc + 1) L st' h Q := by
  constructor
  · rintro ⟨n, r, h', h1, h2⟩
    cases n with
    | zero => cases h1
    | succ n =>
      rw [rn_e1 hx hd hsx hc] at h1
      cases hs : sA i st with
      | none => rw [hs] at h1; cases h1
      | some st' =>
        rw [hs] at h1
        dsimp only at h1
        rw [if_pos rfl] at h1
        exact ⟨st', rfl, n, r, h', h1, h2⟩
  · rintro ⟨st', hs, n, r, h', h1, h2⟩
    refine ⟨n + 1, r, h', ?_, h2⟩
    rw [rn_e1 hx hd hsx hc, hs]
    dsimp only
    rw [if_pos rfl]
    exact h1
theorem wp_B (hx : mInfo mi = some x) {i : Instr} {len : Nat} (hd : decode x.2.1 pc = .ok (i, len)) (hc : cls i = 2) (hsx : sX mi pc x.2.2.2.2.1 i st h = none) : aWP d mi pc L st h Q ↔ ∃ L' st', sB x.2.2.2.2.1 x.2.2.1 i L st = some (len, L', st') ∧ aWP d mi (pc + len) L' st' h Q := by
  constructor
  · rintro ⟨n, r, h', h1, h2⟩
    cases n with
    | zero => cases h1
    | succ n =>
      rw [rn_e2 hx hd hsx hc] at h1
      cases hs : sB x.2.2.2.2.1 x.2.2.1 i L st with
      | none => rw [hs] at h1; cases h1
      | some z =>
        obtain ⟨ln, L', st'⟩ := z
        rw [hs] at h1
        dsimp only at h1
        split at h1
        · rename_i he
          subst he
          exact ⟨L', st', rfl, n, r, h', h1, h2⟩
        · cases h1
  · rintro ⟨L', st', hs, n, r, h', h1, h2⟩
    refine ⟨n + 1, r, h', ?_, h2⟩
    rw [rn_e2 hx hd hsx hc, hs]
    dsimp only
    rw [if_pos rfl]
    exact h1
theorem wp_J (hx : mInfo mi = some x) {i : Instr} (hd : decode x.2.1 pc = .ok (i, 3)) (hc : cls i = 3) (hsx : sX mi pc x.2.2.2.2.1 i st h = none) {c : Prop} {off : Int} {st' : List Value} (hs : sJ i st = some (c, off, st')) (ho : 0 ≤ (pc : Int) + off) {t : Nat} (ht : tgt pc off = t) : aWP d mi pc L st h Q ↔ (c → aWP d mi t L st' h Q) ∧ (¬ c → aWP d mi (pc + 3) L st' h Q) := by
  subst ht
  constructor
  · rintro ⟨n, r, h', h1, h2⟩
    cases n with
    | zero => cases h1
    | succ n =>
      rw [rn_e3 hx hd hsx hc, hs] at h1
      dsimp only at h1
      rw [if_pos ⟨rfl, ho⟩] at h1
      exact ⟨fun hcc => by rw [if_pos hcc] at h1; exact ⟨n, r, h', h1, h2⟩, fun hcc => by rw [if_neg hcc] at h1; exact ⟨n, r, h', h1, h2⟩⟩
  · rintro ⟨a, b⟩
    rcases Classical.propDecidable c with hcc | hcc
    · obtain ⟨n, r, h', h1, h2⟩ := b hcc
      refine ⟨n + 1, r, h', ?_, h2⟩
      rw [rn_e3 hx hd hsx hc, hs]
      dsimp only
      rw [if_pos ⟨rfl, ho⟩, if_neg hcc]
      exact h1
    · obtain ⟨n, r, h', h1, h2⟩ := a hcc
      refine ⟨n + 1, r, h', ?_, h2⟩
      rw [rn_e3 hx hd hsx hc, hs]
      dsimp only
      rw [if_pos ⟨rfl, ho⟩, if_pos hcc]
      exact h1
theorem wp_S (hx : mInfo mi = some x) {i : Instr} {len : Nat} (hd : decode x.2.1 pc = .ok (i, len)) (hc : cls i = 4) (hsx : sX mi pc x.2.2.2.2.1 i st h = none) {off : Int} {st' : List Value} (hs : sS i st = some (off, st')) (ho : 0 ≤ (pc : Int) + off) : aWP d mi pc L st h Q ↔ aWP d mi (tgt pc off) L st' h Q := by
  constructor
  · rintro ⟨n, r, h', h1, h2⟩
    cases n with
    | zero => cases h1
    | succ n =>
      rw [rn_e4 hx hd hsx hc, hs] at h1
      dsimp only at h1
      rw [if_pos ho] at h1
      exact ⟨n, r, h', h1, h2⟩
  · rintro ⟨n, r, h', h1, h2⟩
    refine ⟨n + 1, r, h', ?_, h2⟩
    rw [rn_e4 hx hd hsx hc, hs]
    dsimp only
    rw [if_pos ho]
    exact h1
theorem wp_H (hx : mInfo mi = some x) {i : Instr} {len : Nat} (hd : decode x.2.1 pc = .ok (i, len)) (hc : cls i = 5) (hsx : sX mi pc x.2.2.2.2.1 i st h = none) : aWP d mi pc L st h Q ↔ ∃ st' h1, sH x.2.2.2.2.1 i st h = some (len, st', h1) ∧ aWP d mi (pc + len) L st' h1 Q := by
  constructor
  · rintro ⟨n, r, h', h1, h2⟩
    cases n with
    | zero => cases h1
    | succ n =>
      rw [rn_e5 hx hd hsx hc] at h1
      cases hs : sH x.2.2.2.2.1 i st h with
      | none => rw [hs] at h1; cases h1
      | some z =>
        obtain ⟨ln, st', h3⟩ := z
        rw [hs] at h1
        dsimp only at h1
        split at h1
        · rename_i he
          subst he
          exact ⟨st', h3, rfl, n, r, h', h1, h2⟩
        · cases h1
  · rintro ⟨st', h3, hs, n, r, h', h1, h2⟩
    refine ⟨n + 1, r, h', ?_, h2⟩
    rw [rn_e5 hx hd hsx hc, hs]
    dsimp only
    rw [if_pos rfl]
    exact h1
theorem wp_P (hx : mInfo mi = some x) {idx : Nat} (hd : decode x.2.1 pc = .ok (.putfield idx, 3)) : aWP d mi pc L st h Q ↔ ∃ L' st' h1, sP x.2.2.2.2.1 x.2.2.2.2.2.2 idx L st h = some (L', st', h1) ∧ aWP d mi (pc + 3) L' st' h1 Q := by
  constructor
  · rintro ⟨n, r, h', h1, h2⟩
    cases n with
    | zero => cases h1
    | succ n =>
      rw [rn_e6 hx hd rfl rfl] at h1
      dsimp only at h1
      cases hs : sP x.2.2.2.2.1 x.2.2.2.2.2.2 idx L st h with
      | none => rw [hs] at h1; cases h1
      | some z =>
        obtain ⟨L', st', h3⟩ := z
        rw [hs] at h1
        dsimp only at h1
        rw [if_pos rfl] at h1
        exact ⟨L', st', h3, rfl, n, r, h', h1, h2⟩
  · rintro ⟨L', st', h3, hs, n, r, h', h1, h2⟩
    refine ⟨n + 1, r, h', ?_, h2⟩
    rw [rn_e6 hx hd rfl rfl]
    dsimp only
    rw [hs]
    dsimp only
    rw [if_pos rfl]
    exact h1
theorem wp_R (hx : mInfo mi = some x) {i : Instr} (hd : decode x.2.1 pc = .ok (i, 1)) (hc : cls i = 0) (hsx : sX mi pc x.2.2.2.2.1 i st h = none) : aWP d mi pc L st h Q ↔ ∃ r, sR2 x.2.2.2.1 i st = some r ∧ Q r h := by
  constructor
  · rintro ⟨n, r, h', h1, h2⟩
    cases n with
    | zero => cases h1
    | succ n =>
      rw [rn_e0 hx hd hsx hc] at h1
      cases hs : sR2 x.2.2.2.1 i st with
      | none => rw [hs] at h1; cases h1
      | some r1 =>
        rw [hs] at h1
        dsimp only at h1
        rw [if_pos rfl] at h1
        cases h1
        exact ⟨r, rfl, h2⟩
  · rintro ⟨r, hs, h2⟩
    refine ⟨1, r, h, ?_, h2⟩
    rw [rn_e0 hx hd hsx hc, hs]
    dsimp only
    rw [if_pos rfl]
theorem wp_X (hx : mInfo mi = some x) {i : Instr} {len ln : Nat} (hd : decode x.2.1 pc = .ok (i, len)) {st' : List Value} {h1 : Hp} (hsx : sX mi pc x.2.2.2.2.1 i st h = some (ln, st', h1)) (hl : len = ln ∨ ln = 9) : aWP d mi pc L st h Q ↔ 8 < d ∧ aWP d mi (pc + ln) L st' h1 Q := by
  constructor
  · rintro ⟨n, r, h', h1, h2⟩
    cases n with
    | zero => cases h1
    | succ n =>
      rw [rn_eX hx hd hsx] at h1
      split at h1
      · rename_i he
        exact ⟨he.2, n, r, h', h1, h2⟩
      · cases h1
  · rintro ⟨h0, n, r, h', h1, h2⟩
    refine ⟨n + 1, r, h', ?_, h2⟩
    rw [rn_eX hx hd hsx, if_pos ⟨hl, h0⟩]
    exact h1
/-- what is left behind a call -/
def aCt (d mi pc : Nat) (L : ALS) (rest : List Value) (h : Hp) (Q : Option Value → Hp → Prop) (r : Option Value) (h1 : Hp) : Prop :=
  isThr r = false ∧ (hv h1 = hv h ∨ rok h h1 (L.map (fun q => q.2) ++ rest)) ∧ aWP d mi pc L (r.toList ++ rest) h1 Q
/-- the same, of a call that may throw -/
def aCx (d mi pc : Nat) (L : ALS) (rest : List Value) (h : Hp) (Q : Option Value → Hp → Prop) (r : Option Value) (h1 : Hp) : Prop :=
  (isThr r = true ∧ Q r h1) ∨ aCt d mi pc L rest h Q r h1
/-- the same, where what is thrown is caught -/
def aCh (d mi pc t : Nat) (L : ALS) (rest : List Value) (h : Hp) (Q : Option Value → Hp → Prop) (r : Option Value) (h1 : Hp) : Prop :=
  (isThr r = true ∧ (hv h1 = hv h ∨ rok h h1 (L.map (fun q => q.2))) ∧ aWP d mi t (lno L 2) [] h1 Q) ∨ aCt d mi pc L rest h Q r h1
theorem wp_CG (hx : mInfo mi = some x) {i : Instr} (hd : decode x.2.1 pc = .ok (i, 3)) (hsx : sX mi pc x.2.2.2.2.1 i st h = none) (hc : cls i = 7) {ck idx mj : Nat} (hk : sK i = some (ck, idx)) (hm : mlk x.2.2.2.2.1 idx = some mj) {y : MI} (hy : mInfC mj = some y) : aWP d mi pc L st h Q ↔ cOK h ck d y st ∧ aEv (d - 1) mj (st.take y.2.2.2.2.2.1).reverse h (fun r h1 => (isThr r = true ∧ thrOK x.2.2.2.2.1 mj = true ∧ (match hnd mi pc with | none => Q r h1 | some t => (hv h1 = hv h ∨ rok h h1 (L.map (fun q => q.2))) ∧ aWP d mi t (lno L 2) [] h1 Q)) ∨ (isThr r = false ∧ (hv h1 = hv h ∨ rok h h1 (L.map (fun q => q.2) ++ (st.drop y.2.2.2.2.2.1))) ∧ aWP d mi (pc + 3) L (r.toList ++ (st.drop y.2.2.2.2.2.1)) h1 Q)) := by
  have n0 : mj ≠ 1000 := fun e => by have := (mInfC_s hy).1; omega
  have n1 : mj ≠ 1001 := fun e => by have := (mInfC_s hy).1; omega
  constructor
  · rintro ⟨n, r, h', h1, h2⟩
    cases n with
    | zero => cases h1
    | succ n =>
      rw [rn_e7 hx hd hsx hc, hk] at h1
      dsimp only at h1
      rw [if_pos rfl, hm] at h1
      dsimp only at h1
      rw [if_neg n0, if_neg n1, hy] at h1
      dsimp only at h1
      rcases Classical.propDecidable (cOK h ck d y st) with hcc | hcc
      · rw [if_neg hcc] at h1; cases h1
      · rw [if_pos hcc] at h1
        refine ⟨hcc, ?_⟩
        cases hcal : rn n (d - 1) mj 0 (lv_args 0 (st.take y.2.2.2.2.2.1).reverse) [] h with
        | none => rw [hcal] at h1; cases h1
        | some z =>
          obtain ⟨r1, h3⟩ := z
          rw [hcal] at h1
          dsimp only at h1
          refine ⟨n, r1, h3, hcal, ?_⟩
          split at h1
          · rename_i ht
            split at h1
            · rename_i hto
              refine Or.inl ⟨ht, hto, ?_⟩
              cases hq : hnd mi pc with
              | none => rw [hq] at h1; cases h1; exact h2
              | some t =>
                rw [hq] at h1
                dsimp only at h1 ⊢
                rcases Classical.propDecidable (hv h3 = hv h ∨ rok h h3 (L.map (fun q => q.2))) with hc2 | hc2
                · rw [if_neg hc2] at h1; cases h1
                · rw [if_pos hc2] at h1
                  exact ⟨hc2, n, r, h', h1, h2⟩
            · cases h1
          · rename_i ht
            rcases Classical.propDecidable (hv h3 = hv h ∨ rok h h3 (L.map (fun q => q.2) ++ st.drop y.2.2.2.2.2.1)) with hc2 | hc2
            · rw [if_neg hc2] at h1; cases h1
            · rw [if_pos hc2] at h1
              exact Or.inr ⟨by simpa using ht, hc2, n, r, h', h1, h2⟩
  · rintro ⟨hcc, n, r1, h3, hcal, hcon⟩
    rcases hcon with ⟨ht, hto, hq⟩ | ⟨ht, hc2, n2, r, h', h1, h2⟩
    · cases hqq : hnd mi pc with
      | none =>
        rw [hqq] at hq
        refine ⟨n + 1, r1, h3, ?_, hq⟩
        rw [rn_e7 hx hd hsx hc, hk]
        dsimp only
        rw [if_pos rfl, hm]
        dsimp only
        rw [if_neg n0, if_neg n1, hy]
        dsimp only
        rw [if_pos hcc, hcal]
        dsimp only
        rw [if_pos ht, if_pos hto, hqq]
      | some t =>
        rw [hqq] at hq
        obtain ⟨hc2, n2, r, h', h1, h2⟩ := hq
        refine ⟨max n n2 + 1, r, h', ?_, h2⟩
        rw [rn_e7 hx hd hsx hc, hk]
        dsimp only
        rw [if_pos rfl, hm]
        dsimp only
        rw [if_neg n0, if_neg n1, hy]
        dsimp only
        rw [if_pos hcc, rn_fuelLe hcal (Nat.le_max_left n n2)]
        dsimp only
        rw [if_pos ht, if_pos hto, hqq]
        dsimp only
        rw [if_pos hc2]
        exact rn_fuelLe h1 (Nat.le_max_right n n2)
    · refine ⟨max n n2 + 1, r, h', ?_, h2⟩
      rw [rn_e7 hx hd hsx hc, hk]
      dsimp only
      rw [if_pos rfl, hm]
      dsimp only
      rw [if_neg n0, if_neg n1, hy]
      dsimp only
      rw [if_pos hcc, rn_fuelLe hcal (Nat.le_max_left n n2)]
      dsimp only
      rw [if_neg (by rw [ht]; decide), if_pos hc2]
      exact rn_fuelLe h1 (Nat.le_max_right n n2)
theorem aEv_iff {d mi : Nat} {vs : List Value} {h : Hp} {Q Q' : Option Value → Hp → Prop} (hq : ∀ r h', Q r h' ↔ Q' r h') : aEv d mi vs h Q ↔ aEv d mi vs h Q' := ⟨fun z => aEv_mono z (fun r h' q => (hq r h').mp q), fun z => aEv_mono z (fun r h' q => (hq r h').mpr q)⟩
theorem wp_C (hx : mInfo mi = some x) {i : Instr} (hd : decode x.2.1 pc = .ok (i, 3)) (hsx : sX mi pc x.2.2.2.2.1 i st h = none) (hc : cls i = 7) {ck idx mj : Nat} (hk : sK i = some (ck, idx)) (hm : mlk x.2.2.2.2.1 idx = some mj) {y : MI} (hy : mInfC mj = some y) (ht : thrOK x.2.2.2.2.1 mj = false) : aWP d mi pc L st h Q ↔ cOK h ck d y st ∧ aEv (d - 1) mj (st.take y.2.2.2.2.2.1).reverse h (aCt d mi (pc + 3) L (st.drop y.2.2.2.2.2.1) h Q) := by
  rw [wp_CG hx hd hsx hc hk hm hy]
  refine and_congr_right fun _ => aEv_iff fun r h' => ⟨fun q => q.elim (fun z => by rw [ht] at z; cases z.2.1) (fun z => z), fun q => Or.inr q⟩
theorem wp_CX (hx : mInfo mi = some x) {i : Instr} (hd : decode x.2.1 pc = .ok (i, 3)) (hsx : sX mi pc x.2.2.2.2.1 i st h = none) (hc : cls i = 7) {ck idx mj : Nat} (hk : sK i = some (ck, idx)) (hm : mlk x.2.2.2.2.1 idx = some mj) {y : MI} (hy : mInfC mj = some y) (ht : thrOK x.2.2.2.2.1 mj = true) (hh : hnd mi pc = none) : aWP d mi pc L st h Q ↔ cOK h ck d y st ∧ aEv (d - 1) mj (st.take y.2.2.2.2.2.1).reverse h (aCx d mi (pc + 3) L (st.drop y.2.2.2.2.2.1) h Q) := by
  rw [wp_CG hx hd hsx hc hk hm hy, hh]
  refine and_congr_right fun _ => aEv_iff fun r h' => ⟨fun q => q.elim (fun z => Or.inl ⟨z.1, z.2.2⟩) (fun z => Or.inr z), fun q => q.elim (fun z => Or.inl ⟨z.1, ht, z.2⟩) (fun z => Or.inr z)⟩
theorem wp_CH (hx : mInfo mi = some x) {i : Instr} (hd : decode x.2.1 pc = .ok (i, 3)) (hsx : sX mi pc x.2.2.2.2.1 i st h = none) (hc : cls i = 7) {ck idx mj : Nat} (hk : sK i = some (ck, idx)) (hm : mlk x.2.2.2.2.1 idx = some mj) {y : MI} (hy : mInfC mj = some y) (ht : thrOK x.2.2.2.2.1 mj = true) {t : Nat} (hh : hnd mi pc = some t) : aWP d mi pc L st h Q ↔ cOK h ck d y st ∧ aEv (d - 1) mj (st.take y.2.2.2.2.2.1).reverse h (aCh d mi (pc + 3) t L (st.drop y.2.2.2.2.2.1) h Q) := by
  rw [wp_CG hx hd hsx hc hk hm hy, hh]
  refine and_congr_right fun _ => aEv_iff fun r h' => ⟨fun q => q.elim (fun z => Or.inl ⟨z.1, z.2.2⟩) (fun z => Or.inr z), fun q => q.elim (fun z => Or.inl ⟨z.1, ht, z.2⟩) (fun z => Or.inr z)⟩
end AWPS
