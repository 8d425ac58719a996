/-! EVALUATION: the run, a row for each class of instruction; more fuel does no harm -/
section RNE
variable {n d mi pc : Nat} {L : ALS} {st : List Value} {h : Hp} {x : MI} {i : Instr} {len : Nat}
theorem rn_eN (hx : mInfo mi = none) : rn (n + 1) d mi pc L st h = none := by
  unfold rn; simp only [hx]
theorem rn_eE (hx : mInfo mi = some x) {er} (hd : decode x.2.1 pc = .error er) : rn (n + 1) d mi pc L st h = none := by
  unfold rn; simp only [hx, hd]
theorem rn_eX (hx : mInfo mi = some x) (hd : decode x.2.1 pc = .ok (i, len)) {ln : Nat} {st1 : List Value} {h1 : Hp} (hs : sX mi pc x.2.2.2.2.1 i st h = some (ln, st1, h1)) : rn (n + 1) d mi pc L st h = if (len = ln ∨ ln = 9) ∧ 8 < d then rn n d mi (pc + ln) L st1 h1 else none := by
  conv => lhs; unfold rn
  simp only [hx, hd, hs]
theorem rn_e0 (hx : mInfo mi = some x) (hd : decode x.2.1 pc = .ok (i, len)) (hs : sX mi pc x.2.2.2.2.1 i st h = none) (hc : cls i = 0) : rn (n + 1) d mi pc L st h = (match sR2 x.2.2.2.1 i st with | some r => if len = 1 then some (r, h) else none | none => none) := by
  conv => lhs; unfold rn
  simp only [hx, hd, hs, hc] <;> rfl
theorem rn_e1 (hx : mInfo mi = some x) (hd : decode x.2.1 pc = .ok (i, len)) (hs : sX mi pc x.2.2.2.2.1 i st h = none) (hc : cls i = 1) : rn (n + 1) d mi pc L st h = (match sA i st with | some st' => if len = 1 then rn n d mi (pc + 1) L st' h else none | none => none) := by
  conv => lhs; unfold rn
  simp only [hx, hd, hs, hc] <;> rfl
theorem rn_e2 (hx : mInfo mi = some x) (hd : decode x.2.1 pc = .ok (i, len)) (hs : sX mi pc x.2.2.2.2.1 i st h = none) (hc : cls i = 2) : rn (n + 1) d mi pc L st h = (match sB x.2.2.2.2.1 x.2.2.1 i L st with | some (ln, L', st') => if len = ln then rn n d mi (pc + ln) L' st' h else none | none => none) := by
  conv => lhs; unfold rn
  simp only [hx, hd, hs, hc] <;> rfl
theorem rn_e3 (hx : mInfo mi = some x) (hd : decode x.2.1 pc = .ok (i, len)) (hs : sX mi pc x.2.2.2.2.1 i st h = none) (hc : cls i = 3) : rn (n + 1) d mi pc L st h = (match sJ i st with | some (c, off, st') => if len = 3 ∧ 0 ≤ (pc : Int) + off then @ite _ c (Classical.propDecidable _) (rn n d mi (tgt pc off) L st' h) (rn n d mi (pc + 3) L st' h) else none | none => none) := by
  conv => lhs; unfold rn
  simp only [hx, hd, hs, hc] <;> rfl
theorem rn_e4 (hx : mInfo mi = some x) (hd : decode x.2.1 pc = .ok (i, len)) (hs : sX mi pc x.2.2.2.2.1 i st h = none) (hc : cls i = 4) : rn (n + 1) d mi pc L st h = (match sS i st with | some (off, st') => if 0 ≤ (pc : Int) + off then rn n d mi (tgt pc off) L st' h else none | none => none) := by
  conv => lhs; unfold rn
  simp only [hx, hd, hs, hc] <;> rfl
theorem rn_e5 (hx : mInfo mi = some x) (hd : decode x.2.1 pc = .ok (i, len)) (hs : sX mi pc x.2.2.2.2.1 i st h = none) (hc : cls i = 5) : rn (n + 1) d mi pc L st h = (match sH x.2.2.2.2.1 i st h with | some (ln, st', h') => if len = ln then rn n d mi (pc + ln) L st' h' else none | none => none) := by
  conv => lhs; unfold rn
  simp only [hx, hd, hs, hc] <;> rfl
theorem rn_e6 (hx : mInfo mi = some x) (hd : decode x.2.1 pc = .ok (i, len)) (hs : sX mi pc x.2.2.2.2.1 i st h = none) (hc : cls i = 6) : rn (n + 1) d mi pc L st h = (match (generalizing := false) i with
            | .putfield idx => (match sP x.2.2.2.2.1 x.2.2.2.2.2.2 idx L st h with | some (L', st', h') => if len = 3 then rn n d mi (pc + 3) L' st' h' else none | none => none)
            | _ => none) := by
  conv => lhs; unfold rn
  simp only [hx, hd, hs, hc] <;> rfl
theorem rn_e7 (hx : mInfo mi = some x) (hd : decode x.2.1 pc = .ok (i, len)) (hs : sX mi pc x.2.2.2.2.1 i st h = none) (hc : cls i = 7) : rn (n + 1) d mi pc L st h = (match sK i with
            | none => none
            | some (ck, idx) => if len = 3 then (match mlk x.2.2.2.2.1 idx with
              | none => none
              | some mj => if mj = 1000 then (match (generalizing := false) st with | .ref _ :: r => if ck = 2 ∧ 0 < d ∧ catS r ≤ 8 then rn n d mi (pc + 3) L r h else none | _ => none)
                else if mj = 1001 then (match sY st h with | some (r, h') => if ck = 1 ∧ 0 < d then rn n d mi (pc + 3) L r h' else none | none => none)
                else (match mInfC mj with
                  | none => none
                  | some y => @ite _ (cOK h ck d y st) (Classical.propDecidable _)
                    (match rn n (d - 1) mj 0 (lv_args 0 (st.take y.2.2.2.2.2.1).reverse) [] h with
                    | some (r, h') => if isThr r = true then (if thrOK x.2.2.2.2.1 mj = true then (match hnd mi pc with | none => some (r, h') | some t => @ite _ (hv h' = hv h ∨ rok h h' (L.map (fun q => q.2))) (Classical.propDecidable _) (rn n d mi t (lno L 2) [] h') none) else none) else @ite _ (hv h' = hv h ∨ rok h h' (L.map (fun q => q.2) ++ st.drop y.2.2.2.2.2.1)) (Classical.propDecidable _) (rn n d mi (pc + 3) L (r.toList ++ st.drop y.2.2.2.2.2.1) h') none
                    | none => none) none)) else none) := by
  conv => lhs; unfold rn
  simp only [hx, hd, hs, hc] <;> rfl
theorem rn_e8 (hx : mInfo mi = some x) (hd : decode x.2.1 pc = .ok (i, len)) (hs : sX mi pc x.2.2.2.2.1 i st h = none) (hc : cls i = 8) : rn (n + 1) d mi pc L st h = (match (generalizing := false) st with | .ref k :: _ => if len = 1 ∧ hK h k = 0 ∧ mi < 290 then some (some (.retAddr k), h) else none | _ => none) := by
  conv => lhs; unfold rn
  simp only [hx, hd, hs, hc] <;> rfl
theorem rn_e9 (hx : mInfo mi = some x) (hd : decode x.2.1 pc = .ok (i, len)) (hs : sX mi pc x.2.2.2.2.1 i st h = none) {m : Nat} (hc : cls i = m + 9) : rn (n + 1) d mi pc L st h = none := by
  conv => lhs; unfold rn
  simp only [hx, hd, hs, hc] <;> rfl
end RNE
/-- a call of a method with these arguments, or a stretch of it, ends so -/
def aWP (d mi pc : Nat) (L : ALS) (st : List Value) (h : Hp) (Q : Option Value → Hp → Prop) : Prop := ∃ n r h', rn n d mi pc L st h = some (r, h') ∧ Q r h'
def aEv (d mi : Nat) (vs : List Value) (h : Hp) (Q : Option Value → Hp → Prop) : Prop := aWP d mi 0 (lv_args 0 vs) [] h Q
set_option maxHeartbeats 4000000 in
theorem rn_fuel : ∀ (n d mi pc : Nat) (L : ALS) (st : List Value) (h : Hp) (q : Option Value × Hp), rn n d mi pc L st h = some q → rn (n + 1) d mi pc L st h = some q := by
  intro n
  induction n with
  | zero => intro d mi pc L st h q hh; cases hh
  | succ n ih =>
    intro d mi pc L st h q hh
    cases hx : mInfo mi with
    | none => rw [rn_eN hx] at hh; cases hh
    | some x =>
      cases hd : decode x.2.1 pc with
      | error er => rw [rn_eE hx hd] at hh; cases hh
      | ok il =>
        obtain ⟨i, len⟩ := il
        cases hs : sX mi pc x.2.2.2.2.1 i st h with
        | some z =>
          obtain ⟨ln, st1, h1⟩ := z
          rw [rn_eX hx hd hs] at hh ⊢
          split at hh
          · rename_i hc
            rw [if_pos hc]; exact ih _ _ _ _ _ _ _ hh
          · cases hh
        | none =>
          match hcl : cls i with
          | 0 => rw [rn_e0 hx hd hs hcl] at hh ⊢; exact hh
          | 1 =>
            rw [rn_e1 hx hd hs hcl] at hh ⊢
            cases hq : sA i st with
            | none => rw [hq] at hh; cases hh
            | some st1 =>
              rw [hq] at hh
              dsimp only at hh ⊢
              split at hh
              · rename_i hc
                rw [if_pos hc]; exact ih _ _ _ _ _ _ _ hh
              · cases hh
          | 2 =>
            rw [rn_e2 hx hd hs hcl] at hh ⊢
            cases hq : sB x.2.2.2.2.1 x.2.2.1 i L st with
            | none => rw [hq] at hh; cases hh
            | some z =>
              obtain ⟨ln, L1, st1⟩ := z
              rw [hq] at hh
              dsimp only at hh ⊢
              split at hh
              · rename_i hc
                rw [if_pos hc]; exact ih _ _ _ _ _ _ _ hh
              · cases hh
          | 3 =>
            rw [rn_e3 hx hd hs hcl] at hh ⊢
            cases hq : sJ i st with
            | none => rw [hq] at hh; cases hh
            | some z =>
              obtain ⟨c, off, st1⟩ := z
              rw [hq] at hh
              dsimp only at hh ⊢
              split at hh
              · rename_i hc
                rw [if_pos hc]
                rcases Classical.propDecidable c with hcc | hcc
                · rw [if_neg hcc] at hh ⊢; exact ih _ _ _ _ _ _ _ hh
                · rw [if_pos hcc] at hh ⊢; exact ih _ _ _ _ _ _ _ hh
              · cases hh
          | 4 =>
            rw [rn_e4 hx hd hs hcl] at hh ⊢
            cases hq : sS i st with
            | none => rw [hq] at hh; cases hh
            | some z =>
              obtain ⟨off, st1⟩ := z
              rw [hq] at hh
              dsimp only at hh ⊢
              split at hh
              · rename_i hc
                rw [if_pos hc]; exact ih _ _ _ _ _ _ _ hh
              · cases hh
          | 5 =>
            rw [rn_e5 hx hd hs hcl] at hh ⊢
            cases hq : sH x.2.2.2.2.1 i st h with
            | none => rw [hq] at hh; cases hh
            | some z =>
              obtain ⟨ln, st1, h1⟩ := z
              rw [hq] at hh
              dsimp only at hh ⊢
              split at hh
              · rename_i hc
                rw [if_pos hc]; exact ih _ _ _ _ _ _ _ hh
              · cases hh
          | 6 =>
            rw [rn_e6 hx hd hs hcl] at hh ⊢
            split at hh
            · rename_i idx
              cases hq : sP x.2.2.2.2.1 x.2.2.2.2.2.2 idx L st h with
              | none => rw [hq] at hh; cases hh
              | some z =>
                obtain ⟨L1, st1, h1⟩ := z
                rw [hq] at hh
                dsimp only at hh ⊢
                split at hh
                · rename_i hc
                  rw [if_pos hc]; exact ih _ _ _ _ _ _ _ hh
                · cases hh
            · cases hh
          | 7 =>
            rw [rn_e7 hx hd hs hcl] at hh ⊢
            cases hk : sK i with
            | none => rw [hk] at hh; cases hh
            | some z =>
              obtain ⟨ck, idx⟩ := z
              rw [hk] at hh
              dsimp only at hh ⊢
              split at hh
              · rename_i h3
                rw [if_pos h3]
                cases hm : mlk x.2.2.2.2.1 idx with
                | none => rw [hm] at hh; cases hh
                | some mj =>
                  rw [hm] at hh
                  dsimp only at hh ⊢
                  split at hh
                  · rename_i hc
                    rw [if_pos hc]
                    split at hh
                    · split at hh
                      · rename_i hc2
                        rw [if_pos hc2]; exact ih _ _ _ _ _ _ _ hh
                      · cases hh
                    · cases hh
                  · rename_i hc
                    rw [if_neg hc]
                    split at hh
                    · rename_i hc1
                      rw [if_pos hc1]
                      cases hq : sY st h with
                      | none => rw [hq] at hh; cases hh
                      | some z =>
                        obtain ⟨r0, h1⟩ := z
                        rw [hq] at hh
                        dsimp only at hh ⊢
                        split at hh
                        · rename_i hc2
                          rw [if_pos hc2]; exact ih _ _ _ _ _ _ _ hh
                        · cases hh
                    · rename_i hc1
                      rw [if_neg hc1]
                      cases hy : mInfC mj with
                      | none => rw [hy] at hh; cases hh
                      | some y =>
                        rw [hy] at hh
                        dsimp only at hh ⊢
                        rcases Classical.propDecidable (cOK h ck d y st) with hcc | hcc
                        · rw [if_neg hcc] at hh; cases hh
                        · rw [if_pos hcc] at hh ⊢
                          cases hcal : rn n (d - 1) mj 0 (lv_args 0 (st.take y.2.2.2.2.2.1).reverse) [] h with
                          | none => rw [hcal] at hh; cases hh
                          | some z =>
                            obtain ⟨r1, h1⟩ := z
                            rw [hcal] at hh
                            rw [ih _ _ _ _ _ _ _ hcal]
                            dsimp only at hh ⊢
                            split at hh
                            · rename_i ht
                              rw [if_pos ht]
                              split at hh
                              · rename_i hto
                                rw [if_pos hto]
                                cases hq : hnd mi pc with
                                | none => rw [hq] at hh; exact hh
                                | some t =>
                                  rw [hq] at hh
                                  dsimp only at hh ⊢
                                  rcases Classical.propDecidable (hv h1 = hv h ∨ rok h h1 (L.map (fun q => q.2))) with hc2 | hc2
                                  · rw [if_neg hc2] at hh; cases hh
                                  · rw [if_pos hc2] at hh ⊢
                                    exact ih _ _ _ _ _ _ _ hh
                              · cases hh
                            · rename_i ht
                              rw [if_neg ht]
                              rcases Classical.propDecidable (hv h1 = hv h ∨ rok h h1 (L.map (fun q => q.2) ++ st.drop y.2.2.2.2.2.1)) with hc2 | hc2
                              · rw [if_neg hc2] at hh; cases hh
                              · rw [if_pos hc2] at hh ⊢
                                exact ih _ _ _ _ _ _ _ hh
              · cases hh
          | 8 => rw [rn_e8 hx hd hs hcl] at hh ⊢; exact hh
          | m + 9 => rw [rn_e9 hx hd hs hcl] at hh; cases hh
theorem rn_fuelLe {n n' d mi pc : Nat} {L : ALS} {st : List Value} {h : Hp} {q : Option Value × Hp} (hh : rn n d mi pc L st h = some q) (hle : n ≤ n') : rn n' d mi pc L st h = some q := by
  induction hle with
  | refl => exact hh
  | step _ ih => exact rn_fuel _ _ _ _ _ _ _ _ ih
theorem aEv_mono {d mi : Nat} {vs : List Value} {h : Hp} {Q Q' : Option Value → Hp → Prop} (hE : aEv d mi vs h Q) (hq : ∀ r h', Q r h' → Q' r h') : aEv d mi vs h Q' := by
  obtain ⟨n, r, h', h1, h2⟩ := hE
  exact ⟨n, r, h', h1, hq r h' h2⟩
theorem aWP_mono {d mi pc : Nat} {L : ALS} {st : List Value} {h : Hp} {Q Q' : Option Value → Hp → Prop} (hE : aWP d mi pc L st h Q) (hq : ∀ r h', Q r h' → Q' r h') : aWP d mi pc L st h Q' := by
  obtain ⟨n, r, h', h1, h2⟩ := hE
  exact ⟨n, r, h', h1, hq r h' h2⟩
