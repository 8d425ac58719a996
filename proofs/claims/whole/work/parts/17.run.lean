/-! the abstract machine's run, and that it only adds -/
def sTab : List ((Nat × Nat) × Nat) := [((4, 50), 0), ((4, 56), 1), ((4, 58), 2), ((4, 60), 3), ((7, 131), 4), ((13, 32), 5)]
def sTx (j : Nat) : String := match j with
  | 0 => "quote lambda if let letrec set! begin and or define "
  | 1 => "car cdr pair? null? integer? procedure? not emit "
  | 2 => "cons set-car! set-cdr! eq? + - * quotient remainder = < "
  | 3 => "read "
  | 4 => "+-*/<>=!?_#"
  | _ => "refused"
def sCh (j : Nat) : List Nat := (sTx j).toList.map Char.toNat
def wordTab : List Int64 := [0, 0x71756F7465, 0x6C616D626461, 0x6966, 0x6C6574, 0x6C6574726563, 0x73657421, 0x626567696E, 0x616E64, 0x6F72, 0x646566696E65, 0x636172, 0x636472, 0x706169723F, 0x6E756C6C3F, 0, 0, 0x6E6F74, 0x656D6974, 0x636F6E73, 0, 0, 0x65713F, 0x2B, 0x2D, 0x2A, 0x71756F7469656E74, 0, 0x3D, 0x3C, 0x72656164]
/-- text constants, the row WORD, the exception that the reference keeps -/
def sX (mi pc o : Nat) (i : Instr) (st : List Value) (h : Hp) : Option (Nat × List Value × Hp) := match i with
  | .getstatic idx => if o = 13 ∧ idx = 199 then some (3, .ref (SB + 100) :: st, h) else none
  | .laload => (match st with | .int x :: .ref k :: r => if k = SB + 100 ∧ 0 ≤ x.toInt ∧ x.toInt < 31 then some (1, .long (wordTab.getD x.toNatClampNeg 0) :: r, h) else none | _ => none)
  | .ldc idx => (match sTab.lookup (o, idx) with | some j => some (2, .ref (SB + j) :: st, h) | none => none)
  | .invokevirtual idx =>
    if o = 4 ∧ idx = 65 then (match st with | .ref k :: r => if SB ≤ k ∧ k < SB + 5 ∧ catS r ≤ 8 then some (3, .int (nI (sCh (k - SB)).length) :: r, h) else none | _ => none)
    else if o = 4 ∧ idx = 71 then (match st with | .int x :: .ref k :: r => if SB ≤ k ∧ k < SB + 5 ∧ catS r ≤ 8 ∧ 0 ≤ x.toInt ∧ x.toInt < (sCh (k - SB)).length then some (3, .int (nI ((sCh (k - SB)).getD x.toNatClampNeg 0)) :: r, h) else none | _ => none)
    else if o = 7 ∧ idx = 133 then (match st with | .int x :: .ref k :: r => if k = SB + 4 ∧ catS r ≤ 8 ∧ 0 ≤ x.toInt ∧ x.toInt < 65536 then some (3, .int (if x.toNatClampNeg ∈ sCh 4 then nI ((sCh 4).idxOf x.toNatClampNeg) else -1) :: r, h) else none | _ => none)
    else none
  | .new idx => if mi = 217 ∧ pc = 55 ∧ hn h < SB ∧ catS st ≤ 8 then some (9, .ref (hn h) :: st, nO h 0 6) else none
  | _ => none
/-- what kind of instruction -/
def cls (i : Instr) : Nat := match i with
  | .return_ => 0 | .ireturn => 0 | .lreturn => 0 | .areturn => 0
  | .aload_n _ => 2 | .aload _ => 2 | .iload_n _ => 2 | .iload _ => 2 | .lload_n _ => 2 | .lload _ => 2 | .astore_n _ => 2 | .astore _ => 2 | .istore_n _ => 2 | .istore _ => 2 | .lstore_n _ => 2 | .lstore _ => 2 | .iinc _ _ => 2 | .bipush _ => 2 | .sipush _ => 2 | .ldc _ => 2 | .ldc_w _ => 2 | .ldc2_w _ => 2
  | .goto _ => 3 | .if_icmp _ _ => 3 | .ifCond _ _ => 3
  | .tableswitch _ _ _ _ => 4 | .lookupswitch _ _ => 4
  | .getfield _ => 5 | .arraylength => 5 | .iaload => 5 | .baload => 5 | .laload => 5 | .iastore => 5 | .bastore => 5 | .lastore => 5 | .newarray _ => 5 | .new _ => 5
  | .putfield _ => 6
  | .invokevirtual _ => 7 | .invokestatic _ => 7 | .invokespecial _ => 7
  | .athrow => 8
  | _ => 1
/-- a method's end: its answer -/
def sR2 (ret : Option FieldType) (i : Instr) (st : List Value) : Option (Option Value) := match i with
  | .return_ => if ret = none ∧ st = [] then some none else none
  | .ireturn => (match st with | [.int v] => if ret = some .int ∨ ret = some .boolean ∧ (v = 0 ∨ v = 1) then some (some (.int v)) else none | _ => none)
  | .lreturn => (match st with | [.long v] => if ret = some .long then some (some (.long v)) else none | _ => none)
  | .areturn => (match st with | [.ref v] => if ret = some (.array .int) ∨ ret = some (.array .long) ∨ ret = some (.object "java/lang/IllegalStateException") then some (some (.ref v)) else none | _ => none)
  | _ => none
/-- an answer that says: the exception of this place was thrown -/
def isThr (r : Option Value) : Bool := match r with
  | some (.retAddr _) => true
  | _ => false
def thrK (r : Option Value) : Nat := match r with
  | some (.retAddr k) => k
  | _ => 0
/-- where a method catches what a call throws (build alone): behind the handler's own store into local 2 -/
def hnd (mi pc : Nat) : Option Nat := if mi = 290 ∧ 81 ≤ pc ∧ pc < 89 then some 93 else none
def lno (L : ALS) (i : Nat) : ALS := L.filter (fun q => !(q.1 == i) && !(q.1 + 1 == i && q.2.category == 2))
/-- calls that may throw: in the reference, of datum, enters, list, quoted, rows -/
def thrOK (o mj : Nat) : Bool := o == 13 && [199, 201, 234, 251, 256].contains mj
/-- methods that are called -/
def mInfC (k : Nat) : Option MI := if k < 290 then mInfo k else none
theorem mInfC_s {k : Nat} {y : MI} (h : mInfC k = some y) : k < 290 ∧ mInfo k = some y := by
  unfold mInfC at h
  split at h
  · rename_i hk; exact ⟨hk, h⟩
  · cases h
def cOK (h : Hp) (ck d : Nat) (y : MI) (st : List Value) : Prop :=
  ck = y.2.2.2.2.2.2 ∧ 0 < d ∧ y.2.2.2.2.2.1 ≤ st.length ∧ catS (st.drop y.2.2.2.2.2.1) ≤ 8 ∧ (y.2.2.2.2.2.2 = 1 ∨ rcv h y.2.2.2.2.1 st[y.2.2.2.2.2.1 - 1]? = true) ∧ (lg_sl (st.take y.2.2.2.2.2.1).reverse).length ≤ y.2.2.1
noncomputable def rn : Nat → Nat → Nat → Nat → ALS → List Value → Hp → Option (Option Value × Hp)
  | 0, _, _, _, _, _, _ => none
  | n + 1, d, mi, pc, L, st, h => match mInfo mi with
    | none => none
    | some x => match decode x.2.1 pc with
      | .error _ => none
      | .ok (i, len) => match sX mi pc x.2.2.2.2.1 i st h with
        | some (ln, st', h') => if (len = ln ∨ ln = 9) ∧ 8 < d then rn n d mi (pc + ln) L st' h' else none
        | none => match cls i with
          | 0 => (match sR2 x.2.2.2.1 i st with | some r => if len = 1 then some (r, h) else none | none => none)
          | 1 => (match sA i st with | some st' => if len = 1 then rn n d mi (pc + 1) L st' h else none | none => none)
          | 2 => (match sB x.2.2.2.2.1 x.2.2.1 i L st with | some (ln, L', st') => if len = ln then rn n d mi (pc + ln) L' st' h else none | none => none)
          | 3 => (match sJ i st with | some (c, off, st') => if len = 3 ∧ 0 ≤ (pc : Int) + off then @ite _ c (Classical.propDecidable _) (rn n d mi (tgt pc off) L st' h) (rn n d mi (pc + 3) L st' h) else none | none => none)
          | 4 => (match sS i st with | some (off, st') => if 0 ≤ (pc : Int) + off then rn n d mi (tgt pc off) L st' h else none | none => none)
          | 5 => (match sH x.2.2.2.2.1 i st h with | some (ln, st', h') => if len = ln then rn n d mi (pc + ln) L st' h' else none | none => none)
          | 6 => (match i with
            | .putfield idx => (match sP x.2.2.2.2.1 x.2.2.2.2.2.2 idx L st h with | some (L', st', h') => if len = 3 then rn n d mi (pc + 3) L' st' h' else none | none => none)
            | _ => none)
          | 7 => (match sK i with
            | none => none
            | some (ck, idx) => if len = 3 then (match mlk x.2.2.2.2.1 idx with
              | none => none
              | some mj => if mj = 1000 then (match st with | .ref _ :: r => if ck = 2 ∧ 0 < d ∧ catS r ≤ 8 then rn n d mi (pc + 3) L r h else none | _ => none)
                else if mj = 1001 then (match sY st h with | some (r, h') => if ck = 1 ∧ 0 < d then rn n d mi (pc + 3) L r h' else none | none => none)
                else (match mInfC mj with
                  | none => none
                  | some y => @ite _ (cOK h ck d y st) (Classical.propDecidable _)
                    (match rn n (d - 1) mj 0 (lv_args 0 (st.take y.2.2.2.2.2.1).reverse) [] h with
                    | some (r, h') => if isThr r = true then (if thrOK x.2.2.2.2.1 mj = true then (match hnd mi pc with | none => some (r, h') | some t => @ite _ (hv h' = hv h ∨ rok h h' (L.map (fun q => q.2))) (Classical.propDecidable _) (rn n d mi t (lno L 2) [] h') none) else none) else @ite _ (hv h' = hv h ∨ rok h h' (L.map (fun q => q.2) ++ st.drop y.2.2.2.2.2.1)) (Classical.propDecidable _) (rn n d mi (pc + 3) L (r.toList ++ st.drop y.2.2.2.2.2.1) h') none
                    | none => none) none)) else none)
          | 8 => (match st with | .ref k :: _ => if len = 1 ∧ hK h k = 0 ∧ mi < 290 then some (some (.retAddr k), h) else none | _ => none)
          | _ => none
/-- what a run does to kinds and counts -/
def Mono (h h' : Hp) : Prop := hn h ≤ hn h' ∧ hu h ≤ hu h' ∧ (∀ k, hv h k ≤ hv h' k) ∧ ∀ k, k < hn h → hK h' k = hK h k
theorem hvS_le {f : Nat → Nat} {k q j : Nat} : f j ≤ hvS f k q j := by
  unfold hvS
  repeat' split
  all_goals omega
theorem Mono.rf (h : Hp) : Mono h h := ⟨Nat.le_refl _, Nat.le_refl _, fun _ => Nat.le_refl _, fun _ _ => rfl⟩
theorem Mono.tr {a b c : Hp} (h1 : Mono a b) (h2 : Mono b c) : Mono a c := ⟨Nat.le_trans h1.1 h2.1, Nat.le_trans h1.2.1 h2.2.1, fun k => Nat.le_trans (h1.2.2.1 k) (h2.2.2.1 k), fun k hk => (h2.2.2.2 k (Nat.lt_of_lt_of_le hk h1.1)).trans (h1.2.2.2 k hk)⟩
theorem mono_nO (h : Hp) (a b : Nat) : Mono h (nO h a b) := ⟨Nat.le_succ _, Nat.le_add_right _ _, fun _ => Nat.le_refl _, fun k hk => up1_ne (Nat.ne_of_lt hk)⟩
theorem mono_nA (h : Hp) (a b : Nat) : Mono h (nA h a b) := ⟨Nat.le_succ _, Nat.le_add_right _ _, fun _ => Nat.le_refl _, fun k hk => up1_ne (Nat.ne_of_lt hk)⟩
theorem sX_mono {mi pc o ln : Nat} {i : Instr} {st st' : List Value} {h h' : Hp} (hh : sX mi pc o i st h = some (ln, st', h')) : Mono h h' := by
  unfold sX at hh
  split at hh
  · split at hh <;> cases hh; exact Mono.rf _
  · split at hh
    · split at hh <;> cases hh; exact Mono.rf _
    · cases hh
  · split at hh <;> cases hh; exact Mono.rf _
  · split at hh
    · split at hh
      · split at hh <;> cases hh; exact Mono.rf _
      · cases hh
    · split at hh
      · split at hh
        · split at hh <;> cases hh; exact Mono.rf _
        · cases hh
      · split at hh
        · split at hh
          · split at hh <;> cases hh; exact Mono.rf _
          · cases hh
        · cases hh
  · split at hh <;> cases hh; exact mono_nO _ _ _
  · cases hh
theorem sH_mono {o ln : Nat} {i : Instr} {st st' : List Value} {h h' : Hp} (hh : sH o i st h = some (ln, st', h')) : Mono h h' := by
  unfold sH at hh
  repeat' split at hh
  all_goals cases hh
  all_goals first | exact Mono.rf _ | exact mono_nA _ _ _ | exact mono_nO _ _ _
theorem sP_mono {o kd idx : Nat} {L L' : ALS} {st st' : List Value} {h h' : Hp} (hh : sP o kd idx L st h = some (L', st', h')) : Mono h h' := by
  unfold sP at hh
  split at hh
  · split at hh
    · cases hh
    · split at hh
      · split at hh <;> cases hh; exact Mono.rf _
      · split at hh <;> cases hh; exact Mono.rf _
      · split at hh
        · split at hh
          · rename_i ob i k _
            rcases Classical.propDecidable (swOK h L _ _ _ k _) with hsw | hsw
            · rw [if_neg hsw] at hh; cases hh; exact Mono.rf _
            · rw [if_pos hsw] at hh; cases hh; exact ⟨Nat.le_refl _, Nat.le_refl _, fun j => hvS_le, fun _ _ => rfl⟩
          · cases hh; exact Mono.rf _
        · cases hh
      · cases hh
  · cases hh
theorem sY_mono {st r : List Value} {h h' : Hp} (hh : sY st h = some (r, h')) : Mono h h' := by
  unfold sY at hh
  split at hh
  · split at hh
    · cases hh
      split
      · exact Mono.rf _
      · exact Mono.rf _
    · cases hh
  · cases hh
set_option maxHeartbeats 4000000 in
theorem rn_mono : ∀ (n d mi pc : Nat) (L : ALS) (st : List Value) (h : Hp) (r : Option Value) (h' : Hp), rn n d mi pc L st h = some (r, h') → Mono h h' := by
  intro n
  induction n with
  | zero => intro d mi pc L st h r h' hh; cases hh
  | succ n ih =>
    intro d mi pc L st h r h' hh
    unfold rn at hh
    split at hh
    · cases hh
    rename_i x hmi
    split at hh
    · cases hh
    rename_i i len hdec
    split at hh
    · rename_i ln st1 h1 hsx
      split at hh
      · exact (sX_mono hsx).tr (ih _ _ _ _ _ _ _ _ hh)
      · cases hh
    split at hh
    · split at hh
      · split at hh <;> cases hh; exact Mono.rf _
      · cases hh
    · split at hh
      · split at hh
        · exact ih _ _ _ _ _ _ _ _ hh
        · cases hh
      · cases hh
    · split at hh
      · split at hh
        · exact ih _ _ _ _ _ _ _ _ hh
        · cases hh
      · cases hh
    · split at hh
      · rename_i c off st' _
        split at hh
        · rcases Classical.propDecidable c with hc | hc
          · rw [if_neg hc] at hh; exact ih _ _ _ _ _ _ _ _ hh
          · rw [if_pos hc] at hh; exact ih _ _ _ _ _ _ _ _ hh
        · cases hh
      · cases hh
    · split at hh
      · split at hh
        · exact ih _ _ _ _ _ _ _ _ hh
        · cases hh
      · cases hh
    · split at hh
      · rename_i hsh
        split at hh
        · exact (sH_mono hsh).tr (ih _ _ _ _ _ _ _ _ hh)
        · cases hh
      · cases hh
    · split at hh
      · split at hh
        · rename_i hsp
          split at hh
          · exact (sP_mono hsp).tr (ih _ _ _ _ _ _ _ _ hh)
          · cases hh
        · cases hh
      · cases hh
    · split at hh
      · cases hh
      · split at hh
        · split at hh
          · cases hh
          · split at hh
            · split at hh
              · split at hh
                · exact ih _ _ _ _ _ _ _ _ hh
                · cases hh
              · cases hh
            · split at hh
              · split at hh
                · rename_i hsy
                  split at hh
                  · exact (sY_mono hsy).tr (ih _ _ _ _ _ _ _ _ hh)
                  · cases hh
                · cases hh
              · split at hh
                · cases hh
                · rename_i ck idx _ _ _ _ _ _ _ _ y hy
                  rcases Classical.propDecidable (cOK h ck d y st) with hc | hc
                  · rw [if_neg hc] at hh; cases hh
                  · rw [if_pos hc] at hh
                    split at hh
                    · rename_i r1 h1 hcal
                      split at hh
                      · split at hh
                        · split at hh
                          · cases hh; exact ih _ _ _ _ _ _ _ _ hcal
                          · rcases Classical.propDecidable (hv h1 = hv h ∨ rok h h1 (L.map (fun q => q.2))) with hc2 | hc2
                            · rw [if_neg hc2] at hh; cases hh
                            · rw [if_pos hc2] at hh
                              exact (ih _ _ _ _ _ _ _ _ hcal).tr (ih _ _ _ _ _ _ _ _ hh)
                        · cases hh
                      · rcases Classical.propDecidable (hv h1 = hv h ∨ rok h h1 (L.map (fun q => q.2) ++ st.drop y.2.2.2.2.2.1)) with hc2 | hc2
                        · rw [if_neg hc2] at hh; cases hh
                        · rw [if_pos hc2] at hh
                          exact (ih _ _ _ _ _ _ _ _ hcal).tr (ih _ _ _ _ _ _ _ _ hh)
                    · cases hh
        · cases hh
    · split at hh
      · split at hh <;> cases hh; exact Mono.rf _
      · cases hh
    · cases hh
