/-! switches -/
def swA : List (Int32 × Nat) → Int32 → (Nat → Prop) → Nat → Prop
  | [], _, P, df => P df
  | q :: r, a, P, df => (a = q.1 → P q.2) ∧ (¬ a = q.1 → swA r a P df)
theorem swA_eq {P : Nat → Prop} {df : Nat} {a : Int32} : ∀ (T : List (Int32 × Nat)) (lo : Int), (∀ (i : Nat) (q : Int32 × Nat), T[i]? = some q → q.1.toInt = lo + i) → (swA T a P df ↔ (if lo ≤ a.toInt then (match T[(a.toInt - lo).toNat]? with | some q => P q.2 | none => P df) else P df)) := by
  intro T
  induction T with
  | nil =>
    intro lo _
    show P df ↔ _
    split <;> simp
  | cons q r ih =>
    intro lo hT
    have h0 : q.1.toInt = lo := by have := hT 0 q rfl; simpa using this
    have ih' := ih (lo + 1) (fun i z hz => by have := hT (i + 1) z hz; push_cast at this; omega)
    show ((a = q.1 → P q.2) ∧ (¬ a = q.1 → swA r a P df)) ↔ _
    by_cases ha : a = q.1
    · subst ha
      rw [h0, if_pos (Int.le_refl lo), show (lo - lo).toNat = 0 by omega]
      simp
    · have hne : a.toInt ≠ lo := fun e => ha (Int32.toInt_inj.mp (e.trans h0.symm))
      rw [ih']
      by_cases hl : lo ≤ a.toInt
      · rw [if_pos hl, if_pos (by omega), show (a.toInt - lo).toNat = (a.toInt - (lo + 1)).toNat + 1 by omega, List.getElem?_cons_succ]
        simp [ha]
      · rw [if_neg hl, if_neg (by omega)]
        simp [ha]
def tsChk (pc : Nat) (dflt lo hi : Int) (offs : Array Int) (T : List (Int32 × Nat)) (df : Nat) : Bool :=
  decide (0 ≤ (pc : Int) + dflt) && decide (tgt pc dflt = df) && decide (T.length = offs.size) && decide ((offs.size : Int) = hi - lo + 1) &&
  (List.range T.length).all (fun i => match T[i]?, offs[i]? with
    | some q, some off => decide (q.1.toInt = lo + i) && decide (q.2 = tgt pc off) && decide (0 ≤ (pc : Int) + off)
    | _, _ => false)
section KSW
variable {d mi pc : Nat} {L : ALS} {st : List Value} {h : Hp} {Q : Option Value → Hp → Prop} {x : MI}
theorem k_tsw (hx : mInfo mi = some x) {dflt lo hi : Int} {offs : Array Int} {len : Nat} (hd : decode x.2.1 pc = .ok (.tableswitch dflt lo hi offs, len)) (T : List (Int32 × Nat)) (df : Nat) (hc : tsChk pc dflt lo hi offs T df = true) {a : Int32} : aWP d mi pc L (.int a :: st) h Q ↔ swA T a (fun t => aWP d mi t L st h Q) df := by
  unfold tsChk at hc
  simp only [Bool.and_eq_true, decide_eq_true_eq] at hc
  obtain ⟨⟨⟨⟨h1, h2⟩, h3⟩, h4⟩, h5⟩ := hc
  have hall : ∀ (i : Nat) (q : Int32 × Nat), T[i]? = some q → q.1.toInt = lo + i ∧ ∃ off, offs[i]? = some off ∧ q.2 = tgt pc off ∧ 0 ≤ (pc : Int) + off := by
    intro i q hq
    have hi : i < T.length := (List.getElem?_eq_some_iff.mp hq).1
    have := List.all_eq_true.mp h5 i (List.mem_range.mpr hi)
    rw [hq] at this
    cases ho : offs[i]? with
    | none => rw [ho] at this; cases this
    | some off =>
      rw [ho] at this
      simp only [Bool.and_eq_true, decide_eq_true_eq] at this
      exact ⟨this.1.1, off, rfl, this.1.2, this.2⟩
  rw [swA_eq T lo (fun i q hq => (hall i q hq).1)]
  by_cases hl : lo ≤ a.toInt
  · rw [if_pos hl]
    cases hq : T[(a.toInt - lo).toNat]? with
    | none =>
      have hge := List.getElem?_eq_none_iff.mp hq
      have hs : sS (.tableswitch dflt lo hi offs) (.int a :: st) = some (dflt, st) := by
        unfold sS
        dsimp only
        rw [if_pos (Or.inr (by omega))]
      rw [wp_S hx hd rfl rfl hs h1, h2]
    | some q =>
      obtain ⟨e1, off, ho, e2, e3⟩ := hall _ _ hq
      have hlt : (a.toInt - lo).toNat < T.length := (List.getElem?_eq_some_iff.mp hq).1
      have hs : sS (.tableswitch dflt lo hi offs) (.int a :: st) = some (off, st) := by
        unfold sS
        dsimp only
        rw [if_neg (by omega), ho]
      rw [wp_S hx hd rfl rfl hs e3]
      show _ ↔ aWP d mi q.2 L st h Q
      rw [e2]
  · rw [if_neg hl]
    have hs : sS (.tableswitch dflt lo hi offs) (.int a :: st) = some (dflt, st) := by
      unfold sS
      dsimp only
      rw [if_pos (Or.inl (by omega))]
    rw [wp_S hx hd rfl rfl hs h1, h2]
end KSW
/-- simp: switches -/
theorem z_sw : (∀ (a : Int32) (P : Nat → Prop) (df : Nat), swA [] a P df = P df) ∧ (∀ (c : Int32) (t : Nat) (r : List (Int32 × Nat)) (a : Int32) (P : Nat → Prop) (df : Nat), swA ((c, t) :: r) a P df = ((a = c → P t) ∧ (¬ a = c → swA r a P df))) := ⟨fun _ _ _ => rfl, fun _ _ _ _ _ _ => rfl⟩
def lsChk (pc : Nat) (dflt : Int) (df : Nat) : List (Int × Int) → List (Int32 × Nat) → Bool
  | [], [] => decide (0 ≤ (pc : Int) + dflt) && decide (tgt pc dflt = df)
  | p :: ps, q :: qs => decide (q.1.toInt = p.1) && decide (q.2 = tgt pc p.2) && decide (0 ≤ (pc : Int) + p.2) && lsChk pc dflt df ps qs
  | _, _ => false
theorem ls_off {pc : Nat} {dflt : Int} {df : Nat} {P : Nat → Prop} {a : Int32} : ∀ (ps : List (Int × Int)) (T : List (Int32 × Nat)), lsChk pc dflt df ps T = true → 0 ≤ (pc : Int) + Op.lookupswitch.offset ps dflt a.toInt ∧ (swA T a P df ↔ P (tgt pc (Op.lookupswitch.offset ps dflt a.toInt)))
  | [], [], h => by
    unfold lsChk at h
    simp only [Bool.and_eq_true, decide_eq_true_eq] at h
    refine ⟨h.1, ?_⟩
    show P df ↔ P (tgt pc dflt)
    rw [h.2]
  | p :: ps, q :: qs, h => by
    unfold lsChk at h
    simp only [Bool.and_eq_true, decide_eq_true_eq] at h
    obtain ⟨⟨⟨h1, h2⟩, h3⟩, h4⟩ := h
    have ih := ls_off (P := P) (a := a) ps qs h4
    show _ ∧ (((a = q.1 → P q.2) ∧ (¬ a = q.1 → swA qs a P df)) ↔ _)
    have hoff : Op.lookupswitch.offset (p :: ps) dflt a.toInt = if a.toInt = p.1 then p.2 else Op.lookupswitch.offset ps dflt a.toInt := by
      obtain ⟨p1, p2⟩ := p
      simp only [Op.lookupswitch.offset]
      by_cases e : a.toInt = p1
      · simp [e]
      · rw [if_neg e, if_neg (fun z => e z.symm)]
    rw [hoff]
    by_cases ha : a = q.1
    · rw [if_pos (by rw [ha]; exact h1)]
      refine ⟨h3, ?_⟩
      rw [h2]
      simp [ha]
    · have : ¬ a.toInt = p.1 := fun e => ha (Int32.toInt_inj.mp (e.trans h1.symm))
      rw [if_neg this]
      refine ⟨ih.1, ?_⟩
      rw [← ih.2]
      simp [ha]
  | [], _ :: _, h => by cases h
  | _ :: _, [], h => by cases h
section KSV
variable {d mi pc : Nat} {L : ALS} {st : List Value} {h : Hp} {Q : Option Value → Hp → Prop} {x : MI}
theorem k_lsw (hx : mInfo mi = some x) {dflt : Int} {ps : Array (Int × Int)} {len : Nat} (hd : decode x.2.1 pc = .ok (.lookupswitch dflt ps, len)) (hp : (ps.toList.zip (ps.toList.drop 1)).all (fun (a, next) => a.1 < next.1) = true) (T : List (Int32 × Nat)) (df : Nat) (hc : lsChk pc dflt df ps.toList T = true) {a : Int32} : aWP d mi pc L (.int a :: st) h Q ↔ swA T a (fun t => aWP d mi t L st h Q) df := by
  obtain ⟨h1, h2⟩ := ls_off (P := fun t => aWP d mi t L st h Q) (a := a) ps.toList T hc
  have hs : sS (.lookupswitch dflt ps) (.int a :: st) = some (Op.lookupswitch.offset ps.toList dflt a.toInt, st) := by
    unfold sS
    dsimp only
    rw [if_pos hp]
  rw [wp_S hx hd rfl rfl hs h1, h2]
theorem k_acp (hx : mInfo mi = some x) {idx : Nat} (hd : decode x.2.1 pc = .ok (.invokestatic idx, 3)) (hm : mlk x.2.2.2.2.1 idx = some 1001) {n dp sp : Int32} {a b kd : Nat} (ha : hK h a = kd) (hb : hK h b = kd) (hkd : kd = 14 ∨ kd = 15) (hne : a ≠ b) : aWP d mi pc L (.int n :: .int dp :: .ref b :: .int sp :: .ref a :: st) h Q ↔ (0 < d ∧ 0 ≤ sp.toInt ∧ 0 ≤ dp.toInt ∧ 0 ≤ n.toInt ∧ sp.toInt + n.toInt ≤ hN h a ∧ dp.toInt + n.toInt ≤ hN h b ∧ catS st ≤ 8) ∧ aWP d mi (pc + 3) L st (if kd = 14 then pA h b (va_cpy (hA h a) (hA h b) sp.toNatClampNeg dp.toNatClampNeg n.toNatClampNeg) else pB h b (va_cpy (hB h a) (hB h b) sp.toNatClampNeg dp.toNatClampNeg n.toNatClampNeg)) Q := by
  have hY : sY (.int n :: .int dp :: .ref b :: .int sp :: .ref a :: st) h = if hK h a = hK h b ∧ (hK h a = 14 ∨ hK h a = 15) ∧ 0 ≤ sp.toInt ∧ 0 ≤ dp.toInt ∧ 0 ≤ n.toInt ∧ sp.toInt + n.toInt ≤ hN h a ∧ dp.toInt + n.toInt ≤ hN h b ∧ a ≠ b ∧ catS st ≤ 8 then some (st, if hK h a = 14 then pA h b (va_cpy (hA h a) (hA h b) sp.toNatClampNeg dp.toNatClampNeg n.toNatClampNeg) else pB h b (va_cpy (hB h a) (hB h b) sp.toNatClampNeg dp.toNatClampNeg n.toNatClampNeg)) else none := rfl
  rw [ha, hb] at hY
  constructor
  · rintro ⟨m, r, h', h1, h2⟩
    cases m with
    | zero => cases h1
    | succ m =>
      rw [rn_e7 hx hd rfl rfl] at h1
      dsimp only [sK] at h1
      rw [if_pos rfl, hm] at h1
      dsimp only at h1
      rw [if_neg (by decide), if_pos rfl, hY] at h1
      rcases Classical.em (kd = kd ∧ (kd = 14 ∨ kd = 15) ∧ 0 ≤ sp.toInt ∧ 0 ≤ dp.toInt ∧ 0 ≤ n.toInt ∧ sp.toInt + n.toInt ≤ hN h a ∧ dp.toInt + n.toInt ≤ hN h b ∧ a ≠ b ∧ catS st ≤ 8) with e | e
      · rw [if_pos e] at h1
        dsimp only at h1
        rcases Classical.em (1 = 1 ∧ 0 < d) with e2 | e2
        · rw [if_pos e2] at h1
          exact ⟨⟨e2.2, e.2.2.1, e.2.2.2.1, e.2.2.2.2.1, e.2.2.2.2.2.1, e.2.2.2.2.2.2.1, e.2.2.2.2.2.2.2.2⟩, m, r, h', h1, h2⟩
        · rw [if_neg e2] at h1; cases h1
      · rw [if_neg e] at h1; cases h1
  · rintro ⟨e, m, r, h', h1, h2⟩
    refine ⟨m + 1, r, h', ?_, h2⟩
    rw [rn_e7 hx hd rfl rfl]
    dsimp only [sK]
    rw [if_pos rfl, hm]
    dsimp only
    rw [if_neg (by decide), if_pos rfl, hY, if_pos ⟨rfl, hkd, e.2.1, e.2.2.1, e.2.2.2.1, e.2.2.2.2.1, e.2.2.2.2.2.1, hne, e.2.2.2.2.2.2⟩]
    dsimp only
    rw [if_pos ⟨rfl, e.1⟩]
    exact h1
theorem k_thr (hx : mInfo mi = some x) (hd : decode x.2.1 pc = .ok (.athrow, 1)) (hlt : mi < 290) {k : Nat} : aWP d mi pc L (.ref k :: st) h Q ↔ hK h k = 0 ∧ Q (some (.retAddr k)) h := by
  constructor
  · rintro ⟨m, r, h', h1, h2⟩
    cases m with
    | zero => cases h1
    | succ m =>
      rw [rn_e8 hx hd rfl rfl] at h1
      dsimp only at h1
      split at h1
      · rename_i e
        cases h1
        exact ⟨e.2.1, h2⟩
      · cases h1
  · rintro ⟨e, h2⟩
    refine ⟨1, _, _, ?_, h2⟩
    rw [rn_e8 hx hd rfl rfl]
    dsimp only
    rw [if_pos ⟨rfl, e, hlt⟩]
end KSV
