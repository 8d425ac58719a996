/-! count -/
def PgX (p : Nat) (h : Hp) : Prop := p = 19 ∧ hR h 0 6 = some 19 ∧ hR h 0 7 = some 29 ∨ p = 29 ∧ hR h 0 6 = some 29 ∧ hR h 0 7 = some 19
def PgM (q : Nat) (h : Hp) : Prop := q = 66 ∧ hR h 59 17 = some 66 ∧ hR h 59 18 = some 86 ∨ q = 86 ∧ hR h 59 17 = some 86 ∧ hR h 59 18 = some 66
def Cn (p q : Nat) (h : Hp) : Prop := (hI h 59 19 = 0 → hI h p 13 = 0 ∧ hI h 47 18 = 0 ∧ hI h p 15 = 0 ∧ hI h p 12 = 0 ∧ hI h 47 13 = -1) ∧ (¬ hI h 59 19 = 0 → hI h p 13 = hI h q 2 ∧ hI h 47 18 = hI h 59 58 ∧ hI h p 15 = hI h q 4 ∧ hI h p 12 = hI h q 5 ∧ hI h 47 13 = hI h 59 60) ∧ hI h 48 2 = hI h 59 39 ∧ hI h 47 8 = hI h 59 59 ∧ hI h 47 16 = (hL h 59 62).toInt32
def cntX (h : Hp) (p : Nat) (a : Int32) : Int32 := if a = 0 then hI h 0 1 else if a = 1 then (if hI h 0 8 = 0 then 0 else 1) else if a = 2 then hI h p 13 else if a = 3 then hI h 47 18 else if a = 4 then hI h p 15 else if a = 5 then hI h p 12 else if a = 6 then hI h 50 2 else if a = 7 then hI h 50 4 else if a = 8 then hI h 48 2 else if a = 9 then hI h 47 8 else if a = 10 then hI h 47 16 else if a = 11 then hI h 47 13 else -1
def cntM (h : Hp) (q : Nat) (a : Int32) : Int32 := if a = 0 then hI h 59 1 else if a = 1 then (if hI h 59 19 = 0 then 0 else 1) else if a = 2 then (if hI h 59 19 = 0 then 0 else hI h q 2) else if a = 3 then (if hI h 59 19 = 0 then 0 else hI h 59 58) else if a = 4 then (if hI h 59 19 = 0 then 0 else hI h q 4) else if a = 5 then (if hI h 59 19 = 0 then 0 else hI h q 5) else if a = 6 then hI h 59 55 else if a = 7 then hI h 59 57 else if a = 8 then hI h 59 39 else if a = 9 then hI h 59 59 else if a = 10 then (hL h 59 62).toInt32 else if a = 11 then (if hI h 59 19 = 0 then (-1) else hI h 59 60) else -1
section CNT
variable {h : Hp} {Q : Option Value → Hp → Prop} {Mach : VD → Nat → Hp → Prop}
theorem sp_countX (s : Sk h) {p : Nat} (P : PgX p h) {a : Int32} (hq : Q (some (.int (cntX h p a))) h) : aEv 1399 163 [.ref 0, .int a] h Q := by
  unfold cntX at hq
  rcases P with ⟨rfl, x6, x7⟩ | ⟨rfl, x6, x7⟩
  · rw [e163_0a _ _ s x6 x7]
    refine ⟨fun q => by rw [if_pos q] at hq; exact hq, fun q => ?_⟩
    rw [if_neg q] at hq
    refine ⟨fun q => ⟨fun r => by rw [if_pos q, if_pos r] at hq; exact hq, fun r => by rw [if_pos q, if_neg r] at hq; exact hq⟩, fun q => ?_⟩
    rw [if_neg q] at hq
    refine ⟨fun q => by rw [if_pos q] at hq; exact hq, fun q => ?_⟩
    rw [if_neg q] at hq
    refine ⟨fun q => by rw [if_pos q] at hq; exact hq, fun q => ?_⟩
    rw [if_neg q] at hq
    refine ⟨fun q => by rw [if_pos q] at hq; exact hq, fun q => ?_⟩
    rw [if_neg q] at hq
    refine ⟨fun q => by rw [if_pos q] at hq; exact hq, fun q => ?_⟩
    rw [if_neg q] at hq
    refine ⟨fun q => by rw [if_pos q] at hq; exact hq, fun q => ?_⟩
    rw [if_neg q] at hq
    refine ⟨fun q => by rw [if_pos q] at hq; exact hq, fun q => ?_⟩
    rw [if_neg q] at hq
    refine ⟨fun q => by rw [if_pos q] at hq; exact hq, fun q => ?_⟩
    rw [if_neg q] at hq
    refine ⟨fun q => by rw [if_pos q] at hq; exact hq, fun q => ?_⟩
    rw [if_neg q] at hq
    refine ⟨fun q => by rw [if_pos q] at hq; exact hq, fun q => ?_⟩
    rw [if_neg q] at hq
    refine ⟨fun q => by rw [if_pos q] at hq; exact hq, fun q => ?_⟩
    rw [if_neg q] at hq
    exact hq
  · rw [e163_0b _ _ s x6 x7]
    refine ⟨fun q => by rw [if_pos q] at hq; exact hq, fun q => ?_⟩
    rw [if_neg q] at hq
    refine ⟨fun q => ⟨fun r => by rw [if_pos q, if_pos r] at hq; exact hq, fun r => by rw [if_pos q, if_neg r] at hq; exact hq⟩, fun q => ?_⟩
    rw [if_neg q] at hq
    refine ⟨fun q => by rw [if_pos q] at hq; exact hq, fun q => ?_⟩
    rw [if_neg q] at hq
    refine ⟨fun q => by rw [if_pos q] at hq; exact hq, fun q => ?_⟩
    rw [if_neg q] at hq
    refine ⟨fun q => by rw [if_pos q] at hq; exact hq, fun q => ?_⟩
    rw [if_neg q] at hq
    refine ⟨fun q => by rw [if_pos q] at hq; exact hq, fun q => ?_⟩
    rw [if_neg q] at hq
    refine ⟨fun q => by rw [if_pos q] at hq; exact hq, fun q => ?_⟩
    rw [if_neg q] at hq
    refine ⟨fun q => by rw [if_pos q] at hq; exact hq, fun q => ?_⟩
    rw [if_neg q] at hq
    refine ⟨fun q => by rw [if_pos q] at hq; exact hq, fun q => ?_⟩
    rw [if_neg q] at hq
    refine ⟨fun q => by rw [if_pos q] at hq; exact hq, fun q => ?_⟩
    rw [if_neg q] at hq
    refine ⟨fun q => by rw [if_pos q] at hq; exact hq, fun q => ?_⟩
    rw [if_neg q] at hq
    refine ⟨fun q => by rw [if_pos q] at hq; exact hq, fun q => ?_⟩
    rw [if_neg q] at hq
    exact hq
theorem sp_countM (s : Sk h) {q : Nat} (P : PgM q h) {a : Int32} (hq : Q (some (.int (cntM h q a))) h) : aEv 1399 197 [.ref 59, .int a] h Q := by
  unfold cntM at hq
  rcases P with ⟨rfl, x6, x7⟩ | ⟨rfl, x6, x7⟩
  · rw [e197_59a _ _ s x6 x7]
    refine ⟨fun q => by rw [if_pos q] at hq; exact hq, fun q => ?_⟩
    rw [if_neg q] at hq
    refine ⟨fun q => ⟨fun r => by rw [if_pos q, if_pos r] at hq; exact hq, fun r => by rw [if_pos q, if_neg r] at hq; exact hq⟩, fun q => ?_⟩
    rw [if_neg q] at hq
    refine ⟨fun q => ⟨fun r => by rw [if_pos q, if_pos r] at hq; exact hq, fun r => by rw [if_pos q, if_neg r] at hq; exact hq⟩, fun q => ?_⟩
    rw [if_neg q] at hq
    refine ⟨fun q => ⟨fun r => by rw [if_pos q, if_pos r] at hq; exact hq, fun r => by rw [if_pos q, if_neg r] at hq; exact hq⟩, fun q => ?_⟩
    rw [if_neg q] at hq
    refine ⟨fun q => ⟨fun r => by rw [if_pos q, if_pos r] at hq; exact hq, fun r => by rw [if_pos q, if_neg r] at hq; exact hq⟩, fun q => ?_⟩
    rw [if_neg q] at hq
    refine ⟨fun q => ⟨fun r => by rw [if_pos q, if_pos r] at hq; exact hq, fun r => by rw [if_pos q, if_neg r] at hq; exact hq⟩, fun q => ?_⟩
    rw [if_neg q] at hq
    refine ⟨fun q => by rw [if_pos q] at hq; exact hq, fun q => ?_⟩
    rw [if_neg q] at hq
    refine ⟨fun q => by rw [if_pos q] at hq; exact hq, fun q => ?_⟩
    rw [if_neg q] at hq
    refine ⟨fun q => by rw [if_pos q] at hq; exact hq, fun q => ?_⟩
    rw [if_neg q] at hq
    refine ⟨fun q => by rw [if_pos q] at hq; exact hq, fun q => ?_⟩
    rw [if_neg q] at hq
    refine ⟨fun q => by rw [if_pos q] at hq; exact hq, fun q => ?_⟩
    rw [if_neg q] at hq
    refine ⟨fun q => ⟨fun r => by rw [if_pos q, if_pos r] at hq; exact hq, fun r => by rw [if_pos q, if_neg r] at hq; exact hq⟩, fun q => ?_⟩
    rw [if_neg q] at hq
    exact hq
  · rw [e197_59b _ _ s x6 x7]
    refine ⟨fun q => by rw [if_pos q] at hq; exact hq, fun q => ?_⟩
    rw [if_neg q] at hq
    refine ⟨fun q => ⟨fun r => by rw [if_pos q, if_pos r] at hq; exact hq, fun r => by rw [if_pos q, if_neg r] at hq; exact hq⟩, fun q => ?_⟩
    rw [if_neg q] at hq
    refine ⟨fun q => ⟨fun r => by rw [if_pos q, if_pos r] at hq; exact hq, fun r => by rw [if_pos q, if_neg r] at hq; exact hq⟩, fun q => ?_⟩
    rw [if_neg q] at hq
    refine ⟨fun q => ⟨fun r => by rw [if_pos q, if_pos r] at hq; exact hq, fun r => by rw [if_pos q, if_neg r] at hq; exact hq⟩, fun q => ?_⟩
    rw [if_neg q] at hq
    refine ⟨fun q => ⟨fun r => by rw [if_pos q, if_pos r] at hq; exact hq, fun r => by rw [if_pos q, if_neg r] at hq; exact hq⟩, fun q => ?_⟩
    rw [if_neg q] at hq
    refine ⟨fun q => ⟨fun r => by rw [if_pos q, if_pos r] at hq; exact hq, fun r => by rw [if_pos q, if_neg r] at hq; exact hq⟩, fun q => ?_⟩
    rw [if_neg q] at hq
    refine ⟨fun q => by rw [if_pos q] at hq; exact hq, fun q => ?_⟩
    rw [if_neg q] at hq
    refine ⟨fun q => by rw [if_pos q] at hq; exact hq, fun q => ?_⟩
    rw [if_neg q] at hq
    refine ⟨fun q => by rw [if_pos q] at hq; exact hq, fun q => ?_⟩
    rw [if_neg q] at hq
    refine ⟨fun q => by rw [if_pos q] at hq; exact hq, fun q => ?_⟩
    rw [if_neg q] at hq
    refine ⟨fun q => by rw [if_pos q] at hq; exact hq, fun q => ?_⟩
    rw [if_neg q] at hq
    refine ⟨fun q => ⟨fun r => by rw [if_pos q, if_pos r] at hq; exact hq, fun r => by rw [if_pos q, if_neg r] at hq; exact hq⟩, fun q => ?_⟩
    rw [if_neg q] at hq
    exact hq
theorem cnt_eq {p q : Nat} (c : Cn p q h) (e0 : hI h 0 1 = hI h 59 1) (e1 : hI h 0 8 = hI h 59 19) (e6 : hI h 50 2 = hI h 59 55) (e7 : hI h 50 4 = hI h 59 57) (a : Int32) : cntX h p a = cntM h q a := by
  obtain ⟨c1, c2, c3, c4, c5⟩ := c
  unfold cntX cntM
  by_cases g : hI h 59 19 = 0
  · obtain ⟨d1, d2, d3, d4, d5⟩ := c1 g
    rw [e0, e1, d1, d2, d3, d4, d5, c3, c4, c5, e6, e7]
    simp only [if_pos g]
  · obtain ⟨d1, d2, d3, d4, d5⟩ := c2 g
    rw [e0, e1, d1, d2, d3, d4, d5, c3, c4, c5, e6, e7]
    simp only [if_neg g]
theorem op_count (hM : CoM Mach) (hS : ∀ D k h, Mach D k h → ∃ p q, PgX p h ∧ PgM q h ∧ Cn p q h) : OpS (InvC (CoreM Mach)) 163 197 1 := by
  intro k h As hk hi hl hv
  obtain ⟨z, rfl⟩ := as_1 hl hv
  have up := inv_up (coc_of hM) hi
  obtain ⟨s, ⟨t, t1, t2, t3, t4⟩, i3, ⟨n1, n2, f, c, f1, f2, f3, f4, f5, f6⟩, ⟨n3, o, o1, o2, o3, o4, o5⟩, i6, D, J, P, m⟩ := hi
  obtain ⟨p, q, g1, g2, g3⟩ := hS D k h m
  exact sp_countX s g1 ⟨_, rfl, sp_countM s g2 ⟨by rw [cnt_eq g3 (t2.trans t3.symm) i6 (f4.trans f5.symm) (o3.trans o4.symm)], up⟩⟩
end CNT
