/-! THE SUM: the claim out of Mach and the three great calls -/
/-- what Mach must give -/
def MaS (Mach : VD → Nat → Hp → Prop) : Prop := ∀ D k h, Mach D k h → St D h ∧ (∃ p q, PgX p h ∧ PgM q h ∧ Cn p q h ∧ hN h 126 = 3000 ∧ (¬ hI h 59 19 = 0 → Gl D p q h) ∧ Pw D p q h) ∧ hn h ≤ 601024 ∧ hu h ≤ 7293034
theorem ops_of {Mach : VD → Nat → Hp → Prop} (hM : CoM Mach) (hS : MaS Mach) (oB : OpS (InvC (CoreM Mach)) 161 290 1) (oR : OpS (InvC (CoreM Mach)) 174 254 0) (oN : OpS (InvC (CoreM Mach)) 175 257 1) : OpsOK (InvC (CoreM Mach)) :=
  ⟨op_feed (coc_of hM), oB, op_fault (coc_of hM), oR, op_input (coc_of hM), oN, op_output (coc_of hM), op_clear (coc_of hM),
   op_global hM (fun D k h m => by
     obtain ⟨_, ⟨p, q, g1, g2, g3, g4, g5, g6⟩, _⟩ := hS D k h m
     exact ⟨p, q, g1, g2, g3, g4, g5⟩),
   op_go hM (fun D k h m => (hS D k h m).1), op_mark hM, op_same hM,
   op_at hM (fun D k h m => by
     obtain ⟨_, ⟨p, q, g1, g2, g3, g4, g5, g6⟩, _⟩ := hS D k h m
     exact ⟨p, q, g1, g2, g6⟩),
   op_count hM (fun D k h m => by
     obtain ⟨_, ⟨p, q, g1, g2, g3, g4, g5, g6⟩, _⟩ := hS D k h m
     exact ⟨p, q, g1, g2, g3⟩),
   fun _ _ i => inv_up (coc_of hM) i⟩
theorem invb_of {Mach : VD → Nat → Hp → Prop} (hS : MaS Mach) : InvB (InvC (CoreM Mach)) := fun k h i => by
  obtain ⟨s, _, _, _, _, _, D, _, _, m⟩ := i
  exact ⟨s.1 0 (by decide), s.1 59 (by decide), (hS D k h m).2.2.1, (hS D k h m).2.2.2⟩
theorem whole_of {Mach : VD → Nat → Hp → Prop} (hM : CoM Mach) (hS : MaS Mach) (m0 : Mach D0 0 hI0) (oB : OpS (InvC (CoreM Mach)) 161 290 1) (oR : OpS (InvC (CoreM Mach)) 174 254 0) (oN : OpS (InvC (CoreM Mach)) 175 257 1) : Claimed_1_1 ∧ Claimed_1_2 :=
  vc_of (invb_of hS) (ops_of hM hS oB oR oN) (init_ok (inv_0 m0))
