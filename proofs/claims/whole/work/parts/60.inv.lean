/-! INV: what holds between two calls. Core (program, machine, values) comes later; here the tape, the fault, the ports, for any Core that does not look at them -/
/-- all but tape and ports is the same -/
def CEq (h g : Hp) : Prop := hK g = hK h ∧ hL g = hL h ∧ hR g = hR h ∧ hB g = hB h ∧ hN g = hN h ∧ hn g = hn h ∧ hu g = hu h ∧ (∀ a b, ¬ (b = 1 ∧ (a = 0 ∨ a = 59)) → a ≠ 50 → ¬ (a = 59 ∧ (b = 55 ∨ b = 57)) → hI g a b = hI h a b) ∧ (∀ a, a ≠ 1 → a ≠ 60 → a ≠ 51 → a ≠ 127 → a ≠ 52 → a ≠ 128 → hA g a = hA h a)
def Tp (h : Hp) : Prop := ∃ t, t ≤ 3000 ∧ hI h 0 1 = nI t ∧ hI h 59 1 = nI t ∧ (∀ j, j < t → hA h 1 j = hA h 60 j ∧ ∃ v : Int8, hA h 1 j = v.toInt32) ∧ hN h 1 = 3000 ∧ hN h 60 = 3000
def Fl (h : Hp) : Prop := hI h 2 0 = hI h 59 2 ∧ hI h 2 1 = hI h 59 3
def PoI (h : Hp) : Prop := hN h 51 = 200 ∧ hN h 127 = 200 ∧ ∃ f c, f < 200 ∧ c ≤ 200 ∧ hI h 50 1 = nI f ∧ hI h 50 2 = nI c ∧ hI h 59 55 = nI c ∧ ∀ j, j < c → hA h 51 ((f + j) % 200) = hA h 127 j
def PoO (h : Hp) : Prop := hN h 128 = 1000 ∧ ∃ o, o ≤ 1000 ∧ o ≤ hN h 52 ∧ hI h 50 4 = nI o ∧ hI h 59 57 = nI o ∧ ∀ j, j < o → hA h 52 j = hA h 128 j
def InvC (Core : Nat → Hp → Prop) (k : Nat) (h : Hp) : Prop := Sk h ∧ Tp h ∧ Fl h ∧ PoI h ∧ PoO h ∧ hI h 0 8 = hI h 59 19 ∧ Core k h
/-- Core does not look at tape and ports, and may be held on to -/
def CoC (Core : Nat → Hp → Prop) : Prop := ∀ k h g, CEq h g → Core k h → Core (k + 1) g
theorem ceq_rf (h : Hp) : CEq h h := ⟨rfl, rfl, rfl, rfl, rfl, rfl, rfl, fun _ _ _ _ _ => rfl, fun _ _ _ _ _ _ _ => rfl⟩
theorem as_1 {As : List Value} (hl : As.length = 1) (hv : ∀ v ∈ As, ∃ z, v = .int z) : ∃ z, As = [.int z] := by
  match As, hl with
  | [v], _ =>
    obtain ⟨z, hz⟩ := hv v (List.mem_cons_self ..)
    exact ⟨z, by rw [hz]⟩
theorem as_0 {As : List Value} (hl : As.length = 0) : As = [] := List.length_eq_zero_iff.mp hl
section OPS
variable {Core : Nat → Hp → Prop}
theorem inv_up (hC : CoC Core) {k : Nat} {h : Hp} (i : InvC Core k h) : InvC Core (k + 1) h :=
  ⟨i.1, i.2.1, i.2.2.1, i.2.2.2.1, i.2.2.2.2.1, i.2.2.2.2.2.1, hC k h h (ceq_rf h) i.2.2.2.2.2.2⟩
theorem op_fault (hC : CoC Core) : OpS (InvC Core) 164 202 1 := by
  intro k h As hk hi hl hv
  obtain ⟨z, rfl⟩ := as_1 hl hv
  have s := hi.1
  have up := inv_up hC hi
  obtain ⟨f1, f2⟩ := hi.2.2.1
  simp only [e164_0 _ _ s, e202_59 _ _ s]
  refine ⟨fun q => ⟨_, rfl, ?_⟩, fun q => ⟨fun q1 => ⟨_, rfl, ?_⟩, fun q1 => ⟨_, rfl, ?_⟩⟩⟩
  · exact ⟨fun c => absurd q c, fun _ => ⟨by rw [f1], up⟩⟩
  · exact ⟨fun _ => ⟨fun c => absurd q1 c, fun _ => ⟨by rw [f2], up⟩⟩, fun c => absurd c q⟩
  · exact ⟨fun _ => ⟨fun _ => ⟨rfl, up⟩, fun c => absurd c q1⟩, fun c => absurd c q⟩
theorem i32_nle {a b : Int32} : ¬ a ≤ b ↔ b < a := by
  rw [Int32.le_iff_toInt_le, Int32.lt_iff_toInt_lt]; omega
theorem i32_nlt {a b : Int32} : ¬ a < b ↔ b ≤ a := by
  rw [Int32.le_iff_toInt_le, Int32.lt_iff_toInt_lt]; omega
theorem op_output (hC : CoC Core) : OpS (InvC Core) 172 244 1 := by
  intro k h As hk hi hl hv
  obtain ⟨z, rfl⟩ := as_1 hl hv
  have s := hi.1
  have up := inv_up hC hi
  obtain ⟨n8, o, o1, o2, o3, o4, o5⟩ := hi.2.2.2.2.1
  simp only [e172_0 _ _ s, e244_59 _ _ s, o3, o4, n8]
  have ho := nI_small (n := o) (by omega)
  refine ⟨by decide, fun q => ⟨_, rfl, fun _ => ⟨rfl, up⟩, fun c => absurd q c⟩, fun q => ⟨fun q1 => ⟨_, rfl, fun c => absurd c q, fun _ => ⟨fun c => absurd q1 (i32_nle.2 c), fun _ => ⟨rfl, up⟩⟩⟩, fun q1 => ?_⟩⟩
  have h0 : 0 ≤ z.toInt := by
    rw [Int32.lt_iff_toInt_lt] at q
    have : (0 : Int32).toInt = 0 := rfl
    omega
  have h1 : z.toInt < o := by
    rw [Int32.le_iff_toInt_le, ho.1] at q1
    omega
  have hc : z.toNatClampNeg < o := by
    unfold Int32.toNatClampNeg; omega
  refine ⟨⟨h0, by omega⟩, _, rfl, fun c => absurd c q, fun _ => ⟨fun _ => ⟨⟨h0, by omega⟩, by rw [o5 _ hc], up⟩, fun c => absurd (i32_nle.1 q1) c⟩⟩
theorem op_clear (hC : CoC Core) : OpS (InvC Core) 162 194 0 := by
  intro k h As hk hi hl hv
  obtain rfl := as_0 hl
  obtain ⟨s, i2, i3, i4, ⟨n8, o, o1, o2, o3, o4, o5⟩, i6, i7⟩ := hi
  rw [e162_0 _ _ s]
  refine ⟨by decide, _, rfl, ?_⟩
  have s1 : Sk (pI h 50 4 0) := by rw [z_sk.1]; exact s
  rw [e194_59 _ _ s1]
  refine ⟨by rw [show hI (pI h 50 4 0) 59 57 = hI h 59 57 from rfl, o3, o4], ?_⟩
  refine ⟨by rw [z_sk.1]; exact s1, i2, i3, i4, ⟨n8, 0, Nat.zero_le _, Nat.zero_le _, rfl, rfl, fun j hj => absurd hj (Nat.not_lt_zero _)⟩, i6, hC k h _ ?_ i7⟩
  refine ⟨rfl, rfl, rfl, rfl, rfl, rfl, rfl, fun a b c1 c2 c3 => ?_, fun _ _ _ _ _ _ _ => rfl⟩
  show (if a = 59 ∧ b = 57 then (0 : Int32) else if a = 50 ∧ b = 4 then 0 else hI h a b) = hI h a b
  rw [if_neg (by omega), if_neg (by omega)]
end OPS
