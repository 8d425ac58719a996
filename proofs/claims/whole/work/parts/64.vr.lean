/-! values of the class against values of the reference: pairs and procedures by maps -/
abbrev VD := (Nat → Nat) × (Nat → Nat) × Nat × Nat
def VR (D : VD) (v w : Int64) : Prop :=
  (∃ k c, k < 6 ∧ v = vof (nI k) c ∧ w = vof (nI k) c ∧ (c = 0 ∨ k = 1 ∨ k = 5)) ∨
  (∃ i, (i < D.2.2.1 ∧ D.1 i < 10000000) ∧ v = vof 6 (nI (D.1 i)) ∧ w = vof 6 (nI i)) ∨
  (∃ i, i < D.2.2.2 ∧ v = vof 7 (nI (D.2.1 i)) ∧ w = vof 7 (nI i)) ∨
  (∃ i, i < 20 ∧ v = vof 8 (nI i) ∧ w = vof 8 (nI (i + 11)))
/-- the maps are one to one, and below 2^31 -/
def VJ (D : VD) : Prop := (∀ i j, i < D.2.2.1 → j < D.2.2.1 → D.1 i < 10000000 → D.1 i = D.1 j → i = j) ∧ (∀ i j, i < D.2.2.2 → j < D.2.2.2 → D.2.1 i = D.2.1 j → i = j) ∧ (∀ i, i < D.2.2.2 → D.2.1 i < 10000000) ∧ D.2.2.1 < 10000000 ∧ D.2.2.2 < 10000000
theorem nI_inj {a b : Nat} (ha : a < 60000000) (hb : b < 60000000) (h : nI a = nI b) : a = b := by
  have h1 := congrArg Int32.toInt h
  rw [nI_toInt (by omega), nI_toInt (by omega)] at h1
  omega
theorem vr_eq {D : VD} (J : VJ D) {v w v' w' : Int64} (h : VR D v w) (h' : VR D v' w') : v = v' ↔ w = w' := by
  obtain ⟨j1, j2, j4, j5, j6⟩ := J
  have n6 : (6 : Int32) = nI 6 := rfl
  have n7 : (7 : Int32) = nI 7 := rfl
  have n8 : (8 : Int32) = nI 8 := rfl
  rcases h with ⟨k, c, k1, rfl, rfl, k2⟩ | ⟨i, i1, rfl, rfl⟩ | ⟨i, i1, rfl, rfl⟩ | ⟨i, i1, rfl, rfl⟩ <;> rcases h' with ⟨k', c', k1', rfl, rfl, k2'⟩ | ⟨i', i1', rfl, rfl⟩ | ⟨i', i1', rfl, rfl⟩ | ⟨i', i1', rfl, rfl⟩
  · exact Iff.rfl
  · constructor <;> (intro e; have := (vof_inj e).1; rw [n6] at this; have := nI_inj (by omega) (by omega) this; omega)
  · constructor <;> (intro e; have := (vof_inj e).1; rw [n7] at this; have := nI_inj (by omega) (by omega) this; omega)
  · constructor <;> (intro e; have := (vof_inj e).1; rw [n8] at this; have := nI_inj (by omega) (by omega) this; omega)
  · constructor <;> (intro e; have := (vof_inj e).1; rw [n6] at this; have := nI_inj (by omega) (by omega) this; omega)
  · constructor
    · intro e
      have := nI_inj (by have := i1.2; omega) (by have := i1'.2; omega) (vof_inj e).2
      rw [j1 i i' i1.1 i1'.1 i1.2 this]
    · intro e
      have := nI_inj (by omega) (by omega) (vof_inj e).2
      rw [this]
  · constructor <;> (intro e; exact absurd (vof_inj e).1 (by decide))
  · constructor <;> (intro e; exact absurd (vof_inj e).1 (by decide))
  · constructor <;> (intro e; have := (vof_inj e).1; rw [n7] at this; have := nI_inj (by omega) (by omega) this; omega)
  · constructor <;> (intro e; exact absurd (vof_inj e).1 (by decide))
  · constructor
    · intro e
      have := nI_inj (by have := j4 i i1; omega) (by have := j4 i' i1'; omega) (vof_inj e).2
      rw [j2 i i' i1 i1' this]
    · intro e
      have := nI_inj (by omega) (by omega) (vof_inj e).2
      rw [this]
  · constructor <;> (intro e; exact absurd (vof_inj e).1 (by decide))
  · constructor <;> (intro e; have := (vof_inj e).1; rw [n8] at this; have := nI_inj (by omega) (by omega) this; omega)
  · constructor <;> (intro e; exact absurd (vof_inj e).1 (by decide))
  · constructor <;> (intro e; exact absurd (vof_inj e).1 (by decide))
  · constructor
    · intro e
      have := nI_inj (by omega) (by omega) (vof_inj e).2
      rw [this]
    · intro e
      have := nI_inj (by omega) (by omega) (vof_inj e).2
      rw [show i = i' by omega]
/-- all but tape, ports, pointer and places is the same -/
def MEq (h g : Hp) : Prop := hK g = hK h ∧ hR g = hR h ∧ hN g = hN h ∧ hn g = hn h ∧ hu g = hu h ∧ (∀ a b, ¬ (a = 0 ∧ b = 9) → ¬ (a = 59 ∧ b = 63) → hL g a b = hL h a b) ∧ (∀ a, a ≠ 58 → a ≠ 129 → hB g a = hB h a) ∧ (∀ a b, ¬ (b = 1 ∧ (a = 0 ∨ a = 59)) → a ≠ 50 → ¬ (a = 59 ∧ (b = 55 ∨ b = 57)) → hI g a b = hI h a b) ∧ (∀ a, a ≠ 1 → a ≠ 60 → a ≠ 51 → a ≠ 127 → a ≠ 52 → a ≠ 128 → hA g a = hA h a)
theorem ceq_meq {h g : Hp} (q : CEq h g) : MEq h g := ⟨q.1, q.2.2.1, q.2.2.2.2.1, q.2.2.2.2.2.1, q.2.2.2.2.2.2.1, fun a b _ _ => by rw [q.2.1], fun a _ _ => by rw [q.2.2.2.1], q.2.2.2.2.2.2.2.1, q.2.2.2.2.2.2.2.2⟩
/-- pointer and places -/
def Pt (D : VD) (h : Hp) : Prop := VR D (hL h 0 9) (hL h 59 63) ∧ (∀ j, j < 4 → VR D (hB h 58 j) (hB h 129 j)) ∧ hN h 58 = 4 ∧ hN h 129 = 4
def CoreM (Mach : VD → Nat → Hp → Prop) (k : Nat) (h : Hp) : Prop := ∃ D, VJ D ∧ Pt D h ∧ Mach D k h
def CoM (Mach : VD → Nat → Hp → Prop) : Prop := ∀ D k h g, MEq h g → Mach D k h → Mach D (k + 1) g
section OPM
variable {Mach : VD → Nat → Hp → Prop}
theorem coc_of (hM : CoM Mach) : CoC (CoreM Mach) := fun k h g q ⟨D, j, p, m⟩ => by
  refine ⟨D, j, ?_, hM D k h g (ceq_meq q) m⟩
  unfold Pt
  rw [q.2.1, q.2.2.2.1, q.2.2.2.2.1]
  exact p
theorem op_mark (hM : CoM Mach) : OpS (InvC (CoreM Mach)) 170 237 1 := by
  intro k h As hk hi hl hv
  obtain ⟨z, rfl⟩ := as_1 hl hv
  have up := inv_up (coc_of hM) hi
  obtain ⟨s, i2, i3, i4, i5, i6, D, J, ⟨p1, p2, p3, p4⟩, m⟩ := hi
  rw [e170_0 _ _ s, p3]
  refine ⟨fun q => ⟨_, rfl, ?_⟩, fun q => ⟨fun q1 => ?_, fun q1 => ⟨_, rfl, ?_⟩⟩⟩
  · rw [e237_59 _ _ s]
    exact ⟨fun _ => ⟨rfl, up⟩, fun c => absurd q c⟩
  · have h0 : 0 ≤ z.toInt := by
      rw [Int32.lt_iff_toInt_lt] at q
      have : (0 : Int32).toInt = 0 := rfl
      omega
    have h1 : z.toInt < 4 := by
      rw [Int32.lt_iff_toInt_lt] at q1
      exact q1
    refine ⟨⟨h0, h1⟩, _, rfl, ?_⟩
    have s1 : Sk (pB h 58 (vp_updL (hB h 58) z.toNatClampNeg (hL h 0 9))) := (sk_same rfl rfl rfl : Sk _ = Sk h) ▸ s
    rw [e237_59 _ _ s1]
    refine ⟨fun c => absurd c q, fun _ => ⟨fun _ => ⟨⟨h0, ?_⟩, rfl, ?_⟩, fun c => absurd q1 c⟩⟩
    · rw [show hN (pB h 58 (vp_updL (hB h 58) z.toNatClampNeg (hL h 0 9))) 129 = 4 from p4]; exact h1
    · refine ⟨(sk_same rfl rfl rfl : Sk _ = Sk h) ▸ s, i2, i3, i4, i5, i6, D, J, ⟨p1, fun j hj => ?_, p3, p4⟩, hM D k h _ ?_ m⟩
      · show VR D (vp_updL (hB h 58) z.toNatClampNeg (hL h 0 9) j) (vp_updL (hB h 129) z.toNatClampNeg (hL h 59 63) j)
        unfold vp_updL
        split
        · exact p1
        · exact p2 j hj
      · refine ⟨rfl, rfl, rfl, rfl, rfl, fun _ _ _ _ => rfl, fun a g1 g2 => ?_, fun _ _ _ _ _ => rfl, fun _ _ _ _ _ _ _ => rfl⟩
        show va_up (va_up (hB h) 58 _) 129 _ a = hB h a
        unfold va_up
        rw [if_neg g2, if_neg g1]
  · rw [e237_59 _ _ s]
    exact ⟨fun c => absurd c q, fun _ => ⟨fun c => absurd c q1, fun _ => ⟨rfl, up⟩⟩⟩
theorem cmp_0 {a b : Int64} : lg_cmp a b = 0 ↔ a = b := by
  unfold lg_cmp
  constructor
  · intro e
    by_cases c : a > b
    · rw [if_pos c] at e; exact absurd e (by decide)
    · rw [if_neg c] at e
      by_cases c2 : a = b
      · exact c2
      · rw [if_neg c2] at e; exact absurd e (by decide)
  · intro e
    rw [if_neg (fun c => by rw [e, gt_iff_lt, Int64.lt_iff_toInt_lt] at c; omega), if_pos e]
theorem op_same (hM : CoM Mach) : OpS (InvC (CoreM Mach)) 176 258 1 := by
  intro k h As hk hi hl hv
  obtain ⟨z, rfl⟩ := as_1 hl hv
  have up := inv_up (coc_of hM) hi
  obtain ⟨s, i2, i3, i4, i5, i6, D, J, ⟨p1, p2, p3, p4⟩, m⟩ := hi
  simp only [e176_0 _ _ s, e258_59 _ _ s, p3, p4, cmp_0]
  refine ⟨fun q => ⟨_, rfl, fun _ => ⟨rfl, up⟩, fun c => absurd q c⟩, fun q => ⟨fun q1 => ⟨_, rfl, fun c => absurd c q, fun _ => ⟨fun _ => ⟨rfl, up⟩, fun c => absurd q1 c⟩⟩, fun q1 => ?_⟩⟩
  have h0 : 0 ≤ z.toInt := by
    rw [Int32.lt_iff_toInt_lt] at q
    have : (0 : Int32).toInt = 0 := rfl
    omega
  have h1 : z.toInt < 4 := by
    rw [Int32.le_iff_toInt_le] at q1
    have : (4 : Int32).toInt = 4 := rfl
    omega
  have hz : z.toNatClampNeg < 4 := by unfold Int32.toNatClampNeg; omega
  have e := vr_eq J (p2 _ hz) p1
  refine ⟨⟨h0, h1⟩, fun q2 => ⟨_, rfl, fun c => absurd c q, fun _ => ⟨fun c => absurd c q1, fun _ => ⟨⟨h0, h1⟩, fun _ => ⟨rfl, up⟩, fun c => absurd (e.mpr c) q2⟩⟩⟩, fun q2 => ⟨_, rfl, fun c => absurd c q, fun _ => ⟨fun c => absurd c q1, fun _ => ⟨⟨h0, h1⟩, fun c => absurd (e.mp q2) c, fun _ => ⟨rfl, up⟩⟩⟩⟩⟩
end OPM
