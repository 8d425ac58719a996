/-! go -/
/-- the two stores: pairs and procedures -/
def St (D : VD) (h : Hp) : Prop := ∃ sz, hI h 48 1 = nI sz ∧ sz ≤ hN h 49 ∧ sz < 10000000 ∧
  (∀ i, i < D.2.2.1 → D.1 i < 10000000 → D.1 i + 1 < sz ∧ VR D (hB h 49 (D.1 i)) (hB h 112 i) ∧ VR D (hB h 49 (D.1 i + 1)) (hB h 113 i)) ∧ D.2.2.1 ≤ hN h 112 ∧ D.2.2.1 ≤ hN h 113
section GO
variable {h : Hp} {Q : Option Value → Hp → Prop} {Mach : VD → Nat → Hp → Prop}
theorem sp_goX (s : Sk h) {p sz b : Nat} (e9 : hL h 0 9 = vof 6 (nI p)) (e1 : hI h 48 1 = nI sz) (hp : p + b < sz) (hs : sz ≤ hN h 49) (hz : sz < 10000000) (hb : b = 0 ∨ b = 1) (hq : Q (some (.int 1)) (pL h 0 9 (hB h 49 (p + b)))) : aEv 1399 167 [.ref 0, .int (nI b)] h Q := by
  rw [e167_0 _ _ s, e9, vof_lo, nI_add, e1]
  have hn := nI_small (n := p + b) (by omega)
  rw [hn.1, hn.2]
  have c1 : ¬ nI (p + b) < 0 := fun c => by
    have := (nI_ltI (a := p + b) (b := 0) (by omega) (by omega)).mp c
    omega
  have c2 : ¬ nI sz ≤ nI (p + b) := fun c => by
    have := (nI_leI (a := sz) (b := p + b) (by omega) (by omega)).mp c
    omega
  refine ⟨by decide, fun c => absurd (vof_kd _ _) c, fun _ => ⟨fun q => ⟨by decide, by decide, fun c => absurd c c1, fun _ => ⟨fun c => absurd c c2, fun _ => ⟨⟨by omega, by omega⟩, hq⟩⟩⟩, fun q => ⟨fun q1 => ⟨by decide, by decide, fun c => absurd c c1, fun _ => ⟨fun c => absurd c c2, fun _ => ⟨⟨by omega, by omega⟩, hq⟩⟩⟩, fun q1 => ?_⟩⟩⟩
  rcases hb with rfl | rfl
  · exact absurd rfl q
  · exact absurd rfl q1
theorem sp_goM (s : Sk h) {i b : Nat} (e63 : hL h 59 63 = vof 6 (nI i)) (h1 : i < hN h 112) (h2 : i < hN h 113) (hz : i < 10000000) (hb : b = 0 ∨ b = 1) (hq : Q (some (.int 1)) (pL h 59 63 (if b = 0 then hB h 112 i else hB h 113 i))) : aEv 1399 212 [.ref 59, .int (nI b)] h Q := by
  rw [e212_59 _ _ s, e63, vof_lo]
  have hn := nI_small (n := i) (by omega)
  rw [hn.1, hn.2]
  rcases hb with rfl | rfl
  · exact ⟨by decide, fun c => absurd (vof_kr _ _) c, fun _ => ⟨fun c => absurd c (by decide), fun _ => ⟨fun _ => ⟨fun c => absurd rfl c, fun _ => ⟨by decide, ⟨by omega, by omega⟩, hq⟩⟩, fun c => absurd (by decide) c⟩⟩⟩
  · exact ⟨by decide, fun c => absurd (vof_kr _ _) c, fun _ => ⟨fun c => absurd c (by decide), fun _ => ⟨fun _ => ⟨fun _ => ⟨by decide, ⟨by omega, by omega⟩, hq⟩, fun c => absurd c (by decide)⟩, fun c => absurd (by decide) c⟩⟩⟩
theorem i32_01 {z : Int32} (h0 : ¬ z = 0) (h1 : ¬ z = 1) : z < 0 ∨ ¬ z ≤ 1 := by
  by_cases c : z < 0
  · exact Or.inl c
  · refine Or.inr fun c2 => ?_
    rw [Int32.lt_iff_toInt_lt] at c
    rw [Int32.le_iff_toInt_le] at c2
    have e0 : (0 : Int32).toInt = 0 := rfl
    have e1 : (1 : Int32).toInt = 1 := rfl
    rcases (show z.toInt = 0 ∨ z.toInt = 1 by omega) with q | q
    · exact h0 (Int32.toInt_inj.mp (q.trans e0.symm))
    · exact h1 (Int32.toInt_inj.mp (q.trans e1.symm))
theorem vr_pair {D : VD} {v w : Int64} (r : VR D v w) : (vkd v ≠ 6 ∧ (w >>> ((32 : Int32).toInt64 &&& 63)).toInt32 ≠ 6) ∨ ∃ i, (i < D.2.2.1 ∧ D.1 i < 10000000) ∧ v = vof 6 (nI (D.1 i)) ∧ w = vof 6 (nI i) := by
  rcases r with ⟨k, c, k1, rfl, rfl, k2⟩ | ⟨i, i1, rfl, rfl⟩ | ⟨i, i1, rfl, rfl⟩ | ⟨i, i1, rfl, rfl⟩
  · left
    rw [vof_kd, vof_kr]
    have : nI k ≠ 6 := fun e => by
      have := nI_inj (a := k) (b := 6) (by omega) (by omega) e
      omega
    exact ⟨this, this⟩
  · exact Or.inr ⟨i, i1, rfl, rfl⟩
  · left; rw [vof_kd, vof_kr]; decide
  · left; rw [vof_kd, vof_kr]; decide
theorem op_go (hM : CoM Mach) (hS : ∀ D k h, Mach D k h → St D h) : OpS (InvC (CoreM Mach)) 167 212 1 := by
  intro k h As hk hi hl hv
  obtain ⟨z, rfl⟩ := as_1 hl hv
  have up := inv_up (coc_of hM) hi
  obtain ⟨s, i2, i3, i4, i5, i6, D, J, ⟨p1, p2, p3, p4⟩, m⟩ := hi
  obtain ⟨sz, s1, s2, s3, s4, s5, s6⟩ := hS D k h m
  have fin : ∀ v w, VR D v w → InvC (CoreM Mach) (k + 1) (pL (pL h 0 9 v) 59 63 w) := fun v w r => by
    refine ⟨(sk_same rfl rfl rfl : Sk _ = Sk h) ▸ s, i2, i3, i4, i5, i6, D, J, ⟨r, p2, p3, p4⟩, hM D k h _ ?_ m⟩
    refine ⟨rfl, rfl, rfl, rfl, rfl, fun a b c1 c2 => ?_, fun _ _ _ => rfl, fun _ _ _ _ _ => rfl, fun _ _ _ _ _ _ _ => rfl⟩
    show (if a = 59 ∧ b = 63 then w else if a = 0 ∧ b = 9 then v else hL h a b) = hL h a b
    rw [if_neg c2, if_neg c1]
  rcases vr_pair p1 with ⟨q1, q2⟩ | ⟨i, i1, e9, e63⟩
  · rw [e167_0 _ _ s]
    refine ⟨by decide, fun _ => ⟨_, rfl, ?_⟩, fun c => absurd c q1⟩
    rw [e212_59 _ _ s]
    exact ⟨by decide, fun _ => ⟨rfl, up⟩, fun c => absurd c q2⟩
  · obtain ⟨t1, t2, t3⟩ := s4 i i1.1 i1.2
    have j5 := J.2.2.2.1
    obtain ⟨i1, i1b⟩ := i1
    by_cases z0 : z = 0
    · subst z0
      refine sp_goX (b := 0) s e9 s1 (by omega) s2 s3 (Or.inl rfl) ⟨_, rfl, ?_⟩
      refine sp_goM (b := 0) ((sk_same rfl rfl rfl : Sk _ = Sk h) ▸ s) e63 (show i < hN h 112 by omega) (show i < hN h 113 by omega) (by omega) (Or.inl rfl) ⟨rfl, ?_⟩
      exact fin _ _ t2
    · by_cases z1 : z = 1
      · subst z1
        refine sp_goX (b := 1) s e9 s1 (by omega) s2 s3 (Or.inr rfl) ⟨_, rfl, ?_⟩
        refine sp_goM (b := 1) ((sk_same rfl rfl rfl : Sk _ = Sk h) ▸ s) e63 (show i < hN h 112 by omega) (show i < hN h 113 by omega) (by omega) (Or.inr rfl) ⟨rfl, ?_⟩
        exact fin _ _ t3
      · rw [e167_0 _ _ s]
        refine ⟨by decide, fun _ => ⟨_, rfl, ?_⟩, fun _ => ⟨fun c => absurd c z0, fun _ => ⟨fun c => absurd c z1, fun _ => ⟨_, rfl, ?_⟩⟩⟩⟩ <;>
        · rw [e212_59 _ _ s]
          rcases i32_01 z0 z1 with c | c
          · exact ⟨by decide, fun _ => ⟨rfl, up⟩, fun _ => ⟨fun _ => ⟨rfl, up⟩, fun c' => absurd c c'⟩⟩
          · exact ⟨by decide, fun _ => ⟨rfl, up⟩, fun _ => ⟨fun _ => ⟨rfl, up⟩, fun _ => ⟨fun c' => absurd c' c, fun _ => ⟨rfl, up⟩⟩⟩⟩
end GO
