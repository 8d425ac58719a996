/-! Inv at the start -/
def D0 : VD := (fun _ => 0, fun _ => 0, 0, 0)
theorem i0_I : hI hI0 0 1 = 0 ∧ hI hI0 59 1 = 0 ∧ hI hI0 2 0 = 0 ∧ hI hI0 59 2 = 0 ∧ hI hI0 2 1 = -1 ∧ hI hI0 59 3 = -1 ∧ hI hI0 50 1 = 0 ∧ hI hI0 50 2 = 0 ∧ hI hI0 59 55 = 0 ∧ hI hI0 50 4 = 0 ∧ hI hI0 59 57 = 0 ∧ hI hI0 0 8 = 0 ∧ hI hI0 59 19 = 0 := by decide +kernel
theorem i0_C : hI hI0 19 13 = 0 ∧ hI hI0 47 18 = 0 ∧ hI hI0 19 15 = 0 ∧ hI hI0 19 12 = 0 ∧ hI hI0 47 13 = -1 ∧ hI hI0 48 2 = 0 ∧ hI hI0 59 39 = 0 ∧ hI hI0 47 8 = 0 ∧ hI hI0 59 59 = 0 ∧ hI hI0 47 16 = 0 ∧ hI hI0 48 1 = 0 := by decide +kernel
theorem i0_N : hN hI0 1 = 3000 ∧ hN hI0 60 = 3000 ∧ hN hI0 51 = 200 ∧ hN hI0 127 = 200 ∧ hN hI0 128 = 1000 ∧ hN hI0 58 = 4 ∧ hN hI0 129 = 4 ∧ hN hI0 126 = 3000 ∧ hN hI0 57 = 100 ∧ hN hI0 24 = 120 := by decide +kernel
theorem i0_L : hL hI0 0 9 = 0 ∧ hL hI0 59 63 = 0 ∧ hL hI0 59 62 = 0 := by decide +kernel
theorem i0_B : ∀ j, j < 4 → hB hI0 58 j = 0 ∧ hB hI0 129 j = 0 := by decide +kernel
theorem i0_J : VJ D0 := ⟨fun _ _ q => absurd q (Nat.not_lt_zero _), fun _ _ q => absurd q (Nat.not_lt_zero _), fun _ q => absurd q (Nat.not_lt_zero _), by decide, by decide⟩
theorem i0_P : Pt D0 hI0 := by
  refine ⟨?_, fun j hj => ?_, i0_N.2.2.2.2.2.1, i0_N.2.2.2.2.2.2.1⟩
  · rw [i0_L.1, i0_L.2.1]; exact vr_0 D0
  · rw [(i0_B j hj).1, (i0_B j hj).2]; exact vr_0 D0
theorem i0_pg : PgX 19 hI0 ∧ PgM 66 hI0 := ⟨Or.inl ⟨rfl, hI0_v.1, hI0_v.2.1⟩, Or.inl ⟨rfl, hI0_v.2.2.2.2.2.1, hI0_v.2.2.2.2.2.2⟩⟩
theorem i0_cn : Cn 19 66 hI0 := by
  obtain ⟨c1, c2, c3, c4, c5, c6, c7, c8, c9, c10, c11⟩ := i0_C
  refine ⟨fun _ => ⟨c1, c2, c3, c4, c5⟩, fun c => absurd i0_I.2.2.2.2.2.2.2.2.2.2.2.2 c, by rw [c6, c7], by rw [c8, c9], by rw [c10, i0_L.2.2]; decide⟩
theorem i0_st : St D0 hI0 := ⟨0, i0_C.2.2.2.2.2.2.2.2.2.2, Nat.zero_le _, by decide, fun _ q => absurd q (Nat.not_lt_zero _), Nat.zero_le _, Nat.zero_le _⟩
theorem i0_pw : Pw D0 19 66 hI0 := ⟨0, 0, i0_C.2.2.2.2.2.2.2.2.2.2, Nat.zero_le _, by decide, i0_C.2.2.2.1, by decide, Nat.zero_le _, Nat.zero_le _, fun _ q => absurd q (Nat.not_lt_zero _)⟩
theorem inv_0 {Mach : VD → Nat → Hp → Prop} (m : Mach D0 0 hI0) : InvC (CoreM Mach) 0 hI0 := by
  obtain ⟨a1, a2, a3, a4, a5, a6, a7, a8, a9, a10, a11, a12, a13⟩ := i0_I
  obtain ⟨n1, n2, n3, n4, n5, n6, n7, n8, n9, n10⟩ := i0_N
  exact ⟨hI0_s, ⟨0, by decide, a1, a2, fun _ q => absurd q (Nat.not_lt_zero _), n1, n2⟩, ⟨by rw [a3, a4], by rw [a5, a6]⟩, ⟨n3, n4, 0, 0, by decide, by decide, a7, a8, a9, fun _ q => absurd q (Nat.not_lt_zero _)⟩, ⟨n5, 0, by decide, Nat.zero_le _, a10, a11, fun _ q => absurd q (Nat.not_lt_zero _)⟩, by rw [a12, a13], D0, i0_J, i0_P, m⟩
