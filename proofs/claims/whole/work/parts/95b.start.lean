/-! the start, and what is left: build -/
theorem vy_i0 : Vy hI0 := by
  obtain ⟨v1, v2, v3, v4, v5, v6, v7⟩ := hI0_v
  intro a b c
  rcases vr_is c with ⟨rfl, rfl⟩ | ⟨rfl, rfl⟩ | ⟨rfl, rfl⟩ | ⟨rfl, rfl⟩ | ⟨rfl, rfl⟩ | ⟨rfl, rfl⟩ | ⟨rfl, rfl⟩
  · exact ⟨19, v1, by decide⟩
  · exact ⟨29, v2, by decide⟩
  · exact ⟨29, v3, by decide⟩
  · exact ⟨19, v4, by decide⟩
  · exact ⟨18, v5, by decide⟩
  · exact ⟨66, v6, by decide⟩
  · exact ⟨86, v7, by decide⟩
theorem rq_i0 : Rq hI0 := by
  refine ⟨?_, ?_, ?_, 0, by decide, ?_⟩
  · decide +kernel
  · decide +kernel
  · decide +kernel
  · decide +kernel
theorem mach_0 : Mach D0 0 hI0 :=
  ⟨hI0_s, vy_i0, i0_rm, rq_i0, 19, 66, ⟨i0_pg.1, i0_pg.2, Or.inr hI0_v.2.2.1, Or.inr hI0_v.2.2.2.2.1, Or.inl hI0_v.2.2.2.1⟩, Or.inl ⟨i0_I.2.2.2.2.2.2.2.2.2.2.2.2, rfl, i0_cn, i0_st, i0_pw⟩⟩
/-- the claim, but for build -/
theorem whole_if (oB : OpS (InvC (CoreM Mach)) 161 290 1) : Claimed_1_1 ∧ Claimed_1_2 :=
  whole_of mach_com mach_mas mach_0 oB op_restart op_run
