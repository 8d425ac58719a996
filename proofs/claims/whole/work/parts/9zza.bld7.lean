/-! BUILD. readText again, with the room that it leaves -/
section RDX
variable {h h' : Hp} {Q : Option Value → Hp → Prop} {d n : Nat} {t : Nat → Nat}
theorem sp_readTextR {z : Nat} (c : CB h) (hz : hR h 3 12 = some z) (hn : n ≤ 3000) (h1 : hN h 1 = 3000) (ht : ∀ j, j < n → hA h 1 j = rb (t j)) (ht2 : ∀ j, t j < 256) (h20 : hI h 2 0 = 0) (hd : 70 < d) (hq : ∀ r K mt N stk h', RDt t n r K mt N stk → CB h' → hR h' 3 12 = some 1 → NT K mt h' → RNs N h' → N.1 ≤ 1 + 2 * n → Ftd r h' → (r = none → hI h' 2 1 = hI h 2 1) → (r = none → n / 2 + 32 ≤ hN h' 8 ∧ 1 + 2 * n ≤ hN h' 10 ∧ 1 + 2 * n ≤ hN h' 11 ∧ 1 + 2 * n ≤ hN h' 12 ∧ 1 + 2 * n ≤ hN h' 13 ∧ 1 + 2 * n ≤ hN h' 14) → Q none h') : aEv d 130 [.ref 3, .ref 1, .int (nI n)] h Q := by
  refine rt_0 c hz hn h1 (by omega) (fun ha ca i13 r12 na aa ia => ?_)
  have r : RT t n ha := ⟨i13, r12, by rw [na]; exact h1, hn, by rw [aa]; exact ht, ht2⟩
  refine rt_mid ca r ((ia 2 0 (by omega)).trans h20) (by omega) (fun h2 c2 r2 nt2 rmK rmN i7 e20 e21 => ?_)
  refine rt_30 c2 i7 (by omega) (by omega) (fun h3 rn3 rs3 F3 => ?_)
  have F3w := frw_r F3
  have c3 := frw_cb F3w c2
  have n3 : hN h3 = hN h2 := F3.2.2.1
  have l30 : K30.length = 30 := k30_len.2.2.2
  have ws0 : WS (nwN (0, fun _ => 0, fun _ => 0, fun _ => 0, fun _ => -1, fun _ => -1) 6 0 0) [(0, none, false)] := fun e he => by
    simp only [List.mem_cons, List.not_mem_nil, or_false] at he
    subst he
    exact ⟨Nat.lt_succ_self 0, fun x hx => by cases hx⟩
  have e30 : hI h3 2 0 = 0 := (F3w.2.2.2.2.2.2.1 2 0 (by decide) (by omega)).trans e20
  have e31 : hI h3 2 1 = hI h 2 1 := (F3w.2.2.2.2.2.2.1 2 1 (by decide) (by omega)).trans (e21.trans (ia 2 1 (by omega)))
  refine rt_loop (h0 := h3) (by omega) (by rw [n3]; exact rmK) (by rw [n3]; exact rmN) n 0 0 K30 [] _ [(0, none, false)] h3 (Nat.zero_add n) (Nat.le_refl _) frw_rf c3 (frw_rt F3w r2) (frr_nt F3 nt2) (by omega) (by omega) (fun _ _ => by omega) rn3 (Nat.le_refl _) rs3 (by simp) ws0 e30 (fun rr K' mt' N' stk' h4 x3 x4 cr F4 nt4 rn4 rs4 => ?_)
  obtain ⟨x1, x2, x3'⟩ := crn_x _ _ _ _ _ _ _ _ _ _ _ cr (Nat.zero_le _) ws0 (by simp) (Nat.le_refl _)
  have c4 := frw_cb F4 c3
  have s4 := c4.1
  have i13' : hI h4 3 13 = nI n := (frw_rt F4 (frw_rt F3w r2)).1
  have r12' : hR h4 3 12 = some 1 := (frw_rt F4 (frw_rt F3w r2)).2.1
  have e40 : hI h4 2 0 = 0 := (F4.2.2.2.2.2.2.1 2 0 (by decide) (by omega)).trans e30
  have e41 : hI h4 2 1 = hI h 2 1 := (F4.2.2.2.2.2.2.1 2 1 (by decide) (by omega)).trans e31
  refine ⟨fun hr => ?_, fun k f hr => ?_⟩
  · subst hr
    refine rt_end (K := K') (mt := mt') (N := N') (r0 := none) s4 (by omega) i13' x1 rs4 (Or.inl ⟨rfl, e40⟩) (fun hc => ?_) (fun _ hc => ?_)
    · rcases hc with ⟨x, hx⟩ | hc
      · cases hx
      · exact hq none K' mt' N' stk' h4 ⟨none, cr, Or.inr (Or.inl ⟨rfl, hc, rfl⟩)⟩ c4 r12' nt4 rn4 x2 ⟨fun _ => e40, fun k f e => by cases e⟩ (fun _ => e41) (fun _ => by rw [F4.2.2.1, n3]; exact ⟨rmK.2.2.2, rmN⟩)
    · refine hq (some (1, n)) K' mt' N' stk' _ ⟨none, cr, Or.inr (Or.inr ⟨rfl, hc, rfl⟩)⟩ ⟨sk_u1 (sk_u1 s4), c4.2.1, rm_same rfl rfl rfl c4.2.2⟩ r12' nt4 rn4 x2 ⟨fun e => (by cases e), fun k f e => ?_⟩ (fun e => by cases e) (fun e => by cases e)
      injection e with e
      injection e with e1 e2
      subst e1
      subst e2
      exact ⟨rfl, rfl, by decide, by decide, hn⟩
  · subst hr
    obtain ⟨y1, y2⟩ := x3' k f rfl
    have k0 : nI k ≠ 0 := fun e => by
      have := nI_inj (a := k) (b := 0) (by omega) (by omega) e
      omega
    refine rt_end (K := K') (mt := mt') (N := N') (stk := stk') (r0 := some (k, f)) (sk_u1 (sk_u1 s4)) (by omega) i13' x1 rs4 (Or.inr ⟨⟨_, rfl⟩, k0⟩) (fun _ => ?_) (fun e => by cases e)
    refine hq (some (k, f)) K' mt' N' stk' _ ⟨some (k, f), cr, Or.inl ⟨_, rfl, rfl⟩⟩ ⟨sk_u1 (sk_u1 s4), c4.2.1, rm_same rfl rfl rfl c4.2.2⟩ r12' nt4 rn4 x2 ⟨fun e => (by cases e), fun k' f' e => ?_⟩ (fun e => by cases e) (fun e => by cases e)
    injection e with e
    injection e with e1 e2
    subst e1
    subst e2
    exact ⟨rfl, rfl, by omega, by omega, by omega⟩
end RDX
