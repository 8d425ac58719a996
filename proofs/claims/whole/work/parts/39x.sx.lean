/-! rows of the instructions of sX -/
section XROW
variable {d : Nat} {L : ALS} {st : List Value} {h : Hp} {Q : Option Value → Hp → Prop}
theorem x217_55 (d : Nat) (L : ALS) (st : List Value) (h : Hp) (Q : Option Value → Hp → Prop) (h1 : hn h < SB) (h2 : catS st ≤ 8) : aWP d 217 55 L st h Q ↔ 8 < d ∧ aWP d 217 64 L (.ref (hn h) :: st) (nO h 0 6) Q :=
  wp_X mm_217 dX13_init_55 (if_pos ⟨rfl, rfl, h1, h2⟩) (Or.inr rfl)
theorem x78_76 (d : Nat) (L : ALS) (st : List Value) (h : Hp) (Q : Option Value → Hp → Prop) : aWP d 78 76 L st h Q ↔ 8 < d ∧ aWP d 78 78 L (.ref (SB + 0) :: st) h Q :=
  wp_X mm_78 dX4_begin_76 (by unfold sX; dsimp only; rw [show sTab.lookup (4, 50) = some 0 by decide +kernel]) (Or.inl rfl)
theorem x78_82 (d : Nat) (L : ALS) (st : List Value) (h : Hp) (Q : Option Value → Hp → Prop) : aWP d 78 82 L st h Q ↔ 8 < d ∧ aWP d 78 84 L (.ref (SB + 1) :: st) h Q :=
  wp_X mm_78 dX4_begin_82 (by unfold sX; dsimp only; rw [show sTab.lookup (4, 56) = some 1 by decide +kernel]) (Or.inl rfl)
theorem x78_88 (d : Nat) (L : ALS) (st : List Value) (h : Hp) (Q : Option Value → Hp → Prop) : aWP d 78 88 L st h Q ↔ 8 < d ∧ aWP d 78 90 L (.ref (SB + 2) :: st) h Q :=
  wp_X mm_78 dX4_begin_88 (by unfold sX; dsimp only; rw [show sTab.lookup (4, 58) = some 2 by decide +kernel]) (Or.inl rfl)
theorem x78_94 (d : Nat) (L : ALS) (st : List Value) (h : Hp) (Q : Option Value → Hp → Prop) : aWP d 78 94 L st h Q ↔ 8 < d ∧ aWP d 78 96 L (.ref (SB + 3) :: st) h Q :=
  wp_X mm_78 dX4_begin_94 (by unfold sX; dsimp only; rw [show sTab.lookup (4, 60) = some 3 by decide +kernel]) (Or.inl rfl)
theorem x86_8 (d : Nat) (L : ALS) (st : List Value) (h : Hp) (Q : Option Value → Hp → Prop) (j : Nat) (hj : j < 5) (h2 : catS st ≤ 8) : aWP d 86 8 L (.ref (SB + j) :: st) h Q ↔ 8 < d ∧ aWP d 86 11 L (.int (nI (sCh j).length) :: st) h Q := by
  refine wp_X mm_86 dX4_takeWords_8 ?_ (Or.inl rfl)
  unfold sX
  dsimp only
  rw [if_pos ⟨rfl, rfl⟩, if_pos ⟨Nat.le_add_right _ _, Nat.add_lt_add_left hj _, h2⟩, Nat.add_sub_cancel_left]
theorem x86_16 (d : Nat) (L : ALS) (st : List Value) (h : Hp) (Q : Option Value → Hp → Prop) (j k : Nat) (hj : j < 5) (hk : k < (sCh j).length) (hk2 : k < 1000) (h2 : catS st ≤ 8) : aWP d 86 16 L (.int (nI k) :: .ref (SB + j) :: st) h Q ↔ 8 < d ∧ aWP d 86 19 L (.int (nI ((sCh j).getD k 0)) :: st) h Q := by
  refine wp_X mm_86 dX4_takeWords_16 ?_ (Or.inl rfl)
  unfold sX
  dsimp only
  rw [if_neg (by decide), if_pos ⟨rfl, rfl⟩, if_pos ⟨Nat.le_add_right _ _, Nat.add_lt_add_left hj _, h2, by rw [nI_toInt (by omega)]; omega, by rw [Nat.add_sub_cancel_left, nI_toInt (by omega)]; omega⟩, Nat.add_sub_cancel_left, nI_clamp (by omega)]
theorem x121_19 (d : Nat) (L : ALS) (st : List Value) (h : Hp) (Q : Option Value → Hp → Prop) : aWP d 121 19 L st h Q ↔ 8 < d ∧ aWP d 121 21 L (.ref (SB + 4) :: st) h Q :=
  wp_X mm_121 dX7_isWordSign_19 (by unfold sX; dsimp only; rw [show sTab.lookup (7, 131) = some 4 by decide +kernel]) (Or.inl rfl)
theorem x121_23 (d : Nat) (L : ALS) (st : List Value) (h : Hp) (Q : Option Value → Hp → Prop) (x : Int32) (h0 : 0 ≤ x.toInt) (h1 : x.toInt < 65536) (h2 : catS st ≤ 8) : aWP d 121 23 L (.int x :: .ref (SB + 4) :: st) h Q ↔ 8 < d ∧ aWP d 121 26 L (.int (if x.toNatClampNeg ∈ sCh 4 then nI ((sCh 4).idxOf x.toNatClampNeg) else -1) :: st) h Q := by
  refine wp_X mm_121 dX7_isWordSign_23 ?_ (Or.inl rfl)
  unfold sX
  dsimp only
  rw [if_neg (by decide), if_neg (by decide), if_pos ⟨rfl, rfl⟩, if_pos ⟨rfl, h2, h0, h1⟩]
theorem x226_237 (d : Nat) (L : ALS) (st : List Value) (h : Hp) (Q : Option Value → Hp → Prop) : aWP d 226 237 L st h Q ↔ 8 < d ∧ aWP d 226 240 L (.ref (SB + 100) :: st) h Q :=
  wp_X mm_226 dX13_isWord_237 (by unfold sX; dsimp only; exact if_pos ⟨rfl, rfl⟩) (Or.inl rfl)
theorem x226_242 (d : Nat) (L : ALS) (st : List Value) (h : Hp) (Q : Option Value → Hp → Prop) (x : Nat) (hx : x < 31) : aWP d 226 242 L (.int (nI x) :: .ref (SB + 100) :: st) h Q ↔ 8 < d ∧ aWP d 226 243 L (.long (wordTab.getD x 0) :: st) h Q := by
  refine wp_X mm_226 dX13_isWord_242 ?_ (Or.inl rfl)
  unfold sX
  dsimp only
  rw [if_pos ⟨rfl, by rw [nI_toInt (by omega)]; omega, by rw [nI_toInt (by omega)]; omega⟩, nI_clamp (by omega)]
end XROW
