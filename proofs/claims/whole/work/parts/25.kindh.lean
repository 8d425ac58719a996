theorem lg_len (vs : List Value) : (lg_sl vs).length = catS vs := by
  induction vs with
  | nil => rfl
  | cons v t ih =>
    have e : lg_sl (v :: t) = (if v.category = 2 then [.val v, .second] else [.val v]) ++ lg_sl t := by unfold lg_sl; rw [List.flatMap_cons]
    have e2 : catS (v :: t) = v.category + catS t := by unfold catS; rw [List.map_cons, List.sum_cons]
    rw [e, e2, List.length_append, ih]
    cases v <;> rfl
/-- rows that simp uses: words of values, references, locals -/
theorem ct_s (x : Int32) (y : Int64) (k : Nat) (t : List Value) : (catS [] = 0 ∧ catS (.int x :: t) = 1 + catS t ∧ catS (.long y :: t) = 2 + catS t ∧ catS (.ref k :: t) = 1 + catS t ∧ catS (.null :: t) = 1 + catS t) ∧ (rfv (some k) = .ref k ∧ rfv none = .null) := by
  refine ⟨⟨rfl, ?_, ?_, ?_, ?_⟩, rfl, rfl⟩ <;> (unfold catS; rw [List.map_cons, List.sum_cons]; rfl)
theorem rok_s (h h1 : Hp) (x : Int32) (y : Int64) (k : Nat) (t : List Value) : rok h h1 [] = True ∧ rok h h1 (.int x :: t) = rok h h1 t ∧ rok h h1 (.long y :: t) = rok h h1 t ∧ rok h h1 (.ref k :: t) = ((hK h k < 13 ∨ SB ≤ k ∨ hv h1 k = hv h k) ∧ rok h h1 t) := by
  refine ⟨rfl, ?_, ?_, rfl⟩
  · show (True ∧ rok h h1 t) = rok h h1 t
    exact propext ⟨fun q => q.2, fun q => ⟨trivial, q⟩⟩
  · show (True ∧ rok h h1 t) = rok h h1 t
    exact propext ⟨fun q => q.2, fun q => ⟨trivial, q⟩⟩
section KNH
variable {d mi pc : Nat} {L : ALS} {st : List Value} {h : Hp} {Q : Option Value → Hp → Prop} {x : MI}
theorem k_get (hx : mInfo mi = some x) {idx ci j : Nat} (hd : decode x.2.1 pc = .ok (.getfield idx, 3)) (hf : fl x.2.2.2.2.1 idx = some (ci, j)) {k : Nat} : aWP d mi pc L (.ref k :: st) h Q ↔ hK h k = ci ∧ aWP d mi (pc + 3) L (fvA h ci k j :: st) h Q := by
  rw [wp_H hx hd rfl rfl]
  constructor
  · rintro ⟨st', h1, hs, h2⟩
    unfold sH at hs
    dsimp only at hs
    rw [hf] at hs
    dsimp only at hs
    split at hs
    · rename_i e; cases hs; exact ⟨e, h2⟩
    · cases hs
  · rintro ⟨e, h2⟩
    refine ⟨_, _, ?_, h2⟩
    unfold sH
    dsimp only
    rw [hf]
    exact if_pos e
theorem k_getI (hx : mInfo mi = some x) {idx ci j : Nat} (hd : decode x.2.1 pc = .ok (.getfield idx, 3)) (hf : fl x.2.2.2.2.1 idx = some (ci, j)) (ht : ftk (tyOf ci j) = 0 ∨ ftk (tyOf ci j) = 1) {k : Nat} : aWP d mi pc L (.ref k :: st) h Q ↔ hK h k = ci ∧ aWP d mi (pc + 3) L (.int (hI h k j) :: st) h Q := by
  rw [k_get hx hd hf, fvA_int ht]
theorem k_getL (hx : mInfo mi = some x) {idx ci j : Nat} (hd : decode x.2.1 pc = .ok (.getfield idx, 3)) (hf : fl x.2.2.2.2.1 idx = some (ci, j)) (ht : ftk (tyOf ci j) = 2) {k : Nat} : aWP d mi pc L (.ref k :: st) h Q ↔ hK h k = ci ∧ aWP d mi (pc + 3) L (.long (hL h k j) :: st) h Q := by
  rw [k_get hx hd hf, fvA_long ht]
theorem k_getR (hx : mInfo mi = some x) {idx ci j : Nat} (hd : decode x.2.1 pc = .ok (.getfield idx, 3)) (hf : fl x.2.2.2.2.1 idx = some (ci, j)) (ht : ftk (tyOf ci j) = 3) {k : Nat} : aWP d mi pc L (.ref k :: st) h Q ↔ hK h k = ci ∧ aWP d mi (pc + 3) L (rfv (hR h k j) :: st) h Q := by
  rw [k_get hx hd hf, fvA_ref ht]
theorem k_len (hx : mInfo mi = some x) (hd : decode x.2.1 pc = .ok (.arraylength, 1)) {k : Nat} : aWP d mi pc L (.ref k :: st) h Q ↔ (13 ≤ hK h k ∧ hK h k ≤ 16) ∧ aWP d mi (pc + 1) L (.int (nI (hN h k)) :: st) h Q := by
  rw [wp_H hx hd rfl rfl]
  constructor
  · rintro ⟨st', h1, hs, h2⟩
    have hs : (if 13 ≤ hK h k ∧ hK h k ≤ 16 then some (1, .int (nI (hN h k)) :: st, h) else none) = some (1, st', h1) := hs
    split at hs
    · rename_i e; cases hs; exact ⟨e, h2⟩
    · cases hs
  · rintro ⟨e, h2⟩
    exact ⟨_, _, if_pos e, h2⟩
theorem k_iald (hx : mInfo mi = some x) (hd : decode x.2.1 pc = .ok (.iaload, 1)) {k : Nat} {i : Int32} : aWP d mi pc L (.int i :: .ref k :: st) h Q ↔ (hK h k = 14 ∧ 0 ≤ i.toInt ∧ i.toInt < hN h k) ∧ aWP d mi (pc + 1) L (.int (hA h k i.toNatClampNeg) :: st) h Q := by
  rw [wp_H hx hd rfl rfl]
  constructor
  · rintro ⟨st', h1, hs, h2⟩
    have hs : (if hK h k = 14 ∧ 0 ≤ i.toInt ∧ i.toInt < hN h k then some (1, .int (hA h k i.toNatClampNeg) :: st, h) else none) = some (1, st', h1) := hs
    split at hs
    · rename_i e; cases hs; exact ⟨e, h2⟩
    · cases hs
  · rintro ⟨e, h2⟩
    exact ⟨_, _, if_pos e, h2⟩
theorem k_bald (hx : mInfo mi = some x) (hd : decode x.2.1 pc = .ok (.baload, 1)) {k : Nat} {i : Int32} : aWP d mi pc L (.int i :: .ref k :: st) h Q ↔ ((hK h k = 13 ∨ hK h k = 16) ∧ 0 ≤ i.toInt ∧ i.toInt < hN h k) ∧ aWP d mi (pc + 1) L (.int (hA h k i.toNatClampNeg) :: st) h Q := by
  rw [wp_H hx hd rfl rfl]
  constructor
  · rintro ⟨st', h1, hs, h2⟩
    have hs : (if (hK h k = 13 ∨ hK h k = 16) ∧ 0 ≤ i.toInt ∧ i.toInt < hN h k then some (1, .int (hA h k i.toNatClampNeg) :: st, h) else none) = some (1, st', h1) := hs
    split at hs
    · rename_i e; cases hs; exact ⟨e, h2⟩
    · cases hs
  · rintro ⟨e, h2⟩
    exact ⟨_, _, if_pos e, h2⟩
theorem k_lald (hx : mInfo mi = some x) (hd : decode x.2.1 pc = .ok (.laload, 1)) {k : Nat} {i : Int32} (hk : k ≠ SB + 100) : aWP d mi pc L (.int i :: .ref k :: st) h Q ↔ (hK h k = 15 ∧ 0 ≤ i.toInt ∧ i.toInt < hN h k) ∧ aWP d mi (pc + 1) L (.long (hB h k i.toNatClampNeg) :: st) h Q := by
  rw [wp_H hx hd rfl (by show (if _ then _ else _) = none; rw [if_neg (fun e => hk e.1)])]
  constructor
  · rintro ⟨st', h1, hs, h2⟩
    have hs : (if hK h k = 15 ∧ 0 ≤ i.toInt ∧ i.toInt < hN h k then some (1, .long (hB h k i.toNatClampNeg) :: st, h) else none) = some (1, st', h1) := hs
    split at hs
    · rename_i e; cases hs; exact ⟨e, h2⟩
    · cases hs
  · rintro ⟨e, h2⟩
    exact ⟨_, _, if_pos e, h2⟩
theorem k_iast (hx : mInfo mi = some x) (hd : decode x.2.1 pc = .ok (.iastore, 1)) {k : Nat} {i v : Int32} : aWP d mi pc L (.int v :: .int i :: .ref k :: st) h Q ↔ (hK h k = 14 ∧ 0 ≤ i.toInt ∧ i.toInt < hN h k) ∧ aWP d mi (pc + 1) L st (pA h k (upd (hA h k) i.toNatClampNeg v)) Q := by
  rw [wp_H hx hd rfl rfl]
  constructor
  · rintro ⟨st', h1, hs, h2⟩
    have hs : (if hK h k = 14 ∧ 0 ≤ i.toInt ∧ i.toInt < hN h k then some (1, st, pA h k (upd (hA h k) i.toNatClampNeg v)) else none) = some (1, st', h1) := hs
    split at hs
    · rename_i e; cases hs; exact ⟨e, h2⟩
    · cases hs
  · rintro ⟨e, h2⟩
    exact ⟨_, _, if_pos e, h2⟩
theorem k_bast (hx : mInfo mi = some x) (hd : decode x.2.1 pc = .ok (.bastore, 1)) {k : Nat} {i v : Int32} : aWP d mi pc L (.int v :: .int i :: .ref k :: st) h Q ↔ ((hK h k = 13 ∨ hK h k = 16) ∧ 0 ≤ i.toInt ∧ i.toInt < hN h k) ∧ aWP d mi (pc + 1) L st (pA h k (upd (hA h k) i.toNatClampNeg (if hK h k = 13 then v.toInt8.toInt32 else v &&& 1))) Q := by
  rw [wp_H hx hd rfl rfl]
  constructor
  · rintro ⟨st', h1, hs, h2⟩
    have hs : (if (hK h k = 13 ∨ hK h k = 16) ∧ 0 ≤ i.toInt ∧ i.toInt < hN h k then some (1, st, pA h k (upd (hA h k) i.toNatClampNeg (if hK h k = 13 then v.toInt8.toInt32 else v &&& 1))) else none) = some (1, st', h1) := hs
    rcases Classical.em ((hK h k = 13 ∨ hK h k = 16) ∧ 0 ≤ i.toInt ∧ i.toInt < hN h k) with e | e
    · rw [if_pos e] at hs; cases hs; exact ⟨e, h2⟩
    · rw [if_neg e] at hs; cases hs
  · rintro ⟨e, h2⟩
    exact ⟨_, _, if_pos e, h2⟩
theorem k_last (hx : mInfo mi = some x) (hd : decode x.2.1 pc = .ok (.lastore, 1)) {k : Nat} {i : Int32} {v : Int64} : aWP d mi pc L (.long v :: .int i :: .ref k :: st) h Q ↔ (hK h k = 15 ∧ 0 ≤ i.toInt ∧ i.toInt < hN h k) ∧ aWP d mi (pc + 1) L st (pB h k (vp_updL (hB h k) i.toNatClampNeg v)) Q := by
  rw [wp_H hx hd rfl rfl]
  constructor
  · rintro ⟨st', h1, hs, h2⟩
    have hs : (if hK h k = 15 ∧ 0 ≤ i.toInt ∧ i.toInt < hN h k then some (1, st, pB h k (vp_updL (hB h k) i.toNatClampNeg v)) else none) = some (1, st', h1) := hs
    split at hs
    · rename_i e; cases hs; exact ⟨e, h2⟩
    · cases hs
  · rintro ⟨e, h2⟩
    exact ⟨_, _, if_pos e, h2⟩
theorem k_newa (hx : mInfo mi = some x) {t : ArrayType} {kd : Nat} (hd : decode x.2.1 pc = .ok (.newarray t, 2)) (hk : akd t = some kd) {n : Int32} : aWP d mi pc L (.int n :: st) h Q ↔ (0 ≤ n.toInt ∧ n.toInt ≤ 60000000 ∧ hn h < SB) ∧ aWP d mi (pc + 2) L (.ref (hn h) :: st) (nA h kd n.toNatClampNeg) Q := by
  rw [wp_H hx hd rfl rfl]
  constructor
  · rintro ⟨st', h1, hs, h2⟩
    unfold sH at hs
    dsimp only at hs
    rw [hk] at hs
    dsimp only at hs
    split at hs
    · rename_i e; cases hs; exact ⟨e, h2⟩
    · cases hs
  · rintro ⟨e, h2⟩
    refine ⟨_, _, ?_, h2⟩
    unfold sH
    dsimp only
    rw [hk]
    exact if_pos e
theorem k_new (hx : mInfo mi = some x) {idx ci : Nat} (hd : decode x.2.1 pc = .ok (.new idx, 3)) (hk : nTab.lookup (x.2.2.2.2.1, idx) = some ci) (hsx : ∀ st, sX mi pc x.2.2.2.2.1 (.new idx) st h = none) : aWP d mi pc L st h Q ↔ hn h < SB ∧ aWP d mi (pc + 3) L (.ref (hn h) :: st) (nO h ci (nfl ci)) Q := by
  rw [wp_H hx hd rfl (hsx _)]
  constructor
  · rintro ⟨st', h1, hs, h2⟩
    unfold sH at hs
    dsimp only at hs
    rw [hk] at hs
    dsimp only at hs
    split at hs
    · rename_i e; cases hs; exact ⟨e, h2⟩
    · cases hs
  · rintro ⟨e, h2⟩
    refine ⟨_, _, ?_, h2⟩
    unfold sH
    dsimp only
    rw [hk]
    exact if_pos e
def finOK (x : MI) (ci j : Nat) : Prop := ¬ (isFin ci j = true ∧ ¬ (x.2.2.2.2.2.2 = 2 ∧ (vwCl[ci]?).map (fun q => (q.2.1 j).1) = some (oNm x.2.2.2.2.1)))
theorem k_putI (hx : mInfo mi = some x) {idx ci j : Nat} (hd : decode x.2.1 pc = .ok (.putfield idx, 3)) (hf : fl x.2.2.2.2.1 idx = some (ci, j)) (ht : ftk (tyOf ci j) = 0) (hfin : finOK x ci j) {k : Nat} {v : Int32} : aWP d mi pc L (.int v :: .ref k :: st) h Q ↔ hK h k = ci ∧ aWP d mi (pc + 3) L st (pI h k j v) Q := by
  rw [wp_P hx hd]
  have e0 : sP x.2.2.2.2.1 x.2.2.2.2.2.2 idx L (.int v :: .ref k :: st) h = if hK h k = ci ∧ (ftk (tyOf ci j) = 0 ∨ ftk (tyOf ci j) = 1 ∧ (v = 0 ∨ v = 1)) then some (L, st, pI h k j v) else none := by
    unfold sP; rw [hf]; dsimp only; rw [if_neg hfin]
  rw [e0]
  constructor
  · rintro ⟨L', st', h1, hs, h2⟩
    split at hs
    · rename_i e; cases hs; exact ⟨e.1, h2⟩
    · cases hs
  · rintro ⟨e, h2⟩
    exact ⟨_, _, _, if_pos ⟨e, Or.inl ht⟩, h2⟩
theorem k_putZ (hx : mInfo mi = some x) {idx ci j : Nat} (hd : decode x.2.1 pc = .ok (.putfield idx, 3)) (hf : fl x.2.2.2.2.1 idx = some (ci, j)) (ht : ftk (tyOf ci j) = 1) (hfin : finOK x ci j) {k : Nat} {v : Int32} : aWP d mi pc L (.int v :: .ref k :: st) h Q ↔ (hK h k = ci ∧ (v = 0 ∨ v = 1)) ∧ aWP d mi (pc + 3) L st (pI h k j v) Q := by
  rw [wp_P hx hd]
  have e0 : sP x.2.2.2.2.1 x.2.2.2.2.2.2 idx L (.int v :: .ref k :: st) h = if hK h k = ci ∧ (ftk (tyOf ci j) = 0 ∨ ftk (tyOf ci j) = 1 ∧ (v = 0 ∨ v = 1)) then some (L, st, pI h k j v) else none := by
    unfold sP; rw [hf]; dsimp only; rw [if_neg hfin]
  rw [e0]
  constructor
  · rintro ⟨L', st', h1, hs, h2⟩
    split at hs
    · rename_i e
      cases hs
      refine ⟨⟨e.1, ?_⟩, h2⟩
      rcases e.2 with z | z
      · rw [ht] at z; cases z
      · exact z.2
    · cases hs
  · rintro ⟨e, h2⟩
    exact ⟨_, _, _, if_pos ⟨e.1, Or.inr ⟨ht, e.2⟩⟩, h2⟩
theorem k_putL (hx : mInfo mi = some x) {idx ci j : Nat} (hd : decode x.2.1 pc = .ok (.putfield idx, 3)) (hf : fl x.2.2.2.2.1 idx = some (ci, j)) (ht : ftk (tyOf ci j) = 2) (hfin : finOK x ci j) {k : Nat} {v : Int64} : aWP d mi pc L (.long v :: .ref k :: st) h Q ↔ hK h k = ci ∧ aWP d mi (pc + 3) L st (pL h k j v) Q := by
  rw [wp_P hx hd]
  have e0 : sP x.2.2.2.2.1 x.2.2.2.2.2.2 idx L (.long v :: .ref k :: st) h = if hK h k = ci ∧ ftk (tyOf ci j) = 2 then some (L, st, pL h k j v) else none := by
    unfold sP; rw [hf]; dsimp only; rw [if_neg hfin]
  rw [e0]
  constructor
  · rintro ⟨L', st', h1, hs, h2⟩
    split at hs
    · rename_i e; cases hs; exact ⟨e.1, h2⟩
    · cases hs
  · rintro ⟨e, h2⟩
    exact ⟨_, _, _, if_pos ⟨e, ht⟩, h2⟩
/-- a reference is put where there was none -/
theorem k_putN (hx : mInfo mi = some x) {idx ci j : Nat} (hd : decode x.2.1 pc = .ok (.putfield idx, 3)) (hf : fl x.2.2.2.2.1 idx = some (ci, j)) (ht : ftk (tyOf ci j) = 3) (hfin : finOK x ci j) {k q : Nat} (hn0 : hR h k j = none) : aWP d mi pc L (.ref q :: .ref k :: st) h Q ↔ (hK h k = ci ∧ q < SB) ∧ aWP d mi (pc + 3) L st (pR h k j (some q)) Q := by
  rw [wp_P hx hd]
  have e0 : sP x.2.2.2.2.1 x.2.2.2.2.2.2 idx L (.ref q :: .ref k :: st) h = if hK h k = ci ∧ ftk (tyOf ci j) = 3 ∧ q < SB then some (L, st, pR h k j (some q)) else none := by
    unfold sP; rw [hf]; dsimp only; rw [if_neg hfin, hn0]
  rw [e0]
  constructor
  · rintro ⟨L', st', h1, hs, h2⟩
    split at hs
    · rename_i e; cases hs; exact ⟨⟨e.1, e.2.2⟩, h2⟩
    · cases hs
  · rintro ⟨e, h2⟩
    exact ⟨_, _, _, if_pos ⟨e.1, ht, e.2⟩, h2⟩
/-- a reference is put, no row changes its place -/
theorem k_putO (hx : mInfo mi = some x) {idx ci j : Nat} (hd : decode x.2.1 pc = .ok (.putfield idx, 3)) (hf : fl x.2.2.2.2.1 idx = some (ci, j)) (ht : ftk (tyOf ci j) = 3) (hfin : finOK x ci j) {k q z : Nat} (hz : hR h k j = some z) (hsw : ¬ swOK h L st k j z q) : aWP d mi pc L (.ref q :: .ref k :: st) h Q ↔ (hK h k = ci ∧ q < SB) ∧ aWP d mi (pc + 3) L st (pR h k j (some q)) Q := by
  rw [wp_P hx hd]
  have e0 : sP x.2.2.2.2.1 x.2.2.2.2.2.2 idx L (.ref q :: .ref k :: st) h = if hK h k = ci ∧ ftk (tyOf ci j) = 3 ∧ q < SB then some (L, st, pR h k j (some q)) else none := by
    unfold sP; rw [hf]; dsimp only; rw [if_neg hfin, hz]; dsimp only; rw [if_neg hsw]
  rw [e0]
  constructor
  · rintro ⟨L', st', h1, hs, h2⟩
    split at hs
    · rename_i e; cases hs; exact ⟨⟨e.1, e.2.2⟩, h2⟩
    · cases hs
  · rintro ⟨e, h2⟩
    exact ⟨_, _, _, if_pos ⟨e.1, ht, e.2⟩, h2⟩
/-- a new row takes the place of the old one -/
theorem k_putS (hx : mInfo mi = some x) {idx ci j : Nat} (hd : decode x.2.1 pc = .ok (.putfield idx, 3)) (hf : fl x.2.2.2.2.1 idx = some (ci, j)) (ht : ftk (tyOf ci j) = 3) (hfin : finOK x ci j) {k q z : Nat} (hz : hR h k j = some z) (hsw : swOK h L st k j z q) : aWP d mi pc L (.ref q :: .ref k :: st) h Q ↔ (hK h k = ci ∧ q < SB) ∧ aWP d mi (pc + 3) (L.map (fun x => (x.1, rnm z q x.2))) (st.map (rnm z q)) (nS h z q) Q := by
  rw [wp_P hx hd]
  have e0 : sP x.2.2.2.2.1 x.2.2.2.2.2.2 idx L (.ref q :: .ref k :: st) h = if hK h k = ci ∧ ftk (tyOf ci j) = 3 ∧ q < SB then some (L.map (fun x => (x.1, rnm z q x.2)), st.map (rnm z q), nS h z q) else none := by
    unfold sP; rw [hf]; dsimp only; rw [if_neg hfin, hz]; dsimp only; rw [if_pos hsw]
  rw [e0]
  constructor
  · rintro ⟨L', st', h1, hs, h2⟩
    split at hs
    · rename_i e; cases hs; exact ⟨⟨e.1, e.2.2⟩, h2⟩
    · cases hs
  · rintro ⟨e, h2⟩
    exact ⟨_, _, _, if_pos ⟨e.1, ht, e.2⟩, h2⟩
-- ends
theorem k_vret (hx : mInfo mi = some x) (hd : decode x.2.1 pc = .ok (.return_, 1)) (hr : x.2.2.2.1 = none) : aWP d mi pc L [] h Q ↔ Q none h := by
  rw [wp_R hx hd rfl rfl]
  constructor
  · rintro ⟨r, hs, h2⟩
    have hs : (if x.2.2.2.1 = none ∧ ([] : List Value) = [] then some none else none) = some r := hs
    rw [if_pos ⟨hr, rfl⟩] at hs
    cases hs; exact h2
  · intro h2
    exact ⟨none, if_pos ⟨hr, rfl⟩, h2⟩
theorem k_iret (hx : mInfo mi = some x) (hd : decode x.2.1 pc = .ok (.ireturn, 1)) (hr : x.2.2.2.1 = some .int) {v : Int32} : aWP d mi pc L [.int v] h Q ↔ Q (some (.int v)) h := by
  rw [wp_R hx hd rfl rfl]
  constructor
  · rintro ⟨r, hs, h2⟩
    have hs : (if x.2.2.2.1 = some .int ∨ x.2.2.2.1 = some .boolean ∧ (v = 0 ∨ v = 1) then some (some (.int v)) else none) = some r := hs
    rw [if_pos (Or.inl hr)] at hs
    cases hs; exact h2
  · intro h2
    exact ⟨_, if_pos (Or.inl hr), h2⟩
theorem k_zret (hx : mInfo mi = some x) (hd : decode x.2.1 pc = .ok (.ireturn, 1)) (hr : x.2.2.2.1 = some .boolean) {v : Int32} : aWP d mi pc L [.int v] h Q ↔ (v = 0 ∨ v = 1) ∧ Q (some (.int v)) h := by
  rw [wp_R hx hd rfl rfl]
  constructor
  · rintro ⟨r, hs, h2⟩
    have hs : (if x.2.2.2.1 = some .int ∨ x.2.2.2.1 = some .boolean ∧ (v = 0 ∨ v = 1) then some (some (.int v)) else none) = some r := hs
    split at hs
    · rename_i e
      cases hs
      rcases e with z | z
      · rw [hr] at z; cases z
      · exact ⟨z.2, h2⟩
    · cases hs
  · rintro ⟨e, h2⟩
    exact ⟨_, if_pos (Or.inr ⟨hr, e⟩), h2⟩
theorem k_lret (hx : mInfo mi = some x) (hd : decode x.2.1 pc = .ok (.lreturn, 1)) (hr : x.2.2.2.1 = some .long) {v : Int64} : aWP d mi pc L [.long v] h Q ↔ Q (some (.long v)) h := by
  rw [wp_R hx hd rfl rfl]
  constructor
  · rintro ⟨r, hs, h2⟩
    have hs : (if x.2.2.2.1 = some .long then some (some (.long v)) else none) = some r := hs
    rw [if_pos hr] at hs
    cases hs; exact h2
  · intro h2
    exact ⟨_, if_pos hr, h2⟩
theorem k_aret (hx : mInfo mi = some x) (hd : decode x.2.1 pc = .ok (.areturn, 1)) (hr : x.2.2.2.1 = some (.array .int) ∨ x.2.2.2.1 = some (.array .long) ∨ x.2.2.2.1 = some (.object "java/lang/IllegalStateException")) {v : Nat} : aWP d mi pc L [.ref v] h Q ↔ Q (some (.ref v)) h := by
  rw [wp_R hx hd rfl rfl]
  constructor
  · rintro ⟨r, hs, h2⟩
    have hs : (if x.2.2.2.1 = some (.array .int) ∨ x.2.2.2.1 = some (.array .long) ∨ x.2.2.2.1 = some (.object "java/lang/IllegalStateException") then some (some (.ref v)) else none) = some r := hs
    rw [if_pos hr] at hs
    cases hs; exact h2
  · intro h2
    exact ⟨_, if_pos hr, h2⟩
-- calls
theorem k_callG {K : List Value → Option Value → Hp → Prop} {ck d mj pc : Nat} {y : MI} {P : Prop} (vs : List Value) (hlen : vs.length = y.2.2.2.2.2.1) {s0 r : List Value} (hs0 : s0 = vs.reverse ++ r) (hck : ck = y.2.2.2.2.2.2) (hw : P ↔ cOK h ck d y s0 ∧ aEv (d - 1) mj (s0.take y.2.2.2.2.2.1).reverse h (K (s0.drop y.2.2.2.2.2.1))) : P ↔ (0 < d ∧ catS r ≤ 8 ∧ (y.2.2.2.2.2.2 = 1 ∨ rcv h y.2.2.2.2.1 s0[y.2.2.2.2.2.1 - 1]? = true) ∧ catS vs ≤ y.2.2.1) ∧ aEv (d - 1) mj vs h (K r) := by
  have ht : s0.take y.2.2.2.2.2.1 = vs.reverse := by rw [hs0]; exact List.take_left' (by rw [List.length_reverse]; exact hlen)
  have hdr : s0.drop y.2.2.2.2.2.1 = r := by rw [hs0]; exact List.drop_left' (by rw [List.length_reverse]; exact hlen)
  rw [hw]
  unfold cOK
  rw [ht, hdr, List.reverse_reverse, lg_len]
  have hl2 : y.2.2.2.2.2.1 ≤ s0.length := by rw [hs0, List.length_append, List.length_reverse]; omega
  constructor
  · rintro ⟨⟨a, b, c, e, f, g⟩, h2⟩
    exact ⟨⟨b, e, f, g⟩, h2⟩
  · rintro ⟨⟨b, e, f, g⟩, h2⟩
    exact ⟨⟨hck, b, hl2, e, f, g⟩, h2⟩
theorem k_call (hx : mInfo mi = some x) {i : Instr} (hd : decode x.2.1 pc = .ok (i, 3)) (hsx : ∀ st, sX mi pc x.2.2.2.2.1 i st h = none) (hc : cls i = 7) {ck idx mj : Nat} (hk : sK i = some (ck, idx)) (hm : mlk x.2.2.2.2.1 idx = some mj) {y : MI} (hy : mInfC mj = some y) (hck : ck = y.2.2.2.2.2.2) (vs : List Value) (hlen : vs.length = y.2.2.2.2.2.1) {s0 r : List Value} (hs0 : s0 = vs.reverse ++ r) (ht : thrOK x.2.2.2.2.1 mj = false) : aWP d mi pc L s0 h Q ↔ (0 < d ∧ catS r ≤ 8 ∧ (y.2.2.2.2.2.2 = 1 ∨ rcv h y.2.2.2.2.1 s0[y.2.2.2.2.2.1 - 1]? = true) ∧ catS vs ≤ y.2.2.1) ∧ aEv (d - 1) mj vs h (aCt d mi (pc + 3) L r h Q) :=
  k_callG (pc := pc) (K := fun r => aCt d mi (pc + 3) L r h Q) vs hlen hs0 hck (wp_C hx hd (hsx _) hc hk hm hy ht)
theorem k_callX (hx : mInfo mi = some x) {i : Instr} (hd : decode x.2.1 pc = .ok (i, 3)) (hsx : ∀ st, sX mi pc x.2.2.2.2.1 i st h = none) (hc : cls i = 7) {ck idx mj : Nat} (hk : sK i = some (ck, idx)) (hm : mlk x.2.2.2.2.1 idx = some mj) {y : MI} (hy : mInfC mj = some y) (hck : ck = y.2.2.2.2.2.2) (vs : List Value) (hlen : vs.length = y.2.2.2.2.2.1) {s0 r : List Value} (hs0 : s0 = vs.reverse ++ r) (ht : thrOK x.2.2.2.2.1 mj = true) (hh : hnd mi pc = none) : aWP d mi pc L s0 h Q ↔ (0 < d ∧ catS r ≤ 8 ∧ (y.2.2.2.2.2.2 = 1 ∨ rcv h y.2.2.2.2.1 s0[y.2.2.2.2.2.1 - 1]? = true) ∧ catS vs ≤ y.2.2.1) ∧ aEv (d - 1) mj vs h (aCx d mi (pc + 3) L r h Q) :=
  k_callG (pc := pc) (K := fun r => aCx d mi (pc + 3) L r h Q) vs hlen hs0 hck (wp_CX hx hd (hsx _) hc hk hm hy ht hh)
theorem k_callH (hx : mInfo mi = some x) {i : Instr} (hd : decode x.2.1 pc = .ok (i, 3)) (hsx : ∀ st, sX mi pc x.2.2.2.2.1 i st h = none) (hc : cls i = 7) {ck idx mj : Nat} (hk : sK i = some (ck, idx)) (hm : mlk x.2.2.2.2.1 idx = some mj) {y : MI} (hy : mInfC mj = some y) (hck : ck = y.2.2.2.2.2.2) (vs : List Value) (hlen : vs.length = y.2.2.2.2.2.1) {s0 r : List Value} (hs0 : s0 = vs.reverse ++ r) (ht : thrOK x.2.2.2.2.1 mj = true) {t : Nat} (hh : hnd mi pc = some t) : aWP d mi pc L s0 h Q ↔ (0 < d ∧ catS r ≤ 8 ∧ (y.2.2.2.2.2.2 = 1 ∨ rcv h y.2.2.2.2.1 s0[y.2.2.2.2.2.1 - 1]? = true) ∧ catS vs ≤ y.2.2.1) ∧ aEv (d - 1) mj vs h (aCh d mi (pc + 3) t L r h Q) :=
  k_callG (pc := pc) (K := fun r => aCh d mi (pc + 3) t L r h Q) vs hlen hs0 hck (wp_CH hx hd (hsx _) hc hk hm hy ht hh)
theorem k_obj (hx : mInfo mi = some x) {idx : Nat} (hd : decode x.2.1 pc = .ok (.invokespecial idx, 3)) (hsx : ∀ st, sX mi pc x.2.2.2.2.1 (.invokespecial idx) st h = none) (hm : mlk x.2.2.2.2.1 idx = some 1000) {k : Nat} : aWP d mi pc L (.ref k :: st) h Q ↔ (0 < d ∧ catS st ≤ 8) ∧ aWP d mi (pc + 3) L st h Q := by
  constructor
  · rintro ⟨n, r, h', h1, h2⟩
    cases n with
    | zero => cases h1
    | succ n =>
      rw [rn_e7 hx hd (hsx _) rfl] at h1
      dsimp only [sK] at h1
      rw [if_pos rfl, hm] at h1
      dsimp only at h1
      rw [if_pos rfl] at h1
      split at h1
      · rename_i e
        exact ⟨e.2, n, r, h', h1, h2⟩
      · cases h1
  · rintro ⟨e, n, r, h', h1, h2⟩
    refine ⟨n + 1, r, h', ?_, h2⟩
    rw [rn_e7 hx hd (hsx _) rfl]
    dsimp only [sK]
    rw [if_pos rfl, hm]
    dsimp only
    rw [if_pos rfl, if_pos ⟨rfl, e⟩]
    exact h1
/-- behind a call: what came back -/
theorem aCt_s {rest : List Value} {h1 : Hp} (xi : Int32) (xl : Int64) (xr : Nat) : (aCt d mi pc L rest h Q none h1 ↔ (hv h1 = hv h ∨ rok h h1 (L.map (fun q => q.2) ++ rest)) ∧ aWP d mi pc L rest h1 Q) ∧ (aCt d mi pc L rest h Q (some (.int xi)) h1 ↔ (hv h1 = hv h ∨ rok h h1 (L.map (fun q => q.2) ++ rest)) ∧ aWP d mi pc L (.int xi :: rest) h1 Q) ∧ (aCt d mi pc L rest h Q (some (.long xl)) h1 ↔ (hv h1 = hv h ∨ rok h h1 (L.map (fun q => q.2) ++ rest)) ∧ aWP d mi pc L (.long xl :: rest) h1 Q) ∧ (aCt d mi pc L rest h Q (some (.ref xr)) h1 ↔ (hv h1 = hv h ∨ rok h h1 (L.map (fun q => q.2) ++ rest)) ∧ aWP d mi pc L (.ref xr :: rest) h1 Q) := by
  refine ⟨?_, ?_, ?_, ?_⟩ <;> exact ⟨fun q => q.2, fun q => ⟨rfl, q⟩⟩
end KNH
