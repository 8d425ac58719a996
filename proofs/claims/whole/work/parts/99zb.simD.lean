/-! BUILD. The two compilers against each other: bindings -/
def bC : List Nat → Nat → Nat → List SCe
  | [], _, _ => []
  | j :: l, d, bd => (j, d, bd) :: bC l (d + 1) bd
def bM : List Nat → Nat → Nat → List SGe
  | [], _, _ => []
  | j :: l, L, s => (j, L, s) :: bM l L (s + 1)
theorem bC_len : ∀ (l : List Nat) (d bd : Nat), (bC l d bd).length = l.length
  | [], _, _ => rfl
  | j :: l, d, bd => by rw [bC, List.length_cons, bC_len l, List.length_cons]
theorem bM_len : ∀ (l : List Nat) (d bd : Nat), (bM l d bd).length = l.length
  | [], _, _ => rfl
  | j :: l, d, bd => by rw [bM, List.length_cons, bM_len l, List.length_cons]
theorem bC_get : ∀ (l : List Nat) (d bd i : Nat), i < l.length → (bC l d bd).getD i (0, 0, 0) = (l.getD i 0, d + i, bd)
  | [], _, _, _, h => by simp at h
  | j :: l, d, bd, 0, _ => rfl
  | j :: l, d, bd, i + 1, h => by
    show (bC l (d + 1) bd).getD i (0, 0, 0) = (l.getD i 0, d + (i + 1), bd)
    rw [bC_get l (d + 1) bd i (by simpa using h), show d + 1 + i = d + (i + 1) by omega]
theorem bM_get : ∀ (l : List Nat) (L s i : Nat), i < l.length → (bM l L s).getD i (0, 0, 0) = (l.getD i 0, L, s + i)
  | [], _, _, _, h => by simp at h
  | j :: l, L, s, 0, _ => rfl
  | j :: l, L, s, i + 1, h => by
    show (bM l L (s + 1)).getD i (0, 0, 0) = (l.getD i 0, L, s + (i + 1))
    rw [bM_get l L (s + 1) i (by simpa using h), show s + 1 + i = s + (i + 1) by omega]
theorem bM_nm : ∀ (l : List Nat) (L s : Nat), (bM l L s).map (·.1) = l
  | [], _, _ => rfl
  | j :: l, L, s => by rw [bM, List.map_cons, bM_nm l]
theorem bndz_len {s k : Nat} : (bnd s k).length = k := by unfold bnd; rw [List.length_map, List.length_range]
theorem bnd_get {s k i : Nat} (h : i < k) : (bnd s k)[i]? = some (some (s + i)) := by
  unfold bnd
  rw [List.getElem?_map, List.getElem?_range h]
  rfl
theorem bnd_mem {s k t : Nat} (h : some t ∈ bnd s k) : s ≤ t ∧ t < s + k := by
  unfold bnd at h
  obtain ⟨i, hi, e⟩ := List.mem_map.mp h
  rw [List.mem_range] at hi
  injection e with e
  omega
section SME
variable {N : NS} {mt : List Nat} {z z1 z2 z3 z' zm : CR} {y y1 y2 y3 y' ym : MR} {n b g a m n1 b1 lo la' lv L : Nat} {G : PG} {S : Shp} {la : Bool}
theorem bp_bC : ∀ (ps : List Nat) (d : Nat) (z : CR), rSc (cBp N ps d z) = rSc z ++ bC ((nms N ps).map (nCn N)) d (rBd z) ∧ (cBp N ps d z).1 = z.1 ∧ (cBp N ps d z).2.1.2 = z.2.1.2 ∧ (cBp N ps d z).2.2 = z.2.2
  | [], d, z => ⟨(List.append_nil _).symm, rfl, rfl, rfl⟩
  | p :: ps, d, z => by
    obtain ⟨a1, a2, a3, a4⟩ := bp_bC ps (d + 1) (cBi (nCn N (prt N p 0)) d z)
    refine ⟨?_, a2, a3, a4⟩
    refine a1.trans ?_
    show (rSc z ++ [_]) ++ _ = rSc z ++ ((nCn N (prt N p 0), d, rBd z) :: bC ((nms N ps).map (nCn N)) (d + 1) (rBd z))
    rw [List.append_assoc]
    rfl
theorem bn_bC : ∀ (ns bf : List Nat) (i : Nat) (z : CR), rFl (cBn N ns bf i z) = none → rSc (cBn N ns bf i z) = rSc z ++ bC (ns.map (nCn N)) i (rBd z) ∧ (cBn N ns bf i z).1 = z.1 ∧ (cBn N ns bf i z).2.1.2 = z.2.1.2 ∧ (cBn N ns bf i z).2.2 = z.2.2 ∧ Nmo N ns bf
  | [], bf, i, z, _ => ⟨(List.append_nil _).symm, rfl, rfl, rfl, trivial⟩
  | p :: ns, bf, i, z, hn => by
    have key : ∀ (ns bf : List Nat) (i : Nat) (z : CR), rFl (cBn N ns bf i z) = none → rFl z = none := by
      intro ns
      induction ns with
      | nil => intro bf i z h; exact h
      | cons q ns ih =>
        intro bf i z h
        have h2 := ih (bf ++ [nCn N q]) (i + 1) (cBi (nCn N q) i (cCk N bf q z)) h
        exact ef_no (ck_e (N := N) (z := z) (b := bf) (n := q) (a := 0)).2.1 h2
    have h2 : rFl (cCk N bf p z) = none := key ns (bf ++ [nCn N p]) (i + 1) (cBi (nCn N p) i (cCk N bf p z)) hn
    obtain ⟨e1, e2, e3⟩ := ck_id h2
    have hn' : rFl (cBn N ns (bf ++ [nCn N p]) (i + 1) (cBi (nCn N p) i z)) = none := by
      have : cBn N (p :: ns) bf i z = cBn N ns (bf ++ [nCn N p]) (i + 1) (cBi (nCn N p) i (cCk N bf p z)) := rfl
      rw [this, e1] at hn
      exact hn
    obtain ⟨a1, a2, a3, a4, a5⟩ := bn_bC ns (bf ++ [nCn N p]) (i + 1) (cBi (nCn N p) i z) hn'
    have ez : cBn N (p :: ns) bf i z = cBn N ns (bf ++ [nCn N p]) (i + 1) (cBi (nCn N p) i z) := by
      show cBn N ns (bf ++ [nCn N p]) (i + 1) (cBi (nCn N p) i (cCk N bf p z)) = _
      rw [e1]
    rw [ez]
    refine ⟨?_, a2, a3, a4, e2, e3, a5⟩
    refine a1.trans ?_
    show (rSc z ++ [_]) ++ _ = rSc z ++ ((nCn N p, i, rBd z) :: bC (ns.map (nCn N)) (i + 1) (rBd z))
    rw [List.append_assoc]
    rfl
/-- what binding does in the reference -/
def InS (js : List Nat) (y y' : MR) : Prop := mSg y' = mSg y ++ bM js (mAr y (mLv y)) (mSl y (mLv y)) ∧ mLv y' = mLv y ∧ mAr y' = mAr y ∧ mSl y' (mLv y) = mSl y (mLv y) + js.length ∧ y'.1 = y.1 ∧ mLa y' = mLa y ∧ mFe y' = mFe y ∧ mFm y' = mFm y ∧ mWr y' = mWr y
theorem ins_S : ∀ (js : List Nat) (y : MR), InS js y (js.foldl (fun y j => mIn j y) y)
  | [], y => ⟨(List.append_nil _).symm, rfl, rfl, rfl, rfl, rfl, rfl, rfl, rfl⟩
  | j :: js, y => by
    obtain ⟨a1, a2, a3, a4, a5, a6, a7, a8, a9⟩ := ins_S js (mIn j y)
    have s1 : mSl (mIn j y) (mLv (mIn j y)) = mSl y (mLv y) + 1 := if_pos rfl
    rw [List.foldl_cons]
    refine ⟨?_, a2, a3, ?_, a5, a6, a7, a8, a9⟩
    · rw [a1, s1]
      show (mSg y ++ [_]) ++ _ = _
      rw [List.append_assoc]
      rfl
    · rw [s1] at a4
      show mSl _ (mLv (mIn j y)) = _
      rw [a4, List.length_cons]
      omega
theorem bi_S {w : Nat} : ∀ (ns bf : List Nat) (y : MR), Nmo N ns bf → ((mSg y).drop w).map (·.1) = bf → w ≤ (mSg y).length → mBi N w ns y = (ns.map (nCn N)).foldl (fun y j => mIn j y) y
  | [], _, _, _, _, _ => rfl
  | n :: ns, bf, y, h, hw, hl => by
    obtain ⟨h1, h2, h3⟩ := h
    have e : mBs N n w y = y := if_neg (fun c => c.elim (fun c => by omega) (fun c => h2 (by rw [← hw]; exact c)))
    show mBi N w ns (mIn (nCn N n) (mBs N n w y)) = _
    rw [e, bi_S ns (bf ++ [nCn N n]) (mIn (nCn N n) y) h3 ?_ ?_]
    · rfl
    · show ((mSg y ++ [((nCn N n, mAr y (mLv y), mSl y (mLv y)) : SGe)]).drop w).map (·.1) = _
      rw [List.drop_append_of_le_length hl, List.map_append, hw]
      rfl
    · show w ≤ (mSg y ++ [_]).length
      rw [List.length_append]
      omega
/-- scope and sight with bindings -/
theorem bind_sim {js : List Nat} {s : Nat} (hA : SRa z y) (hE : SRe z y) (hS1 : ∀ i, i < (rSc z).length → (scD z i).2.2 = rBd z → S[(scD z i).2.1]? = some (some (sgD y i).2.2)) (hS2 : ∀ t, some t ∈ S → t < s) (hs : s = mSl y (mLv y)) (c1 : rSc z2 = rSc z ++ bC js S.length (rBd z)) (c2 : z2.2.1.2 = z.2.1.2) (i : InS js y y2) :
    SRa z2 y2 ∧ SRe z2 y2 ∧ (∀ i, i < (rSc z2).length → (scD z2 i).2.2 = rBd z2 → (S ++ bnd s js.length)[(scD z2 i).2.1]? = some (some (sgD y2 i).2.2)) ∧ (∀ t, some t ∈ S ++ bnd s js.length → t < mSl y2 (mLv y2)) := by
  obtain ⟨i1, i2, i3, i4, i5, i6, i7, i8, i9⟩ := i
  obtain ⟨⟨a1, a2⟩, a3, a4, a5, a6⟩ := hA
  have bd : rBd z2 = rBd z := congrArg Prod.fst c2
  have kp : rKp z2 = rKp z := congrArg Prod.snd c2
  have len : (rSc z2).length = (rSc z).length + js.length := by rw [c1, List.length_append, bC_len]
  have old : ∀ i, i < (rSc z).length → scD z2 i = scD z i ∧ sgD y2 i = sgD y i := fun i hi => by
    unfold scD sgD
    rw [c1, i1, gd_app1 hi, gd_app1 (by omega)]
    exact ⟨rfl, rfl⟩
  have new : ∀ i, (rSc z).length ≤ i → i < (rSc z2).length → scD z2 i = (js.getD (i - (rSc z).length) 0, S.length + (i - (rSc z).length), rBd z) ∧ sgD y2 i = (js.getD (i - (rSc z).length) 0, mAr y (mLv y), s + (i - (rSc z).length)) := fun i hi hi2 => by
    unfold scD sgD
    rw [c1, i1, gd_app3 hi, gd_app3 (by omega), ← a1, bC_get _ _ _ _ (by omega), bM_get _ _ _ _ (by omega), hs]
    exact ⟨rfl, rfl⟩
  refine ⟨⟨⟨by rw [len, i1, List.length_append, bM_len]; omega, by rw [bd, i2]; exact a2⟩, fun i hi => ?_, by rw [i2, i3]; exact a4, by unfold AI; rw [i2, i3, i6]; exact a5, by rw [i3]; exact a6⟩, fun l l1 l2 => ?_, fun i hi ho => ?_, fun t ht => ?_⟩
  · rw [i2, i3]
    by_cases c : i < (rSc z).length
    · rw [(old i c).1, (old i c).2]; exact a3 i c
    · obtain ⟨e1, e2⟩ := new i (by omega) hi
      rw [e1, e2]
      exact ⟨rfl, by show mAr y (mLv y) = mAr y (rBd z); rw [a2], by show rBd z ≤ mLv y; omega⟩
  · rw [i2] at l2
    obtain ⟨f1, f2⟩ := hE l l1 l2
    have hfs : fes y2 = fes y := by funext M; unfold fes; rw [i7]
    refine ⟨?_, fun x hx => ?_⟩
    · unfold FrO at f1 ⊢
      rw [i3, i7, hfs]
      refine ⟨f1.1, fun k e he => ?_⟩
      obtain ⟨g1, g2, g3⟩ := f1.2 k e he
      rw [(old e.1 g1).1, (old e.1 g1).2]
      exact ⟨by omega, g2, g3⟩
    · rw [i3, hfs]
      rw [kp] at hx
      exact f2 x hx
  · by_cases c : i < (rSc z).length
    · rw [(old i c).1] at ho ⊢
      rw [(old i c).2]
      rw [bd] at ho
      have := hS1 i c ho
      rw [List.getElem?_append_left (g_lt this)]
      exact this
    · obtain ⟨e1, e2⟩ := new i (by omega) hi
      rw [e1, e2]
      show (S ++ bnd s js.length)[S.length + (i - (rSc z).length)]? = some (some (s + (i - (rSc z).length)))
      rw [List.getElem?_append_right (Nat.le_add_right _ _), Nat.add_sub_cancel_left]
      exact bnd_get (by omega)
  · rw [i2, i4]
    rcases List.mem_append.mp ht with ht | ht
    · have := hS2 t ht
      omega
    · have := bnd_mem ht
      omega
/-- and without them again -/
theorem sre_rest {c : Nat} (h : SRe z3 y3) (h1 : rSc z' = (rSc z3).take c) (h2 : rKp z' = rKp z3) (h3 : mSg y' = (mSg y3).take c) (h4 : mLv y' = mLv y3) (h5 : mAr y' = mAr y3) (h6 : mFe y' = mFe y3) (hc : ∀ i, c ≤ i → i < (rSc z3).length → (scD z3 i).2.2 = mLv y3) : SRe z' y' := by
  intro l l1 l2
  rw [h4] at l2
  obtain ⟨f1, f2⟩ := h l l1 l2
  have hfs : fes y' = fes y3 := by funext M; unfold fes; rw [h6]
  refine ⟨?_, fun x hx => ?_⟩
  · unfold FrO at f1 ⊢
    rw [h5, h6, hfs]
    refine ⟨f1.1, fun k e he => ?_⟩
    obtain ⟨g1, g2, g3⟩ := f1.2 k e he
    have hlt : e.1 < c := Nat.lt_of_not_le fun cc => by
      have := hc e.1 cc g1
      omega
    have e1 : scD z' e.1 = scD z3 e.1 := by unfold scD; rw [h1, gd_take hlt]
    have e2 : sgD y' e.1 = sgD y3 e.1 := by unfold sgD; rw [h3, gd_take hlt]
    rw [e1, e2, h1, List.length_take]
    exact ⟨by omega, g2, g3⟩
  · rw [h5, hfs]
    rw [h2] at hx
    exact f2 x hx
end SME
