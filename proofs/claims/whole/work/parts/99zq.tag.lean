/-! BUILD. Each list of a quote begins at one place of the data -/
def tgl (l : List DTe) : List Nat := l.map (·.1)
def TGt (a b : Nat) (l l' : List Nat) : Prop := l <+: l' ∧ ∀ i t : Nat, l.length ≤ i → l'[i]? = some t → t ≠ 0 → (a ≤ t ∧ t < b) ∧ ∀ j : Nat, l.length ≤ j → l'[j]? = some t → j = i
def TZ (N : NS) (mt : List Nat) (a b : Nat) (z z' : CR) : Prop := rFl z' = none → TGt a b (tgl (rDt z)) (tgl (rDt z')) ∧ (PDo N mt (fun _ => False) (rDt z) → PDo N mt (fun _ => False) (rDt z'))
def TFs (N : NS) (mt : List Nat) (g : Nat) (F : Nat → Bool → CR → CR) : Prop := ∀ v m la z, Trb g N v m → KI z.2.1 → TZ N mt v m z (F v la z)
section TAG
variable {N : NS} {mt : List Nat} {z z1 z2 z' : CR} {a b g m n : Nat} {la : Bool} {F : Nat → Bool → CR → CR}
theorem tgt_tr {l l1 l2 : List Nat} (h1 : TGt a m l l1) (h2 : TGt m b l1 l2) (ha : a ≤ m) (hb : m ≤ b) : TGt a b l l2 := by
  obtain ⟨p1, p2⟩ := h1
  obtain ⟨q1, q2⟩ := h2
  refine ⟨p1.trans q1, fun i t hi ht h0 => ?_⟩
  by_cases c : i < l1.length
  · rw [pf_ge q1 c] at ht
    obtain ⟨r1, r2⟩ := p2 i t hi ht h0
    refine ⟨by omega, fun j hj hjt => ?_⟩
    by_cases c2 : j < l1.length
    · rw [pf_ge q1 c2] at hjt
      exact r2 j hj hjt
    · have := (q2 j t (by omega) hjt h0).1
      omega
  · obtain ⟨r1, r2⟩ := q2 i t (by omega) ht h0
    refine ⟨by omega, fun j hj hjt => ?_⟩
    by_cases c2 : j < l1.length
    · rw [pf_ge q1 c2] at hjt
      have := (p2 j t hj hjt h0).1
      omega
    · exact r2 j (by omega) hjt
theorem tgt_rf {l : List Nat} : TGt a b l l := ⟨List.prefix_refl _, fun i t hi ht => by have := g_lt ht; omega⟩
theorem tgt_wk {a' b' : Nat} {l l' : List Nat} (h : TGt a b l l') (h1 : a' ≤ a) (h2 : b ≤ b') : TGt a' b' l l' := ⟨h.1, fun i t hi ht h0 => by
  obtain ⟨r1, r2⟩ := h.2 i t hi ht h0
  exact ⟨by omega, r2⟩⟩
theorem tgl_U {dt : List DTe} {s : Nat} {v : Int64} : tgl (dU dt s v) = tgl dt := by
  refine List.ext_getElem? fun i => ?_
  unfold tgl
  rw [List.getElem?_map, List.getElem?_map]
  exact dU_tag
theorem dml_t {R : Nat → Nat → Prop} {Fd : Nat → List DTe → Int64 × List DTe} {X : Nat → Int32} (hF : ∀ p m dt, R p m → TGt p m (tgl dt) (tgl (Fd p dt).2)) : ∀ (l : List Nat) (a b s : Nat) (dt : List DTe), Frs R X l a b → TGt a b (tgl dt) (tgl (cDmL Fd l s dt))
  | [], _, _, _, _, _ => tgt_rf
  | p :: l, a, b, s, dt, h => by
    obtain ⟨rfl, m, h1, h2, h3, h4, h5⟩ := h
    have i1 := dml_t hF l m b (s + 2) (dU (dU (Fd p dt).2 s (Fd p dt).1) (s + 1) (if l = [] then vof 4 0 else vof 6 (nI (s + 2)))) h5
    rw [tgl_U, tgl_U] at i1
    exact tgt_tr (hF p m dt h1) i1 (by omega) h3
theorem dm_t : ∀ (f g n m : Nat) (dt : List DTe), Tr g N n m → g ≤ f → m < 2000000000 → TGt n m (tgl dt) (tgl (cDm N mt f n dt).2)
  | 0, g, n, m, dt, h, hg, _ => by
    have : g = 0 := by omega
    subst this
    exact h.elim
  | f + 1, g, n, m, dt, h, hg, hm => by
    have hlt := tr_lt _ _ _ _ h
    unfold cDm
    split
    · exact tgt_rf
    · split
      · exact tgt_rf
      · rename_i c5 c6
        split
        · exact tgt_rf
        · have h6 : nK N n = 6 := Classical.byContradiction c6
          cases g with
          | zero => exact h.elim
          | succ g =>
            obtain ⟨a1, a2, a3⟩ := tr_pts h h6 hm
            have i1 := dml_t (Fd := cDm N mt f) (R := fun u v => Tr g N u v ∧ v < 2000000000) (X := nX N) (fun p m' dt' hr => dm_t f g p m' dt' hr.1 (by omega) hr.2) (pts N n) (n + 1) m dt.length (dt ++ (n, none) :: List.replicate (2 * (pts N n).length - 1) (0, none)) (frs_cg _ _ _ a3 (fun u v hu hv hr => ⟨hr, by omega⟩) (fun _ _ _ => rfl))
            refine tgt_tr (m := n + 1) ?_ i1 (by omega) (by omega)
            have e : tgl (dt ++ (n, none) :: List.replicate (2 * (pts N n).length - 1) (0, none)) = tgl dt ++ n :: List.replicate (2 * (pts N n).length - 1) 0 := by
              unfold tgl
              rw [List.map_append, List.map_cons, List.map_replicate]
            rw [e]
            have key : ∀ i t : Nat, (tgl dt).length ≤ i → (tgl dt ++ n :: List.replicate (2 * (pts N n).length - 1) 0)[i]? = some t → t ≠ 0 → t = n ∧ i = (tgl dt).length := fun i t hi ht h0 => by
              rw [List.getElem?_append_right hi] at ht
              cases hd : i - (tgl dt).length with
              | zero =>
                rw [hd] at ht
                injection ht with ht
                exact ⟨ht.symm, by omega⟩
              | succ k =>
                rw [hd] at ht
                have ht : (List.replicate (2 * (pts N n).length - 1) 0)[k]? = some t := ht
                rw [List.getElem?_replicate] at ht
                split at ht
                · injection ht with ht
                  exact absurd ht.symm h0
                · cases ht
            refine ⟨List.prefix_append _ _, fun i t hi ht h0 => ?_⟩
            obtain ⟨k1, k2⟩ := key i t hi ht h0
            exact ⟨by omega, fun j hj hjt => by have := (key j t hj hjt h0).2; omega⟩
theorem tz_tr (h1 : TZ N mt a m z z1) (h2 : TZ N mt m b z1 z2) (ha : a ≤ m) (hb : m ≤ b) {x w : Nat} (E2 : Ef x w z1 z2) : TZ N mt a b z z2 := fun hn => ⟨tgt_tr (h1 (ef_no E2 hn)).1 (h2 hn).1 ha hb, fun q => (h2 hn).2 ((h1 (ef_no E2 hn)).2 q)⟩
theorem tz_same (h : rDt z1 = rDt z) : TZ N mt a b z z1 := fun _ => by rw [h]; exact ⟨tgt_rf, id⟩
theorem tz_wk {a' b' : Nat} (h : TZ N mt a b z z1) (h1 : a' ≤ a) (h2 : b ≤ b') : TZ N mt a' b' z z1 := fun hn => ⟨tgt_wk (h hn).1 h1 h2, (h hn).2⟩
theorem tz_cg (h : TZ N mt a b z z1) (e1 : rFl z2 = rFl z1) (e2 : rDt z2 = rDt z1) : TZ N mt a b z z2 := fun hn => by
  rw [e1] at hn
  rw [e2]
  exact h hn
theorem tz_cl (h : TZ N mt a b z1 z') (e2 : rDt z1 = rDt z) : TZ N mt a b z z' := fun hn => by
  have := h hn
  rw [e2] at this
  exact this
theorem gb_dt : rDt (cGb la z) = rDt z := by
  unfold cGb
  split <;> rfl
theorem bo_t (hF : CFs N g F) (hT : TFs N mt g F) : ∀ (l : List Nat) (a b : Nat) (z : CR), Sqn g N l a b → KI z.2.1 → TZ N mt a b z (cBo F la l z)
  | [], _, _, _, _, _ => tz_same rfl
  | [v], a, b, z, hs, hk => by
    obtain ⟨q1, m, q2, _, q4, _⟩ := hs
    exact tz_wk (hT v m la z q2 hk) q1 q4
  | v :: w :: l, a, b, z, hs, hk => by
    obtain ⟨q1, m, q2, q3, q4, q5⟩ := hs
    have E1 := hF v m false z q2 hk
    have E2 := bo_e hF (la := la) (w :: l) m b (cE 30 0 (rDp (F v false z) - 1) (F v false z)) (by simp) q5 E1.2.2.1
    exact tz_tr (tz_wk (tz_cg (z2 := cE 30 0 (rDp (F v false z) - 1) (F v false z)) (hT v m false z q2 hk) rfl rfl) q1 (Nat.le_refl _)) (bo_t hF hT (w :: l) m b _ q5 E1.2.2.1) (by omega) q4 E2.2.2.2.1
theorem cl_t (hF : CFs N g F) (hT : TFs N mt g F) : ∀ (l : List Nat) (a b : Nat) (z : CR), Sqn g N l a b → KI z.2.1 → TZ N mt a b z (l.foldl (fun z a => F a false z) z)
  | [], _, _, _, _, _ => tz_same rfl
  | v :: l, a, b, z, hs, hk => by
    obtain ⟨q1, m, q2, q3, q4, q5⟩ := hs
    have E1 := hF v m false z q2 hk
    have E2 := cl_e hF l m b (F v false z) q5 E1.2.2.1
    exact tz_tr (tz_wk (hT v m false z q2 hk) q1 (Nat.le_refl _)) (cl_t hF hT l m b (F v false z) q5 E1.2.2.1) (by omega) q4 E2.2.2.2.1
theorem ck_dt {bf : List Nat} : rDt (cCk N bf n z) = rDt z := by
  unfold cCk
  split <;> rfl
theorem lt_t (hF : CFs N g F) (hT : TFs N mt g F) : ∀ (ps bf : List Nat) (a b : Nat) (z : CR), Sqn g N (vls N ps) a b → KI z.2.1 → TZ N mt a b z (cLt N F ps bf z)
  | [], _, _, _, _, _, _ => tz_same rfl
  | p :: ps, bf, a, b, z, hs, hk => by
    obtain ⟨q1, m, q2, q3, q4, q5⟩ := hs
    have q1 : a ≤ prt N p 1 := q1
    have q3 : prt N p 1 < m := q3
    obtain ⟨c1, _⟩ := ck_e (N := N) (z := z) (b := bf) (n := prt N p 0) (a := a)
    have hkc : KI (cCk N bf (prt N p 0) z).2.1 := by rw [c1]; exact hk
    have E1 := hF (prt N p 1) m false (cCk N bf (prt N p 0) z) q2 hkc
    have E2 := lt_e hF ps (bf ++ [nCn N (prt N p 0)]) m b _ q5 E1.2.2.1
    refine tz_cl ?_ (ck_dt (N := N) (n := prt N p 0) (bf := bf))
    exact tz_tr (tz_wk (hT (prt N p 1) m false _ q2 hkc) q1 (Nat.le_refl _)) (lt_t hF hT ps _ m b _ q5 E1.2.2.1) (by omega) q4 E2.2.2.2.1
theorem lr_t (hF : CFs N g F) (hT : TFs N mt g F) : ∀ (ps bf : List Nat) (d a b : Nat) (z : CR), Sqn g N (vls N ps) a b → KI z.2.1 → TZ N mt a b z (cLr N F ps bf d z)
  | [], _, _, _, _, _, _, _ => tz_same rfl
  | p :: ps, bf, d, a, b, z, hs, hk => by
    obtain ⟨q1, m, q2, q3, q4, q5⟩ := hs
    have q1 : a ≤ prt N p 1 := q1
    have q3 : prt N p 1 < m := q3
    obtain ⟨c1, _⟩ := ck_e (N := N) (z := z) (b := bf) (n := prt N p 0) (a := a)
    have hkc : KI (cCk N bf (prt N p 0) z).2.1 := by rw [c1]; exact hk
    have E1 := hF (prt N p 1) m false (cCk N bf (prt N p 0) z) q2 hkc
    have E2 := lr_e hF ps (bf ++ [nCn N (prt N p 0)]) (d + 1) m b (cE 23 (nI d) (rDp (F (prt N p 1) false (cCk N bf (prt N p 0) z)) - 1) (F (prt N p 1) false (cCk N bf (prt N p 0) z))) q5 E1.2.2.1
    refine tz_cl ?_ (ck_dt (N := N) (n := prt N p 0) (bf := bf))
    exact tz_tr (tz_wk (tz_cg (z2 := cE 23 (nI d) (rDp (F (prt N p 1) false (cCk N bf (prt N p 0) z)) - 1) (F (prt N p 1) false (cCk N bf (prt N p 0) z))) (hT (prt N p 1) m false _ q2 hkc) rfl rfl) q1 (Nat.le_refl _)) (lr_t hF hT ps _ (d + 1) m b _ q5 E1.2.2.1) (by omega) q4 E2.2.2.2.1
theorem ut_t {o : Int32} (hF : CFs N g F) (hT : TFs N mt g F) : ∀ (l xs : List Nat) (a b : Nat) (z : CR), l ≠ [] → Sqn g N l a b → KI z.2.1 → TZ N mt a b z (cU0 F la o l xs z).1 ∧ Ef a b z (cU0 F la o l xs z).1
  | [], _, _, _, _, h, _, _ => absurd rfl h
  | [v], xs, a, b, z, _, hs, hk => by
    obtain ⟨q1, m, q2, _, q4, _⟩ := hs
    exact ⟨tz_wk (hT v m la z q2 hk) q1 q4, ef_wk (hF v m la z q2 hk).2.2.2.1 q1 q4⟩
  | v :: w :: l, xs, a, b, z, _, hs, hk => by
    obtain ⟨q1, m, q2, q3, q4, q5⟩ := hs
    have E1 := hF v m false z q2 hk
    obtain ⟨i1, i2⟩ := ut_t (o := o) hF hT (w :: l) ((rCd (F v false z)).length :: xs) m b (cE o (oI xs.head?) (rDp (F v false z) - 1) (F v false z)) (by simp) q5 E1.2.2.1
    exact ⟨tz_tr (tz_wk (tz_cg (z2 := cE o (oI xs.head?) (rDp (F v false z) - 1) (F v false z)) (hT v m false z q2 hk) rfl rfl) q1 (Nat.le_refl _)) i1 (by omega) q4 i2, ef_tr (ef_tr (ef_wk E1.2.2.2.1 q1 (Nat.le_refl _)) ef_E (Nat.le_of_eq E1.2.1.symm)) i2 (by show rBd z ≤ rBd (F v false z); rw [E1.2.1]; exact Nat.le_refl _)⟩
end TAG
