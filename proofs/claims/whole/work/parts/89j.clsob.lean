/-! what a primitive makes -/
section CORB
variable {h h' : Hp} {Q : Option Value → Hp → Prop} {d : Nat} {G : PG} {p pc : Nat} {cap : Nat} {s : List Int64} {v x y : Int64} {a b o : Int32} {ba : Nat} {se : Int32} {bk : List BK} {F : List Int64} {ce : Nat} {gc : List Int64} {r n M : Nat} {inp out : List Int32}
/-- stack, open call and counters are left alone -/
def Keep (h h' : Hp) : Prop := (∀ cap s, RXs cap s h → RXs cap s h') ∧ (∀ pc ba se bk, RXf pc ba se bk h → RXf pc ba se bk h') ∧ (∀ th st lt lf, RXd th st lt lf h → RXd th st lt lf h') ∧ hI h' 47 14 = hI h 47 14
theorem kp_rf : Keep h h := ⟨fun _ _ q => q, fun _ _ _ _ q => q, fun _ _ _ _ q => q, rfl⟩
theorem kp_tr {h1 h2 : Hp} (a : Keep h h1) (b : Keep h1 h2) : Keep h h2 := ⟨fun _ _ q => b.1 _ _ (a.1 _ _ q), fun _ _ _ _ q => b.2.1 _ _ _ _ (a.2.1 _ _ _ _ q), fun _ _ _ _ q => b.2.2.1 _ _ _ _ (a.2.2.1 _ _ _ _ q), b.2.2.2.trans a.2.2.2⟩
theorem kp_gro (g : Gro r n h h') (hr : r ≠ 53 ∧ r ≠ 54 ∧ r ≠ 55 ∧ r ≠ 56) : Keep h h' := ⟨fun _ _ q => rxs_gro g hr.1 q, fun _ _ _ _ q => rxf_gro g hr.2 q, fun _ _ _ _ q => rxd_gro g q, by rw [g.2.1]⟩
theorem kp_B {k : Nat} {f : Nat → Int64} (hk : k ≠ 53) : Keep h (pB h k f) := by
  refine ⟨fun cap s q => ?_, fun _ _ _ _ q => q, fun _ _ _ _ q => q, rfl⟩
  have e : hB (pB h k f) 53 = hB h 53 := up1_ne (Ne.symm hk)
  unfold RXs at q ⊢
  rw [e]; exact q
theorem kp_I {k i : Nat} {v : Int32} (hk : k ≠ 47) : Keep h (pI h k i v) := by
  have e : hI (pI h k i v) 47 = hI h 47 := up2_row (Ne.symm hk)
  refine ⟨fun cap s q => ?_, fun _ _ _ _ q => ?_, fun _ _ _ _ q => ?_, by rw [e]⟩
  · unfold RXs at q ⊢; rw [e]; exact q
  · unfold RXf at q ⊢; rw [e]; exact q
  · unfold RXd at q ⊢; rw [e]; exact q
theorem kp_A {k : Nat} {f : Nat → Int32} (hk : k ≠ 54 ∧ k ≠ 55 ∧ k ≠ 56) : Keep h (pA h k f) := by
  have e1 : hA (pA h k f) 54 = hA h 54 := up1_ne (Ne.symm hk.1)
  have e2 : hA (pA h k f) 55 = hA h 55 := up1_ne (Ne.symm hk.2.1)
  have e3 : hA (pA h k f) 56 = hA h 56 := up1_ne (Ne.symm hk.2.2)
  refine ⟨fun _ _ q => q, fun _ _ _ _ q => ?_, fun _ _ _ _ q => q, rfl⟩
  unfold RXf at q ⊢; rw [e1, e2, e3]; exact q
theorem sx_r49 (S : SX G p h) (hn : n ≤ 150000) : SX G p (rmJ h 49 n) ∧ Gro 49 n h (rmJ h 49 n) ∧ (∀ i, i < hN h 49 → hB (rmJ h 49 n) 49 i = hB h 49 i) ∧ hN (rmJ h 49 n) 49 ≤ 300000 := by
  obtain ⟨g1, g2⟩ := gro_J S.1 (a := 49) (by decide) n
  have h130 := S.1.2.2
  have e := (rmJ_r h 49 n (by omega)).2.2.2.2.2.2.2.2.1
  have hc := (S.2.2.1.2.2 49 (by decide)).2
  have hc2 : cpR 49 = 300000 := rfl
  have hb : hN (rmJ h 49 n) 49 ≤ 300000 := by
    by_cases c : n ≤ hN h 49
    · rw [if_pos c] at e; omega
    · rw [if_neg c] at e; omega
  exact ⟨sx_gro g1 S (by decide) (by decide) (by rw [hc2]; exact hb), g1, g2, hb⟩
theorem rxh_r49 (S : SX G p h) (hn : n ≤ 150000) (q : RXh F ce gc h) : RXh F ce gc (rmJ h 49 n) ∧ n ≤ hN (rmJ h 49 n) 49 := by
  obtain ⟨s1, g1, g2, g3⟩ := sx_r49 S hn
  obtain ⟨b1, b2, b3, b4, b5, b6, b7, b8, b9⟩ := q
  have q1 := g1.2.2.2.2.1 57 (by decide) (by decide)
  have l := g1.2.2.2.2.2.2.1
  refine ⟨⟨by rw [g1.2.1]; exact b1, by omega, by omega, fun i x e => ?_, by rw [g1.2.1]; exact b5, b6, by rw [q1.2.2]; exact b7, b8, by rw [q1.2.1]; exact b9⟩, g1.2.2.2.2.2.1⟩
  have := g_lt e
  rw [g2 i (by omega)]; exact b4 i x e
theorem hps_of (S : SX G p h) (q : RXh F ce gc h) : HpS h 48 49 F.length := by
  have h130 := S.1.2.2
  refine ⟨S.1.1 48 (by decide), S.1.2.1 48 0 rfl, S.1.1 49 (by decide), by omega, by omega, rm_sb S.2.2.1, vy_cl S.1 S.2.1, vy_uq S.1 S.2.1 (by decide) op_n3.2.2.2.2.1, q.1, q.2.1, ?_⟩
  have := q.2.2.1
  omega
theorem rxp_I {i : Nat} {v : Int32} {k : Nat} (hk : k ≠ 50) (q : RXp inp out h) : RXp inp out (pI h k i v) := by
  have e : hI (pI h k i v) 50 = hI h 50 := up2_row (Ne.symm hk)
  unfold RXp at q ⊢; rw [e]; exact q
theorem app2 {s : List Int64} {v w : Int64} : s ++ [v, w] = (s ++ [v]) ++ [w] := by simp
theorem rxh_pair (S : SX G p h) (q : RXh F ce gc h) (hF : F.length ≤ 140000) (hc : ce + 1 ≤ 40000) : SX G p (hPair h 48 49 F.length x y) ∧ Keep h (hPair h 48 49 F.length x y) ∧ RXh (F ++ [x, y]) (ce + 1) gc (hPair h 48 49 F.length x y) ∧ (∀ inp out, RXp inp out h → RXp inp out (hPair h 48 49 F.length x y)) := by
  obtain ⟨s1, g1, g2, g3⟩ := sx_r49 S (n := F.length + 2) (by omega)
  obtain ⟨q1, q2⟩ := rxh_r49 S (n := F.length + 2) (by omega) q
  have e2 : hI h 48 2 + 1 = nI (ce + 1) := by rw [q.2.2.2.2.1, nI_1]
  unfold hPair
  rw [e2]
  have kp := kp_gro g1 (by decide)
  have rp : ∀ inp out, RXp inp out h → RXp inp out (rmJ h 49 (F.length + 2)) := fun _ _ q => rxp_gro g1 (by decide) q
  generalize rmJ h 49 (F.length + 2) = H at *
  obtain ⟨b1, b2, b3, b4, b5, b6, b7, b8, b9⟩ := q1
  refine ⟨sx_I (by decide) (sx_B (sx_B (sx_I (by decide) s1))), kp_tr kp (kp_tr (kp_I (by decide)) (kp_tr (kp_B (by decide)) (kp_tr (kp_B (by decide)) (kp_I (by decide))))), ⟨?_, ?_, b3, ?_, rfl, hc, b7, b8, b9⟩, fun _ _ q => rxp_I (by decide) (show RXp _ _ (pI H 48 1 (nI (F.length + 2))) from rxp_I (by decide) (rp _ _ q))⟩
  · show nI (F.length + 2) = _
    simp
  · simp only [List.length_append, List.length_cons, List.length_nil]
    exact q2
  · rw [app2]
    have := upd_app (v := y) (upd_app (v := x) b4)
    intro i w e
    have := this i w e
    rw [List.length_append, List.length_singleton] at this
    exact this
theorem rxh_set {m : Nat} (q : RXh F ce gc h) (hm : m < F.length) : RXh (F.set m x) ce gc (pB h 49 (vp_updL (hB h 49) m x)) := by
  obtain ⟨b1, b2, b3, b4, b5, b6, b7, b8, b9⟩ := q
  exact ⟨by rw [List.length_set]; exact b1, by rw [List.length_set]; exact b2, b3, upd_set b4, b5, b6, b7, b8, b9⟩
end CORB
