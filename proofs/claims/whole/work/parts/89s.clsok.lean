/-! THE CLASS'S RUN: ends, and the loop -/
section COK
variable {h h' : Hp} {Q : Option Value → Hp → Prop} {d : Nat} {G : PG} {p : Nat}
def hEn (h : Hp) (r : Nat) : Hp := pI (pI h 47 13 (nI r)) 47 14 0
theorem nx_end {t : Nat} {h1 : Hp} (s : Sk h1) (hg : hI h1 47 14 = 0) (ht : t + 1 ≤ 1000000000) (hq : Q none h1) : NX d t Q h1 := by
  intro L lx l0 l2
  have k47 : hK h1 47 = 4 := s.1 47 (by decide)
  simp only [b76_29, l2, z_v, true_and]
  refine ⟨fun _ => ?_, fun _ => ?_⟩
  · simp only [b76_265]
    exact hq
  · simp only [b76_35, l0, z_v, k47, hg, true_and]
    refine ⟨fun _ => ?_, fun c => absurd trivial c⟩
    simp only [b76_265]
    exact hq
theorem pce_er {i : Nat} {x y : Int64} {ce : Nat} {inp out : List Int32} {r : Nat} (h : Pce i x y ce inp out r) : (10 < r ∧ r < 18 ∧ erf i x y ce ≠ 0 ∧ 10 + erf i x y ce = nI r) ∨ (erf i x y ce = 0 ∧ ((r = 2 ∧ i = 19 ∧ inp = []) ∨ (r = 3 ∧ i = 7 ∧ 1000 ≤ out.length))) := by
  rcases h with ⟨h1, h2, rfl⟩ | ⟨rfl, h2, rfl⟩ | ⟨h1, h2, h3, rfl⟩ | ⟨h1, h2, h3, h4, rfl⟩ | ⟨rfl, h2, rfl⟩ | ⟨rfl, h2, rfl⟩ | ⟨rfl, h2, h3, rfl⟩
  · have e : erf i x y ce = 3 := by unfold erf; rw [if_pos (by omega), if_neg h2]
    rw [e]; exact Or.inl ⟨by decide, by decide, by decide, by decide⟩
  · have e : erf 7 x y ce = 3 := by unfold erf; rw [if_neg (by decide), if_pos rfl, if_neg h2]
    rw [e]; exact Or.inl ⟨by decide, by decide, by decide, by decide⟩
  · have e : erf i x y ce = 3 := by
      unfold erf
      rw [if_neg (by omega), if_neg (by omega), if_neg (by omega), if_pos ⟨h1, h2⟩, if_neg (fun q => h3.elim (fun c => c q.1) (fun c => c q.2))]
    rw [e]; exact Or.inl ⟨by decide, by decide, by decide, by decide⟩
  · have e : erf i x y ce = 4 := by
      unfold erf
      rw [if_neg (by omega), if_neg (by omega), if_neg (by omega), if_pos ⟨by omega, by omega⟩, if_pos ⟨h2, h3⟩, if_pos ⟨h1, h4⟩]
    rw [e]; exact Or.inl ⟨by decide, by decide, by decide, by decide⟩
  · have e : erf 8 x y ce = 6 := by unfold erf; rw [if_neg (by decide), if_neg (by decide), if_pos rfl, if_neg h2]
    rw [e]; exact Or.inl ⟨by decide, by decide, by decide, by decide⟩
  · exact Or.inr ⟨rfl, Or.inl ⟨rfl, rfl, h2⟩⟩
  · exact Or.inr ⟨by unfold erf; rw [if_neg (by decide), if_pos rfl, if_pos h2], Or.inr ⟨rfl, rfl, h3⟩⟩
theorem cls_end (hW : WG G) {j t r : Nat} {L : ALS} {z : CSt} (hc : CE1 G j z r) (rx : RX G p z h) (hz0 : z.2.2.1.1.length ≤ 13000 + 3 * z.2.2.1.2.1) (hd : 40 ≤ d) (ht : t < 1000000000) (lx : LX 47 L) (l0 : lgv L 0 = .ref 47) (l2 : lgv L 2 = .int (nI t)) (hq : NX d t Q (hEn h r)) : aWP d 76 29 L [] h Q := by
  have T := rx_T rx hd ht lx l0 l2
  obtain ⟨⟨pc, s⟩, ⟨ba, se, bk, cap⟩, ⟨F, ce, gc⟩, ⟨inp, out, th, st, lt, lf⟩⟩ := z
  have r0 := rx
  obtain ⟨r1, r2, r3, r4, r5, r6, r7⟩ := rx
  have T : Turn G p pc t d h L := T
  have k := r1.1
  have hz := hW.2.1
  have hF0 : F.length ≤ 13000 + 3 * ce := hz0
  have hce : ce ≤ 40000 := r5.2.2.2.2.2.1
  have lt' : ∀ {x : Int32}, G.1 1 pc = x → x ≠ 36 → pc < pCz G := fun h1 h2 => op_lt hW h1 h2
  match j, hc with
  | 0, hc =>
    obtain ⟨ho, rfl⟩ := hc
    rcases Nat.lt_or_ge pc (pCz G) with hp | hp
    · refine tn_57 T hp ho ?_
      rw [e57_47 _ _ k]
      exact ⟨rfl, hq⟩
    · refine tn_57e T hp ?_
      rw [e57_47 _ _ k]
      exact ⟨rfl, hq⟩
  | 1, hc =>
    obtain ⟨v, h1, h2, rfl⟩ := hc
    have ho : G.1 1 pc = 16 ∨ G.1 1 pc = 17 ∨ G.1 1 pc = 18 := by
      rcases h1 with ⟨e, _⟩ | ⟨e, _⟩ | ⟨e, _⟩
      · exact Or.inl e
      · exact Or.inr (Or.inl e)
      · exact Or.inr (Or.inr e)
    have hp : pc < pCz G := by rcases ho with e | e | e <;> exact lt' e (by decide)
    exact tn_67 T hp ho (op_read k (by omega) r3 r4 r5 h1 ho (fun c => absurd h2 c) (fun _ => ⟨rfl, hq⟩))
  | 2, hc =>
    obtain ⟨v, t1, x, rfl, h1, h2, rfl⟩ := hc
    have ho : G.1 1 pc = 19 ∨ G.1 1 pc = 20 ∨ G.1 1 pc = 21 := by
      rcases h1 with ⟨e, _⟩ | ⟨e, _⟩ | ⟨e, _⟩
      · exact Or.inl e
      · exact Or.inr (Or.inl e)
      · exact Or.inr (Or.inr e)
    have hp : pc < pCz G := by rcases ho with e | e | e <;> exact lt' e (by decide)
    exact tn_71 T hp ho (op_set9 k (by omega) r3 r4 r5 h1 h2 ⟨rfl, hq⟩)
  | 3, hc =>
    obtain ⟨ho, M, m1, m2, o2, hr, rfl⟩ := hc
    have hp : pc < pCz G := lt' ho (by decide)
    have hfr := (hW.2.2.2.2.2.1 M m2).2.2.1
    refine tn_52 T hp ho ?_
    rw [o2]
    exact op_close (P := (inp, out, th, st, lt, lf)) (by omega) r0 m1 m2 hW.2.2.2.1 hfr r4.2.2.2.2.1 (by omega) hF0 (fun _ => ⟨rfl, hq⟩) (fun c => absurd c hr)
  | 4, hc =>
    obtain ⟨ho, t1, c, xs, rfl, o2, h8, c7, c8, rfl⟩ := hc
    rcases ho with ho | ho
    · have hp : pc < pCz G := lt' ho (by decide)
      refine tn_49a T hp ho ?_
      rw [o2]
      exact ci_pre k (by omega) r3 rfl h8 (fun c => absurd c c7) (fun c => absurd c c8) (fun _ _ => ⟨rfl, hq⟩)
    · have hp : pc < pCz G := lt' ho (by decide)
      refine tn_49b T hp ho ?_
      rw [o2]
      exact ci_pre k (by omega) r3 rfl h8 (fun c => absurd c c7) (fun c => absurd c c8) (fun _ _ => ⟨rfl, hq⟩)
  | 5, hc =>
    obtain ⟨ho, t1, a, M, xs, ha, rfl, o2, h8, hF, m1, m2, h3⟩ := hc
    obtain ⟨w0, w1, w2, f, cc, li, b, d', ex, w3, w4, w5⟩ := hW.2.2.2.2.2.2.2 M m1 m2
    have hdm := (hW.2.2.2.2.2.1 M m2).1
    have go : ∀ b : Bool, G.1 1 pc = (if b then 33 else 32) → aEv (d - 1) 49 [.ref 47, .int (nI xs.length), .int (if b then 1 else 0)] h (fun r h1 => r = none ∧ NX d t Q h1) := fun b hb => by
      refine ci_pre k (by omega) r3 rfl h8 (fun _ => ?_) (fun c => ?_) (fun c _ => ?_)
      · rw [vof_lo]
        refine sp_callp (b := b) r1 (by omega) r3 r4 r5 r6 rfl h8 hF m1 m2 hW.2.2.2.1 hdm w1 (fun c => ?_) (fun c cb c2 => ?_) (fun c cb c2 => ?_) (fun c cb c2 c3 => ?_) (fun c cb c3 => ?_)
        · rcases h3 with ⟨_, rfl⟩ | ⟨e, _⟩ | ⟨e, _⟩
          · exact ⟨rfl, rfl, hq⟩
          · exact absurd e c
          · exact absurd e c
        · rcases h3 with ⟨e, _⟩ | ⟨_, _, _, rfl⟩ | ⟨_, e, _⟩
          · exact absurd c e
          · exact ⟨rfl, rfl, hq⟩
          · subst cb
            rcases e with e | e
            · rw [hb] at e; exact absurd e (by decide)
            · exact absurd e c2
        · rcases h3 with ⟨e, _⟩ | ⟨_, e, e2, _⟩ | ⟨_, _, _, rfl⟩
          · exact absurd c e
          · rcases cb with rfl | cb
            · rw [hb] at e; exact absurd e (by decide)
            · exact absurd cb e2
          · exact ⟨rfl, rfl, hq⟩
        · have c3 : 0 < lf := c3
          rcases h3 with ⟨e, _⟩ | ⟨_, _, e, _⟩ | ⟨_, _, e, _⟩
          · exact absurd c e
          · exact absurd c2 e
          · omega
        · have c3 : 0 < lf := c3
          rcases h3 with ⟨e, _⟩ | ⟨_, e, _, _⟩ | ⟨_, _, e, _⟩
          · exact absurd c e
          · subst cb; rw [hb] at e; exact absurd e (by decide)
          · omega
      · rw [vof_kd] at c; exact absurd c (by decide)
      · rw [vof_kd] at c; exact absurd rfl c
    rcases ho with ho | ho
    · have hp : pc < pCz G := lt' ho (by decide)
      refine tn_49a T hp ho ?_
      rw [o2]
      exact go false (by simpa using ho)
    · have hp : pc < pCz G := lt' ho (by decide)
      refine tn_49b T hp ho ?_
      rw [o2]
      exact go true (by simpa using ho)
  | 6, hc =>
    obtain ⟨ho, t1, i, xs, x, y, hi, rfl, o2, h8, h3⟩ := hc
    have hw2 := pwt_le (i := i)
    have go : ∀ b : Int32, aEv (d - 1) 49 [.ref 47, .int (nI xs.length), .int b] h (fun r h1 => r = none ∧ NX d t Q h1) := fun b => by
      refine ci_pre k (by omega) r3 rfl h8 (fun c => ?_) (fun _ => ?_) (fun _ c => ?_)
      · rw [vof_kd] at c; exact absurd c (by decide)
      · rw [vof_lo]
        rcases h3 with ⟨e, rfl⟩ | ⟨e, ea, ep⟩
        · exact pr_pre k (by omega) r3 rfl h8 ⟨rfl, rfl⟩ fun y' _ => pr_bad k (by omega) hi h8 e ⟨rfl, rfl, hq⟩
        · refine pr_pre k (by omega) r3 rfl h8 ea fun y' hy => ?_
          rw [hy (by omega)]
          rcases pce_er ep with ⟨g1, g2, g3, g4⟩ | ⟨g1, g2⟩
          · refine pr_err k (by omega) hi e r5.2.2.2.2.1 hce (fun _ => ⟨rfl, rfl, ?_⟩) (fun c => absurd c g3)
            rw [g4]; exact hq
          · refine pr_err k (by omega) hi e r5.2.2.2.2.1 hce (fun c => absurd g1 c) (fun _ => ?_)
            refine pr_hold k (by omega) hi r7 (fun c c2 => ?_) (fun c c2 => ?_) (fun c c2 => ?_)
            · rcases g2 with ⟨rfl, _, _⟩ | ⟨_, e7, _⟩
              · exact ⟨rfl, rfl, hq⟩
              · omega
            · rcases g2 with ⟨_, e7, _⟩ | ⟨rfl, _, _⟩
              · omega
              · exact ⟨rfl, rfl, hq⟩
            · rcases g2 with ⟨_, e1, e2⟩ | ⟨_, e1, e2⟩
              · exact absurd e2 (c e1)
              · exact absurd (c2 e1) (Nat.not_lt.mpr e2)
      · rw [vof_kd] at c; exact absurd rfl c
    rcases ho with ho | ho
    · have hp : pc < pCz G := lt' ho (by decide)
      refine tn_49a T hp ho ?_
      rw [o2]
      exact go 0
    · have hp : pc < pCz G := lt' ho (by decide)
      refine tn_49b T hp ho ?_
      rw [o2]
      exact go 1
  | n + 7, hc => exact hc.elim
end COK
