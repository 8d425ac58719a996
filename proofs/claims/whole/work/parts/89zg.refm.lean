/-! set and define -/
section REM
variable {h h' : Hp} {Q : Option Value → Hp → Prop} {d : Nat} {G : PG} {q : Nat} {qv : Nat → Int64} {n : Nat} {N : Int32} {sl : List Nat} {bs : Nat} {pr : Option Nat} {ps : List (Nat × List Nat)}
theorem bxo_fun {b b' : Nat} (h1 : Bxo G n (sl, bs, pr) ps b) (h2 : Bxo G n (sl, bs, pr) ps b') : b = b' := by
  rcases h1 with ⟨c, t, t1, t2, t3⟩ | ⟨c, j, p, L, ks, j1, j2, j3, e1, e2⟩ <;> rcases h2 with ⟨c', t', t1', t2', t3'⟩ | ⟨c', j', p', L', ks', j1', j2', j3', e1', e2'⟩
  · have : t = t' := nI_inj (by omega) (by omega) (t2.symm.trans t2')
    subst this
    rw [t3] at t3'
    injection t3' with t3'
    omega
  · rw [c] at c'; exact absurd c' (by decide)
  · rw [c] at c'; exact absurd c' (by decide)
  · have : j = j' := nI_inj (by omega) (by omega) (j2.symm.trans j2')
    subst this
    have j3 : pr = some p := j3
    have j3' : pr = some p' := j3'
    rw [j3] at j3'
    injection j3' with j3'
    subst j3'
    rw [e1] at e1'
    injection e1' with e1'
    injection e1' with e3 e4
    subst e4
    rw [e2] at e2'
    injection e2'
theorem rs_16 {y y' : RSt} (hr : RS1 G qv 16 y y') (r : RM G q qv y h) (hd : 10 < d) (hq : ∀ h', RM G q qv y' h' → aWP d 257 35 (LR N) [] h' Q) : aWP d 257 35 (LR N) [] h Q := by
  obtain ⟨⟨md, nw, td0, wk⟩, ⟨sl, bs, pr⟩, ⟨bx, ps, pa, ce, gr⟩, P⟩ := y
  match md, td0, hr with
  | none, (4, n, m) :: td, hr =>
    obtain ⟨i, c, a, v, w, rfl, hi, hc, hw, hz⟩ := hr
    rcases hz with ⟨rfl, ⟨u, hu, hne⟩, hz⟩ | ⟨rfl, h26, g, g1, g2, g3, rfl⟩
    · have hm : G.1 26 a = 1 ∨ G.1 26 a = 2 ∨ G.1 26 a = 3 := by
        rcases hz with ⟨b, b1, _⟩ | ⟨c3, _⟩
        · rcases b1 with ⟨e, _⟩ | ⟨e, _⟩
          · exact Or.inl e
          · exact Or.inr (Or.inl e)
        · exact Or.inr (Or.inr c3)
      refine rs_st hi hc hw (Or.inl rfl) (fun e => absurd e (by decide)) (fun _ => ⟨hu, hm⟩) r hd (fun _ e => absurd e hne) (fun _ b b1 c3 => ?_) (fun _ c3 g g1 g2 => ?_)
      · rcases hz with ⟨b', b1', rfl⟩ | ⟨c3', _⟩
        · rw [bxo_fun b1 b1']; exact hq
        · exact absurd c3' c3
      · rcases hz with ⟨b', b1', _⟩ | ⟨_, g', g1', g2', rfl⟩
        · rcases b1' with ⟨e, _⟩ | ⟨e, _⟩ <;> rw [c3] at e <;> exact absurd e (by decide)
        · have : g = g' := nI_inj (by omega) (by omega) (g2.symm.trans g2')
          subst this
          exact hq
    · refine rs_st (v := 0) hi hc hw (Or.inr rfl) (fun _ => ⟨h26, g, g1, g2, g3⟩) (fun e => absurd e (by decide)) r hd (fun e => absurd e (by decide)) (fun _ b b1 c3 => absurd h26 c3) (fun _ c3 g' g1' g2' => ?_)
      have : g' = g := nI_inj (by omega) (by omega) (g2'.symm.trans g2)
      subst this
      exact hq
end REM
