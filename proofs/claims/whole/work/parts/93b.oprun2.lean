/-! RUN: the operation -/
section ORO
variable {h g : Hp} {G : PG} {p q : Nat} {qv : Nat → Int64} {pm : List Nat} {pl : List (Nat × Nat)} {z : CSt} {y : RSt} {D : VD} {k : Nat}
theorem i32_n {n : Int32} (h1 : ¬ n < 0) (h2 : ¬ 20000 < n) : ∃ m, m ≤ 20000 ∧ n = nI m := by
  rw [Int32.lt_iff_toInt_lt] at h1 h2
  have e0 : (0 : Int32).toInt = 0 := rfl
  have e2 : (20000 : Int32).toInt = 20000 := rfl
  rw [e0] at h1
  rw [e2] at h2
  refine ⟨n.toInt.toNat, by omega, Int32.toInt_inj.mp ?_⟩
  rw [nI_toInt (by omega)]
  omega
theorem rxp_ag {inp out : List Int32} (e1 : hI g 50 = hI h 50) (e2 : hA g 51 = hA h 51 ∧ hN g 51 = hN h 51) (e3 : hA g 52 = hA h 52 ∧ hN g 52 = hN h 52) (r : RXp inp out h) : RXp inp out g := by
  unfold RXp at r ⊢
  rw [e1, e2.1, e2.2, e3.1, e3.2]
  exact r
theorem run_ref {n : Int32} {r : Nat} {inp out : List Int32} (I : InvC (CoreM Mach) k h) (vs : Vs p q h) (n1 : hI h 59 19 = 1) (ps : PS G) (J : VJ D) (pt : Pt D h)
    (kM : ∀ a, 59 ≤ a → a < 130 → hI g a = hI h a ∧ hL g a = hL h a ∧ hR g a = hR h a ∧ hA g a = hA h a ∧ hB g a = hB h a ∧ hN g a = hN h a) (kS : ∀ a, (a < 19 ∨ (39 ≤ a ∧ a ≤ 46) ∨ a = 58) → hI g a = hI h a ∧ hR g a = hR h a ∧ hA g a = hA h a ∧ hB g a = hB h a)
    (sx : SX G p g) (rw' : RWn z g) (rx : RXp inp out g) (a13 : hI g 47 13 = nI r) (p1 : hL g 0 9 = z.2.2.2.2.2.2.2.1)
    (E : aEv 1399 257 [.ref 59, .int n] g (fun r2 h2 => r2 = some (.int (nI r)) ∧ ∃ h3, RO G q (qe qv D h) r y h3 ∧ h2 = hAn h3 r)) (yi : y.2.2.2.1 = inp ∧ y.2.2.2.2.1 = out)
    (mid : ∃ pm pl, Mid G (qe qv D h) pm pl z y ∧ ((r = 0 ∨ (11 ≤ r ∧ r ≤ 17)) ∨ (1 ≤ r ∧ r < 4 ∧ ∃ ph, RlB G (qe qv D h) pm pl ph z y))) :
    aEv 1399 257 [.ref 59, .int n] g (fun r2 h2 => r2 = some (.int (nI r)) ∧ InvC (CoreM Mach) (k + 1) h2) := by
  obtain ⟨hp, hq⟩ := vs_p vs
  have vg : Vs p q g := by
    refine ⟨?_, ?_, by rw [(kS 39 (by omega)).2.1]; exact vs.2.2.1, by rw [(kS 3 (by omega)).2.1]; exact vs.2.2.2.1, ?_⟩
    · unfold PgX; rw [(kS 0 (by omega)).2.1]; exact vs.1
    · unfold PgM; rw [(kM 59 (by decide) (by decide)).2.2.1]; exact vs.2.1
    · rcases hp with rfl | rfl
      · exact Or.inl sx.2.2.2.2.1
      · exact Or.inr sx.2.2.2.2.1
  have hxS : xS Xm [.ref 59, .int n] := fun v hv k e => by
    simp only [List.mem_cons, List.not_mem_nil, or_false] at hv
    rcases hv with rfl | rfl
    · injection e with e
      subst e
      exact Nat.le_refl _
    · cases e
  refine aEv_mono (aEv_frame Xm (rg_m sx.1 vg) hxS E) ?_
  rintro r2 h2 ⟨⟨rfl, h3, ro, rfl⟩, _, sm, _⟩
  refine ⟨rfl, ?_⟩
  obtain ⟨agx, k5⟩ := sm_m sm
  obtain ⟨pm, pl, mid, hr⟩ := mid
  obtain ⟨⟨o1, o2, o3, o4, o5, o6, ⟨d1, d2, d3, d4, d5, d6, d7⟩, o8⟩, ro2⟩ := ro
  have S2 : SM G q (qe qv D h) (hAn h3 r) := sm_I (sm_L o1)
  have hp9 : ∀ j, j ≤ 9 → p + j < 59 := fun j hj => by omega
  have sx2 : SX G p (hAn h3 r) := ⟨S2.1, S2.2.1, S2.2.2.1, px_same (k5 p (by omega)).1 (fun j hj => ⟨(k5 _ (hp9 j hj)).2.2.2.1, (k5 _ (hp9 j hj)).2.2.2.2.2, (k5 _ (hp9 j hj)).2.2.2.2.1⟩) sx.2.2.2.1, by rw [(k5 47 (by decide)).2.2.1]; exact sx.2.2.2.2.1, sx.2.2.2.2.2⟩
  have rx2 : RXp inp out (hAn h3 r) := rxp_ag (k5 50 (by decide)).1 ⟨(k5 51 (by decide)).2.2.2.1, (k5 51 (by decide)).2.2.2.2.2⟩ ⟨(k5 52 (by decide)).2.2.2.1, (k5 52 (by decide)).2.2.2.2.2⟩ rx
  have a1 : hI (hAn h3 r) 47 13 = nI r := by rw [(k5 47 (by decide)).1]; exact a13
  have mx : MXp inp out (hAn h3 r) := by rw [← yi.1, ← yi.2]; exact o6
  refine run_fin (y := y) (z := z) (pm := pm) (pl := pl) (inp := inp) (out := out) (r := r) I vs n1 ps J pt sx2 S2 (rwn_ag agx rw') rx2 ⟨o2, o3, o4, o5, ⟨d1, d2, d3, d4, d5, d6, d7⟩, o8⟩ mx a1 rfl (by rw [(k5 0 (by decide)).2.1]; exact p1) d5 (fun a ha => ?_) mid ?_
  · have := k5 a (by omega)
    have h2 := kS a ha
    exact ⟨this.1.trans h2.1, this.2.2.1.trans h2.2.1, this.2.2.2.1.trans h2.2.2.1, this.2.2.2.2.1.trans h2.2.2.2⟩
  · rcases hr with hr | ⟨r1, r2, rl⟩
    · rcases ro2 with ⟨e1, _⟩ | ⟨_, _, c1, c2, _⟩
      · exact Or.inl ⟨r, a1, e1, hr⟩
      · omega
    · rcases ro2 with ⟨_, c⟩ | ⟨e1, e2, _, _, e3⟩
      · omega
      · exact Or.inr ⟨Or.inr ⟨r, r1, r2, a1⟩, e1, e3, rl⟩
theorem op_run : OpS (InvC (CoreM Mach)) 175 257 1 := by
  intro k h As hk hi hl hv
  obtain ⟨n, rfl⟩ := as_1 hl hv
  have up := inv_up (coc_of mach_com) hi
  have hi0 := hi
  obtain ⟨s, tp, fl, pi, po, hh, D, J, pt, sk, vy, rm, rq, p, q, vs, H⟩ := hi
  obtain ⟨hp, hq⟩ := vs_p vs
  refine sp_runX s (by omega) (fun c => ⟨-1, rfl, sp_runM s (fun _ => ⟨rfl, up⟩) (fun c1 c2 c3 => absurd c (by rw [hh]; exact fun c => c.elim c1 (fun c => c.elim c2 c3)))⟩) (fun c1 c2 c3 => ?_)
  obtain ⟨m, hm, rfl⟩ := i32_n c2 c3
  rw [hh] at c1
  rcases H with ⟨n0, _⟩ | ⟨n1, G, qv, pm, pl, z, y, rfl, ps, sx, sm0, rw', rz, ea, mid, lv⟩
  · exact absurd n0 c1
  have hW := ps.1
  have n1' : hI h 59 19 ≠ 0 := c1
  obtain ⟨inp, out, rx, mx⟩ := po_in rm pi po
  have r18 : hR h 59 18 = some (152 - q) := by
    rcases vs.2.1 with ⟨rfl, _, e⟩ | ⟨rfl, _, e⟩ <;> exact e
  obtain ⟨⟨pc, st⟩, ⟨ba, se, bk, cap⟩, ⟨F, ce, gc⟩, ⟨i0, o0, th, ste, lt, l0⟩⟩ := z
  obtain ⟨⟨md, nw, td, wk⟩, ⟨sl, bs, pr⟩, ⟨bx, prs, pa, ce', gr⟩, ⟨i1, o1, th', op, ste', lt', b0⟩⟩ := y
  obtain ⟨w1, w2, w3, w4, w5, w6⟩ := rw'
  obtain ⟨z1, z2, z3, z4, ⟨d1, d2, d3, d4, d5, d6, d7⟩, z6⟩ := rz
  have hout : out.length ≤ 1000 := rx.2.2.2.1
  -- the reference behind the class
  have smg : ∀ {g : Hp}, Sk g → Vy g → Rm g → (∀ a, 59 ≤ a → a < 130 → hI g a = hI h a ∧ hL g a = hL h a ∧ hR g a = hR h a ∧ hA g a = hA h a ∧ hB g a = hB h a ∧ hN g a = hN h a) → SM G q (qe qv (Dv pm pl) h) g := fun {g} sg vg rg kM => by
    obtain ⟨m1, m2, m3, m4, m5, m6, m7⟩ := sm0
    have e59 := kM 59 (by decide) (by decide)
    have e114 := kM 114 (by decide) (by decide)
    have hpn := m4.2.2.1
    refine ⟨sg, vg, rg, pm_same (kM q (by omega) (by omega)).1 (fun j hj => ?_) m4, by rw [e59.2.2.1]; exact m5, by rw [e114.2.2.2.2.2]; exact m6, fun n hn => ?_, kq_same ⟨by rw [e59.1], by rw [e59.1], by rw [e59.1], by rw [e59.1]⟩ (kM 60 (by decide) (by decide)).2.2.2.1 (kM 129 (by decide) (by decide)).2.2.2.2.1 (by rw [e59.2.2.1]) (kq_qe r18)⟩
    · have := kM (q + j) (by omega) (by omega)
      exact ⟨this.2.2.2.1, this.2.2.2.2.2⟩
    · rw [e114.2.2.2.2.1, qe_lo (by omega)]; exact m7 n hn
  have agm : ∀ {g : Hp}, (∀ a, 59 ≤ a → a < 130 → hI g a = hI h a ∧ hL g a = hL h a ∧ hR g a = hR h a ∧ hA g a = hA h a ∧ hB g a = hB h a ∧ hN g a = hN h a) → AgM h g := fun {g} kM => by
    refine ⟨fun i _ _ _ => by rw [(kM 59 (by decide) (by decide)).1], fun i _ => by rw [(kM 59 (by decide) (by decide)).2.1], fun a h1 h2 => ?_⟩
    obtain ⟨_, _, _, e4, e5, e6⟩ := kM a (by omega) (by omega)
    exact ⟨e4, e5, e6⟩
  have mxg : ∀ {g : Hp}, (∀ a, 59 ≤ a → a < 130 → hI g a = hI h a ∧ hL g a = hL h a ∧ hR g a = hR h a ∧ hA g a = hA h a ∧ hB g a = hB h a ∧ hN g a = hN h a) → MXp inp out g := fun {g} kM => by
    have e59 := kM 59 (by decide) (by decide)
    have e127 := kM 127 (by decide) (by decide)
    have e128 := kM 128 (by decide) (by decide)
    unfold MXp at mx ⊢
    rw [e59.1, e127.2.2.2.1, e127.2.2.2.2.2, e128.2.2.2.1, e128.2.2.2.2.2]; exact mx
  have kid : ∀ v, ∀ a, 59 ≤ a → a < 130 → hI (pL h 0 9 v) a = hI h a ∧ hL (pL h 0 9 v) a = hL h a ∧ hR (pL h 0 9 v) a = hR h a ∧ hA (pL h 0 9 v) a = hA h a ∧ hB (pL h 0 9 v) a = hB h a ∧ hN (pL h 0 9 v) a = hN h a := fun v a h1 h2 => ⟨rfl, up2_row (by omega), rfl, rfl, rfl, rfl⟩
  rcases lv with ⟨r, l1, l2, l3⟩ | ⟨l1, l2, l3, ph, rl⟩
  · -- it has ended before
    have ha : hI h 47 13 = 0 ∨ ¬ hI h 47 13 < 10 := by
      rw [l1]
      rcases l3 with rfl | l3
      · exact Or.inl rfl
      · refine Or.inr ?_
        have z10 : (10 : Int32) = nI 10 := rfl
        rw [z10, nI_ltN (by omega) (by omega)]
        omega
    refine sp_workE s ha ⟨rfl, s, nI r, by rw [l1], ?_⟩
    have sg : SX G p (pL h 0 9 (hL h 47 17)) := sx_L sx
    have SG := smg sg.1 sg.2.1 sg.2.2.1 (kid (hL h 47 17))
    obtain ⟨md1, vr, ty, s0, sh, wk0, cor⟩ := mid
    refine run_ref (y := ((md, nw, td, wk), (sl, bs, pr), (bx, prs, pa, ce', gr), (inp, out, th', op, ste', lt', m))) (z := ((pc, st), (ba, se, bk, cap), (F, ce, gc), (inp, out, th, ste, lt, l0))) (inp := inp) (out := out) (qv := qv) (D := Dv pm pl) hi0 vs n1 ps J pt (kid _) (fun a _ => ⟨rfl, rfl, rfl, rfl⟩) sg ⟨w1, w2, w3, w4, w5, w6⟩ rx l1 w6 ?_ ⟨rfl, rfl⟩ ⟨pm, pl, ⟨md1, vr, ty, s0, sh, wk0, cor_qe hW cor⟩, Or.inl l3⟩
    refine sp_runM sg.1 (fun c => absurd c (fun c => c.elim c1 (fun c => c.elim c2 c3))) (fun _ _ _ => ?_)
    have ro : RO G q (qe qv (Dv pm pl) h) r ((md, nw, td, wk), (sl, bs, pr), (bx, prs, pa, ce', gr), (inp, out, th', op, ste', lt', m)) (pI (pI (pI (pL h 0 9 (hL h 47 17)) 59 61 (nI m)) 59 71 0) 59 68 0) := by
      exact ⟨⟨sm_I (sm_I (sm_I SG)), z1, z2, z3, z4, mx, ⟨d1, d2, d3, d4, d5, rfl, hm⟩, z6⟩, Or.inl ⟨l2, l3⟩⟩
    exact run_out ro ⟨rfl, _, ro, rfl⟩
  · -- it goes on
    have ha : hI h 47 13 ≠ 0 ∧ hI h 47 13 < 10 := by
      rcases l1 with e | ⟨r, r1, r2, e⟩
      · rw [e]; decide
      · have z10 : (10 : Int32) = nI 10 := rfl
        refine ⟨fun c => ?_, ?_⟩
        · rw [e] at c
          have := nI_inj (a := r) (b := 0) (by omega) (by omega) c
          omega
        · rw [e, z10, nI_ltN (by omega) (by omega)]
          omega
    obtain ⟨⟨q1, q2, q3⟩, ty, sh, s0, S, L, shl, sll, shf, slf, vr, cor, env, md'⟩ := rl
    have rel : Rel G (qe qv (Dv pm pl) h) ph ((pc, st), (ba, se, bk, cap), (F, ce, gc), (inp, out, th, ste, lt, m)) ((md, nw, td, wk), (sl, bs, pr), (bx, prs, pa, ce', gr), (inp, out, th', op, ste', lt', m)) :=
      ⟨⟨q1, rfl, rfl, q2, q3, rfl, hout⟩, pm, pl, ty, sh, s0, S, L, shl, sll, shf, slf, vr, cor_qe hW cor, env, md'⟩
    obtain ⟨nn, mm, r, z', y', hnn, cs, rs, fnl⟩ := sim_all hW (mz G ((pc, st), (ba, se, bk, cap), (F, ce, gc), (inp, out, th, ste, lt, m)) * 200 + ph + 1) ph _ _ rel (by omega)
    have hnn2 : nn ≤ 1000000000 := by
      have hcz := hW.2.1
      have hbk : bk.length ≤ 1000 := w2.2.2.2.2.2.2.1
      have e1 := bks_le (G := G) (bk := bk)
      have e2 : bk.length * (pCz G + 1) ≤ 1000 * 7502 := Nat.mul_le_mul hbk (by omega)
      have e3 : m * (pCz G + 2) ≤ 20000 * 7503 := Nat.mul_le_mul hm (by omega)
      have e4 : mz G ((pc, st), (ba, se, bk, cap), (F, ce, gc), (inp, out, th, ste, lt, m)) = (pCz G + 1 - pc) + bks G bk + m * (pCz G + 2) := rfl
      omega
    obtain ⟨⟨pc', st'⟩, ⟨ba', se', bk', cap'⟩, ⟨F', ce1, gc'⟩, ⟨inp', out', th1, ste1, lt1, l1'⟩⟩ := z'
    obtain ⟨⟨md2, nw2, td2, wk2⟩, ⟨sl2, bs2, pr2⟩, ⟨bx2, prs2, pa2, ce2, gr2⟩, ⟨inp2, out2, th2, op2, ste2, lt2, b2⟩⟩ := y'
    obtain ⟨⟨f1, f2, f3, f4, f5, f6, f7⟩, ⟨pm1, pl1, ty1, s1, sh1, wk1, vr1, cor1⟩, fin⟩ := fnl
    have hz0 : F'.length ≤ 13000 + 3 * ce1 := cor1.2.2.2.2.2.2.2.2.1
    have W : RW G p ((pc, st), (ba, se, bk, cap), (F, ce, gc), (inp, out, th, ste, lt, l0)) h := ⟨sx, w1, w2, w3, ⟨w4, w5, w6⟩, rx⟩
    have E := sp_work (d := 1399 - 1) (Q := fun r0 h' => r0 = none ∧ ∃ h1, RX G p ((pc', st'), (ba', se', bk', cap'), (F', ce1, gc'), (inp', out', th1, ste1, lt1, l1')) h1 ∧ h' = hEn h1 r) hW (by decide) W hm ha cs hnn2 hz0 (fun h' rx' => ⟨rfl, h', rx', rfl⟩)
    have hxS : xS Xc [.ref 47, .int (nI m)] := fun v hv k e => by
      simp only [List.mem_cons, List.not_mem_nil, or_false] at hv
      rcases hv with rfl | rfl
      · injection e with e
        subst e
        exact Or.inr (Or.inl ⟨by decide, by decide⟩)
      · cases e
    refine aEv_mono (aEv_frame Xc (rg_c s vs) hxS E) ?_
    rintro r0 h' ⟨⟨rfl, h1, rx', rfl⟩, _, smc, _⟩
    have rw2 := rx_w (n := r) rx'
    obtain ⟨v1, v2, v3, v4, ⟨v5, v6, v7⟩, v8⟩ := rw2
    refine ⟨rfl, v1.1, nI r, rfl, ?_⟩
    obtain ⟨_, kM, kS⟩ := sm_x smc
    have sg : SX G p (pL (hEn h1 r) 0 9 (hL (hEn h1 r) 47 17)) := sx_L v1
    have kM' : ∀ a, 59 ≤ a → a < 130 → hI (pL (hEn h1 r) 0 9 (hL (hEn h1 r) 47 17)) a = hI h a ∧ hL (pL (hEn h1 r) 0 9 (hL (hEn h1 r) 47 17)) a = hL h a ∧ hR (pL (hEn h1 r) 0 9 (hL (hEn h1 r) 47 17)) a = hR h a ∧ hA (pL (hEn h1 r) 0 9 (hL (hEn h1 r) 47 17)) a = hA h a ∧ hB (pL (hEn h1 r) 0 9 (hL (hEn h1 r) 47 17)) a = hB h a ∧ hN (pL (hEn h1 r) 0 9 (hL (hEn h1 r) 47 17)) a = hN h a := fun a h1' h2' => by
      obtain ⟨e1, e2, e3, e4, e5, e6⟩ := kM a h1' h2'
      exact ⟨e1, (up2_row (by omega)).trans e2, e3, e4, e5, e6⟩
    have SG := smg sg.1 sg.2.1 sg.2.2.1 kM'
    have AG := agm kM'
    have MG := mxg kM'
    have rzg : RZn ((md, nw, td, wk), (sl, bs, pr), (bx, prs, pa, ce', gr), (inp, out, th', op, ste', lt', b0)) (pL (hEn h1 r) 0 9 (hL (hEn h1 r) 47 17)) := rzn_ag AG ⟨z1, z2, z3, z4, ⟨d1, d2, d3, d4, d5, d6, d7⟩, z6⟩
    have mcg : MXc md nw (pL (hEn h1 r) 0 9 (hL (hEn h1 r) 47 17)) := mxc_ag AG l3
    have e69 : hI (pL (hEn h1 r) 0 9 (hL (hEn h1 r) 47 17)) 59 69 = -1 := by rw [(kM' 59 (by decide) (by decide)).1]; exact l2
    have e19 : hI (pL (hEn h1 r) 0 9 (hL (hEn h1 r) 47 17)) 59 19 ≠ 0 := by rw [(kM' 59 (by decide) (by decide)).1]; exact c1
    have kS' : ∀ a, (a < 19 ∨ (39 ≤ a ∧ a ≤ 46) ∨ a = 58) → hI (pL (hEn h1 r) 0 9 (hL (hEn h1 r) 47 17)) a = hI h a ∧ hR (pL (hEn h1 r) 0 9 (hL (hEn h1 r) 47 17)) a = hR h a ∧ hA (pL (hEn h1 r) 0 9 (hL (hEn h1 r) 47 17)) a = hA h a ∧ hB (pL (hEn h1 r) 0 9 (hL (hEn h1 r) 47 17)) a = hB h a := fun a ha => by
      obtain ⟨e1, e2, e3, e4, e5, e6⟩ := kS a ha
      exact ⟨e1, e3, e4, e5⟩
    have rwg : RWn ((pc', st'), (ba', se', bk', cap'), (F', ce1, gc'), (inp', out', th1, ste1, lt1, l1')) (pL (hEn h1 r) 0 9 (hL (hEn h1 r) 47 17)) := ⟨v2, v3, v4, v5, v6, v7⟩
    have a13 : hI (pL (hEn h1 r) 0 9 (hL (hEn h1 r) 47 17)) 47 13 = nI r := rfl
    have p09 : hL (pL (hEn h1 r) 0 9 (hL (hEn h1 r) 47 17)) 0 9 = lt1 := (up2_eq : up2 (hL (hEn h1 r)) 0 9 (hL (hEn h1 r) 47 17) 0 9 = _).trans v7
    have rxg : RXp inp' out' (pL (hEn h1 r) 0 9 (hL (hEn h1 r) 47 17)) := v8
    generalize pL (hEn h1 r) 0 9 (hL (hEn h1 r) 47 17) = g at *
    refine run_ref (y := ((md2, nw2, td2, wk2), (sl2, bs2, pr2), (bx2, prs2, pa2, ce2, gr2), (inp2, out2, th2, op2, ste2, lt2, b2))) (inp := inp') (out := out') (qv := qv) (D := Dv pm pl) hi0 vs n1 ps J pt kM' kS' sg rwg rxg a13 p09 ?_ ⟨f2, f3⟩ ?_
    · refine sp_runM sg.1 (fun c => absurd c (fun c => c.elim e19 (fun c => c.elim c2 c3))) (fun _ _ _ => ?_)
      obtain ⟨y1, y2, y3, y4, y5, y6⟩ := rzg
      exact sp_ref hW (by decide) (e := (sl, bs, pr)) ⟨⟨SG, y1, y2, y3, y4, MG, y5, y6⟩, mcg, e69⟩ hm rs (fun h' ro => ⟨rfl, h', ro, rfl⟩)
    · rcases fin with fin | ⟨fin, rel2⟩
      · exact ⟨pm1, pl1, ⟨⟨f1, f4, f5, f6⟩, vr1, ty1, s1, sh1, wk1, cor1⟩, Or.inl (by omega)⟩
      · obtain ⟨⟨g1, g2, g3, g4, g5, g6, g7⟩, pm3, pl3, ty3, sh3, s3, S3, L3, shl3, sll3, shf3, slf3, vr3, cor3, env3, md3⟩ := rel2
        exact ⟨pm3, pl3, ⟨⟨g1, g4, g5, env3.2.2.2.2.2.2.2.2.1⟩, vr3, ty3, s3, sh3, wk2, cor3⟩, Or.inr ⟨by omega, by omega, 0, ⟨g1, g4, g5⟩, ty3, sh3, s3, S3, L3, shl3, sll3, shf3, slf3, vr3, cor3, env3, md3⟩⟩
end ORO
