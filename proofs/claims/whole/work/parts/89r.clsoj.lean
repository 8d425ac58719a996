/-! A TURN OF THE CLASS: the pure machine's step -/
section COJ
variable {h h' : Hp} {Q : Option Value → Hp → Prop} {d : Nat} {G : PG} {p : Nat}
theorem rx_T {z : CSt} {t : Nat} {L : ALS} (r : RX G p z h) (hd : 40 ≤ d) (ht : t < 1000000000) (lx : LX 47 L) (l0 : lgv L 0 = .ref 47) (l2 : lgv L 2 = .int (nI t)) : Turn G p z.1.1 t d h L :=
  ⟨r.1.1, r.1.2.2.2.1, r.1.2.2.2.2.2, r.1.2.2.2.2.1, r.2.1, r.2.2.2.1.2.2.1, r.2.2.2.1.2.2.2.2.2.1, ht, lx, l0, l2, hd⟩
theorem fr_st {s F s' F' : List Int64} {P0 : Nat} {x y : Int64} (hs : Sts P0 x s F s' F') (e : s[P0]? = some y) : (vkd y ≠ 10 → s' = s.set P0 x ∧ F' = F) ∧ (vkd y = 10 → ∃ m, y = vof 10 (nI m) ∧ m < F.length ∧ s' = s ∧ F' = F.set m x) := by
  obtain ⟨w, e1, e2⟩ := hs
  rw [e] at e1
  injection e1 with e1
  subst e1
  refine ⟨fun c => ?_, fun c => ?_⟩
  · rcases e2 with ⟨_, e2⟩ | ⟨m, m1, m2, _⟩
    · exact e2
    · rw [m2, vof_kd] at c; exact absurd rfl c
  · rcases e2 with ⟨c2, _⟩ | ⟨m, m1, m2, m3, m4, m5⟩
    · exact absurd c c2
    · exact ⟨m, m2, m3, m4, m5⟩
/-- where a primitive can be worked -/
theorem pcl_ok {i : Nat} {x y v : Int64} {F F' : List Int64} {ce ce' : Nat} {inp out inp' out' : List Int32} (hv : Pcl i x y (F, ce, inp, out) v (F', ce', inp', out')) : erf i x y ce = 0 ∧ (i = 19 → inp ≠ []) ∧ (i = 7 → out.length < 1000) := by
  rcases hv with ⟨rfl, a, a1, rfl, a2, a3⟩ | ⟨rfl, a, a1, rfl, a2, a3⟩ | ⟨rfl, a1, a2⟩ | ⟨rfl, a1, a2⟩ | ⟨rfl, a1, a2⟩ | ⟨rfl, a1, a2⟩ | ⟨rfl, a1, a2⟩ | ⟨rfl, a1, a2, a3, a4⟩ | ⟨rfl, a1, a2, a3⟩ | ⟨rfl, a, a1, rfl, a2, a3⟩ | ⟨rfl, a, a1, rfl, a2, a3⟩ | ⟨rfl, a1, a2⟩ | ⟨h1, h2, a1, a2, a3, a4, a5⟩ | ⟨rfl, c, t, rfl, a1, a2⟩
  · exact ⟨by unfold erf; rw [if_pos (by decide), if_pos (vof_kd _ _)], by omega, by omega⟩
  · exact ⟨by unfold erf; rw [if_pos (by decide), if_pos (vof_kd _ _)], by omega, by omega⟩
  · exact ⟨by rfl, by omega, by omega⟩
  · exact ⟨by rfl, by omega, by omega⟩
  · exact ⟨by rfl, by omega, by omega⟩
  · exact ⟨by rfl, by omega, by omega⟩
  · exact ⟨by rfl, by omega, by omega⟩
  · exact ⟨by unfold erf; rw [if_neg (by decide), if_pos rfl, if_pos a1], by omega, fun _ => a2⟩
  · exact ⟨by unfold erf; rw [if_neg (by decide), if_neg (by decide), if_pos rfl, if_pos a1], by omega, by omega⟩
  · exact ⟨by unfold erf; rw [if_pos (by decide), if_pos (vof_kd _ _)], by omega, by omega⟩
  · exact ⟨by unfold erf; rw [if_pos (by decide), if_pos (vof_kd _ _)], by omega, by omega⟩
  · exact ⟨by rfl, by omega, by omega⟩
  · refine ⟨?_, by omega, by omega⟩
    unfold erf
    rw [if_neg (by omega), if_neg (by omega), if_neg (by omega), if_pos ⟨h1, h2⟩, if_pos ⟨a1, a2⟩, if_neg (fun q => a3 q.1 q.2)]
  · exact ⟨by rfl, fun _ => by simp, by omega⟩
theorem cls_step (hW : WG G) {j t : Nat} {L : ALS} {z z' : CSt} (hc : CS1 G j z z') (r : RX G p z h) (hd : 40 ≤ d) (ht : t < 1000000000) (lx : LX 47 L) (l0 : lgv L 0 = .ref 47) (l2 : lgv L 2 = .int (nI t)) (hq : ∀ h', RX G p z' h' → NX d t Q h') : aWP d 76 29 L [] h Q := by
  have T := rx_T r hd ht lx l0 l2
  obtain ⟨⟨pc, s⟩, ⟨ba, se, bk, cap⟩, ⟨F, ce, gc⟩, ⟨inp, out, th, st, lt, lf⟩⟩ := z
  have r0 := r
  obtain ⟨r1, r2, r3, r4, r5, r6, r7⟩ := r
  have T : Turn G p pc t d h L := T
  have k := r1.1
  have hz := hW.2.1
  have f3 : hI h 47 7 = nI pc := r4.2.2.1
  have f6 : pc < 1000000 := r4.2.2.2.2.2.1
  have lt' : ∀ {x : Int32}, G.1 1 pc = x → x ≠ 36 → pc < pCz G := fun h1 h2 => op_lt hW h1 h2
  match j, hc with
  | 0, hc =>
    obtain ⟨ho, hcap, rfl⟩ := hc
    have hp : pc < pCz G := by rcases ho with e | e | e | e | e | e | e <;> exact lt' e (by decide)
    refine tn_66 T hp (by rcases ho with e | e | e | e | e | e | e <;> simp [e]) (op_cst k (by omega) r3 hcap f3 ho ⟨rfl, hq _ (rx_push r0 hcap (by omega))⟩)
  | 1, hc =>
    obtain ⟨v, h1, h2, h3, rfl⟩ := hc
    have ho : G.1 1 pc = 16 ∨ G.1 1 pc = 17 ∨ G.1 1 pc = 18 := by
      rcases h1 with ⟨e, _⟩ | ⟨e, _⟩ | ⟨e, _⟩
      · exact Or.inl e
      · exact Or.inr (Or.inl e)
      · exact Or.inr (Or.inr e)
    have hp : pc < pCz G := by rcases ho with e | e | e <;> exact lt' e (by decide)
    exact tn_67 T hp ho (op_read k (by omega) r3 r4 r5 h1 ho (fun _ => ⟨h3, rfl, hq _ (rx_push r0 h3 (by omega))⟩) (fun c => absurd c h2))
  | 12, hc =>
    obtain ⟨ho, s1, v, rfl, rfl⟩ := hc
    have hp : pc < pCz G := lt' ho (by decide)
    refine tn_59 T hp (Or.inl ho) ?_
    rw [ho]
    exact op_drop k (by omega) r3 f3 ⟨rfl, hq _ (rx_pop r0 (by omega))⟩
  | 15, hc =>
    obtain ⟨ho, x, x1, x2, rfl⟩ := hc
    have hp : pc < pCz G := lt' ho (by decide)
    refine tn_66 T hp (by simp [ho]) ?_
    rw [ho, x2]
    have hx : x < 1000000 := by omega
    exact op_jmp k (by omega) ⟨rfl, hq _ ⟨sx_I (by decide) r1, r2, r3, rxf_pc r4 hx, r5, r6, r7⟩⟩
  | 16, hc =>
    obtain ⟨ho, s1, v, x, rfl, x1, x2, rfl⟩ := hc
    have hp : pc < pCz G := lt' ho (by decide)
    refine tn_66 T hp (by simp [ho]) ?_
    rw [ho, x2]
    refine op_jif k (by omega) r3 f3 rfl ⟨rfl, ?_⟩
    by_cases c : vkd v = 2
    · rw [if_pos c] at hq ⊢
      exact hq _ (rx_pop r0 (by omega))
    · rw [if_neg c] at hq ⊢
      exact hq _ (rx_pop r0 (by omega))
  | 17, hc =>
    obtain ⟨ho, s1, v, x, rfl, x1, x2, rfl⟩ := hc
    have hp : pc < pCz G := by rcases ho with e | e <;> exact lt' e (by decide)
    refine tn_66 T hp (by rcases ho with e | e <;> simp [e]) ?_
    rw [x2]
    refine op_stop (x := fun _ => True) k (by omega) r3 f3 ho (fun c => ⟨rfl, ?_⟩) (fun c => ⟨rfl, ?_⟩)
    · rw [if_pos c] at hq
      have hx : x < 1000000 := by omega
      exact hq _ ⟨sx_I (by decide) r1, r2, r3, rxf_pc r4 hx, r5, r6, r7⟩
    · rw [if_neg c] at hq
      exact hq _ (rx_pop r0 (by omega))
  | 14, hc =>
    obtain ⟨ho, s1, v, rfl, rfl⟩ := hc
    have hp : pc < pCz G := lt' ho (by decide)
    refine tn_59 T hp (Or.inr (Or.inr ho)) ?_
    rw [ho]
    obtain ⟨d1, d2, d3, d4, d5⟩ := r6
    have hp1 : pc + 1 < 1000000 := by omega
    refine op_row k (by omega) r3 f3 d1 ⟨rfl, hq _ ⟨sx_I (by decide) (sx_I (by decide) (sx_L (sx_I (by decide) r1))), r2, (rxs_pop r3).1, rxf_pc (h := pI (pL (pI h 47 4 (nI s1.length)) 47 17 v) 47 18 (nI (th + 1))) r4 hp1, r5, ⟨rfl, d2, rfl, d4, d5⟩, r7⟩⟩
  | 13, hc =>
    obtain ⟨ho, t1, u, v, rfl, h1, h2, h3, rfl⟩ := hc
    have hp : pc < pCz G := lt' ho (by decide)
    refine tn_59 T hp (Or.inr (Or.inl ho)) ?_
    rw [ho, h3]
    refine op_slide k (by omega) r3 f3 h2 ⟨rfl, hq _ ?_⟩
    have rr := r3
    rw [← List.append_assoc] at rr
    obtain ⟨a1, a2, a3, a4, a5⟩ := rr
    have a2 : (t1 ++ u ++ [v]).length ≤ hN h 53 := a2
    simp only [List.length_append, List.length_singleton] at a2 h2
    have hp1 : pc + 1 < 1000000 := by omega
    have hc1 : t1.length < cap := by omega
    have rt : RXs cap t1 (pI (pI h 47 4 (nI (t1 ++ u).length)) 47 4 (nI t1.length)) := ⟨rfl, show t1.length ≤ hN h 53 by omega, a3, a4, fun i x q => a5 i x (g_app (g_app q))⟩
    exact ⟨sx_I (by decide) (sx_I (by decide) (sx_B (sx_I (by decide) (sx_I (by decide) r1)))), r2, rxs_push rt hc1, rxf_pc (h := hPs (pI (pI h 47 4 (nI (t1 ++ u).length)) 47 4 (nI t1.length)) t1.length v) r4 hp1, r5, r6, r7⟩
  | 11, hc =>
    obtain ⟨ho, s1, v, pb, bb, sb, bk', rfl, h1, rfl, h2, h3, rfl⟩ := hc
    have hp : pc < pCz G := lt' ho (by decide)
    exact tn_56 T hp ho (op_back k (by omega) r3 r4 h2 h3 ⟨rfl, hq _ (rx_bk r0 h2 h3 h1)⟩)
  | 2, hc =>
    obtain ⟨t1, x, v, s', F', gc', rfl, h1, h2, h3, h4, rfl⟩ := hc
    have ho : G.1 1 pc = 19 ∨ G.1 1 pc = 20 ∨ G.1 1 pc = 21 := by
      rcases h4 with ⟨e, _⟩ | ⟨e, _⟩ | ⟨e, _⟩
      · exact Or.inl e
      · exact Or.inr (Or.inl e)
      · exact Or.inr (Or.inr e)
    have hp : pc < pCz G := by rcases ho with e | e | e <;> exact lt' e (by decide)
    have hp1 : pc + 1 < 1000000 := by omega
    have hlen : t1.length + 1 ≤ cap := by simpa using h3
    have hlt : t1.length < cap := by omega
    obtain ⟨q1, q2, q3, q4⟩ := rxs_pop r3
    have hb : hN h 49 < 1000000 := r5.2.2.1
    refine tn_71 T hp ho (op_set k (by omega) r3 r4 r5 h1 h3 (fun c => absurd c h2) (fun _ e j y j1 j2 j3 => ?_) (fun _ e => ?_) (fun _ e => ?_))
    · rcases h4 with ⟨_, j', j4, j5, j6, rfl⟩ | ⟨e', _⟩ | ⟨e', _⟩
      · have ej : j' = j := nI_inj (by omega) (by omega) (j5.symm.trans j1)
        subst ej
        obtain ⟨u1, u2⟩ := fr_st j6 j3
        refine ⟨fun c => ?_, fun c => ?_⟩
        · obtain ⟨rfl, rfl⟩ := u1 c
          have rt : RXs cap (t1.set (ba + j') x) (pB (pI h 47 4 (nI t1.length)) 53 (vp_updL (hB h 53) (ba + j') x)) := ⟨by rw [List.length_set]; rfl, by rw [List.length_set]; exact q1.2.1, q1.2.2.1, q1.2.2.2.1, upd_set q1.2.2.2.2⟩
          have rp := rxs_push (v := 0) rt (by rw [List.length_set]; omega)
          rw [List.length_set] at rp
          exact ⟨rfl, hq _ ⟨sx_I (by decide) (sx_I (by decide) (sx_B (sx_B (sx_I (by decide) r1)))), r2, rp, rxf_pc (h := hPs (pB (pI h 47 4 (nI t1.length)) 53 (vp_updL (hB h 53) (ba + j') x)) t1.length 0) r4 hp1, r5, r6, r7⟩⟩
        · obtain ⟨m, m1, m2, rfl, rfl⟩ := u2 c
          have rp := rxs_push (v := 0) (h := pB (pI h 47 4 (nI s'.length)) 49 (vp_updL (hB h 49) m x)) q1 hlt
          exact ⟨m, m1, m2, rfl, hq _ ⟨sx_I (by decide) (sx_I (by decide) (sx_B (sx_B (sx_I (by decide) r1)))), r2, rp, rxf_pc (h := hPs (pB (pI h 47 4 (nI s'.length)) 49 (vp_updL (hB h 49) m x)) s'.length 0) r4 hp1, rxh_set (h := h) r5 m2, r6, r7⟩⟩
      · rw [e] at e'; exact absurd e' (by decide)
      · rw [e] at e'; exact absurd e' (by decide)
    · rcases h4 with ⟨e', _⟩ | ⟨_, k', a', y, m, m1, m2, m3, m4, m5, m6, m7, rfl, rfl, rfl⟩ | ⟨e', _⟩
      · rw [e] at e'; exact absurd e' (by decide)
      · have rp := rxs_push (v := 0) (h := pB (pI h 47 4 (nI s'.length)) 49 (vp_updL (hB h 49) m x)) q1 hlt
        exact ⟨k', a', y, m, m2, m1, m3, m4, m5, m6, m7, rfl, hq _ ⟨sx_I (by decide) (sx_I (by decide) (sx_B (sx_B (sx_I (by decide) r1)))), r2, rp, rxf_pc (h := hPs (pB (pI h 47 4 (nI s'.length)) 49 (vp_updL (hB h 49) m x)) s'.length 0) r4 hp1, rxh_set (h := h) r5 m7, r6, r7⟩⟩
      · rw [e] at e'; exact absurd e' (by decide)
    · rcases h4 with ⟨e', _⟩ | ⟨e', _⟩ | ⟨_, g, g1, g2, rfl, rfl, rfl⟩
      · rw [e] at e'; exact absurd e' (by decide)
      · rw [e] at e'; exact absurd e' (by decide)
      · have rp := rxs_push (v := 0) (h := pB (pI h 47 4 (nI s'.length)) 57 (vp_updL (hB h 57) g x)) q1 hlt
        obtain ⟨b1, b2, b3, b4, b5, b6, b7, b8, b9⟩ := r5
        exact ⟨g, g1, g2, rfl, hq _ ⟨sx_I (by decide) (sx_I (by decide) (sx_B (sx_B (sx_I (by decide) r1)))), r2, rp, rxf_pc (h := hPs (pB (pI h 47 4 (nI s'.length)) 57 (vp_updL (hB h 57) g x)) s'.length 0) r4 hp1, ⟨b1, b2, b3, b4, b5, b6, b7, by show (gc.set g x).length = 100; rw [List.length_set]; exact b8, upd_set b9⟩, r6, r7⟩⟩
  | 3, hc =>
    obtain ⟨ho, c, c1, c2, c3, rfl⟩ := hc
    have hp : pc < pCz G := lt' ho (by decide)
    have hp1 : pc + 1 < 1000000 := by omega
    refine tn_47 T hp (Or.inl ho) ?_
    rw [ho, c2]
    obtain ⟨s1, s2, s3, s4⟩ := hBl_same h s.length c
    obtain ⟨o1, o2, o3, o4, o5⟩ := hBl_oth h s.length c
    have rs := rxs_bl (c := c) r3 c3
    refine op_blk k (by omega) r3 c3 f3 ⟨rfl, hq _ ?_⟩
    have S1 : SX G p (hBl h s.length c) := by
      obtain ⟨u1, u2, u3, u4, u5, u6⟩ := r1
      refine ⟨(sk_same s1 s2 s3 : Sk _ = Sk h) ▸ u1, by unfold Vy; rw [s2]; exact u2, rm_same s4 s3 o5 u3, px_same (funext fun b => o1 p b (by rcases u4.1 with rfl | rfl <;> omega)) (fun j hj => ⟨by rw [o3], by rw [s4], o4 (p + j) (by rcases u4.1 with rfl | rfl <;> omega)⟩) u4, by rw [s2]; exact u5, u6⟩
    generalize hBl h s.length c = H at *
    refine ⟨sx_I (by decide) S1, ?_, rs, rxf_pc (h := H) (pc := pc) ?_ hp1, ?_, ?_, ?_⟩
    · show hI H 47 14 = 1
      rw [o1 47 14 (by decide)]; exact r2
    · show RXf pc ba se bk H
      obtain ⟨f1, f2, f3, f4, f5, f6, f7, f8, f9, f10⟩ := r4
      exact ⟨by rw [o1 47 5 (by decide)]; exact f1, by rw [o1 47 6 (by decide)]; exact f2, by rw [o1 47 7 (by decide)]; exact f3, by rw [o1 47 8 (by decide)]; exact f4, f5, f6, f7, by rw [s4]; exact f8, by rw [s4]; exact f9, by rw [o3]; exact f10⟩
    · show RXh F ce gc H
      obtain ⟨b1, b2, b3, b4, b5, b6, b7, b8, b9⟩ := r5
      exact ⟨by rw [o1 48 1 (by decide)]; exact b1, by rw [s4]; exact b2, by rw [s4]; exact b3, by rw [o4 49 (by decide)]; exact b4, by rw [o1 48 2 (by decide)]; exact b5, b6, by rw [s4]; exact b7, b8, by rw [o4 57 (by decide)]; exact b9⟩
    · show RXd th st lt lf H
      obtain ⟨d1, d2, d3, d4, d5⟩ := r6
      exact ⟨by rw [o1 47 18 (by decide)]; exact d1, by rw [o1 47 16 (by decide)]; exact d2, by rw [o2]; exact d3, by rw [o1 47 15 (by decide)]; exact d4, d5⟩
    · show RXp inp out H
      obtain ⟨p1, ⟨f, p2, p3, p4, p5, p6⟩, p7, p8, p9, p10, p11⟩ := r7
      exact ⟨by rw [s4]; exact p1, ⟨f, p2, by rw [o1 50 1 (by decide)]; exact p3, by rw [o1 50 2 (by decide)]; exact p4, p5, by rw [o3]; exact p6⟩, by rw [o1 50 4 (by decide)]; exact p7, p8, by rw [s4]; exact p9, by rw [s4]; exact p10, by rw [o3]; exact p11⟩
  | 4, hc =>
    obtain ⟨ho, t1, x, j, s', F', j1, j2, rfl, j3, rfl⟩ := hc
    have hp : pc < pCz G := lt' ho (by decide)
    have hp1 : pc + 1 < 1000000 := by omega
    refine tn_47 T hp (Or.inr (Or.inl ho)) ?_
    rw [ho, j2]
    obtain ⟨q1, q2, q3, q4⟩ := rxs_pop r3
    obtain ⟨y, hy, _⟩ := id j3
    obtain ⟨u1, u2⟩ := fr_st j3 hy
    refine op_first k (by omega) r3 r4 r5 j1 hy (fun c => ?_) (fun c => ?_)
    · obtain ⟨rfl, rfl⟩ := u1 c
      have rt : RXs cap (t1.set (ba + j) x) (pB (pI h 47 4 (nI t1.length)) 53 (vp_updL (hB h 53) (ba + j) x)) := ⟨by rw [List.length_set]; rfl, by rw [List.length_set]; exact q1.2.1, q1.2.2.1, q1.2.2.2.1, upd_set q1.2.2.2.2⟩
      exact ⟨rfl, hq _ ⟨sx_I (by decide) (sx_B (sx_I (by decide) r1)), r2, rt, rxf_pc (h := pB (pI h 47 4 (nI t1.length)) 53 (vp_updL (hB h 53) (ba + j) x)) r4 hp1, r5, r6, r7⟩⟩
    · obtain ⟨m, m1, m2, rfl, rfl⟩ := u2 c
      exact ⟨m, m1, m2, rfl, hq _ ⟨sx_I (by decide) (sx_B (sx_I (by decide) r1)), r2, q1, rxf_pc (h := pB (pI h 47 4 (nI s'.length)) 49 (vp_updL (hB h 49) m x)) r4 hp1, rxh_set (h := h) r5 m2, r6, r7⟩⟩
  | 5, hc =>
    obtain ⟨ho, t1, x, g, g1, g2, rfl, g3, rfl⟩ := hc
    have hp : pc < pCz G := lt' ho (by decide)
    have hp1 : pc + 1 < 1000000 := by omega
    refine tn_47 T hp (Or.inr (Or.inr ho)) ?_
    rw [ho, g2]
    obtain ⟨q1, q2, q3, q4⟩ := rxs_pop r3
    have hlen : t1.length + 1 ≤ cap := by simpa using g3
    have hlt : t1.length < cap := by omega
    have rp := rxs_push (v := 0) (h := pB (pI h 47 4 (nI t1.length)) 57 (vp_updL (hB h 57) g x)) q1 hlt
    refine op_def k (by omega) r3 r4 r5 g1 g3 ⟨rfl, hq _ ?_⟩
    obtain ⟨b1, b2, b3, b4, b5, b6, b7, b8, b9⟩ := r5
    exact ⟨sx_I (by decide) (sx_I (by decide) (sx_B (sx_B (sx_I (by decide) r1)))), r2, rp, rxf_pc (h := hPs (pB (pI h 47 4 (nI t1.length)) 57 (vp_updL (hB h 57) g x)) t1.length 0) r4 hp1, ⟨b1, b2, b3, b4, b5, b6, b7, by show (gc.set g x).length = 100; rw [List.length_set]; exact b8, upd_set b9⟩, r6, r7⟩
  | 6, hc =>
    obtain ⟨ho, hcap, hFl, M, g, s', F', m1, m2, o2, hr, hg, hcl, rfl⟩ := hc
    have hp : pc < pCz G := lt' ho (by decide)
    have hp1 : pc + 1 < 1000000 := by omega
    have hce : ce ≤ 40000 := r5.2.2.2.2.2.1
    have hfr := (hW.2.2.2.2.2.1 M m2).2.2.1
    refine tn_52 T hp ho ?_
    rw [o2]
    have hl := clo_len _ _ _ _ hcl
    refine op_close (P := (inp, out, th, st, lt, lf)) (by omega) r0 m1 m2 hW.2.2.2.1 hfr r4.2.2.2.2.1 (by omega) hFl (fun c => absurd hr c) (fun _ => ⟨hcap, fun g' hg' => ⟨s', F', hl, ?_, fun h' rh => ⟨rfl, hq _ (rx_push rh (by omega) hp1)⟩⟩⟩)
    refine clo_g _ _ _ _ _ (by simp [hg, hg']) (fun j hj => ?_) hcl
    by_cases c1 : j < F.length
    · rw [List.getElem?_append_left c1, List.getElem?_append_left c1]
    · rw [List.getElem?_append_right (by omega), List.getElem?_append_right (by omega)]
      by_cases c2 : j = F.length
      · subst c2; rw [Nat.sub_self]; rfl
      · rw [List.getElem?_eq_none (by simp [hg]; omega), List.getElem?_eq_none (by simp [hg']; omega)]
  | 7, hc =>
    obtain ⟨ho, t1, a, M, xs, ha, rfl, o2, hF, m1, m2, hwn, hbk, hlf, hb2, rfl⟩ := hc
    have hlf0 : lf ≠ 0 := by omega
    have ht6 : t1.length < 600000 := by omega
    have hp : pc < pCz G := lt' ho (by decide)
    have hp1 : pc + 1 < 1000000 := by omega
    obtain ⟨w0, w1, w2, f, cc, li, b, d', ex, w3, w4, w5⟩ := hW.2.2.2.2.2.2.2 M m1 m2
    have hdm := (hW.2.2.2.2.2.1 M m2).1
    have hen : pEn G M < 1000000 := by
      have := bod_dm (P := True) (fun _ _ _ _ _ => trivial) w5
      rcases d' with _ | ⟨d1, d'⟩
      · have := cod_pc w5; omega
      · obtain ⟨x, hx, _⟩ := w5
        have := cod_pc hx; omega
    refine tn_49a T hp ho ?_
    rw [o2]
    refine ci_pre k (by omega) r3 rfl (by omega) (fun _ => ?_) (fun c => ?_) (fun c _ => ?_)
    · rw [vof_lo]
      exact sp_callp (b := false) r1 (by omega) r3 r4 r5 r6 rfl (by omega) hF m1 m2 hW.2.2.2.1 hdm w1 (fun c => absurd hwn c) (fun _ _ c => absurd hbk c) (fun _ _ c => absurd c hlf0) (fun _ _ _ _ => ⟨ht6, rfl, rfl, hq _ (rx_cl r0 hbk hp1 hb2 hen)⟩) (fun _ c => absurd c (by simp))
    · rw [vof_kd] at c; exact absurd c (by decide)
    · rw [vof_kd] at c; exact absurd rfl c
  | 8, hc =>
    obtain ⟨ho, t1, a, M, xs, ha, rfl, hb1, hb0, o2, hF, m1, m2, hwn, hlf, hb2, rfl⟩ := hc
    have hlf0 : lf ≠ 0 := by omega
    have hb6 : ba < 600000 := by omega
    have hp : pc < pCz G := lt' ho (by decide)
    obtain ⟨w0, w1, w2, f, cc, li, b, d', ex, w3, w4, w5⟩ := hW.2.2.2.2.2.2.2 M m1 m2
    have hdm := (hW.2.2.2.2.2.1 M m2).1
    have hen : pEn G M < 1000000 := by
      rcases d' with _ | ⟨d1, d'⟩
      · have := cod_pc w5; omega
      · obtain ⟨x, hx, _⟩ := w5
        have := cod_pc hx; omega
    refine tn_49b T hp ho ?_
    rw [o2]
    refine ci_pre k (by omega) r3 rfl (by omega) (fun _ => ?_) (fun c => ?_) (fun c _ => ?_)
    · rw [vof_lo]
      exact sp_callp (b := true) r1 (by omega) r3 r4 r5 r6 rfl (by omega) hF m1 m2 hW.2.2.2.1 hdm w1 (fun c => absurd hwn c) (fun _ c => absurd c (by simp)) (fun _ _ c => absurd c hlf0) (fun _ c => absurd c (by simp)) (fun _ _ _ => ⟨hb1, hb0, hb6, rfl, rfl, hq _ (rx_lc r0 hb1 hb0 rfl hb2 hen)⟩)
    · rw [vof_kd] at c; exact absurd c (by decide)
    · rw [vof_kd] at c; exact absurd rfl c
  | 9, hc =>
    obtain ⟨ho, hFl, t1, i, xs, x, y, v, F', ce', inp', out', hi, rfl, hcap, o2, hw, ha, hv, rfl⟩ := hc
    have hp : pc < pCz G := lt' ho (by decide)
    have hp1 : pc + 1 < 1000000 := by omega
    have hce : ce ≤ 40000 := r5.2.2.2.2.2.1
    have hw2 := pwt_le (i := i)
    have hlt : t1.length < cap := by simp at hcap; omega
    refine tn_49a T hp ho ?_
    rw [o2]
    refine ci_pre k (by omega) r3 rfl (by omega) (fun c => ?_) (fun _ => ?_) (fun _ c => ?_)
    · rw [vof_kd] at c; exact absurd c (by decide)
    · rw [vof_lo]
      refine pr_pre k (by omega) r3 rfl (by omega) ha fun y' hy => ?_
      rw [hy (by omega)]
      obtain ⟨e0, e19, e7⟩ := pcl_ok hv
      refine pr_err k (by omega) hi hw r5.2.2.2.2.1 hce (fun c => absurd e0 c) (fun _ => ?_)
      refine pr_hold k (by omega) hi r7 (fun c c2 => absurd c2 (e19 c)) (fun c c2 => absurd c2 (Nat.not_le.mpr (e7 c))) (fun _ _ => ?_)
      refine pr_val r1 (by omega) r3 rfl (by omega) r4 r5 r7 (by show F.length ≤ 140000; omega) hcap hv (fun _ h' S' kp rh rp => ⟨rfl, rfl, hq _ ?_⟩) (fun c => absurd c (by decide)) (Or.inl rfl)
      obtain ⟨a1, a2, a3, a4, a5⟩ := kp.1 _ _ r3
      have rt : RXs cap t1 (pI h' 47 4 (nI t1.length)) := ⟨rfl, by have a2 : (t1 ++ vof 8 (nI i) :: xs).length ≤ hN h' 53 := a2; show t1.length ≤ hN h' 53; simp at a2; omega, a3, a4, fun i x q => a5 i x (g_app q)⟩
      exact ⟨sx_I (by decide) (sx_I (by decide) (sx_B (sx_I (by decide) S'))), kp.2.2.2.trans r2, rxs_push rt hlt, rxf_pc (h := hPs (pI h' 47 4 (nI t1.length)) t1.length v) (kp.2.1 _ _ _ _ r4) hp1, rh, kp.2.2.1 _ _ _ _ r6, rp⟩
    · rw [vof_kd] at c; exact absurd rfl c
  | 10, hc =>
    obtain ⟨ho, hFl, t1, i, xs, x, y, v, F', ce', inp', out', pb, bb, sb, bk', hi, rfl, hcap, o2, hw, ha, hv, rfl, hb1, hb0, rfl⟩ := hc
    have hp : pc < pCz G := lt' ho (by decide)
    have hce : ce ≤ 40000 := r5.2.2.2.2.2.1
    have hw2 := pwt_le (i := i)
    have hlt : t1.length < cap := by simp at hcap; omega
    refine tn_49b T hp ho ?_
    rw [o2]
    refine ci_pre k (by omega) r3 rfl (by omega) (fun c => ?_) (fun _ => ?_) (fun _ c => ?_)
    · rw [vof_kd] at c; exact absurd c (by decide)
    · rw [vof_lo]
      refine pr_pre k (by omega) r3 rfl (by omega) ha fun y' hy => ?_
      rw [hy (by omega)]
      obtain ⟨e0, e19, e7⟩ := pcl_ok hv
      refine pr_err k (by omega) hi hw r5.2.2.2.2.1 hce (fun c => absurd e0 c) (fun _ => ?_)
      refine pr_hold k (by omega) hi r7 (fun c c2 => absurd c2 (e19 c)) (fun c c2 => absurd c2 (Nat.not_le.mpr (e7 c))) (fun _ _ => ?_)
      refine pr_val r1 (by omega) r3 rfl (by omega) r4 r5 r7 (by show F.length ≤ 140000; omega) hcap hv (fun c => absurd c (by decide)) (fun _ => ⟨pb, bb, sb, bk', rfl, hb1, hb0, fun h' S' kp rh rp => ⟨rfl, rfl, hq _ ?_⟩⟩) (Or.inr rfl)
      obtain ⟨a1, a2, a3, a4, a5⟩ := kp.1 _ _ r3
      have rt : RXs cap t1 (pI h' 47 4 (nI t1.length)) := ⟨rfl, by have a2 : (t1 ++ vof 8 (nI i) :: xs).length ≤ hN h' 53 := a2; show t1.length ≤ hN h' 53; simp at a2; omega, a3, a4, fun i x q => a5 i x (g_app q)⟩
      have rq : RX G p ((pc, t1 ++ [v]), (ba, se, (pb, bb, sb) :: bk', cap), (F', ce', gc), (inp', out', th, st, lt, lf)) (hPs (pI h' 47 4 (nI t1.length)) t1.length v) := ⟨sx_I (by decide) (sx_B (sx_I (by decide) S')), kp.2.2.2.trans r2, rxs_push rt hlt, kp.2.1 _ _ _ _ r4, rh, kp.2.2.1 _ _ _ _ r6, rp⟩
      exact rx_bk rq hb1 hb0 (by simp; omega)
    · rw [vof_kd] at c; exact absurd rfl c
  | n + 18, hc => exact hc.elim
end COJ
