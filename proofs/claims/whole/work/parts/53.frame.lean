/-! FRAMES: a run that begins with references into a region X, closed under what its cells refer to, changes nothing outside it -/
def xv (X : Nat → Prop) (v : Value) : Prop := ∀ k : Nat, v = .ref k → X k
def xS (X : Nat → Prop) (st : List Value) : Prop := ∀ v ∈ st, xv X v
def xL (X : Nat → Prop) (L : ALS) : Prop := ∀ q ∈ L, xv X q.2
theorem xv_int (X : Nat → Prop) (a : Int32) : xv X (.int a) := fun k hk => by cases hk
theorem xv_long (X : Nat → Prop) (a : Int64) : xv X (.long a) := fun k hk => by cases hk
theorem xS_c {X : Nat → Prop} {v : Value} {st : List Value} (hv : xv X v) (h : xS X st) : xS X (v :: st) := fun w hw => by
  rcases List.mem_cons.mp hw with e | e
  · rw [e]; exact hv
  · exact h w e
theorem xS_t {X : Nat → Prop} {v : Value} {st : List Value} (h : xS X (v :: st)) : xS X st := fun w hw => h w (List.mem_cons_of_mem _ hw)
theorem xS_h {X : Nat → Prop} {v : Value} {st : List Value} (h : xS X (v :: st)) : xv X v := h v List.mem_cons_self
theorem xL_lst1 {X : Nat → Prop} {L : ALS} {i : Nat} {v : Value} (h : xL X L) (hv : xv X v) : xL X (lst1 L i v) := fun q hq => by
  rcases List.mem_cons.mp hq with e | e
  · rw [e]; exact hv
  · exact h q ((List.mem_filter.mp e).1)
theorem xL_lst2 {X : Nat → Prop} {L : ALS} {i : Nat} {v : Value} (h : xL X L) (hv : xv X v) : xL X (lst2 L i v) := fun q hq => by
  rcases List.mem_cons.mp hq with e | e
  · rw [e]; exact hv
  · exact h q ((List.mem_filter.mp e).1)
theorem sA_x {i : Instr} {st st' : List Value} {X : Nat → Prop} (h : sA i st = some st') (ho : xS X st) : xS X st' := by
  unfold sA at h
  split at h
  all_goals first
    | (obtain ⟨x, y, r, rfl, rfl⟩ := iBin_s h; exact xS_c (xv_int _ _) (xS_t (xS_t ho)))
    | (obtain ⟨x, y, r, rfl, rfl, -⟩ := iDiv_s h; exact xS_c (xv_int _ _) (xS_t (xS_t ho)))
    | (obtain ⟨x, y, r, rfl, rfl⟩ := lBin_s h; exact xS_c (xv_long _ _) (xS_t (xS_t ho)))
    | (obtain ⟨x, y, r, rfl, rfl⟩ := lSh_s h; exact xS_c (xv_long _ _) (xS_t (xS_t ho)))
    | (obtain ⟨x, r, rfl, rfl⟩ := iUn_s h; exact xS_c (xv_int _ _) (xS_t ho))
    | (obtain ⟨x, r, rfl, rfl⟩ := iUn_s h; exact xS_c (xv_long _ _) (xS_t ho))
    | (obtain ⟨x, r, rfl, rfl⟩ := lUn_s h; exact xS_c (xv_int _ _) (xS_t ho))
    | (obtain ⟨x, r, rfl, rfl⟩ := lUn_s h; exact xS_c (xv_long _ _) (xS_t ho))
    | (cases h; exact xS_c (xv_int _ _) ho)
    | (cases h; exact xS_c (xv_long _ _) ho)
    | skip
  · split at h
    · cases h; exact xS_c (xv_int _ _) (xS_t (xS_t ho))
    · cases h
  · split at h
    · split at h
      · cases h; exact xS_c (xS_h ho) ho
      · cases h
    · cases h
  · split at h
    · split at h
      · cases h; exact xS_t ho
      · cases h
    · cases h
  · split at h
    · split at h
      · cases h; exact xS_c (xS_h ho) (xS_c (xS_h (xS_t ho)) ho)
      · split at h
        · cases h; exact xS_c (xS_h ho) ho
        · cases h
    · cases h
  · split at h
    · split at h
      · cases h; exact xS_t ho
      · cases h
    · cases h
  · cases h
theorem sB_x {X : Nat → Prop} {o nL : Nat} {i : Instr} {L L' : ALS} {st st' : List Value} {ln : Nat} (h : sB o nL i L st = some (ln, L', st')) (hL : xL X L) (ho : xS X st) : xL X L' ∧ xS X st' := by
  unfold sB at h
  split at h
  case h_1 => split at h <;> cases h; rename_i hg; exact ⟨hL, xS_c (hL _ (lget_mem hg)) ho⟩
  case h_2 => split at h <;> cases h; rename_i hg; exact ⟨hL, xS_c (hL _ (lget_mem hg)) ho⟩
  case h_3 => split at h <;> cases h; exact ⟨hL, xS_c (xv_int _ _) ho⟩
  case h_4 => split at h <;> cases h; exact ⟨hL, xS_c (xv_int _ _) ho⟩
  case h_5 => split at h <;> cases h; exact ⟨hL, xS_c (xv_long _ _) ho⟩
  case h_6 => split at h <;> cases h; exact ⟨hL, xS_c (xv_long _ _) ho⟩
  case h_7 => split at h; (split at h <;> cases h; exact ⟨xL_lst1 hL (xS_h ho), xS_t ho⟩); cases h
  case h_8 => split at h; (split at h <;> cases h; exact ⟨xL_lst1 hL (xS_h ho), xS_t ho⟩); cases h
  case h_9 => split at h; (split at h <;> cases h; exact ⟨xL_lst1 hL (xS_h ho), xS_t ho⟩); cases h
  case h_10 => split at h; (split at h <;> cases h; exact ⟨xL_lst1 hL (xS_h ho), xS_t ho⟩); cases h
  case h_11 => split at h; (split at h <;> cases h; exact ⟨xL_lst2 hL (xS_h ho), xS_t ho⟩); cases h
  case h_12 => split at h; (split at h <;> cases h; exact ⟨xL_lst2 hL (xS_h ho), xS_t ho⟩); cases h
  case h_13 => split at h; (split at h <;> cases h; exact ⟨xL_lst1 hL (xv_int _ _), ho⟩); cases h
  case h_14 => cases h; exact ⟨hL, xS_c (xv_int _ _) ho⟩
  case h_15 => cases h; exact ⟨hL, xS_c (xv_int _ _) ho⟩
  case h_16 => split at h <;> cases h; exact ⟨hL, xS_c (xv_int _ _) ho⟩
  case h_17 => split at h <;> cases h; exact ⟨hL, xS_c (xv_int _ _) ho⟩
  case h_18 => split at h <;> cases h; exact ⟨hL, xS_c (xv_long _ _) ho⟩
  case h_19 => cases h
theorem sJ_x {X : Nat → Prop} {i : Instr} {st st' : List Value} {cd : Prop} {off : Int} (h : sJ i st = some (cd, off, st')) (ho : xS X st) : xS X st' := by
  unfold sJ at h
  split at h
  · cases h; exact ho
  · split at h <;> cases h; exact xS_t (xS_t ho)
  · split at h <;> cases h; exact xS_t ho
  · cases h
theorem sS_x {X : Nat → Prop} {i : Instr} {st st' : List Value} {off : Int} (h : sS i st = some (off, st')) (ho : xS X st) : xS X st' := by
  unfold sS at h
  split at h
  · split at h
    · split at h
      · cases h; exact xS_t ho
      · split at h <;> cases h; exact xS_t ho
    · cases h
  · split at h
    · split at h <;> cases h; exact xS_t ho
    · cases h
  · cases h
theorem sR_x {X : Nat → Prop} {ret : Option FieldType} {i : Instr} {st : List Value} {r : Option Value} (hh : sR2 ret i st = some r) (ho : xS X st) : ∀ v, r = some v → xv X v := by
  unfold sR2 at hh
  split at hh
  · split at hh <;> cases hh
    intro v hv; cases hv
  · split at hh
    · split at hh <;> cases hh
      intro v hv; cases hv; exact xv_int _ _
    · cases hh
  · split at hh
    · split at hh <;> cases hh
      intro v hv; cases hv; exact xv_long _ _
    · cases hh
  · split at hh
    · split at hh <;> cases hh
      intro v hv; cases hv; exact xS_h ho
    · cases hh
  · cases hh
theorem sY_x {X : Nat → Prop} {st r : List Value} {h h' : Hp} (hh : sY st h = some (r, h')) (ho : xS X st) : xS X r := by
  unfold sY at hh
  split at hh
  · split at hh <;> cases hh
    exact xS_t (xS_t (xS_t (xS_t (xS_t ho))))
  · cases hh
/-- the region: what is new, the texts, and closed -/
def Rg (X : Nat → Prop) (h : Hp) : Prop := (∀ k, hn h ≤ k → X k) ∧ (∀ k, SB ≤ k → X k) ∧ ∀ a b r, X a → hR h a b = some r → X r
/-- the same outside the region -/
def Sm (X : Nat → Prop) (h h' : Hp) : Prop := ∀ k, ¬ X k → hI h' k = hI h k ∧ hL h' k = hL h k ∧ hR h' k = hR h k ∧ hA h' k = hA h k ∧ hB h' k = hB h k ∧ hN h' k = hN h k ∧ hK h' k = hK h k
theorem Sm.rf (X : Nat → Prop) (h : Hp) : Sm X h h := fun _ _ => ⟨rfl, rfl, rfl, rfl, rfl, rfl, rfl⟩
theorem Sm.tr {X : Nat → Prop} {a b c : Hp} (h1 : Sm X a b) (h2 : Sm X b c) : Sm X a c := fun k hk => by
  obtain ⟨p1, p2, p3, p4, p5, p6, p7⟩ := h1 k hk
  obtain ⟨q1, q2, q3, q4, q5, q6, q7⟩ := h2 k hk
  exact ⟨q1.trans p1, q2.trans p2, q3.trans p3, q4.trans p4, q5.trans p5, q6.trans p6, q7.trans p7⟩
section FRM
variable {X : Nat → Prop} {h : Hp}
theorem up2_row {α : Type} {f : Nat → Nat → α} {k i a : Nat} {v : α} (hne : a ≠ k) : up2 f k i v a = f a := by
  funext b; unfold up2; exact if_neg (fun z => hne z.1)
theorem fr_pI {k i : Nat} {v : Int32} (hk : X k) : Sm X h (pI h k i v) := fun a ha => ⟨up2_row (fun e => ha (e ▸ hk)), rfl, rfl, rfl, rfl, rfl, rfl⟩
theorem fr_pL {k i : Nat} {v : Int64} (hk : X k) : Sm X h (pL h k i v) := fun a ha => ⟨rfl, up2_row (fun e => ha (e ▸ hk)), rfl, rfl, rfl, rfl, rfl⟩
theorem fr_pR {k i : Nat} {v : Option Nat} (hk : X k) : Sm X h (pR h k i v) := fun a ha => ⟨rfl, rfl, up2_row (fun e => ha (e ▸ hk)), rfl, rfl, rfl, rfl⟩
theorem fr_pA {k : Nat} {f : Nat → Int32} (hk : X k) : Sm X h (pA h k f) := fun a ha => ⟨rfl, rfl, rfl, up1_ne (fun e => ha (e ▸ hk)), rfl, rfl, rfl⟩
theorem fr_pB {k : Nat} {f : Nat → Int64} (hk : X k) : Sm X h (pB h k f) := fun a ha => ⟨rfl, rfl, rfl, rfl, up1_ne (fun e => ha (e ▸ hk)), rfl, rfl⟩
theorem fr_nA {kd len : Nat} (hk : X (hn h)) : Sm X h (nA h kd len) := fun a ha => ⟨rfl, rfl, rfl, up1_ne (fun e => ha (e ▸ hk)), up1_ne (fun e => ha (e ▸ hk)), up1_ne (fun e => ha (e ▸ hk)), up1_ne (fun e => ha (e ▸ hk))⟩
theorem fr_nO {ci nf : Nat} (hk : X (hn h)) : Sm X h (nO h ci nf) := fun a ha => ⟨up1_ne (fun e => ha (e ▸ hk)), up1_ne (fun e => ha (e ▸ hk)), up1_ne (fun e => ha (e ▸ hk)), rfl, rfl, rfl, up1_ne (fun e => ha (e ▸ hk))⟩
theorem swp_ne {α : Type} {f : Nat → α} {k q a : Nat} (h1 : a ≠ k) (h2 : a ≠ q) : swp f k q a = f a := by
  unfold swp; rw [if_neg h1, if_neg h2]
theorem fr_nS {k q : Nat} (hk : X k) (hq : X q) : Sm X h (nS h k q) := fun a ha => ⟨rfl, rfl, rfl, swp_ne (fun e => ha (e ▸ hk)) (fun e => ha (e ▸ hq)), swp_ne (fun e => ha (e ▸ hk)) (fun e => ha (e ▸ hq)), swp_ne (fun e => ha (e ▸ hk)) (fun e => ha (e ▸ hq)), rfl⟩
theorem rg_same {h' : Hp} (g : Rg X h) (e1 : hn h' = hn h) (e2 : hR h' = hR h) : Rg X h' := ⟨fun k hk => g.1 k (by rw [← e1]; exact hk), g.2.1, fun a b r ha hr => g.2.2 a b r ha (by rw [← e2]; exact hr)⟩
theorem rg_nA {kd len : Nat} (g : Rg X h) : Rg X (nA h kd len) := ⟨fun k hk => g.1 k (Nat.le_of_succ_le hk), g.2.1, g.2.2⟩
theorem rg_nO {ci nf : Nat} (g : Rg X h) : Rg X (nO h ci nf) := ⟨fun k hk => g.1 k (Nat.le_of_succ_le hk), g.2.1, fun a b r ha hr => by
  by_cases e : a = hn h
  · subst e
    rw [show hR (nO h ci nf) (hn h) b = none from congrFun up1_eq b] at hr
    cases hr
  · rw [show hR (nO h ci nf) a b = hR h a b from congrFun (up1_ne e) b] at hr
    exact g.2.2 a b r ha hr⟩
theorem rg_pR {k i q : Nat} (g : Rg X h) (hq : X q) : Rg X (pR h k i (some q)) := ⟨g.1, g.2.1, fun a b r ha hr => by
  have e : hR (pR h k i (some q)) a b = if a = k ∧ b = i then some q else hR h a b := rfl
  rw [e] at hr
  split at hr
  · cases hr; exact hq
  · exact g.2.2 a b r ha hr⟩
theorem xv_fvA (g : Rg X h) {ci k j : Nat} (hk : X k) : xv X (fvA h ci k j) := by
  unfold fvA
  split
  · exact xv_int _ _
  · exact xv_int _ _
  · exact xv_long _ _
  · cases hr : hR h k j with
    | none => intro q hq; cases hq
    | some r => intro q hq; cases hq; exact g.2.2 k j r hk hr
theorem sH_x {o ln : Nat} {i : Instr} {st st' : List Value} {h' : Hp} (hh : sH o i st h = some (ln, st', h')) (g : Rg X h) (hs : xS X st) : Rg X h' ∧ Sm X h h' ∧ xS X st' := by
  unfold sH at hh
  repeat' split at hh
  all_goals cases hh
  all_goals first
    | exact ⟨g, Sm.rf _ _, xS_c (xv_fvA g (xS_h hs _ rfl)) (xS_t hs)⟩
    | exact ⟨g, Sm.rf _ _, xS_c (xv_int _ _) (xS_t hs)⟩
    | exact ⟨g, Sm.rf _ _, xS_c (xv_int _ _) (xS_t (xS_t hs))⟩
    | exact ⟨g, Sm.rf _ _, xS_c (xv_long _ _) (xS_t (xS_t hs))⟩
    | exact ⟨rg_same g rfl rfl, fr_pA (xS_h (xS_t (xS_t hs)) _ rfl), xS_t (xS_t (xS_t hs))⟩
    | exact ⟨rg_same g rfl rfl, fr_pB (xS_h (xS_t (xS_t hs)) _ rfl), xS_t (xS_t (xS_t hs))⟩
    | exact ⟨rg_nA g, fr_nA (g.1 _ (Nat.le_refl _)), xS_c (fun k hk => by cases hk; exact g.1 _ (Nat.le_refl _)) (xS_t hs)⟩
    | exact ⟨rg_nO g, fr_nO (g.1 _ (Nat.le_refl _)), xS_c (fun k hk => by cases hk; exact g.1 _ (Nat.le_refl _)) hs⟩
theorem xv_rnm {k q : Nat} {v : Value} (hk : X k) (hv : xv X v) : xv X (rnm k q v) := by
  unfold rnm
  split
  · intro z hz; cases hz; exact hk
  · exact hv
theorem sP_x {o kd idx : Nat} {L L' : ALS} {st st' : List Value} {h' : Hp} (hh : sP o kd idx L st h = some (L', st', h')) (g : Rg X h) (hL : xL X L) (hs : xS X st) : Rg X h' ∧ Sm X h h' ∧ xL X L' ∧ xS X st' := by
  unfold sP at hh
  split at hh
  · split at hh
    · cases hh
    · split at hh
      · split at hh <;> cases hh
        exact ⟨rg_same g rfl rfl, fr_pI (xS_h (xS_t hs) _ rfl), hL, xS_t (xS_t hs)⟩
      · split at hh <;> cases hh
        exact ⟨rg_same g rfl rfl, fr_pL (xS_h (xS_t hs) _ rfl), hL, xS_t (xS_t hs)⟩
      · rename_i q ob r0
        have hq : X q := xS_h hs q rfl
        have hob : X ob := xS_h (xS_t hs) ob rfl
        split at hh
        · split at hh
          · rename_i k hk
            have hkx : X k := g.2.2 _ _ _ hob hk
            rcases Classical.propDecidable (swOK h L r0 ob _ k q) with hsw | hsw
            · rw [if_neg hsw] at hh; cases hh
              exact ⟨rg_pR g hq, fr_pR hob, hL, xS_t (xS_t hs)⟩
            · rw [if_pos hsw] at hh; cases hh
              refine ⟨rg_same g rfl rfl, fr_nS hkx hq, fun z hz => ?_, fun z hz => ?_⟩
              · obtain ⟨w, hw2, rfl⟩ := List.mem_map.mp hz
                exact xv_rnm hkx (hL w hw2)
              · obtain ⟨w, hw2, rfl⟩ := List.mem_map.mp hz
                exact xv_rnm hkx (hs w (List.mem_cons_of_mem _ (List.mem_cons_of_mem _ hw2)))
          · cases hh
            exact ⟨rg_pR g hq, fr_pR hob, hL, xS_t (xS_t hs)⟩
        · cases hh
      · cases hh
  · cases hh
theorem sY_f {st r : List Value} {h' : Hp} (hh : sY st h = some (r, h')) (g : Rg X h) (hs : xS X st) : Rg X h' ∧ Sm X h h' := by
  unfold sY at hh
  split at hh
  · split at hh
    · cases hh
      have hb := xS_h (xS_t (xS_t hs)) _ rfl
      split
      · exact ⟨rg_same g rfl rfl, fr_pA hb⟩
      · exact ⟨rg_same g rfl rfl, fr_pB hb⟩
    · cases hh
  · cases hh
theorem sX_x {mi pc o ln : Nat} {i : Instr} {st st' : List Value} {h' : Hp} (hsx : sX mi pc o i st h = some (ln, st', h')) (g : Rg X h) (hst : xS X st) : Rg X h' ∧ Sm X h h' ∧ xS X st' := by
  unfold sX at hsx
  split at hsx
  · split at hsx <;> cases hsx
    exact ⟨g, Sm.rf _ _, xS_c (fun k hk => by cases hk; exact g.2.1 _ (Nat.le_add_right _ _)) hst⟩
  · split at hsx
    · split at hsx <;> cases hsx
      exact ⟨g, Sm.rf _ _, xS_c (xv_long _ _) (xS_t (xS_t hst))⟩
    · cases hsx
  · split at hsx <;> cases hsx
    exact ⟨g, Sm.rf _ _, xS_c (fun k hk => by cases hk; exact g.2.1 _ (Nat.le_add_right _ _)) hst⟩
  · split at hsx
    · split at hsx
      · split at hsx <;> cases hsx
        exact ⟨g, Sm.rf _ _, xS_c (xv_int _ _) (xS_t hst)⟩
      · cases hsx
    · split at hsx
      · split at hsx
        · split at hsx <;> cases hsx
          exact ⟨g, Sm.rf _ _, xS_c (xv_int _ _) (xS_t (xS_t hst))⟩
        · cases hsx
      · split at hsx
        · split at hsx
          · split at hsx <;> cases hsx
            exact ⟨g, Sm.rf _ _, xS_c (xv_int _ _) (xS_t (xS_t hst))⟩
          · cases hsx
        · cases hsx
  · split at hsx <;> cases hsx
    exact ⟨rg_nO g, fr_nO (g.1 _ (Nat.le_refl _)), xS_c (fun k hk => by cases hk; exact g.1 _ (Nat.le_refl _)) hst⟩
  · cases hsx
theorem xL_args {vs : List Value} (hv : xS X vs) : ∀ i, xL X (lv_args i vs) := by
  induction vs with
  | nil => intro i q hq; cases hq
  | cons v t ih =>
    intro i q hq
    rcases List.mem_cons.mp hq with e | e
    · rw [e]; exact xS_h hv
    · exact ih (xS_t hv) _ q e
end FRM
set_option maxHeartbeats 4000000 in
theorem rn_frame (X : Nat → Prop) : ∀ (n d mi pc : Nat) (L : ALS) (st : List Value) (h : Hp) (r : Option Value) (h' : Hp), rn n d mi pc L st h = some (r, h') → Rg X h → xL X L → xS X st → Rg X h' ∧ Sm X h h' ∧ ∀ v, r = some v → xv X v := by
  intro n
  induction n with
  | zero => intro d mi pc L st h r h' hh; cases hh
  | succ n ih =>
    intro d mi pc L st h r h' hh g hL hs
    have nx : ∀ {d mi pc : Nat} {L : ALS} {st : List Value} {h1 : Hp}, rn n d mi pc L st h1 = some (r, h') → Rg X h1 → Sm X h h1 → xL X L → xS X st → Rg X h' ∧ Sm X h h' ∧ ∀ v, r = some v → xv X v := fun hr g1 m1 l1 s1 => by
      obtain ⟨a, b, c⟩ := ih _ _ _ _ _ _ _ _ hr g1 l1 s1
      exact ⟨a, m1.tr b, c⟩
    unfold rn at hh
    split at hh
    · cases hh
    rename_i x hmi
    split at hh
    · cases hh
    rename_i i len hdec
    split at hh
    · rename_i ln st1 h1 hsx
      split at hh
      · obtain ⟨a, b, c⟩ := sX_x hsx g hs
        exact nx hh a b hL c
      · cases hh
    split at hh
    · split at hh
      · rename_i r1 hsr
        split at hh <;> cases hh
        exact ⟨g, Sm.rf _ _, sR_x hsr hs⟩
      · cases hh
    · split at hh
      · rename_i hsa
        split at hh
        · exact nx hh g (Sm.rf _ _) hL (sA_x hsa hs)
        · cases hh
      · cases hh
    · split at hh
      · rename_i hsb
        split at hh
        · exact nx hh g (Sm.rf _ _) (sB_x hsb hL hs).1 (sB_x hsb hL hs).2
        · cases hh
      · cases hh
    · split at hh
      · rename_i c off st' hsj
        split at hh
        · rcases Classical.propDecidable c with hc | hc
          · rw [if_neg hc] at hh; exact nx hh g (Sm.rf _ _) hL (sJ_x hsj hs)
          · rw [if_pos hc] at hh; exact nx hh g (Sm.rf _ _) hL (sJ_x hsj hs)
        · cases hh
      · cases hh
    · split at hh
      · rename_i hss
        split at hh
        · exact nx hh g (Sm.rf _ _) hL (sS_x hss hs)
        · cases hh
      · cases hh
    · split at hh
      · rename_i hsh
        split at hh
        · obtain ⟨a, b, c⟩ := sH_x hsh g hs
          exact nx hh a b hL c
        · cases hh
      · cases hh
    · split at hh
      · split at hh
        · rename_i hsp
          split at hh
          · obtain ⟨a, b, c, e⟩ := sP_x hsp g hL hs
            exact nx hh a b c e
          · cases hh
        · cases hh
      · cases hh
    · split at hh
      · cases hh
      · split at hh
        · split at hh
          · cases hh
          · split at hh
            · split at hh
              · split at hh
                · exact nx hh g (Sm.rf _ _) hL (xS_t hs)
                · cases hh
              · cases hh
            · split at hh
              · split at hh
                · rename_i hsy
                  split at hh
                  · obtain ⟨a, b⟩ := sY_f hsy g hs
                    exact nx hh a b hL (sY_x hsy hs)
                  · cases hh
                · cases hh
              · split at hh
                · cases hh
                · rename_i ck idx _ _ _ _ _ _ _ _ y hy
                  rcases Classical.propDecidable (cOK h ck d y st) with hc | hc
                  · rw [if_neg hc] at hh; cases hh
                  · rw [if_pos hc] at hh
                    split at hh
                    · rename_i r1 h1 hcal
                      have hsT : xS X (st.take y.2.2.2.2.2.1).reverse := fun v hv => hs v (List.mem_of_mem_take (List.mem_reverse.mp hv))
                      have hsD : xS X (st.drop y.2.2.2.2.2.1) := fun v hv => hs v (List.mem_of_mem_drop hv)
                      obtain ⟨a, b, c⟩ := ih _ _ _ _ _ _ _ _ hcal g (xL_args hsT 0) (fun _ hv => by cases hv)
                      split at hh
                      · split at hh
                        · split at hh
                          · cases hh; exact ⟨a, b, c⟩
                          · rcases Classical.propDecidable (hv h1 = hv h ∨ rok h h1 (L.map (fun q => q.2))) with hc2 | hc2
                            · rw [if_neg hc2] at hh; cases hh
                            · rw [if_pos hc2] at hh
                              exact nx hh a b (fun q hq => hL q (List.mem_filter.mp hq).1) (fun _ hv => by cases hv)
                        · cases hh
                      · rcases Classical.propDecidable (hv h1 = hv h ∨ rok h h1 (L.map (fun q => q.2) ++ st.drop y.2.2.2.2.2.1)) with hc2 | hc2
                        · rw [if_neg hc2] at hh; cases hh
                        · rw [if_pos hc2] at hh
                          refine nx hh a b hL (fun v hv => ?_)
                          rcases List.mem_append.mp hv with z | z
                          · cases r1 with
                            | none => cases z
                            | some w =>
                              have : v = w := by simpa using z
                              rw [this]; exact c w rfl
                          · exact hsD v z
                    · cases hh
        · cases hh
    · split at hh
      · rename_i k r0
        split at hh
        · cases hh
          exact ⟨g, Sm.rf _ _, fun v hv => by cases hv; intro q hq; cases hq⟩
        · cases hh
      · cases hh
    · cases hh
/-- the frame of a call -/
theorem aEv_frame {d mi : Nat} {vs : List Value} {h : Hp} {Q : Option Value → Hp → Prop} (X : Nat → Prop) (g : Rg X h) (hv : xS X vs) (hE : aEv d mi vs h Q) : aEv d mi vs h (fun r h' => Q r h' ∧ Rg X h' ∧ Sm X h h' ∧ Mono h h') := by
  obtain ⟨n, r, h', hrn, hq⟩ := hE
  obtain ⟨a, b, -⟩ := rn_frame X _ _ _ _ _ _ _ _ _ hrn g (xL_args hv 0) (fun _ hv => by cases hv)
  exact ⟨n, r, h', hrn, hq, a, b, rn_mono _ _ _ _ _ _ _ _ _ hrn⟩
