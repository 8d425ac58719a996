/-! the heap behind both constructors (by wip/ctor4.py) -/
def hcX (h : Hp) : Hp := (pR (nA (pL (pR (pR (pI (pR (nA (pR (nA (pR (nA (pR (nA (pR (nA (pR (pR (nA (pR (nA (nO (pR (pR (nA (nO (nO (pR (pR (pR (pR (pR (nA (pR (pR (nA (pR (nA (pR (nA (pR (nA (pR (nA (nO (nO (pR (pR (nA (pR (nA (pR (nA (pR (nA (pR (nA (pR (nA (pR (nA (pR (nA (pR (nA (nO (pR (pR (nA (pR (nA (pR (nA (pR (nA (pR (nA (pR (nA (pR (nA (pR (nA (pR (nA (nO (pR (pR (nA (pR (pR (nA (pR (nA (pR (nA (pR (nA (pR (nA (pR (nA (pR (nA (pR (nA (pR (pR (nA (pR (nA (pR (nA (pR (nA (pR (nA (nO (nO (pR (pI (nO (pR (nA h 13 3000) 0 0 (some 1)) 2 2) 2 1 (-1)) 0 2 (some 2)) 8 14) 5 10) 15 64) 4 0 (some 5)) 15 64) 4 1 (some 6)) 14 64) 4 2 (some 7)) 14 64) 4 3 (some 8)) 14 256) 4 4 (some 9)) 3 1 (some 4)) 14 64) 3 2 (some 10)) 14 64) 3 3 (some 11)) 14 64) 3 4 (some 12)) 14 64) 3 5 (some 13)) 14 64) 3 6 (some 14)) 14 31) 3 8 (some 15)) 14 31) 3 9 (some 16)) 16 31) 3 10 (some 17)) 3 0 (some 2)) 13 0) 3 12 (some 18)) 0 3 (some 3)) 7 16) 14 64) 19 0 (some 20)) 14 64) 19 1 (some 21)) 15 16) 19 3 (some 22)) 14 120) 19 5 (some 23)) 14 120) 19 6 (some 24)) 14 120) 19 7 (some 25)) 14 120) 19 8 (some 26)) 14 120) 19 9 (some 27)) 14 16) 19 10 (some 28)) 0 6 (some 19)) 7 16) 14 64) 29 0 (some 30)) 14 64) 29 1 (some 31)) 15 16) 29 3 (some 32)) 14 120) 29 5 (some 33)) 14 120) 29 6 (some 34)) 14 120) 29 7 (some 35)) 14 120) 29 8 (some 36)) 14 120) 29 9 (some 37)) 14 16) 29 10 (some 38)) 0 7 (some 29)) 1 8) 9 7) 14 16) 40 0 (some 41)) 14 16) 40 1 (some 42)) 14 16) 40 2 (some 43)) 14 248) 40 5 (some 44)) 14 32) 40 6 (some 45)) 39 2 (some 40)) 14 64) 39 4 (some 46)) 39 0 (some 3)) 39 1 (some 2)) 39 3 (some 29)) 0 4 (some 39)) 4 19) 3 3) 15 64) 48 0 (some 49)) 47 0 (some 48)) 6 5) 14 200) 50 0 (some 51)) 14 16) 50 3 (some 52)) 47 1 (some 50)) 15 64) 47 3 (some 53)) 14 16) 47 9 (some 54)) 14 16) 47 10 (some 55)) 14 16) 47 11 (some 56)) 15 100) 47 12 (some 57)) 47 13 (-1)) 47 2 (some 19)) 0 5 (some 47)) 0 9 0) 15 4) 0 10 (some 58))
def hcM (h : Hp) : Hp := (pR (nA (pR (nA (pR (nA (pR (nA (pR (nA (pR (nA (pR (nA (pR (nA (pR (nA (pR (nA (pR (nA (pR (nA (pR (nA (pR (nA (pR (nA (pR (nA (pR (nA (pR (nA (pR (nA (pR (nA (pR (nA (pR (nA (pR (nA (pR (nA (pR (pR (nA (pR (nA (pR (nA (pR (nA (pR (nA (pR (nA (pR (nA (pR (nA (pR (nA (pR (nA (pR (nA (pR (nA (pR (nA (pR (nA (pR (nA (pR (nA (pR (nA (pR (nA (pR (nA (nO (pR (pR (nA (pR (nA (pR (nA (pR (nA (pR (nA (pR (nA (pR (nA (pR (nA (pR (nA (pR (nA (pR (nA (pR (nA (pR (nA (pR (nA (pR (nA (pR (nA (pR (nA (pR (nA (pR (nA (nO (pR (nO (pR (nA (pR (nA (pR (nA (pR (nA (pI (pR (nA h 13 3000) 59 0 (some 60)) 59 3 (-1)) 13 3000) 59 4 (some 61)) 14 3002) 59 6 (some 62)) 14 3002) 59 7 (some 63)) 14 3002) 59 8 (some 64)) 0 6) 59 12 (some 65)) 11 27) 14 6200) 66 7 (some 67)) 14 6200) 66 8 (some 68)) 14 6200) 66 9 (some 69)) 14 6200) 66 10 (some 70)) 14 6200) 66 11 (some 71)) 14 6200) 66 12 (some 72)) 14 6200) 66 13 (some 73)) 14 3000) 66 14 (some 74)) 14 3000) 66 15 (some 75)) 14 3000) 66 16 (some 76)) 14 3000) 66 17 (some 77)) 14 3000) 66 18 (some 78)) 13 3000) 66 19 (some 79)) 14 3000) 66 20 (some 80)) 14 3000) 66 21 (some 81)) 14 3000) 66 22 (some 82)) 14 3000) 66 23 (some 83)) 14 30976) 66 24 (some 84)) 14 30976) 66 25 (some 85)) 59 17 (some 66)) 11 27) 14 6200) 86 7 (some 87)) 14 6200) 86 8 (some 88)) 14 6200) 86 9 (some 89)) 14 6200) 86 10 (some 90)) 14 6200) 86 11 (some 91)) 14 6200) 86 12 (some 92)) 14 6200) 86 13 (some 93)) 14 3000) 86 14 (some 94)) 14 3000) 86 15 (some 95)) 14 3000) 86 16 (some 96)) 14 3000) 86 17 (some 97)) 14 3000) 86 18 (some 98)) 13 3000) 86 19 (some 99)) 14 3000) 86 20 (some 100)) 14 3000) 86 21 (some 101)) 14 3000) 86 22 (some 102)) 14 3000) 86 23 (some 103)) 14 30976) 86 24 (some 104)) 14 30976) 86 25 (some 105)) 59 18 (some 86)) 14 6200) 59 20 (some 106)) 14 6200) 59 21 (some 107)) 14 6200) 59 22 (some 108)) 14 32) 59 25 (some 109)) 14 32) 59 26 (some 110)) 14 8192) 59 28 (some 111)) 15 46200) 59 29 (some 112)) 15 46200) 59 30 (some 113)) 15 6200) 59 32 (some 114)) 14 6200) 59 33 (some 115)) 14 40001) 59 34 (some 116)) 14 40001) 59 35 (some 117)) 14 40001) 59 36 (some 118)) 15 4096) 59 40 (some 119)) 14 4096) 59 41 (some 120)) 14 1024) 59 43 (some 121)) 14 1024) 59 47 (some 122)) 14 1024) 59 48 (some 123)) 14 1024) 59 49 (some 124)) 15 1024) 59 51 (some 125)) 15 3000) 59 53 (some 126)) 14 200) 59 54 (some 127)) 14 1000) 59 56 (some 128)) 15 4) 59 70 (some 129))
def hX0 : Hp := hcX (nO hE0 10 11)
def hI0 : Hp := hcM (nO hX0 12 72)
def LRd (h : Hp) (l : List ((Nat × Nat) × Nat)) (n : Nat) : Prop := (∀ a b, hR h a b = l.lookup (a, b)) ∧ hn h = n ∧ ∀ e ∈ l, e.1.1 < n
theorem lr_pR {h : Hp} {l : List ((Nat × Nat) × Nat)} {n k i v : Nat} (r : LRd h l n) (hk : k < n) : LRd (pR h k i (some v)) (((k, i), v) :: l) n := by
  refine ⟨fun a b => ?_, r.2.1, fun e he => ?_⟩
  · show up2 (hR h) k i (some v) a b = _
    unfold up2
    by_cases c : a = k ∧ b = i
    · rw [if_pos c, c.1, c.2, List.lookup_cons_self]
    · rw [if_neg c, r.1, List.lookup_cons]
      have : ((a, b) == (k, i)) = false := by
        rw [beq_eq_false_iff_ne]; intro q; exact c ⟨congrArg Prod.fst q, congrArg Prod.snd q⟩
      rw [this]
  · rcases List.mem_cons.1 he with q | q
    · rw [q]; exact hk
    · exact r.2.2 e q
theorem lr_pI {h : Hp} {l : List ((Nat × Nat) × Nat)} {n k i : Nat} {v : Int32} (r : LRd h l n) : LRd (pI h k i v) l n := r
theorem lr_pL {h : Hp} {l : List ((Nat × Nat) × Nat)} {n k i : Nat} {v : Int64} (r : LRd h l n) : LRd (pL h k i v) l n := r
theorem lr_nA {h : Hp} {l : List ((Nat × Nat) × Nat)} {n k i : Nat} (r : LRd h l n) : LRd (nA h k i) l (n + 1) :=
  ⟨r.1, congrArg (· + 1) r.2.1, fun e he => Nat.lt_succ_of_lt (r.2.2 e he)⟩
theorem lk_no {l : List ((Nat × Nat) × Nat)} {k : Nat × Nat} (q : ∀ e ∈ l, e.1 ≠ k) : l.lookup k = none := by
  induction l with
  | nil => rfl
  | cons x t ih =>
    rw [List.lookup_cons]
    have : (k == x.1) = false := by
      rw [beq_eq_false_iff_ne]; exact fun c => q x (List.mem_cons_self ..) c.symm
    rw [this]
    exact ih fun e he => q e (List.mem_cons_of_mem _ he)
theorem lr_nO {h : Hp} {l : List ((Nat × Nat) × Nat)} {n k i : Nat} (r : LRd h l n) : LRd (nO h k i) l (n + 1) := by
  refine ⟨fun a b => ?_, congrArg (· + 1) r.2.1, fun e he => Nat.lt_succ_of_lt (r.2.2 e he)⟩
  show va_up (hR h) (hn h) (fun _ => none) a b = _
  unfold va_up
  by_cases c : a = hn h
  · rw [if_pos c, lk_no]
    intro e he q
    have := r.2.2 e he
    rw [q] at this
    have h3 := r.2.1
    dsimp only at this
    omega
  · rw [if_neg c, r.1]
theorem lk_ext {l r : List ((Nat × Nat) × Nat)} {P : Nat × Nat → Prop} (H : ∀ e ∈ l ++ r, P e.1 → l.lookup e.1 = r.lookup e.1) (k : Nat × Nat) (p : P k) : l.lookup k = r.lookup k := by
  by_cases c : ∃ e ∈ l ++ r, e.1 = k
  · obtain ⟨e, h1, h2⟩ := c
    have := H e h1 (h2 ▸ p)
    rw [h2] at this
    exact this
  · rw [lk_no fun e he q => c ⟨e, List.mem_append_left _ he, q⟩, lk_no fun e he q => c ⟨e, List.mem_append_right _ he, q⟩]
def RI0 : List ((Nat × Nat) × Nat) := [((59, 70), 129), ((59, 56), 128), ((59, 54), 127), ((59, 53), 126), ((59, 51), 125), ((59, 49), 124), ((59, 48), 123), ((59, 47), 122), ((59, 43), 121), ((59, 41), 120), ((59, 40), 119), ((59, 36), 118), ((59, 35), 117), ((59, 34), 116), ((59, 33), 115), ((59, 32), 114), ((59, 30), 113), ((59, 29), 112), ((59, 28), 111), ((59, 26), 110), ((59, 25), 109), ((59, 22), 108), ((59, 21), 107), ((59, 20), 106), ((59, 18), 86), ((86, 25), 105), ((86, 24), 104), ((86, 23), 103), ((86, 22), 102), ((86, 21), 101), ((86, 20), 100), ((86, 19), 99), ((86, 18), 98), ((86, 17), 97), ((86, 16), 96), ((86, 15), 95), ((86, 14), 94), ((86, 13), 93), ((86, 12), 92), ((86, 11), 91), ((86, 10), 90), ((86, 9), 89), ((86, 8), 88), ((86, 7), 87), ((59, 17), 66), ((66, 25), 85), ((66, 24), 84), ((66, 23), 83), ((66, 22), 82), ((66, 21), 81), ((66, 20), 80), ((66, 19), 79), ((66, 18), 78), ((66, 17), 77), ((66, 16), 76), ((66, 15), 75), ((66, 14), 74), ((66, 13), 73), ((66, 12), 72), ((66, 11), 71), ((66, 10), 70), ((66, 9), 69), ((66, 8), 68), ((66, 7), 67), ((59, 12), 65), ((59, 8), 64), ((59, 7), 63), ((59, 6), 62), ((59, 4), 61), ((59, 0), 60), ((0, 10), 58), ((0, 5), 47), ((47, 2), 19), ((47, 12), 57), ((47, 11), 56), ((47, 10), 55), ((47, 9), 54), ((47, 3), 53), ((47, 1), 50), ((50, 3), 52), ((50, 0), 51), ((47, 0), 48), ((48, 0), 49), ((0, 4), 39), ((39, 3), 29), ((39, 1), 2), ((39, 0), 3), ((39, 4), 46), ((39, 2), 40), ((40, 6), 45), ((40, 5), 44), ((40, 2), 43), ((40, 1), 42), ((40, 0), 41), ((0, 7), 29), ((29, 10), 38), ((29, 9), 37), ((29, 8), 36), ((29, 7), 35), ((29, 6), 34), ((29, 5), 33), ((29, 3), 32), ((29, 1), 31), ((29, 0), 30), ((0, 6), 19), ((19, 10), 28), ((19, 9), 27), ((19, 8), 26), ((19, 7), 25), ((19, 6), 24), ((19, 5), 23), ((19, 3), 22), ((19, 1), 21), ((19, 0), 20), ((0, 3), 3), ((3, 12), 18), ((3, 0), 2), ((3, 10), 17), ((3, 9), 16), ((3, 8), 15), ((3, 6), 14), ((3, 5), 13), ((3, 4), 12), ((3, 3), 11), ((3, 2), 10), ((3, 1), 4), ((4, 4), 9), ((4, 3), 8), ((4, 2), 7), ((4, 1), 6), ((4, 0), 5), ((0, 2), 2), ((0, 0), 1)]
set_option maxRecDepth 10000 in
theorem hI0_r : LRd hI0 RI0 130 := (lr_pR (lr_nA (lr_pR (lr_nA (lr_pR (lr_nA (lr_pR (lr_nA (lr_pR (lr_nA (lr_pR (lr_nA (lr_pR (lr_nA (lr_pR (lr_nA (lr_pR (lr_nA (lr_pR (lr_nA (lr_pR (lr_nA (lr_pR (lr_nA (lr_pR (lr_nA (lr_pR (lr_nA (lr_pR (lr_nA (lr_pR (lr_nA (lr_pR (lr_nA (lr_pR (lr_nA (lr_pR (lr_nA (lr_pR (lr_nA (lr_pR (lr_nA (lr_pR (lr_nA (lr_pR (lr_nA (lr_pR (lr_nA (lr_pR (lr_pR (lr_nA (lr_pR (lr_nA (lr_pR (lr_nA (lr_pR (lr_nA (lr_pR (lr_nA (lr_pR (lr_nA (lr_pR (lr_nA (lr_pR (lr_nA (lr_pR (lr_nA (lr_pR (lr_nA (lr_pR (lr_nA (lr_pR (lr_nA (lr_pR (lr_nA (lr_pR (lr_nA (lr_pR (lr_nA (lr_pR (lr_nA (lr_pR (lr_nA (lr_pR (lr_nA (lr_pR (lr_nA (lr_nO (lr_pR (lr_pR (lr_nA (lr_pR (lr_nA (lr_pR (lr_nA (lr_pR (lr_nA (lr_pR (lr_nA (lr_pR (lr_nA (lr_pR (lr_nA (lr_pR (lr_nA (lr_pR (lr_nA (lr_pR (lr_nA (lr_pR (lr_nA (lr_pR (lr_nA (lr_pR (lr_nA (lr_pR (lr_nA (lr_pR (lr_nA (lr_pR (lr_nA (lr_pR (lr_nA (lr_pR (lr_nA (lr_pR (lr_nA (lr_nO (lr_pR (lr_nO (lr_pR (lr_nA (lr_pR (lr_nA (lr_pR (lr_nA (lr_pR (lr_nA (lr_pI (lr_pR (lr_nA (lr_nO (lr_pR (lr_nA (lr_pL (lr_pR (lr_pR (lr_pI (lr_pR (lr_nA (lr_pR (lr_nA (lr_pR (lr_nA (lr_pR (lr_nA (lr_pR (lr_nA (lr_pR (lr_pR (lr_nA (lr_pR (lr_nA (lr_nO (lr_pR (lr_pR (lr_nA (lr_nO (lr_nO (lr_pR (lr_pR (lr_pR (lr_pR (lr_pR (lr_nA (lr_pR (lr_pR (lr_nA (lr_pR (lr_nA (lr_pR (lr_nA (lr_pR (lr_nA (lr_pR (lr_nA (lr_nO (lr_nO (lr_pR (lr_pR (lr_nA (lr_pR (lr_nA (lr_pR (lr_nA (lr_pR (lr_nA (lr_pR (lr_nA (lr_pR (lr_nA (lr_pR (lr_nA (lr_pR (lr_nA (lr_pR (lr_nA (lr_nO (lr_pR (lr_pR (lr_nA (lr_pR (lr_nA (lr_pR (lr_nA (lr_pR (lr_nA (lr_pR (lr_nA (lr_pR (lr_nA (lr_pR (lr_nA (lr_pR (lr_nA (lr_pR (lr_nA (lr_nO (lr_pR (lr_pR (lr_nA (lr_pR (lr_pR (lr_nA (lr_pR (lr_nA (lr_pR (lr_nA (lr_pR (lr_nA (lr_pR (lr_nA (lr_pR (lr_nA (lr_pR (lr_nA (lr_pR (lr_nA (lr_pR (lr_pR (lr_nA (lr_pR (lr_nA (lr_pR (lr_nA (lr_pR (lr_nA (lr_pR (lr_nA (lr_nO (lr_nO (lr_pR (lr_pI (lr_nO (lr_pR (lr_nA (lr_nO (⟨fun _ _ => rfl, rfl, fun _ q => nomatch q⟩ : LRd hE0 [] 0))) (by decide)))) (by decide))))) (by decide))) (by decide))) (by decide))) (by decide))) (by decide)) (by decide))) (by decide))) (by decide))) (by decide))) (by decide))) (by decide))) (by decide))) (by decide))) (by decide)) (by decide))) (by decide)) (by decide)))) (by decide))) (by decide))) (by decide))) (by decide))) (by decide))) (by decide))) (by decide))) (by decide))) (by decide)) (by decide)))) (by decide))) (by decide))) (by decide))) (by decide))) (by decide))) (by decide))) (by decide))) (by decide))) (by decide)) (by decide))))) (by decide))) (by decide))) (by decide))) (by decide))) (by decide)) (by decide))) (by decide)) (by decide)) (by decide)) (by decide)) (by decide))))) (by decide)) (by decide)))) (by decide))) (by decide)) (by decide))) (by decide))) (by decide))) (by decide))) (by decide))) (by decide))) (by decide)) (by decide)))) (by decide)))) (by decide)))) (by decide))) (by decide))) (by decide))) (by decide))) (by decide)))) (by decide))) (by decide))) (by decide))) (by decide))) (by decide))) (by decide))) (by decide))) (by decide))) (by decide))) (by decide))) (by decide))) (by decide))) (by decide))) (by decide))) (by decide))) (by decide))) (by decide))) (by decide))) (by decide)) (by decide)))) (by decide))) (by decide))) (by decide))) (by decide))) (by decide))) (by decide))) (by decide))) (by decide))) (by decide))) (by decide))) (by decide))) (by decide))) (by decide))) (by decide))) (by decide))) (by decide))) (by decide))) (by decide))) (by decide)) (by decide))) (by decide))) (by decide))) (by decide))) (by decide))) (by decide))) (by decide))) (by decide))) (by decide))) (by decide))) (by decide))) (by decide))) (by decide))) (by decide))) (by decide))) (by decide))) (by decide))) (by decide))) (by decide))) (by decide))) (by decide))) (by decide))) (by decide))) (by decide))) (by decide))
theorem hX0_n : hn hX0 = 59 := by decide +kernel
theorem hI0_n : hn hI0 = 130 := by decide +kernel
theorem hI0_u : hu hI0 = 561461 := by decide +kernel
theorem hI0_k : ∀ k, k < 130 → hK hI0 k = kT k := by decide +kernel
theorem hI0_R : ∀ a b, isVr a b = false → hR hI0 a b = RTl.lookup (a, b) := fun a b q => by
  rw [hI0_r.1]
  exact lk_ext (P := fun k => isVr k.1 k.2 = false) (by decide +kernel) (a, b) q
theorem hI0_s : Sk hI0 := ⟨hI0_k, hI0_R, Nat.le_of_eq hI0_n.symm⟩
theorem hM0_k : hK (nO hX0 12 72) 59 = 12 := by
  show va_up (hK hX0) (hn hX0) 12 59 = 12
  rw [hX0_n]; rfl
theorem hM0_r (j : Nat) : hR (nO hX0 12 72) 59 j = none := by
  show va_up (hR hX0) (hn hX0) (fun _ => none) 59 j = none
  rw [hX0_n]; rfl
theorem hM0_n : hn (nO hX0 12 72) = 60 := congrArg (· + 1) hX0_n
theorem init_ok {Inv : Nat → Hp → Prop} (h0 : Inv 0 hI0) : InitOK Inv :=
  c168_0 1399 (by decide) _ rfl rfl (fun _ => rfl) _ ⟨rfl, hX0_n, c217_59 1399 (by decide) _ hM0_k hM0_n hM0_r _ ⟨rfl, h0⟩⟩
theorem hI0_v : hR hI0 0 6 = some 19 ∧ hR hI0 0 7 = some 29 ∧ hR hI0 39 3 = some 29 ∧ hR hI0 47 2 = some 19 ∧ hR hI0 3 12 = some 18 ∧ hR hI0 59 17 = some 66 ∧ hR hI0 59 18 = some 86 := by
  simp only [hI0_r.1]; decide +kernel
