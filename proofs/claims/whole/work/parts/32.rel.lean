/-! the relation between the class's ints (c) and the reference's (r) -/
theorem fa_lt (a b : Int32) : a < b ↔ a.toInt < b.toInt := Int32.lt_iff_toInt_lt
theorem fa_le (a b : Int32) : a ≤ b ↔ a.toInt ≤ b.toInt := Int32.le_iff_toInt_le
theorem fa_eq (a b : Int32) : a = b ↔ a.toInt = b.toInt := Int32.toInt_inj.symm
theorem mb2 {β : Type} {a : Int32} {f : F3} {k : Int32 → F3 → Option β} : mm_b2 (some (a, f)) k = k a f := rfl
theorem mlt {α β : Type} {x : α} {k : α → β} : mm_let x k = k x := rfl
theorem mob {α β : Type} {x : α} {k : α → Option β} : Option.bind (some x) k = k x := rfl
theorem okI_iff {x : Int32} {n : Nat} : okI x n = true ↔ 0 ≤ x.toInt ∧ x.toInt < n := by simp [okI]
theorem okI_nI {i n : Nat} (h : i < n) (hn : n < 2 ^ 31) : okI (nI i) n = true := by
  rw [okI_iff, nI_toInt (by omega)]
  omega
theorem okI_of {x : Int32} {n : Nat} (h : okI x n = true) (hn : n < 2 ^ 31) : ∃ i, i < n ∧ x = nI i := vp_in_of (okI_in h) hn
theorem okI_mono {x : Int32} {n m : Nat} (h : okI x n = true) (hm : n ≤ m) : okI x m = true := by
  rw [okI_iff] at h ⊢
  omega
/-- 1 or 0 -/
def bo (b : Bool) : Int32 := if b then 1 else 0
theorem bo_t : bo true = 1 := rfl
theorem bo_f : bo false = 0 := rfl
theorem bo_0 {b : Bool} : bo b = 0 ↔ b = false := by cases b <;> simp [bo]
def wi (x a b : Int32) : Int32 := if x < a then 0 else if b < x then 0 else 1
theorem C_within (c : F3) (x a b : Int32) : S_X6_isWithin c x a b = some (wi x a b, c) := by
  unfold S_X6_isWithin wi
  split
  · rfl
  · split <;> rfl
theorem R_in (c : F3) (x a b : Int32) : S_X7_in c x a b = some (wi x a b, c) := by
  unfold S_X7_in wi
  split
  · rfl
  · split <;> rfl
theorem wi_bo (x a b : Int32) : wi x a b = bo (decide (a.toInt ≤ x.toInt ∧ x.toInt ≤ b.toInt)) := by
  unfold wi bo
  simp only [fa_lt]
  by_cases h1 : x.toInt < a.toInt
  · rw [if_pos h1, if_neg]
    simp
    omega
  · rw [if_neg h1]
    by_cases h2 : b.toInt < x.toInt
    · rw [if_pos h2, if_neg]
      simp
      omega
    · rw [if_neg h2, if_pos]
      simp
      omega
theorem wi_1 {x a b : Int32} : wi x a b = 0 ↔ ¬ (a.toInt ≤ x.toInt ∧ x.toInt ≤ b.toInt) := by
  rw [wi_bo, bo_0]
  simp
theorem okB_bo (b : Bool) : okB (bo b) = true := by cases b <;> decide
/-- a cell as the reference has it -/
def rs (r : F3) (i k : Nat) : Int32 := if k < 8 then r (30 + k) 0 i else if k = 8 then r 38 0 (2 * i) else if k = 9 then r 38 0 (2 * i + 1) else -1
/-- a load as the reference has it -/
def rl (r : F3) (l k : Nat) : Int32 := match k with
  | 0 => r 40 0 l | 1 => r 41 0 l | 2 => r 42 0 l | 3 => r 43 0 l
  | 4 => if r 43 0 l = 1 then r 44 0 l else -1
  | 5 => if r 43 0 l = 1 then r 45 0 l else -1
  | 6 => r 46 0 l | _ => -1
def okCe (v : Nat → Int32) : Prop := (0 ≤ (v 0).toInt ∧ (v 0).toInt ≤ 4) ∧ (0 ≤ (v 1).toInt ∧ (v 1).toInt ≤ 3000) ∧ (0 ≤ (v 2).toInt ∧ (v 2).toInt ≤ 200) ∧ (-1 ≤ (v 7).toInt ∧ (v 7).toInt ≤ 3000) ∧ (v 0 = 3 → 0 ≤ (v 6).toInt ∧ (v 6).toInt < 24)
def okLo (v : Nat → Int32) (nc : Nat) : Prop := (1 ≤ (v 0).toInt ∧ (v 0).toInt ≤ 99) ∧ (0 ≤ (v 1).toInt ∧ (v 1).toInt ≤ 9) ∧ (v 2 = 0 ∨ v 2 = 1) ∧ (0 ≤ (v 3).toInt ∧ (v 3).toInt ≤ 4) ∧ (v 3 = 1 → ∃ i, i < nc ∧ v 4 = nI i)
def RSc (a b q : Nat → Int32) (nc nl nr nt : Nat) : Prop := a 12 = nI nc ∧ q 2 = nI nc ∧ a 13 = nI nl ∧ q 13 = nI nl ∧ a 14 = nI nr ∧ q 21 = nI nr ∧ b 1 = nI nt ∧ q 27 = nI nt ∧ a 15 = q 1 ∧ a 11 = q 31 ∧ (a 11 = 0 ∨ a 11 = 1)
def RCe (a q : Nat → Nat → Int32) (nc : Nat) : Prop := (∀ i, i < nc → a i = q i ∧ okCe (a i)) ∧ ∀ i, nc ≤ i → i < 10 → (∀ k, a i k = if k = 3 ∨ k = 4 then 1 else if 7 ≤ k then -1 else 0) ∧ ∀ k, q i k = if 7 ≤ k then -1 else 0
def RLo (a q : Nat → Nat → Int32) (nl nc : Nat) : Prop := (∀ l, l < nl → a l = q l ∧ okLo (a l) nc) ∧ ∀ l, nl ≤ l → l < 24 → a l 3 = 0 ∧ ∀ k, 4 ≤ k → a l k = -1
/-- tons: what is delivered of the first n loads -/
def tsum (a : Nat → Nat → Int32) : Nat → Int32
  | 0 => 0
  | n + 1 => tsum a n + (if a n 3 = 2 then a n 0 else 0)
def RMv (b : Nat → Int32) (a : Nat → Nat → Int32) (nl : Nat) : Prop := (∀ k, k < nl → ∃ l, l < nl ∧ b k = nI l) ∧ ∀ j k, j < k → k < nl → (a (b k).toNatClampNeg 1).toInt < (a (b j).toNatClampNeg 1).toInt ∨ (a (b k).toNatClampNeg 1 = a (b j).toNatClampNeg 1 ∧ (b j).toNatClampNeg < (b k).toNatClampNeg)
def RRu (a s1 s2 s3 : Nat → Nat → Int32) (q : Nat → Int32) (nr : Nat) : Prop := ∀ p, p < nr →
  (a p 0 = q (15 * p + 2) ∧ a p 1 = q (15 * p + 3) ∧ a p 2 = q (15 * p) ∧ a p 3 = q (15 * p + 1) ∧ a p 4 = q (15 * p + 5) ∧ a p 5 = q (15 * p + 4)) ∧
  (0 ≤ (a p 3).toInt ∧ (a p 3).toInt ≤ 100000) ∧ (a p 4 = 0 ∨ a p 4 = 1) ∧ ∃ m, m ≤ 3 ∧ a p 5 = nI m ∧ ∀ t, t < m → s1 p t = q (15 * p + 6 + 3 * t) ∧ s2 p t = q (15 * p + 7 + 3 * t) ∧ s3 p t = q (15 * p + 8 + 3 * t) ∧ 0 ≤ (s1 p t).toInt ∧ (s1 p t).toInt ≤ 4
def RTa (a q : Nat → Int32) (nt : Nat) : Prop := ∀ t, t < nt → a t = q t ∧ 0 ≤ (a t).toInt ∧ (a t).toInt < 256
def RWe (a q : Nat → Int32) : Prop := ∀ t, t < 48 → a t = q t ∧ (a t = -9999 ∨ (-600 ≤ (a t).toInt ∧ (a t).toInt ≤ 300))
def RRo (th : Int32) (a q : Nat → Int32) : Prop := ∀ t, t < 48 → (th = 1 → a t = q t) ∧ (th = 0 → a t = 0)
def RRf (a q : Nat → Int32) : Prop := ∀ t, t < 7 → a t = q (t + 2)
def Rel (nc nl nr nt : Nat) (c r : F3) : Prop :=
  (2 ≤ nc ∧ nc ≤ 10 ∧ nl ≤ 24 ∧ nr ≤ 10 ∧ nt ≤ 80) ∧ RSc (c 0 0) (c 5 0) (r 20 0) nc nl nr nt ∧ RCe (c 1) (rs r) nc ∧ (RLo (c 2) (rl r) nl nc ∧ r 20 0 24 = tsum (c 2) nl) ∧ RMv (c 9 0) (c 2) nl ∧ RRu (c 3) (c 16) (c 17) (c 18) (r 23 0) nr ∧ RTa (c 15 0) (r 26 0) nt ∧ RWe (c 14 0) (r 22 0) ∧ RRo (c 0 0 11) (c 11 0) (r 27 0) ∧ RRf (c 12 0) (r 21 0)
def RelE (c r : F3) : Prop := ∃ nc nl nr nt, Rel nc nl nr nt c r
def Inv (f : F3) : Prop := RelE f f
def SimI (SC SR : F3 → Option (Int32 × F3)) : Prop := ∀ c r, RelE c r → ∃ w c' r', SC c = some (w, c') ∧ SR r = some (w, r') ∧ RelE c' r'
theorem rs_congr {r r' : F3} (h : ∀ k, 30 ≤ k → k ≤ 38 → r' k = r k) : rs r' = rs r := by
  funext i k
  unfold rs
  by_cases hk : k < 8
  · rw [if_pos hk, if_pos hk, h (30 + k) (by omega) (by omega)]
  · rw [if_neg hk, if_neg hk, h 38 (by omega) (by omega)]
theorem rl_congr {r r' : F3} (h : ∀ k, 40 ≤ k → k ≤ 46 → r' k = r k) : rl r' = rl r := by
  funext i k
  unfold rl
  rw [h 40 (by omega) (by omega), h 41 (by omega) (by omega), h 42 (by omega) (by omega), h 43 (by omega) (by omega), h 44 (by omega) (by omega), h 45 (by omega) (by omega), h 46 (by omega) (by omega)]
theorem RelE_congr {c c' r r' : F3} (hc : eqC c' c) (hr : eqR r' r) (h : RelE c r) : RelE c' r' := by
  obtain ⟨nc, nl, nr, nt, h⟩ := h
  refine ⟨nc, nl, nr, nt, ?_⟩
  unfold Rel at h ⊢
  rw [hc 0 (by decide), hc 1 (by decide), hc 2 (by decide), hc 3 (by decide), hc 5 (by decide), hc 9 (by decide), hc 11 (by decide), hc 12 (by decide), hc 14 (by decide), hc 15 (by decide), hc 16 (by decide), hc 17 (by decide), hc 18 (by decide), hr 20 (by decide), hr 21 (by decide), hr 22 (by decide), hr 23 (by decide), hr 26 (by decide), hr 27 (by decide), rs_congr (r := r) (r' := r') (fun k h1 h2 => hr k (by omega)), rl_congr (r := r) (r' := r') (fun k h1 h2 => hr k (by omega))]
  exact h
theorem ST_of {SC SR : F3 → Option (Int32 × F3)} (hs : SimI SC SR) (hC : ∀ {c : F3} {w : Int32} {c' : F3}, SC c = some (w, c') → eqR c' c) (hR : ∀ {r : F3} {w : Int32} {r' : F3}, SR r = some (w, r') → eqC r' r) (f : F3) (hI : Inv f) : ST Inv SC SR f := by
  obtain ⟨w, c', r', h1, h2, h3⟩ := hs f f hI
  have e1 := hC h1
  have hI1 : RelE f c' := RelE_congr (eqC_rf f) e1 hI
  obtain ⟨w2, c2, r2, g1, g2, g3⟩ := hs f c' hI1
  rw [h1] at g1
  obtain ⟨rfl, rfl⟩ := mm_pr g1
  exact ⟨w2, c2, r2, h1, g2, RelE_congr (hR g2) (eqR_rf r2) g3⟩
/-- refusals -/
def cref (c : F3) (j : Nat) : F3 := up c 12 0 j (c 12 0 j + 1)
def rref (r : F3) (j : Nat) : F3 := up r 21 0 (j + 2) (r 21 0 (j + 2) + 1)
theorem C_ref2 (c : F3) : S_X6_refuse c (-2) = some (-2, cref c 0) := rfl
theorem C_ref3 (c : F3) : S_X6_refuse c (-3) = some (-3, cref c 1) := rfl
theorem C_ref4 (c : F3) : S_X6_refuse c (-4) = some (-4, cref c 2) := rfl
theorem C_ref5 (c : F3) : S_X6_refuse c (-5) = some (-5, cref c 3) := rfl
theorem C_ref6 (c : F3) : S_X6_refuse c (-6) = some (-6, cref c 4) := rfl
theorem C_ref7 (c : F3) : S_X6_refuse c (-7) = some (-7, cref c 5) := rfl
theorem C_ref8 (c : F3) : S_X6_refuse c (-8) = some (-8, cref c 6) := rfl
theorem R_ref2 (r : F3) : S_X7_refuse r (-2) = some (-2, rref r 0) := rfl
theorem R_ref3 (r : F3) : S_X7_refuse r (-3) = some (-3, rref r 1) := rfl
theorem R_ref4 (r : F3) : S_X7_refuse r (-4) = some (-4, rref r 2) := rfl
theorem R_ref5 (r : F3) : S_X7_refuse r (-5) = some (-5, rref r 3) := rfl
theorem R_ref6 (r : F3) : S_X7_refuse r (-6) = some (-6, rref r 4) := rfl
theorem R_ref7 (r : F3) : S_X7_refuse r (-7) = some (-7, rref r 5) := rfl
theorem R_ref8 (r : F3) : S_X7_refuse r (-8) = some (-8, rref r 6) := rfl
theorem R_nou2 (r : F3) : S_X7_nought r (-2) = some (0, rref r 0) := rfl
theorem R_nou3 (r : F3) : S_X7_nought r (-3) = some (0, rref r 1) := rfl
theorem R_nou7 (r : F3) : S_X7_nought r (-7) = some (0, rref r 5) := rfl
/-- a change in regions that Rel reads alone there -/
theorem Rel_refs {c r : F3} {j : Nat} (h : RelE c r) (hj : j < 7) : RelE (cref c j) (rref r j) := by
  obtain ⟨nc, nl, nr, nt, h⟩ := h
  refine ⟨nc, nl, nr, nt, ?_⟩
  have hc : ∀ k, k ≠ 12 → cref c j k = c k := fun k hk => up_reg hk
  have hr : ∀ k, k ≠ 21 → rref r j k = r k := fun k hk => up_reg hk
  unfold Rel at h ⊢
  rw [hc 0 (by decide), hc 1 (by decide), hc 2 (by decide), hc 3 (by decide), hc 5 (by decide), hc 9 (by decide), hc 11 (by decide), hc 14 (by decide), hc 15 (by decide), hc 16 (by decide), hc 17 (by decide), hc 18 (by decide), hr 20 (by decide), hr 22 (by decide), hr 23 (by decide), hr 26 (by decide), hr 27 (by decide), rs_congr (r := r) (r' := rref r j) (fun k h1 h2 => hr k (by omega)), rl_congr (r := r) (r' := rref r j) (fun k h1 h2 => hr k (by omega))]
  refine ⟨h.1, h.2.1, h.2.2.1, h.2.2.2.1, h.2.2.2.2.1, h.2.2.2.2.2.1, h.2.2.2.2.2.2.1, h.2.2.2.2.2.2.2.1, h.2.2.2.2.2.2.2.2.1, fun t ht => ?_⟩
  have := h.2.2.2.2.2.2.2.2.2
  unfold cref rref up
  simp only [true_and]
  by_cases e : t = j
  · subst e
    rw [if_pos rfl, if_pos rfl, this t ht]
  · rw [if_neg e, if_neg (by omega)]
    exact this t ht
section AC
variable {nc nl nr nt : Nat} {c r : F3}
theorem R_sc (h : Rel nc nl nr nt c r) : RSc (c 0 0) (c 5 0) (r 20 0) nc nl nr nt := h.2.1
theorem C_isCell (h : Rel nc nl nr nt c r) (x : Int32) : S_X6_isCell c x = some (bo (okI x nc), c) := by
  have hb := h.1
  unfold S_X6_isCell
  rw [show c 0 0 12 = nI nc from h.2.1.1]
  simp only [fa_lt, fa_le, nI_toInt (show nc < 2 ^ 31 by omega)]
  by_cases h1 : x.toInt < (0 : Int32).toInt
  · rw [if_pos h1]
    have : okI x nc = false := by rw [Bool.eq_false_iff]; intro q; rw [okI_iff] at q; simp at h1; omega
    rw [this, bo_f]
  · rw [if_neg h1]
    by_cases h2 : (nc : Int) ≤ x.toInt
    · rw [if_pos h2]
      have : okI x nc = false := by rw [Bool.eq_false_iff]; intro q; rw [okI_iff] at q; omega
      rw [this, bo_f]
    · rw [if_neg h2]
      have : okI x nc = true := by rw [okI_iff]; simp at h1; omega
      rw [this, bo_t]
theorem okI_wi {x : Int32} {n : Nat} (hn : 1 ≤ n) (h2 : n < 2 ^ 30) : wi x 0 (nI n - 1) = bo (okI x n) := by
  rw [wi_bo]
  congr 1
  rw [Bool.eq_iff_iff, okI_iff, decide_eq_true_iff, show nI n - 1 = nI (n - 1) by rw [show (1 : Int32) = nI 1 from rfl, pk_sub hn], nI_toInt (by omega)]
  simp
  omega
theorem okI_0 {x : Int32} : okI x 0 = false := by
  rw [Bool.eq_false_iff]
  intro q
  rw [okI_iff] at q
  omega
theorem R_isCell (h : Rel nc nl nr nt c r) (x : Int32) : S_X7_isCell r x = some (bo (okI x nc), r) := by
  have hb := h.1
  unfold S_X7_isCell
  rw [show r 20 0 2 = nI nc from h.2.1.2.1, R_in, mb2, okI_wi (by omega) (by omega), if_pos (okB_bo _)]
theorem C_isLoad (h : Rel nc nl nr nt c r) (x : Int32) : S_X6_isLoad c x = some (bo (okI x nl), c) := by
  have hb := h.1
  unfold S_X6_isLoad
  rw [show c 0 0 13 = nI nl from h.2.1.2.2.1]
  simp only [fa_lt, fa_le, nI_toInt (show nl < 2 ^ 31 by omega)]
  by_cases h1 : x.toInt < (0 : Int32).toInt
  · rw [if_pos h1]
    have : okI x nl = false := by rw [Bool.eq_false_iff]; intro q; rw [okI_iff] at q; simp at h1; omega
    rw [this, bo_f]
  · rw [if_neg h1]
    by_cases h2 : (nl : Int) ≤ x.toInt
    · rw [if_pos h2]
      have : okI x nl = false := by rw [Bool.eq_false_iff]; intro q; rw [okI_iff] at q; omega
      rw [this, bo_f]
    · rw [if_neg h2]
      have : okI x nl = true := by rw [okI_iff]; simp at h1; omega
      rw [this, bo_t]
theorem R_isLoad (h : Rel nc nl nr nt c r) (x : Int32) : S_X7_isLoad r x = some (bo (okI x nl), r) := by
  have hb := h.1
  unfold S_X7_isLoad
  rw [show r 20 0 13 = nI nl from h.2.1.2.2.2.1, R_in, mb2]
  by_cases hn : 1 ≤ nl
  · rw [okI_wi hn (by omega), if_pos (okB_bo _)]
  · have : nl = 0 := by omega
    subst this
    have e : wi x 0 (nI 0 - 1) = bo (okI x 0) := by
      rw [okI_0, bo_f, wi_1]
      simp [nI]
      omega
    rw [e, if_pos (okB_bo _)]
end AC
