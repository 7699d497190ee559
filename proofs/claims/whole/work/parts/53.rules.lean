/-! rules: said, may, why -/
def SimH (SC SR : F3 → Option (Int32 × F3)) : Prop := ∀ c r, RelE c r → 0 ≤ (c 0 0 15).toInt → ∃ w c' r', SC c = some (w, c') ∧ SR r = some (w, r') ∧ RelE c' r'
theorem Rel_13 {nc nl nr nt : Nat} {c c' r : F3} (h : Rel nc nl nr nt c r) (hc : ∀ g, g ≠ 13 → c' g = c g) : Rel nc nl nr nt c' r := by
  unfold Rel at h ⊢
  rw [hc 0 (by decide), hc 1 (by decide), hc 2 (by decide), hc 3 (by decide), hc 5 (by decide), hc 9 (by decide), hc 11 (by decide), hc 12 (by decide), hc 14 (by decide), hc 15 (by decide), hc 16 (by decide), hc 17 (by decide), hc 18 (by decide)]
  exact h
/-- the facts of load l at cell i -/
def FA (c : F3) (l i : Nat) : Prop := c 13 0 0 = c 2 l 0 ∧ c 13 0 1 = c 2 l 1 ∧ c 13 0 2 = nI i ∧ c 13 0 3 = hv (c 14 0) ((c 0 0 15).toInt.toNat % 48) ∧ c 13 0 4 = c 1 i 2
section RU
variable {nc nl nr nt : Nat} {c r : F3}
theorem C_gather (h : Rel nc nl nr nt c r) (hh : 0 ≤ (c 0 0 15).toInt) {l i : Nat} (hi : i < nc) : ∃ c', S_X6_gatherFacts c l (nI i) = some c' ∧ (∀ g, g ≠ 13 → c' g = c g) ∧ FA c' l i := by
  have hb := h.1
  unfold S_X6_gatherFacts
  rw [mlt, mlt, mlt]
  generalize hc3 : up (up (up c 13 0 0 (c 2 l 0)) 13 0 1 (up c 13 0 0 (c 2 l 0) 2 l 1)) 13 0 2 (nI i) = c3
  have g3 : ∀ g, g ≠ 13 → c3 g = c g := fun g hg => by
    rw [← hc3, up_reg hg, up_reg hg, up_reg hg]
  have h3 : Rel nc nl nr nt c3 r := Rel_13 h g3
  have v0 : c3 13 0 0 = c 2 l 0 := by rw [← hc3]; simp [up]
  have v1 : c3 13 0 1 = c 2 l 1 := by rw [← hc3]; simp [up]
  have v2 : c3 13 0 2 = nI i := by rw [← hc3]; simp [up]
  have hh3 : 0 ≤ (c3 0 0 15).toInt := by rw [g3 0 (by decide)]; exact hh
  rw [(Rel_heat h3 hh3).1, mb2, mlt, if_pos (okI_nI (show i < 10 by omega) (by decide)), nIk (show i < 10 by omega) (by decide), mlt, up_reg (show (1 : Nat) ≠ 13 by decide)]
  have gg : ∀ g, g ≠ 13 → up (up c3 13 0 3 (hv (c3 14 0) ((c3 0 0 15).toInt.toNat % 48))) 13 0 4 (c3 1 i 2) g = c3 g := fun g hg => by rw [up_reg hg, up_reg hg]
  refine ⟨_, rfl, fun g hg => (gg g hg).trans (g3 g hg), ?_⟩
  unfold FA
  rw [gg 2 (by decide), gg 14 (by decide), gg 0 (by decide), gg 1 (by decide), g3 2 (by decide)]
  refine ⟨?_, ?_, ?_, ?_, ?_⟩
  · rw [← v0]; simp [up]
  · rw [← v1]; simp [up]
  · rw [← v2]; simp [up]
  · simp [up]
  · simp [up]
theorem R_field (h : Rel nc nl nr nt c r) (hh : 0 ≤ (c 0 0 15).toInt) {l i : Nat} (hl : l < nl) (hi : i < nc) (hF : FA c l i) {x : Int32} (hx : 0 ≤ x.toInt ∧ x.toInt ≤ 4) : S_X7_field r x (nI l) (nI i) = some (c 13 0 x.toNatClampNeg, r) := by
  have hb := h.1
  obtain ⟨f0, f1, f2, f3, f4⟩ := hF
  have el := Rel_leq h hl
  have e0 : r 40 0 l = c 2 l 0 := congrFun el 0
  have e1 : r 41 0 l = c 2 l 1 := congrFun el 1
  have e2 : r 32 0 i = c 1 i 2 := congrFun (Rel_eq h hi) 2
  have ol := okI_nI (show l < 24 by omega) (by decide)
  have oi := okI_nI (show i < 10 by omega) (by decide)
  have s9 : c 0 0 15 = r 20 0 1 := h.2.1.2.2.2.2.2.2.2.2.1
  unfold S_X7_field
  have hx5 : x = 0 ∨ x = 1 ∨ x = 2 ∨ x = 3 ∨ x = 4 := by
    simp only [fa_eq, show (0 : Int32).toInt = 0 from rfl, show (1 : Int32).toInt = 1 from rfl, show (2 : Int32).toInt = 2 from rfl, show (3 : Int32).toInt = 3 from rfl, show (4 : Int32).toInt = 4 from rfl]
    omega
  rcases hx5 with rfl | rfl | rfl | rfl | rfl
  · rw [if_pos rfl, if_pos ol, nIk (show l < 24 by omega) (by decide), e0, ← f0]
    rfl
  · rw [if_neg (by decide), if_pos rfl, if_pos ol, nIk (show l < 24 by omega) (by decide), e1, ← f1]
    rfl
  · rw [if_neg (by decide), if_neg (by decide), if_pos rfl, ← f2]
    rfl
  · rw [if_neg (by decide), if_neg (by decide), if_neg (by decide), if_pos rfl, ← s9, (Rel_heat h hh).2, mb2, ← f3]
    rfl
  · rw [if_neg (by decide), if_neg (by decide), if_neg (by decide), if_neg (by decide), if_pos oi, nIk (show i < 10 by omega) (by decide), e2, ← f4]
    rfl
theorem sim_tests (h : Rel nc nl nr nt c r) (hh : 0 ≤ (c 0 0 15).toInt) {l i p : Nat} (hl : l < nl) (hi : i < nc) (hp : p < nr) (hF : FA c l i) {m : Nat} (hm : m ≤ 3) (h5 : c 3 p 5 = nI m) (ht : ∀ t, t < m → c 16 p t = r 23 0 (15 * p + 6 + 3 * t) ∧ c 17 p t = r 23 0 (15 * p + 7 + 3 * t) ∧ c 18 p t = r 23 0 (15 * p + 8 + 3 * t) ∧ 0 ≤ (c 16 p t).toInt ∧ (c 16 p t).toInt ≤ 4) : ∀ (k t n : Nat) (s z : Int32), z = nI t → t + k = m → k < n → ∃ w, S_X2_applies_23 n c p s z = some (w, c) ∧ S_X7_holds_53 n r (nI l) (nI i) (nI (15 * p)) (nI m) s z = some (w, r)
  | 0, t, n + 1, s, z, hz, htm, _ => by
    have hb := h.1
    obtain ⟨⟨-, -, -, -, q4, -⟩, -, q01, -⟩ := h.2.2.2.2.2.1 p hp
    have tm : t = m := by omega
    have o5 : okI (nI (15 * p) + 5) 150 = true := by
      rw [show (5 : Int32) = nI 5 from rfl, nI_add]
      exact okI_nI (by omega) (by decide)
    have c5 : (nI (15 * p) + 5).toNatClampNeg = 15 * p + 5 := by
      rw [show (5 : Int32) = nI 5 from rfl, nI_add]
      exact nI_clamp (by omega)
    rw [hz, S_X2_applies_23, S_X7_holds_53, h5, tm, if_pos (Int32.le_refl _), if_pos (Int32.le_refl _), if_pos o5, c5, ← q4]
    rcases q01 with q | q
    · rw [q, if_pos rfl, if_neg (show ¬ (0 : Int32) = 1 by decide)]
      by_cases z : s = nI m
      · rw [if_pos z, if_pos z]
        exact ⟨_, rfl, rfl⟩
      · rw [if_neg z, if_neg z]
        exact ⟨_, rfl, rfl⟩
    · rw [q, if_neg (show ¬ (1 : Int32) = 0 by decide), if_pos rfl]
      by_cases z : s ≤ 0
      · rw [if_pos z, if_pos z]
        exact ⟨_, rfl, rfl⟩
      · rw [if_neg z, if_neg z]
        exact ⟨_, rfl, rfl⟩
  | k + 1, t, n + 1, s, z, hz, htm, hn => by
    have hb := h.1
    obtain ⟨a1, a2, a3, a4, a5⟩ := ht t (by omega)
    have hx5 : okI (c 16 p t) 5 = true := by
      rw [okI_iff]
      omega
    have ot : okI (nI t) 3 = true := okI_nI (show t < 3 by omega) (by decide)
    have kt : (nI t).toNatClampNeg = t := nIk (show t < 3 by omega) (by decide)
    have n0 : ¬ c 16 p t < 0 := by
      simp only [fa_lt, show (0 : Int32).toInt = 0 from rfl]
      omega
    have n5 : ¬ 5 ≤ c 16 p t := by
      simp only [fa_le, show (5 : Int32).toInt = 5 from rfl]
      omega
    have ad : ∀ j, nI (15 * p) + nI j + 3 * nI t = nI (15 * p + j + 3 * t) := by
      intro j
      rw [show (3 : Int32) = nI 3 from rfl, pk_mul, nI_add, nI_add]
    have ob : ∀ j, j ≤ 8 → okI (nI (15 * p) + nI j + 3 * nI t) 150 = true := fun j hj => by
      rw [ad]
      exact okI_nI (by omega) (by decide)
    have cb : ∀ j, j ≤ 8 → (nI (15 * p) + nI j + 3 * nI t).toNatClampNeg = 15 * p + j + 3 * t := fun j hj => by
      rw [ad]
      exact nI_clamp (by omega)
    have ng : ¬ nI m ≤ nI t := nle_of (by omega) (by omega)
    have o6 : okI (nI (15 * p) + 6 + 3 * nI t) 150 = true := ob 6 (by decide)
    have o7 : okI (nI (15 * p) + 7 + 3 * nI t) 150 = true := ob 7 (by decide)
    have o8 : okI (nI (15 * p) + 8 + 3 * nI t) 150 = true := ob 8 (by decide)
    have c6 : (nI (15 * p) + 6 + 3 * nI t).toNatClampNeg = 15 * p + 6 + 3 * t := cb 6 (by decide)
    have c7 : (nI (15 * p) + 7 + 3 * nI t).toNatClampNeg = 15 * p + 7 + 3 * t := cb 7 (by decide)
    have c8 : (nI (15 * p) + 8 + 3 * nI t).toNatClampNeg = 15 * p + 8 + 3 * t := cb 8 (by decide)
    have ih : ∀ s', ∃ w, S_X2_applies_23 n c p s' (nI (t + 1)) = some (w, c) ∧ S_X7_holds_53 n r (nI l) (nI i) (nI (15 * p)) (nI m) s' (nI (t + 1)) = some (w, r) := fun s' => sim_tests h hh hl hi hp hF hm h5 ht k (t + 1) n s' _ rfl (by omega) (by omega)
    rw [hz, S_X2_applies_23, S_X7_holds_53, h5, if_neg ng, if_neg ng, if_pos ot, kt, if_neg n0, if_neg n5, S_X2_applies_59, if_neg (show ¬ (1 : Int32) = 0 by decide), if_pos ot, kt, if_pos hx5, S_X2_applies_79, if_pos ot, kt, if_pos o6, c6, ← a1, R_field h hh hl hi hF ⟨a4, a5⟩, mb2, if_pos o7, if_pos o8, c7, c8, ← a2, ← a3]
    unfold S_X2_applies_162 S_X2_applies_175 S_X7_holds_160 S_X7_holds_164 S_X7_holds_165
    rw [if_neg (show ¬ (1 : Int32) = 0 by decide), if_pos (show (0 : Int32) = 0 from rfl), nI_1]
    by_cases q1 : c 17 p t = 61
    · rw [if_pos q1, if_pos q1]
      by_cases q2 : c 13 0 (c 16 p t).toNatClampNeg = c 18 p t
      · rw [if_pos q2, if_pos q2]
        exact ih _
      · rw [if_neg q2, if_neg q2]
        exact ih _
    · rw [if_neg q1, if_neg q1]
      by_cases q3 : c 17 p t = 60
      · rw [if_pos q3, if_pos q3]
        by_cases q2 : c 18 p t ≤ c 13 0 (c 16 p t).toNatClampNeg
        · rw [if_pos q2, if_pos q2]
          exact ih _
        · rw [if_neg q2, if_neg q2]
          exact ih _
      · rw [if_neg q3, if_neg q3]
        by_cases q2 : c 13 0 (c 16 p t).toNatClampNeg ≤ c 18 p t
        · rw [if_pos q2, if_pos q2]
          exact ih _
        · rw [if_neg q2, if_neg q2]
          exact ih _
  | 0, _, 0, _, _, _, _, h => absurd h (Nat.lt_irrefl 0)
  | k + 1, _, 0, _, _, _, _, h => absurd h (by omega)
theorem sim_applies (h : Rel nc nl nr nt c r) (hh : 0 ≤ (c 0 0 15).toInt) {l i p : Nat} (hl : l < nl) (hi : i < nc) (hp : p < nr) (hF : FA c l i) : ∃ w, S_X2_applies c p (c 0 0 15) = some (w, c) ∧ S_X7_holds r (nI p) (nI l) (nI i) = some (w, r) := by
  have hb := h.1
  obtain ⟨⟨q0, q1, q2, q3, q4, q5⟩, q6, -, m, hm, h5, ht⟩ := h.2.2.2.2.2.1 p hp
  have s9 : c 0 0 15 = r 20 0 1 := h.2.1.2.2.2.2.2.2.2.2.1
  have e15 : 15 * nI p = nI (15 * p) := by rw [show (15 : Int32) = nI 15 from rfl, pk_mul]
  have o0 : okI (nI (15 * p)) 150 = true := okI_nI (by omega) (by decide)
  have o1 : okI (nI (15 * p) + 1) 150 = true := by rw [nI_1]; exact okI_nI (by omega) (by decide)
  have c1 : (nI (15 * p) + 1).toNatClampNeg = 15 * p + 1 := by rw [nI_1]; exact nI_clamp (by omega)
  have o4 : okI (nI (15 * p) + 4) 150 = true := by rw [show (4 : Int32) = nI 4 from rfl, nI_add]; exact okI_nI (by omega) (by decide)
  have c4 : (nI (15 * p) + 4).toNatClampNeg = 15 * p + 4 := by rw [show (4 : Int32) = nI 4 from rfl, nI_add]; exact nI_clamp (by omega)
  have sb : (c 3 p 3 - 1).toInt = (c 3 p 3).toInt - 1 := by rw [Int32.toInt_sub, show (1 : Int32).toInt = 1 from rfl, fb_bmod0 (by omega) (by omega)]
  unfold S_X2_applies S_X7_holds
  rw [e15, if_pos o0, if_pos o1, R_in, mb2, if_pos o4, c1, c4, nI_clamp (show 15 * p < 2 ^ 31 by omega), ← q2, ← q3, ← q5, ← s9, h5]
  by_cases w0 : wi (c 0 0 15) (c 3 p 2) (c 3 p 3 - 1) = 0
  · rw [if_pos w0]
    rw [wi_1, sb] at w0
    simp only [fa_lt]
    by_cases z1 : (c 0 0 15).toInt < (c 3 p 2).toInt
    · rw [if_pos z1]
      exact ⟨_, rfl, rfl⟩
    · rw [if_neg z1, if_neg (by omega)]
      exact ⟨_, rfl, rfl⟩
  · rw [if_neg w0]
    rw [wi_1, sb] at w0
    simp only [fa_lt]
    rw [if_neg (by omega), if_pos (by omega)]
    exact sim_tests h hh hl hi hp hF hm h5 ht m 0 FU 0 0 rfl (by omega) (FU_gt (by omega))
theorem sim_number_loop (h : Rel nc nl nr nt c r) (hh : 0 ≤ (c 0 0 15).toInt) {l i : Nat} (hl : l < nl) (hi : i < nc) (hF : FA c l i) (x : Int32) : ∀ (p n : Nat) (z : Int32), z = nI p - 1 → p ≤ nr → p < n → ∃ w, S_X6_numberFor_7 n c x z = some (w, c) ∧ S_X7_saidOf_8 n r (nI l) (nI i) x z = some (w, r)
  | 0, n + 1, z, hz, hp, _ => by
    rw [hz, S_X6_numberFor_7, S_X7_saidOf_8, if_pos (show nI 0 - 1 < 0 by decide), if_pos (show nI 0 - 1 < 0 by decide)]
    by_cases z : x = 1
    · rw [if_pos z, if_pos z]
      exact ⟨_, rfl, rfl⟩
    · rw [if_neg z, if_neg z]
      exact ⟨_, rfl, rfl⟩
  | p + 1, n + 1, z, hz, hp, hn => by
    have hb := h.1
    rw [nI_pred] at hz
    obtain ⟨⟨q0, q1, -⟩, -⟩ := h.2.2.2.2.2.1 p (by omega)
    have e15 : 15 * nI p = nI (15 * p) := by rw [show (15 : Int32) = nI 15 from rfl, pk_mul]
    have o2 : okI (nI (15 * p) + 2) 150 = true := by rw [show (2 : Int32) = nI 2 from rfl, nI_add]; exact okI_nI (by omega) (by decide)
    have c2 : (nI (15 * p) + 2).toNatClampNeg = 15 * p + 2 := by rw [show (2 : Int32) = nI 2 from rfl, nI_add]; exact nI_clamp (by omega)
    have o3 : okI (nI (15 * p) + 3) 150 = true := by rw [show (3 : Int32) = nI 3 from rfl, nI_add]; exact okI_nI (by omega) (by decide)
    have c3 : (nI (15 * p) + 3).toNatClampNeg = 15 * p + 3 := by rw [show (3 : Int32) = nI 3 from rfl, nI_add]; exact nI_clamp (by omega)
    have hng : ¬ nI p < 0 := nI_pos (by omega)
    obtain ⟨w, a1, a2⟩ := sim_applies h hh hl hi (show p < nr by omega) hF
    rw [hz, S_X6_numberFor_7, S_X7_saidOf_8, if_neg hng, if_neg hng, if_pos (okI_nI (show p < 10 by omega) (by decide)), nIk (show p < 10 by omega) (by decide), e15, if_pos o2, c2, ← q0, a1, a2, mb2, mb2, if_pos o3, c3, ← q1]
    unfold S_X6_numberFor_54 S_X7_saidOf_53
    have ih := sim_number_loop h hh hl hi hF x p n (nI p + (-1)) (by rw [Int32.sub_eq_add_neg]) (by omega) (by omega)
    by_cases k1 : c 3 p 0 = x
    · rw [if_pos k1, if_pos k1]
      by_cases k2 : w = 0
      · rw [if_pos k2, if_pos k2]
        exact ih
      · rw [if_neg k2, if_neg k2]
        exact ⟨_, rfl, rfl⟩
    · rw [if_neg k1, if_neg k1]
      exact ih
  | 0, 0, _, _, _, h => absurd h (Nat.lt_irrefl 0)
  | k + 1, 0, _, _, _, h => absurd h (by omega)
theorem sim_number (h : Rel nc nl nr nt c r) (hh : 0 ≤ (c 0 0 15).toInt) {l i : Nat} (hl : l < nl) (hi : i < nc) (hF : FA c l i) (x : Int32) : ∃ w, S_X6_numberFor c x = some (w, c) ∧ S_X7_saidOf r (nI l) (nI i) x = some (w, r) := by
  have hb := h.1
  unfold S_X6_numberFor S_X7_saidOf
  rw [h.2.1.2.2.2.2.1, h.2.1.2.2.2.2.2.1]
  exact sim_number_loop h hh hl hi hF x nr FU _ rfl (Nat.le_refl _) (FU_gt (by omega))
/-- why a load may not come on a cell -/
theorem sim_reason (h : Rel nc nl nr nt c r) (hh : 0 ≤ (c 0 0 15).toInt) {l i : Nat} (hl : l < nl) (hi : i < nc) : ∃ w c', S_X6_reasonAgainst c l (nI i) = some (w, c') ∧ S_X7_whyNot r (nI l) (nI i) = some (w, r) ∧ ∀ g, g ≠ 13 → c' g = c g := by
  have hb := h.1
  obtain ⟨c1, g1, g2, hF⟩ := C_gather (l := l) h hh hi
  have h1 : Rel nc nl nr nt c1 r := Rel_13 h g2
  have hh1 : 0 ≤ (c1 0 0 15).toInt := by rw [g2 0 (by decide)]; exact hh
  obtain ⟨w2, a1, a2⟩ := sim_number h1 hh1 hl hi hF 2
  obtain ⟨w0, b1, b2⟩ := sim_number h1 hh1 hl hi hF 0
  obtain ⟨w1, d1, d2⟩ := sim_number h1 hh1 hl hi hF 1
  obtain ⟨v, v1, v2⟩ := Rel_least h1 hi
  have s9 : c1 0 0 15 = r 20 0 1 := h1.2.1.2.2.2.2.2.2.2.2.1
  have el := Rel_leq h1 hl
  have e2 : r 42 0 l = c1 2 l 2 := congrFun el 2
  have hd := (Rel_lok h1 hl).2.2.1
  have ec := Rel_eq h1 hi
  have e8 : r 38 0 (2 * i) = c1 1 i 8 := congrFun ec 8
  have e9 : r 38 0 (2 * i + 1) = c1 1 i 9 := congrFun ec 9
  have ol := okI_nI (show l < 24 by omega) (by decide)
  have oi := okI_nI (show i < 10 by omega) (by decide)
  have e2i : 2 * nI i = nI (2 * i) := by rw [show (2 : Int32) = nI 2 from rfl, pk_mul]
  unfold S_X6_reasonAgainst S_X7_whyNot
  rw [g1, mob, a1, mb2, a2, mb2, v1, mb2, v2, mb2, b1, mb2, b2, mb2, if_pos oi, nIk (show i < 10 by omega) (by decide), if_pos ol, nIk (show l < 24 by omega) (by decide), e2, e2i, d2, mb2, ← s9]
  by_cases k2 : w2 = 0
  · rw [if_pos k2, if_pos k2]
    by_cases k0 : w0 ≤ v
    · rw [if_pos k0, if_pos k0]
      obtain ⟨L, y1, y2, y3⟩ : ∃ L, S_X0_lastCome c1 i (c1 2 l 2) = some (L, c1) ∧ okI (nI (2 * i) + c1 2 l 2) 20 = true ∧ r 38 0 (nI (2 * i) + c1 2 l 2).toNatClampNeg = L := by
        unfold S_X0_lastCome
        rcases hd with q | q
        · rw [q, if_pos rfl, Int32.add_zero, nI_clamp (by omega), e8]
          exact ⟨_, rfl, okI_nI (by omega) (by decide), rfl⟩
        · rw [q, if_neg (by decide), nI_1, nI_clamp (by omega), e9]
          exact ⟨_, rfl, okI_nI (by omega) (by decide), rfl⟩
      rw [y1, mb2, if_pos y2, y3, d1, mb2]
      by_cases k1 : L = -1
      · rw [if_pos k1, if_pos k1]
        exact ⟨_, _, rfl, rfl, g2⟩
      · rw [if_neg k1, if_neg k1]
        by_cases k3 : w1 ≤ c1 0 0 15 - L
        · rw [if_pos k3, if_pos k3]
          exact ⟨_, _, rfl, rfl, g2⟩
        · rw [if_neg k3, if_neg k3]
          exact ⟨_, _, rfl, rfl, g2⟩
    · rw [if_neg k0, if_neg k0]
      exact ⟨_, _, rfl, rfl, g2⟩
  · rw [if_neg k2, if_neg k2]
    exact ⟨_, _, rfl, rfl, g2⟩
end RU
theorem sim_said (x y z : Int32) : SimH (fun c => S_X6_said c x y z) (fun r => S_X7_said r x y z) := by
  intro c r hE hh
  obtain ⟨nc, nl, nr, nt, h⟩ := id hE
  have hb := h.1
  show ∃ w c' r', S_X6_said c x y z = some (w, c') ∧ S_X7_said r x y z = some (w, r') ∧ RelE c' r'
  have rf : ∃ w c' r', S_X6_said_16 c = some (w, c') ∧ S_X7_said_16 r = some (w, r') ∧ RelE c' r' := by
    unfold S_X6_said_16 S_X7_said_16
    rw [C_ref3, R_ref3, mb2, mb2]
    exact ⟨_, _, _, rfl, rfl, Rel_refs hE (by decide)⟩
  unfold S_X6_said S_X7_said
  rw [C_isLoad h, R_isLoad h, mb2, mb2]
  cases hx : okI x nl
  · rw [bo_f, if_pos rfl, if_pos rfl]
    exact rf
  · rw [bo_t, if_neg (show ¬ (1 : Int32) = 0 by decide), if_neg (show ¬ (1 : Int32) = 0 by decide), C_isCell h, R_isCell h, mb2, mb2]
    cases hy : okI y nc
    · rw [bo_f, if_pos rfl, if_pos rfl]
      exact rf
    · rw [bo_t, if_neg (show ¬ (1 : Int32) = 0 by decide), if_neg (show ¬ (1 : Int32) = 0 by decide), C_within, R_in, mb2, mb2]
      by_cases hz : wi z 0 2 = 0
      · rw [if_pos hz, if_pos hz, C_ref7, R_ref7, mb2, mb2]
        exact ⟨_, _, _, rfl, rfl, Rel_refs hE (by decide)⟩
      · obtain ⟨l, hl, hl24, rfl, ho, hcl⟩ := okc hx hb.2.2.1 (by decide)
        obtain ⟨i, hi, hi10, rfl, ho2, hcl2⟩ := okc hy hb.2.1 (by decide)
        obtain ⟨c1, g1, g2, hF⟩ := C_gather (l := l) h hh hi
        have h1 : Rel nc nl nr nt c1 r := Rel_13 h g2
        have hh1 : 0 ≤ (c1 0 0 15).toInt := by rw [g2 0 (by decide)]; exact hh
        obtain ⟨w, a1, a2⟩ := sim_number h1 hh1 hl hi hF z
        rw [if_neg hz, if_neg hz, if_pos ho, hcl, g1, mob, a1, mb2, a2, mb2]
        exact ⟨_, _, _, rfl, rfl, nc, nl, nr, nt, h1⟩
theorem sim_may (x y : Int32) : SimH (fun c => S_X6_may c x y) (fun r => S_X7_may r x y) := by
  intro c r hE hh
  obtain ⟨nc, nl, nr, nt, h⟩ := id hE
  have hb := h.1
  show ∃ w c' r', S_X6_may c x y = some (w, c') ∧ S_X7_may r x y = some (w, r') ∧ RelE c' r'
  have rf : ∃ w c' r', S_X6_may_16 c = some (w, c') ∧ S_X7_may_16 r = some (w, r') ∧ RelE c' r' := by
    unfold S_X6_may_16 S_X7_may_16
    rw [C_ref3, R_ref3, mb2, mb2]
    exact ⟨_, _, _, rfl, rfl, Rel_refs hE (by decide)⟩
  unfold S_X6_may S_X7_may
  rw [C_isLoad h, R_isLoad h, mb2, mb2]
  cases hx : okI x nl
  · rw [bo_f, if_pos rfl, if_pos rfl]
    exact rf
  · rw [bo_t, if_neg (show ¬ (1 : Int32) = 0 by decide), if_neg (show ¬ (1 : Int32) = 0 by decide), C_isCell h, R_isCell h, mb2, mb2]
    cases hy : okI y nc
    · rw [bo_f, if_pos rfl, if_pos rfl]
      exact rf
    · rw [bo_t, if_neg (show ¬ (1 : Int32) = 0 by decide), if_neg (show ¬ (1 : Int32) = 0 by decide)]
      obtain ⟨l, hl, hl24, rfl, ho, hcl⟩ := okc hx hb.2.2.1 (by decide)
      obtain ⟨i, hi, hi10, rfl, ho2, hcl2⟩ := okc hy hb.2.1 (by decide)
      obtain ⟨w, c1, g1, g2, g3⟩ := sim_reason h hh hl hi
      have h1 : Rel nc nl nr nt c1 r := Rel_13 h g3
      rw [if_pos ho, hcl, g1, mb2, g2, mb2]
      split
      · exact ⟨_, _, _, rfl, rfl, nc, nl, nr, nt, h1⟩
      · exact ⟨_, _, _, rfl, rfl, nc, nl, nr, nt, h1⟩
theorem sim_why (x y : Int32) : SimH (fun c => S_X6_why c x y) (fun r => S_X7_why r x y) := by
  intro c r hE hh
  obtain ⟨nc, nl, nr, nt, h⟩ := id hE
  have hb := h.1
  show ∃ w c' r', S_X6_why c x y = some (w, c') ∧ S_X7_why r x y = some (w, r') ∧ RelE c' r'
  have rf : ∃ w c' r', S_X6_why_16 c = some (w, c') ∧ S_X7_why_25 r = some (w, r') ∧ RelE c' r' := by
    unfold S_X6_why_16 S_X7_why_25
    rw [C_ref3, R_ref3, mb2, mb2]
    exact ⟨_, _, _, rfl, rfl, Rel_refs hE (by decide)⟩
  unfold S_X6_why S_X7_why
  rw [C_isLoad h, R_isLoad h, mb2, mb2]
  cases hx : okI x nl
  · rw [bo_f, if_pos rfl, if_pos rfl]
    exact rf
  · rw [bo_t, if_neg (show ¬ (1 : Int32) = 0 by decide), if_neg (show ¬ (1 : Int32) = 0 by decide), C_isCell h, R_isCell h, mb2, mb2]
    cases hy : okI y nc
    · rw [bo_f, if_pos rfl, if_pos rfl]
      exact rf
    · rw [bo_t, if_neg (show ¬ (1 : Int32) = 0 by decide), if_neg (show ¬ (1 : Int32) = 0 by decide)]
      obtain ⟨l, hl, hl24, rfl, ho, hcl⟩ := okc hx hb.2.2.1 (by decide)
      obtain ⟨i, hi, hi10, rfl, ho2, hcl2⟩ := okc hy hb.2.1 (by decide)
      obtain ⟨w, c1, g1, g2, g3⟩ := sim_reason h hh hl hi
      have h1 : Rel nc nl nr nt c1 r := Rel_13 h g3
      rw [if_pos ho, hcl, g1, mb2, g2, mb2]
      exact ⟨_, _, _, rfl, rfl, nc, nl, nr, nt, h1⟩
