/-! a cell through an hour of heat x -/
def fRat (v : Nat → Int32) : Int32 := if v 0 = 2 then 20 else if v 0 = 3 then 5 else 10
def fDen (v : Nat → Int32) : Int32 := (100 + v 1 / 10) + (if v 0 = 1 ∨ v 0 = 2 then 0 else 3 * v 2)
def fGro (x : Int32) (v : Nat → Int32) : Int32 := ((-x) * fRat v) / fDen v
def fThk (x : Int32) (v : Nat → Int32) : Int32 := if 0 ≤ x then (if 0 < v 1 - (x / 10 + 1) then v 1 - (x / 10 + 1) else 0) else (if v 1 + fGro x v < 3000 then v 1 + fGro x v else 3000)
def fHea (x : Int32) (v : Nat → Int32) : Nat → Int32 := if v 0 = 3 then (if -100 ≤ x then v else if v 6 + 1 = 24 then upd (fBec 0 (upd v 6 (v 6 + 1))) 5 0 else upd v 6 (v 6 + 1)) else v
def fPas (x : Int32) (v : Nat → Int32) : Nat → Int32 := if v 0 = 4 then v else if x = 0 then fHea x v else fHea x (upd v 1 (fThk x v))
/-- what an hour needs of a cell -/
def okQ (v : Nat → Int32) : Prop := (0 ≤ (v 1).toInt ∧ (v 1).toInt ≤ 3000) ∧ (0 ≤ (v 2).toInt ∧ (v 2).toInt ≤ 200) ∧ (v 0 = 3 → 0 ≤ (v 6).toInt ∧ (v 6).toInt < 24)
theorem okQ_of {v : Nat → Int32} (h : okCe v) : okQ v := ⟨h.2.1, h.2.2.1, h.2.2.2.2⟩
theorem okQ_1 {v : Nat → Int32} {x : Int32} (h : okQ v) (hx : 0 ≤ x.toInt ∧ x.toInt ≤ 3000) : okQ (upd v 1 x) := by
  unfold okQ at h ⊢
  simp [upd]
  exact ⟨hx, h.2⟩
theorem mul_toI {a b : Int32} (h1 : -2147483648 ≤ a.toInt * b.toInt) (h2 : a.toInt * b.toInt < 2147483648) : (a * b).toInt = a.toInt * b.toInt := by
  rw [Int32.toInt_mul, fb_bmod0 h1 h2]
theorem div_toI {a b : Int32} (ha : 0 ≤ a.toInt) (hb : 0 < b.toInt) : (a / b).toInt = a.toInt / b.toInt := by
  rw [Int32.toInt_div, Int.tdiv_eq_ediv_of_nonneg ha]
  have h1 : a.toInt / b.toInt ≤ a.toInt := Int.ediv_le_self _ ha
  have h0 : 0 ≤ a.toInt / b.toInt := Int.ediv_nonneg ha (by omega)
  have := a.toInt_lt
  exact fb_bmod0 (by omega) (by omega)
theorem den_in {v : Nat → Int32} (h : okQ v) : 100 ≤ (fDen v).toInt ∧ (fDen v).toInt ≤ 1000 := by
  obtain ⟨h1, h2, -⟩ := h
  have d : (v 1 / 10).toInt = (v 1).toInt / 10 := div_toI h1.1 (by decide)
  have e : (100 + v 1 / 10).toInt = 100 + (v 1).toInt / 10 := by
    rw [Int32.toInt_add, d, show (100 : Int32).toInt = 100 from rfl, fb_bmod0 (by omega) (by omega)]
  have m : (3 * v 2).toInt = 3 * (v 2).toInt := mul_toI (a := 3) (by show -2147483648 ≤ 3 * (v 2).toInt; omega) (by show 3 * (v 2).toInt < 2147483648; omega)
  unfold fDen
  split
  · rw [Int32.add_zero, e]
    omega
  · rw [Int32.toInt_add, e, m, fb_bmod0 (by omega) (by omega)]
    omega
theorem rat_in (v : Nat → Int32) : 5 ≤ (fRat v).toInt ∧ (fRat v).toInt ≤ 20 := by
  unfold fRat
  split
  · decide
  · split <;> decide
theorem gro_in {x : Int32} {v : Nat → Int32} (h : okQ v) (hx : -600 ≤ x.toInt ∧ x.toInt < 0) : 0 ≤ (fGro x v).toInt ∧ (fGro x v).toInt ≤ 12000 := by
  have d := den_in h
  have r := rat_in v
  have n : (-x).toInt = -x.toInt := by
    rw [Int32.toInt_neg, fb_bmod0 (by omega) (by omega)]
  have hm1 : 0 ≤ (-x).toInt * (fRat v).toInt := Int.mul_nonneg (by omega) (by omega)
  have hm2 : (-x).toInt * (fRat v).toInt ≤ 600 * 20 := Int.mul_le_mul (by omega) (by omega) (by omega) (by omega)
  have m : ((-x) * fRat v).toInt = (-x).toInt * (fRat v).toInt := mul_toI (by omega) (by omega)
  have q : (fGro x v).toInt = (-x).toInt * (fRat v).toInt / (fDen v).toInt := by
    unfold fGro
    rw [div_toI (by rw [m]; exact hm1) (by omega), m]
  have h1 : (-x).toInt * (fRat v).toInt / (fDen v).toInt ≤ (-x).toInt * (fRat v).toInt := Int.ediv_le_self _ hm1
  have h0 : 0 ≤ (-x).toInt * (fRat v).toInt / (fDen v).toInt := Int.ediv_nonneg hm1 (by omega)
  rw [q]
  omega
theorem thk_in {x : Int32} {v : Nat → Int32} (h : okQ v) (hx : -600 ≤ x.toInt ∧ x.toInt ≤ 300) : 0 ≤ (fThk x v).toInt ∧ (fThk x v).toInt ≤ 3000 := by
  have h1 := h.1
  unfold fThk
  simp only [fa_le, fa_lt, show (0 : Int32).toInt = 0 from rfl, show (3000 : Int32).toInt = 3000 from rfl]
  by_cases c : 0 ≤ x.toInt
  · rw [if_pos c]
    have d : (x / 10).toInt = x.toInt / 10 := div_toI c (by decide)
    have e : (x / 10 + 1).toInt = x.toInt / 10 + 1 := by
      rw [Int32.toInt_add, d, show (1 : Int32).toInt = 1 from rfl, fb_bmod0 (by omega) (by omega)]
    have s : (v 1 - (x / 10 + 1)).toInt = (v 1).toInt - (x.toInt / 10 + 1) := by
      rw [Int32.toInt_sub, e, fb_bmod0 (by omega) (by omega)]
    by_cases c2 : 0 < (v 1 - (x / 10 + 1)).toInt
    · rw [if_pos c2, s]
      omega
    · rw [if_neg c2]
      decide
  · rw [if_neg c]
    have g := gro_in h (x := x) ⟨hx.1, by omega⟩
    have s : (v 1 + fGro x v).toInt = (v 1).toInt + (fGro x v).toInt := by
      rw [Int32.toInt_add, fb_bmod0 (by omega) (by omega)]
    by_cases c2 : (v 1 + fGro x v).toInt < 3000
    · rw [if_pos c2, s]
      omega
    · rw [if_neg c2]
      decide
theorem okCe_hea {x : Int32} {v : Nat → Int32} (h : okCe v) : okCe (fHea x v) := by
  unfold fHea
  by_cases h3 : v 0 = 3
  · rw [if_pos h3]
    by_cases c : -100 ≤ x
    · rw [if_pos c]; exact h
    · rw [if_neg c]
      have h6 := h.2.2.2.2 h3
      have e : (v 6 + 1).toInt = (v 6).toInt + 1 := by
        rw [Int32.toInt_add, show (1 : Int32).toInt = 1 from rfl, fb_bmod0 (by omega) (by omega)]
      by_cases c2 : v 6 + 1 = 24
      · rw [if_pos c2]
        refine okCe_5 ?_
        unfold okCe at h ⊢
        unfold fBec
        rw [if_neg (by simp [upd, h3])]
        simp [upd]
        exact ⟨h.2.1, h.2.2.1⟩
      · rw [if_neg c2]
        have : (v 6 + 1).toInt ≠ 24 := fun q => c2 (by rw [fa_eq, q]; rfl)
        unfold okCe at h ⊢
        simp only [upd, if_neg (show ¬ (0 : Nat) = 6 by decide), if_neg (show ¬ (1 : Nat) = 6 by decide), if_neg (show ¬ (2 : Nat) = 6 by decide), if_neg (show ¬ (7 : Nat) = 6 by decide), if_true]
        exact ⟨h.1, h.2.1, h.2.2.1, h.2.2.2.1, fun _ => by omega⟩
  · rw [if_neg h3]; exact h
theorem okCe_pas {x : Int32} {v : Nat → Int32} (h : okCe v) (hx : -600 ≤ x.toInt ∧ x.toInt ≤ 300) : okCe (fPas x v) := by
  unfold fPas
  split
  · exact h
  · split
    · exact okCe_hea h
    · exact okCe_hea (okCe_1 h (thk_in (okQ_of h) hx))
theorem C_pass59 (c : F3) (i : Nat) (x : Int32) (h : okQ (c 1 i)) : ∃ c', S_X0_passHour_59 c i x = some c' ∧ Cupd c c' i (fHea x (c 1 i)) := by
  unfold S_X0_passHour_59 fHea S_X0_healOneHour
  by_cases h3 : c 1 i 0 = 3
  · rw [if_pos h3, if_pos h3]
    by_cases c0 : -100 ≤ x
    · rw [if_pos c0, if_pos c0]
      exact ⟨_, rfl, Cupd_rf c i⟩
    · rw [if_neg c0, if_neg c0, mlt]
      have h6 := h.2.2 h3
      have e : (c 1 i 6 + 1).toInt = (c 1 i 6).toInt + 1 := by
        rw [Int32.toInt_add, show (1 : Int32).toInt = 1 from rfl, fb_bmod0 (by omega) (by omega)]
      have u := Cupd_up c i 6 (c 1 i 6 + 1)
      have u6 : up c 1 i 6 (c 1 i 6 + 1) 1 i 6 = c 1 i 6 + 1 := by simp [up]
      obtain ⟨c1, g1, g2⟩ := C_become (up c 1 i 6 (c 1 i 6 + 1)) i 0
      rw [u.1] at g2
      rw [u6, g1, mob, mlt]
      by_cases c2 : c 1 i 6 + 1 = 24
      · rw [if_neg (by rw [c2]; decide), if_pos c2, mob]
        exact ⟨_, rfl, (u.tr g2).up 5 0⟩
      · have : (c 1 i 6 + 1).toInt ≠ 24 := fun q => c2 (by rw [fa_eq, q]; rfl)
        rw [if_pos (by rw [fa_lt, show (24 : Int32).toInt = 24 from rfl]; omega), if_neg c2, mob]
        exact ⟨_, rfl, u⟩
  · rw [if_neg h3, if_neg h3]
    exact ⟨_, rfl, Cupd_rf c i⟩
theorem R_grow187 (r : F3) {i : Nat} (hi : i < 10) (x : Int32) : ∃ r', S_X7_grows_187 r (nI i) x = some r' ∧ Rupd r r' i (fHea x (rs r i)) := by
  have ho := okI_nI hi (by decide)
  unfold S_X7_grows_187 fHea
  rw [if_pos ho, nIc hi, show r 30 0 i = rs r i 0 from rfl, show r 36 0 i = rs r i 6 from rfl]
  by_cases h3 : rs r i 0 = 3
  · rw [if_pos h3, if_pos h3]
    by_cases c0 : -100 ≤ x
    · rw [if_pos c0, if_pos c0]
      exact ⟨_, rfl, Rupd_rf r i⟩
    · rw [if_neg c0, if_neg c0, mlt]
      have u : Rupd r (up r 36 0 i (rs r i 6 + 1)) i (upd (rs r i) 6 (rs r i 6 + 1)) := Rupd_up r i 6 (rs r i 6 + 1) (by decide)
      have u6 : up r 36 0 i (rs r i 6 + 1) 36 0 i = rs r i 6 + 1 := by simp [up]
      obtain ⟨r1, g1, g2⟩ := R_becomes (up r 36 0 i (rs r i 6 + 1)) hi 0
      rw [u.1] at g2
      rw [u6, g1, mob, mlt]
      by_cases c2 : rs r i 6 + 1 = 24
      · rw [if_pos c2, if_pos c2]
        exact ⟨_, rfl, (u.tr g2).up 5 0 (by decide)⟩
      · rw [if_neg c2, if_neg c2]
        exact ⟨_, rfl, u⟩
  · rw [if_neg h3, if_neg h3]
    exact ⟨_, rfl, Rupd_rf r i⟩
theorem C_growth (c : F3) (i : Nat) (x : Int32) (h : okQ (c 1 i)) : S_X0_growth c i x = some (fGro x (c 1 i), c) := by
  have d := den_in h
  have k : ∀ rt s1 : Int32, fRat (c 1 i) = rt → fDen (c 1 i) = (100 + c 1 i 1 / 10) + s1 → S_X0_growth_74 c (100 + c 1 i 1 / 10) s1 x rt = some (fGro x (c 1 i), c) := by
    intro rt s1 e1 e2
    unfold S_X0_growth_74 fGro
    rw [← e2, e1, if_neg (by rw [fa_le, show (0 : Int32).toInt = 0 from rfl]; omega), if_pos (fun q => by rw [q] at d; exact absurd d.1 (by decide))]
  unfold S_X0_growth S_X0_growth_16 S_X0_growth_21 S_X0_growth_49
  by_cases h1 : c 1 i 0 = 1
  · have n2 : ¬ c 1 i 0 = 2 := by rw [h1]; decide
    have n3 : ¬ c 1 i 0 = 3 := by rw [h1]; decide
    rw [if_pos h1, if_neg n2, if_neg n3, if_neg (show ¬ (1 : Int32) = 0 by decide)]
    exact k 10 0 (by unfold fRat; rw [if_neg n2, if_neg n3]) (by unfold fDen; rw [if_pos (Or.inl h1)])
  · rw [if_neg h1]
    by_cases h2 : c 1 i 0 = 2
    · rw [if_pos h2, if_pos h2, if_neg (show ¬ (1 : Int32) = 0 by decide)]
      exact k 20 0 (by unfold fRat; rw [if_pos h2]) (by unfold fDen; rw [if_pos (Or.inr h2)])
    · have n12 : ¬ (c 1 i 0 = 1 ∨ c 1 i 0 = 2) := fun q => q.elim h1 h2
      rw [if_neg h2, if_neg h2, if_pos rfl, if_pos rfl]
      by_cases h3 : c 1 i 0 = 3
      · rw [if_pos h3]
        exact k 5 _ (by unfold fRat; rw [if_neg h2, if_pos h3]) (by unfold fDen; rw [if_neg n12])
      · rw [if_neg h3]
        exact k 10 _ (by unfold fRat; rw [if_neg h2, if_neg h3]) (by unfold fDen; rw [if_neg n12])
theorem C_pass (c : F3) (i : Nat) {x : Int32} (h : okQ (c 1 i)) (hx : -600 ≤ x.toInt ∧ x.toInt ≤ 300) : ∃ c', S_X0_passHour c i x = some c' ∧ Cupd c c' i (fPas x (c 1 i)) := by
  have fin : ∀ y : Int32, fThk x (c 1 i) = y → ∃ c', S_X0_passHour_59 (up c 1 i 1 y) i x = some c' ∧ Cupd c c' i (fHea x (upd (c 1 i) 1 (fThk x (c 1 i)))) := by
    intro y e
    have u := Cupd_up c i 1 y
    obtain ⟨c1, g1, g2⟩ := C_pass59 (up c 1 i 1 y) i x (by rw [u.1, ← e]; exact okQ_1 h (thk_in h hx))
    rw [u.1] at g2
    rw [e]
    exact ⟨c1, g1, u.tr g2⟩
  unfold S_X0_passHour fPas
  by_cases h4 : c 1 i 0 = 4
  · rw [if_pos h4, if_pos h4]
    exact ⟨_, rfl, Cupd_rf c i⟩
  rw [if_neg h4, if_neg h4]
  by_cases c0 : 0 ≤ x
  · rw [if_pos c0]
    by_cases c1 : x ≤ 0
    · have : x = 0 := by
        rw [fa_le] at c0 c1
        rw [fa_eq]
        omega
      rw [if_pos c1, if_pos this]
      exact C_pass59 c i x h
    · rw [if_neg c1, if_neg (show ¬ x = 0 from fun q => c1 (by rw [q]; exact Int32.le_refl _)), mlt]
      refine fin _ ?_
      unfold fThk
      rw [if_pos c0]
  · rw [if_neg c0, if_neg (show ¬ x = 0 from fun q => c0 (by rw [q]; exact Int32.le_refl _)), C_growth c i x h, mb2, mlt]
    refine fin _ ?_
    unfold fThk
    rw [if_neg c0]
theorem upd2 (v : Nat → Int32) (k : Nat) (a b : Int32) : upd (upd v k a) k b = upd v k b := by
  funext j
  simp only [upd]
  split <;> rfl
theorem R_grow (r : F3) {i : Nat} (hi : i < 10) {x : Int32} (h : okCe (rs r i)) (hx : -600 ≤ x.toInt ∧ x.toInt ≤ 300) : ∃ r', S_X7_grows r (nI i) x = some r' ∧ Rupd r r' i (fPas x (rs r i)) := by
  have ho := okI_nI hi (by decide)
  have fin : ∀ y z : Int32, fThk x (rs r i) = z → ∃ r', S_X7_grows_187 (up (up r 31 0 i y) 31 0 i z) (nI i) x = some r' ∧ Rupd r r' i (fHea x (upd (rs r i) 1 (fThk x (rs r i)))) := by
    intro y z e
    have u : Rupd r (up (up r 31 0 i y) 31 0 i z) i (upd (upd (rs r i) 1 y) 1 z) := (Rupd_up r i 1 y (by decide)).up 1 z (by decide)
    rw [upd2] at u
    obtain ⟨r1, g1, g2⟩ := R_grow187 (up (up r 31 0 i y) 31 0 i z) hi x
    rw [u.1] at g2
    rw [e]
    exact ⟨r1, g1, u.tr g2⟩
  have u31 : ∀ y, up r 31 0 i y 31 0 i = y := fun y => by simp [up]
  unfold S_X7_grows fPas
  rw [if_pos ho, nIc hi, show r 30 0 i = rs r i 0 from rfl, show r 31 0 i = rs r i 1 from rfl]
  by_cases h4 : rs r i 0 = 4
  · rw [if_pos h4, if_pos h4]
    exact ⟨_, rfl, Rupd_rf r i⟩
  rw [if_neg h4, if_neg h4]
  by_cases c0 : 0 ≤ x
  · rw [if_pos c0]
    by_cases c1 : x ≤ 0
    · have : x = 0 := by
        rw [fa_le] at c0 c1
        rw [fa_eq]
        omega
      rw [if_pos c1, if_pos this]
      exact R_grow187 r hi x
    · rw [if_neg c1, if_neg (show ¬ x = 0 from fun q => c1 (by rw [q]; exact Int32.le_refl _)), mlt, u31]
      unfold S_X7_grows_186
      simp only [ho, if_true, nIc hi, mlt]
      have ht : fThk x (rs r i) = if 0 < rs r i 1 - (x / 10 + 1) then rs r i 1 - (x / 10 + 1) else 0 := by
        unfold fThk
        rw [if_pos c0]
      by_cases q : 0 ≤ rs r i 1 - (x / 10 + 1)
      · rw [if_pos q]
        refine fin _ _ ?_
        rw [ht]
        by_cases q2 : 0 < rs r i 1 - (x / 10 + 1)
        · rw [if_pos q2]
        · rw [if_neg q2, fa_eq]
          rw [fa_le] at q
          rw [fa_lt] at q2
          omega
      · rw [if_neg q]
        refine fin _ _ ?_
        rw [ht, if_neg (fun q2 => q (Int32.le_of_lt q2))]
  · rw [if_neg c0, if_neg (show ¬ x = 0 from fun q => c0 (by rw [q]; exact Int32.le_refl _))]
    have d := den_in (okQ_of h)
    have ht : fThk x (rs r i) = if rs r i 1 + fGro x (rs r i) < 3000 then rs r i 1 + fGro x (rs r i) else 3000 := by
      unfold fThk
      rw [if_neg c0]
    have g77 : ∀ rt s0 : Int32, fRat (rs r i) = rt → fDen (rs r i) = (100 + rs r i 1 / 10) + 3 * s0 → ∃ r', S_X7_grows_77 r s0 (nI i) x rt = some r' ∧ Rupd r r' i (fHea x (upd (rs r i) 1 (fThk x (rs r i)))) := by
      intro rt s0 e1 e2
      unfold S_X7_grows_77
      rw [if_pos ho, nIc hi, show r 31 0 i = rs r i 1 from rfl, ← e2, if_pos (fun q => by rw [q] at d; exact absurd d.1 (by decide)), mlt, u31, ← e1, show ((-x) * fRat (rs r i)) / fDen (rs r i) = fGro x (rs r i) from rfl]
      unfold S_X7_grows_139
      simp only [ho, if_true, nIc hi, mlt]
      by_cases q : rs r i 1 + fGro x (rs r i) ≤ 3000
      · rw [if_pos q]
        refine fin _ _ ?_
        rw [ht]
        by_cases q2 : rs r i 1 + fGro x (rs r i) < 3000
        · rw [if_pos q2]
        · rw [if_neg q2, fa_eq]
          rw [fa_le] at q
          rw [fa_lt] at q2
          omega
      · rw [if_neg q]
        refine fin _ _ ?_
        rw [ht, if_neg (fun q2 => q (Int32.le_of_lt q2))]
    have z3 : ∀ a : Int32, a + 3 * 0 = a + 0 := fun a => by rw [Int32.mul_zero]
    have g46 : ∀ rt : Int32, fRat (rs r i) = rt → ∃ r', S_X7_grows_46 r rt (nI i) x = some r' ∧ Rupd r r' i (fHea x (upd (rs r i) 1 (fThk x (rs r i)))) := by
      intro rt e
      unfold S_X7_grows_46 S_X7_grows_67
      rw [if_pos ho, nIc hi, show r 30 0 i = rs r i 0 from rfl, show r 32 0 i = rs r i 2 from rfl]
      by_cases h1 : rs r i 0 = 1
      · rw [if_pos h1]
        exact g77 rt 0 e (by unfold fDen; rw [if_pos (Or.inl h1), z3])
      · rw [if_neg h1]
        by_cases h2 : rs r i 0 = 2
        · rw [if_pos h2]
          exact g77 rt 0 e (by unfold fDen; rw [if_pos (Or.inr h2), z3])
        · rw [if_neg h2]
          exact g77 rt _ e (by unfold fDen; rw [if_neg (fun q => q.elim h1 h2)])
    by_cases h2 : rs r i 0 = 2
    · rw [if_pos h2]
      exact g46 20 (by unfold fRat; rw [if_pos h2])
    · rw [if_neg h2]
      by_cases h3 : rs r i 0 = 3
      · rw [if_pos h3]
        exact g46 5 (by unfold fRat; rw [if_neg h2, if_pos h3])
      · rw [if_neg h3]
        exact g46 10 (by unfold fRat; rw [if_neg h2, if_neg h3])
