/-! the hour: no method of the class but run changes it -/
def eqH (f g : F3) : Prop := f 0 0 15 = g 0 0 15
theorem eqH_rf (f : F3) : eqH f f := rfl
theorem eqH_tr {f g h : F3} (a : eqH f g) (b : eqH g h) : eqH f h := a.trans b
theorem eqH_up {f g h : F3} {r i k : Nat} {x : Int32} (e : h = up f r i k x) (hr : ¬ (0 = r ∧ 0 = i ∧ 15 = k)) (E : eqH f g) : eqH h g := by
  rw [e]
  unfold eqH up
  rw [if_neg hr]
  exact E
theorem eqH_cp {f g h : F3} {a b c : Int32} (e : h = cpy11 f a b c) (E : eqH f g) : eqH h g := by
  rw [e]
  unfold eqH cpy11
  rw [if_neg (fun q => by omega)]
  exact E
set_option maxRecDepth 20000 in
theorem H_J9_floorMod_7cf53 {f f' : F3} {rv : Int32} {x0 : Int32} {x1 : Int32} (h : S_J9_floorMod_7cf53 f x0 x1 = some (rv, f')) : eqH f' f := by
  rw [S_J9_floorMod_7cf53] at h
  have E : eqH f f := eqH_rf f
  obtain ⟨_, h⟩ := mm_if h
  by_cases c1 : 0 ≤ (x0 ^^^ x1)
  · rw [if_pos c1] at h
    obtain ⟨rfl, rfl⟩ := mm_pr h
    exact E
  · rw [if_neg c1] at h
    by_cases c2 : (x0 - x0 / x1 * x1) = 0
    · rw [if_pos c2] at h
      obtain ⟨rfl, rfl⟩ := mm_pr h
      exact E
    · rw [if_neg c2] at h
      obtain ⟨rfl, rfl⟩ := mm_pr h
      exact E
set_option maxRecDepth 20000 in
theorem H_X0_become_13 {f f' : F3} {i0 : Nat} {x1 : Int32} (h : S_X0_become_13 f i0 x1 = some f') : eqH f' f := by
  rw [S_X0_become_13] at h
  have E : eqH f f := eqH_rf f
  obtain ⟨f3, ef3, h⟩ := mm_lt h
  have E := eqH_up ef3 (by simp) E
  obtain rfl := mm_p1 h
  exact E
set_option maxRecDepth 20000 in
theorem H_X0_become {f f' : F3} {i0 : Nat} {x1 : Int32} (h : S_X0_become f i0 x1 = some f') : eqH f' f := by
  rw [S_X0_become] at h
  have E : eqH f f := eqH_rf f
  by_cases c1 : (f 1 i0 0) = x1
  · rw [if_pos c1] at h
    exact eqH_tr (H_X0_become_13  h) E
  · rw [if_neg c1] at h
    obtain ⟨f2, ef2, h⟩ := mm_lt h
    have E := eqH_up ef2 (by simp) E
    exact eqH_tr (H_X0_become_13  h) E
set_option maxRecDepth 20000 in
theorem H_X0_crack {f f' : F3} {i0 : Nat} (h : S_X0_crack f i0 = some f') : eqH f' f := by
  rw [S_X0_crack] at h
  have E : eqH f f := eqH_rf f
  obtain ⟨f1, ef1, h⟩ := mm_bind h
  have E := eqH_tr (H_X0_become ef1) E
  obtain ⟨f2, ef2, h⟩ := mm_lt h
  have E := eqH_up ef2 (by simp) E
  obtain ⟨f3, ef3, h⟩ := mm_lt h
  have E := eqH_up ef3 (by simp) E
  obtain rfl := mm_p1 h
  exact E
set_option maxRecDepth 20000 in
theorem H_X0_growth_74 {f f' : F3} {rv : Int32} {s0 : Int32} {s1 : Int32} {x1 : Int32} {x3 : Int32} (h : S_X0_growth_74 f s0 s1 x1 x3 = some (rv, f')) : eqH f' f := by
  rw [S_X0_growth_74] at h
  have E : eqH f f := eqH_rf f
  by_cases c1 : (s0 + s1) ≤ 0
  · rw [if_pos c1] at h
    obtain ⟨rfl, rfl⟩ := mm_pr h
    exact E
  · rw [if_neg c1] at h
    obtain ⟨_, h⟩ := mm_if h
    obtain ⟨rfl, rfl⟩ := mm_pr h
    exact E
set_option maxRecDepth 20000 in
theorem H_X0_growth_49 {f f' : F3} {rv : Int32} {s0 : Int32} {i0 : Nat} {x1 : Int32} {x2 : Int32} (h : S_X0_growth_49 f s0 i0 x1 x2 = some (rv, f')) : eqH f' f := by
  rw [S_X0_growth_49] at h
  have E : eqH f f := eqH_rf f
  by_cases c1 : x2 = 0
  · rw [if_pos c1] at h
    exact eqH_tr (H_X0_growth_74  h) E
  · rw [if_neg c1] at h
    exact eqH_tr (H_X0_growth_74  h) E
set_option maxRecDepth 20000 in
theorem H_X0_growth_21 {f f' : F3} {rv : Int32} {s0 : Int32} {i0 : Nat} {x1 : Int32} (h : S_X0_growth_21 f s0 i0 x1 = some (rv, f')) : eqH f' f := by
  rw [S_X0_growth_21] at h
  have E : eqH f f := eqH_rf f
  by_cases c1 : (f 1 i0 0) = 2
  · rw [if_pos c1] at h
    exact eqH_tr (H_X0_growth_49  h) E
  · rw [if_neg c1] at h
    by_cases c2 : (f 1 i0 0) = 3
    · rw [if_pos c2] at h
      exact eqH_tr (H_X0_growth_49  h) E
    · rw [if_neg c2] at h
      exact eqH_tr (H_X0_growth_49  h) E
set_option maxRecDepth 20000 in
theorem H_X0_growth_16 {f f' : F3} {rv : Int32} {i0 : Nat} {x1 : Int32} (h : S_X0_growth_16 f i0 x1 = some (rv, f')) : eqH f' f := by
  rw [S_X0_growth_16] at h
  have E : eqH f f := eqH_rf f
  exact eqH_tr (H_X0_growth_21  h) E
set_option maxRecDepth 20000 in
theorem H_X0_growth {f f' : F3} {rv : Int32} {i0 : Nat} {x1 : Int32} (h : S_X0_growth f i0 x1 = some (rv, f')) : eqH f' f := by
  rw [S_X0_growth] at h
  have E : eqH f f := eqH_rf f
  by_cases c1 : (f 1 i0 0) = 1
  · rw [if_pos c1] at h
    exact eqH_tr (H_X0_growth_16  h) E
  · rw [if_neg c1] at h
    by_cases c2 : (f 1 i0 0) = 2
    · rw [if_pos c2] at h
      exact eqH_tr (H_X0_growth_16  h) E
    · rw [if_neg c2] at h
      exact eqH_tr (H_X0_growth_21  h) E
set_option maxRecDepth 20000 in
theorem H_X0_healOneHour {f f' : F3} {i0 : Nat} (h : S_X0_healOneHour f i0 = some f') : eqH f' f := by
  rw [S_X0_healOneHour] at h
  have E : eqH f f := eqH_rf f
  obtain ⟨f1, ef1, h⟩ := mm_lt h
  have E := eqH_up ef1 (by simp) E
  by_cases c1 : (f1 1 i0 6) < 24
  · rw [if_pos c1] at h
    obtain rfl := mm_p1 h
    exact E
  · rw [if_neg c1] at h
    obtain ⟨f3, ef3, h⟩ := mm_bind h
    have E := eqH_tr (H_X0_become ef3) E
    obtain ⟨f4, ef4, h⟩ := mm_lt h
    have E := eqH_up ef4 (by simp) E
    obtain rfl := mm_p1 h
    exact E
set_option maxRecDepth 20000 in
theorem H_X0_holdsUp_25 {f f' : F3} {rv : Int32} {s0 : Int32} {i0 : Nat} (h : S_X0_holdsUp_25 f s0 i0 = some (rv, f')) : eqH f' f := by
  rw [S_X0_holdsUp_25] at h
  have E : eqH f f := eqH_rf f
  by_cases c1 : (((f 1 i0 1) * (f 1 i0 1)) / 10000) < s0
  · rw [if_pos c1] at h
    obtain ⟨rfl, rfl⟩ := mm_pr h
    exact E
  · rw [if_neg c1] at h
    obtain ⟨rfl, rfl⟩ := mm_pr h
    exact E
set_option maxRecDepth 20000 in
theorem H_X0_holdsUp {f f' : F3} {rv : Int32} {i0 : Nat} {x1 : Int32} (h : S_X0_holdsUp f i0 x1 = some (rv, f')) : eqH f' f := by
  rw [S_X0_holdsUp] at h
  have E : eqH f f := eqH_rf f
  by_cases c1 : (f 1 i0 0) = 4
  · rw [if_pos c1] at h
    obtain ⟨rfl, rfl⟩ := mm_pr h
    exact E
  · rw [if_neg c1] at h
    by_cases c2 : (f 1 i0 0) = 3
    · rw [if_pos c2] at h
      exact eqH_tr (H_X0_holdsUp_25  h) E
    · rw [if_neg c2] at h
      exact eqH_tr (H_X0_holdsUp_25  h) E
set_option maxRecDepth 20000 in
theorem H_X0_lastCome {f f' : F3} {rv : Int32} {i0 : Nat} {x1 : Int32} (h : S_X0_lastCome f i0 x1 = some (rv, f')) : eqH f' f := by
  rw [S_X0_lastCome] at h
  have E : eqH f f := eqH_rf f
  by_cases c1 : x1 = 0
  · rw [if_pos c1] at h
    obtain ⟨rfl, rfl⟩ := mm_pr h
    exact E
  · rw [if_neg c1] at h
    obtain ⟨rfl, rfl⟩ := mm_pr h
    exact E
set_option maxRecDepth 20000 in
theorem H_X0_lay {f f' : F3} {i0 : Nat} {x1 : Int32} {x2 : Int32} {x3 : Int32} (h : S_X0_lay f i0 x1 x2 x3 = some f') : eqH f' f := by
  rw [S_X0_lay] at h
  have E : eqH f f := eqH_rf f
  obtain ⟨f1, ef1, h⟩ := mm_lt h
  have E := eqH_up ef1 (by simp) E
  obtain ⟨f2, ef2, h⟩ := mm_lt h
  have E := eqH_up ef2 (by simp) E
  obtain ⟨f3, ef3, h⟩ := mm_lt h
  have E := eqH_up ef3 (by simp) E
  obtain rfl := mm_p1 h
  exact E
set_option maxRecDepth 20000 in
theorem H_X0_noteCome {f f' : F3} {i0 : Nat} {x1 : Int32} {x2 : Int32} (h : S_X0_noteCome f i0 x1 x2 = some f') : eqH f' f := by
  rw [S_X0_noteCome] at h
  have E : eqH f f := eqH_rf f
  by_cases c1 : x1 = 0
  · rw [if_pos c1] at h
    obtain ⟨f3, ef3, h⟩ := mm_lt h
    have E := eqH_up ef3 (by simp) E
    obtain rfl := mm_p1 h
    exact E
  · rw [if_neg c1] at h
    obtain ⟨f2, ef2, h⟩ := mm_lt h
    have E := eqH_up ef2 (by simp) E
    obtain rfl := mm_p1 h
    exact E
set_option maxRecDepth 20000 in
theorem H_X0_passHour_59 {f f' : F3} {i0 : Nat} {x1 : Int32} (h : S_X0_passHour_59 f i0 x1 = some f') : eqH f' f := by
  rw [S_X0_passHour_59] at h
  have E : eqH f f := eqH_rf f
  by_cases c1 : (f 1 i0 0) = 3
  · rw [if_pos c1] at h
    by_cases c2 : (-100) ≤ x1
    · rw [if_pos c2] at h
      obtain rfl := mm_p1 h
      exact E
    · rw [if_neg c2] at h
      obtain ⟨f10, ef10, h⟩ := mm_bind h
      have E := eqH_tr (H_X0_healOneHour ef10) E
      obtain rfl := mm_p1 h
      exact E
  · rw [if_neg c1] at h
    obtain rfl := mm_p1 h
    exact E
set_option maxRecDepth 20000 in
theorem H_X0_passHour {f f' : F3} {i0 : Nat} {x1 : Int32} (h : S_X0_passHour f i0 x1 = some f') : eqH f' f := by
  rw [S_X0_passHour] at h
  have E : eqH f f := eqH_rf f
  by_cases c1 : (f 1 i0 0) = 4
  · rw [if_pos c1] at h
    obtain rfl := mm_p1 h
    exact E
  · rw [if_neg c1] at h
    by_cases c2 : 0 ≤ x1
    · rw [if_pos c2] at h
      by_cases c3 : x1 ≤ 0
      · rw [if_pos c3] at h
        exact eqH_tr (H_X0_passHour_59  h) E
      · rw [if_neg c3] at h
        obtain ⟨f4, ef4, h⟩ := mm_lt h
        have E := eqH_up ef4 (by simp) E
        exact eqH_tr (H_X0_passHour_59  h) E
    · rw [if_neg c2] at h
      obtain ⟨r6, f5, ef5, h⟩ := mm_b2e h
      have E := eqH_tr (H_X0_growth ef5) E
      obtain ⟨f7, ef7, h⟩ := mm_lt h
      have E := eqH_up ef7 (by simp) E
      exact eqH_tr (H_X0_passHour_59  h) E
set_option maxRecDepth 20000 in
theorem H_X0_takeAfter {f f' : F3} {i0 : Nat} {i1 : Nat} (h : S_X0_takeAfter f i0 i1 = some f') : eqH f' f := by
  rw [S_X0_takeAfter] at h
  have E : eqH f f := eqH_rf f
  obtain ⟨f1, ef1, h⟩ := mm_lt h
  have E := eqH_up ef1 (by simp) E
  obtain ⟨f2, ef2, h⟩ := mm_lt h
  have E := eqH_up ef2 (by simp) E
  obtain ⟨f3, ef3, h⟩ := mm_lt h
  have E := eqH_up ef3 (by simp) E
  obtain ⟨f4, ef4, h⟩ := mm_lt h
  have E := eqH_up ef4 (by simp) E
  obtain rfl := mm_p1 h
  exact E
set_option maxRecDepth 20000 in
theorem H_X0_takeSnow_49 {f f' : F3} {rv : Int32} {i0 : Nat} (h : S_X0_takeSnow_49 f i0 = some (rv, f')) : eqH f' f := by
  rw [S_X0_takeSnow_49] at h
  have E : eqH f f := eqH_rf f
  obtain ⟨f6, ef6, h⟩ := mm_bind h
  have E := eqH_tr (H_X0_become ef6) E
  obtain ⟨rfl, rfl⟩ := mm_pr h
  exact E
set_option maxRecDepth 20000 in
theorem H_X0_takeSnow {f f' : F3} {rv : Int32} {i0 : Nat} {x1 : Int32} (h : S_X0_takeSnow f i0 x1 = some (rv, f')) : eqH f' f := by
  rw [S_X0_takeSnow] at h
  have E : eqH f f := eqH_rf f
  by_cases c1 : (f 1 i0 0) = 4
  · rw [if_pos c1] at h
    obtain ⟨rfl, rfl⟩ := mm_pr h
    exact E
  · rw [if_neg c1] at h
    obtain ⟨f2, ef2, h⟩ := mm_lt h
    have E := eqH_up ef2 (by simp) E
    by_cases c2 : (f2 1 i0 2) ≤ 0
    · rw [if_pos c2] at h
      obtain ⟨rfl, rfl⟩ := mm_pr h
      exact E
    · rw [if_neg c2] at h
      by_cases c3 : (f2 1 i0 0) = 1
      · rw [if_pos c3] at h
        exact eqH_tr (H_X0_takeSnow_49  h) E
      · rw [if_neg c3] at h
        by_cases c4 : (f2 1 i0 0) = 2
        · rw [if_pos c4] at h
          exact eqH_tr (H_X0_takeSnow_49  h) E
        · rw [if_neg c4] at h
          obtain ⟨rfl, rfl⟩ := mm_pr h
          exact E
set_option maxRecDepth 20000 in
theorem H_X0_wearDown {f f' : F3} {i0 : Nat} {x1 : Int32} (h : S_X0_wearDown f i0 x1 = some f') : eqH f' f := by
  rw [S_X0_wearDown] at h
  have E : eqH f f := eqH_rf f
  obtain ⟨f1, ef1, h⟩ := mm_lt h
  have E := eqH_up ef1 (by simp) E
  by_cases c1 : (f1 1 i0 0) = 4
  · rw [if_pos c1] at h
    obtain rfl := mm_p1 h
    exact E
  · rw [if_neg c1] at h
    by_cases c2 : (f1 1 i0 5) < (f1 1 i0 1)
    · rw [if_pos c2] at h
      obtain rfl := mm_p1 h
      exact E
    · rw [if_neg c2] at h
      obtain ⟨f4, ef4, h⟩ := mm_bind h
      have E := eqH_tr (H_X0_crack ef4) E
      obtain rfl := mm_p1 h
      exact E
set_option maxRecDepth 20000 in
theorem H_X1_end {f f' : F3} {i0 : Nat} {x1 : Int32} {x2 : Int32} (h : S_X1_end f i0 x1 x2 = some f') : eqH f' f := by
  rw [S_X1_end] at h
  have E : eqH f f := eqH_rf f
  obtain ⟨f1, ef1, h⟩ := mm_lt h
  have E := eqH_up ef1 (by simp) E
  obtain ⟨f2, ef2, h⟩ := mm_lt h
  have E := eqH_up ef2 (by simp) E
  obtain ⟨f3, ef3, h⟩ := mm_lt h
  have E := eqH_up ef3 (by simp) E
  obtain ⟨f4, ef4, h⟩ := mm_lt h
  have E := eqH_up ef4 (by simp) E
  obtain rfl := mm_p1 h
  exact E
set_option maxRecDepth 20000 in
theorem H_X1_enter {f f' : F3} {i0 : Nat} {x1 : Int32} (h : S_X1_enter f i0 x1 = some f') : eqH f' f := by
  rw [S_X1_enter] at h
  have E : eqH f f := eqH_rf f
  obtain ⟨f1, ef1, h⟩ := mm_lt h
  have E := eqH_up ef1 (by simp) E
  obtain ⟨f2, ef2, h⟩ := mm_lt h
  have E := eqH_up ef2 (by simp) E
  obtain ⟨f3, ef3, h⟩ := mm_lt h
  have E := eqH_up ef3 (by simp) E
  obtain rfl := mm_p1 h
  exact E
set_option maxRecDepth 20000 in
theorem H_X2_applies_175 {f f' : F3} {rv : Int32} {k23 : F3 → Nat → Int32 → Int32 → Option (Int32 × F3)} (hk23 : ∀ (f : F3) (a0 : Nat) (a1 : Int32) (a2 : Int32), k23 f a0 a1 a2 = some (rv, f') → eqH f' f) {s0 : Int32} {s1 : Int32} {i0 : Nat} {x4 : Int32} (h : S_X2_applies_175 k23 f s0 s1 i0 x4 = some (rv, f')) : eqH f' f := by
  rw [S_X2_applies_175] at h
  have E : eqH f f := eqH_rf f
  exact eqH_tr (hk23 _ _ _ _ h) E
set_option maxRecDepth 20000 in
theorem H_X2_applies_162 {f f' : F3} {rv : Int32} {k23 : F3 → Nat → Int32 → Int32 → Option (Int32 × F3)} (hk23 : ∀ (f : F3) (a0 : Nat) (a1 : Int32) (a2 : Int32), k23 f a0 a1 a2 = some (rv, f') → eqH f' f) {s0 : Int32} {i0 : Nat} {x3 : Int32} {x4 : Int32} (h : S_X2_applies_162 k23 f s0 i0 x3 x4 = some (rv, f')) : eqH f' f := by
  rw [S_X2_applies_162] at h
  have E : eqH f f := eqH_rf f
  by_cases c1 : s0 = 0
  · rw [if_pos c1] at h
    exact eqH_tr (H_X2_applies_175 hk23  h) E
  · rw [if_neg c1] at h
    exact eqH_tr (H_X2_applies_175 hk23  h) E
set_option maxRecDepth 20000 in
theorem H_X2_applies_79 {f f' : F3} {rv : Int32} {k23 : F3 → Nat → Int32 → Int32 → Option (Int32 × F3)} (hk23 : ∀ (f : F3) (a0 : Nat) (a1 : Int32) (a2 : Int32), k23 f a0 a1 a2 = some (rv, f') → eqH f' f) {s0 : Int32} {i0 : Nat} {x3 : Int32} {x4 : Int32} (h : S_X2_applies_79 k23 f s0 i0 x3 x4 = some (rv, f')) : eqH f' f := by
  rw [S_X2_applies_79] at h
  have E : eqH f f := eqH_rf f
  obtain ⟨_, h⟩ := mm_if h
  by_cases c1 : (f 17 i0 x4.toNatClampNeg) = 61
  · rw [if_pos c1] at h
    by_cases c2 : s0 = (f 18 i0 x4.toNatClampNeg)
    · rw [if_pos c2] at h
      exact eqH_tr (H_X2_applies_162 hk23  h) E
    · rw [if_neg c2] at h
      exact eqH_tr (H_X2_applies_162 hk23  h) E
  · rw [if_neg c1] at h
    by_cases c3 : (f 17 i0 x4.toNatClampNeg) = 60
    · rw [if_pos c3] at h
      by_cases c4 : (f 18 i0 x4.toNatClampNeg) ≤ s0
      · rw [if_pos c4] at h
        exact eqH_tr (H_X2_applies_162 hk23  h) E
      · rw [if_neg c4] at h
        exact eqH_tr (H_X2_applies_162 hk23  h) E
    · rw [if_neg c3] at h
      by_cases c5 : s0 ≤ (f 18 i0 x4.toNatClampNeg)
      · rw [if_pos c5] at h
        exact eqH_tr (H_X2_applies_162 hk23  h) E
      · rw [if_neg c5] at h
        exact eqH_tr (H_X2_applies_162 hk23  h) E
set_option maxRecDepth 20000 in
theorem H_X2_applies_59 {f f' : F3} {rv : Int32} {k23 : F3 → Nat → Int32 → Int32 → Option (Int32 × F3)} (hk23 : ∀ (f : F3) (a0 : Nat) (a1 : Int32) (a2 : Int32), k23 f a0 a1 a2 = some (rv, f') → eqH f' f) {s0 : Int32} {i0 : Nat} {x3 : Int32} {x4 : Int32} (h : S_X2_applies_59 k23 f s0 i0 x3 x4 = some (rv, f')) : eqH f' f := by
  rw [S_X2_applies_59] at h
  have E : eqH f f := eqH_rf f
  by_cases c1 : s0 = 0
  · rw [if_pos c1] at h
    exact eqH_tr (H_X2_applies_79 hk23  h) E
  · rw [if_neg c1] at h
    obtain ⟨_, h⟩ := mm_if h
    obtain ⟨_, h⟩ := mm_if h
    exact eqH_tr (H_X2_applies_79 hk23  h) E
set_option maxRecDepth 20000 in
theorem H_X2_applies_58 {f f' : F3} {rv : Int32} {k23 : F3 → Nat → Int32 → Int32 → Option (Int32 × F3)} (hk23 : ∀ (f : F3) (a0 : Nat) (a1 : Int32) (a2 : Int32), k23 f a0 a1 a2 = some (rv, f') → eqH f' f) {i0 : Nat} {x3 : Int32} {x4 : Int32} (h : S_X2_applies_58 k23 f i0 x3 x4 = some (rv, f')) : eqH f' f := by
  rw [S_X2_applies_58] at h
  have E : eqH f f := eqH_rf f
  exact eqH_tr (H_X2_applies_59 hk23  h) E
set_option maxRecDepth 20000 in
theorem H_X2_applies_23 {f' : F3} {rv : Int32} : ∀ (n : Nat) {f : F3} {i0 : Nat} {x3 : Int32} {x4 : Int32}, S_X2_applies_23 n f i0 x3 x4 = some (rv, f') → eqH f' f := by
  intro n
  induction n with
  | zero => intro f i0 x3 x4 h; cases h
  | succ n ih =>
    intro f i0 x3 x4 h
    rw [S_X2_applies_23] at h
    have E : eqH f f := eqH_rf f
    by_cases c1 : (f 3 i0 5) ≤ x4
    · rw [if_pos c1] at h
      by_cases c2 : (f 3 i0 4) = 0
      · rw [if_pos c2] at h
        by_cases c3 : x3 = (f 3 i0 5)
        · rw [if_pos c3] at h
          obtain ⟨rfl, rfl⟩ := mm_pr h
          exact E
        · rw [if_neg c3] at h
          obtain ⟨rfl, rfl⟩ := mm_pr h
          exact E
      · rw [if_neg c2] at h
        by_cases c4 : x3 ≤ 0
        · rw [if_pos c4] at h
          obtain ⟨rfl, rfl⟩ := mm_pr h
          exact E
        · rw [if_neg c4] at h
          obtain ⟨rfl, rfl⟩ := mm_pr h
          exact E
    · rw [if_neg c1] at h
      obtain ⟨_, h⟩ := mm_if h
      by_cases c5 : (f 16 i0 x4.toNatClampNeg) < 0
      · rw [if_pos c5] at h
        exact eqH_tr (H_X2_applies_58 (fun _ _ _ _ h9 => ih h9)  h) E
      · rw [if_neg c5] at h
        by_cases c6 : 5 ≤ (f 16 i0 x4.toNatClampNeg)
        · rw [if_pos c6] at h
          exact eqH_tr (H_X2_applies_58 (fun _ _ _ _ h9 => ih h9)  h) E
        · rw [if_neg c6] at h
          exact eqH_tr (H_X2_applies_59 (fun _ _ _ _ h9 => ih h9)  h) E
set_option maxRecDepth 20000 in
theorem H_X2_applies {f f' : F3} {rv : Int32} {i0 : Nat} {x1 : Int32} (h : S_X2_applies f i0 x1 = some (rv, f')) : eqH f' f := by
  rw [S_X2_applies] at h
  have E : eqH f f := eqH_rf f
  by_cases c1 : x1 < (f 3 i0 2)
  · rw [if_pos c1] at h
    obtain ⟨rfl, rfl⟩ := mm_pr h
    exact E
  · rw [if_neg c1] at h
    by_cases c2 : x1 < (f 3 i0 3)
    · rw [if_pos c2] at h
      exact eqH_tr (H_X2_applies_23 _ h) E
    · rw [if_neg c2] at h
      obtain ⟨rfl, rfl⟩ := mm_pr h
      exact E
set_option maxRecDepth 20000 in
theorem H_X3_isAtEnd {f f' : F3} {rv : Int32} (h : S_X3_isAtEnd f = some (rv, f')) : eqH f' f := by
  rw [S_X3_isAtEnd] at h
  have E : eqH f f := eqH_rf f
  by_cases c1 : (f 4 0 1) < (f 5 0 1)
  · rw [if_pos c1] at h
    obtain ⟨rfl, rfl⟩ := mm_pr h
    exact E
  · rw [if_neg c1] at h
    obtain ⟨rfl, rfl⟩ := mm_pr h
    exact E
set_option maxRecDepth 20000 in
theorem H_X4_at {f f' : F3} {rv : Int32} {x1 : Int32} (h : S_X4_at f x1 = some (rv, f')) : eqH f' f := by
  rw [S_X4_at] at h
  have E : eqH f f := eqH_rf f
  by_cases c1 : x1 < 0
  · rw [if_pos c1] at h
    obtain ⟨rfl, rfl⟩ := mm_pr h
    exact E
  · rw [if_neg c1] at h
    by_cases c2 : (f 5 0 1) ≤ x1
    · rw [if_pos c2] at h
      obtain ⟨rfl, rfl⟩ := mm_pr h
      exact E
    · rw [if_neg c2] at h
      obtain ⟨_, h⟩ := mm_if h
      obtain ⟨rfl, rfl⟩ := mm_pr h
      exact E
set_option maxRecDepth 20000 in
theorem H_X3_takeWord_2 {f' : F3} {rv : Int32} : ∀ (n : Nat) {f : F3} {j1 : Nat} {x2 : Int32}, S_X3_takeWord_2 n f j1 x2 = some (rv, f') → eqH f' f := by
  intro n
  induction n with
  | zero => intro f j1 x2 h; cases h
  | succ n ih =>
    intro f j1 x2 h
    rw [S_X3_takeWord_2] at h
    have E : eqH f f := eqH_rf f
    by_cases c1 : (slenI j1) ≤ x2
    · rw [if_pos c1] at h
      obtain ⟨rfl, rfl⟩ := mm_pr h
      exact E
    · rw [if_neg c1] at h
      obtain ⟨r3, f2, ef2, h⟩ := mm_b2e h
      have E := eqH_tr (H_X4_at ef2) E
      obtain ⟨_, h⟩ := mm_if h
      by_cases c2 : r3 = (scharI j1 x2)
      · rw [if_pos c2] at h
        obtain ⟨f6, ef6, h⟩ := mm_lt h
        have E := eqH_up ef6 (by simp) E
        exact eqH_tr (ih h) E
      · rw [if_neg c2] at h
        obtain ⟨rfl, rfl⟩ := mm_pr h
        exact E
set_option maxRecDepth 20000 in
theorem H_X3_takeWord {f f' : F3} {rv : Int32} {j1 : Nat} (h : S_X3_takeWord f j1 = some (rv, f')) : eqH f' f := by
  rw [S_X3_takeWord] at h
  have E : eqH f f := eqH_rf f
  exact eqH_tr (H_X3_takeWord_2 _ h) E
set_option maxRecDepth 20000 in
theorem H_X3_takeField {f f' : F3} {rv : Int32} (h : S_X3_takeField f = some (rv, f')) : eqH f' f := by
  rw [S_X3_takeField] at h
  have E : eqH f f := eqH_rf f
  obtain ⟨r2, f1, ef1, h⟩ := mm_b2e h
  have E := eqH_tr (H_X4_at ef1) E
  by_cases c1 : r2 = 99
  · rw [if_pos c1] at h
    obtain ⟨r6, f5, ef5, h⟩ := mm_b2e h
    have E := eqH_tr (H_X3_takeWord ef5) E
    by_cases c2 : r6 = 0
    · rw [if_pos c2] at h
      obtain ⟨rfl, rfl⟩ := mm_pr h
      exact E
    · rw [if_neg c2] at h
      obtain ⟨rfl, rfl⟩ := mm_pr h
      exact E
  · rw [if_neg c1] at h
    by_cases c3 : r2 = 104
    · rw [if_pos c3] at h
      obtain ⟨r10, f9, ef9, h⟩ := mm_b2e h
      have E := eqH_tr (H_X3_takeWord ef9) E
      by_cases c4 : r10 = 0
      · rw [if_pos c4] at h
        obtain ⟨rfl, rfl⟩ := mm_pr h
        exact E
      · rw [if_neg c4] at h
        obtain ⟨rfl, rfl⟩ := mm_pr h
        exact E
    · rw [if_neg c3] at h
      by_cases c5 : r2 = 114
      · rw [if_pos c5] at h
        obtain ⟨r14, f13, ef13, h⟩ := mm_b2e h
        have E := eqH_tr (H_X3_takeWord ef13) E
        by_cases c6 : r14 = 0
        · rw [if_pos c6] at h
          obtain ⟨rfl, rfl⟩ := mm_pr h
          exact E
        · rw [if_neg c6] at h
          obtain ⟨rfl, rfl⟩ := mm_pr h
          exact E
      · rw [if_neg c5] at h
        by_cases c7 : r2 = 115
        · rw [if_pos c7] at h
          obtain ⟨r18, f17, ef17, h⟩ := mm_b2e h
          have E := eqH_tr (H_X3_takeWord ef17) E
          by_cases c8 : r18 = 0
          · rw [if_pos c8] at h
            obtain ⟨rfl, rfl⟩ := mm_pr h
            exact E
          · rw [if_neg c8] at h
            obtain ⟨rfl, rfl⟩ := mm_pr h
            exact E
        · rw [if_neg c7] at h
          by_cases c9 : r2 = 119
          · rw [if_pos c9] at h
            obtain ⟨r22, f21, ef21, h⟩ := mm_b2e h
            have E := eqH_tr (H_X3_takeWord ef21) E
            by_cases c10 : r22 = 0
            · rw [if_pos c10] at h
              obtain ⟨rfl, rfl⟩ := mm_pr h
              exact E
            · rw [if_neg c10] at h
              obtain ⟨rfl, rfl⟩ := mm_pr h
              exact E
          · rw [if_neg c9] at h
            obtain ⟨rfl, rfl⟩ := mm_pr h
            exact E
set_option maxRecDepth 20000 in
theorem H_X3_takeJoint_48 {f f' : F3} {rv : Int32} {t1 : Nat} (h : S_X3_takeJoint_48 f t1 = some (rv, f')) : eqH f' f := by
  rw [S_X3_takeJoint_48] at h
  have E : eqH f f := eqH_rf f
  obtain ⟨r9, f8, ef8, h⟩ := mm_b2e h
  have E := eqH_tr (H_X3_takeWord ef8) E
  obtain ⟨_, h⟩ := mm_if h
  obtain ⟨rfl, rfl⟩ := mm_pr h
  exact E
set_option maxRecDepth 20000 in
theorem H_X3_takeJoint_33 {f f' : F3} {rv : Int32} {i1 : Nat} (h : S_X3_takeJoint_33 f i1 = some (rv, f')) : eqH f' f := by
  rw [S_X3_takeJoint_33] at h
  have E : eqH f f := eqH_rf f
  by_cases c1 : (f 3 i1 4) = 0
  · rw [if_pos c1] at h
    exact eqH_tr (H_X3_takeJoint_48  h) E
  · rw [if_neg c1] at h
    exact eqH_tr (H_X3_takeJoint_48  h) E
set_option maxRecDepth 20000 in
theorem H_X3_takeJoint_30 {f f' : F3} {rv : Int32} {t0 : Nat} {s1 : Int32} {i1 : Nat} (h : S_X3_takeJoint_30 f t0 s1 i1 = some (rv, f')) : eqH f' f := by
  rw [S_X3_takeJoint_30] at h
  have E : eqH f f := eqH_rf f
  obtain ⟨_, h⟩ := mm_if h
  obtain ⟨f7, ef7, h⟩ := mm_lt h
  have E := eqH_up ef7 (by simp) E
  exact eqH_tr (H_X3_takeJoint_33  h) E
set_option maxRecDepth 20000 in
theorem H_X3_takeJoint {f f' : F3} {rv : Int32} {i1 : Nat} (h : S_X3_takeJoint f i1 = some (rv, f')) : eqH f' f := by
  rw [S_X3_takeJoint] at h
  have E : eqH f f := eqH_rf f
  by_cases c1 : (f 3 i1 5) = 1
  · rw [if_pos c1] at h
    obtain ⟨r3, f2, ef2, h⟩ := mm_b2e h
    have E := eqH_tr (H_X4_at ef2) E
    by_cases c2 : r3 = 111
    · rw [if_pos c2] at h
      exact eqH_tr (H_X3_takeJoint_30  h) E
    · rw [if_neg c2] at h
      exact eqH_tr (H_X3_takeJoint_30  h) E
  · rw [if_neg c1] at h
    exact eqH_tr (H_X3_takeJoint_33  h) E
set_option maxRecDepth 20000 in
theorem H_X3_takeKey {f f' : F3} {rv : Int32} (h : S_X3_takeKey f = some (rv, f')) : eqH f' f := by
  rw [S_X3_takeKey] at h
  have E : eqH f f := eqH_rf f
  obtain ⟨r2, f1, ef1, h⟩ := mm_b2e h
  have E := eqH_tr (H_X4_at ef1) E
  by_cases c1 : r2 = 103
  · rw [if_pos c1] at h
    obtain ⟨r6, f5, ef5, h⟩ := mm_b2e h
    have E := eqH_tr (H_X3_takeWord ef5) E
    by_cases c2 : r6 = 0
    · rw [if_pos c2] at h
      obtain ⟨rfl, rfl⟩ := mm_pr h
      exact E
    · rw [if_neg c2] at h
      obtain ⟨rfl, rfl⟩ := mm_pr h
      exact E
  · rw [if_neg c1] at h
    by_cases c3 : r2 = 115
    · rw [if_pos c3] at h
      obtain ⟨r10, f9, ef9, h⟩ := mm_b2e h
      have E := eqH_tr (H_X3_takeWord ef9) E
      by_cases c4 : r10 = 0
      · rw [if_pos c4] at h
        obtain ⟨rfl, rfl⟩ := mm_pr h
        exact E
      · rw [if_neg c4] at h
        obtain ⟨rfl, rfl⟩ := mm_pr h
        exact E
    · rw [if_neg c3] at h
      by_cases c5 : r2 = 116
      · rw [if_pos c5] at h
        obtain ⟨r14, f13, ef13, h⟩ := mm_b2e h
        have E := eqH_tr (H_X3_takeWord ef13) E
        by_cases c6 : r14 = 0
        · rw [if_pos c6] at h
          obtain ⟨rfl, rfl⟩ := mm_pr h
          exact E
        · rw [if_neg c6] at h
          obtain ⟨rfl, rfl⟩ := mm_pr h
          exact E
      · rw [if_neg c5] at h
        obtain ⟨rfl, rfl⟩ := mm_pr h
        exact E
set_option maxRecDepth 20000 in
theorem H_X3_takeNumber_51 {f f' : F3} {rv : Int32} {k4 : F3 → Int32 → Int32 → Option (Int32 × F3)} (hk4 : ∀ (f : F3) (a0 : Int32) (a1 : Int32), k4 f a0 a1 = some (rv, f') → eqH f' f) {s0 : Int32} {x2 : Int32} (h : S_X3_takeNumber_51 k4 f s0 x2 = some (rv, f')) : eqH f' f := by
  rw [S_X3_takeNumber_51] at h
  have E : eqH f f := eqH_rf f
  obtain ⟨f7, ef7, h⟩ := mm_lt h
  have E := eqH_up ef7 (by simp) E
  exact eqH_tr (hk4 _ _ _ h) E
set_option maxRecDepth 20000 in
theorem H_X3_takeNumber_4 {f' : F3} {rv : Int32} : ∀ (n : Nat) {f : F3} {x1 : Int32} {x2 : Int32}, S_X3_takeNumber_4 n f x1 x2 = some (rv, f') → eqH f' f := by
  intro n
  induction n with
  | zero => intro f x1 x2 h; cases h
  | succ n ih =>
    intro f x1 x2 h
    rw [S_X3_takeNumber_4] at h
    have E : eqH f f := eqH_rf f
    by_cases c1 : 4 ≤ x2
    · rw [if_pos c1] at h
      obtain ⟨rfl, rfl⟩ := mm_pr h
      exact E
    · rw [if_neg c1] at h
      obtain ⟨r3, f2, ef2, h⟩ := mm_b2e h
      have E := eqH_tr (H_X4_at ef2) E
      by_cases c2 : (r3 - 48) < 0
      · rw [if_pos c2] at h
        obtain ⟨rfl, rfl⟩ := mm_pr h
        exact E
      · rw [if_neg c2] at h
        by_cases c3 : (r3 - 48) ≤ 9
        · rw [if_pos c3] at h
          by_cases c4 : x1 = (-1)
          · rw [if_pos c4] at h
            exact eqH_tr (H_X3_takeNumber_51 (fun _ _ _ h9 => ih h9)  h) E
          · rw [if_neg c4] at h
            exact eqH_tr (H_X3_takeNumber_51 (fun _ _ _ h9 => ih h9)  h) E
        · rw [if_neg c3] at h
          obtain ⟨rfl, rfl⟩ := mm_pr h
          exact E
set_option maxRecDepth 20000 in
theorem H_X3_takeNumber {f f' : F3} {rv : Int32} (h : S_X3_takeNumber f = some (rv, f')) : eqH f' f := by
  rw [S_X3_takeNumber] at h
  have E : eqH f f := eqH_rf f
  exact eqH_tr (H_X3_takeNumber_4 _ h) E
set_option maxRecDepth 20000 in
theorem H_X3_takeSign {f f' : F3} {rv : Int32} {x1 : Int32} (h : S_X3_takeSign f x1 = some (rv, f')) : eqH f' f := by
  rw [S_X3_takeSign] at h
  have E : eqH f f := eqH_rf f
  obtain ⟨r2, f1, ef1, h⟩ := mm_b2e h
  have E := eqH_tr (H_X4_at ef1) E
  by_cases c1 : r2 = x1
  · rw [if_pos c1] at h
    obtain ⟨f4, ef4, h⟩ := mm_lt h
    have E := eqH_up ef4 (by simp) E
    obtain ⟨rfl, rfl⟩ := mm_pr h
    exact E
  · rw [if_neg c1] at h
    obtain ⟨rfl, rfl⟩ := mm_pr h
    exact E
set_option maxRecDepth 20000 in
theorem H_X3_takeTest_125 {f f' : F3} {rv : Int32} {t0 : Nat} {s1 : Int32} {s2 : Int32} {i1 : Nat} (h : S_X3_takeTest_125 f t0 s1 s2 i1 = some (rv, f')) : eqH f' f := by
  rw [S_X3_takeTest_125] at h
  have E : eqH f f := eqH_rf f
  obtain ⟨_, h⟩ := mm_if h
  obtain ⟨f22, ef22, h⟩ := mm_lt h
  have E := eqH_up ef22 (by simp) E
  obtain ⟨f23, ef23, h⟩ := mm_lt h
  have E := eqH_up ef23 (by simp) E
  obtain ⟨rfl, rfl⟩ := mm_pr h
  exact E
set_option maxRecDepth 20000 in
theorem H_X3_takeTest_44 {f f' : F3} {rv : Int32} {i1 : Nat} {x2 : Int32} {x3 : Int32} (h : S_X3_takeTest_44 f i1 x2 x3 = some (rv, f')) : eqH f' f := by
  rw [S_X3_takeTest_44] at h
  have E : eqH f f := eqH_rf f
  obtain ⟨f9, ef9, h⟩ := mm_lt h
  have E := eqH_up ef9 (by simp) E
  obtain ⟨r11, f10, ef10, h⟩ := mm_b2e h
  have E := eqH_tr (H_X3_takeSign ef10) E
  obtain ⟨r13, f12, ef12, h⟩ := mm_b2e h
  have E := eqH_tr (H_X3_takeNumber ef12) E
  by_cases c1 : r13 = (-1)
  · rw [if_pos c1] at h
    obtain ⟨rfl, rfl⟩ := mm_pr h
    exact E
  · rw [if_neg c1] at h
    by_cases c2 : (f12 3 i1 5) < 3
    · rw [if_pos c2] at h
      obtain ⟨_, h⟩ := mm_if h
      obtain ⟨f17, ef17, h⟩ := mm_lt h
      have E := eqH_up ef17 (by simp) E
      obtain ⟨_, h⟩ := mm_if h
      obtain ⟨f19, ef19, h⟩ := mm_lt h
      have E := eqH_up ef19 (by simp) E
      by_cases c3 : r11 = 0
      · rw [if_pos c3] at h
        exact eqH_tr (H_X3_takeTest_125  h) E
      · rw [if_neg c3] at h
        exact eqH_tr (H_X3_takeTest_125  h) E
    · rw [if_neg c2] at h
      obtain ⟨rfl, rfl⟩ := mm_pr h
      exact E
set_option maxRecDepth 20000 in
theorem H_X3_takeTest {f f' : F3} {rv : Int32} {i1 : Nat} (h : S_X3_takeTest f i1 = some (rv, f')) : eqH f' f := by
  rw [S_X3_takeTest] at h
  have E : eqH f f := eqH_rf f
  obtain ⟨r2, f1, ef1, h⟩ := mm_b2e h
  have E := eqH_tr (H_X3_takeField ef1) E
  by_cases c1 : r2 = (-1)
  · rw [if_pos c1] at h
    obtain ⟨rfl, rfl⟩ := mm_pr h
    exact E
  · rw [if_neg c1] at h
    obtain ⟨r5, f4, ef4, h⟩ := mm_b2e h
    have E := eqH_tr (H_X4_at ef4) E
    by_cases c2 : r5 = 61
    · rw [if_pos c2] at h
      exact eqH_tr (H_X3_takeTest_44  h) E
    · rw [if_neg c2] at h
      by_cases c3 : r5 = 60
      · rw [if_pos c3] at h
        exact eqH_tr (H_X3_takeTest_44  h) E
      · rw [if_neg c3] at h
        by_cases c4 : r5 = 62
        · rw [if_pos c4] at h
          exact eqH_tr (H_X3_takeTest_44  h) E
        · rw [if_neg c4] at h
          obtain ⟨rfl, rfl⟩ := mm_pr h
          exact E
set_option maxRecDepth 20000 in
theorem H_X3_takeTests_75 {f f' : F3} {rv : Int32} (h : S_X3_takeTests_75 f = some (rv, f')) : eqH f' f := by
  rw [S_X3_takeTests_75] at h
  have E : eqH f f := eqH_rf f
  obtain ⟨r24, f23, ef23, h⟩ := mm_b2e h
  have E := eqH_tr (H_X3_isAtEnd ef23) E
  obtain ⟨_, h⟩ := mm_if h
  obtain ⟨rfl, rfl⟩ := mm_pr h
  exact E
set_option maxRecDepth 20000 in
theorem H_X3_takeTests_21 {f' : F3} {rv : Int32} : ∀ (n : Nat) {f : F3} {i1 : Nat} {x2 : Int32}, S_X3_takeTests_21 n f i1 x2 = some (rv, f') → eqH f' f := by
  intro n
  induction n with
  | zero => intro f i1 x2 h; cases h
  | succ n ih =>
    intro f i1 x2 h
    rw [S_X3_takeTests_21] at h
    have E : eqH f f := eqH_rf f
    by_cases c1 : 3 ≤ x2
    · rw [if_pos c1] at h
      exact eqH_tr (H_X3_takeTests_75  h) E
    · rw [if_neg c1] at h
      obtain ⟨r9, f8, ef8, h⟩ := mm_b2e h
      have E := eqH_tr (H_X3_isAtEnd ef8) E
      by_cases c2 : r9 = 0
      · rw [if_pos c2] at h
        obtain ⟨r12, f11, ef11, h⟩ := mm_b2e h
        have E := eqH_tr (H_X3_takeSign ef11) E
        by_cases c3 : r12 = 0
        · rw [if_pos c3] at h
          obtain ⟨rfl, rfl⟩ := mm_pr h
          exact E
        · rw [if_neg c3] at h
          obtain ⟨r15, f14, ef14, h⟩ := mm_b2e h
          have E := eqH_tr (H_X3_takeJoint ef14) E
          by_cases c4 : r15 = 0
          · rw [if_pos c4] at h
            obtain ⟨rfl, rfl⟩ := mm_pr h
            exact E
          · rw [if_neg c4] at h
            obtain ⟨r18, f17, ef17, h⟩ := mm_b2e h
            have E := eqH_tr (H_X3_takeSign ef17) E
            by_cases c5 : r18 = 0
            · rw [if_pos c5] at h
              obtain ⟨rfl, rfl⟩ := mm_pr h
              exact E
            · rw [if_neg c5] at h
              obtain ⟨r21, f20, ef20, h⟩ := mm_b2e h
              have E := eqH_tr (H_X3_takeTest ef20) E
              by_cases c6 : r21 = 0
              · rw [if_pos c6] at h
                obtain ⟨rfl, rfl⟩ := mm_pr h
                exact E
              · rw [if_neg c6] at h
                exact eqH_tr (ih h) E
      · rw [if_neg c2] at h
        exact eqH_tr (H_X3_takeTests_75  h) E
set_option maxRecDepth 20000 in
theorem H_X3_takeTests {f f' : F3} {rv : Int32} {i1 : Nat} (h : S_X3_takeTests f i1 = some (rv, f')) : eqH f' f := by
  rw [S_X3_takeTests] at h
  have E : eqH f f := eqH_rf f
  obtain ⟨r2, f1, ef1, h⟩ := mm_b2e h
  have E := eqH_tr (H_X3_takeWord ef1) E
  by_cases c1 : r2 = 0
  · rw [if_pos c1] at h
    obtain ⟨rfl, rfl⟩ := mm_pr h
    exact E
  · rw [if_neg c1] at h
    obtain ⟨r5, f4, ef4, h⟩ := mm_b2e h
    have E := eqH_tr (H_X3_takeTest ef4) E
    by_cases c2 : r5 = 0
    · rw [if_pos c2] at h
      obtain ⟨rfl, rfl⟩ := mm_pr h
      exact E
    · rw [if_neg c2] at h
      exact eqH_tr (H_X3_takeTests_21 _ h) E
set_option maxRecDepth 20000 in
theorem H_X3_takeRule_75 {f f' : F3} {rv : Int32} (h : S_X3_takeRule_75 f = some (rv, f')) : eqH f' f := by
  rw [S_X3_takeRule_75] at h
  have E : eqH f f := eqH_rf f
  obtain ⟨rfl, rfl⟩ := mm_pr h
  exact E
set_option maxRecDepth 20000 in
theorem H_X3_takeRule {f f' : F3} {rv : Int32} {i1 : Nat} (h : S_X3_takeRule f i1 = some (rv, f')) : eqH f' f := by
  rw [S_X3_takeRule] at h
  have E : eqH f f := eqH_rf f
  obtain ⟨f1, ef1, h⟩ := mm_lt h
  have E := eqH_up ef1 (by simp) E
  obtain ⟨f2, ef2, h⟩ := mm_lt h
  have E := eqH_up ef2 (by simp) E
  obtain ⟨f3, ef3, h⟩ := mm_lt h
  have E := eqH_up ef3 (by simp) E
  obtain ⟨r5, f4, ef4, h⟩ := mm_b2e h
  have E := eqH_tr (H_X3_takeKey ef4) E
  obtain ⟨f6, ef6, h⟩ := mm_lt h
  have E := eqH_up ef6 (by simp) E
  by_cases c1 : (f6 3 i1 0) = (-1)
  · rw [if_pos c1] at h
    obtain ⟨rfl, rfl⟩ := mm_pr h
    exact E
  · rw [if_neg c1] at h
    obtain ⟨r9, f8, ef8, h⟩ := mm_b2e h
    have E := eqH_tr (H_X3_takeSign ef8) E
    by_cases c2 : r9 = 0
    · rw [if_pos c2] at h
      obtain ⟨rfl, rfl⟩ := mm_pr h
      exact E
    · rw [if_neg c2] at h
      obtain ⟨r12, f11, ef11, h⟩ := mm_b2e h
      have E := eqH_tr (H_X3_takeNumber ef11) E
      obtain ⟨f13, ef13, h⟩ := mm_lt h
      have E := eqH_up ef13 (by simp) E
      by_cases c3 : (f13 3 i1 1) = (-1)
      · rw [if_pos c3] at h
        obtain ⟨rfl, rfl⟩ := mm_pr h
        exact E
      · rw [if_neg c3] at h
        obtain ⟨r16, f15, ef15, h⟩ := mm_b2e h
        have E := eqH_tr (H_X3_isAtEnd ef15) E
        by_cases c4 : r16 = 0
        · rw [if_pos c4] at h
          obtain ⟨r19, f18, ef18, h⟩ := mm_b2e h
          have E := eqH_tr (H_X3_takeTests ef18) E
          by_cases c5 : r19 = 0
          · rw [if_pos c5] at h
            obtain ⟨rfl, rfl⟩ := mm_pr h
            exact E
          · rw [if_neg c5] at h
            exact eqH_tr (H_X3_takeRule_75  h) E
        · rw [if_neg c4] at h
          exact eqH_tr (H_X3_takeRule_75  h) E
set_option maxRecDepth 20000 in
theorem H_X4_put {f f' : F3} {x1 : Int32} (h : S_X4_put f x1 = some f') : eqH f' f := by
  rw [S_X4_put] at h
  have E : eqH f f := eqH_rf f
  by_cases c1 : 80 ≤ (f 5 0 1)
  · rw [if_pos c1] at h
    obtain rfl := mm_p1 h
    exact E
  · rw [if_neg c1] at h
    obtain ⟨_, h⟩ := mm_if h
    obtain ⟨f3, ef3, h⟩ := mm_lt h
    have E := eqH_up ef3 (by simp) E
    obtain ⟨f4, ef4, h⟩ := mm_lt h
    have E := eqH_up ef4 (by simp) E
    obtain rfl := mm_p1 h
    exact E
set_option maxRecDepth 20000 in
theorem H_X5_nearest_5 {f' : F3} {rv : Int32} : ∀ (n : Nat) {f : F3} {x2 : Int32} {x3 : Int32} {x4 : Int32}, S_X5_nearest_5 n f x2 x3 x4 = some (rv, f') → eqH f' f := by
  intro n
  induction n with
  | zero => intro f x2 x3 x4 h; cases h
  | succ n ih =>
    intro f x2 x3 x4 h
    rw [S_X5_nearest_5] at h
    have E : eqH f f := eqH_rf f
    by_cases c1 : 48 ≤ x4
    · rw [if_pos c1] at h
      obtain ⟨rfl, rfl⟩ := mm_pr h
      exact E
    · rw [if_neg c1] at h
      obtain ⟨_, h⟩ := mm_if h
      by_cases c2 : (f 14 0 ((x3 + x2) - (x3 + x2) / 48 * 48).toNatClampNeg) = (-9999)
      · rw [if_pos c2] at h
        exact eqH_tr (ih h) E
      · rw [if_neg c2] at h
        obtain ⟨rfl, rfl⟩ := mm_pr h
        exact E
set_option maxRecDepth 20000 in
theorem H_X5_nearest {f f' : F3} {rv : Int32} {x1 : Int32} {x2 : Int32} (h : S_X5_nearest f x1 x2 = some (rv, f')) : eqH f' f := by
  rw [S_X5_nearest] at h
  have E : eqH f f := eqH_rf f
  exact eqH_tr (H_X5_nearest_5 _ h) E
set_option maxRecDepth 20000 in
theorem H_X5_heatOf {f f' : F3} {rv : Int32} {x1 : Int32} (h : S_X5_heatOf f x1 = some (rv, f')) : eqH f' f := by
  rw [S_X5_heatOf] at h
  have E : eqH f f := eqH_rf f
  obtain ⟨r2, f1, ef1, h⟩ := mm_b2e h
  have E := eqH_tr (H_J9_floorMod_7cf53 ef1) E
  obtain ⟨_, h⟩ := mm_if h
  by_cases c1 : (f1 14 0 r2.toNatClampNeg) = (-9999)
  · rw [if_pos c1] at h
    obtain ⟨r6, f5, ef5, h⟩ := mm_b2e h
    have E := eqH_tr (H_X5_nearest ef5) E
    obtain ⟨r8, f7, ef7, h⟩ := mm_b2e h
    have E := eqH_tr (H_X5_nearest ef7) E
    by_cases c2 : (if r6 < r8 then r8 else r6) = (-9999)
    · rw [if_pos c2] at h
      obtain ⟨rfl, rfl⟩ := mm_pr h
      exact E
    · rw [if_neg c2] at h
      obtain ⟨rfl, rfl⟩ := mm_pr h
      exact E
  · rw [if_neg c1] at h
    obtain ⟨rfl, rfl⟩ := mm_pr h
    exact E
set_option maxRecDepth 20000 in
theorem H_X6_agePlaces_38 {f f' : F3} {k2 : F3 → Int32 → Option F3} (hk2 : ∀ (f : F3) (a0 : Int32), k2 f a0 = some f' → eqH f' f) {x1 : Int32} (h : S_X6_agePlaces_38 k2 f x1 = some f') : eqH f' f := by
  rw [S_X6_agePlaces_38] at h
  have E : eqH f f := eqH_rf f
  exact eqH_tr (hk2 _ _ h) E
set_option maxRecDepth 20000 in
theorem H_X6_agePlaces_2 {f' : F3} : ∀ (n : Nat) {f : F3} {x1 : Int32}, S_X6_agePlaces_2 n f x1 = some f' → eqH f' f := by
  intro n
  induction n with
  | zero => intro f x1 h; cases h
  | succ n ih =>
    intro f x1 h
    rw [S_X6_agePlaces_2] at h
    have E : eqH f f := eqH_rf f
    by_cases c1 : (f 0 0 13) ≤ x1
    · rw [if_pos c1] at h
      obtain rfl := mm_p1 h
      exact E
    · rw [if_neg c1] at h
      obtain ⟨_, h⟩ := mm_if h
      by_cases c2 : (f 2 x1.toNatClampNeg 3) = 1
      · rw [if_pos c2] at h
        obtain ⟨f4, ef4, h⟩ := mm_lt h
        have E := eqH_up ef4 (by simp) E
        exact eqH_tr (H_X6_agePlaces_38 (fun _ _ h9 => ih h9)  h) E
      · rw [if_neg c2] at h
        exact eqH_tr (H_X6_agePlaces_38 (fun _ _ h9 => ih h9)  h) E
set_option maxRecDepth 20000 in
theorem H_X6_agePlaces {f f' : F3} (h : S_X6_agePlaces f = some f') : eqH f' f := by
  rw [S_X6_agePlaces] at h
  have E : eqH f f := eqH_rf f
  exact eqH_tr (H_X6_agePlaces_2 _ h) E
set_option maxRecDepth 20000 in
theorem H_X6_isCell {f f' : F3} {rv : Int32} {x1 : Int32} (h : S_X6_isCell f x1 = some (rv, f')) : eqH f' f := by
  rw [S_X6_isCell] at h
  have E : eqH f f := eqH_rf f
  by_cases c1 : x1 < 0
  · rw [if_pos c1] at h
    obtain ⟨rfl, rfl⟩ := mm_pr h
    exact E
  · rw [if_neg c1] at h
    by_cases c2 : (f 0 0 12) ≤ x1
    · rw [if_pos c2] at h
      obtain ⟨rfl, rfl⟩ := mm_pr h
      exact E
    · rw [if_neg c2] at h
      obtain ⟨rfl, rfl⟩ := mm_pr h
      exact E
set_option maxRecDepth 20000 in
theorem H_X6_isWithin {f f' : F3} {rv : Int32} {x0 : Int32} {x1 : Int32} {x2 : Int32} (h : S_X6_isWithin f x0 x1 x2 = some (rv, f')) : eqH f' f := by
  rw [S_X6_isWithin] at h
  have E : eqH f f := eqH_rf f
  by_cases c1 : x0 < x1
  · rw [if_pos c1] at h
    obtain ⟨rfl, rfl⟩ := mm_pr h
    exact E
  · rw [if_neg c1] at h
    by_cases c2 : x2 < x0
    · rw [if_pos c2] at h
      obtain ⟨rfl, rfl⟩ := mm_pr h
      exact E
    · rw [if_neg c2] at h
      obtain ⟨rfl, rfl⟩ := mm_pr h
      exact E
set_option maxRecDepth 20000 in
theorem H_X6_refuse {f f' : F3} {rv : Int32} {x1 : Int32} (h : S_X6_refuse f x1 = some (rv, f')) : eqH f' f := by
  rw [S_X6_refuse] at h
  have E : eqH f f := eqH_rf f
  obtain ⟨r2, f1, ef1, h⟩ := mm_b2e h
  have E := eqH_tr (H_X6_isWithin ef1) E
  by_cases c1 : r2 = 0
  · rw [if_pos c1] at h
    obtain ⟨rfl, rfl⟩ := mm_pr h
    exact E
  · rw [if_neg c1] at h
    obtain ⟨_, h⟩ := mm_if h
    obtain ⟨f5, ef5, h⟩ := mm_lt h
    have E := eqH_up ef5 (by simp) E
    obtain ⟨rfl, rfl⟩ := mm_pr h
    exact E
set_option maxRecDepth 20000 in
theorem H_X6_bears {f f' : F3} {rv : Int32} {x1 : Int32} {x2 : Int32} (h : S_X6_bears f x1 x2 = some (rv, f')) : eqH f' f := by
  rw [S_X6_bears] at h
  have E : eqH f f := eqH_rf f
  obtain ⟨r2, f1, ef1, h⟩ := mm_b2e h
  have E := eqH_tr (H_X6_isCell ef1) E
  by_cases c1 : r2 = 0
  · rw [if_pos c1] at h
    obtain ⟨r14, f13, ef13, h⟩ := mm_b2e h
    have E := eqH_tr (H_X6_refuse ef13) E
    obtain ⟨rfl, rfl⟩ := mm_pr h
    exact E
  · rw [if_neg c1] at h
    obtain ⟨r5, f4, ef4, h⟩ := mm_b2e h
    have E := eqH_tr (H_X6_isWithin ef4) E
    by_cases c2 : r5 = 0
    · rw [if_pos c2] at h
      obtain ⟨r12, f11, ef11, h⟩ := mm_b2e h
      have E := eqH_tr (H_X6_refuse ef11) E
      obtain ⟨rfl, rfl⟩ := mm_pr h
      exact E
    · rw [if_neg c2] at h
      obtain ⟨_, h⟩ := mm_if h
      obtain ⟨r9, f8, ef8, h⟩ := mm_b2e h
      have E := eqH_tr (H_X0_holdsUp ef8) E
      by_cases c3 : r9 = 0
      · rw [if_pos c3] at h
        obtain ⟨rfl, rfl⟩ := mm_pr h
        exact E
      · rw [if_neg c3] at h
        obtain ⟨rfl, rfl⟩ := mm_pr h
        exact E
set_option maxRecDepth 20000 in
theorem H_X6_loadsOn_44 {f f' : F3} {rv : Int32} {k4 : F3 → Int32 → Int32 → Int32 → Option (Int32 × F3)} (hk4 : ∀ (f : F3) (a0 : Int32) (a1 : Int32) (a2 : Int32), k4 f a0 a1 a2 = some (rv, f') → eqH f' f) {s0 : Int32} {s1 : Int32} {x1 : Int32} {x3 : Int32} (h : S_X6_loadsOn_44 k4 f s0 s1 x1 x3 = some (rv, f')) : eqH f' f := by
  rw [S_X6_loadsOn_44] at h
  have E : eqH f f := eqH_rf f
  exact eqH_tr (hk4 _ _ _ _ h) E
set_option maxRecDepth 20000 in
theorem H_X6_loadsOn_43 {f f' : F3} {rv : Int32} {k4 : F3 → Int32 → Int32 → Int32 → Option (Int32 × F3)} (hk4 : ∀ (f : F3) (a0 : Int32) (a1 : Int32) (a2 : Int32), k4 f a0 a1 a2 = some (rv, f') → eqH f' f) {s0 : Int32} {x1 : Int32} {x3 : Int32} (h : S_X6_loadsOn_43 k4 f s0 x1 x3 = some (rv, f')) : eqH f' f := by
  rw [S_X6_loadsOn_43] at h
  have E : eqH f f := eqH_rf f
  exact eqH_tr (H_X6_loadsOn_44 hk4  h) E
set_option maxRecDepth 20000 in
theorem H_X6_loadsOn_4 {f' : F3} {rv : Int32} : ∀ (n : Nat) {f : F3} {x1 : Int32} {x2 : Int32} {x3 : Int32}, S_X6_loadsOn_4 n f x1 x2 x3 = some (rv, f') → eqH f' f := by
  intro n
  induction n with
  | zero => intro f x1 x2 x3 h; cases h
  | succ n ih =>
    intro f x1 x2 x3 h
    rw [S_X6_loadsOn_4] at h
    have E : eqH f f := eqH_rf f
    by_cases c1 : (f 0 0 13) ≤ x3
    · rw [if_pos c1] at h
      obtain ⟨rfl, rfl⟩ := mm_pr h
      exact E
    · rw [if_neg c1] at h
      obtain ⟨_, h⟩ := mm_if h
      by_cases c2 : (f 2 x3.toNatClampNeg 3) = 1
      · rw [if_pos c2] at h
        by_cases c3 : (f 2 x3.toNatClampNeg 4) = x1
        · rw [if_pos c3] at h
          exact eqH_tr (H_X6_loadsOn_44 (fun _ _ _ _ h9 => ih h9)  h) E
        · rw [if_neg c3] at h
          exact eqH_tr (H_X6_loadsOn_43 (fun _ _ _ _ h9 => ih h9)  h) E
      · rw [if_neg c2] at h
        exact eqH_tr (H_X6_loadsOn_43 (fun _ _ _ _ h9 => ih h9)  h) E
set_option maxRecDepth 20000 in
theorem H_X6_loadsOn {f f' : F3} {rv : Int32} {x1 : Int32} (h : S_X6_loadsOn f x1 = some (rv, f')) : eqH f' f := by
  rw [S_X6_loadsOn] at h
  have E : eqH f f := eqH_rf f
  exact eqH_tr (H_X6_loadsOn_4 _ h) E
set_option maxRecDepth 20000 in
theorem H_X6_bypass {f f' : F3} {rv : Int32} {x1 : Int32} (h : S_X6_bypass f x1 = some (rv, f')) : eqH f' f := by
  rw [S_X6_bypass] at h
  have E : eqH f f := eqH_rf f
  obtain ⟨r2, f1, ef1, h⟩ := mm_b2e h
  have E := eqH_tr (H_X6_isCell ef1) E
  by_cases c1 : r2 = 0
  · rw [if_pos c1] at h
    obtain ⟨r18, f17, ef17, h⟩ := mm_b2e h
    have E := eqH_tr (H_X6_refuse ef17) E
    obtain ⟨rfl, rfl⟩ := mm_pr h
    exact E
  · rw [if_neg c1] at h
    obtain ⟨_, h⟩ := mm_if h
    by_cases c2 : (f1 1 x1.toNatClampNeg 0) = 3
    · rw [if_pos c2] at h
      obtain ⟨r7, f6, ef6, h⟩ := mm_b2e h
      have E := eqH_tr (H_X6_loadsOn ef6) E
      by_cases c3 : r7 ≤ 0
      · rw [if_pos c3] at h
        obtain ⟨f9, ef9, h⟩ := mm_bind h
        have E := eqH_tr (H_X0_become ef9) E
        obtain ⟨f10, ef10, h⟩ := mm_lt h
        have E := eqH_up ef10 (by simp) E
        obtain ⟨f11, ef11, h⟩ := mm_lt h
        have E := eqH_up ef11 (by simp) E
        obtain ⟨f12, ef12, h⟩ := mm_lt h
        have E := eqH_up ef12 (by simp) E
        obtain ⟨rfl, rfl⟩ := mm_pr h
        exact E
      · rw [if_neg c3] at h
        obtain ⟨r14, f13, ef13, h⟩ := mm_b2e h
        have E := eqH_tr (H_X6_refuse ef13) E
        obtain ⟨rfl, rfl⟩ := mm_pr h
        exact E
    · rw [if_neg c2] at h
      obtain ⟨r16, f15, ef15, h⟩ := mm_b2e h
      have E := eqH_tr (H_X6_refuse ef15) E
      obtain ⟨rfl, rfl⟩ := mm_pr h
      exact E
set_option maxRecDepth 20000 in
theorem H_X6_cell_69 {f f' : F3} {rv : Int32} {t0 : Nat} {s1 : Int32} {s2 : Int32} {s3 : Int32} (h : S_X6_cell_69 f t0 s1 s2 s3 = some (rv, f')) : eqH f' f := by
  rw [S_X6_cell_69] at h
  have E : eqH f f := eqH_rf f
  obtain ⟨f15, ef15, h⟩ := mm_bind h
  have E := eqH_tr (H_X0_lay ef15) E
  obtain ⟨f16, ef16, h⟩ := mm_lt h
  have E := eqH_up ef16 (by simp) E
  obtain ⟨rfl, rfl⟩ := mm_pr h
  exact E
set_option maxRecDepth 20000 in
theorem H_X6_cell_26 {f f' : F3} {rv : Int32} (h : S_X6_cell_26 f = some (rv, f')) : eqH f' f := by
  rw [S_X6_cell_26] at h
  have E : eqH f f := eqH_rf f
  obtain ⟨r14, f13, ef13, h⟩ := mm_b2e h
  have E := eqH_tr (H_X6_refuse ef13) E
  obtain ⟨rfl, rfl⟩ := mm_pr h
  exact E
set_option maxRecDepth 20000 in
theorem H_X6_cell {f f' : F3} {rv : Int32} {x1 : Int32} {x2 : Int32} {x3 : Int32} (h : S_X6_cell f x1 x2 x3 = some (rv, f')) : eqH f' f := by
  rw [S_X6_cell] at h
  have E : eqH f f := eqH_rf f
  obtain ⟨r2, f1, ef1, h⟩ := mm_b2e h
  have E := eqH_tr (H_X6_isWithin ef1) E
  by_cases c1 : r2 = 0
  · rw [if_pos c1] at h
    exact eqH_tr (H_X6_cell_26  h) E
  · rw [if_neg c1] at h
    obtain ⟨r5, f4, ef4, h⟩ := mm_b2e h
    have E := eqH_tr (H_X6_isWithin ef4) E
    by_cases c2 : r5 = 0
    · rw [if_pos c2] at h
      exact eqH_tr (H_X6_cell_26  h) E
    · rw [if_neg c2] at h
      by_cases c3 : (f4 0 0 13) ≤ 0
      · rw [if_pos c3] at h
        by_cases c4 : (f4 0 0 12) < 10
        · rw [if_pos c4] at h
          obtain ⟨_, h⟩ := mm_if h
          by_cases c5 : x3 = 0
          · rw [if_pos c5] at h
            exact eqH_tr (H_X6_cell_69  h) E
          · rw [if_neg c5] at h
            exact eqH_tr (H_X6_cell_69  h) E
        · rw [if_neg c4] at h
          obtain ⟨r12, f11, ef11, h⟩ := mm_b2e h
          have E := eqH_tr (H_X6_refuse ef11) E
          obtain ⟨rfl, rfl⟩ := mm_pr h
          exact E
      · rw [if_neg c3] at h
        exact eqH_tr (H_X6_cell_26  h) E
set_option maxRecDepth 20000 in
theorem H_X6_cold_75 {f f' : F3} {rv : Int32} {k18 : F3 → Int32 → Int32 → Option (Int32 × F3)} (hk18 : ∀ (f : F3) (a0 : Int32) (a1 : Int32), k18 f a0 a1 = some (rv, f') → eqH f' f) {s0 : Int32} {s1 : Int32} {x2 : Int32} (h : S_X6_cold_75 k18 f s0 s1 x2 = some (rv, f')) : eqH f' f := by
  rw [S_X6_cold_75] at h
  have E : eqH f f := eqH_rf f
  exact eqH_tr (hk18 _ _ _ h) E
set_option maxRecDepth 20000 in
theorem H_X6_cold_64 {f f' : F3} {rv : Int32} {k18 : F3 → Int32 → Int32 → Option (Int32 × F3)} (hk18 : ∀ (f : F3) (a0 : Int32) (a1 : Int32), k18 f a0 a1 = some (rv, f') → eqH f' f) {s1 : Int32} {s2 : Int32} {x1 : Int32} {x2 : Int32} {x3 : Int32} (h : S_X6_cold_64 k18 f s1 s2 x1 x2 x3 = some (rv, f')) : eqH f' f := by
  rw [S_X6_cold_64] at h
  have E : eqH f f := eqH_rf f
  obtain ⟨_, h⟩ := mm_if h
  obtain ⟨f10, ef10, h⟩ := mm_lt h
  have E := eqH_up ef10 (by simp) E
  by_cases c1 : x3 = 0
  · rw [if_pos c1] at h
    exact eqH_tr (H_X6_cold_75 hk18  h) E
  · rw [if_neg c1] at h
    exact eqH_tr (H_X6_cold_75 hk18  h) E
set_option maxRecDepth 20000 in
theorem H_X6_cold_18 {f' : F3} {rv : Int32} : ∀ (n : Nat) {f : F3} {x1 : Int32} {x2 : Int32}, S_X6_cold_18 n f x1 x2 = some (rv, f') → eqH f' f := by
  intro n
  induction n with
  | zero => intro f x1 x2 h; cases h
  | succ n ih =>
    intro f x1 x2 h
    rw [S_X6_cold_18] at h
    have E : eqH f f := eqH_rf f
    by_cases c1 : 48 ≤ x2
    · rw [if_pos c1] at h
      obtain ⟨rfl, rfl⟩ := mm_pr h
      exact E
    · rw [if_neg c1] at h
      obtain ⟨_, h⟩ := mm_if h
      obtain ⟨r7, f6, ef6, h⟩ := mm_b2e h
      have E := eqH_tr (H_X6_isWithin ef6) E
      by_cases c2 : r7 = 0
      · rw [if_pos c2] at h
        exact eqH_tr (H_X6_cold_64 (fun _ _ _ h9 => ih h9)  h) E
      · rw [if_neg c2] at h
        exact eqH_tr (H_X6_cold_64 (fun _ _ _ h9 => ih h9)  h) E
set_option maxRecDepth 20000 in
theorem H_X6_cold {f f' : F3} {rv : Int32} (h : S_X6_cold f = some (rv, f')) : eqH f' f := by
  rw [S_X6_cold] at h
  have E : eqH f f := eqH_rf f
  by_cases c1 : (f 0 0 11) = 0
  · rw [if_pos c1] at h
    obtain ⟨r3, f2, ef2, h⟩ := mm_b2e h
    have E := eqH_tr (H_X6_refuse ef2) E
    obtain ⟨rfl, rfl⟩ := mm_pr h
    exact E
  · rw [if_neg c1] at h
    exact eqH_tr (H_X6_cold_18 _ h) E
set_option maxRecDepth 20000 in
theorem H_X6_isBarred_77 {f f' : F3} {rv : Int32} {k23 : F3 → Nat → Int32 → Int32 → Int32 → Option (Int32 × F3)} (hk23 : ∀ (f : F3) (a0 : Nat) (a1 : Int32) (a2 : Int32) (a3 : Int32), k23 f a0 a1 a2 a3 = some (rv, f') → eqH f' f) {i1 : Nat} {x2 : Int32} {x3 : Int32} {x4 : Int32} (h : S_X6_isBarred_77 k23 f i1 x2 x3 x4 = some (rv, f')) : eqH f' f := by
  rw [S_X6_isBarred_77] at h
  have E : eqH f f := eqH_rf f
  exact eqH_tr (hk23 _ _ _ _ _ h) E
set_option maxRecDepth 20000 in
theorem H_X6_isBarred_23 {f' : F3} {rv : Int32} : ∀ (n : Nat) {f : F3} {i1 : Nat} {x2 : Int32} {x3 : Int32} {x4 : Int32}, S_X6_isBarred_23 n f i1 x2 x3 x4 = some (rv, f') → eqH f' f := by
  intro n
  induction n with
  | zero => intro f i1 x2 x3 x4 h; cases h
  | succ n ih =>
    intro f i1 x2 x3 x4 h
    rw [S_X6_isBarred_23] at h
    have E : eqH f f := eqH_rf f
    by_cases c1 : (f 0 0 13) ≤ x4
    · rw [if_pos c1] at h
      obtain ⟨rfl, rfl⟩ := mm_pr h
      exact E
    · rw [if_neg c1] at h
      obtain ⟨_, h⟩ := mm_if h
      by_cases c2 : (f 2 x4.toNatClampNeg 3) = 1
      · rw [if_pos c2] at h
        by_cases c3 : (f 2 x4.toNatClampNeg 4) = x2
        · rw [if_pos c3] at h
          by_cases c4 : x3 = 0
          · rw [if_pos c4] at h
            by_cases c5 : (f 2 x4.toNatClampNeg 2) = (f 2 i1 2)
            · rw [if_pos c5] at h
              obtain ⟨rfl, rfl⟩ := mm_pr h
              exact E
            · rw [if_neg c5] at h
              exact eqH_tr (H_X6_isBarred_77 (fun _ _ _ _ _ h9 => ih h9)  h) E
          · rw [if_neg c4] at h
            obtain ⟨rfl, rfl⟩ := mm_pr h
            exact E
        · rw [if_neg c3] at h
          exact eqH_tr (H_X6_isBarred_77 (fun _ _ _ _ _ h9 => ih h9)  h) E
      · rw [if_neg c2] at h
        exact eqH_tr (H_X6_isBarred_77 (fun _ _ _ _ _ h9 => ih h9)  h) E
set_option maxRecDepth 20000 in
theorem H_X6_isBarred_19 {f f' : F3} {rv : Int32} {s0 : Int32} {i1 : Nat} {x2 : Int32} (h : S_X6_isBarred_19 f s0 i1 x2 = some (rv, f')) : eqH f' f := by
  rw [S_X6_isBarred_19] at h
  have E : eqH f f := eqH_rf f
  exact eqH_tr (H_X6_isBarred_23 _ h) E
set_option maxRecDepth 20000 in
theorem H_X6_isBarred {f f' : F3} {rv : Int32} {i1 : Nat} {x2 : Int32} (h : S_X6_isBarred f i1 x2 = some (rv, f')) : eqH f' f := by
  rw [S_X6_isBarred] at h
  have E : eqH f f := eqH_rf f
  obtain ⟨_, h⟩ := mm_if h
  by_cases c1 : 10 ≤ (f 1 x2.toNatClampNeg 3)
  · rw [if_pos c1] at h
    exact eqH_tr (H_X6_isBarred_19  h) E
  · rw [if_neg c1] at h
    exact eqH_tr (H_X6_isBarred_19  h) E
set_option maxRecDepth 20000 in
theorem H_X6_gatherFacts {f f' : F3} {i1 : Nat} {x2 : Int32} (h : S_X6_gatherFacts f i1 x2 = some f') : eqH f' f := by
  rw [S_X6_gatherFacts] at h
  have E : eqH f f := eqH_rf f
  obtain ⟨f1, ef1, h⟩ := mm_lt h
  have E := eqH_up ef1 (by simp) E
  obtain ⟨f2, ef2, h⟩ := mm_lt h
  have E := eqH_up ef2 (by simp) E
  obtain ⟨f3, ef3, h⟩ := mm_lt h
  have E := eqH_up ef3 (by simp) E
  obtain ⟨r5, f4, ef4, h⟩ := mm_b2e h
  have E := eqH_tr (H_X5_heatOf ef4) E
  obtain ⟨f6, ef6, h⟩ := mm_lt h
  have E := eqH_up ef6 (by simp) E
  obtain ⟨_, h⟩ := mm_if h
  obtain ⟨f8, ef8, h⟩ := mm_lt h
  have E := eqH_up ef8 (by simp) E
  obtain rfl := mm_p1 h
  exact E
set_option maxRecDepth 20000 in
theorem H_X6_numberFor_54 {f f' : F3} {rv : Int32} {k7 : F3 → Int32 → Int32 → Option (Int32 × F3)} (hk7 : ∀ (f : F3) (a0 : Int32) (a1 : Int32), k7 f a0 a1 = some (rv, f') → eqH f' f) {x1 : Int32} {x2 : Int32} (h : S_X6_numberFor_54 k7 f x1 x2 = some (rv, f')) : eqH f' f := by
  rw [S_X6_numberFor_54] at h
  have E : eqH f f := eqH_rf f
  exact eqH_tr (hk7 _ _ _ h) E
set_option maxRecDepth 20000 in
theorem H_X6_numberFor_7 {f' : F3} {rv : Int32} : ∀ (n : Nat) {f : F3} {x1 : Int32} {x2 : Int32}, S_X6_numberFor_7 n f x1 x2 = some (rv, f') → eqH f' f := by
  intro n
  induction n with
  | zero => intro f x1 x2 h; cases h
  | succ n ih =>
    intro f x1 x2 h
    rw [S_X6_numberFor_7] at h
    have E : eqH f f := eqH_rf f
    by_cases c1 : x2 < 0
    · rw [if_pos c1] at h
      by_cases c2 : x1 = 1
      · rw [if_pos c2] at h
        obtain ⟨rfl, rfl⟩ := mm_pr h
        exact E
      · rw [if_neg c2] at h
        obtain ⟨rfl, rfl⟩ := mm_pr h
        exact E
    · rw [if_neg c1] at h
      obtain ⟨_, h⟩ := mm_if h
      by_cases c3 : (f 3 x2.toNatClampNeg 0) = x1
      · rw [if_pos c3] at h
        obtain ⟨r6, f5, ef5, h⟩ := mm_b2e h
        have E := eqH_tr (H_X2_applies ef5) E
        by_cases c4 : r6 = 0
        · rw [if_pos c4] at h
          exact eqH_tr (H_X6_numberFor_54 (fun _ _ _ h9 => ih h9)  h) E
        · rw [if_neg c4] at h
          obtain ⟨rfl, rfl⟩ := mm_pr h
          exact E
      · rw [if_neg c3] at h
        exact eqH_tr (H_X6_numberFor_54 (fun _ _ _ h9 => ih h9)  h) E
set_option maxRecDepth 20000 in
theorem H_X6_numberFor {f f' : F3} {rv : Int32} {x1 : Int32} (h : S_X6_numberFor f x1 = some (rv, f')) : eqH f' f := by
  rw [S_X6_numberFor] at h
  have E : eqH f f := eqH_rf f
  exact eqH_tr (H_X6_numberFor_7 _ h) E
set_option maxRecDepth 20000 in
theorem H_X6_nearestKnown_7 {f' : F3} {rv : Int32} : ∀ (n : Nat) {f : F3} {x2 : Int32} {x3 : Int32} {x4 : Int32}, S_X6_nearestKnown_7 n f x2 x3 x4 = some (rv, f') → eqH f' f := by
  intro n
  induction n with
  | zero => intro f x2 x3 x4 h; cases h
  | succ n ih =>
    intro f x2 x3 x4 h
    rw [S_X6_nearestKnown_7] at h
    have E : eqH f f := eqH_rf f
    by_cases c1 : 10 ≤ x4
    · rw [if_pos c1] at h
      obtain ⟨rfl, rfl⟩ := mm_pr h
      exact E
    · rw [if_neg c1] at h
      obtain ⟨r3, f2, ef2, h⟩ := mm_b2e h
      have E := eqH_tr (H_X6_isCell ef2) E
      by_cases c2 : r3 = 0
      · rw [if_pos c2] at h
        obtain ⟨rfl, rfl⟩ := mm_pr h
        exact E
      · rw [if_neg c2] at h
        obtain ⟨_, h⟩ := mm_if h
        by_cases c3 : (f2 1 x3.toNatClampNeg 7) = (-1)
        · rw [if_pos c3] at h
          exact eqH_tr (ih h) E
        · rw [if_neg c3] at h
          obtain ⟨rfl, rfl⟩ := mm_pr h
          exact E
set_option maxRecDepth 20000 in
theorem H_X6_nearestKnown {f f' : F3} {rv : Int32} {x1 : Int32} {x2 : Int32} (h : S_X6_nearestKnown f x1 x2 = some (rv, f')) : eqH f' f := by
  rw [S_X6_nearestKnown] at h
  have E : eqH f f := eqH_rf f
  exact eqH_tr (H_X6_nearestKnown_7 _ h) E
set_option maxRecDepth 20000 in
theorem H_X6_leastOf_71 {f f' : F3} {rv : Int32} {x3 : Int32} {x4 : Int32} (h : S_X6_leastOf_71 f x3 x4 = some (rv, f')) : eqH f' f := by
  rw [S_X6_leastOf_71] at h
  have E : eqH f f := eqH_rf f
  obtain ⟨rfl, rfl⟩ := mm_pr h
  exact E
set_option maxRecDepth 20000 in
theorem H_X6_leastOf_60 {f f' : F3} {rv : Int32} {x3 : Int32} {x4 : Int32} (h : S_X6_leastOf_60 f x3 x4 = some (rv, f')) : eqH f' f := by
  rw [S_X6_leastOf_60] at h
  have E : eqH f f := eqH_rf f
  by_cases c1 : x3 = (-1)
  · rw [if_pos c1] at h
    exact eqH_tr (H_X6_leastOf_71  h) E
  · rw [if_neg c1] at h
    by_cases c2 : x4 = (-1)
    · rw [if_pos c2] at h
      exact eqH_tr (H_X6_leastOf_71  h) E
    · rw [if_neg c2] at h
      obtain ⟨rfl, rfl⟩ := mm_pr h
      exact E
set_option maxRecDepth 20000 in
theorem H_X6_leastOf {f f' : F3} {rv : Int32} {x1 : Int32} (h : S_X6_leastOf f x1 = some (rv, f')) : eqH f' f := by
  rw [S_X6_leastOf] at h
  have E : eqH f f := eqH_rf f
  obtain ⟨_, h⟩ := mm_if h
  by_cases c1 : (f 1 x1.toNatClampNeg 0) = 4
  · rw [if_pos c1] at h
    obtain ⟨rfl, rfl⟩ := mm_pr h
    exact E
  · rw [if_neg c1] at h
    by_cases c2 : (f 1 x1.toNatClampNeg 7) = (-1)
    · rw [if_pos c2] at h
      obtain ⟨r5, f4, ef4, h⟩ := mm_b2e h
      have E := eqH_tr (H_X6_nearestKnown ef4) E
      obtain ⟨r7, f6, ef6, h⟩ := mm_b2e h
      have E := eqH_tr (H_X6_nearestKnown ef6) E
      by_cases c3 : r5 = (-1)
      · rw [if_pos c3] at h
        by_cases c4 : r7 = (-1)
        · rw [if_pos c4] at h
          obtain ⟨rfl, rfl⟩ := mm_pr h
          exact E
        · rw [if_neg c4] at h
          exact eqH_tr (H_X6_leastOf_60  h) E
      · rw [if_neg c3] at h
        exact eqH_tr (H_X6_leastOf_60  h) E
    · rw [if_neg c2] at h
      obtain ⟨rfl, rfl⟩ := mm_pr h
      exact E
set_option maxRecDepth 20000 in
theorem H_X6_reasonAgainst {f f' : F3} {rv : Int32} {i1 : Nat} {x2 : Int32} (h : S_X6_reasonAgainst f i1 x2 = some (rv, f')) : eqH f' f := by
  rw [S_X6_reasonAgainst] at h
  have E : eqH f f := eqH_rf f
  obtain ⟨f1, ef1, h⟩ := mm_bind h
  have E := eqH_tr (H_X6_gatherFacts ef1) E
  obtain ⟨r3, f2, ef2, h⟩ := mm_b2e h
  have E := eqH_tr (H_X6_numberFor ef2) E
  by_cases c1 : r3 = 0
  · rw [if_pos c1] at h
    obtain ⟨r6, f5, ef5, h⟩ := mm_b2e h
    have E := eqH_tr (H_X6_leastOf ef5) E
    obtain ⟨r8, f7, ef7, h⟩ := mm_b2e h
    have E := eqH_tr (H_X6_numberFor ef7) E
    by_cases c2 : r8 ≤ r6
    · rw [if_pos c2] at h
      obtain ⟨_, h⟩ := mm_if h
      obtain ⟨r12, f11, ef11, h⟩ := mm_b2e h
      have E := eqH_tr (H_X0_lastCome ef11) E
      by_cases c3 : r12 = (-1)
      · rw [if_pos c3] at h
        obtain ⟨rfl, rfl⟩ := mm_pr h
        exact E
      · rw [if_neg c3] at h
        obtain ⟨r15, f14, ef14, h⟩ := mm_b2e h
        have E := eqH_tr (H_X6_numberFor ef14) E
        by_cases c4 : r15 ≤ ((f11 0 0 15) - r12)
        · rw [if_pos c4] at h
          obtain ⟨rfl, rfl⟩ := mm_pr h
          exact E
        · rw [if_neg c4] at h
          obtain ⟨rfl, rfl⟩ := mm_pr h
          exact E
    · rw [if_neg c2] at h
      obtain ⟨rfl, rfl⟩ := mm_pr h
      exact E
  · rw [if_neg c1] at h
    obtain ⟨rfl, rfl⟩ := mm_pr h
    exact E
set_option maxRecDepth 20000 in
theorem H_X6_comeIfItCan {f f' : F3} {i1 : Nat} {x2 : Int32} (h : S_X6_comeIfItCan f i1 x2 = some f') : eqH f' f := by
  rw [S_X6_comeIfItCan] at h
  have E : eqH f f := eqH_rf f
  obtain ⟨r2, f1, ef1, h⟩ := mm_b2e h
  have E := eqH_tr (H_X6_isCell ef1) E
  by_cases c1 : r2 = 0
  · rw [if_pos c1] at h
    obtain rfl := mm_p1 h
    exact E
  · rw [if_neg c1] at h
    obtain ⟨r5, f4, ef4, h⟩ := mm_b2e h
    have E := eqH_tr (H_X6_isBarred ef4) E
    by_cases c2 : r5 = 0
    · rw [if_pos c2] at h
      obtain ⟨r8, f7, ef7, h⟩ := mm_b2e h
      have E := eqH_tr (H_X6_reasonAgainst ef7) E
      by_cases c3 : r8 = 0
      · rw [if_pos c3] at h
        obtain ⟨_, h⟩ := mm_if h
        obtain ⟨f11, ef11, h⟩ := mm_bind h
        have E := eqH_tr (H_X0_noteCome ef11) E
        obtain ⟨r13, f12, ef12, h⟩ := mm_b2e h
        have E := eqH_tr (H_X0_holdsUp ef12) E
        by_cases c4 : r13 = 0
        · rw [if_pos c4] at h
          obtain ⟨f15, ef15, h⟩ := mm_bind h
          have E := eqH_tr (H_X1_end ef15) E
          obtain ⟨f16, ef16, h⟩ := mm_bind h
          have E := eqH_tr (H_X0_crack ef16) E
          obtain rfl := mm_p1 h
          exact E
        · rw [if_neg c4] at h
          obtain ⟨f17, ef17, h⟩ := mm_bind h
          have E := eqH_tr (H_X1_enter ef17) E
          obtain ⟨f18, ef18, h⟩ := mm_bind h
          have E := eqH_tr (H_X0_wearDown ef18) E
          obtain rfl := mm_p1 h
          exact E
      · rw [if_neg c3] at h
        obtain rfl := mm_p1 h
        exact E
    · rw [if_neg c2] at h
      obtain rfl := mm_p1 h
      exact E
set_option maxRecDepth 20000 in
theorem H_X6_copy_49 {f f' : F3} {rv : Int32} (h : S_X6_copy_49 f = some (rv, f')) : eqH f' f := by
  rw [S_X6_copy_49] at h
  have E : eqH f f := eqH_rf f
  obtain ⟨r14, f13, ef13, h⟩ := mm_b2e h
  have E := eqH_tr (H_X6_refuse ef13) E
  obtain ⟨rfl, rfl⟩ := mm_pr h
  exact E
set_option maxRecDepth 20000 in
theorem H_X6_copy {f f' : F3} {rv : Int32} {x1 : Int32} {x2 : Int32} {x3 : Int32} (h : S_X6_copy f x1 x2 x3 = some (rv, f')) : eqH f' f := by
  rw [S_X6_copy] at h
  have E : eqH f f := eqH_rf f
  by_cases c1 : (f 0 0 11) = 0
  · rw [if_pos c1] at h
    obtain ⟨r12, f11, ef11, h⟩ := mm_b2e h
    have E := eqH_tr (H_X6_refuse ef11) E
    obtain ⟨rfl, rfl⟩ := mm_pr h
    exact E
  · rw [if_neg c1] at h
    by_cases c2 : 0 ≤ x3
    · rw [if_pos c2] at h
      by_cases c3 : x1 < 0
      · rw [if_pos c3] at h
        exact eqH_tr (H_X6_copy_49  h) E
      · rw [if_neg c3] at h
        by_cases c4 : x2 < 0
        · rw [if_pos c4] at h
          exact eqH_tr (H_X6_copy_49  h) E
        · rw [if_neg c4] at h
          by_cases c5 : (48 - x3) < x1
          · rw [if_pos c5] at h
            exact eqH_tr (H_X6_copy_49  h) E
          · rw [if_neg c5] at h
            by_cases c6 : x2 ≤ (48 - x3)
            · rw [if_pos c6] at h
              obtain ⟨_, h⟩ := mm_if h
              obtain ⟨f8, ef8, h⟩ := mm_lt h
              have E := eqH_cp ef8 E
              obtain ⟨rfl, rfl⟩ := mm_pr h
              exact E
            · rw [if_neg c6] at h
              exact eqH_tr (H_X6_copy_49  h) E
    · rw [if_neg c2] at h
      obtain ⟨r10, f9, ef9, h⟩ := mm_b2e h
      have E := eqH_tr (H_X6_refuse ef9) E
      obtain ⟨rfl, rfl⟩ := mm_pr h
      exact E
set_option maxRecDepth 20000 in
theorem H_X6_loadsIn_31 {f f' : F3} {rv : Int32} {k4 : F3 → Int32 → Int32 → Int32 → Option (Int32 × F3)} (hk4 : ∀ (f : F3) (a0 : Int32) (a1 : Int32) (a2 : Int32), k4 f a0 a1 a2 = some (rv, f') → eqH f' f) {s0 : Int32} {s1 : Int32} {x1 : Int32} {x3 : Int32} (h : S_X6_loadsIn_31 k4 f s0 s1 x1 x3 = some (rv, f')) : eqH f' f := by
  rw [S_X6_loadsIn_31] at h
  have E : eqH f f := eqH_rf f
  exact eqH_tr (hk4 _ _ _ _ h) E
set_option maxRecDepth 20000 in
theorem H_X6_loadsIn_4 {f' : F3} {rv : Int32} : ∀ (n : Nat) {f : F3} {x1 : Int32} {x2 : Int32} {x3 : Int32}, S_X6_loadsIn_4 n f x1 x2 x3 = some (rv, f') → eqH f' f := by
  intro n
  induction n with
  | zero => intro f x1 x2 x3 h; cases h
  | succ n ih =>
    intro f x1 x2 x3 h
    rw [S_X6_loadsIn_4] at h
    have E : eqH f f := eqH_rf f
    by_cases c1 : (f 0 0 13) ≤ x3
    · rw [if_pos c1] at h
      obtain ⟨rfl, rfl⟩ := mm_pr h
      exact E
    · rw [if_neg c1] at h
      obtain ⟨_, h⟩ := mm_if h
      by_cases c2 : (f 2 x3.toNatClampNeg 3) = x1
      · rw [if_pos c2] at h
        exact eqH_tr (H_X6_loadsIn_31 (fun _ _ _ _ h9 => ih h9)  h) E
      · rw [if_neg c2] at h
        exact eqH_tr (H_X6_loadsIn_31 (fun _ _ _ _ h9 => ih h9)  h) E
set_option maxRecDepth 20000 in
theorem H_X6_loadsIn {f f' : F3} {rv : Int32} {x1 : Int32} (h : S_X6_loadsIn f x1 = some (rv, f')) : eqH f' f := by
  rw [S_X6_loadsIn] at h
  have E : eqH f f := eqH_rf f
  exact eqH_tr (H_X6_loadsIn_4 _ h) E
set_option maxRecDepth 20000 in
theorem H_X6_tonsDelivered_39 {f f' : F3} {rv : Int32} {k4 : F3 → Int32 → Int32 → Option (Int32 × F3)} (hk4 : ∀ (f : F3) (a0 : Int32) (a1 : Int32), k4 f a0 a1 = some (rv, f') → eqH f' f) {s0 : Int32} {s1 : Int32} {x2 : Int32} (h : S_X6_tonsDelivered_39 k4 f s0 s1 x2 = some (rv, f')) : eqH f' f := by
  rw [S_X6_tonsDelivered_39] at h
  have E : eqH f f := eqH_rf f
  exact eqH_tr (hk4 _ _ _ h) E
set_option maxRecDepth 20000 in
theorem H_X6_tonsDelivered_4 {f' : F3} {rv : Int32} : ∀ (n : Nat) {f : F3} {x1 : Int32} {x2 : Int32}, S_X6_tonsDelivered_4 n f x1 x2 = some (rv, f') → eqH f' f := by
  intro n
  induction n with
  | zero => intro f x1 x2 h; cases h
  | succ n ih =>
    intro f x1 x2 h
    rw [S_X6_tonsDelivered_4] at h
    have E : eqH f f := eqH_rf f
    by_cases c1 : (f 0 0 13) ≤ x2
    · rw [if_pos c1] at h
      obtain ⟨rfl, rfl⟩ := mm_pr h
      exact E
    · rw [if_neg c1] at h
      obtain ⟨_, h⟩ := mm_if h
      by_cases c2 : (f 2 x2.toNatClampNeg 3) = 2
      · rw [if_pos c2] at h
        exact eqH_tr (H_X6_tonsDelivered_39 (fun _ _ _ h9 => ih h9)  h) E
      · rw [if_neg c2] at h
        exact eqH_tr (H_X6_tonsDelivered_39 (fun _ _ _ h9 => ih h9)  h) E
set_option maxRecDepth 20000 in
theorem H_X6_tonsDelivered {f f' : F3} {rv : Int32} (h : S_X6_tonsDelivered f = some (rv, f')) : eqH f' f := by
  rw [S_X6_tonsDelivered] at h
  have E : eqH f f := eqH_rf f
  exact eqH_tr (H_X6_tonsDelivered_4 _ h) E
set_option maxRecDepth 20000 in
theorem H_X6_count {f f' : F3} {rv : Int32} {x1 : Int32} (h : S_X6_count f x1 = some (rv, f')) : eqH f' f := by
  rw [S_X6_count] at h
  have E : eqH f f := eqH_rf f
  by_cases c1 : x1 = 0
  · rw [if_pos c1] at h
    obtain ⟨rfl, rfl⟩ := mm_pr h
    exact E
  · rw [if_neg c1] at h
    by_cases c2 : x1 = 1
    · rw [if_pos c2] at h
      obtain ⟨rfl, rfl⟩ := mm_pr h
      exact E
    · rw [if_neg c2] at h
      by_cases c3 : x1 = 2
      · rw [if_pos c3] at h
        obtain ⟨rfl, rfl⟩ := mm_pr h
        exact E
      · rw [if_neg c3] at h
        by_cases c4 : x1 = 3
        · rw [if_pos c4] at h
          obtain ⟨rfl, rfl⟩ := mm_pr h
          exact E
        · rw [if_neg c4] at h
          by_cases c5 : x1 = 4
          · rw [if_pos c5] at h
            obtain ⟨rfl, rfl⟩ := mm_pr h
            exact E
          · rw [if_neg c5] at h
            by_cases c6 : x1 = 5
            · rw [if_pos c6] at h
              obtain ⟨r9, f8, ef8, h⟩ := mm_b2e h
              have E := eqH_tr (H_X6_loadsIn ef8) E
              obtain ⟨rfl, rfl⟩ := mm_pr h
              exact E
            · rw [if_neg c6] at h
              by_cases c7 : x1 = 6
              · rw [if_pos c7] at h
                obtain ⟨r12, f11, ef11, h⟩ := mm_b2e h
                have E := eqH_tr (H_X6_loadsIn ef11) E
                obtain ⟨rfl, rfl⟩ := mm_pr h
                exact E
              · rw [if_neg c7] at h
                by_cases c8 : x1 = 7
                · rw [if_pos c8] at h
                  obtain ⟨r15, f14, ef14, h⟩ := mm_b2e h
                  have E := eqH_tr (H_X6_loadsIn ef14) E
                  obtain ⟨rfl, rfl⟩ := mm_pr h
                  exact E
                · rw [if_neg c8] at h
                  by_cases c9 : x1 = 8
                  · rw [if_pos c9] at h
                    obtain ⟨r18, f17, ef17, h⟩ := mm_b2e h
                    have E := eqH_tr (H_X6_loadsIn ef17) E
                    obtain ⟨rfl, rfl⟩ := mm_pr h
                    exact E
                  · rw [if_neg c9] at h
                    by_cases c10 : x1 = 9
                    · rw [if_pos c10] at h
                      obtain ⟨r21, f20, ef20, h⟩ := mm_b2e h
                      have E := eqH_tr (H_X6_loadsIn ef20) E
                      obtain ⟨rfl, rfl⟩ := mm_pr h
                      exact E
                    · rw [if_neg c10] at h
                      by_cases c11 : x1 = 10
                      · rw [if_pos c11] at h
                        obtain ⟨r24, f23, ef23, h⟩ := mm_b2e h
                        have E := eqH_tr (H_X6_tonsDelivered ef23) E
                        obtain ⟨rfl, rfl⟩ := mm_pr h
                        exact E
                      · rw [if_neg c11] at h
                        obtain ⟨r26, f25, ef25, h⟩ := mm_b2e h
                        have E := eqH_tr (H_X6_refuse ef25) E
                        obtain ⟨rfl, rfl⟩ := mm_pr h
                        exact E
set_option maxRecDepth 20000 in
theorem H_X6_feed_48 {f' : F3} {rv : Int32} : ∀ (n : Nat) {f : F3} {x1 : Int32} {x3 : Int32}, S_X6_feed_48 n f x1 x3 = some (rv, f') → eqH f' f := by
  intro n
  induction n with
  | zero => intro f x1 x3 h; cases h
  | succ n ih =>
    intro f x1 x3 h
    rw [S_X6_feed_48] at h
    have E : eqH f f := eqH_rf f
    by_cases c1 : x3 < 0
    · rw [if_pos c1] at h
      obtain ⟨rfl, rfl⟩ := mm_pr h
      exact E
    · rw [if_neg c1] at h
      obtain ⟨f11, ef11, h⟩ := mm_bind h
      have E := eqH_tr (H_X4_put ef11) E
      exact eqH_tr (ih h) E
set_option maxRecDepth 20000 in
theorem H_X6_feed {f f' : F3} {rv : Int32} {x1 : Int32} {x2 : Int32} (h : S_X6_feed f x1 x2 = some (rv, f')) : eqH f' f := by
  rw [S_X6_feed] at h
  have E : eqH f f := eqH_rf f
  by_cases c1 : 0 ≤ x2
  · rw [if_pos c1] at h
    by_cases c2 : x2 ≤ 4
    · rw [if_pos c2] at h
      by_cases c3 : ((f 5 0 1) + x2) ≤ 80
      · rw [if_pos c3] at h
        exact eqH_tr (H_X6_feed_48 _ h) E
      · rw [if_neg c3] at h
        obtain ⟨r5, f4, ef4, h⟩ := mm_b2e h
        have E := eqH_tr (H_X6_refuse ef4) E
        obtain ⟨rfl, rfl⟩ := mm_pr h
        exact E
    · rw [if_neg c2] at h
      obtain ⟨r7, f6, ef6, h⟩ := mm_b2e h
      have E := eqH_tr (H_X6_refuse ef6) E
      obtain ⟨rfl, rfl⟩ := mm_pr h
      exact E
  · rw [if_neg c1] at h
    obtain ⟨r9, f8, ef8, h⟩ := mm_b2e h
    have E := eqH_tr (H_X6_refuse ef8) E
    obtain ⟨rfl, rfl⟩ := mm_pr h
    exact E
set_option maxRecDepth 20000 in
theorem H_X6_flood_45 {f f' : F3} {rv : Int32} {i2 : Nat} (h : S_X6_flood_45 f i2 = some (rv, f')) : eqH f' f := by
  rw [S_X6_flood_45] at h
  have E : eqH f f := eqH_rf f
  obtain ⟨f11, ef11, h⟩ := mm_bind h
  have E := eqH_tr (H_X0_become ef11) E
  obtain ⟨rfl, rfl⟩ := mm_pr h
  exact E
set_option maxRecDepth 20000 in
theorem H_X6_flood {f f' : F3} {rv : Int32} {x1 : Int32} (h : S_X6_flood f x1 = some (rv, f')) : eqH f' f := by
  rw [S_X6_flood] at h
  have E : eqH f f := eqH_rf f
  obtain ⟨r2, f1, ef1, h⟩ := mm_b2e h
  have E := eqH_tr (H_X6_isCell ef1) E
  by_cases c1 : r2 = 0
  · rw [if_pos c1] at h
    obtain ⟨r10, f9, ef9, h⟩ := mm_b2e h
    have E := eqH_tr (H_X6_refuse ef9) E
    obtain ⟨rfl, rfl⟩ := mm_pr h
    exact E
  · rw [if_neg c1] at h
    obtain ⟨_, h⟩ := mm_if h
    by_cases c2 : (f1 1 x1.toNatClampNeg 0) = 1
    · rw [if_pos c2] at h
      exact eqH_tr (H_X6_flood_45  h) E
    · rw [if_neg c2] at h
      by_cases c3 : (f1 1 x1.toNatClampNeg 0) = 2
      · rw [if_pos c3] at h
        exact eqH_tr (H_X6_flood_45  h) E
      · rw [if_neg c3] at h
        obtain ⟨r8, f7, ef7, h⟩ := mm_b2e h
        have E := eqH_tr (H_X6_refuse ef7) E
        obtain ⟨rfl, rfl⟩ := mm_pr h
        exact E
set_option maxRecDepth 20000 in
theorem H_X6_heat {f f' : F3} {rv : Int32} {x1 : Int32} (h : S_X6_heat f x1 = some (rv, f')) : eqH f' f := by
  rw [S_X6_heat] at h
  have E : eqH f f := eqH_rf f
  by_cases c1 : 0 ≤ x1
  · rw [if_pos c1] at h
    obtain ⟨r3, f2, ef2, h⟩ := mm_b2e h
    have E := eqH_tr (H_X5_heatOf ef2) E
    obtain ⟨rfl, rfl⟩ := mm_pr h
    exact E
  · rw [if_neg c1] at h
    obtain ⟨r5, f4, ef4, h⟩ := mm_b2e h
    have E := eqH_tr (H_X6_refuse ef4) E
    obtain ⟨rfl, rfl⟩ := mm_pr h
    exact E
set_option maxRecDepth 20000 in
theorem H_X6_hoursHeldUp_21 {f' : F3} {rv : Int32} : ∀ (n : Nat) {f : F3} {x2 : Int32} {x3 : Int32} {x4 : Int32} {x5 : Int32}, S_X6_hoursHeldUp_21 n f x2 x3 x4 x5 = some (rv, f') → eqH f' f := by
  intro n
  induction n with
  | zero => intro f x2 x3 x4 x5 h; cases h
  | succ n ih =>
    intro f x2 x3 x4 x5 h
    rw [S_X6_hoursHeldUp_21] at h
    have E : eqH f f := eqH_rf f
    by_cases c1 : x4 ≤ x5
    · rw [if_pos c1] at h
      obtain ⟨rfl, rfl⟩ := mm_pr h
      exact E
    · rw [if_neg c1] at h
      obtain ⟨f6, ef6, h⟩ := mm_bind h
      have E := eqH_tr (H_X0_passHour ef6) E
      obtain ⟨r8, f7, ef7, h⟩ := mm_b2e h
      have E := eqH_tr (H_X0_holdsUp ef7) E
      by_cases c2 : r8 = 0
      · rw [if_pos c2] at h
        obtain ⟨rfl, rfl⟩ := mm_pr h
        exact E
      · rw [if_neg c2] at h
        exact eqH_tr (ih h) E
set_option maxRecDepth 20000 in
theorem H_X6_hoursHeldUp {f f' : F3} {rv : Int32} {i1 : Nat} {x2 : Int32} {x3 : Int32} {x4 : Int32} (h : S_X6_hoursHeldUp f i1 x2 x3 x4 = some (rv, f')) : eqH f' f := by
  rw [S_X6_hoursHeldUp] at h
  have E : eqH f f := eqH_rf f
  obtain ⟨r2, f1, ef1, h⟩ := mm_b2e h
  have E := eqH_tr (H_X0_holdsUp ef1) E
  by_cases c1 : r2 = 0
  · rw [if_pos c1] at h
    obtain ⟨rfl, rfl⟩ := mm_pr h
    exact E
  · rw [if_neg c1] at h
    obtain ⟨f4, ef4, h⟩ := mm_bind h
    have E := eqH_tr (H_X0_takeAfter ef4) E
    exact eqH_tr (H_X6_hoursHeldUp_21 _ h) E
set_option maxRecDepth 20000 in
theorem H_X6_isLoad {f f' : F3} {rv : Int32} {x1 : Int32} (h : S_X6_isLoad f x1 = some (rv, f')) : eqH f' f := by
  rw [S_X6_isLoad] at h
  have E : eqH f f := eqH_rf f
  by_cases c1 : x1 < 0
  · rw [if_pos c1] at h
    obtain ⟨rfl, rfl⟩ := mm_pr h
    exact E
  · rw [if_neg c1] at h
    by_cases c2 : (f 0 0 13) ≤ x1
    · rw [if_pos c2] at h
      obtain ⟨rfl, rfl⟩ := mm_pr h
      exact E
    · rw [if_neg c2] at h
      obtain ⟨rfl, rfl⟩ := mm_pr h
      exact E
set_option maxRecDepth 20000 in
theorem H_X6_lastPlace {f f' : F3} {rv : Int32} {x1 : Int32} (h : S_X6_lastPlace f x1 = some (rv, f')) : eqH f' f := by
  rw [S_X6_lastPlace] at h
  have E : eqH f f := eqH_rf f
  by_cases c1 : x1 = 0
  · rw [if_pos c1] at h
    obtain ⟨rfl, rfl⟩ := mm_pr h
    exact E
  · rw [if_neg c1] at h
    obtain ⟨rfl, rfl⟩ := mm_pr h
    exact E
set_option maxRecDepth 20000 in
theorem H_X6_lineUp_47 {f f' : F3} {i1 : Nat} {x2 : Int32} (h : S_X6_lineUp_47 f i1 x2 = some f') : eqH f' f := by
  rw [S_X6_lineUp_47] at h
  have E : eqH f f := eqH_rf f
  obtain ⟨_, h⟩ := mm_if h
  obtain ⟨f8, ef8, h⟩ := mm_lt h
  have E := eqH_up ef8 (by simp) E
  obtain rfl := mm_p1 h
  exact E
set_option maxRecDepth 20000 in
theorem H_X6_lineUp_5 {f' : F3} : ∀ (n : Nat) {f : F3} {i1 : Nat} {x2 : Int32}, S_X6_lineUp_5 n f i1 x2 = some f' → eqH f' f := by
  intro n
  induction n with
  | zero => intro f i1 x2 h; cases h
  | succ n ih =>
    intro f i1 x2 h
    rw [S_X6_lineUp_5] at h
    have E : eqH f f := eqH_rf f
    by_cases c1 : x2 ≤ 0
    · rw [if_pos c1] at h
      exact eqH_tr (H_X6_lineUp_47  h) E
    · rw [if_neg c1] at h
      obtain ⟨_, h⟩ := mm_if h
      obtain ⟨_, h⟩ := mm_if h
      by_cases c2 : (f 2 i1 1) ≤ (f 2 ((f 9 0 (x2 - 1).toNatClampNeg).toNatClampNeg) 1)
      · rw [if_pos c2] at h
        exact eqH_tr (H_X6_lineUp_47  h) E
      · rw [if_neg c2] at h
        obtain ⟨_, h⟩ := mm_if h
        obtain ⟨f6, ef6, h⟩ := mm_lt h
        have E := eqH_up ef6 (by simp) E
        exact eqH_tr (ih h) E
set_option maxRecDepth 20000 in
theorem H_X6_lineUp {f f' : F3} {i1 : Nat} (h : S_X6_lineUp f i1 = some f') : eqH f' f := by
  rw [S_X6_lineUp] at h
  have E : eqH f f := eqH_rf f
  exact eqH_tr (H_X6_lineUp_5 _ h) E
set_option maxRecDepth 20000 in
theorem H_X6_load_34 {f f' : F3} {rv : Int32} {s0 : Int32} {x1 : Int32} {x2 : Int32} {x3 : Int32} (h : S_X6_load_34 f s0 x1 x2 x3 = some (rv, f')) : eqH f' f := by
  rw [S_X6_load_34] at h
  have E : eqH f f := eqH_rf f
  by_cases c1 : s0 = 0
  · rw [if_pos c1] at h
    obtain ⟨r21, f20, ef20, h⟩ := mm_b2e h
    have E := eqH_tr (H_X6_refuse ef20) E
    obtain ⟨rfl, rfl⟩ := mm_pr h
    exact E
  · rw [if_neg c1] at h
    by_cases c2 : (f 0 0 13) < 24
    · rw [if_pos c2] at h
      obtain ⟨_, h⟩ := mm_if h
      obtain ⟨f13, ef13, h⟩ := mm_lt h
      have E := eqH_up ef13 (by simp) E
      obtain ⟨f14, ef14, h⟩ := mm_lt h
      have E := eqH_up ef14 (by simp) E
      obtain ⟨f15, ef15, h⟩ := mm_lt h
      have E := eqH_up ef15 (by simp) E
      obtain ⟨f16, ef16, h⟩ := mm_bind h
      have E := eqH_tr (H_X6_lineUp ef16) E
      obtain ⟨f17, ef17, h⟩ := mm_lt h
      have E := eqH_up ef17 (by simp) E
      obtain ⟨rfl, rfl⟩ := mm_pr h
      exact E
    · rw [if_neg c2] at h
      obtain ⟨r19, f18, ef18, h⟩ := mm_b2e h
      have E := eqH_tr (H_X6_refuse ef18) E
      obtain ⟨rfl, rfl⟩ := mm_pr h
      exact E
set_option maxRecDepth 20000 in
theorem H_X6_load_33 {f f' : F3} {rv : Int32} {x1 : Int32} {x2 : Int32} {x3 : Int32} (h : S_X6_load_33 f x1 x2 x3 = some (rv, f')) : eqH f' f := by
  rw [S_X6_load_33] at h
  have E : eqH f f := eqH_rf f
  exact eqH_tr (H_X6_load_34  h) E
set_option maxRecDepth 20000 in
theorem H_X6_load {f f' : F3} {rv : Int32} {x1 : Int32} {x2 : Int32} {x3 : Int32} (h : S_X6_load f x1 x2 x3 = some (rv, f')) : eqH f' f := by
  rw [S_X6_load] at h
  have E : eqH f f := eqH_rf f
  obtain ⟨r2, f1, ef1, h⟩ := mm_b2e h
  have E := eqH_tr (H_X6_isWithin ef1) E
  by_cases c1 : r2 = 0
  · rw [if_pos c1] at h
    exact eqH_tr (H_X6_load_33  h) E
  · rw [if_neg c1] at h
    obtain ⟨r5, f4, ef4, h⟩ := mm_b2e h
    have E := eqH_tr (H_X6_isWithin ef4) E
    by_cases c2 : r5 = 0
    · rw [if_pos c2] at h
      exact eqH_tr (H_X6_load_33  h) E
    · rw [if_neg c2] at h
      obtain ⟨r8, f7, ef7, h⟩ := mm_b2e h
      have E := eqH_tr (H_X6_isWithin ef7) E
      by_cases c3 : r8 = 0
      · rw [if_pos c3] at h
        exact eqH_tr (H_X6_load_33  h) E
      · rw [if_neg c3] at h
        exact eqH_tr (H_X6_load_34  h) E
set_option maxRecDepth 20000 in
theorem H_X6_mostOf_62 {f f' : F3} {rv : Int32} {x3 : Int32} {x4 : Int32} (h : S_X6_mostOf_62 f x3 x4 = some (rv, f')) : eqH f' f := by
  rw [S_X6_mostOf_62] at h
  have E : eqH f f := eqH_rf f
  obtain ⟨rfl, rfl⟩ := mm_pr h
  exact E
set_option maxRecDepth 20000 in
theorem H_X6_mostOf {f f' : F3} {rv : Int32} {x1 : Int32} (h : S_X6_mostOf f x1 = some (rv, f')) : eqH f' f := by
  rw [S_X6_mostOf] at h
  have E : eqH f f := eqH_rf f
  obtain ⟨_, h⟩ := mm_if h
  by_cases c1 : (f 1 x1.toNatClampNeg 0) = 4
  · rw [if_pos c1] at h
    obtain ⟨rfl, rfl⟩ := mm_pr h
    exact E
  · rw [if_neg c1] at h
    by_cases c2 : (f 1 x1.toNatClampNeg 7) = (-1)
    · rw [if_pos c2] at h
      obtain ⟨r5, f4, ef4, h⟩ := mm_b2e h
      have E := eqH_tr (H_X6_nearestKnown ef4) E
      obtain ⟨r7, f6, ef6, h⟩ := mm_b2e h
      have E := eqH_tr (H_X6_nearestKnown ef6) E
      by_cases c3 : r5 = (-1)
      · rw [if_pos c3] at h
        by_cases c4 : r7 = (-1)
        · rw [if_pos c4] at h
          obtain ⟨rfl, rfl⟩ := mm_pr h
          exact E
        · rw [if_neg c4] at h
          exact eqH_tr (H_X6_mostOf_62  h) E
      · rw [if_neg c3] at h
        exact eqH_tr (H_X6_mostOf_62  h) E
    · rw [if_neg c2] at h
      obtain ⟨rfl, rfl⟩ := mm_pr h
      exact E
set_option maxRecDepth 20000 in
theorem H_X6_look {f f' : F3} {rv : Int32} {x1 : Int32} {x2 : Int32} (h : S_X6_look f x1 x2 = some (rv, f')) : eqH f' f := by
  rw [S_X6_look] at h
  have E : eqH f f := eqH_rf f
  obtain ⟨r2, f1, ef1, h⟩ := mm_b2e h
  have E := eqH_tr (H_X6_isCell ef1) E
  by_cases c1 : r2 = 0
  · rw [if_pos c1] at h
    obtain ⟨r26, f25, ef25, h⟩ := mm_b2e h
    have E := eqH_tr (H_X6_refuse ef25) E
    obtain ⟨rfl, rfl⟩ := mm_pr h
    exact E
  · rw [if_neg c1] at h
    obtain ⟨_, h⟩ := mm_if h
    by_cases c2 : x2 = 0
    · rw [if_pos c2] at h
      obtain ⟨rfl, rfl⟩ := mm_pr h
      exact E
    · rw [if_neg c2] at h
      by_cases c3 : x2 = 1
      · rw [if_pos c3] at h
        obtain ⟨rfl, rfl⟩ := mm_pr h
        exact E
      · rw [if_neg c3] at h
        by_cases c4 : x2 = 2
        · rw [if_pos c4] at h
          obtain ⟨rfl, rfl⟩ := mm_pr h
          exact E
        · rw [if_neg c4] at h
          by_cases c5 : x2 = 3
          · rw [if_pos c5] at h
            obtain ⟨rfl, rfl⟩ := mm_pr h
            exact E
          · rw [if_neg c5] at h
            by_cases c6 : x2 = 4
            · rw [if_pos c6] at h
              obtain ⟨rfl, rfl⟩ := mm_pr h
              exact E
            · rw [if_neg c6] at h
              by_cases c7 : x2 = 5
              · rw [if_pos c7] at h
                obtain ⟨rfl, rfl⟩ := mm_pr h
                exact E
              · rw [if_neg c7] at h
                by_cases c8 : x2 = 6
                · rw [if_pos c8] at h
                  by_cases c9 : (f1 1 x1.toNatClampNeg 0) = 3
                  · rw [if_pos c9] at h
                    obtain ⟨rfl, rfl⟩ := mm_pr h
                    exact E
                  · rw [if_neg c9] at h
                    obtain ⟨rfl, rfl⟩ := mm_pr h
                    exact E
                · rw [if_neg c8] at h
                  by_cases c10 : x2 = 7
                  · rw [if_pos c10] at h
                    obtain ⟨r16, f15, ef15, h⟩ := mm_b2e h
                    have E := eqH_tr (H_X6_leastOf ef15) E
                    obtain ⟨rfl, rfl⟩ := mm_pr h
                    exact E
                  · rw [if_neg c10] at h
                    by_cases c11 : x2 = 8
                    · rw [if_pos c11] at h
                      obtain ⟨r19, f18, ef18, h⟩ := mm_b2e h
                      have E := eqH_tr (H_X6_mostOf ef18) E
                      obtain ⟨rfl, rfl⟩ := mm_pr h
                      exact E
                    · rw [if_neg c11] at h
                      by_cases c12 : x2 = 9
                      · rw [if_pos c12] at h
                        obtain ⟨r22, f21, ef21, h⟩ := mm_b2e h
                        have E := eqH_tr (H_X6_loadsOn ef21) E
                        obtain ⟨rfl, rfl⟩ := mm_pr h
                        exact E
                      · rw [if_neg c12] at h
                        obtain ⟨r24, f23, ef23, h⟩ := mm_b2e h
                        have E := eqH_tr (H_X6_refuse ef23) E
                        obtain ⟨rfl, rfl⟩ := mm_pr h
                        exact E
set_option maxRecDepth 20000 in
theorem H_X6_may_16 {f f' : F3} {rv : Int32} (h : S_X6_may_16 f = some (rv, f')) : eqH f' f := by
  rw [S_X6_may_16] at h
  have E : eqH f f := eqH_rf f
  obtain ⟨r12, f11, ef11, h⟩ := mm_b2e h
  have E := eqH_tr (H_X6_refuse ef11) E
  obtain ⟨rfl, rfl⟩ := mm_pr h
  exact E
set_option maxRecDepth 20000 in
theorem H_X6_may {f f' : F3} {rv : Int32} {x1 : Int32} {x2 : Int32} (h : S_X6_may f x1 x2 = some (rv, f')) : eqH f' f := by
  rw [S_X6_may] at h
  have E : eqH f f := eqH_rf f
  obtain ⟨r2, f1, ef1, h⟩ := mm_b2e h
  have E := eqH_tr (H_X6_isLoad ef1) E
  by_cases c1 : r2 = 0
  · rw [if_pos c1] at h
    exact eqH_tr (H_X6_may_16  h) E
  · rw [if_neg c1] at h
    obtain ⟨r5, f4, ef4, h⟩ := mm_b2e h
    have E := eqH_tr (H_X6_isCell ef4) E
    by_cases c2 : r5 = 0
    · rw [if_pos c2] at h
      exact eqH_tr (H_X6_may_16  h) E
    · rw [if_neg c2] at h
      obtain ⟨_, h⟩ := mm_if h
      obtain ⟨r9, f8, ef8, h⟩ := mm_b2e h
      have E := eqH_tr (H_X6_reasonAgainst ef8) E
      by_cases c3 : r9 = 0
      · rw [if_pos c3] at h
        obtain ⟨rfl, rfl⟩ := mm_pr h
        exact E
      · rw [if_neg c3] at h
        obtain ⟨rfl, rfl⟩ := mm_pr h
        exact E
set_option maxRecDepth 20000 in
theorem H_X6_moveLoadsOnCells_109 {f f' : F3} {k2 : F3 → Int32 → Option F3} (hk2 : ∀ (f : F3) (a0 : Int32), k2 f a0 = some f' → eqH f' f) {x1 : Int32} (h : S_X6_moveLoadsOnCells_109 k2 f x1 = some f') : eqH f' f := by
  rw [S_X6_moveLoadsOnCells_109] at h
  have E : eqH f f := eqH_rf f
  exact eqH_tr (hk2 _ _ h) E
set_option maxRecDepth 20000 in
theorem H_X6_moveLoadsOnCells_106 {f f' : F3} {k2 : F3 → Int32 → Option F3} (hk2 : ∀ (f : F3) (a0 : Int32), k2 f a0 = some f' → eqH f' f) {t1 : Nat} {s2 : Int32} {x1 : Int32} (h : S_X6_moveLoadsOnCells_106 k2 f t1 s2 x1 = some f') : eqH f' f := by
  rw [S_X6_moveLoadsOnCells_106] at h
  have E : eqH f f := eqH_rf f
  obtain ⟨f15, ef15, h⟩ := mm_bind h
  have E := eqH_tr (H_X6_comeIfItCan ef15) E
  exact eqH_tr (H_X6_moveLoadsOnCells_109 hk2  h) E
set_option maxRecDepth 20000 in
theorem H_X6_moveLoadsOnCells_2 {f' : F3} : ∀ (n : Nat) {f : F3} {x1 : Int32}, S_X6_moveLoadsOnCells_2 n f x1 = some f' → eqH f' f := by
  intro n
  induction n with
  | zero => intro f x1 h; cases h
  | succ n ih =>
    intro f x1 h
    rw [S_X6_moveLoadsOnCells_2] at h
    have E : eqH f f := eqH_rf f
    by_cases c1 : (f 0 0 13) ≤ x1
    · rw [if_pos c1] at h
      obtain rfl := mm_p1 h
      exact E
    · rw [if_neg c1] at h
      obtain ⟨_, h⟩ := mm_if h
      obtain ⟨_, h⟩ := mm_if h
      by_cases c2 : (f 2 ((f 9 0 x1.toNatClampNeg).toNatClampNeg) 3) = 1
      · rw [if_pos c2] at h
        obtain ⟨r6, f5, ef5, h⟩ := mm_b2e h
        have E := eqH_tr (H_X6_isCell ef5) E
        by_cases c3 : r6 = 0
        · rw [if_pos c3] at h
          exact eqH_tr (H_X6_moveLoadsOnCells_109 (fun _ _ h9 => ih h9)  h) E
        · rw [if_neg c3] at h
          obtain ⟨_, h⟩ := mm_if h
          by_cases c4 : (f5 2 ((f 9 0 x1.toNatClampNeg).toNatClampNeg) 5) < (f5 1 ((f5 2 ((f 9 0 x1.toNatClampNeg).toNatClampNeg) 4).toNatClampNeg) 4)
          · rw [if_pos c4] at h
            exact eqH_tr (H_X6_moveLoadsOnCells_109 (fun _ _ h9 => ih h9)  h) E
          · rw [if_neg c4] at h
            obtain ⟨r11, f10, ef10, h⟩ := mm_b2e h
            have E := eqH_tr (H_X6_lastPlace ef10) E
            by_cases c5 : (f5 2 ((f 9 0 x1.toNatClampNeg).toNatClampNeg) 4) = r11
            · rw [if_pos c5] at h
              obtain ⟨f14, ef14, h⟩ := mm_bind h
              have E := eqH_tr (H_X1_end ef14) E
              exact eqH_tr (H_X6_moveLoadsOnCells_109 (fun _ _ h9 => ih h9)  h) E
            · rw [if_neg c5] at h
              by_cases c6 : (f10 2 ((f 9 0 x1.toNatClampNeg).toNatClampNeg) 2) = 0
              · rw [if_pos c6] at h
                exact eqH_tr (H_X6_moveLoadsOnCells_106 (fun _ _ h9 => ih h9)  h) E
              · rw [if_neg c6] at h
                exact eqH_tr (H_X6_moveLoadsOnCells_106 (fun _ _ h9 => ih h9)  h) E
      · rw [if_neg c2] at h
        exact eqH_tr (H_X6_moveLoadsOnCells_109 (fun _ _ h9 => ih h9)  h) E
set_option maxRecDepth 20000 in
theorem H_X6_moveLoadsOnCells {f f' : F3} (h : S_X6_moveLoadsOnCells f = some f') : eqH f' f := by
  rw [S_X6_moveLoadsOnCells] at h
  have E : eqH f f := eqH_rf f
  exact eqH_tr (H_X6_moveLoadsOnCells_2 _ h) E
set_option maxRecDepth 20000 in
theorem H_X6_moveWaitingLoads_46 {f f' : F3} {k2 : F3 → Int32 → Option F3} (hk2 : ∀ (f : F3) (a0 : Int32), k2 f a0 = some f' → eqH f' f) {x1 : Int32} (h : S_X6_moveWaitingLoads_46 k2 f x1 = some f') : eqH f' f := by
  rw [S_X6_moveWaitingLoads_46] at h
  have E : eqH f f := eqH_rf f
  exact eqH_tr (hk2 _ _ h) E
set_option maxRecDepth 20000 in
theorem H_X6_moveWaitingLoads_43 {f f' : F3} {k2 : F3 → Int32 → Option F3} (hk2 : ∀ (f : F3) (a0 : Int32), k2 f a0 = some f' → eqH f' f) {t1 : Nat} {s2 : Int32} {x1 : Int32} (h : S_X6_moveWaitingLoads_43 k2 f t1 s2 x1 = some f') : eqH f' f := by
  rw [S_X6_moveWaitingLoads_43] at h
  have E : eqH f f := eqH_rf f
  obtain ⟨f6, ef6, h⟩ := mm_bind h
  have E := eqH_tr (H_X6_comeIfItCan ef6) E
  exact eqH_tr (H_X6_moveWaitingLoads_46 hk2  h) E
set_option maxRecDepth 20000 in
theorem H_X6_moveWaitingLoads_2 {f' : F3} : ∀ (n : Nat) {f : F3} {x1 : Int32}, S_X6_moveWaitingLoads_2 n f x1 = some f' → eqH f' f := by
  intro n
  induction n with
  | zero => intro f x1 h; cases h
  | succ n ih =>
    intro f x1 h
    rw [S_X6_moveWaitingLoads_2] at h
    have E : eqH f f := eqH_rf f
    by_cases c1 : (f 0 0 13) ≤ x1
    · rw [if_pos c1] at h
      obtain rfl := mm_p1 h
      exact E
    · rw [if_neg c1] at h
      obtain ⟨_, h⟩ := mm_if h
      obtain ⟨_, h⟩ := mm_if h
      by_cases c2 : (f 2 ((f 9 0 x1.toNatClampNeg).toNatClampNeg) 3) = 0
      · rw [if_pos c2] at h
        by_cases c3 : (f 2 ((f 9 0 x1.toNatClampNeg).toNatClampNeg) 2) = 0
        · rw [if_pos c3] at h
          exact eqH_tr (H_X6_moveWaitingLoads_43 (fun _ _ h9 => ih h9)  h) E
        · rw [if_neg c3] at h
          exact eqH_tr (H_X6_moveWaitingLoads_43 (fun _ _ h9 => ih h9)  h) E
      · rw [if_neg c2] at h
        exact eqH_tr (H_X6_moveWaitingLoads_46 (fun _ _ h9 => ih h9)  h) E
set_option maxRecDepth 20000 in
theorem H_X6_moveWaitingLoads {f f' : F3} (h : S_X6_moveWaitingLoads f = some f') : eqH f' f := by
  rw [S_X6_moveWaitingLoads] at h
  have E : eqH f f := eqH_rf f
  exact eqH_tr (H_X6_moveWaitingLoads_2 _ h) E
set_option maxRecDepth 20000 in
theorem H_X6_of {f f' : F3} {rv : Int32} {x1 : Int32} {x2 : Int32} (h : S_X6_of f x1 x2 = some (rv, f')) : eqH f' f := by
  rw [S_X6_of] at h
  have E : eqH f f := eqH_rf f
  obtain ⟨r2, f1, ef1, h⟩ := mm_b2e h
  have E := eqH_tr (H_X6_isLoad ef1) E
  by_cases c1 : r2 = 0
  · rw [if_pos c1] at h
    obtain ⟨r16, f15, ef15, h⟩ := mm_b2e h
    have E := eqH_tr (H_X6_refuse ef15) E
    obtain ⟨rfl, rfl⟩ := mm_pr h
    exact E
  · rw [if_neg c1] at h
    obtain ⟨_, h⟩ := mm_if h
    by_cases c2 : x2 = 0
    · rw [if_pos c2] at h
      obtain ⟨rfl, rfl⟩ := mm_pr h
      exact E
    · rw [if_neg c2] at h
      by_cases c3 : x2 = 1
      · rw [if_pos c3] at h
        obtain ⟨rfl, rfl⟩ := mm_pr h
        exact E
      · rw [if_neg c3] at h
        by_cases c4 : x2 = 2
        · rw [if_pos c4] at h
          obtain ⟨rfl, rfl⟩ := mm_pr h
          exact E
        · rw [if_neg c4] at h
          by_cases c5 : x2 = 3
          · rw [if_pos c5] at h
            obtain ⟨rfl, rfl⟩ := mm_pr h
            exact E
          · rw [if_neg c5] at h
            by_cases c6 : x2 = 4
            · rw [if_pos c6] at h
              obtain ⟨rfl, rfl⟩ := mm_pr h
              exact E
            · rw [if_neg c6] at h
              by_cases c7 : x2 = 5
              · rw [if_pos c7] at h
                obtain ⟨rfl, rfl⟩ := mm_pr h
                exact E
              · rw [if_neg c7] at h
                by_cases c8 : x2 = 6
                · rw [if_pos c8] at h
                  obtain ⟨rfl, rfl⟩ := mm_pr h
                  exact E
                · rw [if_neg c8] at h
                  obtain ⟨r14, f13, ef13, h⟩ := mm_b2e h
                  have E := eqH_tr (H_X6_refuse ef13) E
                  obtain ⟨rfl, rfl⟩ := mm_pr h
                  exact E
set_option maxRecDepth 20000 in
theorem H_X6_read {f f' : F3} {rv : Int32} {x1 : Int32} (h : S_X6_read f x1 = some (rv, f')) : eqH f' f := by
  rw [S_X6_read] at h
  have E : eqH f f := eqH_rf f
  obtain ⟨r2, f1, ef1, h⟩ := mm_b2e h
  have E := eqH_tr (H_X6_isCell ef1) E
  by_cases c1 : r2 = 0
  · rw [if_pos c1] at h
    obtain ⟨r10, f9, ef9, h⟩ := mm_b2e h
    have E := eqH_tr (H_X6_refuse ef9) E
    obtain ⟨rfl, rfl⟩ := mm_pr h
    exact E
  · rw [if_neg c1] at h
    obtain ⟨_, h⟩ := mm_if h
    by_cases c2 : (f1 1 x1.toNatClampNeg 0) = 4
    · rw [if_pos c2] at h
      obtain ⟨r8, f7, ef7, h⟩ := mm_b2e h
      have E := eqH_tr (H_X6_refuse ef7) E
      obtain ⟨rfl, rfl⟩ := mm_pr h
      exact E
    · rw [if_neg c2] at h
      obtain ⟨f6, ef6, h⟩ := mm_lt h
      have E := eqH_up ef6 (by simp) E
      obtain ⟨rfl, rfl⟩ := mm_pr h
      exact E
set_option maxRecDepth 20000 in
theorem H_X6_row {f f' : F3} {rv : Int32} {x1 : Int32} (h : S_X6_row f x1 = some (rv, f')) : eqH f' f := by
  rw [S_X6_row] at h
  have E : eqH f f := eqH_rf f
  by_cases c1 : (f 0 0 11) = 0
  · rw [if_pos c1] at h
    obtain ⟨r9, f8, ef8, h⟩ := mm_b2e h
    have E := eqH_tr (H_X6_refuse ef8) E
    obtain ⟨rfl, rfl⟩ := mm_pr h
    exact E
  · rw [if_neg c1] at h
    obtain ⟨r3, f2, ef2, h⟩ := mm_b2e h
    have E := eqH_tr (H_X6_isWithin ef2) E
    by_cases c2 : r3 = 0
    · rw [if_pos c2] at h
      obtain ⟨r7, f6, ef6, h⟩ := mm_b2e h
      have E := eqH_tr (H_X6_refuse ef6) E
      obtain ⟨rfl, rfl⟩ := mm_pr h
      exact E
    · rw [if_neg c2] at h
      obtain ⟨_, h⟩ := mm_if h
      obtain ⟨rfl, rfl⟩ := mm_pr h
      exact E
set_option maxRecDepth 20000 in
theorem H_X6_rule_25 {f f' : F3} {rv : Int32} (h : S_X6_rule_25 f = some (rv, f')) : eqH f' f := by
  rw [S_X6_rule_25] at h
  have E : eqH f f := eqH_rf f
  obtain ⟨r20, f19, ef19, h⟩ := mm_b2e h
  have E := eqH_tr (H_X6_refuse ef19) E
  obtain ⟨rfl, rfl⟩ := mm_pr h
  exact E
set_option maxRecDepth 20000 in
theorem H_X6_rule {f f' : F3} {rv : Int32} {x1 : Int32} {x2 : Int32} (h : S_X6_rule f x1 x2 = some (rv, f')) : eqH f' f := by
  rw [S_X6_rule] at h
  have E : eqH f f := eqH_rf f
  obtain ⟨r2, f1, ef1, h⟩ := mm_b2e h
  have E := eqH_tr (H_X6_isWithin ef1) E
  by_cases c1 : r2 = 0
  · rw [if_pos c1] at h
    exact eqH_tr (H_X6_rule_25  h) E
  · rw [if_neg c1] at h
    obtain ⟨r5, f4, ef4, h⟩ := mm_b2e h
    have E := eqH_tr (H_X6_isWithin ef4) E
    by_cases c2 : r5 = 0
    · rw [if_pos c2] at h
      exact eqH_tr (H_X6_rule_25  h) E
    · rw [if_neg c2] at h
      by_cases c3 : x1 < x2
      · rw [if_pos c3] at h
        by_cases c4 : (f4 0 0 14) < 10
        · rw [if_pos c4] at h
          obtain ⟨_, h⟩ := mm_if h
          obtain ⟨r11, f10, ef10, h⟩ := mm_b2e h
          have E := eqH_tr (H_X3_takeRule ef10) E
          by_cases c5 : r11 = 0
          · rw [if_pos c5] at h
            obtain ⟨rfl, rfl⟩ := mm_pr h
            exact E
          · rw [if_neg c5] at h
            obtain ⟨f13, ef13, h⟩ := mm_lt h
            have E := eqH_up ef13 (by simp) E
            obtain ⟨f14, ef14, h⟩ := mm_lt h
            have E := eqH_up ef14 (by simp) E
            obtain ⟨f15, ef15, h⟩ := mm_lt h
            have E := eqH_up ef15 (by simp) E
            obtain ⟨f16, ef16, h⟩ := mm_lt h
            have E := eqH_up ef16 (by simp) E
            obtain ⟨rfl, rfl⟩ := mm_pr h
            exact E
        · rw [if_neg c4] at h
          obtain ⟨r18, f17, ef17, h⟩ := mm_b2e h
          have E := eqH_tr (H_X6_refuse ef17) E
          obtain ⟨rfl, rfl⟩ := mm_pr h
          exact E
      · rw [if_neg c3] at h
        exact eqH_tr (H_X6_rule_25  h) E
set_option maxRecDepth 20000 in
theorem H_X6_weatherCells_14 {f' : F3} : ∀ (n : Nat) {f : F3} {x1 : Int32} {x2 : Int32}, S_X6_weatherCells_14 n f x1 x2 = some f' → eqH f' f := by
  intro n
  induction n with
  | zero => intro f x1 x2 h; cases h
  | succ n ih =>
    intro f x1 x2 h
    rw [S_X6_weatherCells_14] at h
    have E : eqH f f := eqH_rf f
    by_cases c1 : (f 0 0 12) ≤ x2
    · rw [if_pos c1] at h
      obtain rfl := mm_p1 h
      exact E
    · rw [if_neg c1] at h
      obtain ⟨_, h⟩ := mm_if h
      obtain ⟨f5, ef5, h⟩ := mm_bind h
      have E := eqH_tr (H_X0_passHour ef5) E
      exact eqH_tr (ih h) E
set_option maxRecDepth 20000 in
theorem H_X6_weatherCells {f f' : F3} (h : S_X6_weatherCells f = some f') : eqH f' f := by
  rw [S_X6_weatherCells] at h
  have E : eqH f f := eqH_rf f
  obtain ⟨r2, f1, ef1, h⟩ := mm_b2e h
  have E := eqH_tr (H_X5_heatOf ef1) E
  exact eqH_tr (H_X6_weatherCells_14 _ h) E
set_option maxRecDepth 20000 in
theorem H_X6_said_16 {f f' : F3} {rv : Int32} (h : S_X6_said_16 f = some (rv, f')) : eqH f' f := by
  rw [S_X6_said_16] at h
  have E : eqH f f := eqH_rf f
  obtain ⟨r17, f16, ef16, h⟩ := mm_b2e h
  have E := eqH_tr (H_X6_refuse ef16) E
  obtain ⟨rfl, rfl⟩ := mm_pr h
  exact E
set_option maxRecDepth 20000 in
theorem H_X6_said {f f' : F3} {rv : Int32} {x1 : Int32} {x2 : Int32} {x3 : Int32} (h : S_X6_said f x1 x2 x3 = some (rv, f')) : eqH f' f := by
  rw [S_X6_said] at h
  have E : eqH f f := eqH_rf f
  obtain ⟨r2, f1, ef1, h⟩ := mm_b2e h
  have E := eqH_tr (H_X6_isLoad ef1) E
  by_cases c1 : r2 = 0
  · rw [if_pos c1] at h
    exact eqH_tr (H_X6_said_16  h) E
  · rw [if_neg c1] at h
    obtain ⟨r5, f4, ef4, h⟩ := mm_b2e h
    have E := eqH_tr (H_X6_isCell ef4) E
    by_cases c2 : r5 = 0
    · rw [if_pos c2] at h
      exact eqH_tr (H_X6_said_16  h) E
    · rw [if_neg c2] at h
      obtain ⟨r8, f7, ef7, h⟩ := mm_b2e h
      have E := eqH_tr (H_X6_isWithin ef7) E
      by_cases c3 : r8 = 0
      · rw [if_pos c3] at h
        obtain ⟨r15, f14, ef14, h⟩ := mm_b2e h
        have E := eqH_tr (H_X6_refuse ef14) E
        obtain ⟨rfl, rfl⟩ := mm_pr h
        exact E
      · rw [if_neg c3] at h
        obtain ⟨_, h⟩ := mm_if h
        obtain ⟨f11, ef11, h⟩ := mm_bind h
        have E := eqH_tr (H_X6_gatherFacts ef11) E
        obtain ⟨r13, f12, ef12, h⟩ := mm_b2e h
        have E := eqH_tr (H_X6_numberFor ef12) E
        obtain ⟨rfl, rfl⟩ := mm_pr h
        exact E
set_option maxRecDepth 20000 in
theorem H_X6_snow_48 {f f' : F3} {rv : Int32} {k21 : F3 → Int32 → Int32 → Int32 → Option (Int32 × F3)} (hk21 : ∀ (f : F3) (a0 : Int32) (a1 : Int32) (a2 : Int32), k21 f a0 a1 a2 = some (rv, f') → eqH f' f) {s0 : Int32} {s1 : Int32} {x1 : Int32} {x3 : Int32} (h : S_X6_snow_48 k21 f s0 s1 x1 x3 = some (rv, f')) : eqH f' f := by
  rw [S_X6_snow_48] at h
  have E : eqH f f := eqH_rf f
  exact eqH_tr (hk21 _ _ _ _ h) E
set_option maxRecDepth 20000 in
theorem H_X6_snow_21 {f' : F3} {rv : Int32} : ∀ (n : Nat) {f : F3} {x1 : Int32} {x2 : Int32} {x3 : Int32}, S_X6_snow_21 n f x1 x2 x3 = some (rv, f') → eqH f' f := by
  intro n
  induction n with
  | zero => intro f x1 x2 x3 h; cases h
  | succ n ih =>
    intro f x1 x2 x3 h
    rw [S_X6_snow_21] at h
    have E : eqH f f := eqH_rf f
    by_cases c1 : (f 0 0 12) ≤ x3
    · rw [if_pos c1] at h
      obtain ⟨rfl, rfl⟩ := mm_pr h
      exact E
    · rw [if_neg c1] at h
      obtain ⟨_, h⟩ := mm_if h
      obtain ⟨r9, f8, ef8, h⟩ := mm_b2e h
      have E := eqH_tr (H_X0_takeSnow ef8) E
      by_cases c2 : r9 = 0
      · rw [if_pos c2] at h
        exact eqH_tr (H_X6_snow_48 (fun _ _ _ _ h9 => ih h9)  h) E
      · rw [if_neg c2] at h
        exact eqH_tr (H_X6_snow_48 (fun _ _ _ _ h9 => ih h9)  h) E
set_option maxRecDepth 20000 in
theorem H_X6_snow {f f' : F3} {rv : Int32} {x1 : Int32} (h : S_X6_snow f x1 = some (rv, f')) : eqH f' f := by
  rw [S_X6_snow] at h
  have E : eqH f f := eqH_rf f
  obtain ⟨r2, f1, ef1, h⟩ := mm_b2e h
  have E := eqH_tr (H_X6_isWithin ef1) E
  by_cases c1 : r2 = 0
  · rw [if_pos c1] at h
    obtain ⟨r5, f4, ef4, h⟩ := mm_b2e h
    have E := eqH_tr (H_X6_refuse ef4) E
    obtain ⟨rfl, rfl⟩ := mm_pr h
    exact E
  · rw [if_neg c1] at h
    exact eqH_tr (H_X6_snow_21 _ h) E
set_option maxRecDepth 20000 in
theorem H_X6_status {f f' : F3} {rv : Int32} {x1 : Int32} (h : S_X6_status f x1 = some (rv, f')) : eqH f' f := by
  rw [S_X6_status] at h
  have E : eqH f f := eqH_rf f
  obtain ⟨r2, f1, ef1, h⟩ := mm_b2e h
  have E := eqH_tr (H_X6_isWithin ef1) E
  by_cases c1 : r2 = 0
  · rw [if_pos c1] at h
    obtain ⟨r6, f5, ef5, h⟩ := mm_b2e h
    have E := eqH_tr (H_X6_refuse ef5) E
    obtain ⟨rfl, rfl⟩ := mm_pr h
    exact E
  · rw [if_neg c1] at h
    obtain ⟨_, h⟩ := mm_if h
    obtain ⟨rfl, rfl⟩ := mm_pr h
    exact E
set_option maxRecDepth 20000 in
theorem H_X6_sweep_44 {f f' : F3} {rv : Int32} {i2 : Nat} (h : S_X6_sweep_44 f i2 = some (rv, f')) : eqH f' f := by
  rw [S_X6_sweep_44] at h
  have E : eqH f f := eqH_rf f
  obtain ⟨f11, ef11, h⟩ := mm_bind h
  have E := eqH_tr (H_X0_become ef11) E
  obtain ⟨f12, ef12, h⟩ := mm_lt h
  have E := eqH_up ef12 (by simp) E
  obtain ⟨rfl, rfl⟩ := mm_pr h
  exact E
set_option maxRecDepth 20000 in
theorem H_X6_sweep {f f' : F3} {rv : Int32} {x1 : Int32} (h : S_X6_sweep f x1 = some (rv, f')) : eqH f' f := by
  rw [S_X6_sweep] at h
  have E : eqH f f := eqH_rf f
  obtain ⟨r2, f1, ef1, h⟩ := mm_b2e h
  have E := eqH_tr (H_X6_isCell ef1) E
  by_cases c1 : r2 = 0
  · rw [if_pos c1] at h
    obtain ⟨r10, f9, ef9, h⟩ := mm_b2e h
    have E := eqH_tr (H_X6_refuse ef9) E
    obtain ⟨rfl, rfl⟩ := mm_pr h
    exact E
  · rw [if_neg c1] at h
    obtain ⟨_, h⟩ := mm_if h
    by_cases c2 : (f1 1 x1.toNatClampNeg 0) = 0
    · rw [if_pos c2] at h
      exact eqH_tr (H_X6_sweep_44  h) E
    · rw [if_neg c2] at h
      by_cases c3 : (f1 1 x1.toNatClampNeg 0) = 1
      · rw [if_pos c3] at h
        exact eqH_tr (H_X6_sweep_44  h) E
      · rw [if_neg c3] at h
        obtain ⟨r8, f7, ef7, h⟩ := mm_b2e h
        have E := eqH_tr (H_X6_refuse ef7) E
        obtain ⟨rfl, rfl⟩ := mm_pr h
        exact E
set_option maxRecDepth 20000 in
theorem H_X6_tear_16 {f' : F3} {rv : Int32} : ∀ (n : Nat) {f : F3} {x1 : Int32}, S_X6_tear_16 n f x1 = some (rv, f') → eqH f' f := by
  intro n
  induction n with
  | zero => intro f x1 h; cases h
  | succ n ih =>
    intro f x1 h
    rw [S_X6_tear_16] at h
    have E : eqH f f := eqH_rf f
    by_cases c1 : 48 ≤ x1
    · rw [if_pos c1] at h
      obtain ⟨rfl, rfl⟩ := mm_pr h
      exact E
    · rw [if_neg c1] at h
      obtain ⟨_, h⟩ := mm_if h
      obtain ⟨f5, ef5, h⟩ := mm_lt h
      have E := eqH_up ef5 (by simp) E
      exact eqH_tr (ih h) E
set_option maxRecDepth 20000 in
theorem H_X6_tear {f f' : F3} {rv : Int32} (h : S_X6_tear f = some (rv, f')) : eqH f' f := by
  rw [S_X6_tear] at h
  have E : eqH f f := eqH_rf f
  by_cases c1 : (f 0 0 11) = 0
  · rw [if_pos c1] at h
    obtain ⟨rfl, rfl⟩ := mm_pr h
    exact E
  · rw [if_neg c1] at h
    obtain ⟨f2, ef2, h⟩ := mm_lt h
    have E := eqH_up ef2 (by simp) E
    exact eqH_tr (H_X6_tear_16 _ h) E
set_option maxRecDepth 20000 in
theorem H_X6_tell {f f' : F3} {rv : Int32} {x1 : Int32} {x2 : Int32} (h : S_X6_tell f x1 x2 = some (rv, f')) : eqH f' f := by
  rw [S_X6_tell] at h
  have E : eqH f f := eqH_rf f
  obtain ⟨r2, f1, ef1, h⟩ := mm_b2e h
  have E := eqH_tr (H_X6_isWithin ef1) E
  by_cases c1 : r2 = 0
  · rw [if_pos c1] at h
    obtain ⟨r13, f12, ef12, h⟩ := mm_b2e h
    have E := eqH_tr (H_X6_refuse ef12) E
    obtain ⟨rfl, rfl⟩ := mm_pr h
    exact E
  · rw [if_neg c1] at h
    obtain ⟨r5, f4, ef4, h⟩ := mm_b2e h
    have E := eqH_tr (H_X6_isWithin ef4) E
    by_cases c2 : r5 = 0
    · rw [if_pos c2] at h
      obtain ⟨r11, f10, ef10, h⟩ := mm_b2e h
      have E := eqH_tr (H_X6_refuse ef10) E
      obtain ⟨rfl, rfl⟩ := mm_pr h
      exact E
    · rw [if_neg c2] at h
      obtain ⟨f7, ef7, h⟩ := mm_lt h
      have E := eqH_up ef7 (by simp) E
      obtain ⟨_, h⟩ := mm_if h
      obtain ⟨f9, ef9, h⟩ := mm_lt h
      have E := eqH_up ef9 (by simp) E
      obtain ⟨rfl, rfl⟩ := mm_pr h
      exact E
set_option maxRecDepth 20000 in
theorem H_X6_thaw_37 {f' : F3} {rv : Int32} : ∀ (n : Nat) {f : F3} {x1 : Int32} {x2 : Int32} {x3 : Int32} {x4 : Int32}, S_X6_thaw_37 n f x1 x2 x3 x4 = some (rv, f') → eqH f' f := by
  intro n
  induction n with
  | zero => intro f x1 x2 x3 x4 h; cases h
  | succ n ih =>
    intro f x1 x2 x3 x4 h
    rw [S_X6_thaw_37] at h
    have E : eqH f f := eqH_rf f
    by_cases c1 : (f 0 0 12) ≤ x4
    · rw [if_pos c1] at h
      obtain ⟨rfl, rfl⟩ := mm_pr h
      exact E
    · rw [if_neg c1] at h
      obtain ⟨_, h⟩ := mm_if h
      obtain ⟨r12, f11, ef11, h⟩ := mm_b2e h
      have E := eqH_tr (H_X6_hoursHeldUp ef11) E
      exact eqH_tr (ih h) E
set_option maxRecDepth 20000 in
theorem H_X6_thaw_23 {f f' : F3} {rv : Int32} (h : S_X6_thaw_23 f = some (rv, f')) : eqH f' f := by
  rw [S_X6_thaw_23] at h
  have E : eqH f f := eqH_rf f
  obtain ⟨r8, f7, ef7, h⟩ := mm_b2e h
  have E := eqH_tr (H_X6_refuse ef7) E
  obtain ⟨rfl, rfl⟩ := mm_pr h
  exact E
set_option maxRecDepth 20000 in
theorem H_X6_thaw {f f' : F3} {rv : Int32} {x1 : Int32} {x2 : Int32} (h : S_X6_thaw f x1 x2 = some (rv, f')) : eqH f' f := by
  rw [S_X6_thaw] at h
  have E : eqH f f := eqH_rf f
  obtain ⟨r2, f1, ef1, h⟩ := mm_b2e h
  have E := eqH_tr (H_X6_isWithin ef1) E
  by_cases c1 : r2 = 0
  · rw [if_pos c1] at h
    exact eqH_tr (H_X6_thaw_23  h) E
  · rw [if_neg c1] at h
    obtain ⟨r5, f4, ef4, h⟩ := mm_b2e h
    have E := eqH_tr (H_X6_isWithin ef4) E
    by_cases c2 : r5 = 0
    · rw [if_pos c2] at h
      exact eqH_tr (H_X6_thaw_23  h) E
    · rw [if_neg c2] at h
      exact eqH_tr (H_X6_thaw_37 _ h) E
set_option maxRecDepth 20000 in
theorem H_X6_thick {f f' : F3} {rv : Int32} {x1 : Int32} {x2 : Int32} (h : S_X6_thick f x1 x2 = some (rv, f')) : eqH f' f := by
  rw [S_X6_thick] at h
  have E : eqH f f := eqH_rf f
  obtain ⟨r2, f1, ef1, h⟩ := mm_b2e h
  have E := eqH_tr (H_X6_isCell ef1) E
  by_cases c1 : r2 = 0
  · rw [if_pos c1] at h
    obtain ⟨r15, f14, ef14, h⟩ := mm_b2e h
    have E := eqH_tr (H_X6_refuse ef14) E
    obtain ⟨rfl, rfl⟩ := mm_pr h
    exact E
  · rw [if_neg c1] at h
    obtain ⟨_, h⟩ := mm_if h
    by_cases c2 : (f1 1 x1.toNatClampNeg 0) = 4
    · rw [if_pos c2] at h
      obtain ⟨r13, f12, ef12, h⟩ := mm_b2e h
      have E := eqH_tr (H_X6_refuse ef12) E
      obtain ⟨rfl, rfl⟩ := mm_pr h
      exact E
    · rw [if_neg c2] at h
      obtain ⟨r7, f6, ef6, h⟩ := mm_b2e h
      have E := eqH_tr (H_X6_isWithin ef6) E
      by_cases c3 : r7 = 0
      · rw [if_pos c3] at h
        obtain ⟨r11, f10, ef10, h⟩ := mm_b2e h
        have E := eqH_tr (H_X6_refuse ef10) E
        obtain ⟨rfl, rfl⟩ := mm_pr h
        exact E
      · rw [if_neg c3] at h
        obtain ⟨f9, ef9, h⟩ := mm_lt h
        have E := eqH_up ef9 (by simp) E
        obtain ⟨rfl, rfl⟩ := mm_pr h
        exact E
set_option maxRecDepth 20000 in
theorem H_X6_turn {f f' : F3} {rv : Int32} {x1 : Int32} (h : S_X6_turn f x1 = some (rv, f')) : eqH f' f := by
  rw [S_X6_turn] at h
  have E : eqH f f := eqH_rf f
  obtain ⟨r2, f1, ef1, h⟩ := mm_b2e h
  have E := eqH_tr (H_X6_isLoad ef1) E
  by_cases c1 : r2 = 0
  · rw [if_pos c1] at h
    obtain ⟨r12, f11, ef11, h⟩ := mm_b2e h
    have E := eqH_tr (H_X6_refuse ef11) E
    obtain ⟨rfl, rfl⟩ := mm_pr h
    exact E
  · rw [if_neg c1] at h
    obtain ⟨_, h⟩ := mm_if h
    by_cases c2 : (f1 2 x1.toNatClampNeg 3) = 0
    · rw [if_pos c2] at h
      obtain ⟨f6, ef6, h⟩ := mm_lt h
      have E := eqH_up ef6 (by simp) E
      obtain ⟨r8, f7, ef7, h⟩ := mm_b2e h
      have E := eqH_tr (H_X6_loadsIn ef7) E
      obtain ⟨rfl, rfl⟩ := mm_pr h
      exact E
    · rw [if_neg c2] at h
      obtain ⟨r10, f9, ef9, h⟩ := mm_b2e h
      have E := eqH_tr (H_X6_refuse ef9) E
      obtain ⟨rfl, rfl⟩ := mm_pr h
      exact E
set_option maxRecDepth 20000 in
theorem H_X6_weather_48 {f f' : F3} {rv : Int32} {x1 : Int32} {x2 : Int32} (h : S_X6_weather_48 f x1 x2 = some (rv, f')) : eqH f' f := by
  rw [S_X6_weather_48] at h
  have E : eqH f f := eqH_rf f
  obtain ⟨_, h⟩ := mm_if h
  obtain ⟨f13, ef13, h⟩ := mm_lt h
  have E := eqH_up ef13 (by simp) E
  obtain ⟨rfl, rfl⟩ := mm_pr h
  exact E
set_option maxRecDepth 20000 in
theorem H_X6_weather {f f' : F3} {rv : Int32} {x1 : Int32} {x2 : Int32} (h : S_X6_weather f x1 x2 = some (rv, f')) : eqH f' f := by
  rw [S_X6_weather] at h
  have E : eqH f f := eqH_rf f
  obtain ⟨r2, f1, ef1, h⟩ := mm_b2e h
  have E := eqH_tr (H_X6_isWithin ef1) E
  by_cases c1 : r2 = 0
  · rw [if_pos c1] at h
    obtain ⟨r11, f10, ef10, h⟩ := mm_b2e h
    have E := eqH_tr (H_X6_refuse ef10) E
    obtain ⟨rfl, rfl⟩ := mm_pr h
    exact E
  · rw [if_neg c1] at h
    by_cases c2 : x2 = (-9999)
    · rw [if_pos c2] at h
      exact eqH_tr (H_X6_weather_48  h) E
    · rw [if_neg c2] at h
      obtain ⟨r6, f5, ef5, h⟩ := mm_b2e h
      have E := eqH_tr (H_X6_isWithin ef5) E
      by_cases c3 : r6 = 0
      · rw [if_pos c3] at h
        obtain ⟨r9, f8, ef8, h⟩ := mm_b2e h
        have E := eqH_tr (H_X6_refuse ef8) E
        obtain ⟨rfl, rfl⟩ := mm_pr h
        exact E
      · rw [if_neg c3] at h
        exact eqH_tr (H_X6_weather_48  h) E
set_option maxRecDepth 20000 in
theorem H_X6_why_16 {f f' : F3} {rv : Int32} (h : S_X6_why_16 f = some (rv, f')) : eqH f' f := by
  rw [S_X6_why_16] at h
  have E : eqH f f := eqH_rf f
  obtain ⟨r11, f10, ef10, h⟩ := mm_b2e h
  have E := eqH_tr (H_X6_refuse ef10) E
  obtain ⟨rfl, rfl⟩ := mm_pr h
  exact E
set_option maxRecDepth 20000 in
theorem H_X6_why {f f' : F3} {rv : Int32} {x1 : Int32} {x2 : Int32} (h : S_X6_why f x1 x2 = some (rv, f')) : eqH f' f := by
  rw [S_X6_why] at h
  have E : eqH f f := eqH_rf f
  obtain ⟨r2, f1, ef1, h⟩ := mm_b2e h
  have E := eqH_tr (H_X6_isLoad ef1) E
  by_cases c1 : r2 = 0
  · rw [if_pos c1] at h
    exact eqH_tr (H_X6_why_16  h) E
  · rw [if_neg c1] at h
    obtain ⟨r5, f4, ef4, h⟩ := mm_b2e h
    have E := eqH_tr (H_X6_isCell ef4) E
    by_cases c2 : r5 = 0
    · rw [if_pos c2] at h
      exact eqH_tr (H_X6_why_16  h) E
    · rw [if_neg c2] at h
      obtain ⟨_, h⟩ := mm_if h
      obtain ⟨r9, f8, ef8, h⟩ := mm_b2e h
      have E := eqH_tr (H_X6_reasonAgainst ef8) E
      obtain ⟨rfl, rfl⟩ := mm_pr h
      exact E
set_option maxRecDepth 20000 in
theorem H_X6_wipe {f f' : F3} {rv : Int32} (h : S_X6_wipe f = some (rv, f')) : eqH f' f := by
  rw [S_X6_wipe] at h
  have E : eqH f f := eqH_rf f
  obtain ⟨f1, ef1, h⟩ := mm_lt h
  have E := eqH_up ef1 (by simp) E
  obtain ⟨rfl, rfl⟩ := mm_pr h
  exact E
