set_option maxRecDepth 20000 in
theorem E_X7_isBorne_47 {f f' : F3} {rv : Int32} (h : S_X7_isBorne_47 f = some (rv, f')) : eqC f' f := by
  rw [S_X7_isBorne_47] at h
  have E : eqC f f := eqC_rf f
  obtain ⟨rfl, rfl⟩ := mm_pr h
  exact E
set_option maxRecDepth 20000 in
theorem E_X7_isBorne_44 {f f' : F3} {rv : Int32} {s0 : Int32} {s1 : Int32} (h : S_X7_isBorne_44 f s0 s1 = some (rv, f')) : eqC f' f := by
  rw [S_X7_isBorne_44] at h
  have E : eqC f f := eqC_rf f
  by_cases c1 : s0 < s1
  · rw [if_pos c1] at h
    obtain ⟨rfl, rfl⟩ := mm_pr h
    exact E
  · rw [if_neg c1] at h
    exact eqC_tr (E_X7_isBorne_47  h) E
set_option maxRecDepth 20000 in
theorem E_X7_isBorne {f f' : F3} {rv : Int32} {x1 : Int32} {x2 : Int32} (h : S_X7_isBorne f x1 x2 = some (rv, f')) : eqC f' f := by
  rw [S_X7_isBorne] at h
  have E : eqC f f := eqC_rf f
  obtain ⟨_, h⟩ := mm_if h
  by_cases c1 : (f 30 0 x1.toNatClampNeg) = 4
  · rw [if_pos c1] at h
    exact eqC_tr (E_X7_isBorne_47  h) E
  · rw [if_neg c1] at h
    by_cases c2 : (f 30 0 x1.toNatClampNeg) = 3
    · rw [if_pos c2] at h
      exact eqC_tr (E_X7_isBorne_44  h) E
    · rw [if_neg c2] at h
      exact eqC_tr (E_X7_isBorne_44  h) E
set_option maxRecDepth 20000 in
theorem E_X7_allBear_2 {f' : F3} {rv : Int32} : ∀ (n : Nat) {f : F3} {x1 : Int32} {x2 : Int32}, S_X7_allBear_2 n f x1 x2 = some (rv, f') → eqC f' f := by
  intro n
  induction n with
  | zero => intro f x1 x2 h; cases h
  | succ n ih =>
    intro f x1 x2 h
    rw [S_X7_allBear_2] at h
    have E : eqC f f := eqC_rf f
    by_cases c1 : (f 20 0 2) ≤ x2
    · rw [if_pos c1] at h
      obtain ⟨rfl, rfl⟩ := mm_pr h
      exact E
    · rw [if_neg c1] at h
      obtain ⟨r3, f2, ef2, h⟩ := mm_b2e h
      have E := eqC_tr (E_X7_isBorne ef2) E
      by_cases c2 : r3 = 0
      · rw [if_pos c2] at h
        obtain ⟨rfl, rfl⟩ := mm_pr h
        exact E
      · rw [if_neg c2] at h
        exact eqC_tr (ih h) E
set_option maxRecDepth 20000 in
theorem E_X7_allBear {f f' : F3} {rv : Int32} {x1 : Int32} (h : S_X7_allBear f x1 = some (rv, f')) : eqC f' f := by
  rw [S_X7_allBear] at h
  have E : eqC f f := eqC_rf f
  exact eqC_tr (E_X7_allBear_2 _ h) E
set_option maxRecDepth 20000 in
theorem E_X7_in {f f' : F3} {rv : Int32} {x0 : Int32} {x1 : Int32} {x2 : Int32} (h : S_X7_in f x0 x1 x2 = some (rv, f')) : eqC f' f := by
  rw [S_X7_in] at h
  have E : eqC f f := eqC_rf f
  by_cases c1 : x0 < x1
  · rw [if_pos c1] at h
    obtain ⟨rfl, rfl⟩ := mm_pr h
    exact E
  · rw [if_neg c1] at h
    by_cases c2 : x2 < x0
    · rw [if_pos c2] at h
      obtain ⟨rfl, rfl⟩ := mm_pr h
      exact E
    · rw [if_neg c2] at h
      obtain ⟨rfl, rfl⟩ := mm_pr h
      exact E
set_option maxRecDepth 20000 in
theorem E_X7_isCell {f f' : F3} {rv : Int32} {x1 : Int32} (h : S_X7_isCell f x1 = some (rv, f')) : eqC f' f := by
  rw [S_X7_isCell] at h
  have E : eqC f f := eqC_rf f
  obtain ⟨r2, f1, ef1, h⟩ := mm_b2e h
  have E := eqC_tr (E_X7_in ef1) E
  obtain ⟨_, h⟩ := mm_if h
  obtain ⟨rfl, rfl⟩ := mm_pr h
  exact E
set_option maxRecDepth 20000 in
theorem E_X7_refuse {f f' : F3} {rv : Int32} {x1 : Int32} (h : S_X7_refuse f x1 = some (rv, f')) : eqC f' f := by
  rw [S_X7_refuse] at h
  have E : eqC f f := eqC_rf f
  obtain ⟨_, h⟩ := mm_if h
  obtain ⟨f2, ef2, h⟩ := mm_lt h
  have E := eqC_up ef2 (by decide) E
  obtain ⟨rfl, rfl⟩ := mm_pr h
  exact E
set_option maxRecDepth 20000 in
theorem E_X7_bears {f f' : F3} {rv : Int32} {x1 : Int32} {x2 : Int32} (h : S_X7_bears f x1 x2 = some (rv, f')) : eqC f' f := by
  rw [S_X7_bears] at h
  have E : eqC f f := eqC_rf f
  obtain ⟨r2, f1, ef1, h⟩ := mm_b2e h
  have E := eqC_tr (E_X7_isCell ef1) E
  by_cases c1 : r2 = 0
  · rw [if_pos c1] at h
    obtain ⟨r13, f12, ef12, h⟩ := mm_b2e h
    have E := eqC_tr (E_X7_refuse ef12) E
    obtain ⟨rfl, rfl⟩ := mm_pr h
    exact E
  · rw [if_neg c1] at h
    obtain ⟨r5, f4, ef4, h⟩ := mm_b2e h
    have E := eqC_tr (E_X7_in ef4) E
    by_cases c2 : r5 = 0
    · rw [if_pos c2] at h
      obtain ⟨r11, f10, ef10, h⟩ := mm_b2e h
      have E := eqC_tr (E_X7_refuse ef10) E
      obtain ⟨rfl, rfl⟩ := mm_pr h
      exact E
    · rw [if_neg c2] at h
      obtain ⟨r8, f7, ef7, h⟩ := mm_b2e h
      have E := eqC_tr (E_X7_isBorne ef7) E
      by_cases c3 : r8 = 0
      · rw [if_pos c3] at h
        obtain ⟨rfl, rfl⟩ := mm_pr h
        exact E
      · rw [if_neg c3] at h
        obtain ⟨rfl, rfl⟩ := mm_pr h
        exact E
set_option maxRecDepth 20000 in
theorem E_X7_becomes_17 {f f' : F3} {x1 : Int32} {x2 : Int32} (h : S_X7_becomes_17 f x1 x2 = some f') : eqC f' f := by
  rw [S_X7_becomes_17] at h
  have E : eqC f f := eqC_rf f
  obtain ⟨_, h⟩ := mm_if h
  obtain ⟨f5, ef5, h⟩ := mm_lt h
  have E := eqC_up ef5 (by decide) E
  obtain rfl := mm_p1 h
  exact E
set_option maxRecDepth 20000 in
theorem E_X7_becomes {f f' : F3} {x1 : Int32} {x2 : Int32} (h : S_X7_becomes f x1 x2 = some f') : eqC f' f := by
  rw [S_X7_becomes] at h
  have E : eqC f f := eqC_rf f
  obtain ⟨_, h⟩ := mm_if h
  by_cases c1 : (f 30 0 x1.toNatClampNeg) = x2
  · rw [if_pos c1] at h
    exact eqC_tr (E_X7_becomes_17  h) E
  · rw [if_neg c1] at h
    obtain ⟨f3, ef3, h⟩ := mm_lt h
    have E := eqC_up ef3 (by decide) E
    exact eqC_tr (E_X7_becomes_17  h) E
set_option maxRecDepth 20000 in
theorem E_X7_loadsOn_38 {f f' : F3} {rv : Int32} {k4 : F3 → Int32 → Int32 → Int32 → Option (Int32 × F3)} (hk4 : ∀ (f : F3) (a0 : Int32) (a1 : Int32) (a2 : Int32), k4 f a0 a1 a2 = some (rv, f') → eqC f' f) {s0 : Int32} {s1 : Int32} {x1 : Int32} {x3 : Int32} (h : S_X7_loadsOn_38 k4 f s0 s1 x1 x3 = some (rv, f')) : eqC f' f := by
  rw [S_X7_loadsOn_38] at h
  have E : eqC f f := eqC_rf f
  exact eqC_tr (hk4 _ _ _ _ h) E
set_option maxRecDepth 20000 in
theorem E_X7_loadsOn_37 {f f' : F3} {rv : Int32} {k4 : F3 → Int32 → Int32 → Int32 → Option (Int32 × F3)} (hk4 : ∀ (f : F3) (a0 : Int32) (a1 : Int32) (a2 : Int32), k4 f a0 a1 a2 = some (rv, f') → eqC f' f) {s0 : Int32} {x1 : Int32} {x3 : Int32} (h : S_X7_loadsOn_37 k4 f s0 x1 x3 = some (rv, f')) : eqC f' f := by
  rw [S_X7_loadsOn_37] at h
  have E : eqC f f := eqC_rf f
  exact eqC_tr (E_X7_loadsOn_38 hk4  h) E
set_option maxRecDepth 20000 in
theorem E_X7_loadsOn_4 {f' : F3} {rv : Int32} : ∀ (n : Nat) {f : F3} {x1 : Int32} {x2 : Int32} {x3 : Int32}, S_X7_loadsOn_4 n f x1 x2 x3 = some (rv, f') → eqC f' f := by
  intro n
  induction n with
  | zero => intro f x1 x2 x3 h; cases h
  | succ n ih =>
    intro f x1 x2 x3 h
    rw [S_X7_loadsOn_4] at h
    have E : eqC f f := eqC_rf f
    by_cases c1 : (f 20 0 13) ≤ x3
    · rw [if_pos c1] at h
      obtain ⟨rfl, rfl⟩ := mm_pr h
      exact E
    · rw [if_neg c1] at h
      obtain ⟨_, h⟩ := mm_if h
      by_cases c2 : (f 43 0 x3.toNatClampNeg) = 1
      · rw [if_pos c2] at h
        by_cases c3 : (f 44 0 x3.toNatClampNeg) = x1
        · rw [if_pos c3] at h
          exact eqC_tr (E_X7_loadsOn_38 (fun _ _ _ _ h9 => ih h9)  h) E
        · rw [if_neg c3] at h
          exact eqC_tr (E_X7_loadsOn_37 (fun _ _ _ _ h9 => ih h9)  h) E
      · rw [if_neg c2] at h
        exact eqC_tr (E_X7_loadsOn_37 (fun _ _ _ _ h9 => ih h9)  h) E
set_option maxRecDepth 20000 in
theorem E_X7_loadsOn {f f' : F3} {rv : Int32} {x1 : Int32} (h : S_X7_loadsOn f x1 = some (rv, f')) : eqC f' f := by
  rw [S_X7_loadsOn] at h
  have E : eqC f f := eqC_rf f
  exact eqC_tr (E_X7_loadsOn_4 _ h) E
set_option maxRecDepth 20000 in
theorem E_X7_bypass {f f' : F3} {rv : Int32} {x1 : Int32} (h : S_X7_bypass f x1 = some (rv, f')) : eqC f' f := by
  rw [S_X7_bypass] at h
  have E : eqC f f := eqC_rf f
  obtain ⟨r2, f1, ef1, h⟩ := mm_b2e h
  have E := eqC_tr (E_X7_isCell ef1) E
  by_cases c1 : r2 = 0
  · rw [if_pos c1] at h
    obtain ⟨r18, f17, ef17, h⟩ := mm_b2e h
    have E := eqC_tr (E_X7_refuse ef17) E
    obtain ⟨rfl, rfl⟩ := mm_pr h
    exact E
  · rw [if_neg c1] at h
    obtain ⟨_, h⟩ := mm_if h
    by_cases c2 : (f1 30 0 x1.toNatClampNeg) = 3
    · rw [if_pos c2] at h
      obtain ⟨r7, f6, ef6, h⟩ := mm_b2e h
      have E := eqC_tr (E_X7_loadsOn ef6) E
      by_cases c3 : r7 ≤ 0
      · rw [if_pos c3] at h
        obtain ⟨f9, ef9, h⟩ := mm_bind h
        have E := eqC_tr (E_X7_becomes ef9) E
        obtain ⟨f10, ef10, h⟩ := mm_lt h
        have E := eqC_up ef10 (by decide) E
        obtain ⟨f11, ef11, h⟩ := mm_lt h
        have E := eqC_up ef11 (by decide) E
        obtain ⟨f12, ef12, h⟩ := mm_lt h
        have E := eqC_up ef12 (by decide) E
        obtain ⟨rfl, rfl⟩ := mm_pr h
        exact E
      · rw [if_neg c3] at h
        obtain ⟨r14, f13, ef13, h⟩ := mm_b2e h
        have E := eqC_tr (E_X7_refuse ef13) E
        obtain ⟨rfl, rfl⟩ := mm_pr h
        exact E
    · rw [if_neg c2] at h
      obtain ⟨r16, f15, ef15, h⟩ := mm_b2e h
      have E := eqC_tr (E_X7_refuse ef15) E
      obtain ⟨rfl, rfl⟩ := mm_pr h
      exact E
set_option maxRecDepth 20000 in
theorem E_X7_heatOf_103 {f f' : F3} {rv : Int32} {k36 : F3 → Int32 → Int32 → Int32 → Int32 → Option (Int32 × F3)} (hk36 : ∀ (f : F3) (a0 : Int32) (a1 : Int32) (a2 : Int32) (a3 : Int32), k36 f a0 a1 a2 a3 = some (rv, f') → eqC f' f) {s0 : Int32} {x2 : Int32} {x3 : Int32} {x5 : Int32} (h : S_X7_heatOf_103 k36 f s0 x2 x3 x5 = some (rv, f')) : eqC f' f := by
  rw [S_X7_heatOf_103] at h
  have E : eqC f f := eqC_rf f
  exact eqC_tr (hk36 _ _ _ _ _ h) E
set_option maxRecDepth 20000 in
theorem E_X7_heatOf_87 {f f' : F3} {rv : Int32} {k36 : F3 → Int32 → Int32 → Int32 → Int32 → Option (Int32 × F3)} (hk36 : ∀ (f : F3) (a0 : Int32) (a1 : Int32) (a2 : Int32) (a3 : Int32), k36 f a0 a1 a2 a3 = some (rv, f') → eqC f' f) {s0 : Int32} {x2 : Int32} {x4 : Int32} {x5 : Int32} {x7 : Int32} (h : S_X7_heatOf_87 k36 f s0 x2 x4 x5 x7 = some (rv, f')) : eqC f' f := by
  rw [S_X7_heatOf_87] at h
  have E : eqC f f := eqC_rf f
  by_cases c1 : x4 = (-9999)
  · rw [if_pos c1] at h
    exact eqC_tr (E_X7_heatOf_103 hk36  h) E
  · rw [if_neg c1] at h
    exact eqC_tr (E_X7_heatOf_103 hk36  h) E
set_option maxRecDepth 20000 in
theorem E_X7_heatOf_36 {f' : F3} {rv : Int32} : ∀ (n : Nat) {f : F3} {x2 : Int32} {x3 : Int32} {x4 : Int32} {x5 : Int32}, S_X7_heatOf_36 n f x2 x3 x4 x5 = some (rv, f') → eqC f' f := by
  intro n
  induction n with
  | zero => intro f x2 x3 x4 x5 h; cases h
  | succ n ih =>
    intro f x2 x3 x4 x5 h
    rw [S_X7_heatOf_36] at h
    have E : eqC f f := eqC_rf f
    by_cases c1 : 48 ≤ x5
    · rw [if_pos c1] at h
      by_cases c2 : x3 = (-9999)
      · rw [if_pos c2] at h
        obtain ⟨rfl, rfl⟩ := mm_pr h
        exact E
      · rw [if_neg c2] at h
        by_cases c3 : x3 ≤ x4
        · rw [if_pos c3] at h
          obtain ⟨rfl, rfl⟩ := mm_pr h
          exact E
        · rw [if_neg c3] at h
          obtain ⟨rfl, rfl⟩ := mm_pr h
          exact E
    · rw [if_neg c1] at h
      obtain ⟨_, h⟩ := mm_if h
      obtain ⟨_, h⟩ := mm_if h
      by_cases c4 : x3 = (-9999)
      · rw [if_pos c4] at h
        exact eqC_tr (E_X7_heatOf_87 (fun _ _ _ _ _ h9 => ih h9)  h) E
      · rw [if_neg c4] at h
        exact eqC_tr (E_X7_heatOf_87 (fun _ _ _ _ _ h9 => ih h9)  h) E
set_option maxRecDepth 20000 in
theorem E_X7_heatOf {f f' : F3} {rv : Int32} {x1 : Int32} (h : S_X7_heatOf f x1 = some (rv, f')) : eqC f' f := by
  rw [S_X7_heatOf] at h
  have E : eqC f f := eqC_rf f
  obtain ⟨_, h⟩ := mm_if h
  by_cases c1 : (f 22 0 (x1 - x1 / 48 * 48).toNatClampNeg) = (-9999)
  · rw [if_pos c1] at h
    exact eqC_tr (E_X7_heatOf_36 _ h) E
  · rw [if_neg c1] at h
    obtain ⟨rfl, rfl⟩ := mm_pr h
    exact E
set_option maxRecDepth 20000 in
theorem E_X7_field {f f' : F3} {rv : Int32} {x1 : Int32} {x2 : Int32} {x3 : Int32} (h : S_X7_field f x1 x2 x3 = some (rv, f')) : eqC f' f := by
  rw [S_X7_field] at h
  have E : eqC f f := eqC_rf f
  by_cases c1 : x1 = 0
  · rw [if_pos c1] at h
    obtain ⟨_, h⟩ := mm_if h
    obtain ⟨rfl, rfl⟩ := mm_pr h
    exact E
  · rw [if_neg c1] at h
    by_cases c2 : x1 = 1
    · rw [if_pos c2] at h
      obtain ⟨_, h⟩ := mm_if h
      obtain ⟨rfl, rfl⟩ := mm_pr h
      exact E
    · rw [if_neg c2] at h
      by_cases c3 : x1 = 2
      · rw [if_pos c3] at h
        obtain ⟨rfl, rfl⟩ := mm_pr h
        exact E
      · rw [if_neg c3] at h
        by_cases c4 : x1 = 3
        · rw [if_pos c4] at h
          obtain ⟨r7, f6, ef6, h⟩ := mm_b2e h
          have E := eqC_tr (E_X7_heatOf ef6) E
          obtain ⟨rfl, rfl⟩ := mm_pr h
          exact E
        · rw [if_neg c4] at h
          obtain ⟨_, h⟩ := mm_if h
          obtain ⟨rfl, rfl⟩ := mm_pr h
          exact E
set_option maxRecDepth 20000 in
theorem E_X7_holds_165 {f f' : F3} {rv : Int32} {k53 : F3 → Int32 → Int32 → Int32 → Int32 → Int32 → Int32 → Option (Int32 × F3)} (hk53 : ∀ (f : F3) (a0 : Int32) (a1 : Int32) (a2 : Int32) (a3 : Int32) (a4 : Int32) (a5 : Int32), k53 f a0 a1 a2 a3 a4 a5 = some (rv, f') → eqC f' f) {s0 : Int32} {s1 : Int32} {x2 : Int32} {x3 : Int32} {x4 : Int32} {x5 : Int32} {x7 : Int32} (h : S_X7_holds_165 k53 f s0 s1 x2 x3 x4 x5 x7 = some (rv, f')) : eqC f' f := by
  rw [S_X7_holds_165] at h
  have E : eqC f f := eqC_rf f
  exact eqC_tr (hk53 _ _ _ _ _ _ _ h) E
set_option maxRecDepth 20000 in
theorem E_X7_holds_164 {f f' : F3} {rv : Int32} {k53 : F3 → Int32 → Int32 → Int32 → Int32 → Int32 → Int32 → Option (Int32 × F3)} (hk53 : ∀ (f : F3) (a0 : Int32) (a1 : Int32) (a2 : Int32) (a3 : Int32) (a4 : Int32) (a5 : Int32), k53 f a0 a1 a2 a3 a4 a5 = some (rv, f') → eqC f' f) {s0 : Int32} {x2 : Int32} {x3 : Int32} {x4 : Int32} {x5 : Int32} {x7 : Int32} (h : S_X7_holds_164 k53 f s0 x2 x3 x4 x5 x7 = some (rv, f')) : eqC f' f := by
  rw [S_X7_holds_164] at h
  have E : eqC f f := eqC_rf f
  exact eqC_tr (E_X7_holds_165 hk53  h) E
set_option maxRecDepth 20000 in
theorem E_X7_holds_160 {f f' : F3} {rv : Int32} {k53 : F3 → Int32 → Int32 → Int32 → Int32 → Int32 → Int32 → Option (Int32 × F3)} (hk53 : ∀ (f : F3) (a0 : Int32) (a1 : Int32) (a2 : Int32) (a3 : Int32) (a4 : Int32) (a5 : Int32), k53 f a0 a1 a2 a3 a4 a5 = some (rv, f') → eqC f' f) {s0 : Int32} {x2 : Int32} {x3 : Int32} {x4 : Int32} {x5 : Int32} {x7 : Int32} (h : S_X7_holds_160 k53 f s0 x2 x3 x4 x5 x7 = some (rv, f')) : eqC f' f := by
  rw [S_X7_holds_160] at h
  have E : eqC f f := eqC_rf f
  exact eqC_tr (E_X7_holds_165 hk53  h) E
set_option maxRecDepth 20000 in
theorem E_X7_holds_53 {f' : F3} {rv : Int32} : ∀ (n : Nat) {f : F3} {x2 : Int32} {x3 : Int32} {x4 : Int32} {x5 : Int32} {x6 : Int32} {x7 : Int32}, S_X7_holds_53 n f x2 x3 x4 x5 x6 x7 = some (rv, f') → eqC f' f := by
  intro n
  induction n with
  | zero => intro f x2 x3 x4 x5 x6 x7 h; cases h
  | succ n ih =>
    intro f x2 x3 x4 x5 x6 x7 h
    rw [S_X7_holds_53] at h
    have E : eqC f f := eqC_rf f
    by_cases c1 : x5 ≤ x7
    · rw [if_pos c1] at h
      obtain ⟨_, h⟩ := mm_if h
      by_cases c2 : (f 23 0 (x4 + 5).toNatClampNeg) = 1
      · rw [if_pos c2] at h
        by_cases c3 : x6 ≤ 0
        · rw [if_pos c3] at h
          obtain ⟨rfl, rfl⟩ := mm_pr h
          exact E
        · rw [if_neg c3] at h
          obtain ⟨rfl, rfl⟩ := mm_pr h
          exact E
      · rw [if_neg c2] at h
        by_cases c4 : x6 = x5
        · rw [if_pos c4] at h
          obtain ⟨rfl, rfl⟩ := mm_pr h
          exact E
        · rw [if_neg c4] at h
          obtain ⟨rfl, rfl⟩ := mm_pr h
          exact E
    · rw [if_neg c1] at h
      obtain ⟨_, h⟩ := mm_if h
      obtain ⟨r14, f13, ef13, h⟩ := mm_b2e h
      have E := eqC_tr (E_X7_field ef13) E
      obtain ⟨_, h⟩ := mm_if h
      obtain ⟨_, h⟩ := mm_if h
      by_cases c5 : (f13 23 0 ((x4 + 7) + (3 * x7)).toNatClampNeg) = 61
      · rw [if_pos c5] at h
        by_cases c6 : r14 = (f13 23 0 ((x4 + 8) + (3 * x7)).toNatClampNeg)
        · rw [if_pos c6] at h
          exact eqC_tr (E_X7_holds_160 (fun _ _ _ _ _ _ _ h9 => ih h9)  h) E
        · rw [if_neg c6] at h
          exact eqC_tr (E_X7_holds_164 (fun _ _ _ _ _ _ _ h9 => ih h9)  h) E
      · rw [if_neg c5] at h
        by_cases c7 : (f13 23 0 ((x4 + 7) + (3 * x7)).toNatClampNeg) = 60
        · rw [if_pos c7] at h
          by_cases c8 : (f13 23 0 ((x4 + 8) + (3 * x7)).toNatClampNeg) ≤ r14
          · rw [if_pos c8] at h
            exact eqC_tr (E_X7_holds_164 (fun _ _ _ _ _ _ _ h9 => ih h9)  h) E
          · rw [if_neg c8] at h
            exact eqC_tr (E_X7_holds_160 (fun _ _ _ _ _ _ _ h9 => ih h9)  h) E
        · rw [if_neg c7] at h
          by_cases c9 : r14 ≤ (f13 23 0 ((x4 + 8) + (3 * x7)).toNatClampNeg)
          · rw [if_pos c9] at h
            exact eqC_tr (E_X7_holds_164 (fun _ _ _ _ _ _ _ h9 => ih h9)  h) E
          · rw [if_neg c9] at h
            exact eqC_tr (E_X7_holds_160 (fun _ _ _ _ _ _ _ h9 => ih h9)  h) E
set_option maxRecDepth 20000 in
theorem E_X7_holds {f f' : F3} {rv : Int32} {x1 : Int32} {x2 : Int32} {x3 : Int32} (h : S_X7_holds f x1 x2 x3 = some (rv, f')) : eqC f' f := by
  rw [S_X7_holds] at h
  have E : eqC f f := eqC_rf f
  obtain ⟨_, h⟩ := mm_if h
  obtain ⟨_, h⟩ := mm_if h
  obtain ⟨r4, f3, ef3, h⟩ := mm_b2e h
  have E := eqC_tr (E_X7_in ef3) E
  by_cases c1 : r4 = 0
  · rw [if_pos c1] at h
    obtain ⟨rfl, rfl⟩ := mm_pr h
    exact E
  · rw [if_neg c1] at h
    obtain ⟨_, h⟩ := mm_if h
    exact eqC_tr (E_X7_holds_53 _ h) E
set_option maxRecDepth 20000 in
theorem E_X7_saidOf_53 {f f' : F3} {rv : Int32} {k8 : F3 → Int32 → Int32 → Int32 → Int32 → Option (Int32 × F3)} (hk8 : ∀ (f : F3) (a0 : Int32) (a1 : Int32) (a2 : Int32) (a3 : Int32), k8 f a0 a1 a2 a3 = some (rv, f') → eqC f' f) {x1 : Int32} {x2 : Int32} {x3 : Int32} {x4 : Int32} (h : S_X7_saidOf_53 k8 f x1 x2 x3 x4 = some (rv, f')) : eqC f' f := by
  rw [S_X7_saidOf_53] at h
  have E : eqC f f := eqC_rf f
  exact eqC_tr (hk8 _ _ _ _ _ h) E
set_option maxRecDepth 20000 in
theorem E_X7_saidOf_8 {f' : F3} {rv : Int32} : ∀ (n : Nat) {f : F3} {x1 : Int32} {x2 : Int32} {x3 : Int32} {x4 : Int32}, S_X7_saidOf_8 n f x1 x2 x3 x4 = some (rv, f') → eqC f' f := by
  intro n
  induction n with
  | zero => intro f x1 x2 x3 x4 h; cases h
  | succ n ih =>
    intro f x1 x2 x3 x4 h
    rw [S_X7_saidOf_8] at h
    have E : eqC f f := eqC_rf f
    by_cases c1 : x4 < 0
    · rw [if_pos c1] at h
      by_cases c2 : x3 = 1
      · rw [if_pos c2] at h
        obtain ⟨rfl, rfl⟩ := mm_pr h
        exact E
      · rw [if_neg c2] at h
        obtain ⟨rfl, rfl⟩ := mm_pr h
        exact E
    · rw [if_neg c1] at h
      obtain ⟨_, h⟩ := mm_if h
      by_cases c3 : (f 23 0 ((15 * x4) + 2).toNatClampNeg) = x3
      · rw [if_pos c3] at h
        obtain ⟨r6, f5, ef5, h⟩ := mm_b2e h
        have E := eqC_tr (E_X7_holds ef5) E
        by_cases c4 : r6 = 0
        · rw [if_pos c4] at h
          exact eqC_tr (E_X7_saidOf_53 (fun _ _ _ _ _ h9 => ih h9)  h) E
        · rw [if_neg c4] at h
          obtain ⟨_, h⟩ := mm_if h
          obtain ⟨rfl, rfl⟩ := mm_pr h
          exact E
      · rw [if_neg c3] at h
        exact eqC_tr (E_X7_saidOf_53 (fun _ _ _ _ _ h9 => ih h9)  h) E
set_option maxRecDepth 20000 in
theorem E_X7_saidOf {f f' : F3} {rv : Int32} {x1 : Int32} {x2 : Int32} {x3 : Int32} (h : S_X7_saidOf f x1 x2 x3 = some (rv, f')) : eqC f' f := by
  rw [S_X7_saidOf] at h
  have E : eqC f f := eqC_rf f
  exact eqC_tr (E_X7_saidOf_8 _ h) E
set_option maxRecDepth 20000 in
theorem E_X7_nearest_29 {f f' : F3} {rv : Int32} {x3 : Int32} (h : S_X7_nearest_29 f x3 = some (rv, f')) : eqC f' f := by
  rw [S_X7_nearest_29] at h
  have E : eqC f f := eqC_rf f
  obtain ⟨r7, f6, ef6, h⟩ := mm_b2e h
  have E := eqC_tr (E_X7_isCell ef6) E
  by_cases c1 : r7 = 0
  · rw [if_pos c1] at h
    obtain ⟨rfl, rfl⟩ := mm_pr h
    exact E
  · rw [if_neg c1] at h
    obtain ⟨rfl, rfl⟩ := mm_pr h
    exact E
set_option maxRecDepth 20000 in
theorem E_X7_nearest_4 {f' : F3} {rv : Int32} : ∀ (n : Nat) {f : F3} {x2 : Int32} {x3 : Int32}, S_X7_nearest_4 n f x2 x3 = some (rv, f') → eqC f' f := by
  intro n
  induction n with
  | zero => intro f x2 x3 h; cases h
  | succ n ih =>
    intro f x2 x3 h
    rw [S_X7_nearest_4] at h
    have E : eqC f f := eqC_rf f
    obtain ⟨r2, f1, ef1, h⟩ := mm_b2e h
    have E := eqC_tr (E_X7_isCell ef1) E
    by_cases c1 : r2 = 0
    · rw [if_pos c1] at h
      exact eqC_tr (E_X7_nearest_29  h) E
    · rw [if_neg c1] at h
      obtain ⟨_, h⟩ := mm_if h
      by_cases c2 : (f1 37 0 x3.toNatClampNeg) = (-1)
      · rw [if_pos c2] at h
        exact eqC_tr (ih h) E
      · rw [if_neg c2] at h
        exact eqC_tr (E_X7_nearest_29  h) E
set_option maxRecDepth 20000 in
theorem E_X7_nearest {f f' : F3} {rv : Int32} {x1 : Int32} {x2 : Int32} (h : S_X7_nearest f x1 x2 = some (rv, f')) : eqC f' f := by
  rw [S_X7_nearest] at h
  have E : eqC f f := eqC_rf f
  exact eqC_tr (E_X7_nearest_4 _ h) E
set_option maxRecDepth 20000 in
theorem E_X7_least_86 {f f' : F3} {rv : Int32} {x2 : Int32} {x3 : Int32} (h : S_X7_least_86 f x2 x3 = some (rv, f')) : eqC f' f := by
  rw [S_X7_least_86] at h
  have E : eqC f f := eqC_rf f
  by_cases c1 : x2 = (-1)
  · rw [if_pos c1] at h
    by_cases c2 : x3 = (-1)
    · rw [if_pos c2] at h
      obtain ⟨rfl, rfl⟩ := mm_pr h
      exact E
    · rw [if_neg c2] at h
      obtain ⟨_, h⟩ := mm_if h
      obtain ⟨rfl, rfl⟩ := mm_pr h
      exact E
  · rw [if_neg c1] at h
    obtain ⟨_, h⟩ := mm_if h
    obtain ⟨rfl, rfl⟩ := mm_pr h
    exact E
set_option maxRecDepth 20000 in
theorem E_X7_least {f f' : F3} {rv : Int32} {x1 : Int32} (h : S_X7_least f x1 = some (rv, f')) : eqC f' f := by
  rw [S_X7_least] at h
  have E : eqC f f := eqC_rf f
  obtain ⟨_, h⟩ := mm_if h
  by_cases c1 : (f 30 0 x1.toNatClampNeg) = 4
  · rw [if_pos c1] at h
    obtain ⟨rfl, rfl⟩ := mm_pr h
    exact E
  · rw [if_neg c1] at h
    by_cases c2 : (f 37 0 x1.toNatClampNeg) = (-1)
    · rw [if_pos c2] at h
      obtain ⟨r5, f4, ef4, h⟩ := mm_b2e h
      have E := eqC_tr (E_X7_nearest ef4) E
      obtain ⟨r7, f6, ef6, h⟩ := mm_b2e h
      have E := eqC_tr (E_X7_nearest ef6) E
      by_cases c3 : r5 = (-1)
      · rw [if_pos c3] at h
        exact eqC_tr (E_X7_least_86  h) E
      · rw [if_neg c3] at h
        by_cases c4 : r7 = (-1)
        · rw [if_pos c4] at h
          exact eqC_tr (E_X7_least_86  h) E
        · rw [if_neg c4] at h
          obtain ⟨_, h⟩ := mm_if h
          obtain ⟨_, h⟩ := mm_if h
          by_cases c5 : (f6 37 0 r7.toNatClampNeg) ≤ (f6 37 0 r5.toNatClampNeg)
          · rw [if_pos c5] at h
            obtain ⟨rfl, rfl⟩ := mm_pr h
            exact E
          · rw [if_neg c5] at h
            obtain ⟨rfl, rfl⟩ := mm_pr h
            exact E
    · rw [if_neg c2] at h
      obtain ⟨rfl, rfl⟩ := mm_pr h
      exact E
set_option maxRecDepth 20000 in
theorem E_X7_whyNot {f f' : F3} {rv : Int32} {x1 : Int32} {x2 : Int32} (h : S_X7_whyNot f x1 x2 = some (rv, f')) : eqC f' f := by
  rw [S_X7_whyNot] at h
  have E : eqC f f := eqC_rf f
  obtain ⟨r2, f1, ef1, h⟩ := mm_b2e h
  have E := eqC_tr (E_X7_saidOf ef1) E
  by_cases c1 : r2 = 0
  · rw [if_pos c1] at h
    obtain ⟨r5, f4, ef4, h⟩ := mm_b2e h
    have E := eqC_tr (E_X7_least ef4) E
    obtain ⟨r7, f6, ef6, h⟩ := mm_b2e h
    have E := eqC_tr (E_X7_saidOf ef6) E
    by_cases c2 : r7 ≤ r5
    · rw [if_pos c2] at h
      obtain ⟨_, h⟩ := mm_if h
      obtain ⟨_, h⟩ := mm_if h
      by_cases c3 : (f6 38 0 ((2 * x2) + (f6 42 0 x1.toNatClampNeg)).toNatClampNeg) = (-1)
      · rw [if_pos c3] at h
        obtain ⟨rfl, rfl⟩ := mm_pr h
        exact E
      · rw [if_neg c3] at h
        obtain ⟨r13, f12, ef12, h⟩ := mm_b2e h
        have E := eqC_tr (E_X7_saidOf ef12) E
        by_cases c4 : r13 ≤ ((f6 20 0 1) - (f6 38 0 ((2 * x2) + (f6 42 0 x1.toNatClampNeg)).toNatClampNeg))
        · rw [if_pos c4] at h
          obtain ⟨rfl, rfl⟩ := mm_pr h
          exact E
        · rw [if_neg c4] at h
          obtain ⟨rfl, rfl⟩ := mm_pr h
          exact E
    · rw [if_neg c2] at h
      obtain ⟨rfl, rfl⟩ := mm_pr h
      exact E
  · rw [if_neg c1] at h
    obtain ⟨rfl, rfl⟩ := mm_pr h
    exact E
set_option maxRecDepth 20000 in
theorem E_X7_can_69 {f f' : F3} {rv : Int32} {k13 : F3 → Int32 → Int32 → Int32 → Option (Int32 × F3)} (hk13 : ∀ (f : F3) (a0 : Int32) (a1 : Int32) (a2 : Int32), k13 f a0 a1 a2 = some (rv, f') → eqC f' f) {x1 : Int32} {x2 : Int32} {x3 : Int32} (h : S_X7_can_69 k13 f x1 x2 x3 = some (rv, f')) : eqC f' f := by
  rw [S_X7_can_69] at h
  have E : eqC f f := eqC_rf f
  exact eqC_tr (hk13 _ _ _ _ h) E
set_option maxRecDepth 20000 in
theorem E_X7_can_13 {f' : F3} {rv : Int32} : ∀ (n : Nat) {f : F3} {x1 : Int32} {x2 : Int32} {x3 : Int32}, S_X7_can_13 n f x1 x2 x3 = some (rv, f') → eqC f' f := by
  intro n
  induction n with
  | zero => intro f x1 x2 x3 h; cases h
  | succ n ih =>
    intro f x1 x2 x3 h
    rw [S_X7_can_13] at h
    have E : eqC f f := eqC_rf f
    by_cases c1 : (f 20 0 13) ≤ x3
    · rw [if_pos c1] at h
      obtain ⟨rfl, rfl⟩ := mm_pr h
      exact E
    · rw [if_neg c1] at h
      obtain ⟨_, h⟩ := mm_if h
      by_cases c2 : (f 43 0 x3.toNatClampNeg) = 1
      · rw [if_pos c2] at h
        by_cases c3 : (f 44 0 x3.toNatClampNeg) = x2
        · rw [if_pos c3] at h
          obtain ⟨_, h⟩ := mm_if h
          by_cases c4 : (f 42 0 x3.toNatClampNeg) = (f 42 0 x1.toNatClampNeg)
          · rw [if_pos c4] at h
            obtain ⟨rfl, rfl⟩ := mm_pr h
            exact E
          · rw [if_neg c4] at h
            obtain ⟨_, h⟩ := mm_if h
            by_cases c5 : 10 ≤ (f 33 0 x2.toNatClampNeg)
            · rw [if_pos c5] at h
              exact eqC_tr (E_X7_can_69 (fun _ _ _ _ h9 => ih h9)  h) E
            · rw [if_neg c5] at h
              obtain ⟨rfl, rfl⟩ := mm_pr h
              exact E
        · rw [if_neg c3] at h
          exact eqC_tr (E_X7_can_69 (fun _ _ _ _ h9 => ih h9)  h) E
      · rw [if_neg c2] at h
        exact eqC_tr (E_X7_can_69 (fun _ _ _ _ h9 => ih h9)  h) E
set_option maxRecDepth 20000 in
theorem E_X7_can {f f' : F3} {rv : Int32} {x1 : Int32} {x2 : Int32} (h : S_X7_can f x1 x2 = some (rv, f')) : eqC f' f := by
  rw [S_X7_can] at h
  have E : eqC f f := eqC_rf f
  obtain ⟨r2, f1, ef1, h⟩ := mm_b2e h
  have E := eqC_tr (E_X7_whyNot ef1) E
  by_cases c1 : r2 = 0
  · rw [if_pos c1] at h
    exact eqC_tr (E_X7_can_13 _ h) E
  · rw [if_neg c1] at h
    obtain ⟨rfl, rfl⟩ := mm_pr h
    exact E
set_option maxRecDepth 20000 in
theorem E_X7_cell_86 {f f' : F3} {rv : Int32} {s1 : Int32} {s2 : Int32} (h : S_X7_cell_86 f s1 s2 = some (rv, f')) : eqC f' f := by
  rw [S_X7_cell_86] at h
  have E : eqC f f := eqC_rf f
  obtain ⟨_, h⟩ := mm_if h
  obtain ⟨f19, ef19, h⟩ := mm_lt h
  have E := eqC_up ef19 (by decide) E
  obtain ⟨f20, ef20, h⟩ := mm_lt h
  have E := eqC_up ef20 (by decide) E
  obtain ⟨rfl, rfl⟩ := mm_pr h
  exact E
set_option maxRecDepth 20000 in
theorem E_X7_cell_26 {f f' : F3} {rv : Int32} (h : S_X7_cell_26 f = some (rv, f')) : eqC f' f := by
  rw [S_X7_cell_26] at h
  have E : eqC f f := eqC_rf f
  obtain ⟨r17, f16, ef16, h⟩ := mm_b2e h
  have E := eqC_tr (E_X7_refuse ef16) E
  obtain ⟨rfl, rfl⟩ := mm_pr h
  exact E
set_option maxRecDepth 20000 in
theorem E_X7_cell {f f' : F3} {rv : Int32} {x1 : Int32} {x2 : Int32} {x3 : Int32} (h : S_X7_cell f x1 x2 x3 = some (rv, f')) : eqC f' f := by
  rw [S_X7_cell] at h
  have E : eqC f f := eqC_rf f
  obtain ⟨r2, f1, ef1, h⟩ := mm_b2e h
  have E := eqC_tr (E_X7_in ef1) E
  by_cases c1 : r2 = 0
  · rw [if_pos c1] at h
    exact eqC_tr (E_X7_cell_26  h) E
  · rw [if_neg c1] at h
    obtain ⟨r5, f4, ef4, h⟩ := mm_b2e h
    have E := eqC_tr (E_X7_in ef4) E
    by_cases c2 : r5 = 0
    · rw [if_pos c2] at h
      exact eqC_tr (E_X7_cell_26  h) E
    · rw [if_neg c2] at h
      by_cases c3 : (f4 20 0 13) ≤ 0
      · rw [if_pos c3] at h
        by_cases c4 : (f4 20 0 2) = 10
        · rw [if_pos c4] at h
          obtain ⟨r15, f14, ef14, h⟩ := mm_b2e h
          have E := eqC_tr (E_X7_refuse ef14) E
          obtain ⟨rfl, rfl⟩ := mm_pr h
          exact E
        · rw [if_neg c4] at h
          obtain ⟨_, h⟩ := mm_if h
          obtain ⟨f10, ef10, h⟩ := mm_lt h
          have E := eqC_up ef10 (by decide) E
          obtain ⟨_, h⟩ := mm_if h
          obtain ⟨f12, ef12, h⟩ := mm_lt h
          have E := eqC_up ef12 (by decide) E
          by_cases c5 : x3 = 0
          · rw [if_pos c5] at h
            exact eqC_tr (E_X7_cell_86  h) E
          · rw [if_neg c5] at h
            exact eqC_tr (E_X7_cell_86  h) E
      · rw [if_neg c3] at h
        exact eqC_tr (E_X7_cell_26  h) E
set_option maxRecDepth 20000 in
theorem E_X7_cold_72 {f f' : F3} {rv : Int32} {k18 : F3 → Int32 → Int32 → Option (Int32 × F3)} (hk18 : ∀ (f : F3) (a0 : Int32) (a1 : Int32), k18 f a0 a1 = some (rv, f') → eqC f' f) {s0 : Int32} {s1 : Int32} {x2 : Int32} (h : S_X7_cold_72 k18 f s0 s1 x2 = some (rv, f')) : eqC f' f := by
  rw [S_X7_cold_72] at h
  have E : eqC f f := eqC_rf f
  exact eqC_tr (hk18 _ _ _ h) E
set_option maxRecDepth 20000 in
theorem E_X7_cold_61 {f f' : F3} {rv : Int32} {k18 : F3 → Int32 → Int32 → Option (Int32 × F3)} (hk18 : ∀ (f : F3) (a0 : Int32) (a1 : Int32), k18 f a0 a1 = some (rv, f') → eqC f' f) {s1 : Int32} {s2 : Int32} {x1 : Int32} {x2 : Int32} {x3 : Int32} (h : S_X7_cold_61 k18 f s1 s2 x1 x2 x3 = some (rv, f')) : eqC f' f := by
  rw [S_X7_cold_61] at h
  have E : eqC f f := eqC_rf f
  obtain ⟨_, h⟩ := mm_if h
  obtain ⟨f10, ef10, h⟩ := mm_lt h
  have E := eqC_up ef10 (by decide) E
  by_cases c1 : x3 = 0
  · rw [if_pos c1] at h
    exact eqC_tr (E_X7_cold_72 hk18  h) E
  · rw [if_neg c1] at h
    exact eqC_tr (E_X7_cold_72 hk18  h) E
set_option maxRecDepth 20000 in
theorem E_X7_cold_18 {f' : F3} {rv : Int32} : ∀ (n : Nat) {f : F3} {x1 : Int32} {x2 : Int32}, S_X7_cold_18 n f x1 x2 = some (rv, f') → eqC f' f := by
  intro n
  induction n with
  | zero => intro f x1 x2 h; cases h
  | succ n ih =>
    intro f x1 x2 h
    rw [S_X7_cold_18] at h
    have E : eqC f f := eqC_rf f
    by_cases c1 : 48 ≤ x2
    · rw [if_pos c1] at h
      obtain ⟨rfl, rfl⟩ := mm_pr h
      exact E
    · rw [if_neg c1] at h
      obtain ⟨_, h⟩ := mm_if h
      obtain ⟨r7, f6, ef6, h⟩ := mm_b2e h
      have E := eqC_tr (E_X7_in ef6) E
      by_cases c2 : r7 = 0
      · rw [if_pos c2] at h
        exact eqC_tr (E_X7_cold_61 (fun _ _ _ h9 => ih h9)  h) E
      · rw [if_neg c2] at h
        exact eqC_tr (E_X7_cold_61 (fun _ _ _ h9 => ih h9)  h) E
set_option maxRecDepth 20000 in
theorem E_X7_cold {f f' : F3} {rv : Int32} (h : S_X7_cold f = some (rv, f')) : eqC f' f := by
  rw [S_X7_cold] at h
  have E : eqC f f := eqC_rf f
  by_cases c1 : (f 20 0 31) = 0
  · rw [if_pos c1] at h
    obtain ⟨r3, f2, ef2, h⟩ := mm_b2e h
    have E := eqC_tr (E_X7_refuse ef2) E
    obtain ⟨rfl, rfl⟩ := mm_pr h
    exact E
  · rw [if_neg c1] at h
    exact eqC_tr (E_X7_cold_18 _ h) E
set_option maxRecDepth 20000 in
theorem E_X7_cracks {f f' : F3} {x1 : Int32} (h : S_X7_cracks f x1 = some f') : eqC f' f := by
  rw [S_X7_cracks] at h
  have E : eqC f f := eqC_rf f
  obtain ⟨f1, ef1, h⟩ := mm_bind h
  have E := eqC_tr (E_X7_becomes ef1) E
  obtain ⟨_, h⟩ := mm_if h
  obtain ⟨f3, ef3, h⟩ := mm_lt h
  have E := eqC_up ef3 (by decide) E
  obtain ⟨f4, ef4, h⟩ := mm_lt h
  have E := eqC_up ef4 (by decide) E
  obtain rfl := mm_p1 h
  exact E
set_option maxRecDepth 20000 in
theorem E_X7_comes {f f' : F3} {x1 : Int32} {x2 : Int32} (h : S_X7_comes f x1 x2 = some f') : eqC f' f := by
  rw [S_X7_comes] at h
  have E : eqC f f := eqC_rf f
  obtain ⟨_, h⟩ := mm_if h
  obtain ⟨_, h⟩ := mm_if h
  obtain ⟨f3, ef3, h⟩ := mm_lt h
  have E := eqC_up ef3 (by decide) E
  obtain ⟨r5, f4, ef4, h⟩ := mm_b2e h
  have E := eqC_tr (E_X7_isBorne ef4) E
  by_cases c1 : r5 = 0
  · rw [if_pos c1] at h
    obtain ⟨f15, ef15, h⟩ := mm_lt h
    have E := eqC_up ef15 (by decide) E
    obtain ⟨f16, ef16, h⟩ := mm_lt h
    have E := eqC_up ef16 (by decide) E
    obtain ⟨f17, ef17, h⟩ := mm_bind h
    have E := eqC_tr (E_X7_cracks ef17) E
    obtain rfl := mm_p1 h
    exact E
  · rw [if_neg c1] at h
    obtain ⟨f7, ef7, h⟩ := mm_lt h
    have E := eqC_up ef7 (by decide) E
    obtain ⟨f8, ef8, h⟩ := mm_lt h
    have E := eqC_up ef8 (by decide) E
    obtain ⟨f9, ef9, h⟩ := mm_lt h
    have E := eqC_up ef9 (by decide) E
    obtain ⟨_, h⟩ := mm_if h
    obtain ⟨f11, ef11, h⟩ := mm_lt h
    have E := eqC_up ef11 (by decide) E
    by_cases c2 : (f11 30 0 x2.toNatClampNeg) = 4
    · rw [if_pos c2] at h
      obtain rfl := mm_p1 h
      exact E
    · rw [if_neg c2] at h
      by_cases c3 : (f11 35 0 x2.toNatClampNeg) < (f11 31 0 x2.toNatClampNeg)
      · rw [if_pos c3] at h
        obtain rfl := mm_p1 h
        exact E
      · rw [if_neg c3] at h
        obtain ⟨f14, ef14, h⟩ := mm_bind h
        have E := eqC_tr (E_X7_cracks ef14) E
        obtain rfl := mm_p1 h
        exact E
set_option maxRecDepth 20000 in
theorem E_X7_copy_102 {f' : F3} {rv : Int32} : ∀ (n : Nat) {f : F3} {x2 : Int32} {x3 : Int32} {x4 : Int32}, S_X7_copy_102 n f x2 x3 x4 = some (rv, f') → eqC f' f := by
  intro n
  induction n with
  | zero => intro f x2 x3 x4 h; cases h
  | succ n ih =>
    intro f x2 x3 x4 h
    rw [S_X7_copy_102] at h
    have E : eqC f f := eqC_rf f
    by_cases c1 : x3 ≤ x4
    · rw [if_pos c1] at h
      obtain ⟨rfl, rfl⟩ := mm_pr h
      exact E
    · rw [if_neg c1] at h
      obtain ⟨_, h⟩ := mm_if h
      obtain ⟨_, h⟩ := mm_if h
      obtain ⟨f22, ef22, h⟩ := mm_lt h
      have E := eqC_up ef22 (by decide) E
      exact eqC_tr (ih h) E
set_option maxRecDepth 20000 in
theorem E_X7_copy_71 {f' : F3} {rv : Int32} : ∀ (n : Nat) {f : F3} {x1 : Int32} {x2 : Int32} {x3 : Int32} {x4 : Int32}, S_X7_copy_71 n f x1 x2 x3 x4 = some (rv, f') → eqC f' f := by
  intro n
  induction n with
  | zero => intro f x1 x2 x3 x4 h; cases h
  | succ n ih =>
    intro f x1 x2 x3 x4 h
    rw [S_X7_copy_71] at h
    have E : eqC f f := eqC_rf f
    by_cases c1 : x3 ≤ x4
    · rw [if_pos c1] at h
      exact eqC_tr (E_X7_copy_102 _ h) E
    · rw [if_neg c1] at h
      obtain ⟨_, h⟩ := mm_if h
      obtain ⟨_, h⟩ := mm_if h
      obtain ⟨f18, ef18, h⟩ := mm_lt h
      have E := eqC_up ef18 (by decide) E
      exact eqC_tr (ih h) E
set_option maxRecDepth 20000 in
theorem E_X7_copy_61 {f f' : F3} {rv : Int32} (h : S_X7_copy_61 f = some (rv, f')) : eqC f' f := by
  rw [S_X7_copy_61] at h
  have E : eqC f f := eqC_rf f
  obtain ⟨r14, f13, ef13, h⟩ := mm_b2e h
  have E := eqC_tr (E_X7_refuse ef13) E
  obtain ⟨rfl, rfl⟩ := mm_pr h
  exact E
set_option maxRecDepth 20000 in
theorem E_X7_copy {f f' : F3} {rv : Int32} {x1 : Int32} {x2 : Int32} {x3 : Int32} (h : S_X7_copy f x1 x2 x3 = some (rv, f')) : eqC f' f := by
  rw [S_X7_copy] at h
  have E : eqC f f := eqC_rf f
  by_cases c1 : (f 20 0 31) = 0
  · rw [if_pos c1] at h
    obtain ⟨r12, f11, ef11, h⟩ := mm_b2e h
    have E := eqC_tr (E_X7_refuse ef11) E
    obtain ⟨rfl, rfl⟩ := mm_pr h
    exact E
  · rw [if_neg c1] at h
    by_cases c2 : 0 ≤ x3
    · rw [if_pos c2] at h
      by_cases c3 : x1 < 0
      · rw [if_pos c3] at h
        exact eqC_tr (E_X7_copy_61  h) E
      · rw [if_neg c3] at h
        by_cases c4 : x2 < 0
        · rw [if_pos c4] at h
          exact eqC_tr (E_X7_copy_61  h) E
        · rw [if_neg c4] at h
          by_cases c5 : 48 < x1
          · rw [if_pos c5] at h
            exact eqC_tr (E_X7_copy_61  h) E
          · rw [if_neg c5] at h
            by_cases c6 : 48 < x2
            · rw [if_pos c6] at h
              exact eqC_tr (E_X7_copy_61  h) E
            · rw [if_neg c6] at h
              by_cases c7 : (48 - x1) < x3
              · rw [if_pos c7] at h
                exact eqC_tr (E_X7_copy_61  h) E
              · rw [if_neg c7] at h
                by_cases c8 : x3 ≤ (48 - x2)
                · rw [if_pos c8] at h
                  exact eqC_tr (E_X7_copy_71 _ h) E
                · rw [if_neg c8] at h
                  exact eqC_tr (E_X7_copy_61  h) E
    · rw [if_neg c2] at h
      obtain ⟨r10, f9, ef9, h⟩ := mm_b2e h
      have E := eqC_tr (E_X7_refuse ef9) E
      obtain ⟨rfl, rfl⟩ := mm_pr h
      exact E
set_option maxRecDepth 20000 in
theorem E_X7_many_28 {f f' : F3} {rv : Int32} {k4 : F3 → Int32 → Int32 → Int32 → Option (Int32 × F3)} (hk4 : ∀ (f : F3) (a0 : Int32) (a1 : Int32) (a2 : Int32), k4 f a0 a1 a2 = some (rv, f') → eqC f' f) {s0 : Int32} {s1 : Int32} {x1 : Int32} {x3 : Int32} (h : S_X7_many_28 k4 f s0 s1 x1 x3 = some (rv, f')) : eqC f' f := by
  rw [S_X7_many_28] at h
  have E : eqC f f := eqC_rf f
  exact eqC_tr (hk4 _ _ _ _ h) E
set_option maxRecDepth 20000 in
theorem E_X7_many_4 {f' : F3} {rv : Int32} : ∀ (n : Nat) {f : F3} {x1 : Int32} {x2 : Int32} {x3 : Int32}, S_X7_many_4 n f x1 x2 x3 = some (rv, f') → eqC f' f := by
  intro n
  induction n with
  | zero => intro f x1 x2 x3 h; cases h
  | succ n ih =>
    intro f x1 x2 x3 h
    rw [S_X7_many_4] at h
    have E : eqC f f := eqC_rf f
    by_cases c1 : (f 20 0 13) ≤ x3
    · rw [if_pos c1] at h
      obtain ⟨rfl, rfl⟩ := mm_pr h
      exact E
    · rw [if_neg c1] at h
      obtain ⟨_, h⟩ := mm_if h
      by_cases c2 : (f 43 0 x3.toNatClampNeg) = x1
      · rw [if_pos c2] at h
        exact eqC_tr (E_X7_many_28 (fun _ _ _ _ h9 => ih h9)  h) E
      · rw [if_neg c2] at h
        exact eqC_tr (E_X7_many_28 (fun _ _ _ _ h9 => ih h9)  h) E
set_option maxRecDepth 20000 in
theorem E_X7_many {f f' : F3} {rv : Int32} {x1 : Int32} (h : S_X7_many f x1 = some (rv, f')) : eqC f' f := by
  rw [S_X7_many] at h
  have E : eqC f f := eqC_rf f
  exact eqC_tr (E_X7_many_4 _ h) E
set_option maxRecDepth 20000 in
theorem E_X7_count_106 {f f' : F3} {rv : Int32} (h : S_X7_count_106 f = some (rv, f')) : eqC f' f := by
  rw [S_X7_count_106] at h
  have E : eqC f f := eqC_rf f
  obtain ⟨r19, f18, ef18, h⟩ := mm_b2e h
  have E := eqC_tr (E_X7_refuse ef18) E
  obtain ⟨rfl, rfl⟩ := mm_pr h
  exact E
set_option maxRecDepth 20000 in
theorem E_X7_count {f f' : F3} {rv : Int32} {x1 : Int32} (h : S_X7_count f x1 = some (rv, f')) : eqC f' f := by
  rw [S_X7_count] at h
  have E : eqC f f := eqC_rf f
  obtain ⟨r2, f1, ef1, h⟩ := mm_b2e h
  have E := eqC_tr (E_X7_in ef1) E
  by_cases c1 : r2 = 0
  · rw [if_pos c1] at h
    by_cases c2 : x1 = 0
    · rw [if_pos c2] at h
      obtain ⟨rfl, rfl⟩ := mm_pr h
      exact E
    · rw [if_neg c2] at h
      by_cases c3 : x1 = 1
      · rw [if_pos c3] at h
        obtain ⟨rfl, rfl⟩ := mm_pr h
        exact E
      · rw [if_neg c3] at h
        by_cases c4 : x1 = 2
        · rw [if_pos c4] at h
          obtain ⟨rfl, rfl⟩ := mm_pr h
          exact E
        · rw [if_neg c4] at h
          by_cases c5 : x1 = 3
          · rw [if_pos c5] at h
            obtain ⟨rfl, rfl⟩ := mm_pr h
            exact E
          · rw [if_neg c5] at h
            by_cases c6 : x1 = 4
            · rw [if_pos c6] at h
              obtain ⟨rfl, rfl⟩ := mm_pr h
              exact E
            · rw [if_neg c6] at h
              by_cases c7 : x1 = 5
              · rw [if_pos c7] at h
                exact eqC_tr (E_X7_count_106  h) E
              · rw [if_neg c7] at h
                by_cases c8 : x1 = 6
                · rw [if_pos c8] at h
                  exact eqC_tr (E_X7_count_106  h) E
                · rw [if_neg c8] at h
                  by_cases c9 : x1 = 7
                  · rw [if_pos c9] at h
                    exact eqC_tr (E_X7_count_106  h) E
                  · rw [if_neg c9] at h
                    by_cases c10 : x1 = 8
                    · rw [if_pos c10] at h
                      exact eqC_tr (E_X7_count_106  h) E
                    · rw [if_neg c10] at h
                      by_cases c11 : x1 = 9
                      · rw [if_pos c11] at h
                        exact eqC_tr (E_X7_count_106  h) E
                      · rw [if_neg c11] at h
                        by_cases c12 : x1 = 10
                        · rw [if_pos c12] at h
                          obtain ⟨rfl, rfl⟩ := mm_pr h
                          exact E
                        · rw [if_neg c12] at h
                          exact eqC_tr (E_X7_count_106  h) E
  · rw [if_neg c1] at h
    obtain ⟨r17, f16, ef16, h⟩ := mm_b2e h
    have E := eqC_tr (E_X7_many ef16) E
    obtain ⟨rfl, rfl⟩ := mm_pr h
    exact E
set_option maxRecDepth 20000 in
theorem E_X7_here {f f' : F3} {rv : Int32} (h : S_X7_here f = some (rv, f')) : eqC f' f := by
  rw [S_X7_here] at h
  have E : eqC f f := eqC_rf f
  by_cases c1 : (f 20 0 27) ≤ (f 20 0 28)
  · rw [if_pos c1] at h
    obtain ⟨rfl, rfl⟩ := mm_pr h
    exact E
  · rw [if_neg c1] at h
    obtain ⟨_, h⟩ := mm_if h
    obtain ⟨rfl, rfl⟩ := mm_pr h
    exact E
set_option maxRecDepth 20000 in
theorem E_X7_digits_85 {f f' : F3} {s1 : Int32} (h : S_X7_digits_85 f s1 = some f') : eqC f' f := by
  rw [S_X7_digits_85] at h
  have E : eqC f f := eqC_rf f
  obtain ⟨_, h⟩ := mm_if h
  obtain ⟨f16, ef16, h⟩ := mm_lt h
  have E := eqC_up ef16 (by decide) E
  obtain rfl := mm_p1 h
  exact E
set_option maxRecDepth 20000 in
theorem E_X7_digits_80 {f f' : F3} (h : S_X7_digits_80 f = some f') : eqC f' f := by
  rw [S_X7_digits_80] at h
  have E : eqC f f := eqC_rf f
  exact eqC_tr (E_X7_digits_85  h) E
set_option maxRecDepth 20000 in
theorem E_X7_digits_68 {f f' : F3} {x1 : Int32} (h : S_X7_digits_68 f x1 = some f') : eqC f' f := by
  rw [S_X7_digits_68] at h
  have E : eqC f f := eqC_rf f
  by_cases c1 : (f 20 0 29) = 0
  · rw [if_pos c1] at h
    by_cases c2 : x1 = 0
    · rw [if_pos c2] at h
      exact eqC_tr (E_X7_digits_80  h) E
    · rw [if_neg c2] at h
      exact eqC_tr (E_X7_digits_85  h) E
  · rw [if_neg c1] at h
    exact eqC_tr (E_X7_digits_80  h) E
set_option maxRecDepth 20000 in
theorem E_X7_digits_7 {f' : F3} : ∀ (n : Nat) {f : F3} {x1 : Int32}, S_X7_digits_7 n f x1 = some f' → eqC f' f := by
  intro n
  induction n with
  | zero => intro f x1 h; cases h
  | succ n ih =>
    intro f x1 h
    rw [S_X7_digits_7] at h
    have E : eqC f f := eqC_rf f
    by_cases c1 : (f 20 0 29) = 0
    · rw [if_pos c1] at h
      by_cases c2 : 4 ≤ x1
      · rw [if_pos c2] at h
        exact eqC_tr (E_X7_digits_68  h) E
      · rw [if_neg c2] at h
        obtain ⟨r5, f4, ef4, h⟩ := mm_b2e h
        have E := eqC_tr (E_X7_here ef4) E
        obtain ⟨r7, f6, ef6, h⟩ := mm_b2e h
        have E := eqC_tr (E_X7_in ef6) E
        by_cases c3 : r7 = 0
        · rw [if_pos c3] at h
          exact eqC_tr (E_X7_digits_68  h) E
        · rw [if_neg c3] at h
          obtain ⟨r10, f9, ef9, h⟩ := mm_b2e h
          have E := eqC_tr (E_X7_here ef9) E
          obtain ⟨f11, ef11, h⟩ := mm_lt h
          have E := eqC_up ef11 (by decide) E
          obtain ⟨f12, ef12, h⟩ := mm_lt h
          have E := eqC_up ef12 (by decide) E
          exact eqC_tr (ih h) E
    · rw [if_neg c1] at h
      exact eqC_tr (E_X7_digits_68  h) E
set_option maxRecDepth 20000 in
theorem E_X7_digits {f f' : F3} (h : S_X7_digits f = some f') : eqC f' f := by
  rw [S_X7_digits] at h
  have E : eqC f f := eqC_rf f
  obtain ⟨f1, ef1, h⟩ := mm_lt h
  have E := eqC_up ef1 (by decide) E
  exact eqC_tr (E_X7_digits_7 _ h) E
set_option maxRecDepth 20000 in
theorem E_X7_eats_28 {f f' : F3} (h : S_X7_eats_28 f = some f') : eqC f' f := by
  rw [S_X7_eats_28] at h
  have E : eqC f f := eqC_rf f
  obtain ⟨f6, ef6, h⟩ := mm_lt h
  have E := eqC_up ef6 (by decide) E
  obtain rfl := mm_p1 h
  exact E
set_option maxRecDepth 20000 in
theorem E_X7_eats {f f' : F3} {x1 : Int32} (h : S_X7_eats f x1 = some f') : eqC f' f := by
  rw [S_X7_eats] at h
  have E : eqC f f := eqC_rf f
  by_cases c1 : (f 20 0 29) = 0
  · rw [if_pos c1] at h
    obtain ⟨r3, f2, ef2, h⟩ := mm_b2e h
    have E := eqC_tr (E_X7_here ef2) E
    by_cases c2 : r3 = x1
    · rw [if_pos c2] at h
      obtain ⟨f5, ef5, h⟩ := mm_lt h
      have E := eqC_up ef5 (by decide) E
      obtain rfl := mm_p1 h
      exact E
    · rw [if_neg c2] at h
      exact eqC_tr (E_X7_eats_28  h) E
  · rw [if_neg c1] at h
    exact eqC_tr (E_X7_eats_28  h) E
set_option maxRecDepth 20000 in
theorem E_X7_eats3 {f f' : F3} {x1 : Int32} {x2 : Int32} {x3 : Int32} (h : S_X7_eats3 f x1 x2 x3 = some f') : eqC f' f := by
  rw [S_X7_eats3] at h
  have E : eqC f f := eqC_rf f
  obtain ⟨f1, ef1, h⟩ := mm_bind h
  have E := eqC_tr (E_X7_eats ef1) E
  obtain ⟨f2, ef2, h⟩ := mm_bind h
  have E := eqC_tr (E_X7_eats ef2) E
  obtain ⟨f3, ef3, h⟩ := mm_bind h
  have E := eqC_tr (E_X7_eats ef3) E
  obtain rfl := mm_p1 h
  exact E
set_option maxRecDepth 20000 in
theorem E_X7_feed_45 {f' : F3} {rv : Int32} : ∀ (n : Nat) {f : F3} {x1 : Int32} {x3 : Int32}, S_X7_feed_45 n f x1 x3 = some (rv, f') → eqC f' f := by
  intro n
  induction n with
  | zero => intro f x1 x3 h; cases h
  | succ n ih =>
    intro f x1 x3 h
    rw [S_X7_feed_45] at h
    have E : eqC f f := eqC_rf f
    by_cases c1 : x3 < 0
    · rw [if_pos c1] at h
      obtain ⟨rfl, rfl⟩ := mm_pr h
      exact E
    · rw [if_neg c1] at h
      obtain ⟨_, h⟩ := mm_if h
      obtain ⟨f12, ef12, h⟩ := mm_lt h
      have E := eqC_up ef12 (by decide) E
      obtain ⟨f13, ef13, h⟩ := mm_lt h
      have E := eqC_up ef13 (by decide) E
      exact eqC_tr (ih h) E
set_option maxRecDepth 20000 in
theorem E_X7_feed {f f' : F3} {rv : Int32} {x1 : Int32} {x2 : Int32} (h : S_X7_feed f x1 x2 = some (rv, f')) : eqC f' f := by
  rw [S_X7_feed] at h
  have E : eqC f f := eqC_rf f
  by_cases c1 : 0 ≤ x2
  · rw [if_pos c1] at h
    by_cases c2 : x2 ≤ 4
    · rw [if_pos c2] at h
      by_cases c3 : ((f 20 0 27) + x2) ≤ 80
      · rw [if_pos c3] at h
        exact eqC_tr (E_X7_feed_45 _ h) E
      · rw [if_neg c3] at h
        obtain ⟨r5, f4, ef4, h⟩ := mm_b2e h
        have E := eqC_tr (E_X7_refuse ef4) E
        obtain ⟨rfl, rfl⟩ := mm_pr h
        exact E
    · rw [if_neg c2] at h
      obtain ⟨r7, f6, ef6, h⟩ := mm_b2e h
      have E := eqC_tr (E_X7_refuse ef6) E
      obtain ⟨rfl, rfl⟩ := mm_pr h
      exact E
  · rw [if_neg c1] at h
    obtain ⟨r9, f8, ef8, h⟩ := mm_b2e h
    have E := eqC_tr (E_X7_refuse ef8) E
    obtain ⟨rfl, rfl⟩ := mm_pr h
    exact E
set_option maxRecDepth 20000 in
theorem E_X7_fieldRead {f f' : F3} {rv : Int32} (h : S_X7_fieldRead f = some (rv, f')) : eqC f' f := by
  rw [S_X7_fieldRead] at h
  have E : eqC f f := eqC_rf f
  obtain ⟨r2, f1, ef1, h⟩ := mm_b2e h
  have E := eqC_tr (E_X7_here ef1) E
  by_cases c1 : r2 = 99
  · rw [if_pos c1] at h
    obtain ⟨f5, ef5, h⟩ := mm_bind h
    have E := eqC_tr (E_X7_eats3 ef5) E
    obtain ⟨f6, ef6, h⟩ := mm_bind h
    have E := eqC_tr (E_X7_eats ef6) E
    obtain ⟨rfl, rfl⟩ := mm_pr h
    exact E
  · rw [if_neg c1] at h
    by_cases c2 : r2 = 104
    · rw [if_pos c2] at h
      obtain ⟨f8, ef8, h⟩ := mm_bind h
      have E := eqC_tr (E_X7_eats3 ef8) E
      obtain ⟨f9, ef9, h⟩ := mm_bind h
      have E := eqC_tr (E_X7_eats ef9) E
      obtain ⟨rfl, rfl⟩ := mm_pr h
      exact E
    · rw [if_neg c2] at h
      by_cases c3 : r2 = 114
      · rw [if_pos c3] at h
        obtain ⟨f11, ef11, h⟩ := mm_bind h
        have E := eqC_tr (E_X7_eats3 ef11) E
        obtain ⟨f12, ef12, h⟩ := mm_bind h
        have E := eqC_tr (E_X7_eats ef12) E
        obtain ⟨rfl, rfl⟩ := mm_pr h
        exact E
      · rw [if_neg c3] at h
        by_cases c4 : r2 = 119
        · rw [if_pos c4] at h
          obtain ⟨f14, ef14, h⟩ := mm_bind h
          have E := eqC_tr (E_X7_eats3 ef14) E
          obtain ⟨f15, ef15, h⟩ := mm_bind h
          have E := eqC_tr (E_X7_eats3 ef15) E
          obtain ⟨rfl, rfl⟩ := mm_pr h
          exact E
        · rw [if_neg c4] at h
          obtain ⟨f16, ef16, h⟩ := mm_bind h
          have E := eqC_tr (E_X7_eats3 ef16) E
          obtain ⟨f17, ef17, h⟩ := mm_bind h
          have E := eqC_tr (E_X7_eats ef17) E
          obtain ⟨rfl, rfl⟩ := mm_pr h
          exact E
set_option maxRecDepth 20000 in
theorem E_X7_flood_42 {f f' : F3} {rv : Int32} {x1 : Int32} (h : S_X7_flood_42 f x1 = some (rv, f')) : eqC f' f := by
  rw [S_X7_flood_42] at h
  have E : eqC f f := eqC_rf f
  obtain ⟨f11, ef11, h⟩ := mm_bind h
  have E := eqC_tr (E_X7_becomes ef11) E
  obtain ⟨rfl, rfl⟩ := mm_pr h
  exact E
set_option maxRecDepth 20000 in
theorem E_X7_flood {f f' : F3} {rv : Int32} {x1 : Int32} (h : S_X7_flood f x1 = some (rv, f')) : eqC f' f := by
  rw [S_X7_flood] at h
  have E : eqC f f := eqC_rf f
  obtain ⟨r2, f1, ef1, h⟩ := mm_b2e h
  have E := eqC_tr (E_X7_isCell ef1) E
  by_cases c1 : r2 = 0
  · rw [if_pos c1] at h
    obtain ⟨r10, f9, ef9, h⟩ := mm_b2e h
    have E := eqC_tr (E_X7_refuse ef9) E
    obtain ⟨rfl, rfl⟩ := mm_pr h
    exact E
  · rw [if_neg c1] at h
    obtain ⟨_, h⟩ := mm_if h
    by_cases c2 : (f1 30 0 x1.toNatClampNeg) = 1
    · rw [if_pos c2] at h
      exact eqC_tr (E_X7_flood_42  h) E
    · rw [if_neg c2] at h
      by_cases c3 : (f1 30 0 x1.toNatClampNeg) = 2
      · rw [if_pos c3] at h
        exact eqC_tr (E_X7_flood_42  h) E
      · rw [if_neg c3] at h
        obtain ⟨r8, f7, ef7, h⟩ := mm_b2e h
        have E := eqC_tr (E_X7_refuse ef7) E
        obtain ⟨rfl, rfl⟩ := mm_pr h
        exact E
set_option maxRecDepth 20000 in
theorem E_X7_grows_187 {f f' : F3} {x1 : Int32} {x2 : Int32} (h : S_X7_grows_187 f x1 x2 = some f') : eqC f' f := by
  rw [S_X7_grows_187] at h
  have E : eqC f f := eqC_rf f
  obtain ⟨_, h⟩ := mm_if h
  by_cases c1 : (f 30 0 x1.toNatClampNeg) = 3
  · rw [if_pos c1] at h
    by_cases c2 : (-100) ≤ x2
    · rw [if_pos c2] at h
      obtain rfl := mm_p1 h
      exact E
    · rw [if_neg c2] at h
      obtain ⟨f12, ef12, h⟩ := mm_lt h
      have E := eqC_up ef12 (by decide) E
      by_cases c3 : (f12 36 0 x1.toNatClampNeg) = 24
      · rw [if_pos c3] at h
        obtain ⟨f14, ef14, h⟩ := mm_bind h
        have E := eqC_tr (E_X7_becomes ef14) E
        obtain ⟨f15, ef15, h⟩ := mm_lt h
        have E := eqC_up ef15 (by decide) E
        obtain rfl := mm_p1 h
        exact E
      · rw [if_neg c3] at h
        obtain rfl := mm_p1 h
        exact E
  · rw [if_neg c1] at h
    obtain rfl := mm_p1 h
    exact E
set_option maxRecDepth 20000 in
theorem E_X7_grows_186 {f f' : F3} {s1 : Int32} {s2 : Int32} {x1 : Int32} {x2 : Int32} (h : S_X7_grows_186 f s1 s2 x1 x2 = some f') : eqC f' f := by
  rw [S_X7_grows_186] at h
  have E : eqC f f := eqC_rf f
  obtain ⟨_, h⟩ := mm_if h
  obtain ⟨f17, ef17, h⟩ := mm_lt h
  have E := eqC_up ef17 (by decide) E
  exact eqC_tr (E_X7_grows_187  h) E
set_option maxRecDepth 20000 in
theorem E_X7_grows_139 {f f' : F3} {s1 : Int32} {s2 : Int32} {x1 : Int32} {x2 : Int32} (h : S_X7_grows_139 f s1 s2 x1 x2 = some f') : eqC f' f := by
  rw [S_X7_grows_139] at h
  have E : eqC f f := eqC_rf f
  obtain ⟨_, h⟩ := mm_if h
  obtain ⟨f26, ef26, h⟩ := mm_lt h
  have E := eqC_up ef26 (by decide) E
  exact eqC_tr (E_X7_grows_187  h) E
set_option maxRecDepth 20000 in
theorem E_X7_grows_77 {f f' : F3} {s0 : Int32} {x1 : Int32} {x2 : Int32} {x3 : Int32} (h : S_X7_grows_77 f s0 x1 x2 x3 = some f') : eqC f' f := by
  rw [S_X7_grows_77] at h
  have E : eqC f f := eqC_rf f
  obtain ⟨_, h⟩ := mm_if h
  obtain ⟨_, h⟩ := mm_if h
  obtain ⟨f23, ef23, h⟩ := mm_lt h
  have E := eqC_up ef23 (by decide) E
  by_cases c1 : (f23 31 0 x1.toNatClampNeg) ≤ 3000
  · rw [if_pos c1] at h
    exact eqC_tr (E_X7_grows_139  h) E
  · rw [if_neg c1] at h
    exact eqC_tr (E_X7_grows_139  h) E
set_option maxRecDepth 20000 in
theorem E_X7_grows_67 {f f' : F3} {x1 : Int32} {x2 : Int32} {x3 : Int32} (h : S_X7_grows_67 f x1 x2 x3 = some f') : eqC f' f := by
  rw [S_X7_grows_67] at h
  have E : eqC f f := eqC_rf f
  exact eqC_tr (E_X7_grows_77  h) E
set_option maxRecDepth 20000 in
theorem E_X7_grows_46 {f f' : F3} {s0 : Int32} {x1 : Int32} {x2 : Int32} (h : S_X7_grows_46 f s0 x1 x2 = some f') : eqC f' f := by
  rw [S_X7_grows_46] at h
  have E : eqC f f := eqC_rf f
  obtain ⟨_, h⟩ := mm_if h
  by_cases c1 : (f 30 0 x1.toNatClampNeg) = 1
  · rw [if_pos c1] at h
    exact eqC_tr (E_X7_grows_67  h) E
  · rw [if_neg c1] at h
    by_cases c2 : (f 30 0 x1.toNatClampNeg) = 2
    · rw [if_pos c2] at h
      exact eqC_tr (E_X7_grows_67  h) E
    · rw [if_neg c2] at h
      exact eqC_tr (E_X7_grows_77  h) E
set_option maxRecDepth 20000 in
theorem E_X7_grows {f f' : F3} {x1 : Int32} {x2 : Int32} (h : S_X7_grows f x1 x2 = some f') : eqC f' f := by
  rw [S_X7_grows] at h
  have E : eqC f f := eqC_rf f
  obtain ⟨_, h⟩ := mm_if h
  by_cases c1 : (f 30 0 x1.toNatClampNeg) = 4
  · rw [if_pos c1] at h
    obtain rfl := mm_p1 h
    exact E
  · rw [if_neg c1] at h
    by_cases c2 : 0 ≤ x2
    · rw [if_pos c2] at h
      by_cases c3 : x2 ≤ 0
      · rw [if_pos c3] at h
        exact eqC_tr (E_X7_grows_187  h) E
      · rw [if_neg c3] at h
        obtain ⟨f5, ef5, h⟩ := mm_lt h
        have E := eqC_up ef5 (by decide) E
        by_cases c4 : 0 ≤ (f5 31 0 x1.toNatClampNeg)
        · rw [if_pos c4] at h
          exact eqC_tr (E_X7_grows_186  h) E
        · rw [if_neg c4] at h
          exact eqC_tr (E_X7_grows_186  h) E
    · rw [if_neg c2] at h
      by_cases c5 : (f 30 0 x1.toNatClampNeg) = 2
      · rw [if_pos c5] at h
        exact eqC_tr (E_X7_grows_46  h) E
      · rw [if_neg c5] at h
        by_cases c6 : (f 30 0 x1.toNatClampNeg) = 3
        · rw [if_pos c6] at h
          exact eqC_tr (E_X7_grows_46  h) E
        · rw [if_neg c6] at h
          exact eqC_tr (E_X7_grows_46  h) E
set_option maxRecDepth 20000 in
theorem E_X7_next_53 {f f' : F3} {rv : Int32} {k4 : F3 → Int32 → Int32 → Int32 → Option (Int32 × F3)} (hk4 : ∀ (f : F3) (a0 : Int32) (a1 : Int32) (a2 : Int32), k4 f a0 a1 a2 = some (rv, f') → eqC f' f) {x1 : Int32} {x2 : Int32} {x3 : Int32} (h : S_X7_next_53 k4 f x1 x2 x3 = some (rv, f')) : eqC f' f := by
  rw [S_X7_next_53] at h
  have E : eqC f f := eqC_rf f
  exact eqC_tr (hk4 _ _ _ _ h) E
set_option maxRecDepth 20000 in
theorem E_X7_next_51 {f f' : F3} {rv : Int32} {k4 : F3 → Int32 → Int32 → Int32 → Option (Int32 × F3)} (hk4 : ∀ (f : F3) (a0 : Int32) (a1 : Int32) (a2 : Int32), k4 f a0 a1 a2 = some (rv, f') → eqC f' f) {x1 : Int32} {x3 : Int32} (h : S_X7_next_51 k4 f x1 x3 = some (rv, f')) : eqC f' f := by
  rw [S_X7_next_51] at h
  have E : eqC f f := eqC_rf f
  exact eqC_tr (E_X7_next_53 hk4  h) E
set_option maxRecDepth 20000 in
theorem E_X7_next_4 {f' : F3} {rv : Int32} : ∀ (n : Nat) {f : F3} {x1 : Int32} {x2 : Int32} {x3 : Int32}, S_X7_next_4 n f x1 x2 x3 = some (rv, f') → eqC f' f := by
  intro n
  induction n with
  | zero => intro f x1 x2 x3 h; cases h
  | succ n ih =>
    intro f x1 x2 x3 h
    rw [S_X7_next_4] at h
    have E : eqC f f := eqC_rf f
    by_cases c1 : (f 20 0 13) ≤ x3
    · rw [if_pos c1] at h
      obtain ⟨rfl, rfl⟩ := mm_pr h
      exact E
    · rw [if_neg c1] at h
      obtain ⟨_, h⟩ := mm_if h
      by_cases c2 : (f 24 0 x3.toNatClampNeg) = 0
      · rw [if_pos c2] at h
        by_cases c3 : (f 43 0 x3.toNatClampNeg) = x1
        · rw [if_pos c3] at h
          by_cases c4 : x2 = (-1)
          · rw [if_pos c4] at h
            exact eqC_tr (E_X7_next_51 (fun _ _ _ _ h9 => ih h9)  h) E
          · rw [if_neg c4] at h
            obtain ⟨_, h⟩ := mm_if h
            by_cases c5 : (f 41 0 x3.toNatClampNeg) ≤ (f 41 0 x2.toNatClampNeg)
            · rw [if_pos c5] at h
              exact eqC_tr (E_X7_next_53 (fun _ _ _ _ h9 => ih h9)  h) E
            · rw [if_neg c5] at h
              exact eqC_tr (E_X7_next_51 (fun _ _ _ _ h9 => ih h9)  h) E
        · rw [if_neg c3] at h
          exact eqC_tr (E_X7_next_53 (fun _ _ _ _ h9 => ih h9)  h) E
      · rw [if_neg c2] at h
        exact eqC_tr (E_X7_next_53 (fun _ _ _ _ h9 => ih h9)  h) E
set_option maxRecDepth 20000 in
theorem E_X7_next {f f' : F3} {rv : Int32} {x1 : Int32} (h : S_X7_next f x1 = some (rv, f')) : eqC f' f := by
  rw [S_X7_next] at h
  have E : eqC f f := eqC_rf f
  exact eqC_tr (E_X7_next_4 _ h) E
set_option maxRecDepth 20000 in
theorem E_X7_goesOn_129 {f f' : F3} {s1 : Int32} {s2 : Int32} (h : S_X7_goesOn_129 f s1 s2 = some f') : eqC f' f := by
  rw [S_X7_goesOn_129] at h
  have E : eqC f f := eqC_rf f
  obtain ⟨f17, ef17, h⟩ := mm_bind h
  have E := eqC_tr (E_X7_comes ef17) E
  obtain rfl := mm_p1 h
  exact E
set_option maxRecDepth 20000 in
theorem E_X7_goesOn_103 {f f' : F3} {s1 : Int32} {s2 : Int32} {x1 : Int32} {x2 : Int32} (h : S_X7_goesOn_103 f s1 s2 x1 x2 = some f') : eqC f' f := by
  rw [S_X7_goesOn_103] at h
  have E : eqC f f := eqC_rf f
  obtain ⟨r13, f12, ef12, h⟩ := mm_b2e h
  have E := eqC_tr (E_X7_can ef12) E
  by_cases c1 : r13 = 0
  · rw [if_pos c1] at h
    obtain rfl := mm_p1 h
    exact E
  · rw [if_neg c1] at h
    obtain ⟨_, h⟩ := mm_if h
    by_cases c2 : (f12 42 0 x1.toNatClampNeg) = 0
    · rw [if_pos c2] at h
      exact eqC_tr (E_X7_goesOn_129  h) E
    · rw [if_neg c2] at h
      exact eqC_tr (E_X7_goesOn_129  h) E
set_option maxRecDepth 20000 in
theorem E_X7_goesOn_42 {f f' : F3} {s0 : Int32} {x1 : Int32} {x2 : Int32} (h : S_X7_goesOn_42 f s0 x1 x2 = some f') : eqC f' f := by
  rw [S_X7_goesOn_42] at h
  have E : eqC f f := eqC_rf f
  by_cases c1 : x2 = s0
  · rw [if_pos c1] at h
    obtain ⟨_, h⟩ := mm_if h
    obtain ⟨f9, ef9, h⟩ := mm_lt h
    have E := eqC_up ef9 (by decide) E
    obtain ⟨f10, ef10, h⟩ := mm_lt h
    have E := eqC_up ef10 (by decide) E
    obtain ⟨f11, ef11, h⟩ := mm_lt h
    have E := eqC_up ef11 (by decide) E
    obtain rfl := mm_p1 h
    exact E
  · rw [if_neg c1] at h
    obtain ⟨_, h⟩ := mm_if h
    by_cases c2 : (f 42 0 x1.toNatClampNeg) = 0
    · rw [if_pos c2] at h
      exact eqC_tr (E_X7_goesOn_103  h) E
    · rw [if_neg c2] at h
      exact eqC_tr (E_X7_goesOn_103  h) E
set_option maxRecDepth 20000 in
theorem E_X7_goesOn {f f' : F3} {x1 : Int32} (h : S_X7_goesOn f x1 = some f') : eqC f' f := by
  rw [S_X7_goesOn] at h
  have E : eqC f f := eqC_rf f
  obtain ⟨_, h⟩ := mm_if h
  obtain ⟨_, h⟩ := mm_if h
  by_cases c1 : (f 34 0 (f 44 0 x1.toNatClampNeg).toNatClampNeg) ≤ (f 45 0 x1.toNatClampNeg)
  · rw [if_pos c1] at h
    by_cases c2 : (f 42 0 x1.toNatClampNeg) = 0
    · rw [if_pos c2] at h
      exact eqC_tr (E_X7_goesOn_42  h) E
    · rw [if_neg c2] at h
      exact eqC_tr (E_X7_goesOn_42  h) E
  · rw [if_neg c1] at h
    obtain rfl := mm_p1 h
    exact E
set_option maxRecDepth 20000 in
theorem E_X7_goesBy_163 {f f' : F3} {k116 : F3 → Int32 → Option F3} (hk116 : ∀ (f : F3) (a0 : Int32), k116 f a0 = some f' → eqC f' f) (h : S_X7_goesBy_163 k116 f = some f') : eqC f' f := by
  rw [S_X7_goesBy_163] at h
  have E : eqC f f := eqC_rf f
  obtain ⟨r32, f31, ef31, h⟩ := mm_b2e h
  have E := eqC_tr (E_X7_next ef31) E
  exact eqC_tr (hk116 _ _ h) E
set_option maxRecDepth 20000 in
theorem E_X7_goesBy_147 {f f' : F3} {k116 : F3 → Int32 → Option F3} (hk116 : ∀ (f : F3) (a0 : Int32), k116 f a0 = some f' → eqC f' f) {s0 : Int32} {x2 : Int32} (h : S_X7_goesBy_147 k116 f s0 x2 = some f') : eqC f' f := by
  rw [S_X7_goesBy_147] at h
  have E : eqC f f := eqC_rf f
  obtain ⟨r28, f27, ef27, h⟩ := mm_b2e h
  have E := eqC_tr (E_X7_can ef27) E
  by_cases c1 : r28 = 0
  · rw [if_pos c1] at h
    exact eqC_tr (E_X7_goesBy_163 hk116  h) E
  · rw [if_neg c1] at h
    obtain ⟨f30, ef30, h⟩ := mm_bind h
    have E := eqC_tr (E_X7_comes ef30) E
    exact eqC_tr (E_X7_goesBy_163 hk116  h) E
set_option maxRecDepth 20000 in
theorem E_X7_goesBy_116 {f' : F3} : ∀ (n : Nat) {f : F3} {x2 : Int32}, S_X7_goesBy_116 n f x2 = some f' → eqC f' f := by
  intro n
  induction n with
  | zero => intro f x2 h; cases h
  | succ n ih =>
    intro f x2 h
    rw [S_X7_goesBy_116] at h
    have E : eqC f f := eqC_rf f
    by_cases c1 : x2 = (-1)
    · rw [if_pos c1] at h
      obtain ⟨f23, ef23, h⟩ := mm_lt h
      have E := eqC_up ef23 (by decide) E
      obtain rfl := mm_p1 h
      exact E
    · rw [if_neg c1] at h
      obtain ⟨_, h⟩ := mm_if h
      obtain ⟨f25, ef25, h⟩ := mm_lt h
      have E := eqC_up ef25 (by decide) E
      by_cases c2 : (f25 42 0 x2.toNatClampNeg) = 0
      · rw [if_pos c2] at h
        exact eqC_tr (E_X7_goesBy_147 (fun _ _ h9 => ih h9)  h) E
      · rw [if_neg c2] at h
        exact eqC_tr (E_X7_goesBy_147 (fun _ _ h9 => ih h9)  h) E
set_option maxRecDepth 20000 in
theorem E_X7_goesBy_84 {f' : F3} : ∀ (n : Nat) {f : F3} {x2 : Int32}, S_X7_goesBy_84 n f x2 = some f' → eqC f' f := by
  intro n
  induction n with
  | zero => intro f x2 h; cases h
  | succ n ih =>
    intro f x2 h
    rw [S_X7_goesBy_84] at h
    have E : eqC f f := eqC_rf f
    by_cases c1 : x2 = (-1)
    · rw [if_pos c1] at h
      obtain ⟨r12, f11, ef11, h⟩ := mm_b2e h
      have E := eqC_tr (E_X7_next ef11) E
      exact eqC_tr (E_X7_goesBy_116 _ h) E
    · rw [if_neg c1] at h
      obtain ⟨_, h⟩ := mm_if h
      obtain ⟨f14, ef14, h⟩ := mm_lt h
      have E := eqC_up ef14 (by decide) E
      obtain ⟨f15, ef15, h⟩ := mm_bind h
      have E := eqC_tr (E_X7_goesOn ef15) E
      obtain ⟨r17, f16, ef16, h⟩ := mm_b2e h
      have E := eqC_tr (E_X7_next ef16) E
      exact eqC_tr (ih h) E
set_option maxRecDepth 20000 in
theorem E_X7_goesBy_63 {f f' : F3} {k33 : F3 → Int32 → Option F3} (hk33 : ∀ (f : F3) (a0 : Int32), k33 f a0 = some f' → eqC f' f) {s1 : Int32} {s2 : Int32} {s3 : Int32} {x2 : Int32} (h : S_X7_goesBy_63 k33 f s1 s2 s3 x2 = some f') : eqC f' f := by
  rw [S_X7_goesBy_63] at h
  have E : eqC f f := eqC_rf f
  obtain ⟨_, h⟩ := mm_if h
  obtain ⟨f19, ef19, h⟩ := mm_lt h
  have E := eqC_up ef19 (by decide) E
  obtain ⟨_, h⟩ := mm_if h
  obtain ⟨f21, ef21, h⟩ := mm_lt h
  have E := eqC_up ef21 (by decide) E
  exact eqC_tr (hk33 _ _ h) E
set_option maxRecDepth 20000 in
theorem E_X7_goesBy_33 {f' : F3} : ∀ (n : Nat) {f : F3} {x2 : Int32}, S_X7_goesBy_33 n f x2 = some f' → eqC f' f := by
  intro n
  induction n with
  | zero => intro f x2 h; cases h
  | succ n ih =>
    intro f x2 h
    rw [S_X7_goesBy_33] at h
    have E : eqC f f := eqC_rf f
    by_cases c1 : (f 20 0 13) ≤ x2
    · rw [if_pos c1] at h
      obtain ⟨r7, f6, ef6, h⟩ := mm_b2e h
      have E := eqC_tr (E_X7_next ef6) E
      exact eqC_tr (E_X7_goesBy_84 _ h) E
    · rw [if_neg c1] at h
      obtain ⟨_, h⟩ := mm_if h
      by_cases c2 : (f 43 0 x2.toNatClampNeg) = 1
      · rw [if_pos c2] at h
        exact eqC_tr (E_X7_goesBy_63 (fun _ _ h9 => ih h9)  h) E
      · rw [if_neg c2] at h
        exact eqC_tr (E_X7_goesBy_63 (fun _ _ h9 => ih h9)  h) E
set_option maxRecDepth 20000 in
theorem E_X7_goesBy_11 {f' : F3} : ∀ (n : Nat) {f : F3} {x1 : Int32} {x2 : Int32}, S_X7_goesBy_11 n f x1 x2 = some f' → eqC f' f := by
  intro n
  induction n with
  | zero => intro f x1 x2 h; cases h
  | succ n ih =>
    intro f x1 x2 h
    rw [S_X7_goesBy_11] at h
    have E : eqC f f := eqC_rf f
    by_cases c1 : (f 20 0 2) ≤ x2
    · rw [if_pos c1] at h
      exact eqC_tr (E_X7_goesBy_33 _ h) E
    · rw [if_neg c1] at h
      obtain ⟨f4, ef4, h⟩ := mm_bind h
      have E := eqC_tr (E_X7_grows ef4) E
      exact eqC_tr (ih h) E
set_option maxRecDepth 20000 in
theorem E_X7_goesBy {f f' : F3} (h : S_X7_goesBy f = some f') : eqC f' f := by
  rw [S_X7_goesBy] at h
  have E : eqC f f := eqC_rf f
  obtain ⟨r2, f1, ef1, h⟩ := mm_b2e h
  have E := eqC_tr (E_X7_heatOf ef1) E
  exact eqC_tr (E_X7_goesBy_11 _ h) E
set_option maxRecDepth 20000 in
theorem E_X7_nought {f f' : F3} {rv : Int32} {x1 : Int32} (h : S_X7_nought f x1 = some (rv, f')) : eqC f' f := by
  rw [S_X7_nought] at h
  have E : eqC f f := eqC_rf f
  obtain ⟨_, h⟩ := mm_if h
  obtain ⟨f2, ef2, h⟩ := mm_lt h
  have E := eqC_up ef2 (by decide) E
  obtain ⟨rfl, rfl⟩ := mm_pr h
  exact E
set_option maxRecDepth 20000 in
theorem E_X7_heat {f f' : F3} {rv : Int32} {x1 : Int32} (h : S_X7_heat f x1 = some (rv, f')) : eqC f' f := by
  rw [S_X7_heat] at h
  have E : eqC f f := eqC_rf f
  by_cases c1 : 0 ≤ x1
  · rw [if_pos c1] at h
    obtain ⟨r3, f2, ef2, h⟩ := mm_b2e h
    have E := eqC_tr (E_X7_heatOf ef2) E
    obtain ⟨rfl, rfl⟩ := mm_pr h
    exact E
  · rw [if_neg c1] at h
    obtain ⟨r5, f4, ef4, h⟩ := mm_b2e h
    have E := eqC_tr (E_X7_nought ef4) E
    obtain ⟨rfl, rfl⟩ := mm_pr h
    exact E
set_option maxRecDepth 20000 in
theorem E_X7_isLoad {f f' : F3} {rv : Int32} {x1 : Int32} (h : S_X7_isLoad f x1 = some (rv, f')) : eqC f' f := by
  rw [S_X7_isLoad] at h
  have E : eqC f f := eqC_rf f
  obtain ⟨r2, f1, ef1, h⟩ := mm_b2e h
  have E := eqC_tr (E_X7_in ef1) E
  obtain ⟨_, h⟩ := mm_if h
  obtain ⟨rfl, rfl⟩ := mm_pr h
  exact E
set_option maxRecDepth 20000 in
theorem E_X7_key {f f' : F3} {rv : Int32} (h : S_X7_key f = some (rv, f')) : eqC f' f := by
  rw [S_X7_key] at h
  have E : eqC f f := eqC_rf f
  obtain ⟨r2, f1, ef1, h⟩ := mm_b2e h
  have E := eqC_tr (E_X7_here ef1) E
  by_cases c1 : r2 = 116
  · rw [if_pos c1] at h
    obtain ⟨f8, ef8, h⟩ := mm_bind h
    have E := eqC_tr (E_X7_eats3 ef8) E
    obtain ⟨f9, ef9, h⟩ := mm_bind h
    have E := eqC_tr (E_X7_eats ef9) E
    obtain ⟨f10, ef10, h⟩ := mm_bind h
    have E := eqC_tr (E_X7_eats ef10) E
    obtain ⟨rfl, rfl⟩ := mm_pr h
    exact E
  · rw [if_neg c1] at h
    by_cases c2 : r2 = 103
    · rw [if_pos c2] at h
      obtain ⟨f7, ef7, h⟩ := mm_bind h
      have E := eqC_tr (E_X7_eats3 ef7) E
      obtain ⟨rfl, rfl⟩ := mm_pr h
      exact E
    · rw [if_neg c2] at h
      obtain ⟨f5, ef5, h⟩ := mm_bind h
      have E := eqC_tr (E_X7_eats3 ef5) E
      obtain ⟨f6, ef6, h⟩ := mm_bind h
      have E := eqC_tr (E_X7_eats ef6) E
      obtain ⟨rfl, rfl⟩ := mm_pr h
      exact E
set_option maxRecDepth 20000 in
theorem E_X7_load_29 {f f' : F3} {rv : Int32} (h : S_X7_load_29 f = some (rv, f')) : eqC f' f := by
  rw [S_X7_load_29] at h
  have E : eqC f f := eqC_rf f
  obtain ⟨r25, f24, ef24, h⟩ := mm_b2e h
  have E := eqC_tr (E_X7_refuse ef24) E
  obtain ⟨rfl, rfl⟩ := mm_pr h
  exact E
set_option maxRecDepth 20000 in
theorem E_X7_load {f f' : F3} {rv : Int32} {x1 : Int32} {x2 : Int32} {x3 : Int32} (h : S_X7_load f x1 x2 x3 = some (rv, f')) : eqC f' f := by
  rw [S_X7_load] at h
  have E : eqC f f := eqC_rf f
  obtain ⟨r2, f1, ef1, h⟩ := mm_b2e h
  have E := eqC_tr (E_X7_in ef1) E
  by_cases c1 : r2 = 0
  · rw [if_pos c1] at h
    exact eqC_tr (E_X7_load_29  h) E
  · rw [if_neg c1] at h
    obtain ⟨r5, f4, ef4, h⟩ := mm_b2e h
    have E := eqC_tr (E_X7_in ef4) E
    by_cases c2 : r5 = 0
    · rw [if_pos c2] at h
      exact eqC_tr (E_X7_load_29  h) E
    · rw [if_neg c2] at h
      obtain ⟨r8, f7, ef7, h⟩ := mm_b2e h
      have E := eqC_tr (E_X7_in ef7) E
      by_cases c3 : r8 = 0
      · rw [if_pos c3] at h
        exact eqC_tr (E_X7_load_29  h) E
      · rw [if_neg c3] at h
        by_cases c4 : (f7 20 0 13) = 24
        · rw [if_pos c4] at h
          obtain ⟨r23, f22, ef22, h⟩ := mm_b2e h
          have E := eqC_tr (E_X7_refuse ef22) E
          obtain ⟨rfl, rfl⟩ := mm_pr h
          exact E
        · rw [if_neg c4] at h
          obtain ⟨_, h⟩ := mm_if h
          obtain ⟨f12, ef12, h⟩ := mm_lt h
          have E := eqC_up ef12 (by decide) E
          obtain ⟨_, h⟩ := mm_if h
          obtain ⟨f14, ef14, h⟩ := mm_lt h
          have E := eqC_up ef14 (by decide) E
          obtain ⟨_, h⟩ := mm_if h
          obtain ⟨f16, ef16, h⟩ := mm_lt h
          have E := eqC_up ef16 (by decide) E
          obtain ⟨_, h⟩ := mm_if h
          obtain ⟨f18, ef18, h⟩ := mm_lt h
          have E := eqC_up ef18 (by decide) E
          obtain ⟨_, h⟩ := mm_if h
          obtain ⟨f20, ef20, h⟩ := mm_lt h
          have E := eqC_up ef20 (by decide) E
          obtain ⟨f21, ef21, h⟩ := mm_lt h
          have E := eqC_up ef21 (by decide) E
          obtain ⟨rfl, rfl⟩ := mm_pr h
          exact E
set_option maxRecDepth 20000 in
theorem E_X7_most_86 {f f' : F3} {rv : Int32} {x2 : Int32} {x3 : Int32} (h : S_X7_most_86 f x2 x3 = some (rv, f')) : eqC f' f := by
  rw [S_X7_most_86] at h
  have E : eqC f f := eqC_rf f
  by_cases c1 : x2 = (-1)
  · rw [if_pos c1] at h
    by_cases c2 : x3 = (-1)
    · rw [if_pos c2] at h
      obtain ⟨rfl, rfl⟩ := mm_pr h
      exact E
    · rw [if_neg c2] at h
      obtain ⟨_, h⟩ := mm_if h
      obtain ⟨rfl, rfl⟩ := mm_pr h
      exact E
  · rw [if_neg c1] at h
    obtain ⟨_, h⟩ := mm_if h
    obtain ⟨rfl, rfl⟩ := mm_pr h
    exact E
set_option maxRecDepth 20000 in
theorem E_X7_most {f f' : F3} {rv : Int32} {x1 : Int32} (h : S_X7_most f x1 = some (rv, f')) : eqC f' f := by
  rw [S_X7_most] at h
  have E : eqC f f := eqC_rf f
  obtain ⟨_, h⟩ := mm_if h
  by_cases c1 : (f 30 0 x1.toNatClampNeg) = 4
  · rw [if_pos c1] at h
    obtain ⟨rfl, rfl⟩ := mm_pr h
    exact E
  · rw [if_neg c1] at h
    by_cases c2 : (f 37 0 x1.toNatClampNeg) = (-1)
    · rw [if_pos c2] at h
      obtain ⟨r5, f4, ef4, h⟩ := mm_b2e h
      have E := eqC_tr (E_X7_nearest ef4) E
      obtain ⟨r7, f6, ef6, h⟩ := mm_b2e h
      have E := eqC_tr (E_X7_nearest ef6) E
      by_cases c3 : r5 = (-1)
      · rw [if_pos c3] at h
        exact eqC_tr (E_X7_most_86  h) E
      · rw [if_neg c3] at h
        by_cases c4 : r7 = (-1)
        · rw [if_pos c4] at h
          exact eqC_tr (E_X7_most_86  h) E
        · rw [if_neg c4] at h
          obtain ⟨_, h⟩ := mm_if h
          obtain ⟨_, h⟩ := mm_if h
          by_cases c5 : (f6 37 0 r5.toNatClampNeg) ≤ (f6 37 0 r7.toNatClampNeg)
          · rw [if_pos c5] at h
            obtain ⟨rfl, rfl⟩ := mm_pr h
            exact E
          · rw [if_neg c5] at h
            obtain ⟨rfl, rfl⟩ := mm_pr h
            exact E
    · rw [if_neg c2] at h
      obtain ⟨rfl, rfl⟩ := mm_pr h
      exact E
set_option maxRecDepth 20000 in
theorem E_X7_look {f f' : F3} {rv : Int32} {x1 : Int32} {x2 : Int32} (h : S_X7_look f x1 x2 = some (rv, f')) : eqC f' f := by
  rw [S_X7_look] at h
  have E : eqC f f := eqC_rf f
  obtain ⟨r2, f1, ef1, h⟩ := mm_b2e h
  have E := eqC_tr (E_X7_isCell ef1) E
  by_cases c1 : r2 = 0
  · rw [if_pos c1] at h
    obtain ⟨r32, f31, ef31, h⟩ := mm_b2e h
    have E := eqC_tr (E_X7_refuse ef31) E
    obtain ⟨rfl, rfl⟩ := mm_pr h
    exact E
  · rw [if_neg c1] at h
    by_cases c2 : x2 = 0
    · rw [if_pos c2] at h
      obtain ⟨_, h⟩ := mm_if h
      obtain ⟨rfl, rfl⟩ := mm_pr h
      exact E
    · rw [if_neg c2] at h
      by_cases c3 : x2 = 1
      · rw [if_pos c3] at h
        obtain ⟨_, h⟩ := mm_if h
        obtain ⟨rfl, rfl⟩ := mm_pr h
        exact E
      · rw [if_neg c3] at h
        by_cases c4 : x2 = 2
        · rw [if_pos c4] at h
          obtain ⟨_, h⟩ := mm_if h
          obtain ⟨rfl, rfl⟩ := mm_pr h
          exact E
        · rw [if_neg c4] at h
          by_cases c5 : x2 = 3
          · rw [if_pos c5] at h
            obtain ⟨_, h⟩ := mm_if h
            obtain ⟨rfl, rfl⟩ := mm_pr h
            exact E
          · rw [if_neg c5] at h
            by_cases c6 : x2 = 4
            · rw [if_pos c6] at h
              obtain ⟨_, h⟩ := mm_if h
              obtain ⟨rfl, rfl⟩ := mm_pr h
              exact E
            · rw [if_neg c6] at h
              by_cases c7 : x2 = 5
              · rw [if_pos c7] at h
                obtain ⟨_, h⟩ := mm_if h
                obtain ⟨rfl, rfl⟩ := mm_pr h
                exact E
              · rw [if_neg c7] at h
                by_cases c8 : x2 = 6
                · rw [if_pos c8] at h
                  obtain ⟨_, h⟩ := mm_if h
                  by_cases c9 : (f1 30 0 x1.toNatClampNeg) = 3
                  · rw [if_pos c9] at h
                    obtain ⟨rfl, rfl⟩ := mm_pr h
                    exact E
                  · rw [if_neg c9] at h
                    obtain ⟨rfl, rfl⟩ := mm_pr h
                    exact E
                · rw [if_neg c8] at h
                  by_cases c10 : x2 = 7
                  · rw [if_pos c10] at h
                    obtain ⟨r22, f21, ef21, h⟩ := mm_b2e h
                    have E := eqC_tr (E_X7_least ef21) E
                    obtain ⟨rfl, rfl⟩ := mm_pr h
                    exact E
                  · rw [if_neg c10] at h
                    by_cases c11 : x2 = 8
                    · rw [if_pos c11] at h
                      obtain ⟨r25, f24, ef24, h⟩ := mm_b2e h
                      have E := eqC_tr (E_X7_most ef24) E
                      obtain ⟨rfl, rfl⟩ := mm_pr h
                      exact E
                    · rw [if_neg c11] at h
                      by_cases c12 : x2 = 9
                      · rw [if_pos c12] at h
                        obtain ⟨r28, f27, ef27, h⟩ := mm_b2e h
                        have E := eqC_tr (E_X7_loadsOn ef27) E
                        obtain ⟨rfl, rfl⟩ := mm_pr h
                        exact E
                      · rw [if_neg c12] at h
                        obtain ⟨r30, f29, ef29, h⟩ := mm_b2e h
                        have E := eqC_tr (E_X7_refuse ef29) E
                        obtain ⟨rfl, rfl⟩ := mm_pr h
                        exact E
set_option maxRecDepth 20000 in
theorem E_X7_may_16 {f f' : F3} {rv : Int32} (h : S_X7_may_16 f = some (rv, f')) : eqC f' f := by
  rw [S_X7_may_16] at h
  have E : eqC f f := eqC_rf f
  obtain ⟨r11, f10, ef10, h⟩ := mm_b2e h
  have E := eqC_tr (E_X7_refuse ef10) E
  obtain ⟨rfl, rfl⟩ := mm_pr h
  exact E
set_option maxRecDepth 20000 in
theorem E_X7_may {f f' : F3} {rv : Int32} {x1 : Int32} {x2 : Int32} (h : S_X7_may f x1 x2 = some (rv, f')) : eqC f' f := by
  rw [S_X7_may] at h
  have E : eqC f f := eqC_rf f
  obtain ⟨r2, f1, ef1, h⟩ := mm_b2e h
  have E := eqC_tr (E_X7_isLoad ef1) E
  by_cases c1 : r2 = 0
  · rw [if_pos c1] at h
    exact eqC_tr (E_X7_may_16  h) E
  · rw [if_neg c1] at h
    obtain ⟨r5, f4, ef4, h⟩ := mm_b2e h
    have E := eqC_tr (E_X7_isCell ef4) E
    by_cases c2 : r5 = 0
    · rw [if_pos c2] at h
      exact eqC_tr (E_X7_may_16  h) E
    · rw [if_neg c2] at h
      obtain ⟨r8, f7, ef7, h⟩ := mm_b2e h
      have E := eqC_tr (E_X7_whyNot ef7) E
      by_cases c3 : r8 = 0
      · rw [if_pos c3] at h
        obtain ⟨rfl, rfl⟩ := mm_pr h
        exact E
      · rw [if_neg c3] at h
        obtain ⟨rfl, rfl⟩ := mm_pr h
        exact E
set_option maxRecDepth 20000 in
theorem E_X7_of {f f' : F3} {rv : Int32} {x1 : Int32} {x2 : Int32} (h : S_X7_of f x1 x2 = some (rv, f')) : eqC f' f := by
  rw [S_X7_of] at h
  have E : eqC f f := eqC_rf f
  obtain ⟨r2, f1, ef1, h⟩ := mm_b2e h
  have E := eqC_tr (E_X7_isLoad ef1) E
  by_cases c1 : r2 = 0
  · rw [if_pos c1] at h
    obtain ⟨r24, f23, ef23, h⟩ := mm_b2e h
    have E := eqC_tr (E_X7_refuse ef23) E
    obtain ⟨rfl, rfl⟩ := mm_pr h
    exact E
  · rw [if_neg c1] at h
    by_cases c2 : x2 = 0
    · rw [if_pos c2] at h
      obtain ⟨_, h⟩ := mm_if h
      obtain ⟨rfl, rfl⟩ := mm_pr h
      exact E
    · rw [if_neg c2] at h
      by_cases c3 : x2 = 1
      · rw [if_pos c3] at h
        obtain ⟨_, h⟩ := mm_if h
        obtain ⟨rfl, rfl⟩ := mm_pr h
        exact E
      · rw [if_neg c3] at h
        by_cases c4 : x2 = 2
        · rw [if_pos c4] at h
          obtain ⟨_, h⟩ := mm_if h
          obtain ⟨rfl, rfl⟩ := mm_pr h
          exact E
        · rw [if_neg c4] at h
          by_cases c5 : x2 = 3
          · rw [if_pos c5] at h
            obtain ⟨_, h⟩ := mm_if h
            obtain ⟨rfl, rfl⟩ := mm_pr h
            exact E
          · rw [if_neg c5] at h
            by_cases c6 : x2 = 4
            · rw [if_pos c6] at h
              obtain ⟨_, h⟩ := mm_if h
              by_cases c7 : (f1 43 0 x1.toNatClampNeg) = 1
              · rw [if_pos c7] at h
                obtain ⟨rfl, rfl⟩ := mm_pr h
                exact E
              · rw [if_neg c7] at h
                obtain ⟨rfl, rfl⟩ := mm_pr h
                exact E
            · rw [if_neg c6] at h
              by_cases c8 : x2 = 5
              · rw [if_pos c8] at h
                obtain ⟨_, h⟩ := mm_if h
                by_cases c9 : (f1 43 0 x1.toNatClampNeg) = 1
                · rw [if_pos c9] at h
                  obtain ⟨rfl, rfl⟩ := mm_pr h
                  exact E
                · rw [if_neg c9] at h
                  obtain ⟨rfl, rfl⟩ := mm_pr h
                  exact E
              · rw [if_neg c8] at h
                by_cases c10 : x2 = 6
                · rw [if_pos c10] at h
                  obtain ⟨_, h⟩ := mm_if h
                  obtain ⟨rfl, rfl⟩ := mm_pr h
                  exact E
                · rw [if_neg c10] at h
                  obtain ⟨r22, f21, ef21, h⟩ := mm_b2e h
                  have E := eqC_tr (E_X7_refuse ef21) E
                  obtain ⟨rfl, rfl⟩ := mm_pr h
                  exact E
set_option maxRecDepth 20000 in
theorem E_X7_read {f f' : F3} {rv : Int32} {x1 : Int32} (h : S_X7_read f x1 = some (rv, f')) : eqC f' f := by
  rw [S_X7_read] at h
  have E : eqC f f := eqC_rf f
  obtain ⟨r2, f1, ef1, h⟩ := mm_b2e h
  have E := eqC_tr (E_X7_isCell ef1) E
  by_cases c1 : r2 = 0
  · rw [if_pos c1] at h
    obtain ⟨r10, f9, ef9, h⟩ := mm_b2e h
    have E := eqC_tr (E_X7_refuse ef9) E
    obtain ⟨rfl, rfl⟩ := mm_pr h
    exact E
  · rw [if_neg c1] at h
    obtain ⟨_, h⟩ := mm_if h
    by_cases c2 : (f1 30 0 x1.toNatClampNeg) = 4
    · rw [if_pos c2] at h
      obtain ⟨r8, f7, ef7, h⟩ := mm_b2e h
      have E := eqC_tr (E_X7_refuse ef7) E
      obtain ⟨rfl, rfl⟩ := mm_pr h
      exact E
    · rw [if_neg c2] at h
      obtain ⟨f6, ef6, h⟩ := mm_lt h
      have E := eqC_up ef6 (by decide) E
      obtain ⟨rfl, rfl⟩ := mm_pr h
      exact E
set_option maxRecDepth 20000 in
theorem E_X7_test_141 {f f' : F3} {s1 : Int32} {s2 : Int32} (h : S_X7_test_141 f s1 s2 = some f') : eqC f' f := by
  rw [S_X7_test_141] at h
  have E : eqC f f := eqC_rf f
  obtain ⟨_, h⟩ := mm_if h
  obtain ⟨f25, ef25, h⟩ := mm_lt h
  have E := eqC_up ef25 (by decide) E
  obtain rfl := mm_p1 h
  exact E
set_option maxRecDepth 20000 in
theorem E_X7_test_105 {f f' : F3} {x1 : Int32} {x2 : Int32} {x3 : Int32} (h : S_X7_test_105 f x1 x2 x3 = some f') : eqC f' f := by
  rw [S_X7_test_105] at h
  have E : eqC f f := eqC_rf f
  obtain ⟨f20, ef20, h⟩ := mm_bind h
  have E := eqC_tr (E_X7_digits ef20) E
  obtain ⟨_, h⟩ := mm_if h
  obtain ⟨f22, ef22, h⟩ := mm_lt h
  have E := eqC_up ef22 (by decide) E
  by_cases c1 : x3 = 0
  · rw [if_pos c1] at h
    exact eqC_tr (E_X7_test_141  h) E
  · rw [if_neg c1] at h
    exact eqC_tr (E_X7_test_141  h) E
set_option maxRecDepth 20000 in
theorem E_X7_test_90 {f f' : F3} {s0 : Int32} {x1 : Int32} {x2 : Int32} (h : S_X7_test_90 f s0 x1 x2 = some f') : eqC f' f := by
  rw [S_X7_test_90] at h
  have E : eqC f f := eqC_rf f
  by_cases c1 : s0 = 0
  · rw [if_pos c1] at h
    exact eqC_tr (E_X7_test_105  h) E
  · rw [if_neg c1] at h
    obtain ⟨f19, ef19, h⟩ := mm_lt h
    have E := eqC_up ef19 (by decide) E
    exact eqC_tr (E_X7_test_105  h) E
set_option maxRecDepth 20000 in
theorem E_X7_test_89 {f f' : F3} {x1 : Int32} {x2 : Int32} (h : S_X7_test_89 f x1 x2 = some f') : eqC f' f := by
  rw [S_X7_test_89] at h
  have E : eqC f f := eqC_rf f
  exact eqC_tr (E_X7_test_90  h) E
set_option maxRecDepth 20000 in
theorem E_X7_test_69 {f f' : F3} {x1 : Int32} {x2 : Int32} (h : S_X7_test_69 f x1 x2 = some f') : eqC f' f := by
  rw [S_X7_test_69] at h
  have E : eqC f f := eqC_rf f
  by_cases c1 : (f 20 0 29) = 0
  · rw [if_pos c1] at h
    obtain ⟨r16, f15, ef15, h⟩ := mm_b2e h
    have E := eqC_tr (E_X7_here ef15) E
    by_cases c2 : r16 = 45
    · rw [if_pos c2] at h
      exact eqC_tr (E_X7_test_90  h) E
    · rw [if_neg c2] at h
      exact eqC_tr (E_X7_test_89  h) E
  · rw [if_neg c1] at h
    exact eqC_tr (E_X7_test_89  h) E
set_option maxRecDepth 20000 in
theorem E_X7_test_64 {f f' : F3} {x1 : Int32} {x2 : Int32} (h : S_X7_test_64 f x1 x2 = some f') : eqC f' f := by
  rw [S_X7_test_64] at h
  have E : eqC f f := eqC_rf f
  obtain ⟨f12, ef12, h⟩ := mm_lt h
  have E := eqC_up ef12 (by decide) E
  exact eqC_tr (E_X7_test_69  h) E
set_option maxRecDepth 20000 in
theorem E_X7_test_51 {f f' : F3} {x1 : Int32} {x2 : Int32} (h : S_X7_test_51 f x1 x2 = some f') : eqC f' f := by
  rw [S_X7_test_51] at h
  have E : eqC f f := eqC_rf f
  obtain ⟨f13, ef13, h⟩ := mm_lt h
  have E := eqC_up ef13 (by decide) E
  exact eqC_tr (E_X7_test_69  h) E
set_option maxRecDepth 20000 in
theorem E_X7_test_20 {f f' : F3} {s1 : Int32} {s2 : Int32} {x1 : Int32} (h : S_X7_test_20 f s1 s2 x1 = some f') : eqC f' f := by
  rw [S_X7_test_20] at h
  have E : eqC f f := eqC_rf f
  obtain ⟨_, h⟩ := mm_if h
  obtain ⟨f5, ef5, h⟩ := mm_lt h
  have E := eqC_up ef5 (by decide) E
  obtain ⟨r7, f6, ef6, h⟩ := mm_b2e h
  have E := eqC_tr (E_X7_here ef6) E
  by_cases c1 : (f6 20 0 29) = 0
  · rw [if_pos c1] at h
    by_cases c2 : r7 = 61
    · rw [if_pos c2] at h
      exact eqC_tr (E_X7_test_51  h) E
    · rw [if_neg c2] at h
      by_cases c3 : r7 = 60
      · rw [if_pos c3] at h
        exact eqC_tr (E_X7_test_51  h) E
      · rw [if_neg c3] at h
        by_cases c4 : r7 = 62
        · rw [if_pos c4] at h
          exact eqC_tr (E_X7_test_51  h) E
        · rw [if_neg c4] at h
          exact eqC_tr (E_X7_test_64  h) E
  · rw [if_neg c1] at h
    exact eqC_tr (E_X7_test_64  h) E
set_option maxRecDepth 20000 in
theorem E_X7_test {f f' : F3} {x1 : Int32} (h : S_X7_test f x1 = some f') : eqC f' f := by
  rw [S_X7_test] at h
  have E : eqC f f := eqC_rf f
  by_cases c1 : (f 20 0 29) = 0
  · rw [if_pos c1] at h
    obtain ⟨r3, f2, ef2, h⟩ := mm_b2e h
    have E := eqC_tr (E_X7_fieldRead ef2) E
    exact eqC_tr (E_X7_test_20  h) E
  · rw [if_neg c1] at h
    exact eqC_tr (E_X7_test_20  h) E
set_option maxRecDepth 20000 in
theorem E_X7_reads_203 {f f' : F3} {k70 : F3 → Int32 → Option F3} (hk70 : ∀ (f : F3) (a0 : Int32), k70 f a0 = some f' → eqC f' f) {x1 : Int32} {x2 : Int32} (h : S_X7_reads_203 k70 f x1 x2 = some f') : eqC f' f := by
  rw [S_X7_reads_203] at h
  have E : eqC f f := eqC_rf f
  obtain ⟨f36, ef36, h⟩ := mm_bind h
  have E := eqC_tr (E_X7_eats ef36) E
  obtain ⟨f37, ef37, h⟩ := mm_bind h
  have E := eqC_tr (E_X7_test ef37) E
  obtain ⟨_, h⟩ := mm_if h
  obtain ⟨f39, ef39, h⟩ := mm_lt h
  have E := eqC_up ef39 (by decide) E
  exact eqC_tr (hk70 _ _ h) E
set_option maxRecDepth 20000 in
theorem E_X7_reads_193 {f f' : F3} {k70 : F3 → Int32 → Option F3} (hk70 : ∀ (f : F3) (a0 : Int32), k70 f a0 = some f' → eqC f' f) {x1 : Int32} {x2 : Int32} (h : S_X7_reads_193 k70 f x1 x2 = some f') : eqC f' f := by
  rw [S_X7_reads_193] at h
  have E : eqC f f := eqC_rf f
  obtain ⟨f31, ef31, h⟩ := mm_bind h
  have E := eqC_tr (E_X7_eats3 ef31) E
  exact eqC_tr (E_X7_reads_203 hk70  h) E
set_option maxRecDepth 20000 in
theorem E_X7_reads_169 {f f' : F3} {k70 : F3 → Int32 → Option F3} (hk70 : ∀ (f : F3) (a0 : Int32), k70 f a0 = some f' → eqC f' f) {x1 : Int32} {x2 : Int32} (h : S_X7_reads_169 k70 f x1 x2 = some f') : eqC f' f := by
  rw [S_X7_reads_169] at h
  have E : eqC f f := eqC_rf f
  obtain ⟨_, h⟩ := mm_if h
  obtain ⟨f33, ef33, h⟩ := mm_lt h
  have E := eqC_up ef33 (by decide) E
  obtain ⟨f34, ef34, h⟩ := mm_bind h
  have E := eqC_tr (E_X7_eats ef34) E
  obtain ⟨f35, ef35, h⟩ := mm_bind h
  have E := eqC_tr (E_X7_eats ef35) E
  exact eqC_tr (E_X7_reads_203 hk70  h) E
set_option maxRecDepth 20000 in
theorem E_X7_reads_70 {f' : F3} : ∀ (n : Nat) {f : F3} {x1 : Int32}, S_X7_reads_70 n f x1 = some f' → eqC f' f := by
  intro n
  induction n with
  | zero => intro f x1 h; cases h
  | succ n ih =>
    intro f x1 h
    rw [S_X7_reads_70] at h
    have E : eqC f f := eqC_rf f
    by_cases c1 : (f 20 0 29) = 0
    · rw [if_pos c1] at h
      by_cases c2 : (f 20 0 27) ≤ (f 20 0 28)
      · rw [if_pos c2] at h
        obtain rfl := mm_p1 h
        exact E
      · rw [if_neg c2] at h
        obtain ⟨_, h⟩ := mm_if h
        by_cases c3 : (f 23 0 (x1 + 4).toNatClampNeg) = 3
        · rw [if_pos c3] at h
          obtain ⟨f30, ef30, h⟩ := mm_lt h
          have E := eqC_up ef30 (by decide) E
          obtain rfl := mm_p1 h
          exact E
        · rw [if_neg c3] at h
          obtain ⟨f19, ef19, h⟩ := mm_bind h
          have E := eqC_tr (E_X7_eats ef19) E
          by_cases c4 : (f 23 0 (x1 + 4).toNatClampNeg) = 0
          · rw [if_pos c4] at h
            obtain ⟨f28, ef28, h⟩ := mm_bind h
            have E := eqC_tr (E_X7_eats ef28) E
            obtain ⟨f29, ef29, h⟩ := mm_bind h
            have E := eqC_tr (E_X7_eats ef29) E
            exact eqC_tr (E_X7_reads_203 (fun _ _ h9 => ih h9)  h) E
          · rw [if_neg c4] at h
            by_cases c5 : (f19 20 0 29) = 0
            · rw [if_pos c5] at h
              by_cases c6 : (f 23 0 (x1 + 4).toNatClampNeg) = 1
              · rw [if_pos c6] at h
                obtain ⟨r26, f25, ef25, h⟩ := mm_b2e h
                have E := eqC_tr (E_X7_here ef25) E
                by_cases c7 : r26 = 111
                · rw [if_pos c7] at h
                  exact eqC_tr (E_X7_reads_169 (fun _ _ h9 => ih h9)  h) E
                · rw [if_neg c7] at h
                  exact eqC_tr (E_X7_reads_193 (fun _ _ h9 => ih h9)  h) E
              · rw [if_neg c6] at h
                obtain ⟨_, h⟩ := mm_if h
                by_cases c8 : (f19 23 0 (x1 + 5).toNatClampNeg) = 1
                · rw [if_pos c8] at h
                  exact eqC_tr (E_X7_reads_169 (fun _ _ h9 => ih h9)  h) E
                · rw [if_neg c8] at h
                  exact eqC_tr (E_X7_reads_193 (fun _ _ h9 => ih h9)  h) E
            · rw [if_neg c5] at h
              exact eqC_tr (E_X7_reads_193 (fun _ _ h9 => ih h9)  h) E
    · rw [if_neg c1] at h
      obtain rfl := mm_p1 h
      exact E
set_option maxRecDepth 20000 in
theorem E_X7_reads {f f' : F3} (h : S_X7_reads f = some f') : eqC f' f := by
  rw [S_X7_reads] at h
  have E : eqC f f := eqC_rf f
  obtain ⟨f1, ef1, h⟩ := mm_lt h
  have E := eqC_up ef1 (by decide) E
  obtain ⟨f2, ef2, h⟩ := mm_lt h
  have E := eqC_up ef2 (by decide) E
  obtain ⟨r4, f3, ef3, h⟩ := mm_b2e h
  have E := eqC_tr (E_X7_key ef3) E
  obtain ⟨_, h⟩ := mm_if h
  obtain ⟨f6, ef6, h⟩ := mm_lt h
  have E := eqC_up ef6 (by decide) E
  obtain ⟨f7, ef7, h⟩ := mm_bind h
  have E := eqC_tr (E_X7_eats ef7) E
  obtain ⟨f8, ef8, h⟩ := mm_bind h
  have E := eqC_tr (E_X7_digits ef8) E
  obtain ⟨_, h⟩ := mm_if h
  obtain ⟨f10, ef10, h⟩ := mm_lt h
  have E := eqC_up ef10 (by decide) E
  obtain ⟨_, h⟩ := mm_if h
  obtain ⟨f12, ef12, h⟩ := mm_lt h
  have E := eqC_up ef12 (by decide) E
  obtain ⟨_, h⟩ := mm_if h
  obtain ⟨f14, ef14, h⟩ := mm_lt h
  have E := eqC_up ef14 (by decide) E
  exact eqC_tr (E_X7_reads_70 _ h) E
set_option maxRecDepth 20000 in
theorem E_X7_row {f f' : F3} {rv : Int32} {x1 : Int32} (h : S_X7_row f x1 = some (rv, f')) : eqC f' f := by
  rw [S_X7_row] at h
  have E : eqC f f := eqC_rf f
  by_cases c1 : (f 20 0 31) = 0
  · rw [if_pos c1] at h
    obtain ⟨r9, f8, ef8, h⟩ := mm_b2e h
    have E := eqC_tr (E_X7_nought ef8) E
    obtain ⟨rfl, rfl⟩ := mm_pr h
    exact E
  · rw [if_neg c1] at h
    obtain ⟨r3, f2, ef2, h⟩ := mm_b2e h
    have E := eqC_tr (E_X7_in ef2) E
    by_cases c2 : r3 = 0
    · rw [if_pos c2] at h
      obtain ⟨r6, f5, ef5, h⟩ := mm_b2e h
      have E := eqC_tr (E_X7_nought ef5) E
      obtain ⟨rfl, rfl⟩ := mm_pr h
      exact E
    · rw [if_neg c2] at h
      obtain ⟨_, h⟩ := mm_if h
      obtain ⟨rfl, rfl⟩ := mm_pr h
      exact E
set_option maxRecDepth 20000 in
theorem E_X7_rule_25 {f f' : F3} {rv : Int32} (h : S_X7_rule_25 f = some (rv, f')) : eqC f' f := by
  rw [S_X7_rule_25] at h
  have E : eqC f f := eqC_rf f
  obtain ⟨r20, f19, ef19, h⟩ := mm_b2e h
  have E := eqC_tr (E_X7_refuse ef19) E
  obtain ⟨rfl, rfl⟩ := mm_pr h
  exact E
set_option maxRecDepth 20000 in
theorem E_X7_rule {f f' : F3} {rv : Int32} {x1 : Int32} {x2 : Int32} (h : S_X7_rule f x1 x2 = some (rv, f')) : eqC f' f := by
  rw [S_X7_rule] at h
  have E : eqC f f := eqC_rf f
  obtain ⟨r2, f1, ef1, h⟩ := mm_b2e h
  have E := eqC_tr (E_X7_in ef1) E
  by_cases c1 : r2 = 0
  · rw [if_pos c1] at h
    exact eqC_tr (E_X7_rule_25  h) E
  · rw [if_neg c1] at h
    obtain ⟨r5, f4, ef4, h⟩ := mm_b2e h
    have E := eqC_tr (E_X7_in ef4) E
    by_cases c2 : r5 = 0
    · rw [if_pos c2] at h
      exact eqC_tr (E_X7_rule_25  h) E
    · rw [if_neg c2] at h
      by_cases c3 : x1 < x2
      · rw [if_pos c3] at h
        by_cases c4 : (f4 20 0 21) = 10
        · rw [if_pos c4] at h
          obtain ⟨r18, f17, ef17, h⟩ := mm_b2e h
          have E := eqC_tr (E_X7_refuse ef17) E
          obtain ⟨rfl, rfl⟩ := mm_pr h
          exact E
        · rw [if_neg c4] at h
          obtain ⟨f9, ef9, h⟩ := mm_bind h
          have E := eqC_tr (E_X7_reads ef9) E
          by_cases c5 : (f9 20 0 29) = 0
          · rw [if_pos c5] at h
            obtain ⟨_, h⟩ := mm_if h
            obtain ⟨f12, ef12, h⟩ := mm_lt h
            have E := eqC_up ef12 (by decide) E
            obtain ⟨_, h⟩ := mm_if h
            obtain ⟨f14, ef14, h⟩ := mm_lt h
            have E := eqC_up ef14 (by decide) E
            obtain ⟨f15, ef15, h⟩ := mm_lt h
            have E := eqC_up ef15 (by decide) E
            obtain ⟨f16, ef16, h⟩ := mm_lt h
            have E := eqC_up ef16 (by decide) E
            obtain ⟨rfl, rfl⟩ := mm_pr h
            exact E
          · rw [if_neg c5] at h
            obtain ⟨rfl, rfl⟩ := mm_pr h
            exact E
      · rw [if_neg c3] at h
        exact eqC_tr (E_X7_rule_25  h) E
set_option maxRecDepth 20000 in
theorem E_X7_run_37 {f' : F3} {rv : Int32} : ∀ (n : Nat) {f : F3} {x1 : Int32} {x2 : Int32} {x3 : Int32}, S_X7_run_37 n f x1 x2 x3 = some (rv, f') → eqC f' f := by
  intro n
  induction n with
  | zero => intro f x1 x2 x3 h; cases h
  | succ n ih =>
    intro f x1 x2 x3 h
    rw [S_X7_run_37] at h
    have E : eqC f f := eqC_rf f
    by_cases c1 : x1 ≤ x3
    · rw [if_pos c1] at h
      obtain ⟨r13, f12, ef12, h⟩ := mm_b2e h
      have E := eqC_tr (E_X7_many ef12) E
      obtain ⟨rfl, rfl⟩ := mm_pr h
      exact E
    · rw [if_neg c1] at h
      obtain ⟨f14, ef14, h⟩ := mm_bind h
      have E := eqC_tr (E_X7_goesBy ef14) E
      exact eqC_tr (ih h) E
set_option maxRecDepth 20000 in
theorem E_X7_run {f f' : F3} {rv : Int32} {x1 : Int32} (h : S_X7_run f x1 = some (rv, f')) : eqC f' f := by
  rw [S_X7_run] at h
  have E : eqC f f := eqC_rf f
  by_cases c1 : 0 ≤ x1
  · rw [if_pos c1] at h
    obtain ⟨r3, f2, ef2, h⟩ := mm_b2e h
    have E := eqC_tr (E_X7_in ef2) E
    by_cases c2 : r3 = 0
    · rw [if_pos c2] at h
      obtain ⟨r8, f7, ef7, h⟩ := mm_b2e h
      have E := eqC_tr (E_X7_refuse ef7) E
      obtain ⟨rfl, rfl⟩ := mm_pr h
      exact E
    · rw [if_neg c2] at h
      obtain ⟨r6, f5, ef5, h⟩ := mm_b2e h
      have E := eqC_tr (E_X7_many ef5) E
      exact eqC_tr (E_X7_run_37 _ h) E
  · rw [if_neg c1] at h
    obtain ⟨r10, f9, ef9, h⟩ := mm_b2e h
    have E := eqC_tr (E_X7_refuse ef9) E
    obtain ⟨rfl, rfl⟩ := mm_pr h
    exact E
set_option maxRecDepth 20000 in
theorem E_X7_said_16 {f f' : F3} {rv : Int32} (h : S_X7_said_16 f = some (rv, f')) : eqC f' f := by
  rw [S_X7_said_16] at h
  have E : eqC f f := eqC_rf f
  obtain ⟨r15, f14, ef14, h⟩ := mm_b2e h
  have E := eqC_tr (E_X7_refuse ef14) E
  obtain ⟨rfl, rfl⟩ := mm_pr h
  exact E
set_option maxRecDepth 20000 in
theorem E_X7_said {f f' : F3} {rv : Int32} {x1 : Int32} {x2 : Int32} {x3 : Int32} (h : S_X7_said f x1 x2 x3 = some (rv, f')) : eqC f' f := by
  rw [S_X7_said] at h
  have E : eqC f f := eqC_rf f
  obtain ⟨r2, f1, ef1, h⟩ := mm_b2e h
  have E := eqC_tr (E_X7_isLoad ef1) E
  by_cases c1 : r2 = 0
  · rw [if_pos c1] at h
    exact eqC_tr (E_X7_said_16  h) E
  · rw [if_neg c1] at h
    obtain ⟨r5, f4, ef4, h⟩ := mm_b2e h
    have E := eqC_tr (E_X7_isCell ef4) E
    by_cases c2 : r5 = 0
    · rw [if_pos c2] at h
      exact eqC_tr (E_X7_said_16  h) E
    · rw [if_neg c2] at h
      obtain ⟨r8, f7, ef7, h⟩ := mm_b2e h
      have E := eqC_tr (E_X7_in ef7) E
      by_cases c3 : r8 = 0
      · rw [if_pos c3] at h
        obtain ⟨r11, f10, ef10, h⟩ := mm_b2e h
        have E := eqC_tr (E_X7_refuse ef10) E
        obtain ⟨rfl, rfl⟩ := mm_pr h
        exact E
      · rw [if_neg c3] at h
        obtain ⟨r13, f12, ef12, h⟩ := mm_b2e h
        have E := eqC_tr (E_X7_saidOf ef12) E
        obtain ⟨rfl, rfl⟩ := mm_pr h
        exact E
set_option maxRecDepth 20000 in
theorem E_X7_snow_102 {f f' : F3} {rv : Int32} {k21 : F3 → Int32 → Int32 → Int32 → Option (Int32 × F3)} (hk21 : ∀ (f : F3) (a0 : Int32) (a1 : Int32) (a2 : Int32), k21 f a0 a1 a2 = some (rv, f') → eqC f' f) {x1 : Int32} {x2 : Int32} {x3 : Int32} (h : S_X7_snow_102 k21 f x1 x2 x3 = some (rv, f')) : eqC f' f := by
  rw [S_X7_snow_102] at h
  have E : eqC f f := eqC_rf f
  exact eqC_tr (hk21 _ _ _ _ h) E
set_option maxRecDepth 20000 in
theorem E_X7_snow_93 {f f' : F3} {rv : Int32} {k21 : F3 → Int32 → Int32 → Int32 → Option (Int32 × F3)} (hk21 : ∀ (f : F3) (a0 : Int32) (a1 : Int32) (a2 : Int32), k21 f a0 a1 a2 = some (rv, f') → eqC f' f) {x1 : Int32} {x2 : Int32} {x3 : Int32} (h : S_X7_snow_93 k21 f x1 x2 x3 = some (rv, f')) : eqC f' f := by
  rw [S_X7_snow_93] at h
  have E : eqC f f := eqC_rf f
  obtain ⟨f15, ef15, h⟩ := mm_bind h
  have E := eqC_tr (E_X7_becomes ef15) E
  exact eqC_tr (E_X7_snow_102 hk21  h) E
set_option maxRecDepth 20000 in
theorem E_X7_snow_72 {f f' : F3} {rv : Int32} {k21 : F3 → Int32 → Int32 → Int32 → Option (Int32 × F3)} (hk21 : ∀ (f : F3) (a0 : Int32) (a1 : Int32) (a2 : Int32), k21 f a0 a1 a2 = some (rv, f') → eqC f' f) {s1 : Int32} {s2 : Int32} {x1 : Int32} {x2 : Int32} {x3 : Int32} (h : S_X7_snow_72 k21 f s1 s2 x1 x2 x3 = some (rv, f')) : eqC f' f := by
  rw [S_X7_snow_72] at h
  have E : eqC f f := eqC_rf f
  obtain ⟨_, h⟩ := mm_if h
  obtain ⟨f11, ef11, h⟩ := mm_lt h
  have E := eqC_up ef11 (by decide) E
  obtain ⟨_, h⟩ := mm_if h
  by_cases c1 : (f11 30 0 x3.toNatClampNeg) = 1
  · rw [if_pos c1] at h
    exact eqC_tr (E_X7_snow_93 hk21  h) E
  · rw [if_neg c1] at h
    by_cases c2 : (f11 30 0 x3.toNatClampNeg) = 2
    · rw [if_pos c2] at h
      exact eqC_tr (E_X7_snow_93 hk21  h) E
    · rw [if_neg c2] at h
      exact eqC_tr (E_X7_snow_102 hk21  h) E
set_option maxRecDepth 20000 in
theorem E_X7_snow_21 {f' : F3} {rv : Int32} : ∀ (n : Nat) {f : F3} {x1 : Int32} {x2 : Int32} {x3 : Int32}, S_X7_snow_21 n f x1 x2 x3 = some (rv, f') → eqC f' f := by
  intro n
  induction n with
  | zero => intro f x1 x2 x3 h; cases h
  | succ n ih =>
    intro f x1 x2 x3 h
    rw [S_X7_snow_21] at h
    have E : eqC f f := eqC_rf f
    by_cases c1 : (f 20 0 2) ≤ x3
    · rw [if_pos c1] at h
      obtain ⟨rfl, rfl⟩ := mm_pr h
      exact E
    · rw [if_neg c1] at h
      obtain ⟨_, h⟩ := mm_if h
      by_cases c2 : (f 30 0 x3.toNatClampNeg) = 4
      · rw [if_pos c2] at h
        exact eqC_tr (E_X7_snow_102 (fun _ _ _ _ h9 => ih h9)  h) E
      · rw [if_neg c2] at h
        by_cases c3 : ((f 32 0 x3.toNatClampNeg) + x1) ≤ 200
        · rw [if_pos c3] at h
          exact eqC_tr (E_X7_snow_72 (fun _ _ _ _ h9 => ih h9)  h) E
        · rw [if_neg c3] at h
          exact eqC_tr (E_X7_snow_72 (fun _ _ _ _ h9 => ih h9)  h) E
set_option maxRecDepth 20000 in
theorem E_X7_snow {f f' : F3} {rv : Int32} {x1 : Int32} (h : S_X7_snow f x1 = some (rv, f')) : eqC f' f := by
  rw [S_X7_snow] at h
  have E : eqC f f := eqC_rf f
  obtain ⟨r2, f1, ef1, h⟩ := mm_b2e h
  have E := eqC_tr (E_X7_in ef1) E
  by_cases c1 : r2 = 0
  · rw [if_pos c1] at h
    obtain ⟨r5, f4, ef4, h⟩ := mm_b2e h
    have E := eqC_tr (E_X7_refuse ef4) E
    obtain ⟨rfl, rfl⟩ := mm_pr h
    exact E
  · rw [if_neg c1] at h
    exact eqC_tr (E_X7_snow_21 _ h) E
set_option maxRecDepth 20000 in
theorem E_X7_status {f f' : F3} {rv : Int32} {x1 : Int32} (h : S_X7_status f x1 = some (rv, f')) : eqC f' f := by
  rw [S_X7_status] at h
  have E : eqC f f := eqC_rf f
  obtain ⟨r2, f1, ef1, h⟩ := mm_b2e h
  have E := eqC_tr (E_X7_in ef1) E
  by_cases c1 : r2 = 0
  · rw [if_pos c1] at h
    obtain ⟨r5, f4, ef4, h⟩ := mm_b2e h
    have E := eqC_tr (E_X7_refuse ef4) E
    obtain ⟨rfl, rfl⟩ := mm_pr h
    exact E
  · rw [if_neg c1] at h
    obtain ⟨_, h⟩ := mm_if h
    obtain ⟨rfl, rfl⟩ := mm_pr h
    exact E
set_option maxRecDepth 20000 in
theorem E_X7_sweep_41 {f f' : F3} {rv : Int32} {x1 : Int32} (h : S_X7_sweep_41 f x1 = some (rv, f')) : eqC f' f := by
  rw [S_X7_sweep_41] at h
  have E : eqC f f := eqC_rf f
  obtain ⟨f11, ef11, h⟩ := mm_bind h
  have E := eqC_tr (E_X7_becomes ef11) E
  obtain ⟨_, h⟩ := mm_if h
  obtain ⟨f13, ef13, h⟩ := mm_lt h
  have E := eqC_up ef13 (by decide) E
  obtain ⟨rfl, rfl⟩ := mm_pr h
  exact E
set_option maxRecDepth 20000 in
theorem E_X7_sweep {f f' : F3} {rv : Int32} {x1 : Int32} (h : S_X7_sweep f x1 = some (rv, f')) : eqC f' f := by
  rw [S_X7_sweep] at h
  have E : eqC f f := eqC_rf f
  obtain ⟨r2, f1, ef1, h⟩ := mm_b2e h
  have E := eqC_tr (E_X7_isCell ef1) E
  by_cases c1 : r2 = 0
  · rw [if_pos c1] at h
    obtain ⟨r10, f9, ef9, h⟩ := mm_b2e h
    have E := eqC_tr (E_X7_refuse ef9) E
    obtain ⟨rfl, rfl⟩ := mm_pr h
    exact E
  · rw [if_neg c1] at h
    obtain ⟨_, h⟩ := mm_if h
    by_cases c2 : (f1 30 0 x1.toNatClampNeg) = 0
    · rw [if_pos c2] at h
      exact eqC_tr (E_X7_sweep_41  h) E
    · rw [if_neg c2] at h
      by_cases c3 : (f1 30 0 x1.toNatClampNeg) = 1
      · rw [if_pos c3] at h
        exact eqC_tr (E_X7_sweep_41  h) E
      · rw [if_neg c3] at h
        obtain ⟨r8, f7, ef7, h⟩ := mm_b2e h
        have E := eqC_tr (E_X7_refuse ef7) E
        obtain ⟨rfl, rfl⟩ := mm_pr h
        exact E
set_option maxRecDepth 20000 in
theorem E_X7_tear {f f' : F3} {rv : Int32} (h : S_X7_tear f = some (rv, f')) : eqC f' f := by
  rw [S_X7_tear] at h
  have E : eqC f f := eqC_rf f
  obtain ⟨f1, ef1, h⟩ := mm_lt h
  have E := eqC_up ef1 (by decide) E
  by_cases c1 : (f 20 0 31) = 0
  · rw [if_pos c1] at h
    obtain ⟨rfl, rfl⟩ := mm_pr h
    exact E
  · rw [if_neg c1] at h
    obtain ⟨rfl, rfl⟩ := mm_pr h
    exact E
set_option maxRecDepth 20000 in
theorem E_X7_tell_65 {f f' : F3} {rv : Int32} {x1 : Int32} {x2 : Int32} (h : S_X7_tell_65 f x1 x2 = some (rv, f')) : eqC f' f := by
  rw [S_X7_tell_65] at h
  have E : eqC f f := eqC_rf f
  obtain ⟨f15, ef15, h⟩ := mm_lt h
  have E := eqC_up ef15 (by decide) E
  obtain ⟨_, h⟩ := mm_if h
  obtain ⟨f17, ef17, h⟩ := mm_lt h
  have E := eqC_up ef17 (by decide) E
  obtain ⟨rfl, rfl⟩ := mm_pr h
  exact E
set_option maxRecDepth 20000 in
theorem E_X7_tell_39 {f' : F3} {rv : Int32} : ∀ (n : Nat) {f : F3} {x1 : Int32} {x2 : Int32} {x3 : Int32}, S_X7_tell_39 n f x1 x2 x3 = some (rv, f') → eqC f' f := by
  intro n
  induction n with
  | zero => intro f x1 x2 x3 h; cases h
  | succ n ih =>
    intro f x1 x2 x3 h
    rw [S_X7_tell_39] at h
    have E : eqC f f := eqC_rf f
    by_cases c1 : 48 ≤ x3
    · rw [if_pos c1] at h
      exact eqC_tr (E_X7_tell_65  h) E
    · rw [if_neg c1] at h
      by_cases c2 : (f 20 0 31) = 0
      · rw [if_pos c2] at h
        obtain ⟨_, h⟩ := mm_if h
        obtain ⟨f14, ef14, h⟩ := mm_lt h
        have E := eqC_up ef14 (by decide) E
        exact eqC_tr (ih h) E
      · rw [if_neg c2] at h
        exact eqC_tr (E_X7_tell_65  h) E
set_option maxRecDepth 20000 in
theorem E_X7_tell {f f' : F3} {rv : Int32} {x1 : Int32} {x2 : Int32} (h : S_X7_tell f x1 x2 = some (rv, f')) : eqC f' f := by
  rw [S_X7_tell] at h
  have E : eqC f f := eqC_rf f
  obtain ⟨r2, f1, ef1, h⟩ := mm_b2e h
  have E := eqC_tr (E_X7_in ef1) E
  by_cases c1 : r2 = 0
  · rw [if_pos c1] at h
    obtain ⟨r10, f9, ef9, h⟩ := mm_b2e h
    have E := eqC_tr (E_X7_refuse ef9) E
    obtain ⟨rfl, rfl⟩ := mm_pr h
    exact E
  · rw [if_neg c1] at h
    obtain ⟨r5, f4, ef4, h⟩ := mm_b2e h
    have E := eqC_tr (E_X7_in ef4) E
    by_cases c2 : r5 = 0
    · rw [if_pos c2] at h
      obtain ⟨r8, f7, ef7, h⟩ := mm_b2e h
      have E := eqC_tr (E_X7_refuse ef7) E
      obtain ⟨rfl, rfl⟩ := mm_pr h
      exact E
    · rw [if_neg c2] at h
      exact eqC_tr (E_X7_tell_39 _ h) E
set_option maxRecDepth 20000 in
theorem E_X7_thaw_194 {f' : F3} {rv : Int32} : ∀ (n : Nat) {f : F3} {x3 : Int32} {x5 : Int32}, S_X7_thaw_194 n f x3 x5 = some (rv, f') → eqC f' f := by
  intro n
  induction n with
  | zero => intro f x3 x5 h; cases h
  | succ n ih =>
    intro f x3 x5 h
    rw [S_X7_thaw_194] at h
    have E : eqC f f := eqC_rf f
    by_cases c1 : 10 ≤ x5
    · rw [if_pos c1] at h
      obtain ⟨rfl, rfl⟩ := mm_pr h
      exact E
    · rw [if_neg c1] at h
      obtain ⟨_, h⟩ := mm_if h
      obtain ⟨_, h⟩ := mm_if h
      obtain ⟨f33, ef33, h⟩ := mm_lt h
      have E := eqC_up ef33 (by decide) E
      obtain ⟨_, h⟩ := mm_if h
      obtain ⟨f35, ef35, h⟩ := mm_lt h
      have E := eqC_up ef35 (by decide) E
      obtain ⟨_, h⟩ := mm_if h
      obtain ⟨f37, ef37, h⟩ := mm_lt h
      have E := eqC_up ef37 (by decide) E
      obtain ⟨_, h⟩ := mm_if h
      obtain ⟨f39, ef39, h⟩ := mm_lt h
      have E := eqC_up ef39 (by decide) E
      obtain ⟨_, h⟩ := mm_if h
      obtain ⟨f41, ef41, h⟩ := mm_lt h
      have E := eqC_up ef41 (by decide) E
      exact eqC_tr (ih h) E
set_option maxRecDepth 20000 in
theorem E_X7_thaw_191 {f f' : F3} {rv : Int32} {x3 : Int32} (h : S_X7_thaw_191 f x3 = some (rv, f')) : eqC f' f := by
  rw [S_X7_thaw_191] at h
  have E : eqC f f := eqC_rf f
  exact eqC_tr (E_X7_thaw_194 _ h) E
set_option maxRecDepth 20000 in
theorem E_X7_thaw_186 {f f' : F3} {rv : Int32} {k131 : F3 → Int32 → Int32 → Int32 → Int32 → Option (Int32 × F3)} (hk131 : ∀ (f : F3) (a0 : Int32) (a1 : Int32) (a2 : Int32) (a3 : Int32), k131 f a0 a1 a2 a3 = some (rv, f') → eqC f' f) {s0 : Int32} {s1 : Int32} {x1 : Int32} {x2 : Int32} {x4 : Int32} (h : S_X7_thaw_186 k131 f s0 s1 x1 x2 x4 = some (rv, f')) : eqC f' f := by
  rw [S_X7_thaw_186] at h
  have E : eqC f f := eqC_rf f
  exact eqC_tr (hk131 _ _ _ _ _ h) E
set_option maxRecDepth 20000 in
theorem E_X7_thaw_146 {f' : F3} {rv : Int32} {k131 : F3 → Int32 → Int32 → Int32 → Int32 → Option (Int32 × F3)} (hk131 : ∀ (f : F3) (a0 : Int32) (a1 : Int32) (a2 : Int32) (a3 : Int32), k131 f a0 a1 a2 a3 = some (rv, f') → eqC f' f) : ∀ (n : Nat) {f : F3} {x1 : Int32} {x2 : Int32} {x3 : Int32} {x5 : Int32}, S_X7_thaw_146 k131 n f x1 x2 x3 x5 = some (rv, f') → eqC f' f := by
  intro n
  induction n with
  | zero => intro f x1 x2 x3 x5 h; cases h
  | succ n ih =>
    intro f x1 x2 x3 x5 h
    rw [S_X7_thaw_146] at h
    have E : eqC f f := eqC_rf f
    by_cases c1 : (f 20 0 2) ≤ x5
    · rw [if_pos c1] at h
      obtain ⟨r27, f26, ef26, h⟩ := mm_b2e h
      have E := eqC_tr (E_X7_allBear ef26) E
      by_cases c2 : r27 = 0
      · rw [if_pos c2] at h
        exact eqC_tr (E_X7_thaw_186 hk131  h) E
      · rw [if_neg c2] at h
        exact eqC_tr (E_X7_thaw_186 hk131  h) E
    · rw [if_neg c1] at h
      obtain ⟨f29, ef29, h⟩ := mm_bind h
      have E := eqC_tr (E_X7_grows ef29) E
      exact eqC_tr (ih h) E
set_option maxRecDepth 20000 in
theorem E_X7_thaw_131 {f' : F3} {rv : Int32} : ∀ (n : Nat) {f : F3} {x1 : Int32} {x2 : Int32} {x3 : Int32} {x4 : Int32}, S_X7_thaw_131 n f x1 x2 x3 x4 = some (rv, f') → eqC f' f := by
  intro n
  induction n with
  | zero => intro f x1 x2 x3 x4 h; cases h
  | succ n ih =>
    intro f x1 x2 x3 x4 h
    rw [S_X7_thaw_131] at h
    have E : eqC f f := eqC_rf f
    by_cases c1 : x4 = 0
    · rw [if_pos c1] at h
      exact eqC_tr (E_X7_thaw_191  h) E
    · rw [if_neg c1] at h
      by_cases c2 : 500 ≤ x3
      · rw [if_pos c2] at h
        exact eqC_tr (E_X7_thaw_191  h) E
      · rw [if_neg c2] at h
        exact eqC_tr (E_X7_thaw_146 (fun _ _ _ _ _ h9 => ih h9) _ h) E
set_option maxRecDepth 20000 in
theorem E_X7_thaw_32 {f' : F3} {rv : Int32} : ∀ (n : Nat) {f : F3} {x1 : Int32} {x2 : Int32} {x3 : Int32}, S_X7_thaw_32 n f x1 x2 x3 = some (rv, f') → eqC f' f := by
  intro n
  induction n with
  | zero => intro f x1 x2 x3 h; cases h
  | succ n ih =>
    intro f x1 x2 x3 h
    rw [S_X7_thaw_32] at h
    have E : eqC f f := eqC_rf f
    by_cases c1 : 10 ≤ x3
    · rw [if_pos c1] at h
      obtain ⟨r11, f10, ef10, h⟩ := mm_b2e h
      have E := eqC_tr (E_X7_allBear ef10) E
      exact eqC_tr (E_X7_thaw_131 _ h) E
    · rw [if_neg c1] at h
      obtain ⟨_, h⟩ := mm_if h
      obtain ⟨_, h⟩ := mm_if h
      obtain ⟨f14, ef14, h⟩ := mm_lt h
      have E := eqC_up ef14 (by decide) E
      obtain ⟨_, h⟩ := mm_if h
      obtain ⟨f16, ef16, h⟩ := mm_lt h
      have E := eqC_up ef16 (by decide) E
      obtain ⟨_, h⟩ := mm_if h
      obtain ⟨f18, ef18, h⟩ := mm_lt h
      have E := eqC_up ef18 (by decide) E
      obtain ⟨_, h⟩ := mm_if h
      obtain ⟨f20, ef20, h⟩ := mm_lt h
      have E := eqC_up ef20 (by decide) E
      obtain ⟨_, h⟩ := mm_if h
      obtain ⟨f22, ef22, h⟩ := mm_lt h
      have E := eqC_up ef22 (by decide) E
      exact eqC_tr (ih h) E
set_option maxRecDepth 20000 in
theorem E_X7_thaw_23 {f f' : F3} {rv : Int32} (h : S_X7_thaw_23 f = some (rv, f')) : eqC f' f := by
  rw [S_X7_thaw_23] at h
  have E : eqC f f := eqC_rf f
  obtain ⟨r8, f7, ef7, h⟩ := mm_b2e h
  have E := eqC_tr (E_X7_refuse ef7) E
  obtain ⟨rfl, rfl⟩ := mm_pr h
  exact E
set_option maxRecDepth 20000 in
theorem E_X7_thaw {f f' : F3} {rv : Int32} {x1 : Int32} {x2 : Int32} (h : S_X7_thaw f x1 x2 = some (rv, f')) : eqC f' f := by
  rw [S_X7_thaw] at h
  have E : eqC f f := eqC_rf f
  obtain ⟨r2, f1, ef1, h⟩ := mm_b2e h
  have E := eqC_tr (E_X7_in ef1) E
  by_cases c1 : r2 = 0
  · rw [if_pos c1] at h
    exact eqC_tr (E_X7_thaw_23  h) E
  · rw [if_neg c1] at h
    obtain ⟨r5, f4, ef4, h⟩ := mm_b2e h
    have E := eqC_tr (E_X7_in ef4) E
    by_cases c2 : r5 = 0
    · rw [if_pos c2] at h
      exact eqC_tr (E_X7_thaw_23  h) E
    · rw [if_neg c2] at h
      exact eqC_tr (E_X7_thaw_32 _ h) E
set_option maxRecDepth 20000 in
theorem E_X7_thick {f f' : F3} {rv : Int32} {x1 : Int32} {x2 : Int32} (h : S_X7_thick f x1 x2 = some (rv, f')) : eqC f' f := by
  rw [S_X7_thick] at h
  have E : eqC f f := eqC_rf f
  obtain ⟨r2, f1, ef1, h⟩ := mm_b2e h
  have E := eqC_tr (E_X7_isCell ef1) E
  by_cases c1 : r2 = 0
  · rw [if_pos c1] at h
    obtain ⟨r15, f14, ef14, h⟩ := mm_b2e h
    have E := eqC_tr (E_X7_refuse ef14) E
    obtain ⟨rfl, rfl⟩ := mm_pr h
    exact E
  · rw [if_neg c1] at h
    obtain ⟨_, h⟩ := mm_if h
    by_cases c2 : (f1 30 0 x1.toNatClampNeg) = 4
    · rw [if_pos c2] at h
      obtain ⟨r13, f12, ef12, h⟩ := mm_b2e h
      have E := eqC_tr (E_X7_refuse ef12) E
      obtain ⟨rfl, rfl⟩ := mm_pr h
      exact E
    · rw [if_neg c2] at h
      obtain ⟨r7, f6, ef6, h⟩ := mm_b2e h
      have E := eqC_tr (E_X7_in ef6) E
      by_cases c3 : r7 = 0
      · rw [if_pos c3] at h
        obtain ⟨r11, f10, ef10, h⟩ := mm_b2e h
        have E := eqC_tr (E_X7_refuse ef10) E
        obtain ⟨rfl, rfl⟩ := mm_pr h
        exact E
      · rw [if_neg c3] at h
        obtain ⟨f9, ef9, h⟩ := mm_lt h
        have E := eqC_up ef9 (by decide) E
        obtain ⟨rfl, rfl⟩ := mm_pr h
        exact E
set_option maxRecDepth 20000 in
theorem E_X7_turn {f f' : F3} {rv : Int32} {x1 : Int32} (h : S_X7_turn f x1 = some (rv, f')) : eqC f' f := by
  rw [S_X7_turn] at h
  have E : eqC f f := eqC_rf f
  obtain ⟨r2, f1, ef1, h⟩ := mm_b2e h
  have E := eqC_tr (E_X7_isLoad ef1) E
  by_cases c1 : r2 = 0
  · rw [if_pos c1] at h
    obtain ⟨r12, f11, ef11, h⟩ := mm_b2e h
    have E := eqC_tr (E_X7_refuse ef11) E
    obtain ⟨rfl, rfl⟩ := mm_pr h
    exact E
  · rw [if_neg c1] at h
    obtain ⟨_, h⟩ := mm_if h
    by_cases c2 : (f1 43 0 x1.toNatClampNeg) = 0
    · rw [if_pos c2] at h
      obtain ⟨f6, ef6, h⟩ := mm_lt h
      have E := eqC_up ef6 (by decide) E
      obtain ⟨r8, f7, ef7, h⟩ := mm_b2e h
      have E := eqC_tr (E_X7_many ef7) E
      obtain ⟨rfl, rfl⟩ := mm_pr h
      exact E
    · rw [if_neg c2] at h
      obtain ⟨r10, f9, ef9, h⟩ := mm_b2e h
      have E := eqC_tr (E_X7_refuse ef9) E
      obtain ⟨rfl, rfl⟩ := mm_pr h
      exact E
set_option maxRecDepth 20000 in
theorem E_X7_weather_44 {f f' : F3} {rv : Int32} {x1 : Int32} {x2 : Int32} (h : S_X7_weather_44 f x1 x2 = some (rv, f')) : eqC f' f := by
  rw [S_X7_weather_44] at h
  have E : eqC f f := eqC_rf f
  obtain ⟨_, h⟩ := mm_if h
  obtain ⟨f13, ef13, h⟩ := mm_lt h
  have E := eqC_up ef13 (by decide) E
  obtain ⟨rfl, rfl⟩ := mm_pr h
  exact E
set_option maxRecDepth 20000 in
theorem E_X7_weather {f f' : F3} {rv : Int32} {x1 : Int32} {x2 : Int32} (h : S_X7_weather f x1 x2 = some (rv, f')) : eqC f' f := by
  rw [S_X7_weather] at h
  have E : eqC f f := eqC_rf f
  obtain ⟨r2, f1, ef1, h⟩ := mm_b2e h
  have E := eqC_tr (E_X7_in ef1) E
  by_cases c1 : r2 = 0
  · rw [if_pos c1] at h
    obtain ⟨r11, f10, ef10, h⟩ := mm_b2e h
    have E := eqC_tr (E_X7_nought ef10) E
    obtain ⟨rfl, rfl⟩ := mm_pr h
    exact E
  · rw [if_neg c1] at h
    by_cases c2 : x2 = (-9999)
    · rw [if_pos c2] at h
      exact eqC_tr (E_X7_weather_44  h) E
    · rw [if_neg c2] at h
      obtain ⟨r6, f5, ef5, h⟩ := mm_b2e h
      have E := eqC_tr (E_X7_in ef5) E
      by_cases c3 : r6 = 0
      · rw [if_pos c3] at h
        obtain ⟨r9, f8, ef8, h⟩ := mm_b2e h
        have E := eqC_tr (E_X7_nought ef8) E
        obtain ⟨rfl, rfl⟩ := mm_pr h
        exact E
      · rw [if_neg c3] at h
        exact eqC_tr (E_X7_weather_44  h) E
set_option maxRecDepth 20000 in
theorem E_X7_why_25 {f f' : F3} {rv : Int32} (h : S_X7_why_25 f = some (rv, f')) : eqC f' f := by
  rw [S_X7_why_25] at h
  have E : eqC f f := eqC_rf f
  obtain ⟨r10, f9, ef9, h⟩ := mm_b2e h
  have E := eqC_tr (E_X7_refuse ef9) E
  obtain ⟨rfl, rfl⟩ := mm_pr h
  exact E
set_option maxRecDepth 20000 in
theorem E_X7_why {f f' : F3} {rv : Int32} {x1 : Int32} {x2 : Int32} (h : S_X7_why f x1 x2 = some (rv, f')) : eqC f' f := by
  rw [S_X7_why] at h
  have E : eqC f f := eqC_rf f
  obtain ⟨r2, f1, ef1, h⟩ := mm_b2e h
  have E := eqC_tr (E_X7_isLoad ef1) E
  by_cases c1 : r2 = 0
  · rw [if_pos c1] at h
    exact eqC_tr (E_X7_why_25  h) E
  · rw [if_neg c1] at h
    obtain ⟨r5, f4, ef4, h⟩ := mm_b2e h
    have E := eqC_tr (E_X7_isCell ef4) E
    by_cases c2 : r5 = 0
    · rw [if_pos c2] at h
      exact eqC_tr (E_X7_why_25  h) E
    · rw [if_neg c2] at h
      obtain ⟨r8, f7, ef7, h⟩ := mm_b2e h
      have E := eqC_tr (E_X7_whyNot ef7) E
      obtain ⟨rfl, rfl⟩ := mm_pr h
      exact E
set_option maxRecDepth 20000 in
theorem E_X7_wipe {f f' : F3} {rv : Int32} (h : S_X7_wipe f = some (rv, f')) : eqC f' f := by
  rw [S_X7_wipe] at h
  have E : eqC f f := eqC_rf f
  obtain ⟨f1, ef1, h⟩ := mm_lt h
  have E := eqC_up ef1 (by decide) E
  obtain ⟨rfl, rfl⟩ := mm_pr h
  exact E
