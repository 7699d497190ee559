/-! look: what is known of a cell and of those beside it -/
def fd (g : Nat → Int32) : Nat → Option Nat
  | 0 => none
  | i + 1 => if g i = -1 then fd g i else some i
def fup (g : Nat → Int32) : Nat → Nat → Option Nat
  | 0, _ => none
  | m + 1, k => if g k = -1 then fup g m (k + 1) else some k
def kv (g : Nat → Int32) : Option Nat → Int32
  | none => -1
  | some j => g j
def ki : Option Nat → Int32
  | none => -1
  | some j => nI j
theorem fd_sp {g : Nat → Int32} : ∀ {i j : Nat}, fd g i = some j → j < i ∧ g j ≠ -1
  | 0, _, h => by cases h
  | i + 1, j, h => by
    rw [fd] at h
    by_cases q : g i = -1
    · rw [if_pos q] at h
      have := fd_sp h
      exact ⟨by omega, this.2⟩
    · rw [if_neg q] at h
      cases h
      exact ⟨by omega, q⟩
theorem fup_sp {g : Nat → Int32} : ∀ {m k j : Nat}, fup g m k = some j → j < k + m ∧ g j ≠ -1
  | 0, _, _, h => by cases h
  | m + 1, k, j, h => by
    rw [fup] at h
    by_cases q : g k = -1
    · rw [if_pos q] at h
      have := fup_sp h
      exact ⟨by omega, this.2⟩
    · rw [if_neg q] at h
      cases h
      exact ⟨by omega, q⟩
section LK
variable {nc nl nr nt : Nat} {c r : F3}
theorem okI_m1 {n : Nat} : okI (nI 0 - 1) n = false := by
  rw [Bool.eq_false_iff]
  intro q
  rw [okI_iff] at q
  exact absurd q.1 (by decide)
theorem C_nd (h : Rel nc nl nr nt c r) : ∀ (i cnt n : Nat) (x y : Int32), x = nI i - 1 → y = nI cnt → i ≤ nc → cnt + i ≤ 9 → i < n → S_X6_nearestKnown_7 n c (-1) x y = some (kv (fun j => c 1 j 7) (fd (fun j => c 1 j 7) i), c)
  | 0, cnt, n + 1, x, y, hx, hy, hi, hcnt, _ => by
    rw [S_X6_nearestKnown_7, hy, if_neg (show ¬ (10 : Int32) ≤ nI cnt from nle_of (n := 10) (by omega) (by decide)), C_isCell h, mb2, hx, okI_m1, bo_f, if_pos rfl]
    rfl
  | i + 1, cnt, n + 1, x, y, hx, hy, hi, hcnt, hn => by
    have hb := h.1
    rw [nI_pred] at hx
    rw [S_X6_nearestKnown_7, hy, if_neg (show ¬ (10 : Int32) ≤ nI cnt from nle_of (n := 10) (by omega) (by decide)), C_isCell h, mb2, hx, okI_nI (show i < nc by omega) (by omega), bo_t, if_neg (by decide), if_pos (okI_nI (show i < 10 by omega) (by decide)), nIk (show i < 10 by omega) (by decide), fd]
    by_cases q : c 1 i 7 = -1
    · rw [if_pos q, if_pos q, nI_1]
      exact C_nd h i (cnt + 1) n _ _ (by rw [Int32.sub_eq_add_neg]) rfl (by omega) (by omega) (by omega)
    · rw [if_neg q, if_neg q]
      rfl
  | 0, _, 0, _, _, _, _, _, _, h => absurd h (Nat.lt_irrefl 0)
  | m + 1, _, 0, _, _, _, _, _, _, h => absurd h (by omega)
theorem C_nu (h : Rel nc nl nr nt c r) : ∀ (m k cnt n : Nat) (x y : Int32), x = nI k → y = nI cnt → k + m = nc → cnt + m ≤ 9 → m < n → S_X6_nearestKnown_7 n c 1 x y = some (kv (fun j => c 1 j 7) (fup (fun j => c 1 j 7) m k), c)
  | 0, k, cnt, n + 1, x, y, hx, hy, hi, hcnt, _ => by
    have hf : okI (nI k) nc = false := by
      have hb := h.1
      rw [Bool.eq_false_iff]
      intro q
      rw [okI_iff, nI_toInt (by omega)] at q
      omega
    rw [S_X6_nearestKnown_7, hy, if_neg (show ¬ (10 : Int32) ≤ nI cnt from nle_of (n := 10) (by omega) (by decide)), C_isCell h, mb2, hx, hf, bo_f, if_pos rfl]
    rfl
  | m + 1, k, cnt, n + 1, x, y, hx, hy, hi, hcnt, hn => by
    have hb := h.1
    rw [S_X6_nearestKnown_7, hy, if_neg (show ¬ (10 : Int32) ≤ nI cnt from nle_of (n := 10) (by omega) (by decide)), C_isCell h, mb2, hx, okI_nI (show k < nc by omega) (by omega), bo_t, if_neg (by decide), if_pos (okI_nI (show k < 10 by omega) (by decide)), nIk (show k < 10 by omega) (by decide), fup]
    by_cases q : c 1 k 7 = -1
    · rw [if_pos q, if_pos q, nI_1, nI_1]
      exact C_nu h m (k + 1) (cnt + 1) n _ _ rfl rfl (by omega) (by omega) (by omega)
    · rw [if_neg q, if_neg q]
      rfl
  | 0, _, _, 0, _, _, _, _, _, _, h => absurd h (Nat.lt_irrefl 0)
  | m + 1, _, _, 0, _, _, _, _, _, _, h => absurd h (by omega)
theorem R_nd (h : Rel nc nl nr nt c r) : ∀ (i n : Nat) (x : Int32), x = nI i - 1 → i ≤ nc → i < n → S_X7_nearest_4 n r (-1) x = some (ki (fd (fun j => c 1 j 7) i), r)
  | 0, n + 1, x, hx, hi, _ => by
    rw [S_X7_nearest_4, R_isCell h, mb2, hx, okI_m1, bo_f, if_pos rfl]
    unfold S_X7_nearest_29
    rw [R_isCell h, mb2, okI_m1, bo_f, if_pos rfl]
    rfl
  | i + 1, n + 1, x, hx, hi, hn => by
    have hb := h.1
    rw [nI_pred] at hx
    have e7 : r 37 0 i = c 1 i 7 := congrFun (Rel_eq h (show i < nc by omega)) 7
    rw [S_X7_nearest_4, R_isCell h, mb2, hx, okI_nI (show i < nc by omega) (by omega), bo_t, if_neg (by decide), if_pos (okI_nI (show i < 10 by omega) (by decide)), nIk (show i < 10 by omega) (by decide), fd, e7]
    by_cases q : c 1 i 7 = -1
    · rw [if_pos q, if_pos q]
      exact R_nd h i n _ (by rw [Int32.sub_eq_add_neg]) (by omega) (by omega)
    · rw [if_neg q, if_neg q]
      unfold S_X7_nearest_29
      rw [R_isCell h, mb2, okI_nI (show i < nc by omega) (by omega), bo_t, if_neg (by decide)]
      rfl
  | 0, 0, _, _, _, h => absurd h (Nat.lt_irrefl 0)
  | m + 1, 0, _, _, _, h => absurd h (by omega)
theorem R_nu (h : Rel nc nl nr nt c r) : ∀ (m k n : Nat) (x : Int32), x = nI k → k + m = nc → m < n → S_X7_nearest_4 n r 1 x = some (ki (fup (fun j => c 1 j 7) m k), r)
  | 0, k, n + 1, x, hx, hi, _ => by
    have hf : okI (nI k) nc = false := by
      have hb := h.1
      rw [Bool.eq_false_iff]
      intro q
      rw [okI_iff, nI_toInt (by omega)] at q
      omega
    rw [S_X7_nearest_4, R_isCell h, mb2, hx, hf, bo_f, if_pos rfl]
    unfold S_X7_nearest_29
    rw [R_isCell h, mb2, hf, bo_f, if_pos rfl]
    rfl
  | m + 1, k, n + 1, x, hx, hi, hn => by
    have hb := h.1
    have e7 : r 37 0 k = c 1 k 7 := congrFun (Rel_eq h (show k < nc by omega)) 7
    rw [S_X7_nearest_4, R_isCell h, mb2, hx, okI_nI (show k < nc by omega) (by omega), bo_t, if_neg (by decide), if_pos (okI_nI (show k < 10 by omega) (by decide)), nIk (show k < 10 by omega) (by decide), fup, e7]
    by_cases q : c 1 k 7 = -1
    · rw [if_pos q, if_pos q, nI_1]
      exact R_nu h m (k + 1) n _ rfl (by omega) (by omega)
    · rw [if_neg q, if_neg q]
      unfold S_X7_nearest_29
      rw [R_isCell h, mb2, okI_nI (show k < nc by omega) (by omega), bo_t, if_neg (by decide)]
      rfl
  | 0, _, 0, _, _, _, h => absurd h (Nat.lt_irrefl 0)
  | m + 1, _, 0, _, _, _, h => absurd h (by omega)
theorem ki_sm {j : Nat} (hj : j < 10) : ¬ ki (some j) = -1 := fun q => by
  have : (ki (some j)).toInt = j := nI_toInt (by omega)
  rw [q] at this
  have e : (-1 : Int32).toInt = -1 := rfl
  omega
/-- what both sides find below and above -/
theorem nears (h : Rel nc nl nr nt c r) {i : Nat} (hi : i < nc) : ∃ A B : Option Nat, S_X6_nearestKnown c (nI i) (-1) = some (kv (fun j => c 1 j 7) A, c) ∧ S_X6_nearestKnown c (nI i) 1 = some (kv (fun j => c 1 j 7) B, c) ∧ S_X7_nearest r (nI i) (-1) = some (ki A, r) ∧ S_X7_nearest r (nI i) 1 = some (ki B, r) ∧ (∀ j, A = some j → j < nc ∧ 0 ≤ (c 1 j 7).toInt) ∧ (∀ j, B = some j → j < nc ∧ 0 ≤ (c 1 j 7).toInt) := by
  have hb := h.1
  have kn : ∀ j, j < nc → c 1 j 7 ≠ -1 → 0 ≤ (c 1 j 7).toInt := by
    intro j hj hne
    have o := (Rel_ok h hj).2.2.2.1
    have : (c 1 j 7).toInt ≠ -1 := fun q => hne (by rw [fa_eq, q]; rfl)
    omega
  refine ⟨fd (fun j => c 1 j 7) i, fup (fun j => c 1 j 7) (nc - i - 1) (i + 1), ?_, ?_, ?_, ?_, fun j hj => ?_, fun j hj => ?_⟩
  · exact C_nd h i 0 FU _ 0 (by rw [Int32.sub_eq_add_neg]) rfl (by omega) (by omega) (FU_gt (by omega))
  · exact C_nu h (nc - i - 1) (i + 1) 0 FU _ 0 (nI_1 i) rfl (by omega) (by omega) (FU_gt (by omega))
  · exact R_nd h i FU _ (by rw [Int32.sub_eq_add_neg]) (by omega) (FU_gt (by omega))
  · exact R_nu h (nc - i - 1) (i + 1) FU _ (nI_1 i) (by omega) (FU_gt (by omega))
  · have := fd_sp hj
    exact ⟨by omega, kn j (by omega) this.2⟩
  · have := fup_sp hj
    exact ⟨by omega, kn j (by omega) this.2⟩
theorem Rel_least (h : Rel nc nl nr nt c r) {i : Nat} (hi : i < nc) : ∃ w, S_X6_leastOf c (nI i) = some (w, c) ∧ S_X7_least r (nI i) = some (w, r) := by
  have hb := h.1
  have ho : okI (nI i) 10 = true := okI_nI (by omega) (by decide)
  have e0 : r 30 0 i = c 1 i 0 := congrFun (Rel_eq h hi) 0
  have e7 : ∀ j, j < nc → r 37 0 j = c 1 j 7 := fun j hj => congrFun (Rel_eq h hj) 7
  obtain ⟨A, B, n1, n2, n3, n4, hA, hB⟩ := nears h hi
  have t1 : (-1 : Int32).toInt = -1 := rfl
  have nm : ∀ v : Int32, 0 ≤ v.toInt → ¬ v = -1 := fun v hv q => by rw [q, t1] at hv; omega
  unfold S_X6_leastOf S_X7_least
  rw [if_pos ho, if_pos ho, nIk (show i < 10 by omega) (by decide), e0, e7 i hi]
  by_cases h4 : c 1 i 0 = 4
  · rw [if_pos h4, if_pos h4]
    exact ⟨_, rfl, rfl⟩
  rw [if_neg h4, if_neg h4]
  by_cases h7 : c 1 i 7 = -1
  · rw [if_pos h7, if_pos h7, n1, mb2, n2, mb2, n3, mb2, n4, mb2]
    cases A with
    | none =>
      cases B with
      | none => exact ⟨0, by simp [kv], by simp [ki, S_X7_least_86]⟩
      | some b =>
        obtain ⟨b1, b2⟩ := hB b rfl
        have kb := ki_sm (show b < 10 by omega)
        rw [show kv (fun j => c 1 j 7) (some b) = c 1 b 7 from rfl, show kv (fun j => c 1 j 7) none = -1 from rfl, show ki none = -1 from rfl]
        unfold S_X6_leastOf_60 S_X6_leastOf_71 S_X7_least_86
        rw [if_pos rfl, if_neg (nm _ b2), if_pos rfl, if_pos rfl, if_neg kb]
        rw [show ki (some b) = nI b from rfl, if_pos (okI_nI (show b < 10 by omega) (by decide)), nIk (show b < 10 by omega) (by decide), e7 b b1, if_pos (show (-1 : Int32) < c 1 b 7 by rw [fa_lt, t1]; omega)]
        exact ⟨_, rfl, by simp⟩
    | some a =>
      obtain ⟨a1, a2⟩ := hA a rfl
      have ka := ki_sm (show a < 10 by omega)
      have oa := okI_nI (show a < 10 by omega) (by decide)
      cases B with
      | none =>
        rw [show kv (fun j => c 1 j 7) (some a) = c 1 a 7 from rfl, show kv (fun j => c 1 j 7) none = -1 from rfl, show ki none = -1 from rfl]
        unfold S_X6_leastOf_60 S_X6_leastOf_71 S_X7_least_86
        rw [if_neg (nm _ a2), if_neg (nm _ a2), if_pos rfl, if_neg (show ¬ c 1 a 7 < -1 by rw [fa_lt, t1]; omega), if_neg ka, if_pos rfl, if_neg ka]
        rw [show ki (some a) = nI a from rfl, if_pos oa, nIk (show a < 10 by omega) (by decide), e7 a a1]
        exact ⟨_, rfl, rfl⟩
      | some b =>
        obtain ⟨b1, b2⟩ := hB b rfl
        have kb := ki_sm (show b < 10 by omega)
        have ob := okI_nI (show b < 10 by omega) (by decide)
        rw [show kv (fun j => c 1 j 7) (some a) = c 1 a 7 from rfl, show kv (fun j => c 1 j 7) (some b) = c 1 b 7 from rfl]
        unfold S_X6_leastOf_60
        rw [if_neg (nm _ a2), if_neg (nm _ a2), if_neg (nm _ b2), if_neg ka, if_neg kb]
        rw [show ki (some a) = nI a from rfl, show ki (some b) = nI b from rfl, if_pos oa, if_pos ob, nIk (show a < 10 by omega) (by decide), nIk (show b < 10 by omega) (by decide), e7 a a1, e7 b b1]
        refine ⟨_, rfl, ?_⟩
        by_cases q1 : c 1 b 7 < c 1 a 7
        · rw [if_pos (Int32.le_of_lt q1), if_pos q1]
        · rw [if_neg q1]
          by_cases q2 : c 1 b 7 ≤ c 1 a 7
          · rw [if_pos q2]
            have : c 1 b 7 = c 1 a 7 := by
              rw [fa_lt] at q1
              rw [fa_le] at q2
              rw [fa_eq]
              omega
            rw [this]
          · rw [if_neg q2]
  · rw [if_neg h7, if_neg h7]
    exact ⟨_, rfl, rfl⟩
theorem Rel_most (h : Rel nc nl nr nt c r) {i : Nat} (hi : i < nc) : ∃ w, S_X6_mostOf c (nI i) = some (w, c) ∧ S_X7_most r (nI i) = some (w, r) := by
  have hb := h.1
  have ho : okI (nI i) 10 = true := okI_nI (by omega) (by decide)
  have e0 : r 30 0 i = c 1 i 0 := congrFun (Rel_eq h hi) 0
  have e7 : ∀ j, j < nc → r 37 0 j = c 1 j 7 := fun j hj => congrFun (Rel_eq h hj) 7
  obtain ⟨A, B, n1, n2, n3, n4, hA, hB⟩ := nears h hi
  have t1 : (-1 : Int32).toInt = -1 := rfl
  have nm : ∀ v : Int32, 0 ≤ v.toInt → ¬ v = -1 := fun v hv q => by rw [q, t1] at hv; omega
  unfold S_X6_mostOf S_X7_most
  rw [if_pos ho, if_pos ho, nIk (show i < 10 by omega) (by decide), e0, e7 i hi]
  by_cases h4 : c 1 i 0 = 4
  · rw [if_pos h4, if_pos h4]
    exact ⟨_, rfl, rfl⟩
  rw [if_neg h4, if_neg h4]
  by_cases h7 : c 1 i 7 = -1
  · rw [if_pos h7, if_pos h7, n1, mb2, n2, mb2, n3, mb2, n4, mb2]
    cases A with
    | none =>
      cases B with
      | none => exact ⟨3000, by simp [kv], by simp [ki, S_X7_most_86]⟩
      | some b =>
        obtain ⟨b1, b2⟩ := hB b rfl
        have kb := ki_sm (show b < 10 by omega)
        rw [show kv (fun j => c 1 j 7) (some b) = c 1 b 7 from rfl, show kv (fun j => c 1 j 7) none = -1 from rfl, show ki none = -1 from rfl]
        unfold S_X6_mostOf_62 S_X7_most_86
        rw [if_pos rfl, if_neg (nm _ b2), if_pos rfl, if_pos rfl, if_neg kb]
        rw [show ki (some b) = nI b from rfl, if_pos (okI_nI (show b < 10 by omega) (by decide)), nIk (show b < 10 by omega) (by decide), e7 b b1, if_pos (show (-1 : Int32) < c 1 b 7 by rw [fa_lt, t1]; omega)]
        exact ⟨_, rfl, rfl⟩
    | some a =>
      obtain ⟨a1, a2⟩ := hA a rfl
      have ka := ki_sm (show a < 10 by omega)
      have oa := okI_nI (show a < 10 by omega) (by decide)
      cases B with
      | none =>
        rw [show kv (fun j => c 1 j 7) (some a) = c 1 a 7 from rfl, show kv (fun j => c 1 j 7) none = -1 from rfl, show ki none = -1 from rfl]
        unfold S_X6_mostOf_62 S_X7_most_86
        rw [if_neg (nm _ a2), if_neg (show ¬ c 1 a 7 < -1 by rw [fa_lt, t1]; omega), if_neg ka, if_pos rfl, if_neg ka]
        rw [show ki (some a) = nI a from rfl, if_pos oa, nIk (show a < 10 by omega) (by decide), e7 a a1]
        exact ⟨_, rfl, rfl⟩
      | some b =>
        obtain ⟨b1, b2⟩ := hB b rfl
        have kb := ki_sm (show b < 10 by omega)
        have ob := okI_nI (show b < 10 by omega) (by decide)
        rw [show kv (fun j => c 1 j 7) (some a) = c 1 a 7 from rfl, show kv (fun j => c 1 j 7) (some b) = c 1 b 7 from rfl]
        unfold S_X6_mostOf_62
        rw [if_neg (nm _ a2), if_neg ka, if_neg kb]
        rw [show ki (some a) = nI a from rfl, show ki (some b) = nI b from rfl, if_pos oa, if_pos ob, nIk (show a < 10 by omega) (by decide), nIk (show b < 10 by omega) (by decide), e7 a a1, e7 b b1]
        refine ⟨_, rfl, ?_⟩
        by_cases q1 : c 1 a 7 < c 1 b 7
        · rw [if_pos (Int32.le_of_lt q1), if_pos q1]
        · rw [if_neg q1]
          by_cases q2 : c 1 a 7 ≤ c 1 b 7
          · rw [if_pos q2]
            have : c 1 b 7 = c 1 a 7 := by
              rw [fa_lt] at q1
              rw [fa_le] at q2
              rw [fa_eq]
              omega
            rw [this]
          · rw [if_neg q2]
  · rw [if_neg h7, if_neg h7]
    exact ⟨_, rfl, rfl⟩
end LK
theorem sim_look (x w : Int32) : SimI (fun c => S_X6_look c x w) (fun r => S_X7_look r x w) := by
  intro c r hE
  obtain ⟨nc, nl, nr, nt, h⟩ := id hE
  have hb := h.1
  show ∃ q c' r', S_X6_look c x w = some (q, c') ∧ S_X7_look r x w = some (q, r') ∧ RelE c' r'
  unfold S_X6_look S_X7_look
  rw [C_isCell h, R_isCell h, mb2, mb2]
  cases hx : okI x nc
  · rw [bo_f, if_pos rfl, if_pos rfl, C_ref3, R_ref3, mb2, mb2]
    exact ⟨_, _, _, rfl, rfl, Rel_refs hE (by decide)⟩
  · obtain ⟨i, hi, hi10, rfl, ho, hcl⟩ := okc hx hb.2.1 (by decide)
    have e := Rel_eq h hi
    have e0 : r 30 0 i = c 1 i 0 := congrFun e 0
    have e1 : r 31 0 i = c 1 i 1 := congrFun e 1
    have e2 : r 32 0 i = c 1 i 2 := congrFun e 2
    have e3 : r 33 0 i = c 1 i 3 := congrFun e 3
    have e4 : r 34 0 i = c 1 i 4 := congrFun e 4
    have e5 : r 35 0 i = c 1 i 5 := congrFun e 5
    have e6 : r 36 0 i = c 1 i 6 := congrFun e 6
    obtain ⟨a, a1, a2⟩ := Rel_least h hi
    obtain ⟨b, b1, b2⟩ := Rel_most h hi
    rw [bo_t, if_neg (show ¬ (1 : Int32) = 0 by decide), if_neg (show ¬ (1 : Int32) = 0 by decide), if_pos ho, hcl, a1, a2, b1, b2, C_loadsOn h, R_loadsOn h, mb2, mb2, mb2, mb2, mb2, mb2, e0, e1, e2, e3, e4, e5, e6]
    simp only [ho, if_true]
    by_cases w0 : w = 0
    · simp only [w0, if_true]; exact ⟨_, _, _, rfl, rfl, hE⟩
    by_cases w1 : w = 1
    · simp only [w1, if_true]; exact ⟨_, _, _, rfl, rfl, hE⟩
    by_cases w2 : w = 2
    · simp only [w2, if_true]; exact ⟨_, _, _, rfl, rfl, hE⟩
    by_cases w3 : w = 3
    · simp only [w3, if_true]; exact ⟨_, _, _, rfl, rfl, hE⟩
    by_cases w4 : w = 4
    · simp only [w4, if_true]; exact ⟨_, _, _, rfl, rfl, hE⟩
    by_cases w5 : w = 5
    · simp only [w5, if_true]; exact ⟨_, _, _, rfl, rfl, hE⟩
    by_cases w6 : w = 6
    · subst w6
      by_cases h3 : c 1 i 0 = 3
      · rw [h3]; exact ⟨_, _, _, rfl, rfl, hE⟩
      · simp only [h3, if_false]; exact ⟨_, _, _, rfl, rfl, hE⟩
    by_cases w7 : w = 7
    · simp only [w7, if_true]; exact ⟨_, _, _, rfl, rfl, hE⟩
    by_cases w8 : w = 8
    · simp only [w8, if_true]; exact ⟨_, _, _, rfl, rfl, hE⟩
    by_cases w9 : w = 9
    · simp only [w9, if_true]; exact ⟨_, _, _, rfl, rfl, hE⟩
    simp only [w0, w1, w2, w3, w4, w5, w6, w7, w8, w9, if_false, C_ref7, R_ref7, mb2]
    exact ⟨_, _, _, rfl, rfl, Rel_refs hE (by decide)⟩
