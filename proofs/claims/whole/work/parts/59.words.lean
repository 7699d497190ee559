/-! rule: the text is read alike -/
def HT (T : Nat → Int32) (nt : Nat) : Prop := nt ≤ 80 ∧ (∀ t, t < nt → 0 ≤ (T t).toInt ∧ (T t).toInt < 256) ∧ ∀ t, nt ≤ t → T t = -1
def HC (T : Nat → Int32) (nt : Nat) (c : F3) (p : Nat) : Prop := c 5 0 1 = nI nt ∧ c 4 0 1 = nI p ∧ p ≤ nt ∧ ∀ t, t < nt → c 15 0 t = T t
def HR (T : Nat → Int32) (nt : Nat) (r : F3) (p : Nat) (b : Bool) : Prop := r 20 0 27 = nI nt ∧ r 20 0 28 = nI p ∧ r 20 0 29 = bo b ∧ ∀ t, t < nt → r 26 0 t = T t
def F4 (c' c : F3) : Prop := ∀ g, g ≠ 4 → c' g = c g
def F20 (r' r : F3) : Prop := (∀ g, g ≠ 20 → r' g = r g) ∧ ∀ k, k ≠ 28 → k ≠ 29 → k ≠ 30 → r' 20 0 k = r 20 0 k
theorem F4.tr {a b d : F3} (x : F4 a b) (y : F4 b d) : F4 a d := fun g hg => (x g hg).trans (y g hg)
theorem F20.tr {a b d : F3} (x : F20 a b) (y : F20 b d) : F20 a d := ⟨fun g hg => (x.1 g hg).trans (y.1 g hg), fun k h1 h2 h3 => (x.2 k h1 h2 h3).trans (y.2 k h1 h2 h3)⟩
theorem F4_rf (c : F3) : F4 c c := fun _ _ => rfl
theorem F20_rf (c : F3) : F20 c c := ⟨fun _ _ => rfl, fun _ _ _ _ => rfl⟩
theorem F4_up (c : F3) (k : Nat) (x : Int32) : F4 (up c 4 0 k x) c := fun g hg => up_reg hg
theorem F20_up (r : F3) {k : Nat} (hk : k = 28 ∨ k = 29 ∨ k = 30) (x : Int32) : F20 (up r 20 0 k x) r := ⟨fun g hg => up_reg hg, fun j h1 h2 h3 => by
  simp only [up]
  rw [if_neg (by omega)]⟩
section PA
variable {T : Nat → Int32} {nt p : Nat} {c r : F3} {b : Bool}
theorem HT.m1 (h : HT T nt) (hp : p ≤ nt) (ht : T p ≠ -1) : p < nt := by
  rcases Nat.lt_or_ge p nt with z | z
  · exact z
  · exact absurd (h.2.2 p z) ht
theorem HT.in (h : HT T nt) (p : Nat) : -1 ≤ (T p).toInt ∧ (T p).toInt < 256 := by
  by_cases q : p < nt
  · have := h.2.1 p q
    omega
  · rw [h.2.2 p (by omega)]
    decide
theorem C_at (hT : HT T nt) (h : HC T nt c p) : S_X4_at c (c 4 0 1) = some (T p, c) := by
  obtain ⟨h1, h2, h3, h4⟩ := h
  have hn := hT.1
  unfold S_X4_at
  rw [h1, h2, if_neg (nI_pos (by omega))]
  by_cases q : p < nt
  · rw [if_neg (nle_of q (by omega)), if_pos (okI_nI (show p < 80 by omega) (by decide)), nIk (show p < 80 by omega) (by decide), h4 p q]
  · rw [if_pos ((nI_leI (by omega) (by omega)).mpr (by omega)), hT.2.2 p (by omega)]
theorem R_here (hT : HT T nt) (h : HR T nt r p b) (hp : p ≤ nt) : S_X7_here r = some (T p, r) := by
  obtain ⟨h1, h2, h3, h4⟩ := h
  have hn := hT.1
  unfold S_X7_here
  rw [h1, h2]
  by_cases q : p < nt
  · rw [if_neg (nle_of q (by omega)), if_pos (okI_nI (show p < 80 by omega) (by decide)), nIk (show p < 80 by omega) (by decide), h4 p q]
  · rw [if_pos ((nI_leI (by omega) (by omega)).mpr (by omega)), hT.2.2 p (by omega)]
theorem HC_fr {c' : F3} (h : HC T nt c p) (hf : F4 c' c) {p' : Nat} (hp : c' 4 0 1 = nI p') (hn : p' ≤ nt) : HC T nt c' p' := ⟨by rw [hf 5 (by decide)]; exact h.1, hp, hn, fun t ht => by rw [hf 15 (by decide)]; exact h.2.2.2 t ht⟩
theorem HC_s (h : HC T nt c p) (hp : p < nt) : HC T nt (up c 4 0 1 (nI (p + 1))) (p + 1) := HC_fr h (F4_up c 1 _) (by simp [up]) (by omega)
theorem HR_fr {r' : F3} (h : HR T nt r p b) (hf : F20 r' r) {p' : Nat} {b' : Bool} (hp : r' 20 0 28 = nI p') (hb : r' 20 0 29 = bo b') : HR T nt r' p' b' := ⟨by rw [hf.2 27 (by decide) (by decide) (by decide)]; exact h.1, hp, hb, fun t ht => by rw [hf.1 26 (by decide)]; exact h.2.2.2 t ht⟩
theorem HR_s (h : HR T nt r p b) : HR T nt (up r 20 0 28 (nI (p + 1))) (p + 1) b := HR_fr h (F20_up r (Or.inl rfl) _) (by simp [up]) (by rw [← h.2.2.1]; simp [up])
theorem HR_b (h : HR T nt r p b) : HR T nt (up r 20 0 29 1) p true := HR_fr h (F20_up r (Or.inr (Or.inl rfl)) _) (by rw [← h.2.1]; simp [up]) (by simp [up, bo])
/-- one sign read -/
def et (T : Nat → Int32) (x : Int32) (s : Nat × Bool) : Nat × Bool := if s.2 = true then s else if T s.1 = x then (s.1 + 1, false) else (s.1, true)
theorem et_t {T : Nat → Int32} {x : Int32} {p : Nat} (h : T p = x) : et T x (p, false) = (p + 1, false) := by
  unfold et
  rw [if_neg (show ¬ (p, false).2 = true from Bool.false_ne_true), if_pos h]
theorem et_f {T : Nat → Int32} {x : Int32} {p : Nat} (h : ¬ T p = x) : et T x (p, false) = (p, true) := by
  unfold et
  rw [if_neg (show ¬ (p, false).2 = true from Bool.false_ne_true), if_neg h]
theorem et_b {T : Nat → Int32} {x : Int32} {p : Nat} : et T x (p, true) = (p, true) := rfl
def ets (T : Nat → Int32) : List Int32 → Nat × Bool → Nat × Bool
  | [], s => s
  | x :: L, s => ets T L (et T x s)
theorem ets_bad (T : Nat → Int32) (p : Nat) : ∀ L, ets T L (p, true) = (p, true)
  | [] => rfl
  | x :: L => by
    rw [ets]
    have : et T x (p, true) = (p, true) := rfl
    rw [this]
    exact ets_bad T p L
theorem R_eats (hT : HT T nt) (h : HR T nt r p b) (hp : p ≤ nt) {x : Int32} (hx : x ≠ -1) : ∃ r', S_X7_eats r x = some r' ∧ F20 r' r ∧ HR T nt r' (et T x (p, b)).1 (et T x (p, b)).2 ∧ (et T x (p, b)).1 ≤ nt := by
  unfold S_X7_eats S_X7_eats_28
  rw [h.2.2.1, R_here hT h hp, mb2]
  cases b
  · rw [bo_f, if_pos rfl]
    by_cases q : T p = x
    · rw [if_pos q, et_t q, mlt, h.2.1, nI_1]
      exact ⟨_, rfl, F20_up r (Or.inl rfl) _, HR_s h, hT.m1 hp (by rw [q]; exact hx)⟩
    · rw [if_neg q, et_f q, mlt]
      exact ⟨_, rfl, F20_up r (Or.inr (Or.inl rfl)) _, HR_b h, hp⟩
  · rw [bo_t, if_neg (show ¬ (1 : Int32) = 0 by decide), et_b, mlt]
    exact ⟨_, rfl, F20_up r (Or.inr (Or.inl rfl)) _, HR_b h, hp⟩
def eatsL : List Int32 → F3 → Option F3
  | [], r => some r
  | x :: L, r => Option.bind (S_X7_eats r x) (eatsL L)
theorem R_eatsL (hT : HT T nt) : ∀ (L : List Int32), (∀ x, x ∈ L → x ≠ -1) → ∀ (r : F3) (p : Nat) (b : Bool), HR T nt r p b → p ≤ nt → ∃ r', eatsL L r = some r' ∧ F20 r' r ∧ HR T nt r' (ets T L (p, b)).1 (ets T L (p, b)).2 ∧ (ets T L (p, b)).1 ≤ nt
  | [], _, r, p, b, h, hp => ⟨r, rfl, F20_rf r, h, hp⟩
  | x :: L, hL, r, p, b, h, hp => by
    obtain ⟨r1, a1, a2, a3, a4⟩ := R_eats hT h hp (hL x (List.mem_cons_self ..))
    obtain ⟨r2, b1, b2, b3, b4⟩ := R_eatsL hT L (fun y hy => hL y (List.mem_cons_of_mem _ hy)) r1 _ _ a3 a4
    refine ⟨r2, ?_, b2.tr a2, b3, b4⟩
    rw [eatsL, a1]
    exact b1
theorem drop_cons {L : List Int32} {x : Nat} {w : Int32} {W : List Int32} (h : w :: W = L.drop x) : L.getD x 0 = w ∧ W = L.drop (x + 1) ∧ x < L.length := by
  induction L generalizing x with
  | nil => simp at h
  | cons a L ih =>
    cases x with
    | zero =>
      simp at h
      obtain ⟨rfl, rfl⟩ := h
      simp
    | succ x =>
      simp only [List.drop_succ_cons] at h
      obtain ⟨h1, h2, h3⟩ := ih h
      refine ⟨?_, ?_, by simp; omega⟩
      · simpa using h1
      · simpa using h2
theorem C_word2 (hT : HT T nt) {j : Nat} (hj : mm_sl.getD j 0 = (mm_sb.getD j []).length) (hl : (mm_sb.getD j []).length < 100) (hne : ∀ x, x ∈ mm_sb.getD j [] → x ≠ -1) : ∀ (W : List Int32) (x n : Nat) (c : F3) (p : Nat) (z : Int32), z = nI x → W = (mm_sb.getD j []).drop x → x + W.length = (mm_sb.getD j []).length → W.length < n → (∀ y, y ∈ W → y ≠ -1) → HC T nt c p → ∃ c', S_X3_takeWord_2 n c j z = some (bo (!(ets T W (p, false)).2), c') ∧ F4 c' c ∧ HC T nt c' (ets T W (p, false)).1
  | [], x, n + 1, c, p, z, hz, hW, hx, _, _, h => by
    rw [hz, S_X3_takeWord_2]
    unfold slenI
    rw [hj, if_pos (by rw [show (mm_sb.getD j []).length = x by simpa using hx.symm]; exact Int32.le_refl _)]
    exact ⟨c, rfl, F4_rf c, h⟩
  | w :: W, x, n + 1, c, p, z, hz, hW, hx, hn, hy, h => by
    obtain ⟨d1, d2, d3⟩ := drop_cons hW
    have hw : w ≠ -1 := hy w (List.mem_cons_self ..)
    rw [hz, S_X3_takeWord_2]
    unfold slenI scharI
    rw [hj, if_neg (nle_of d3 (by omega)), C_at hT h, mb2, if_pos (okI_nI d3 (by omega)), nI_clamp (show x < 2 ^ 31 by omega), d1, ets]
    by_cases q : T p = w
    · have hp := hT.m1 h.2.2.1 (by rw [q]; exact hw)
      rw [if_pos q, et_t q, mlt, h.2.1, nI_1, nI_1]
      obtain ⟨c', a1, a2, a3⟩ := C_word2 hT hj hl hne W (x + 1) n _ (p + 1) _ rfl d2 (by rw [List.length_cons] at hx; omega) (by rw [List.length_cons] at hn; omega) (fun y hyW => hy y (List.mem_cons_of_mem _ hyW)) (HC_s h hp)
      exact ⟨c', a1, a2.tr (F4_up c 1 _), a3⟩
    · rw [if_neg q, et_f q, ets_bad]
      exact ⟨c, rfl, F4_rf c, h⟩
  | [], _, 0, _, _, _, _, _, _, hn, _, _ => absurd hn (by simp)
  | _ :: _, _, 0, _, _, _, _, _, _, hn, _, _ => absurd hn (by simp)
theorem wl_ok : ∀ j, j < 11 → mm_sl.getD j 0 = (mm_sb.getD j []).length ∧ (mm_sb.getD j []).length < 100 ∧ ∀ x, x ∈ mm_sb.getD j [] → x ≠ -1 := by decide +kernel
theorem C_word (hT : HT T nt) {j : Nat} (hj : j < 11) (h : HC T nt c p) : ∃ c', S_X3_takeWord c j = some (bo (!(ets T (mm_sb.getD j []) (p, false)).2), c') ∧ F4 c' c ∧ HC T nt c' (ets T (mm_sb.getD j []) (p, false)).1 := by
  obtain ⟨h1, h2, h3⟩ := wl_ok j hj
  exact C_word2 hT h1 h2 h3 (mm_sb.getD j []) 0 FU c p 0 rfl rfl (by omega) (FU_gt (by omega)) h3 h
theorem C_sign (hT : HT T nt) (h : HC T nt c p) {x : Int32} (hx : x ≠ -1) : ∃ c', S_X3_takeSign c x = some (bo (!(et T x (p, false)).2), c') ∧ F4 c' c ∧ HC T nt c' (et T x (p, false)).1 := by
  unfold S_X3_takeSign
  rw [C_at hT h, mb2]
  by_cases q : T p = x
  · rw [if_pos q, et_t q, mlt, h.2.1, nI_1]
    exact ⟨_, rfl, F4_up c 1 _, HC_s h (hT.m1 h.2.2.1 (by rw [q]; exact hx))⟩
  · rw [if_neg q, et_f q]
    exact ⟨_, rfl, F4_rf c, h⟩
theorem C_end (hT : HT T nt) (h : HC T nt c p) : S_X3_isAtEnd c = some (bo (decide (nt ≤ p)), c) := by
  have hn := hT.1
  have hp := h.2.2.1
  unfold S_X3_isAtEnd
  rw [h.1, h.2.1]
  by_cases q : nt ≤ p
  · rw [if_neg (nI_nlt q (by omega)), decide_eq_true q]
    rfl
  · rw [if_pos ((nI_ltI (by omega) (by omega)).mpr (by omega)), decide_eq_false q]
    rfl
/-- a word of the class beside a chain of the reference -/
theorem sim_word (hT : HT T nt) (hc : HC T nt c p) (hr : HR T nt r p false) {j : Nat} (hj : j < 11) : ∃ ok p' c' r', S_X3_takeWord c j = some (bo ok, c') ∧ eatsL (mm_sb.getD j []) r = some r' ∧ F4 c' c ∧ F20 r' r ∧ HC T nt c' p' ∧ HR T nt r' p' (!ok) := by
  obtain ⟨c', a1, a2, a3⟩ := C_word hT hj hc
  obtain ⟨r', b1, b2, b3, b4⟩ := R_eatsL hT (mm_sb.getD j []) (wl_ok j hj).2.2 r p false hr hc.2.2.1
  refine ⟨!(ets T (mm_sb.getD j []) (p, false)).2, _, c', r', a1, b1, a2, b2, a3, ?_⟩
  rw [Bool.not_not]
  exact b3
theorem sim_key (hT : HT T nt) (hc : HC T nt c p) (hr : HR T nt r p false) : ∃ (ok : Bool) (p' : Nat) (k k' : Int32) (c' r' : F3), S_X3_takeKey c = some (k, c') ∧ S_X7_key r = some (k', r') ∧ (ok = true → k = k' ∧ k ≠ -1) ∧ (ok = false → k = -1) ∧ F4 c' c ∧ F20 r' r ∧ HC T nt c' p' ∧ HR T nt r' p' (!ok) := by
  have e0 : eatsL (mm_sb.getD 0 []) = fun r => Option.bind (S_X7_eats3 r 116 104 105) fun f8 => Option.bind (S_X7_eats f8 99) fun f9 => Option.bind (S_X7_eats f9 107) fun f10 => some f10 := by
    funext r
    simp only [show mm_sb.getD 0 [] = [116, 104, 105, 99, 107] from rfl, eatsL, S_X7_eats3, Option.bind_assoc, Option.bind_some]
  have e1 : eatsL (mm_sb.getD 1 []) = fun r => S_X7_eats3 r 103 97 112 := by
    funext r
    simp only [show mm_sb.getD 1 [] = [103, 97, 112] from rfl, eatsL, S_X7_eats3, Option.bind_assoc, Option.bind_some]
  have e2 : eatsL (mm_sb.getD 2 []) = fun r => Option.bind (S_X7_eats3 r 115 116 111) fun f8 => Option.bind (S_X7_eats f8 112) fun f10 => some f10 := by
    funext r
    simp only [show mm_sb.getD 2 [] = [115, 116, 111, 112] from rfl, eatsL, S_X7_eats3, Option.bind_assoc, Option.bind_some]
  have fin : ∀ (j : Nat) (k : Int32), j < 11 → k ≠ -1 → ∃ (ok : Bool) (p' : Nat) (k1 : Int32) (c' r' : F3), (mm_b2 (S_X3_takeWord c j) fun a f => if a = 0 then some ((-1 : Int32), f) else some (k, f)) = some (k1, c') ∧ eatsL (mm_sb.getD j []) r = some r' ∧ (ok = true → k1 = k ∧ k1 ≠ -1) ∧ (ok = false → k1 = -1) ∧ F4 c' c ∧ F20 r' r ∧ HC T nt c' p' ∧ HR T nt r' p' (!ok) := by
    intro j k hj hk
    obtain ⟨ok, p', c', r', a1, a2, a3, a4, a5, a6⟩ := sim_word hT hc hr hj
    rw [a1, mb2]
    cases ok
    · exact ⟨false, p', -1, c', r', rfl, a2, fun q => (by cases q), fun _ => rfl, a3, a4, a5, a6⟩
    · exact ⟨true, p', k, c', r', rfl, a2, fun _ => ⟨rfl, hk⟩, fun q => (by cases q), a3, a4, a5, a6⟩
  unfold S_X3_takeKey S_X7_key
  rw [C_at hT hc, mb2, R_here hT hr hc.2.2.1, mb2]
  by_cases q1 : T p = 103
  · rw [if_pos q1, if_neg (by rw [q1]; decide), if_pos q1]
    obtain ⟨ok, p', k1, c', r', a1, a2, a3⟩ := fin 1 1 (by decide) (by decide)
    rw [e1] at a2
    refine ⟨ok, p', k1, 1, c', r', a1, ?_, a3⟩
    rw [show S_X7_eats3 r 103 97 112 = some r' from a2, mob]
  rw [if_neg q1, if_neg q1]
  by_cases q2 : T p = 115
  · rw [if_pos q2, if_neg (by rw [q2]; decide)]
    obtain ⟨ok, p', k1, c', r', a1, a2, a3⟩ := fin 2 2 (by decide) (by decide)
    rw [e2] at a2
    refine ⟨ok, p', k1, 2, c', r', a1, ?_, a3⟩
    have a2 : (Option.bind (S_X7_eats3 r 115 116 111) fun f8 => Option.bind (S_X7_eats f8 112) fun f10 => some f10) = some r' := a2
    rw [show (Option.bind (S_X7_eats3 r 115 116 111) fun f5 => Option.bind (S_X7_eats f5 112) fun f6 => some ((2 : Int32), f6)) = Option.bind (Option.bind (S_X7_eats3 r 115 116 111) fun f8 => Option.bind (S_X7_eats f8 112) fun f10 => some f10) fun f => some ((2 : Int32), f) by simp only [Option.bind_assoc, Option.bind_some], a2, mob]
  rw [if_neg q2]
  by_cases q3 : T p = 116
  · rw [if_pos q3, if_pos q3]
    obtain ⟨ok, p', k1, c', r', a1, a2, a3⟩ := fin 0 0 (by decide) (by decide)
    rw [e0] at a2
    refine ⟨ok, p', k1, 0, c', r', a1, ?_, a3⟩
    have a2 : (Option.bind (S_X7_eats3 r 116 104 105) fun f8 => Option.bind (S_X7_eats f8 99) fun f9 => Option.bind (S_X7_eats f9 107) fun f10 => some f10) = some r' := a2
    rw [show (Option.bind (S_X7_eats3 r 116 104 105) fun f8 => Option.bind (S_X7_eats f8 99) fun f9 => Option.bind (S_X7_eats f9 107) fun f10 => some ((0 : Int32), f10)) = Option.bind (Option.bind (S_X7_eats3 r 116 104 105) fun f8 => Option.bind (S_X7_eats f8 99) fun f9 => Option.bind (S_X7_eats f9 107) fun f10 => some f10) fun f => some ((0 : Int32), f) by simp only [Option.bind_assoc, Option.bind_some], a2, mob]
  · rw [if_neg q3, if_neg q3]
    obtain ⟨r', b1, b2, b3, b4⟩ := R_eatsL hT (mm_sb.getD 2 []) (wl_ok 2 (by decide)).2.2 r p false hr hc.2.2.1
    have eb : ets T (mm_sb.getD 2 []) (p, false) = (p, true) := by
      rw [show mm_sb.getD 2 [] = [115, 116, 111, 112] from rfl, ets, et_f q2]
      exact ets_bad T p _
    rw [eb] at b3
    rw [e2] at b1
    have b1 : (Option.bind (S_X7_eats3 r 115 116 111) fun f8 => Option.bind (S_X7_eats f8 112) fun f10 => some f10) = some r' := b1
    refine ⟨false, p, -1, 2, c, r', rfl, ?_, fun q => (by cases q), fun _ => rfl, F4_rf c, b2, hc, b3⟩
    rw [show (Option.bind (S_X7_eats3 r 115 116 111) fun f5 => Option.bind (S_X7_eats f5 112) fun f6 => some ((2 : Int32), f6)) = Option.bind (Option.bind (S_X7_eats3 r 115 116 111) fun f8 => Option.bind (S_X7_eats f8 112) fun f10 => some f10) fun f => some ((2 : Int32), f) by simp only [Option.bind_assoc, Option.bind_some], b1, mob]
/-- a chain, then an answer -/
theorem eats_t (L : List Int32) (k : Int32) (r : F3) {r' : F3} (h : eatsL L r = some r') : (Option.bind (eatsL L r) fun f => some (k, f)) = some (k, r') := by rw [h]; rfl
theorem sim_field (hT : HT T nt) (hc : HC T nt c p) (hr : HR T nt r p false) : ∃ (ok : Bool) (p' : Nat) (k k' : Int32) (c' r' : F3), S_X3_takeField c = some (k, c') ∧ S_X7_fieldRead r = some (k', r') ∧ (ok = true → k = k' ∧ 0 ≤ k.toInt ∧ k.toInt ≤ 4) ∧ (ok = false → k = -1) ∧ F4 c' c ∧ F20 r' r ∧ HC T nt c' p' ∧ HR T nt r' p' (!ok) := by
  have e6 : ∀ k : Int32, (Option.bind (S_X7_eats3 r 119 101 105) fun f14 => Option.bind (S_X7_eats3 f14 103 104 116) fun f15 => some (k, f15)) = Option.bind (eatsL (mm_sb.getD 6 []) r) fun f => some (k, f) := by
    intro k
    simp only [show mm_sb.getD 6 [] = [119, 101, 105, 103, 104, 116] from rfl, eatsL, S_X7_eats3, Option.bind_assoc, Option.bind_some]
  have e4 : ∀ (a b d e k : Int32), (Option.bind (S_X7_eats3 r a b d) fun f5 => Option.bind (S_X7_eats f5 e) fun f6 => some (k, f6)) = Option.bind (eatsL [a, b, d, e] r) fun f => some (k, f) := by
    intro a b d e k
    simp only [eatsL, S_X7_eats3, Option.bind_assoc, Option.bind_some]
  have fin : ∀ (j : Nat) (k : Int32), j < 11 → (0 ≤ k.toInt ∧ k.toInt ≤ 4) → ∃ (ok : Bool) (p' : Nat) (k1 : Int32) (c' r' : F3), (mm_b2 (S_X3_takeWord c j) fun a f => if a = 0 then some ((-1 : Int32), f) else some (k, f)) = some (k1, c') ∧ eatsL (mm_sb.getD j []) r = some r' ∧ (ok = true → k1 = k ∧ 0 ≤ k1.toInt ∧ k1.toInt ≤ 4) ∧ (ok = false → k1 = -1) ∧ F4 c' c ∧ F20 r' r ∧ HC T nt c' p' ∧ HR T nt r' p' (!ok) := by
    intro j k hj hk
    obtain ⟨ok, p', c', r', a1, a2, a3, a4, a5, a6⟩ := sim_word hT hc hr hj
    rw [a1, mb2]
    cases ok
    · exact ⟨false, p', -1, c', r', rfl, a2, fun q => (by cases q), fun _ => rfl, a3, a4, a5, a6⟩
    · exact ⟨true, p', k, c', r', rfl, a2, fun _ => ⟨rfl, hk⟩, fun q => (by cases q), a3, a4, a5, a6⟩
  unfold S_X3_takeField S_X7_fieldRead
  rw [C_at hT hc, mb2, R_here hT hr hc.2.2.1, mb2, e6, e4, e4, e4, e4]
  by_cases q1 : T p = 99
  · rw [if_pos q1, if_pos q1]
    obtain ⟨ok, p', k1, c', r', a1, a2, a3⟩ := fin 8 2 (by decide) (by decide)
    exact ⟨ok, p', k1, 2, c', r', a1, eats_t _ _ _ a2, a3⟩
  rw [if_neg q1, if_neg q1]
  by_cases q2 : T p = 104
  · rw [if_pos q2, if_pos q2]
    obtain ⟨ok, p', k1, c', r', a1, a2, a3⟩ := fin 9 3 (by decide) (by decide)
    exact ⟨ok, p', k1, 3, c', r', a1, eats_t _ _ _ a2, a3⟩
  rw [if_neg q2, if_neg q2]
  by_cases q3 : T p = 114
  · rw [if_pos q3, if_pos q3]
    obtain ⟨ok, p', k1, c', r', a1, a2, a3⟩ := fin 7 1 (by decide) (by decide)
    exact ⟨ok, p', k1, 1, c', r', a1, eats_t _ _ _ a2, a3⟩
  rw [if_neg q3, if_neg q3]
  by_cases q4 : T p = 115
  · rw [if_pos q4, if_neg (by rw [q4]; decide)]
    obtain ⟨ok, p', k1, c', r', a1, a2, a3⟩ := fin 10 4 (by decide) (by decide)
    exact ⟨ok, p', k1, 4, c', r', a1, eats_t _ _ _ a2, a3⟩
  rw [if_neg q4]
  by_cases q5 : T p = 119
  · rw [if_pos q5, if_pos q5]
    obtain ⟨ok, p', k1, c', r', a1, a2, a3⟩ := fin 6 0 (by decide) (by decide)
    exact ⟨ok, p', k1, 0, c', r', a1, eats_t _ _ _ a2, a3⟩
  · rw [if_neg q5, if_neg q5]
    obtain ⟨r', b1, b2, b3, b4⟩ := R_eatsL hT (mm_sb.getD 10 []) (wl_ok 10 (by decide)).2.2 r p false hr hc.2.2.1
    have eb : ets T (mm_sb.getD 10 []) (p, false) = (p, true) := by
      rw [show mm_sb.getD 10 [] = [115, 110, 111, 119] from rfl, ets, et_f q4]
      exact ets_bad T p _
    rw [eb] at b3
    exact ⟨false, p, -1, 4, c, r', rfl, eats_t _ _ _ b1, fun q => (by cases q), fun _ => rfl, F4_rf c, b2, hc, b3⟩
end PA
