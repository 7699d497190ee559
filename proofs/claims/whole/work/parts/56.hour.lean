/-! an hour; run -/
theorem pigeon : ∀ (n : Nat) (f : Nat → Nat), (∀ k, k < n → f k < n) → (∀ j k, j < k → k < n → f j ≠ f k) → ∀ l, l < n → ∃ k, k < n ∧ f k = l
  | 0, _, _, _, l, h => absurd h (Nat.not_lt_zero l)
  | n + 1, f, h1, h2, l, hl => by
    have ih := pigeon n (fun k => if f k = n then f n else f k) (fun k hk => by
      show (if f k = n then f n else f k) < n
      have a := h1 k (by omega)
      have b := h2 k n hk (by omega)
      have d := h1 n (by omega)
      split
      · rename_i q
        omega
      · omega) (fun j k hjk hk => by
      show (if f j = n then f n else f j) ≠ (if f k = n then f n else f k)
      have a := h2 j k hjk (by omega)
      have b := h2 j n (by omega) (by omega)
      have d := h2 k n (by omega) (by omega)
      split <;> split <;> omega)
    have d := h1 n (by omega)
    by_cases e : f n = l
    · exact ⟨n, by omega, e⟩
    · by_cases e2 : l = n
      · obtain ⟨k, hk, q⟩ := ih (f n) (by omega)
        have b := h2 k n hk (by omega)
        have q : (if f k = n then f n else f k) = f n := q
        by_cases z : f k = n
        · exact ⟨k, by omega, by omega⟩
        · rw [if_neg z] at q
          exact absurd q b
      · obtain ⟨k, hk, q⟩ := ih l (by omega)
        have q : (if f k = n then f n else f k) = l := q
        by_cases z : f k = n
        · rw [if_pos z] at q
          exact absurd q e
        · rw [if_neg z] at q
          exact ⟨k, by omega, q⟩
/-- the load at a place of the order -/
def pb (c : F3) (k : Nat) : Nat := (c 9 0 k).toNatClampNeg
def PP (r : F3) (s : Int32) (l : Nat) : Prop := r 24 0 l = 0 ∧ r 43 0 l = s
def bet (r : F3) (a b : Nat) : Prop := (r 41 0 b).toInt < (r 41 0 a).toInt ∨ ((r 41 0 b).toInt = (r 41 0 a).toInt ∧ a < b)
def nxi (r : F3) (s : Int32) (t : Nat) : Option Nat → Prop
  | none => ∀ l, l < t → ¬ PP r s l
  | some a => a < t ∧ PP r s a ∧ ∀ l, l < t → PP r s l → l ≠ a → bet r a l
theorem ki_sm' {j : Nat} (hj : j < 24) : ¬ ki (some j) = -1 := fun q => by
  have : (ki (some j)).toInt = j := nI_toInt (by omega)
  rw [q] at this
  have e : (-1 : Int32).toInt = -1 := rfl
  omega
theorem R_next4 {r : F3} {nl : Nat} (hn : nl ≤ 24) (h13 : r 20 0 13 = nI nl) (s : Int32) : ∀ (m t n : Nat) (o : Option Nat) (y z : Int32), z = nI t → y = ki o → t + m = nl → m < n → nxi r s t o → ∃ o', S_X7_next_4 n r s y z = some (ki o', r) ∧ nxi r s nl o'
  | 0, t, n + 1, o, y, z, hz, hy, hm, _, hi => by
    rw [hz, hy, S_X7_next_4, h13, if_pos (by rw [show t = nl by omega]; exact Int32.le_refl _)]
    exact ⟨o, rfl, by rw [← show t = nl by omega]; exact hi⟩
  | m + 1, t, n + 1, o, y, z, hz, hy, hm, hn2, hi => by
    have ht : t < nl := by omega
    have ot := okI_nI (show t < 24 by omega) (by decide)
    rw [hz, hy, S_X7_next_4, h13, if_neg (nle_of ht (by omega)), if_pos ot, nIk (show t < 24 by omega) (by decide)]
    unfold S_X7_next_51 S_X7_next_53
    rw [nI_1]
    have keep : (¬ PP r s t ∨ ∃ a, o = some a ∧ bet r a t) → nxi r s (t + 1) o := by
      intro q
      cases o with
      | none =>
        intro l hl
        by_cases e : l = t
        · subst e
          rcases q with q | ⟨a, q, -⟩
          · exact q
          · cases q
        · exact hi l (by omega)
      | some a =>
        refine ⟨by have := hi.1; omega, hi.2.1, fun l hl hp hne => ?_⟩
        by_cases e : l = t
        · subst e
          rcases q with q | ⟨a', q, q2⟩
          · exact absurd hp q
          · cases q
            exact q2
        · exact hi.2.2 l (by omega) hp hne
    by_cases f0 : r 24 0 t = 0
    · rw [if_pos f0]
      by_cases f1 : r 43 0 t = s
      · rw [if_pos f1]
        cases o with
        | none =>
          rw [show ki none = -1 from rfl, if_pos rfl]
          refine R_next4 hn h13 s m (t + 1) n (some t) _ _ rfl rfl (by omega) (by omega) ⟨by omega, ⟨f0, f1⟩, fun l hl hp hne => ?_⟩
          exact absurd hp (hi l (by omega))
        | some a =>
          have ha : a < t := hi.1
          rw [if_neg (ki_sm' (show a < 24 by omega)), show ki (some a) = nI a from rfl, if_pos (okI_nI (show a < 24 by omega) (by decide)), nIk (show a < 24 by omega) (by decide)]
          by_cases q : r 41 0 t ≤ r 41 0 a
          · rw [if_pos q]
            refine R_next4 hn h13 s m (t + 1) n (some a) _ _ rfl rfl (by omega) (by omega) (keep (Or.inr ⟨a, rfl, ?_⟩))
            rw [fa_le] at q
            unfold bet
            omega
          · rw [if_neg q]
            rw [fa_le] at q
            refine R_next4 hn h13 s m (t + 1) n (some t) _ _ rfl rfl (by omega) (by omega) ⟨by omega, ⟨f0, f1⟩, fun l hl hp hne => ?_⟩
            unfold bet
            by_cases e : l = a
            · subst e
              omega
            · have := hi.2.2 l (by omega) hp e
              unfold bet at this
              omega
      · rw [if_neg f1]
        exact R_next4 hn h13 s m (t + 1) n o _ _ rfl rfl (by omega) (by omega) (keep (Or.inl (fun q => f1 q.2)))
    · rw [if_neg f0]
      exact R_next4 hn h13 s m (t + 1) n o _ _ rfl rfl (by omega) (by omega) (keep (Or.inl (fun q => f0 q.1)))
  | 0, _, 0, _, _, _, _, _, _, h, _ => absurd h (Nat.lt_irrefl 0)
  | m + 1, _, 0, _, _, _, _, _, _, h, _ => absurd h (by omega)
section HO
variable {nc nl nr nt : Nat} {c r : F3}
theorem pb_lt (h : Rel nc nl nr nt c r) {k : Nat} (hk : k < nl) : pb c k < nl ∧ c 9 0 k = nI (pb c k) := by
  have hb := h.1
  obtain ⟨l, hl, e⟩ := h.2.2.2.2.1.1 k hk
  unfold pb
  rw [e, nI_clamp (by omega)]
  exact ⟨hl, rfl⟩
theorem pb_srt (h : Rel nc nl nr nt c r) {j k : Nat} (hjk : j < k) (hk : k < nl) : bet r (pb c j) (pb c k) := by
  have q := h.2.2.2.2.1.2 j k hjk hk
  have ej := (rl_at h (pb_lt h (show j < nl by omega)).1).2.1
  have ek := (rl_at h (pb_lt h hk).1).2.1
  unfold bet
  rw [ej, ek]
  rcases q with q | q
  · exact Or.inl q
  · refine Or.inr ⟨?_, q.2⟩
    have := q.1
    show (c 2 (c 9 0 k).toNatClampNeg 1).toInt = (c 2 (c 9 0 j).toNatClampNeg 1).toInt
    rw [this]
theorem pb_ne (h : Rel nc nl nr nt c r) {j k : Nat} (hjk : j < k) (hk : k < nl) : pb c j ≠ pb c k := by
  intro q
  have := pb_srt h hjk hk
  rw [q] at this
  unfold bet at this
  omega
theorem pb_sur (h : Rel nc nl nr nt c r) {l : Nat} (hl : l < nl) : ∃ k, k < nl ∧ pb c k = l := pigeon nl (pb c) (fun k hk => (pb_lt h hk).1) (fun j k a b => pb_ne h a b) l hl
theorem next_none (h : Rel nc nl nr nt c r) {s : Int32} (hp : ∀ j, j < nl → ¬ PP r s (pb c j)) : S_X7_next r s = some (-1, r) := by
  have hb := h.1
  obtain ⟨o, h1, h2⟩ := R_next4 hb.2.2.1 h.2.1.2.2.2.1 s nl 0 FU none (-1) 0 rfl rfl (by omega) (FU_gt (by omega)) (fun l hl => absurd hl (Nat.not_lt_zero l))
  unfold S_X7_next
  rw [h1]
  cases o with
  | none => rfl
  | some a =>
    obtain ⟨k, hk, e⟩ := pb_sur h h2.1
    have := hp k hk
    rw [e] at this
    exact absurd h2.2.1 this
theorem next_some (h : Rel nc nl nr nt c r) {s : Int32} {k : Nat} (hk : k < nl) (hP : PP r s (pb c k)) (hp : ∀ j, j < k → ¬ PP r s (pb c j)) : S_X7_next r s = some (nI (pb c k), r) := by
  have hb := h.1
  obtain ⟨o, h1, h2⟩ := R_next4 hb.2.2.1 h.2.1.2.2.2.1 s nl 0 FU none (-1) 0 rfl rfl (by omega) (FU_gt (by omega)) (fun l hl => absurd hl (Nat.not_lt_zero l))
  unfold S_X7_next
  rw [h1]
  cases o with
  | none => exact absurd hP (h2 _ (pb_lt h hk).1)
  | some a =>
    obtain ⟨a1, a2, a3⟩ := h2
    obtain ⟨j, hj, e⟩ := pb_sur h a1
    by_cases q : j = k
    · subst q
      rw [e]
      rfl
    · have hjk : k < j := by
        rcases Nat.lt_trichotomy j k with z | z | z
        · have := hp j z
          rw [e] at this
          exact absurd a2 this
        · exact absurd z q
        · exact z
      have b1 := pb_srt h hjk hj
      rw [e] at b1
      have b2 := a3 (pb c k) (pb_lt h hk).1 hP (fun z => pb_ne h hjk hj (z.trans e.symm))
      unfold bet at b1 b2
      omega
theorem Rel_r24 {r' : F3} (h : Rel nc nl nr nt c r) (hr : ∀ g, g ≠ 24 → r' g = r g) : Rel nc nl nr nt c r' := by
  unfold Rel at h ⊢
  rw [hr 20 (by decide), hr 21 (by decide), hr 22 (by decide), hr 23 (by decide), hr 26 (by decide), hr 27 (by decide), rs_congr (r := r) (r' := r') (fun k h1 h2 => hr k (by omega)), rl_congr (r := r) (r' := r') (fun k h1 h2 => hr k (by omega))]
  exact h
theorem Rel_hr (h : Rel nc nl nr nt c r) (x : Int32) : Rel nc nl nr nt (up c 0 0 15 x) (up r 20 0 1 x) := by
  have hc : ∀ g, g ≠ 0 → up c 0 0 15 x g = c g := fun g hg => up_reg hg
  have hr : ∀ g, g ≠ 20 → up r 20 0 1 x g = r g := fun g hg => up_reg hg
  have c0 : ∀ k, k ≠ 15 → up c 0 0 15 x 0 0 k = c 0 0 k := fun k hk => by simp [up, hk]
  have r0 : ∀ k, k ≠ 1 → up r 20 0 1 x 20 0 k = r 20 0 k := fun k hk => by simp [up, hk]
  unfold Rel at h ⊢
  rw [hc 1 (by decide), hc 2 (by decide), hc 3 (by decide), hc 5 (by decide), hc 9 (by decide), hc 11 (by decide), hc 12 (by decide), hc 14 (by decide), hc 15 (by decide), hc 16 (by decide), hc 17 (by decide), hc 18 (by decide), hr 21 (by decide), hr 22 (by decide), hr 23 (by decide), hr 26 (by decide), hr 27 (by decide), rs_congr (r := r) (fun k h1 h2 => hr k (by omega)), rl_congr (r := r) (fun k h1 h2 => hr k (by omega)), r0 24 (by decide), c0 11 (by decide)]
  obtain ⟨g0, ⟨s1, s2, s3, s4, s5, s6, s7, s8, s9, s10, s11⟩, g2⟩ := h
  refine ⟨g0, ?_, g2⟩
  unfold RSc
  rw [c0 12 (by decide), c0 13 (by decide), c0 14 (by decide), c0 11 (by decide), r0 2 (by decide), r0 13 (by decide), r0 21 (by decide), r0 27 (by decide), r0 31 (by decide)]
  exact ⟨s1, s2, s3, s4, s5, s6, s7, s8, by simp [up], s10, s11⟩
end HO
theorem sim_weather_loop {x : Int32} (hx : -600 ≤ x.toInt ∧ x.toInt ≤ 300) : ∀ (m k n n2 : Nat) (nc nl nr nt : Nat) (c r : F3) (z : Int32), z = nI k → Rel nc nl nr nt c r → k + m = nc → m < n → m < n2 → ∃ c' r', S_X6_weatherCells_14 n c x z = some c' ∧ S_X7_goesBy_11 n2 r x z = S_X7_goesBy_33 FU r' 0 ∧ Rel nc nl nr nt c' r' ∧ c' 0 = c 0
  | 0, k, n + 1, n2 + 1, nc, nl, nr, nt, c, r, z, hz, h, hk, _, _ => by
    rw [hz, S_X6_weatherCells_14, S_X7_goesBy_11, h.2.1.1, h.2.1.2.1, if_pos (by rw [show k = nc by omega]; exact Int32.le_refl _), if_pos (by rw [show k = nc by omega]; exact Int32.le_refl _)]
    exact ⟨_, _, rfl, rfl, h, rfl⟩
  | m + 1, k, n + 1, n2 + 1, nc, nl, nr, nt, c, r, z, hz, h, hk, hn, hn2 => by
    have hb := h.1
    have hkc : k < nc := by omega
    have hk10 : k < 10 := by omega
    have ho : okI (nI k) 10 = true := okI_nI hk10 (by decide)
    have hng : ¬ nI nc ≤ nI k := nle_of hkc (by omega)
    have hok := Rel_ok h hkc
    have e := Rel_eq h hkc
    obtain ⟨c1, g1, g2⟩ := C_pass c k (okQ_of hok) hx
    obtain ⟨r1, g3, g4⟩ := R_grow r hk10 (by rw [e]; exact hok) hx
    rw [e] at g4
    have h1 := Rel_cell h hkc g2 g4 (okCe_pas hok hx)
    rw [hz, S_X6_weatherCells_14, S_X7_goesBy_11, h.2.1.1, h.2.1.2.1, if_neg hng, if_neg hng, if_pos ho, nIk hk10 (by decide), g1, g3, mob, mob, nI_1]
    obtain ⟨c', r', a1, a2, a3, a4⟩ := sim_weather_loop hx m (k + 1) n n2 nc nl nr nt c1 r1 _ rfl h1 (by omega) (by omega) (by omega)
    exact ⟨c', r', a1, a2, a3, a4.trans (g2.2.2 0 (by decide))⟩
  | 0, _, 0, _, _, _, _, _, _, _, _, _, _, _, h, _ => absurd h (Nat.lt_irrefl 0)
  | m + 1, _, 0, _, _, _, _, _, _, _, _, _, _, _, h, _ => absurd h (by omega)
  | 0, _, _ + 1, 0, _, _, _, _, _, _, _, _, _, _, _, h => absurd h (Nat.lt_irrefl 0)
  | m + 1, _, _ + 1, 0, _, _, _, _, _, _, _, _, _, _, _, h => absurd h (by omega)
theorem sim_age_loop : ∀ (m k n n2 : Nat) (nc nl nr nt : Nat) (c r : F3) (z : Int32), z = nI k → Rel nc nl nr nt c r → k + m = nl → m < n → m < n2 → ∃ c' r', S_X6_agePlaces_2 n c z = some c' ∧ S_X7_goesBy_33 n2 r z = (mm_b2 (S_X7_next r' 1) fun r7 f6 => S_X7_goesBy_84 FU f6 r7) ∧ Rel nc nl nr nt c' r' ∧ c' 0 = c 0 ∧ (∀ l, k ≤ l → l < nl → r' 24 0 l = 0) ∧ ∀ l, l < k → r' 24 0 l = r 24 0 l
  | 0, k, n + 1, n2 + 1, nc, nl, nr, nt, c, r, z, hz, h, hk, _, _ => by
    rw [hz, S_X6_agePlaces_2, S_X7_goesBy_33, h.2.1.2.2.1, h.2.1.2.2.2.1, if_pos (by rw [show k = nl by omega]; exact Int32.le_refl _), if_pos (by rw [show k = nl by omega]; exact Int32.le_refl _)]
    exact ⟨_, _, rfl, rfl, h, rfl, fun l a b => absurd a (by omega), fun _ _ => rfl⟩
  | m + 1, k, n + 1, n2 + 1, nc, nl, nr, nt, c, r, z, hz, h, hk, hn, hn2 => by
    have hb := h.1
    have hl : k < nl := by omega
    have hk24 : k < 24 := by omega
    have ho : okI (nI k) 24 = true := okI_nI hk24 (by decide)
    have hng : ¬ nI nl ≤ nI k := nle_of hl (by omega)
    obtain ⟨e0, e1, e2, e3, e4, e5, e6, e7⟩ := rl_at h hl
    have fin : ∀ (c1 : F3) (y : Int32), Rel nc nl nr nt c1 (up r 45 0 k y) → c1 0 = c 0 → ∃ c' r', S_X6_agePlaces_2 n c1 (nI (k + 1)) = some c' ∧ S_X7_goesBy_33 n2 (up (up r 45 0 k y) 24 0 k 0) (nI (k + 1)) = (mm_b2 (S_X7_next r' 1) fun r7 f6 => S_X7_goesBy_84 FU f6 r7) ∧ Rel nc nl nr nt c' r' ∧ c' 0 = c 0 ∧ (∀ l, k ≤ l → l < nl → r' 24 0 l = 0) ∧ ∀ l, l < k → r' 24 0 l = r 24 0 l := by
      intro c1 y h1 hc0
      obtain ⟨c', r', a1, a2, a3, a4, a5, a6⟩ := sim_age_loop m (k + 1) n n2 nc nl nr nt c1 (up (up r 45 0 k y) 24 0 k 0) _ rfl (Rel_r24 h1 (fun g hg => up_reg hg)) (by omega) (by omega) (by omega)
      refine ⟨c', r', a1, a2, a3, a4.trans hc0, fun l b1 b2 => ?_, fun l b1 => ?_⟩
      · by_cases q : l = k
        · subst q
          rw [a6 l (by omega)]
          simp [up]
        · exact a5 l (by omega) b2
      · rw [a6 l (by omega), show up (up r 45 0 k y) 24 0 k 0 24 0 l = up r 45 0 k y 24 0 l by simp only [up]; rw [if_neg (by omega)], up_reg (by decide)]
    rw [hz, S_X6_agePlaces_2, S_X7_goesBy_33, h.2.1.2.2.1, h.2.1.2.2.2.1, if_neg hng, if_neg hng, if_pos ho, if_pos ho, nIk hk24 (by decide), e3]
    unfold S_X6_agePlaces_38 S_X7_goesBy_63
    simp only [ho, if_true, nIk hk24 (show 24 < 2 ^ 31 by decide), mlt, nI_1]
    by_cases q : c 2 k 3 = 1
    · rw [if_pos q, if_pos q]
      rw [e3, if_pos q] at e5
      rw [e5]
      refine fin _ _ ?_ (up_reg (by decide))
      refine Rel_load (v := upd (c 2 k) 5 (c 2 k 5 + 1)) h hl (up_self _ _ _ _ _) (fun j hj => up_other _ _ _ _ _ (fun z => hj z.2)) (fun g hg => up_reg hg) ?_ (fun j hj => rl_oth _ hj) (fun g hg _ => up_reg (by omega)) (fun k _ => by rw [up_reg (by decide)]) ?_ (by simp [upd]) ?_
      · rw [e3, if_pos q] at e4
        funext i
        match i with
        | 0 => simp [rl, up, upd, e0]
        | 1 => simp [rl, up, upd, e1]
        | 2 => simp [rl, up, upd, e2]
        | 3 => simp [rl, up, upd, e3]
        | 4 => simp [rl, up, upd, e3, q, e4]
        | 5 => simp [rl, up, upd, e3, q]
        | 6 => simp [rl, up, upd, e6]
        | i + 7 => simp [rl, upd, e7 (i + 7) (by omega)]
      · rw [up_reg (by decide), h.2.2.2.1.2]
        refine tsum_congr nl (fun j hj => ?_)
        by_cases w : j = k
        · subst w
          rw [up_self]
          simp [upd]
        · rw [up_other _ _ _ _ _ (fun z => w z.2)]
      · have o := Rel_lok h hl
        unfold okLo at o ⊢
        simp only [upd, if_neg (show ¬ (0 : Nat) = 5 by decide), if_neg (show ¬ (1 : Nat) = 5 by decide), if_neg (show ¬ (2 : Nat) = 5 by decide), if_neg (show ¬ (3 : Nat) = 5 by decide), if_neg (show ¬ (4 : Nat) = 5 by decide)]
        exact o
    · rw [if_neg q, if_neg q]
      refine fin c _ ?_ rfl
      have er : rl (up r 45 0 k (r 45 0 k + 0)) = rl r := by
        funext j i
        by_cases w : j = k
        · subst w
          have n1 : ¬ r 43 0 j = 1 := by rw [e3]; exact q
          match i with
          | 0 => simp [rl, up]
          | 1 => simp [rl, up]
          | 2 => simp [rl, up]
          | 3 => simp [rl, up]
          | 4 => simp [rl, up]
          | 5 => simp [rl, up, n1]
          | 6 => simp [rl, up]
          | i + 7 => simp [rl]
        · rw [rl_oth _ w]
      have hr : ∀ g, g ≠ 45 → up r 45 0 k (r 45 0 k + 0) g = r g := fun g hg => up_reg hg
      unfold Rel at h ⊢
      rw [er, hr 20 (by decide), hr 21 (by decide), hr 22 (by decide), hr 23 (by decide), hr 26 (by decide), hr 27 (by decide), rs_congr (r := r) (fun k h1 h2 => hr k (by omega))]
      exact h
  | 0, _, 0, _, _, _, _, _, _, _, _, _, _, _, h, _ => absurd h (Nat.lt_irrefl 0)
  | m + 1, _, 0, _, _, _, _, _, _, _, _, _, _, _, h, _ => absurd h (by omega)
  | 0, _, _ + 1, 0, _, _, _, _, _, _, _, _, _, _, _, h => absurd h (Nat.lt_irrefl 0)
  | m + 1, _, _ + 1, 0, _, _, _, _, _, _, _, _, _, _, _, h => absurd h (by omega)
