/-! cold, snow, copy -/
theorem sim_cold_loop : ∀ (m k n : Nat) (nc nl nr nt : Nat) (c r : F3) (s z : Int32), z = nI k → Rel nc nl nr nt c r → c 0 0 11 = 1 → k + m = 48 → m < n → ∃ w c' r', S_X6_cold_18 n c s z = some (w, c') ∧ S_X7_cold_18 n r s z = some (w, r') ∧ RelE c' r'
  | 0, k, n + 1, nc, nl, nr, nt, c, r, s, z, hz, h, h1, hk, _ => by
    rw [hz, S_X6_cold_18, S_X7_cold_18, if_pos (by rw [show k = 48 by omega]; decide), if_pos (by rw [show k = 48 by omega]; decide)]
    exact ⟨_, _, _, rfl, rfl, nc, nl, nr, nt, h⟩
  | m + 1, k, n + 1, nc, nl, nr, nt, c, r, s, z, hz, h, h1, hk, hn => by
    have hk48 : k < 48 := by omega
    have hw := h.2.2.2.2.2.2.2.1
    have e : r 27 0 k = c 11 0 k := ((h.2.2.2.2.2.2.2.2.1 k hk48).1 h1).symm
    have ho : okI (nI k) 48 = true := okI_nI hk48 (by decide)
    have hng : ¬ (48 : Int32) ≤ nI k := nle_of (n := 48) hk48 (by decide)
    have fin : ∀ v s' : Int32, (v = -9999 ∨ (-600 ≤ v.toInt ∧ v.toInt ≤ 300)) → ∃ w c' r', S_X6_cold_18 n (up c 14 0 k v) s' (nI (k + 1)) = some (w, c') ∧ S_X7_cold_18 n (up r 22 0 k v) s' (nI (k + 1)) = some (w, r') ∧ RelE c' r' := by
      intro v s' hv
      refine sim_cold_loop m (k + 1) n nc nl nr nt _ _ s' _ rfl (Rel_wea h (fun g hg => up_reg hg) (fun g hg => up_reg hg) (fun t ht => ?_)) (by rw [up_reg (by decide)]; exact h1) (by omega) (by omega)
      by_cases q : t = k
      · subst q
        simp only [up, and_self, if_true]
        exact ⟨trivial, hv⟩
      · simp only [up, q, and_false, if_false]
        exact hw t ht
    rw [hz, S_X6_cold_18, S_X7_cold_18, if_neg hng, if_neg hng, if_pos ho, if_pos ho, nIk hk48 (by decide), C_within, R_in, mb2, mb2, e]
    by_cases q : wi (c 11 0 k) (-600) 300 = 0
    · rw [if_pos q, if_pos q]
      unfold S_X6_cold_64 S_X7_cold_61 S_X6_cold_75 S_X7_cold_72
      rw [if_pos ho, if_pos ho, nIk hk48 (by decide), mlt, mlt, if_pos q, if_pos q, nI_1]
      exact fin _ _ (Or.inl rfl)
    · rw [if_neg q, if_neg q]
      unfold S_X6_cold_64 S_X7_cold_61 S_X6_cold_75 S_X7_cold_72
      rw [if_pos ho, if_pos ho, nIk hk48 (by decide), mlt, mlt, if_neg q, if_neg q, nI_1]
      rw [wi_1] at q
      simp at q
      exact fin _ _ (Or.inr q)
  | 0, _, 0, _, _, _, _, _, _, _, _, _, _, _, _, h => absurd h (Nat.lt_irrefl 0)
  | m + 1, _, 0, _, _, _, _, _, _, _, _, _, _, _, _, h => absurd h (by omega)
theorem sim_cold : SimI (fun c => S_X6_cold c) (fun r => S_X7_cold r) := by
  intro c r hE
  obtain ⟨nc, nl, nr, nt, h⟩ := id hE
  obtain ⟨-, -, -, -, -, -, -, -, -, s10, s11⟩ := h.2.1
  show ∃ w c' r', S_X6_cold c = some (w, c') ∧ S_X7_cold r = some (w, r') ∧ RelE c' r'
  unfold S_X6_cold S_X7_cold
  rw [← s10]
  rcases s11 with s | s
  · rw [if_pos s, if_pos s, C_ref2, R_ref2, mb2, mb2]
    exact ⟨_, _, _, rfl, rfl, Rel_refs hE (by decide)⟩
  · have hn : ¬ c 0 0 11 = 0 := by rw [s]; decide
    rw [if_neg hn, if_neg hn]
    exact sim_cold_loop 48 0 FU nc nl nr nt c r 0 0 rfl h s (by omega) (FU_gt (by omega))
def snw (x y : Int32) : Int32 := if y + x < 200 then y + x else 200
theorem snw_in {x y : Int32} (hx : 1 ≤ x.toInt ∧ x.toInt ≤ 100) (hy : 0 ≤ y.toInt ∧ y.toInt ≤ 200) : (1 ≤ (snw x y).toInt ∧ (snw x y).toInt ≤ 200) ∧ (if y + x ≤ 200 then y + x else 200) = snw x y := by
  have e : (y + x).toInt = y.toInt + x.toInt := by
    rw [Int32.toInt_add, fb_bmod0 (by omega) (by omega)]
  have e2 : (200 : Int32).toInt = 200 := rfl
  unfold snw
  simp only [fa_lt, fa_le, e, e2]
  by_cases h1 : y.toInt + x.toInt < 200
  · rw [if_pos h1, if_pos (by omega), e]
    exact ⟨by omega, rfl⟩
  · rw [if_neg h1]
    by_cases h2 : y.toInt + x.toInt ≤ 200
    · rw [if_pos h2]
      refine ⟨by omega, ?_⟩
      rw [fa_eq, e, e2]
      omega
    · rw [if_neg h2]
      exact ⟨by omega, rfl⟩
def fSno (x : Int32) (v : Nat → Int32) : Nat → Int32 := if v 0 = 4 then v else if v 0 = 1 ∨ v 0 = 2 then fBec 0 (upd v 2 (snw x (v 2))) else upd v 2 (snw x (v 2))
theorem C_takeSnow (c : F3) (i : Nat) {x : Int32} (hx : 1 ≤ x.toInt ∧ x.toInt ≤ 100) (ho : okCe (c 1 i)) : ∃ c', S_X0_takeSnow c i x = some (bo (decide (c 1 i 0 = 1 ∨ c 1 i 0 = 2)), c') ∧ Cupd c c' i (fSno x (c 1 i)) := by
  have hs := (snw_in hx ho.2.2.1).1
  unfold S_X0_takeSnow fSno
  by_cases h4 : c 1 i 0 = 4
  · rw [if_pos h4, if_pos h4]
    refine ⟨c, ?_, Cupd_rf c i⟩
    rw [h4]
    rfl
  · rw [if_neg h4, if_neg h4, show (if c 1 i 2 + x < 200 then c 1 i 2 + x else 200) = snw x (c 1 i 2) from rfl, mlt]
    have u := Cupd_up c i 2 (snw x (c 1 i 2))
    have u2 : up c 1 i 2 (snw x (c 1 i 2)) 1 i 2 = snw x (c 1 i 2) := by simp [up]
    have u0 : up c 1 i 2 (snw x (c 1 i 2)) 1 i 0 = c 1 i 0 := by simp [up]
    have hng : ¬ snw x (c 1 i 2) ≤ 0 := by
      rw [fa_le, show (0 : Int32).toInt = 0 from rfl]
      omega
    rw [u2, if_neg hng]
    rw [u0]
    unfold S_X0_takeSnow_49
    obtain ⟨c1, g1, g2⟩ := C_become (up c 1 i 2 (snw x (c 1 i 2))) i 0
    rw [u.1] at g2
    have gg := u.tr g2
    by_cases h1 : c 1 i 0 = 1
    · rw [if_pos h1, if_pos (Or.inl h1)]
      refine ⟨c1, ?_, gg⟩
      show Option.bind (S_X0_become (up c 1 i 2 (snw x (c 1 i 2))) i 0) _ = _
      rw [g1, mob]
      simp [h1, bo]
    · rw [if_neg h1]
      by_cases h2 : c 1 i 0 = 2
      · rw [if_pos h2, if_pos (Or.inr h2)]
        refine ⟨c1, ?_, gg⟩
        show Option.bind (S_X0_become (up c 1 i 2 (snw x (c 1 i 2))) i 0) _ = _
        rw [g1, mob]
        simp [h2, bo]
      · rw [if_neg h2, if_neg (by simp [h1, h2])]
        refine ⟨_, ?_, u⟩
        simp [h1, h2, bo]
theorem sim_snow_loop {x : Int32} (hx : 1 ≤ x.toInt ∧ x.toInt ≤ 100) : ∀ (m k n : Nat) (nc nl nr nt : Nat) (c r : F3) (s z : Int32), z = nI k → Rel nc nl nr nt c r → k + m = nc → m < n → ∃ w c' r', S_X6_snow_21 n c x s z = some (w, c') ∧ S_X7_snow_21 n r x s z = some (w, r') ∧ RelE c' r'
  | 0, k, n + 1, nc, nl, nr, nt, c, r, s, z, hz, h, hk, _ => by
    rw [hz, S_X6_snow_21, S_X7_snow_21, h.2.1.1, h.2.1.2.1, if_pos (by rw [show k = nc by omega]; exact Int32.le_refl _), if_pos (by rw [show k = nc by omega]; exact Int32.le_refl _)]
    exact ⟨_, _, _, rfl, rfl, nc, nl, nr, nt, h⟩
  | m + 1, k, n + 1, nc, nl, nr, nt, c, r, s, z, hz, h, hk, hn => by
    have hb := h.1
    have hkc : k < nc := by omega
    have hk10 : k < 10 := by omega
    have ho : okI (nI k) 10 = true := okI_nI hk10 (by decide)
    have hng : ¬ nI nc ≤ nI k := nle_of hkc (by omega)
    have hok := Rel_ok h hkc
    have e := Rel_eq h hkc
    have e0 : r 30 0 k = c 1 k 0 := congrFun e 0
    have e2 : r 32 0 k = c 1 k 2 := congrFun e 2
    have hs := snw_in hx hok.2.2.1
    obtain ⟨c1, g1, g2⟩ := C_takeSnow c k hx hok
    rw [hz, S_X6_snow_21, S_X7_snow_21, h.2.1.1, h.2.1.2.1, if_neg hng, if_neg hng, if_pos ho, if_pos ho, nIk hk10 (by decide), g1, mb2, e0, e2]
    have okF : okCe (fSno x (c 1 k)) := by
      unfold fSno
      split
      · exact hok
      · split
        · exact okCe_bec (okCe_2 hok ⟨by omega, hs.1.2⟩) (by decide) (by decide)
        · exact okCe_2 hok ⟨by omega, hs.1.2⟩
    have fin : ∀ (r1 : F3) (s' : Int32), Rupd r r1 k (fSno x (c 1 k)) → ∃ w c' r', S_X6_snow_21 n c1 x s' (nI (k + 1)) = some (w, c') ∧ S_X7_snow_21 n r1 x s' (nI (k + 1)) = some (w, r') ∧ RelE c' r' := fun r1 s' hr => sim_snow_loop hx m (k + 1) n nc nl nr nt c1 r1 s' _ rfl (Rel_cell h hkc g2 hr okF) (by omega) (by omega)
    by_cases h4 : c 1 k 0 = 4
    · rw [if_pos h4]
      have hb0 : bo (decide (c 1 k 0 = 1 ∨ c 1 k 0 = 2)) = 0 := by rw [h4]; rfl
      rw [if_pos hb0]
      unfold S_X6_snow_48 S_X7_snow_102
      rw [nI_1, Int32.add_zero]
      refine fin r s ?_
      have := Rupd_rf r k
      rw [e] at this
      unfold fSno
      rw [if_pos h4]
      exact this
    · rw [if_neg h4]
      have both : (if c 1 k 2 + x ≤ 200 then S_X7_snow_72 (fun f9 x1_ x2_ x3_ => S_X7_snow_21 n f9 x1_ x2_ x3_) r (nI k) (c 1 k 2 + x) x s (nI k) else S_X7_snow_72 (fun f9 x1_ x2_ x3_ => S_X7_snow_21 n f9 x1_ x2_ x3_) r (nI k) 200 x s (nI k)) = S_X7_snow_72 (fun f9 x1_ x2_ x3_ => S_X7_snow_21 n f9 x1_ x2_ x3_) r (nI k) (snw x (c 1 k 2)) x s (nI k) := by
        rw [← hs.2]
        split <;> rfl
      rw [both]
      unfold S_X7_snow_72 S_X7_snow_93 S_X7_snow_102 S_X6_snow_48
      have ru := Rupd_up r k 2 (snw x (c 1 k 2)) (by decide)
      rw [e] at ru
      have u0 : up r 32 0 k (snw x (c 1 k 2)) 30 0 k = c 1 k 0 := by
        rw [up_reg (by decide)]; exact e0
      rw [if_pos ho, nIk hk10 (by decide), mlt, if_pos ho, u0, nI_1]
      obtain ⟨r1, g3, g4⟩ := R_becomes (up r 32 0 k (snw x (c 1 k 2))) hk10 0
      have ru' : Rupd r (up r 32 0 k (snw x (c 1 k 2))) k (upd (c 1 k) 2 (snw x (c 1 k 2))) := ru
      rw [ru'.1] at g4
      by_cases h12 : c 1 k 0 = 1 ∨ c 1 k 0 = 2
      · have hb0 : ¬ bo (decide (c 1 k 0 = 1 ∨ c 1 k 0 = 2)) = 0 := by rw [bo_0, decide_eq_false_iff_not]; exact fun q => q h12
        rw [if_neg hb0]
        have f1 : Rupd r r1 k (fSno x (c 1 k)) := by
          unfold fSno
          rw [if_neg h4, if_pos h12]
          exact ru'.tr g4
        rw [g3, mob]
        rcases h12 with q | q
        · rw [if_pos q]
          exact fin r1 _ f1
        · rw [if_neg (by rw [q]; decide), if_pos q]
          exact fin r1 _ f1
      · have hb0 : bo (decide (c 1 k 0 = 1 ∨ c 1 k 0 = 2)) = 0 := by rw [bo_0]; simpa using h12
        have n1 : ¬ c 1 k 0 = 1 := fun q => h12 (Or.inl q)
        have n2 : ¬ c 1 k 0 = 2 := fun q => h12 (Or.inr q)
        rw [if_pos hb0, if_neg n1, if_neg n2, Int32.add_zero]
        refine fin _ s ?_
        unfold fSno
        rw [if_neg h4, if_neg h12]
        exact ru'
  | 0, _, 0, _, _, _, _, _, _, _, _, _, _, _, h => absurd h (Nat.lt_irrefl 0)
  | m + 1, _, 0, _, _, _, _, _, _, _, _, _, _, _, h => absurd h (by omega)
theorem sim_snow (x : Int32) : SimI (fun c => S_X6_snow c x) (fun r => S_X7_snow r x) := by
  intro c r hE
  obtain ⟨nc, nl, nr, nt, h⟩ := id hE
  have hb := h.1
  show ∃ w c' r', S_X6_snow c x = some (w, c') ∧ S_X7_snow r x = some (w, r') ∧ RelE c' r'
  unfold S_X6_snow S_X7_snow
  rw [C_within, R_in, mb2, mb2]
  by_cases hv : wi x 1 100 = 0
  · rw [if_pos hv, if_pos hv, C_ref7, R_ref7, mb2, mb2]
    exact ⟨_, _, _, rfl, rfl, Rel_refs hE (by decide)⟩
  · rw [if_neg hv, if_neg hv]
    rw [wi_1] at hv
    simp at hv
    exact sim_snow_loop hv nc 0 FU nc nl nr nt c r 0 0 rfl h (by omega) (FU_gt (by omega))
theorem R_copy_71 (a b N : Nat) (hN : a + N ≤ 48) : ∀ (m k n : Nat) (r : F3) (z : Int32), z = nI k → k + m = N → m < n → ∃ r', S_X7_copy_71 n r (nI a) (nI b) (nI N) z = S_X7_copy_102 FU r' (nI b) (nI N) 0 ∧ (∀ g, g ≠ 28 → r' g = r g) ∧ ∀ t, r' 28 0 t = if k ≤ t ∧ t < N then r 27 0 (a + t) else r 28 0 t
  | 0, k, n + 1, r, z, hz, hk, _ => by
    rw [hz, S_X7_copy_71, if_pos (by rw [show k = N by omega]; exact Int32.le_refl _)]
    exact ⟨r, rfl, fun _ _ => rfl, fun t => by rw [if_neg (by omega)]⟩
  | m + 1, k, n + 1, r, z, hz, hk, hn => by
    rw [hz, S_X7_copy_71, if_neg (nle_of (by omega) (by omega)), nI_add, if_pos (okI_nI (show a + k < 48 by omega) (by decide)), if_pos (okI_nI (show k < 48 by omega) (by decide)), nIk (show a + k < 48 by omega) (by decide), nIk (show k < 48 by omega) (by decide), mlt, nI_1]
    obtain ⟨r', h1, h2, h3⟩ := R_copy_71 a b N hN m (k + 1) n (up r 28 0 k (r 27 0 (a + k))) _ rfl (by omega) (by omega)
    refine ⟨r', h1, fun g hg => (h2 g hg).trans (up_reg hg), fun t => ?_⟩
    rw [h3 t, up_reg (by decide)]
    by_cases q : t = k
    · subst q
      rw [if_neg (by omega), if_pos (by omega)]
      simp [up]
    · by_cases q2 : k ≤ t ∧ t < N
      · rw [if_pos (by omega), if_pos q2]
      · rw [if_neg (by omega), if_neg q2]
        simp [up, q]
  | 0, _, 0, _, _, _, _, h => absurd h (Nat.lt_irrefl 0)
  | m + 1, _, 0, _, _, _, _, h => absurd h (by omega)
theorem R_copy_102 (b N : Nat) (hN : b + N ≤ 48) : ∀ (m k n : Nat) (r : F3) (z : Int32), z = nI k → k + m = N → m < n → ∃ r', S_X7_copy_102 n r (nI b) (nI N) z = some (nI N, r') ∧ (∀ g, g ≠ 27 → r' g = r g) ∧ ∀ t, r' 27 0 t = if b + k ≤ t ∧ t < b + N then r 28 0 (t - b) else r 27 0 t
  | 0, k, n + 1, r, z, hz, hk, _ => by
    rw [hz, S_X7_copy_102, if_pos (by rw [show k = N by omega]; exact Int32.le_refl _)]
    exact ⟨r, rfl, fun _ _ => rfl, fun t => by rw [if_neg (by omega)]⟩
  | m + 1, k, n + 1, r, z, hz, hk, hn => by
    rw [hz, S_X7_copy_102, if_neg (nle_of (by omega) (by omega)), if_pos (okI_nI (show k < 48 by omega) (by decide)), nI_add, if_pos (okI_nI (show b + k < 48 by omega) (by decide)), nIk (show b + k < 48 by omega) (by decide), nIk (show k < 48 by omega) (by decide), mlt, nI_1]
    obtain ⟨r', h1, h2, h3⟩ := R_copy_102 b N hN m (k + 1) n (up r 27 0 (b + k) (r 28 0 k)) _ rfl (by omega) (by omega)
    refine ⟨r', h1, fun g hg => (h2 g hg).trans (up_reg hg), fun t => ?_⟩
    rw [h3 t, up_reg (by decide)]
    by_cases q : t = b + k
    · subst q
      rw [if_neg (by omega), if_pos (by omega)]
      simp [up]
    · by_cases q2 : b + k ≤ t ∧ t < b + N
      · rw [if_pos (by omega), if_pos q2]
      · rw [if_neg (by omega), if_neg q2]
        simp [up, q]
  | 0, _, 0, _, _, _, _, h => absurd h (Nat.lt_irrefl 0)
  | m + 1, _, 0, _, _, _, _, h => absurd h (by omega)
theorem Rel_rowB {nc nl nr nt : Nat} {c c' r r' : F3} (h : Rel nc nl nr nt c r) (hc : ∀ g, g ≠ 11 → c' g = c g) (hr : ∀ g, g ≠ 27 → g ≠ 28 → r' g = r g) (hrow : RRo (c 0 0 11) (c' 11 0) (r' 27 0)) : Rel nc nl nr nt c' r' := by
  unfold Rel at h ⊢
  rw [hc 0 (by decide), hc 1 (by decide), hc 2 (by decide), hc 3 (by decide), hc 5 (by decide), hc 9 (by decide), hc 12 (by decide), hc 14 (by decide), hc 15 (by decide), hc 16 (by decide), hc 17 (by decide), hc 18 (by decide), hr 20 (by decide) (by decide), hr 21 (by decide) (by decide), hr 22 (by decide) (by decide), hr 23 (by decide) (by decide), hr 26 (by decide) (by decide), rs_congr (r := r) (r' := r') (fun k h1 h2 => hr k (by omega) (by omega)), rl_congr (r := r) (r' := r') (fun k h1 h2 => hr k (by omega) (by omega))]
  obtain ⟨g0, g1, g2, g3, g4, g5, g6, g7, g8, g9⟩ := h
  exact ⟨g0, g1, g2, g3, g4, g5, g6, g7, hrow, g9⟩
theorem sim_copy (x y z : Int32) : SimI (fun c => S_X6_copy c x y z) (fun r => S_X7_copy r x y z) := by
  intro c r hE
  obtain ⟨nc, nl, nr, nt, h⟩ := id hE
  obtain ⟨-, -, -, -, -, -, -, -, -, s10, s11⟩ := h.2.1
  have hro := h.2.2.2.2.2.2.2.2.1
  show ∃ w c' r', S_X6_copy c x y z = some (w, c') ∧ S_X7_copy r x y z = some (w, r') ∧ RelE c' r'
  unfold S_X6_copy S_X7_copy
  rw [← s10]
  rcases s11 with s | s
  · rw [if_pos s, if_pos s, C_ref2, R_ref2, mb2, mb2]
    exact ⟨_, _, _, rfl, rfl, Rel_refs hE (by decide)⟩
  have hn : ¬ c 0 0 11 = 0 := by rw [s]; decide
  rw [if_neg hn, if_neg hn]
  by_cases hz : ¬ 0 ≤ z
  · rw [if_neg hz, if_neg hz, C_ref4, R_ref4, mb2, mb2]
    exact ⟨_, _, _, rfl, rfl, Rel_refs hE (by decide)⟩
  have hz := Decidable.not_not.mp hz
  rw [if_pos hz, if_pos hz]
  have rf : ∃ w c' r', S_X6_copy_49 c = some (w, c') ∧ S_X7_copy_61 r = some (w, r') ∧ RelE c' r' := by
    unfold S_X6_copy_49 S_X7_copy_61
    rw [C_ref6, R_ref6, mb2, mb2]
    exact ⟨_, _, _, rfl, rfl, Rel_refs hE (by decide)⟩
  by_cases hx : x < 0
  · rw [if_pos hx, if_pos hx]
    exact rf
  rw [if_neg hx, if_neg hx]
  by_cases hy : y < 0
  · rw [if_pos hy, if_pos hy]
    exact rf
  rw [if_neg hy, if_neg hy]
  have t0 : (0 : Int32).toInt = 0 := rfl
  have t48 : (48 : Int32).toInt = 48 := rfl
  rw [fa_le, t0] at hz
  rw [fa_lt, t0] at hx hy
  have bz1 := z.toInt_lt
  have bx1 := x.toInt_lt
  have by1 := y.toInt_lt
  have sz : (48 - z).toInt = 48 - z.toInt := by rw [Int32.toInt_sub, t48, fb_bmod0 (by omega) (by omega)]
  have sx : (48 - x).toInt = 48 - x.toInt := by rw [Int32.toInt_sub, t48, fb_bmod0 (by omega) (by omega)]
  have sy : (48 - y).toInt = 48 - y.toInt := by rw [Int32.toInt_sub, t48, fb_bmod0 (by omega) (by omega)]
  simp only [fa_lt, fa_le, sz, sx, sy, t48]
  by_cases hP : x.toInt + z.toInt ≤ 48 ∧ y.toInt + z.toInt ≤ 48
  · have hokc : okC x y z = true := by
      unfold okC
      simp
      omega
    rw [if_neg (by omega), if_pos (by omega), if_pos hokc, if_neg (by omega), if_neg (by omega), if_neg (by omega), if_pos (by omega), mlt]
    obtain ⟨a, -, rfl, ea⟩ := nI_ofT (x := x) (by omega)
    obtain ⟨b, -, rfl, eb⟩ := nI_ofT (x := y) (by omega)
    obtain ⟨N, -, rfl, eN⟩ := nI_ofT (x := z) (by omega)
    rw [ea, eb, eN] at hP
    obtain ⟨r1, g1, g2, g3⟩ := R_copy_71 a b N (by omega) N 0 FU r 0 rfl (by omega) (FU_gt (by omega))
    obtain ⟨r2, k1, k2, k3⟩ := R_copy_102 b N (by omega) N 0 FU r1 0 rfl (by omega) (FU_gt (by omega))
    rw [g1, k1]
    have hc0 : ∀ g, g ≠ 11 → cpy11 c (nI a) (nI b) (nI N) g = c g := fun g hg => by
      funext i k
      unfold cpy11
      rw [if_neg (fun q => hg q.1)]
    refine ⟨_, _, _, rfl, rfl, nc, nl, nr, nt, ?_⟩
    have hrg : ∀ g, g ≠ 27 → g ≠ 28 → r2 g = r g := fun g q1 q2 => (k2 g q1).trans (g2 g q2)
    have e11 : cpy11 c (nI a) (nI b) (nI N) 0 0 11 = c 0 0 11 := by rw [hc0 0 (by decide)]
    refine Rel_rowB h (fun g hg => hc0 g hg) hrg ?_
    intro t ht
    have hlow : cpy11 c (nI a) (nI b) (nI N) 11 0 t = if b ≤ t ∧ t < b + N then c 11 0 (a + (t - b)) else c 11 0 t := by
      unfold cpy11 va_cpy
      rw [if_pos ⟨rfl, rfl⟩, nI_clamp (by omega), nI_clamp (by omega), nI_clamp (by omega)]
    refine ⟨fun _ => ?_, fun q => absurd (q.symm.trans s) (by decide)⟩
    rw [hlow, k3 t, g2 27 (by decide)]
    by_cases q : b ≤ t ∧ t < b + N
    · rw [if_pos q, if_pos (by omega), g3, if_pos (by omega)]
      exact (hro _ (by omega)).1 s
    · rw [if_neg q, if_neg (by omega)]
      exact (hro t ht).1 s
  · have eC : (if 48 - z.toInt < x.toInt then S_X6_copy_49 c else if y.toInt ≤ 48 - z.toInt then if okC x y z = true then mm_let (cpy11 c x y z) fun f8 => some (z, f8) else none else S_X6_copy_49 c) = S_X6_copy_49 c := by
      by_cases q : 48 - z.toInt < x.toInt
      · rw [if_pos q]
      · rw [if_neg q, if_neg (by omega)]
    have eR : (if 48 < x.toInt then S_X7_copy_61 r else if 48 < y.toInt then S_X7_copy_61 r else if 48 - x.toInt < z.toInt then S_X7_copy_61 r else if z.toInt ≤ 48 - y.toInt then S_X7_copy_71 FU r x y z 0 else S_X7_copy_61 r) = S_X7_copy_61 r := by
      by_cases q : 48 < x.toInt
      · rw [if_pos q]
      · rw [if_neg q]
        by_cases q2 : 48 < y.toInt
        · rw [if_pos q2]
        · rw [if_neg q2]
          by_cases q3 : 48 - x.toInt < z.toInt
          · rw [if_pos q3]
          · rw [if_neg q3, if_neg (by omega)]
    rw [eC, eR]
    exact rf
