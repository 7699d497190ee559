theorem C_tear_16 : ∀ (m k n : Nat) (c : F3) (x : Int32), x = nI k → k + m = 48 → m < n → ∃ c', S_X6_tear_16 n c x = some (1, c') ∧ (∀ g, g ≠ 11 → c' g = c g) ∧ ∀ t, t < 48 → c' 11 0 t = if k ≤ t then 0 else c 11 0 t
  | 0, k, n + 1, c, x, hx, h, _ => by
    rw [hx, S_X6_tear_16, if_pos (by rw [show k = 48 by omega]; decide)]
    exact ⟨c, rfl, fun _ _ => rfl, fun t ht => by rw [if_neg (by omega)]⟩
  | m + 1, k, n + 1, c, x, hx, h, hm => by
    have hk : k < 48 := by omega
    rw [hx, S_X6_tear_16, if_neg (show ¬ (48 : Int32) ≤ nI k from nle_of (n := 48) hk (by decide)), if_pos (okI_nI hk (by decide)), nIk hk (by decide), nI_1, mlt]
    obtain ⟨c', h1, h2, h3⟩ := C_tear_16 m (k + 1) n (up c 11 0 k 0) _ rfl (by omega) (by omega)
    refine ⟨c', h1, fun g hg => (h2 g hg).trans (up_reg hg), fun t ht => ?_⟩
    rw [h3 t ht]
    by_cases q : t = k
    · subst q
      rw [if_neg (by omega), if_pos (Nat.le_refl _)]
      simp [up]
    · by_cases q2 : k ≤ t
      · rw [if_pos (by omega), if_pos q2]
      · rw [if_neg (by omega), if_neg q2]
        simp [up, q]
  | 0, _, 0, _, _, _, _, h => absurd h (Nat.lt_irrefl 0)
  | m + 1, _, 0, _, _, _, _, h => absurd h (by omega)
theorem sim_tear : SimI (fun c => S_X6_tear c) (fun r => S_X7_tear r) := by
  intro c r hE
  obtain ⟨nc, nl, nr, nt, h⟩ := id hE
  obtain ⟨-, -, -, -, -, -, -, -, -, s10, s11⟩ := h.2.1
  have hro := h.2.2.2.2.2.2.2.2.1
  show ∃ w c' r', S_X6_tear c = some (w, c') ∧ S_X7_tear r = some (w, r') ∧ RelE c' r'
  have r0 : ∀ k, k ≠ 31 → up r 20 0 31 0 20 0 k = r 20 0 k := fun k hk => by simp [up, hk]
  have q31 : up r 20 0 31 0 20 0 31 = 0 := by simp [up]
  rcases s11 with s | s
  · refine ⟨0, c, up r 20 0 31 0, ?_, ?_, nc, nl, nr, nt, Rel_row h (fun _ _ => rfl) (fun _ _ _ => rfl) r0 (fun g h1 _ => up_reg h1) (s.trans q31.symm) (Or.inl s) (fun t ht => ?_)⟩
    · unfold S_X6_tear
      rw [if_pos s]
    · unfold S_X7_tear
      rw [mlt, ← s10, if_pos s]
    · rw [s]
      exact ⟨fun q => absurd q (by decide), fun _ => (hro t ht).2 s⟩
  · have hn : ¬ c 0 0 11 = 0 := by rw [s]; decide
    obtain ⟨c', h1, h2, h3⟩ := C_tear_16 48 0 FU (up c 0 0 11 0) 0 rfl (by omega) (FU_gt (by omega))
    have q0 : c' 0 = up c 0 0 11 0 0 := h2 0 (by decide)
    have q11 : c' 0 0 11 = 0 := by rw [q0]; simp [up]
    refine ⟨1, c', up r 20 0 31 0, ?_, ?_, nc, nl, nr, nt, Rel_row h (fun k hk => by rw [q0]; simp [up, hk]) (fun g g1 g2 => (h2 g g2).trans (up_reg g1)) r0 (fun g g1 _ => up_reg g1) (q11.trans q31.symm) (Or.inl q11) (fun t ht => ?_)⟩
    · unfold S_X6_tear
      rw [if_neg hn, mlt]
      exact h1
    · unfold S_X7_tear
      rw [mlt, ← s10, if_neg hn]
    · rw [q11]
      refine ⟨fun q => absurd q (by decide), fun _ => ?_⟩
      rw [h3 t ht, if_pos (Nat.zero_le t)]
theorem R_tell_39 (x v : Int32) : ∀ (m k n : Nat) (r : F3) (z : Int32), z = nI k → k + m = 48 → m < n → r 20 0 31 = 0 → ∃ r', S_X7_tell_39 n r x v z = S_X7_tell_65 r' x v ∧ (∀ g, g ≠ 27 → r' g = r g) ∧ ∀ t, t < 48 → r' 27 0 t = if k ≤ t then 0 else r 27 0 t
  | 0, k, n + 1, r, z, hz, h, _, _ => by
    rw [hz, S_X7_tell_39, if_pos (by rw [show k = 48 by omega]; decide)]
    exact ⟨r, rfl, fun _ _ => rfl, fun t ht => by rw [if_neg (by omega)]⟩
  | m + 1, k, n + 1, r, z, hz, h, hm, h0 => by
    have hk : k < 48 := by omega
    rw [hz, S_X7_tell_39, if_neg (show ¬ (48 : Int32) ≤ nI k from nle_of (n := 48) hk (by decide)), if_pos h0, if_pos (okI_nI hk (by decide)), nIk hk (by decide), nI_1, mlt]
    obtain ⟨r', h1, h2, h3⟩ := R_tell_39 x v m (k + 1) n (up r 27 0 k 0) _ rfl (by omega) (by omega) (by rw [up_reg (by decide)]; exact h0)
    refine ⟨r', h1, fun g hg => (h2 g hg).trans (up_reg hg), fun t ht => ?_⟩
    rw [h3 t ht]
    by_cases q : t = k
    · subst q
      rw [if_neg (by omega), if_pos (Nat.le_refl _)]
      simp [up]
    · by_cases q2 : k ≤ t
      · rw [if_pos (by omega), if_pos q2]
      · rw [if_neg (by omega), if_neg q2]
        simp [up, q]
  | 0, _, 0, _, _, _, _, h, _ => absurd h (Nat.lt_irrefl 0)
  | m + 1, _, 0, _, _, _, _, h, _ => absurd h (by omega)
theorem sim_tell (x v : Int32) : SimI (fun c => S_X6_tell c x v) (fun r => S_X7_tell r x v) := by
  intro c r hE
  obtain ⟨nc, nl, nr, nt, h⟩ := id hE
  obtain ⟨-, -, -, -, -, -, -, -, -, s10, s11⟩ := h.2.1
  have hro := h.2.2.2.2.2.2.2.2.1
  show ∃ w c' r', S_X6_tell c x v = some (w, c') ∧ S_X7_tell r x v = some (w, r') ∧ RelE c' r'
  unfold S_X6_tell S_X7_tell
  rw [C_within, R_in, mb2, mb2]
  by_cases hx : wi x 0 47 = 0
  · rw [if_pos hx, if_pos hx, C_ref3, R_ref3, mb2, mb2]
    exact ⟨_, _, _, rfl, rfl, Rel_refs hE (by decide)⟩
  rw [if_neg hx, if_neg hx, C_within, R_in, mb2, mb2]
  by_cases hv : wi v (-9999) 9999 = 0
  · rw [if_pos hv, if_pos hv, C_ref7, R_ref7, mb2, mb2]
    exact ⟨_, _, _, rfl, rfl, Rel_refs hE (by decide)⟩
  rw [if_neg hv, if_neg hv, mlt]
  rw [wi_1] at hx
  simp at hx
  have ho : okI x 48 = true := by rw [okI_iff]; omega
  rw [if_pos ho, mlt]
  -- the reference's row before the last store
  obtain ⟨r1, g1, g2, g3⟩ : ∃ r1, S_X7_tell_39 FU r x v 0 = S_X7_tell_65 r1 x v ∧ (∀ g, g ≠ 27 → r1 g = r g) ∧ ∀ t, t < 48 → r1 27 0 t = c 11 0 t := by
    rcases s11 with s | s
    · obtain ⟨r1, a1, a2, a3⟩ := R_tell_39 x v 48 0 FU r 0 rfl (by omega) (FU_gt (by omega)) (by rw [← s10]; exact s)
      exact ⟨r1, a1, a2, fun t ht => by rw [a3 t ht, if_pos (Nat.zero_le t), (hro t ht).2 s]⟩
    · refine ⟨r, ?_, fun _ _ => rfl, fun t ht => ((hro t ht).1 s).symm⟩
      rw [show FU = 599 + 1 from rfl, S_X7_tell_39, if_neg (by decide), if_neg (by rw [← s10, s]; decide)]
  rw [g1]
  unfold S_X7_tell_65
  rw [mlt, if_pos ho, mlt]
  have k1 : up (up c 0 0 11 1) 11 0 x.toNatClampNeg v 0 0 11 = 1 := by simp [up]
  have k2 : up (up r1 20 0 31 1) 27 0 x.toNatClampNeg v 20 0 31 = 1 := by simp [up]
  refine ⟨_, _, _, rfl, rfl, nc, nl, nr, nt, Rel_row h (fun k hk => by simp [up, hk]) (fun g a1 a2 => (up_reg a2).trans (up_reg a1)) (fun k hk => ?_) (fun g a1 a2 => (up_reg a2).trans ((up_reg a1).trans (g2 g a2))) (k1.trans k2.symm) (Or.inr k1) (fun t ht => ?_)⟩
  · rw [up_reg (by decide)]
    simp only [up, hk, and_false, if_false]
    rw [g2 20 (by decide)]
  · rw [k1]
    refine ⟨fun _ => ?_, fun q => absurd q (by decide)⟩
    by_cases q : t = x.toNatClampNeg
    · simp [up, q]
    · have e1 : up (up c 0 0 11 1) 11 0 x.toNatClampNeg v 11 0 t = c 11 0 t := by simp [up, q]
      have e2 : up (up r1 20 0 31 1) 27 0 x.toNatClampNeg v 27 0 t = r1 27 0 t := by simp [up, q]
      rw [e1, e2, g3 t ht]
/-- the tape has one byte more -/
theorem Rel_tape {nc nl nr nt : Nat} {c r : F3} (h : Rel nc nl nr nt c r) (hn : nt < 80) {b : Int32} (hb : 0 ≤ b.toInt ∧ b.toInt < 256) : Rel nc nl nr (nt + 1) (up (up c 15 0 nt b) 5 0 1 (nI (nt + 1))) (up (up r 26 0 nt b) 20 0 27 (nI (nt + 1))) := by
  have hc : ∀ g, g ≠ 5 → g ≠ 15 → up (up c 15 0 nt b) 5 0 1 (nI (nt + 1)) g = c g := fun g h1 h2 => (up_reg h1).trans (up_reg h2)
  have hr : ∀ g, g ≠ 20 → g ≠ 26 → up (up r 26 0 nt b) 20 0 27 (nI (nt + 1)) g = r g := fun g h1 h2 => (up_reg h1).trans (up_reg h2)
  have r0 : ∀ k, k ≠ 27 → up (up r 26 0 nt b) 20 0 27 (nI (nt + 1)) 20 0 k = r 20 0 k := fun k hk => by simp [up, hk]
  unfold Rel at h ⊢
  rw [hc 0 (by decide) (by decide), hc 1 (by decide) (by decide), hc 2 (by decide) (by decide), hc 3 (by decide) (by decide), hc 9 (by decide) (by decide), hc 11 (by decide) (by decide), hc 12 (by decide) (by decide), hc 14 (by decide) (by decide), hc 16 (by decide) (by decide), hc 17 (by decide) (by decide), hc 18 (by decide) (by decide), hr 21 (by decide) (by decide), hr 22 (by decide) (by decide), hr 23 (by decide) (by decide), hr 27 (by decide) (by decide), rs_congr (r := r) (fun k h1 h2 => hr k (by omega) (by omega)), rl_congr (r := r) (fun k h1 h2 => hr k (by omega) (by omega)), r0 24 (by decide)]
  obtain ⟨g0, ⟨s1, s2, s3, s4, s5, s6, s7, s8, s9, s10, s11⟩, g2, g3, g4, g5, g6, g7, g8, g9⟩ := h
  refine ⟨by omega, ?_, g2, g3, g4, g5, fun t ht => ?_, g7, g8, g9⟩
  · unfold RSc
    rw [r0 2 (by decide), r0 13 (by decide), r0 21 (by decide), r0 1 (by decide), r0 31 (by decide)]
    exact ⟨s1, s2, s3, s4, s5, s6, by simp [up], by simp [up], s9, s10, s11⟩
  · by_cases q : t = nt
    · subst q
      simp [up]
      exact hb
    · have e1 : up (up c 15 0 nt b) 5 0 1 (nI (nt + 1)) 15 0 t = c 15 0 t := by simp [up, q]
      have e2 : up (up r 26 0 nt b) 20 0 27 (nI (nt + 1)) 26 0 t = r 26 0 t := by simp [up, q]
      rw [e1, e2]
      exact g6 t (by omega)
theorem and255 (x : Int32) : 0 ≤ (x &&& 255).toInt ∧ (x &&& 255).toInt < 256 := by
  obtain ⟨j, hj, e⟩ := pk_andE x (m := 255) 8 (by decide)
  rw [e, nI_toInt (by omega)]
  omega
theorem sim_feed_loop (x : Int32) : ∀ (m n : Nat) (nc nl nr nt : Nat) (c r : F3), Rel nc nl nr nt c r → nt + m ≤ 80 → m < n → ∃ w c' r', S_X6_feed_48 n c x (nI m - 1) = some (w, c') ∧ S_X7_feed_45 n r x (nI m - 1) = some (w, r') ∧ RelE c' r'
  | 0, n + 1, nc, nl, nr, nt, c, r, h, hm, hn => by
    rw [S_X6_feed_48, S_X7_feed_45, if_pos (by decide), if_pos (by decide), h.2.1.2.2.2.2.2.2.1, h.2.1.2.2.2.2.2.2.2.1]
    exact ⟨_, _, _, rfl, rfl, nc, nl, nr, nt, h⟩
  | m + 1, n + 1, nc, nl, nr, nt, c, r, h, hm, hn => by
    have hb := h.1
    have e : nI (m + 1) - 1 = nI m := nI_pred m
    rw [e, S_X6_feed_48, S_X7_feed_45, if_neg (nI_pos (by omega)), if_neg (nI_pos (by omega))]
    have k5 : c 5 0 1 = nI nt := h.2.1.2.2.2.2.2.2.1
    have k27 : r 20 0 27 = nI nt := h.2.1.2.2.2.2.2.2.2.1
    have hlt : nI nt < 80 := nI_lt (b := 80) (by omega) (by decide)
    have ho := okI_nI (i := nt) (n := 80) (by omega) (by decide)
    have em : nI m + (-1) = nI m - 1 := by rw [Int32.sub_eq_add_neg]
    generalize hbv : (x >>> ((8 * nI m) &&& 31)) &&& 255 = bv
    have hb2 : 0 ≤ bv.toInt ∧ bv.toInt < 256 := by rw [← hbv]; exact and255 _
    have h' := Rel_tape h (by omega) hb2
    have u5 : up c 15 0 nt bv 5 0 1 = nI nt := by rw [up_reg (by decide)]; exact k5
    have u27 : up r 26 0 nt bv 20 0 27 = nI nt := by rw [up_reg (by decide)]; exact k27
    simp only [S_X4_put, k5, k27, ho, if_true, nIk (show nt < 80 by omega) (by decide), mlt, mob, u5, u27, nI_1, em, if_neg (show ¬ (80 : Int32) ≤ nI nt from nle_of (n := 80) (by omega) (by decide))]
    exact sim_feed_loop x m n nc nl nr (nt + 1) _ _ h' (by omega) (by omega)
  | 0, 0, _, _, _, _, _, _, _, _, h => absurd h (Nat.lt_irrefl 0)
  | m + 1, 0, _, _, _, _, _, _, _, _, h => absurd h (by omega)
theorem sim_feed (x v : Int32) : SimI (fun c => S_X6_feed c x v) (fun r => S_X7_feed r x v) := by
  intro c r hE
  obtain ⟨nc, nl, nr, nt, h⟩ := id hE
  have hb := h.1
  have k5 : c 5 0 1 = nI nt := h.2.1.2.2.2.2.2.2.1
  have k27 : r 20 0 27 = nI nt := h.2.1.2.2.2.2.2.2.2.1
  show ∃ w c' r', S_X6_feed c x v = some (w, c') ∧ S_X7_feed r x v = some (w, r') ∧ RelE c' r'
  unfold S_X6_feed S_X7_feed
  rw [k5, k27]
  by_cases h0 : 0 ≤ v
  · rw [if_pos h0, if_pos h0]
    by_cases h4 : v ≤ 4
    · rw [if_pos h4, if_pos h4]
      obtain ⟨m, hm, rfl⟩ := nI_of2 (M := 4) (n := 4) rfl (Int32.not_lt.mpr h0) h4
      rw [nI_add]
      by_cases h80 : nI (nt + m) ≤ 80
      · rw [if_pos h80, if_pos h80]
        have : nt + m ≤ 80 := (nI_leI (b := 80) (by omega) (by decide)).mp h80
        exact sim_feed_loop x m FU nc nl nr nt c r h this (FU_gt (by omega))
      · rw [if_neg h80, if_neg h80, C_ref8, R_ref8, mb2, mb2]
        exact ⟨_, _, _, rfl, rfl, Rel_refs hE (by decide)⟩
    · rw [if_neg h4, if_neg h4, C_ref7, R_ref7, mb2, mb2]
      exact ⟨_, _, _, rfl, rfl, Rel_refs hE (by decide)⟩
  · rw [if_neg h0, if_neg h0, C_ref4, R_ref4, mb2, mb2]
    exact ⟨_, _, _, rfl, rfl, Rel_refs hE (by decide)⟩
