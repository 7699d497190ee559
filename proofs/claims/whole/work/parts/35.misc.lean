theorem rl_st (r : F3) (l : Nat) (s : Int32) : rl (up r 43 0 l s) l = fun k => if k = 3 then s else if k = 4 then (if s = 1 then r 44 0 l else -1) else if k = 5 then (if s = 1 then r 45 0 l else -1) else rl r l k := by
  funext k
  match k with
  | 0 => simp [rl, up]
  | 1 => simp [rl, up]
  | 2 => simp [rl, up]
  | 3 => simp [rl, up]
  | 4 => simp [rl, up]
  | 5 => simp [rl, up]
  | 6 => simp [rl, up]
  | k + 7 => simp [rl]
theorem rl_oth (r : F3) {g l j : Nat} {x : Int32} (hj : j ≠ l) : rl (up r g 0 l x) j = rl r j := by
  funext k
  match k with
  | 0 => simp [rl, up, hj]
  | 1 => simp [rl, up, hj]
  | 2 => simp [rl, up, hj]
  | 3 => simp [rl, up, hj]
  | 4 => simp [rl, up, hj]
  | 5 => simp [rl, up, hj]
  | 6 => simp [rl, up, hj]
  | k + 7 => simp [rl]
theorem sim_turn (x : Int32) : SimI (fun c => S_X6_turn c x) (fun r => S_X7_turn r x) := by
  intro c r hE
  obtain ⟨nc, nl, nr, nt, h⟩ := id hE
  have hb := h.1
  simp only [S_X6_turn, S_X7_turn, C_isLoad h, R_isLoad h, mb2, bo_0]
  cases hx : okI x nl
  · simp only [if_true, C_ref3, R_ref3, mb2]
    exact ⟨_, _, _, rfl, rfl, Rel_refs hE (by decide)⟩
  · obtain ⟨l, hl, hl24, rfl, ho, hcl⟩ := okc hx hb.2.2.1 (by decide)
    have e := Rel_leq h hl
    have e3 : r 43 0 l = c 2 l 3 := congrFun e 3
    simp only [Bool.true_eq_false, if_false, ho, if_true, hcl, e3]
    by_cases h0 : c 2 l 3 = 0
    · simp only [h0, if_true, mlt]
      have e4 : (if r 43 0 l = 1 then r 44 0 l else -1) = c 2 l 4 := congrFun e 4
      have e5 : (if r 43 0 l = 1 then r 45 0 l else -1) = c 2 l 5 := congrFun e 5
      rw [e3, h0, if_neg (by decide)] at e4 e5
      have o := Rel_lok h hl
      have h' : Rel nc nl nr nt (up c 2 l 3 4) (up r 43 0 l 4) := by
        refine Rel_load (v := upd (c 2 l) 3 4) h hl (up_self c 2 l 3 4) (fun j hj => up_other c 2 l 3 4 (fun q => hj q.2)) (fun g hg => up_reg hg) ?_ (fun j hj => rl_oth r hj) (fun g hg _ => up_reg (by omega)) (fun k _ => by rw [up_reg (by decide)]) ?_ (by simp [upd]) ?_
        · rw [rl_st, e]
          funext k
          simp only [upd]
          by_cases k3 : k = 3
          · simp [k3]
          · by_cases k4 : k = 4
            · subst k4; simp [← e4]
            · by_cases k5 : k = 5
              · subst k5; simp [← e5]
              · simp [k3, k4, k5]
        · rw [up_reg (by decide), h.2.2.2.1.2]
          refine tsum_congr nl (fun j hj => ?_)
          by_cases q : j = l
          · subst q
            rw [up_self]
            simp [upd, h0]
          · rw [up_other c 2 l 3 4 (fun z => q z.2)]
        · unfold okLo at o ⊢
          simp [upd]
          exact ⟨o.1, o.2.1, o.2.2.1⟩
      simp only [C_loadsIn h', R_many h', mb2]
      exact ⟨_, _, _, rfl, rfl, nc, nl, nr, nt, h'⟩
    · simp only [h0, if_false, C_ref7, R_ref7, mb2]
      exact ⟨_, _, _, rfl, rfl, Rel_refs hE (by decide)⟩
theorem sim_count (w : Int32) : SimI (fun c => S_X6_count c w) (fun r => S_X7_count r w) := by
  intro c r hE
  obtain ⟨nc, nl, nr, nt, h⟩ := id hE
  obtain ⟨s1, s2, s3, s4, s5, s6, s7, s8, s9, s10, -⟩ := h.2.1
  have hne : ∀ k : Int32, k.toInt < 5 ∨ 9 < k.toInt → wi k 5 9 = 0 := fun k hk => by rw [wi_1]; simp; omega
  simp only [S_X6_count, S_X7_count, R_in, mb2, s1, s2, s3, s4, s5, s6, s7, s8, s9, C_loadsIn h, R_many h, C_tons h]
  by_cases w0 : w = 0
  · subst w0; exact ⟨_, _, _, rfl, rfl, hE⟩
  by_cases w1 : w = 1
  · subst w1; exact ⟨_, _, _, rfl, rfl, hE⟩
  by_cases w2 : w = 2
  · subst w2; exact ⟨_, _, _, rfl, rfl, hE⟩
  by_cases w3 : w = 3
  · subst w3; exact ⟨_, _, _, rfl, rfl, hE⟩
  by_cases w4 : w = 4
  · subst w4; exact ⟨_, _, _, rfl, rfl, hE⟩
  by_cases w5 : w = 5
  · subst w5; exact ⟨_, _, _, rfl, rfl, hE⟩
  by_cases w6 : w = 6
  · subst w6; exact ⟨_, _, _, rfl, rfl, hE⟩
  by_cases w7 : w = 7
  · subst w7; exact ⟨_, _, _, rfl, rfl, hE⟩
  by_cases w8 : w = 8
  · subst w8; exact ⟨_, _, _, rfl, rfl, hE⟩
  by_cases w9 : w = 9
  · subst w9; exact ⟨_, _, _, rfl, rfl, hE⟩
  by_cases w10 : w = 10
  · subst w10; exact ⟨_, _, _, rfl, rfl, hE⟩
  have t5 := lv_neT (a := 5) w5 (by decide)
  have t6 := lv_neT (a := 6) w6 (by decide)
  have t7 := lv_neT (a := 7) w7 (by decide)
  have t8 := lv_neT (a := 8) w8 (by decide)
  have t9 := lv_neT (a := 9) w9 (by decide)
  simp only [hne w (by omega), w0, w1, w2, w3, w4, w5, w6, w7, w8, w9, w10, if_false, if_true, S_X7_count_106, C_ref7, R_ref7, mb2]
  exact ⟨_, _, _, rfl, rfl, Rel_refs hE (by decide)⟩
theorem sim_status (b : Int32) : SimI (fun c => S_X6_status c b) (fun r => S_X7_status r b) := by
  intro c r hE
  obtain ⟨nc, nl, nr, nt, h⟩ := id hE
  have hf := h.2.2.2.2.2.2.2.2.2
  simp only [S_X6_status, S_X7_status, C_within, R_in, mb2]
  by_cases hv : wi b (-8) (-2) = 0
  · simp only [hv, if_true, C_ref7, R_ref7, mb2]
    exact ⟨_, _, _, rfl, rfl, Rel_refs hE (by decide)⟩
  · simp only [hv, if_false]
    rw [wi_1] at hv
    simp at hv
    have hb : b = -8 ∨ b = -7 ∨ b = -6 ∨ b = -5 ∨ b = -4 ∨ b = -3 ∨ b = -2 := by
      simp only [fa_eq, show (-8 : Int32).toInt = -8 from rfl, show (-7 : Int32).toInt = -7 from rfl, show (-6 : Int32).toInt = -6 from rfl, show (-5 : Int32).toInt = -5 from rfl, show (-4 : Int32).toInt = -4 from rfl, show (-3 : Int32).toInt = -3 from rfl, show (-2 : Int32).toInt = -2 from rfl]
      omega
    rcases hb with rfl | rfl | rfl | rfl | rfl | rfl | rfl
    · exact ⟨c 12 0 6, c, r, rfl, by rw [hf 6 (by decide)]; rfl, hE⟩
    · exact ⟨c 12 0 5, c, r, rfl, by rw [hf 5 (by decide)]; rfl, hE⟩
    · exact ⟨c 12 0 4, c, r, rfl, by rw [hf 4 (by decide)]; rfl, hE⟩
    · exact ⟨c 12 0 3, c, r, rfl, by rw [hf 3 (by decide)]; rfl, hE⟩
    · exact ⟨c 12 0 2, c, r, rfl, by rw [hf 2 (by decide)]; rfl, hE⟩
    · exact ⟨c 12 0 1, c, r, rfl, by rw [hf 1 (by decide)]; rfl, hE⟩
    · exact ⟨c 12 0 0, c, r, rfl, by rw [hf 0 (by decide)]; rfl, hE⟩
/-- the row alone has changed -/
theorem Rel_row {nc nl nr nt : Nat} {c c' r r' : F3} (h : Rel nc nl nr nt c r) (c0 : ∀ k, k ≠ 11 → c' 0 0 k = c 0 0 k) (hc : ∀ g, g ≠ 0 → g ≠ 11 → c' g = c g) (r0 : ∀ k, k ≠ 31 → r' 20 0 k = r 20 0 k) (hr : ∀ g, g ≠ 20 → g ≠ 27 → r' g = r g) (ht : c' 0 0 11 = r' 20 0 31) (h01 : c' 0 0 11 = 0 ∨ c' 0 0 11 = 1) (hrow : RRo (c' 0 0 11) (c' 11 0) (r' 27 0)) : Rel nc nl nr nt c' r' := by
  unfold Rel at h ⊢
  rw [hc 1 (by decide) (by decide), hc 2 (by decide) (by decide), hc 3 (by decide) (by decide), hc 5 (by decide) (by decide), hc 9 (by decide) (by decide), hc 12 (by decide) (by decide), hc 14 (by decide) (by decide), hc 15 (by decide) (by decide), hc 16 (by decide) (by decide), hc 17 (by decide) (by decide), hc 18 (by decide) (by decide), hr 21 (by decide) (by decide), hr 22 (by decide) (by decide), hr 23 (by decide) (by decide), hr 26 (by decide) (by decide), rs_congr (r := r) (r' := r') (fun k h1 h2 => hr k (by omega) (by omega)), rl_congr (r := r) (r' := r') (fun k h1 h2 => hr k (by omega) (by omega)), r0 24 (by decide)]
  obtain ⟨g0, g1, g2, g3, g4, g5, g6, g7, g8, g9⟩ := h
  refine ⟨g0, ?_, g2, g3, g4, g5, g6, g7, hrow, g9⟩
  unfold RSc at g1 ⊢
  rw [c0 12 (by decide), c0 13 (by decide), c0 14 (by decide), c0 15 (by decide), r0 2 (by decide), r0 13 (by decide), r0 21 (by decide), r0 27 (by decide), r0 1 (by decide)]
  obtain ⟨s1, s2, s3, s4, s5, s6, s7, s8, s9, -, -⟩ := g1
  exact ⟨s1, s2, s3, s4, s5, s6, s7, s8, s9, ht, h01⟩
theorem sim_row (x : Int32) : SimI (fun c => S_X6_row c x) (fun r => S_X7_row r x) := by
  intro c r hE
  obtain ⟨nc, nl, nr, nt, h⟩ := id hE
  obtain ⟨-, -, -, -, -, -, -, -, -, s10, s11⟩ := h.2.1
  have hro := h.2.2.2.2.2.2.2.2.1
  simp only [S_X6_row, S_X7_row, C_within, R_in, mb2, ← s10]
  rcases s11 with s | s
  · simp only [s, if_true, C_ref2, R_nou2, mb2]
    exact ⟨_, _, _, rfl, rfl, Rel_refs hE (by decide)⟩
  · simp only [s, if_false, show ¬ (1 : Int32) = 0 by decide]
    by_cases hv : wi x 0 47 = 0
    · simp only [hv, if_true, C_ref3, R_nou3, mb2]
      exact ⟨_, _, _, rfl, rfl, Rel_refs hE (by decide)⟩
    · simp only [hv, if_false]
      rw [wi_1] at hv
      simp at hv
      have ho : okI x 48 = true := by rw [okI_iff]; omega
      simp only [ho, if_true]
      have := (hro x.toNatClampNeg (okI_lt ho)).1 s
      exact ⟨_, _, _, rfl, by rw [this], hE⟩
theorem sim_wipe : SimI (fun c => S_X6_wipe c) (fun r => S_X7_wipe r) := by
  intro c r hE
  obtain ⟨nc, nl, nr, nt, h⟩ := id hE
  obtain ⟨s1, s2, s3, s4, s5, s6, s7, s8, s9, s10, s11⟩ := h.2.1
  simp only [S_X6_wipe, S_X7_wipe, mlt, s7, s8]
  refine ⟨_, _, _, rfl, rfl, nc, nl, nr, 0, ?_⟩
  have hc : ∀ g, g ≠ 5 → up c 5 0 1 0 g = c g := fun g hg => up_reg hg
  have hr : ∀ g, g ≠ 20 → up r 20 0 27 0 g = r g := fun g hg => up_reg hg
  have r0 : ∀ k, k ≠ 27 → up r 20 0 27 0 20 0 k = r 20 0 k := fun k hk => by simp [up, hk]
  unfold Rel at h ⊢
  rw [hc 0 (by decide), hc 1 (by decide), hc 2 (by decide), hc 3 (by decide), hc 9 (by decide), hc 11 (by decide), hc 12 (by decide), hc 14 (by decide), hc 15 (by decide), hc 16 (by decide), hc 17 (by decide), hc 18 (by decide), hr 21 (by decide), hr 22 (by decide), hr 23 (by decide), hr 26 (by decide), hr 27 (by decide), rs_congr (r := r) (r' := up r 20 0 27 0) (fun k h1 h2 => hr k (by omega)), rl_congr (r := r) (r' := up r 20 0 27 0) (fun k h1 h2 => hr k (by omega)), r0 24 (by decide)]
  obtain ⟨g0, g1, g2, g3, g4, g5, g6, g7, g8, g9⟩ := h
  refine ⟨by omega, ?_, g2, g3, g4, g5, fun t ht => absurd ht (Nat.not_lt_zero t), g7, g8, g9⟩
  unfold RSc
  rw [r0 2 (by decide), r0 13 (by decide), r0 21 (by decide), r0 1 (by decide), r0 31 (by decide)]
  exact ⟨s1, s2, s3, s4, s5, s6, by simp [up, nI], by simp [up, nI], s9, s10, s11⟩
/-- the weather alone has changed -/
theorem Rel_wea {nc nl nr nt : Nat} {c c' r r' : F3} (h : Rel nc nl nr nt c r) (hc : ∀ g, g ≠ 14 → c' g = c g) (hr : ∀ g, g ≠ 22 → r' g = r g) (hw : RWe (c' 14 0) (r' 22 0)) : Rel nc nl nr nt c' r' := by
  unfold Rel at h ⊢
  rw [hc 0 (by decide), hc 1 (by decide), hc 2 (by decide), hc 3 (by decide), hc 5 (by decide), hc 9 (by decide), hc 11 (by decide), hc 12 (by decide), hc 15 (by decide), hc 16 (by decide), hc 17 (by decide), hc 18 (by decide), hr 20 (by decide), hr 21 (by decide), hr 23 (by decide), hr 26 (by decide), hr 27 (by decide), rs_congr (r := r) (r' := r') (fun k h1 h2 => hr k (by omega)), rl_congr (r := r) (r' := r') (fun k h1 h2 => hr k (by omega))]
  obtain ⟨g0, g1, g2, g3, g4, g5, g6, g7, g8, g9⟩ := h
  exact ⟨g0, g1, g2, g3, g4, g5, g6, hw, g8, g9⟩
theorem sim_weather (x v : Int32) : SimI (fun c => S_X6_weather c x v) (fun r => S_X7_weather r x v) := by
  intro c r hE
  obtain ⟨nc, nl, nr, nt, h⟩ := id hE
  have hw := h.2.2.2.2.2.2.2.1
  simp only [S_X6_weather, S_X7_weather, C_within, R_in, mb2]
  by_cases hx : wi x 0 47 = 0
  · simp only [hx, if_true, C_ref3, R_nou3, mb2]
    exact ⟨_, _, _, rfl, rfl, Rel_refs hE (by decide)⟩
  · have hx' := hx
    rw [wi_1] at hx'
    simp at hx'
    have ho : okI x 48 = true := by rw [okI_iff]; omega
    have fin : (v = -9999 ∨ (-600 ≤ v.toInt ∧ v.toInt ≤ 300)) → ∃ w c' r', S_X6_weather_48 c x v = some (w, c') ∧ S_X7_weather_44 r x v = some (w, r') ∧ RelE c' r' := by
      intro hv
      have e := hw x.toNatClampNeg (okI_lt ho)
      simp only [S_X6_weather_48, S_X7_weather_44, ho, if_true, mlt, e.1]
      refine ⟨_, _, _, rfl, rfl, nc, nl, nr, nt, Rel_wea h (fun g hg => up_reg hg) (fun g hg => up_reg hg) (fun t ht => ?_)⟩
      by_cases q : t = x.toNatClampNeg
      · subst q
        simp only [up, and_self, if_true]
        exact ⟨trivial, hv⟩
      · simp only [up, q, and_false, if_false]
        exact hw t ht
    simp only [hx, if_false]
    by_cases hg : v = -9999
    · simp only [hg, if_true]
      rw [hg] at fin
      exact fin (Or.inl rfl)
    · simp only [hg, if_false]
      by_cases hv : wi v (-600) 300 = 0
      · simp only [hv, if_true, C_ref7, R_nou7, mb2]
        exact ⟨_, _, _, rfl, rfl, Rel_refs hE (by decide)⟩
      · simp only [hv, if_false]
        rw [wi_1] at hv
        simp at hv
        exact fin (Or.inr hv)
