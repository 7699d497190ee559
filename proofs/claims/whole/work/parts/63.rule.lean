/-! rule: the whole text, and the call -/
section PE
variable {T : Nat → Int32} {nt p : Nat} {c r : F3} {b : Bool}
/-- behind the number: the end, or ' if ' and tests -/
def afC (f : F3) (i1 : Nat) : Option (Int32 × F3) := mm_b2 (S_X3_isAtEnd f) fun r16 f15 => if r16 = 0 then (mm_b2 (S_X3_takeTests f15 i1) fun r19 f18 => if r19 = 0 then (some (0, f18)) else (S_X3_takeRule_75 f18 )) else (S_X3_takeRule_75 f15 )
theorem bo_id {x : Option (Int32 × F3)} {ok : Bool} {f : F3} (h : x = some (bo ok, f)) : (mm_b2 x fun r19 f18 => if r19 = 0 then (some ((0 : Int32), f18)) else (S_X3_takeRule_75 f18)) = some (bo ok, f) := by
  rw [h, mb2]
  cases ok
  · rfl
  · rfl
theorem sim_after (hT : HT T nt) (hc : HC T nt c p) (hr : HR T nt r p false) {nr : Nat} (hnr : nr < 10) (hP : PS nr 0 c r) (hq : r 23 0 (15 * nr + 4) = 0) (h4 : c 3 nr 4 = 0) : RO T nt nr c r (afC c nr) (S_X7_reads_70 FU r (nI (15 * nr))) (15 * nr + 4) := by
  obtain ⟨o4, k4⟩ := nIa (show 15 * nr + 4 < 150 by omega) (show 150 < 2 ^ 31 by decide)
  have hn := hT.1
  have hpn := hc.2.2.1
  unfold afC
  rw [C_end hT hc, mb2, show FU = 598 + 1 + 1 from rfl, r70_eq, hr.2.2.1, bo_f, if_pos (show (0 : Int32) = 0 from rfl), hr.1, hr.2.1]
  by_cases qe : nt ≤ p
  · rw [if_pos ((nI_leI (by omega) (by omega)).mpr qe), decide_eq_true qe, bo_t, if_neg (show ¬ (1 : Int32) = 0 by decide)]
    exact ⟨true, p, 0, c, r, rfl, rfl, FM_rf _ _, FR_rf _ _, hc, hr, fun _ => ⟨by omega, hP, hq⟩⟩
  · rw [if_neg (nle_of (by omega) (by omega)), nI_p4, if_pos o4, k4, hq, decide_eq_false qe, bo_f, if_pos (show (0 : Int32) = 0 from rfl), if_neg (show ¬ (0 : Int32) = 3 by decide)]
    have main : RO T nt nr c r (S_X3_takeTests c nr) (Option.bind (S_X7_eats r 32) fun f19 => if (0 : Int32) = 0 then (Option.bind (S_X7_eats f19 105) fun f28 => Option.bind (S_X7_eats f28 102) fun f29 => S_X7_reads_203 (fun f9 x1_ => S_X7_reads_70 (598 + 1) f9 x1_) f29 (nI (15 * nr)) 0) else jntR (fun f9 x1_ => S_X7_reads_70 (598 + 1) f9 x1_) f19 (nI (15 * nr)) 0) (15 * nr + 4) := by
      obtain ⟨ok, p1, c1, r1, a1, a2, a3, a4, a5, a6⟩ := sim_word hT hc hr (j := 3) (by decide)
      have a2 : (Option.bind (S_X7_eats r 32) fun f19 => Option.bind (S_X7_eats f19 105) fun f28 => Option.bind (S_X7_eats f28 102) fun f29 => Option.bind (S_X7_eats f29 32) fun f => some f) = some r1 := a2
      have e : (Option.bind (S_X7_eats r 32) fun f19 => if (0 : Int32) = 0 then (Option.bind (S_X7_eats f19 105) fun f28 => Option.bind (S_X7_eats f28 102) fun f29 => S_X7_reads_203 (fun f9 x1_ => S_X7_reads_70 (598 + 1) f9 x1_) f29 (nI (15 * nr)) 0) else jntR (fun f9 x1_ => S_X7_reads_70 (598 + 1) f9 x1_) f19 (nI (15 * nr)) 0) = Option.bind (Option.bind (S_X7_eats r 32) fun f19 => Option.bind (S_X7_eats f19 105) fun f28 => Option.bind (S_X7_eats f28 102) fun f29 => Option.bind (S_X7_eats f29 32) fun f => some f) fun f => tinc (fun f9 x1_ => S_X7_reads_70 (598 + 1) f9 x1_) f (nI (15 * nr)) (nI 0) := by
        simp only [Option.bind_assoc, Option.bind_some, if_true, r203_eq]
        rfl
      rw [e, a2, mob]
      unfold S_X3_takeTests
      rw [a1, mb2]
      cases ok
      · obtain ⟨r2, b1, b2, b3⟩ := R_tinc_bad hT a6 a5.2.2.1 hnr (show 0 < 3 by decide)
        rw [bo_f, if_pos (show (0 : Int32) = 0 from rfl), b1]
        exact RO_bad rfl (R_70_bad b3 _ _) (FM_4 a3) (b2.tr (FR_20 a4)) a5 b3
      · rw [bo_t, if_neg (show ¬ (1 : Int32) = 0 by decide)]
        obtain ⟨ok, p2, c2, r2, b1, b2, b3, b4, b5, b6, b7, b8⟩ := sim_tinc hT a5 a6 hnr (show 0 < 3 by decide) (PS_fr hP a3 a4) (by rw [a4.1 23 (by decide)]; exact hq)
        rw [b1, mb2, b2]
        cases ok
        · rw [bo_f, if_pos (show (0 : Int32) = 0 from rfl)]
          exact RO_bad rfl (R_70_bad b6 _ _) (b3.tr (FM_4 a3)) (b4.tr (FR_20 a4)) b5 b6
        · obtain ⟨g1, g2⟩ := b8 rfl
          rw [bo_t, if_neg (show ¬ (1 : Int32) = 0 by decide)]
          exact (sim_tests_loop hT hnr 2 1 FU (598 + 1) c2 r2 p2 1 rfl rfl (by decide) (FU_gt (by decide)) (by decide) g1 g2 (fun _ => by rw [b7, a3 3 (by decide)]; exact h4) b5 b6).fr (b3.tr (FM_4 a3)) (b4.tr (FR_20 a4)) (Nat.le_refl _)
    obtain ⟨ok, p', m', c', r', a1, a2, a3⟩ := main
    exact ⟨ok, p', m', c', r', bo_id a1, a2, a3⟩
/-- the reference from its first number on -/
def rd8 (f7 : F3) (X : Int32) : Option F3 := Option.bind (S_X7_digits f7) fun f8 => if okI (X + 3) 150 then (mm_let (up f8 23 0 (X + 3).toNatClampNeg (f8 20 0 30)) fun f10 => if okI (X + 4) 150 then (mm_let (up f10 23 0 (X + 4).toNatClampNeg 0) fun f12 => if okI (X + 5) 150 then (mm_let (up f12 23 0 (X + 5).toNatClampNeg 0) fun f14 => S_X7_reads_70 FU f14 X) else none) else none) else none
def up3 (f : F3) (nr : Nat) : F3 := up (up (up f 23 0 (15 * nr + 3) (f 20 0 30)) 23 0 (15 * nr + 4) 0) 23 0 (15 * nr + 5) 0
theorem rd8_eq {f7 f8 : F3} {nr : Nat} (hnr : nr < 10) (h : S_X7_digits f7 = some f8) : rd8 f7 (nI (15 * nr)) = S_X7_reads_70 FU (up3 f8 nr) (nI (15 * nr)) := by
  obtain ⟨o3, k3⟩ := nIa (show 15 * nr + 3 < 150 by omega) (show 150 < 2 ^ 31 by decide)
  obtain ⟨o4, k4⟩ := nIa (show 15 * nr + 4 < 150 by omega) (show 150 < 2 ^ 31 by decide)
  obtain ⟨o5, k5⟩ := nIa (show 15 * nr + 5 < 150 by omega) (show 150 < 2 ^ 31 by decide)
  unfold rd8
  rw [h, mob, nI_p3, nI_p4, nI_p5, if_pos o3, k3, mlt, if_pos o4, k4, mlt, if_pos o5, k5, mlt]
  rfl
theorem up3_FR (f : F3) (nr : Nat) : FR (15 * nr + 3) (up3 f nr) f := (FR_up _ _ (by omega)).tr ((FR_up _ _ (by omega)).tr (FR_up f _ (by omega)))
theorem up3_HR (h : HR T nt r p b) (nr : Nat) : HR T nt (up3 r nr) p b := HR_23 (HR_23 (HR_23 h _ _) _ _) _ _
theorem rd8_bad (h : HR T nt r p true) {nr : Nat} (hnr : nr < 10) : ∃ r', rd8 r (nI (15 * nr)) = some r' ∧ FR (15 * nr + 3) r' r ∧ HR T nt r' p true := by
  obtain ⟨r1, a1, a2, a3⟩ := R_digits_bad h
  have h3 := up3_HR a3 nr
  rw [rd8_eq hnr a1, show FU = 599 + 1 from rfl, R_70_bad h3]
  exact ⟨_, rfl, (up3_FR r1 nr).tr (FR_20 a2), h3⟩
theorem reads_eq {r r4 : F3} {k : Int32} {nr : Nat} (hnr : nr < 10) (hr : r 20 0 21 = nI nr) (h : S_X7_key (up (up r 20 0 28 0) 20 0 29 0) = some (k, r4)) : S_X7_reads r = Option.bind (S_X7_eats (up r4 23 0 (15 * nr + 2) k) 32) fun f7 => rd8 f7 (nI (15 * nr)) := by
  obtain ⟨o2, k2⟩ := nIa (show 15 * nr + 2 < 150 by omega) (show 150 < 2 ^ 31 by decide)
  unfold S_X7_reads
  rw [mlt, mlt, h, mb2, hr, show 15 * nI nr = nI (15 * nr) by rw [show (15 : Int32) = nI 15 from rfl, pk_mul], nI_p2, if_pos o2, k2, mlt]
  rfl
theorem sim_text (hT : HT T nt) {nr : Nat} (hnr : nr < 10) (hc : HC T nt (up c 4 0 1 0) 0) (hr : HR T nt (up (up r 20 0 28 0) 20 0 29 0) 0 false) (h21 : r 20 0 21 = nI nr) : RO T nt nr c r (S_X3_takeRule c nr) (S_X7_reads r) (15 * nr + 2) := by
  have hc1 := HC_up (HC_up hc 3 nr 4 0 (by decide)) 3 nr 5 0 (by decide)
  have fc1 : FM nr (up (up (up c 4 0 1 0) 3 nr 4 0) 3 nr 5 0) c := (FM_up _ 3 nr 5 0 (by decide)).tr ((FM_up _ 3 nr 4 0 (by decide)).tr (FM_4 (F4_up c 1 0)))
  have fr1 : F20 (up (up r 20 0 28 0) 20 0 29 0) r := (F20_up _ (Or.inr (Or.inl rfl)) 0).tr (F20_up r (Or.inl rfl) 0)
  obtain ⟨ok, p1, k, k', c4, r4, a1, a2, a3, a4, a5, a6, a7, a8⟩ := sim_key hT hc1 hr
  rw [reads_eq hnr h21 a2]
  unfold S_X3_takeRule
  rw [mlt, mlt, mlt, a1, mb2, mlt]
  have e30 : up c4 3 nr 0 k 3 nr 0 = k := by simp [up]
  have hc6 := HC_up a7 3 nr 0 k (by decide)
  have hr6 := HR_23 a8 (15 * nr + 2) k'
  have fc6 : FM nr (up c4 3 nr 0 k) c := (FM_up _ 3 nr 0 k (by decide)).tr ((FM_4 a5).tr fc1)
  have fr6 : FR (15 * nr + 2) (up r4 23 0 (15 * nr + 2) k') r := (FR_up r4 k' (Nat.le_refl _)).tr ((FR_20 a6).tr (FR_20 fr1))
  rw [e30]
  cases ok
  · obtain ⟨r7, b1, b2, b3, b4⟩ := R_eats hT hr6 hc6.2.2.1 (x := 32) (by decide)
    rw [show (!false) = true from rfl, et_b] at b3
    obtain ⟨r', d1, d2, d3⟩ := rd8_bad b3 hnr
    rw [if_pos (a4 rfl), b1, mob]
    exact RO_bad rfl d1 fc6 ((d2.lo (by omega)).tr ((FR_20 b2).tr fr6)) hc6 d3
  · obtain ⟨ek, kn⟩ := a3 rfl
    obtain ⟨ok, p7, c7, r7, b1, b2, b3, b4, b5, b6⟩ := sim_sign hT hc6 hr6 (x := 32) (by decide)
    rw [if_neg kn, b1, mb2, b2, mob]
    have fc7 := (FM_4 b3).tr fc6
    have fr7 := (FR_20 b4).tr fr6
    cases ok
    · obtain ⟨r', d1, d2, d3⟩ := rd8_bad b6 hnr
      rw [bo_f, if_pos (show (0 : Int32) = 0 from rfl)]
      exact RO_bad rfl d1 fc7 ((d2.lo (by omega)).tr fr7) b5 d3
    · obtain ⟨ok, p8, v, y, c8, r8, d1, d2, d3, d4, d5, d6, d7, d8⟩ := sim_numb hT b5 b6
      have e31 : up c8 3 nr 1 y 3 nr 1 = y := by simp [up]
      have hc9 := HC_up d7 3 nr 1 y (by decide)
      have hr9 := up3_HR d8 nr
      have fc9 : FM nr (up c8 3 nr 1 y) c := (FM_up _ 3 nr 1 y (by decide)).tr ((FM_4 d5).tr fc7)
      have fr9 : FR (15 * nr + 2) (up3 r8 nr) r := ((up3_FR r8 nr).lo (by omega)).tr ((FR_20 d6).tr fr7)
      rw [bo_t, if_neg (show ¬ (1 : Int32) = 0 by decide), d1, mb2, mlt, e31, rd8_eq hnr d2]
      cases ok
      · rw [if_pos (d4 rfl)]
        exact RO_bad rfl (R_70_bad hr9 599 _) fc9 fr9 hc9 hr9
      · obtain ⟨g1, g2, g3⟩ := d3 rfl
        have yn : ¬ y = -1 := by
          rw [g1]
          intro q
          have := congrArg Int32.toInt q
          rw [nI_toInt (by omega)] at this
          have e : (-1 : Int32).toInt = -1 := by decide
          omega
        rw [if_neg yn]
        have q3 : ∀ j, j ≠ 1 → up c8 3 nr 1 y 3 nr j = c8 3 nr j := fun j hj => by simp [up, hj]
        have c83 : ∀ j, c8 3 nr j = up c4 3 nr 0 k 3 nr j := fun j => by rw [d5 3 (by decide), b3 3 (by decide)]
        have c43 : ∀ j, c4 3 nr j = up (up (up c 4 0 1 0) 3 nr 4 0) 3 nr 5 0 3 nr j := fun j => by rw [a5 3 (by decide)]
        have w4 : up c8 3 nr 1 y 3 nr 4 = 0 := by
          rw [q3 4 (by decide), c83, show up c4 3 nr 0 k 3 nr 4 = c4 3 nr 4 by simp [up], c43]
          simp [up]
        have w5 : up c8 3 nr 1 y 3 nr 5 = 0 := by
          rw [q3 5 (by decide), c83, show up c4 3 nr 0 k 3 nr 5 = c4 3 nr 5 by simp [up], c43]
          simp [up]
        have w0 : up c8 3 nr 1 y 3 nr 0 = k := by
          rw [q3 0 (by decide), c83]
          exact e30
        have z2 : up3 r8 nr 23 0 (15 * nr + 2) = k' := by
          rw [(up3_FR r8 nr).2.2 _ (by omega), d6.1 23 (by decide), b4.1 23 (by decide)]
          simp [up]
        have z3 : up3 r8 nr 23 0 (15 * nr + 3) = nI v := by
          rw [← g3]
          simp [up3, up]
        have z4 : up3 r8 nr 23 0 (15 * nr + 4) = 0 := by simp [up3, up]
        have z5 : up3 r8 nr 23 0 (15 * nr + 5) = 0 := by simp [up3, up]
        have hP : PS nr 0 (up c8 3 nr 1 y) (up3 r8 nr) := ⟨⟨by rw [w0, z2]; exact ek, by rw [e31, z3]; exact g1⟩, ⟨by rw [w4, z5], Or.inl w4⟩, w5, fun t ht => absurd ht (Nat.not_lt_zero _)⟩
        exact (sim_after hT hc9 hr9 hnr hP z4 w4).fr fc9 fr9 (by omega)
end PE
theorem Rel_parse {nc nl nr nt : Nat} {c c' r r' : F3} (h : Rel nc nl nr nt c r) (hc : FM nr c' c) (hr : FR (15 * nr) r' r) : Rel nc nl nr nt c' r' := by
  have kc : ∀ g, g ≠ 3 → g ≠ 4 → g ≠ 16 → g ≠ 17 → g ≠ 18 → c' g = c g := hc.1
  have kr : ∀ g, g ≠ 20 → g ≠ 23 → r' g = r g := hr.1
  unfold Rel at h ⊢
  rw [kc 0 (by decide) (by decide) (by decide) (by decide) (by decide), kc 1 (by decide) (by decide) (by decide) (by decide) (by decide), kc 2 (by decide) (by decide) (by decide) (by decide) (by decide), kc 5 (by decide) (by decide) (by decide) (by decide) (by decide), kc 9 (by decide) (by decide) (by decide) (by decide) (by decide), kc 11 (by decide) (by decide) (by decide) (by decide) (by decide), kc 12 (by decide) (by decide) (by decide) (by decide) (by decide), kc 14 (by decide) (by decide) (by decide) (by decide) (by decide), kc 15 (by decide) (by decide) (by decide) (by decide) (by decide), kr 21 (by decide) (by decide), kr 22 (by decide) (by decide), kr 26 (by decide) (by decide), kr 27 (by decide) (by decide), rs_congr (r := r) (fun k h1 h2 => kr k (by omega) (by omega)), rl_congr (r := r) (fun k h1 h2 => kr k (by omega) (by omega)), hr.2.1 24 (by decide) (by decide) (by decide)]
  obtain ⟨g0, ⟨s1, s2, s3, s4, s5, s6, s7, s8, s9, s10, s11⟩, g2, g3, g4, g5, g6, g7, g8, g9⟩ := h
  refine ⟨g0, ?_, g2, g3, g4, fun q hq => ?_, g6, g7, g8, g9⟩
  · unfold RSc
    rw [hr.2.1 2 (by decide) (by decide) (by decide), hr.2.1 13 (by decide) (by decide) (by decide), hr.2.1 21 (by decide) (by decide) (by decide), hr.2.1 27 (by decide) (by decide) (by decide), hr.2.1 1 (by decide) (by decide) (by decide), hr.2.1 31 (by decide) (by decide) (by decide)]
    exact ⟨s1, s2, s3, s4, s5, s6, s7, s8, s9, s10, s11⟩
  · have k3 := hc.2 3 (by decide) q (by omega)
    have k16 := hc.2 16 (by decide) q (by omega)
    have k17 := hc.2 17 (by decide) q (by omega)
    have k18 := hc.2 18 (by decide) q (by omega)
    have lo : ∀ j, j < 15 → r' 23 0 (15 * q + j) = r 23 0 (15 * q + j) := fun j hj => hr.2.2 _ (by omega)
    obtain ⟨⟨t0, t1, t2, t3, t4, t5⟩, t6, t7, m, hm, t8, t9⟩ := g5 q hq
    rw [k3, lo 2 (by decide), lo 3 (by decide), hr.2.2 (15 * q) (by omega), lo 1 (by decide), lo 5 (by decide), lo 4 (by decide), k16, k17, k18]
    refine ⟨⟨t0, t1, t2, t3, t4, t5⟩, t6, t7, m, hm, t8, fun t ht => ?_⟩
    rw [hr.2.2 (15 * q + 6 + 3 * t) (by omega), hr.2.2 (15 * q + 7 + 3 * t) (by omega), hr.2.2 (15 * q + 8 + 3 * t) (by omega)]
    exact t9 t ht
def ruC (c : F3) (nr : Nat) (x y : Int32) : F3 := up (up (up (up c 3 nr 2 x) 3 nr 3 y) 5 0 1 0) 0 0 14 (nI (nr + 1))
def ruR (r : F3) (nr : Nat) (x y : Int32) : F3 := up (up (up (up r 23 0 (15 * nr) x) 23 0 (15 * nr + 1) y) 20 0 27 0) 20 0 21 (nI (nr + 1))
theorem Rel_rule {nc nl nr nt m : Nat} {c r : F3} {x y : Int32} (h : Rel nc nl nr nt c r) (hnr : nr < 10) (hm : m ≤ 3) (hP : PS nr m c r) (hq : r 23 0 (15 * nr + 4) = nI m) (hy : 0 ≤ y.toInt ∧ y.toInt ≤ 100000) : Rel nc nl (nr + 1) 0 (ruC c nr x y) (ruR r nr x y) := by
  have kc : ∀ g, g ≠ 0 → g ≠ 3 → g ≠ 5 → ruC c nr x y g = c g := fun g h0 h3 h5 => by
    unfold ruC
    rw [up_reg h0, up_reg h5, up_reg h3, up_reg h3]
  have kr : ∀ g, g ≠ 20 → g ≠ 23 → ruR r nr x y g = r g := fun g h0 h3 => by
    unfold ruR
    rw [up_reg h0, up_reg h0, up_reg h3, up_reg h3]
  have k20 : ∀ k, k ≠ 21 → k ≠ 27 → ruR r nr x y 20 0 k = r 20 0 k := fun k h1 h2 => by simp [ruR, up, h1, h2]
  have k00 : ∀ k, k ≠ 14 → ruC c nr x y 0 0 k = c 0 0 k := fun k h1 => by simp [ruC, up, h1]
  unfold Rel at h ⊢
  rw [kc 1 (by decide) (by decide) (by decide), kc 2 (by decide) (by decide) (by decide), kc 9 (by decide) (by decide) (by decide), kc 11 (by decide) (by decide) (by decide), kc 12 (by decide) (by decide) (by decide), kc 14 (by decide) (by decide) (by decide), kc 15 (by decide) (by decide) (by decide), kc 16 (by decide) (by decide) (by decide), kc 17 (by decide) (by decide) (by decide), kc 18 (by decide) (by decide) (by decide), kr 21 (by decide) (by decide), kr 22 (by decide) (by decide), kr 26 (by decide) (by decide), kr 27 (by decide) (by decide), rs_congr (r := r) (fun k h1 h2 => kr k (by omega) (by omega)), rl_congr (r := r) (fun k h1 h2 => kr k (by omega) (by omega)), k20 24 (by decide) (by decide), k00 11 (by decide)]
  obtain ⟨g0, ⟨s1, s2, s3, s4, s5, s6, s7, s8, s9, s10, s11⟩, g2, g3, g4, g5, g6, g7, g8, g9⟩ := h
  refine ⟨by omega, ?_, g2, g3, g4, fun q hq' => ?_, fun t ht => absurd ht (Nat.not_lt_zero _), g7, g8, g9⟩
  · unfold RSc
    rw [k20 2 (by decide) (by decide), k20 13 (by decide) (by decide), k20 1 (by decide) (by decide), k20 31 (by decide) (by decide), k00 12 (by decide), k00 13 (by decide), k00 15 (by decide), k00 11 (by decide)]
    exact ⟨s1, s2, s3, s4, by simp [ruC, up], by simp [ruR, up], by simp [ruC, up]; rfl, by simp [ruR, up]; rfl, s9, s10, s11⟩
  · have n3 : ∀ j, j ≠ 15 * nr → j ≠ 15 * nr + 1 → ruR r nr x y 23 0 j = r 23 0 j := fun j h1 h2 => by simp [ruR, up, h1, h2]
    by_cases e : q = nr
    · subst e
      obtain ⟨⟨P0, P1⟩, ⟨P4, P4b⟩, P5, Pt⟩ := hP
      have c3 : ∀ j, j ≠ 2 → j ≠ 3 → ruC c q x y 3 q j = c 3 q j := fun j h1 h2 => by simp [ruC, up, h1, h2]
      have c2 : ruC c q x y 3 q 2 = x := by simp [ruC, up]
      have c33 : ruC c q x y 3 q 3 = y := by simp [ruC, up]
      have r0 : ruR r q x y 23 0 (15 * q) = x := by simp [ruR, up]
      have r1 : ruR r q x y 23 0 (15 * q + 1) = y := by simp [ruR, up]
      rw [c2, c33, r0, r1, c3 0 (by decide) (by decide), c3 1 (by decide) (by decide), c3 4 (by decide) (by decide), c3 5 (by decide) (by decide), n3 (15 * q + 2) (by omega) (by omega), n3 (15 * q + 3) (by omega) (by omega), n3 (15 * q + 4) (by omega) (by omega), n3 (15 * q + 5) (by omega) (by omega)]
      refine ⟨⟨P0, P1, rfl, rfl, P4, P5.trans hq.symm⟩, hy, P4b, m, hm, P5, fun t ht => ?_⟩
      rw [n3 _ (by omega) (by omega), n3 _ (by omega) (by omega), n3 _ (by omega) (by omega)]
      exact Pt t ht
    · have c3 : ruC c nr x y 3 q = c 3 q := by
        funext j
        simp [ruC, up, e]
      obtain ⟨⟨t0, t1, t2, t3, t4, t5⟩, t6, t7, m2, hm2, t8, t9⟩ := g5 q (by omega)
      rw [c3, n3 (15 * q + 2) (by omega) (by omega), n3 (15 * q + 3) (by omega) (by omega), n3 (15 * q + 4) (by omega) (by omega), n3 (15 * q + 5) (by omega) (by omega), n3 (15 * q) (by omega) (by omega), n3 (15 * q + 1) (by omega) (by omega)]
      refine ⟨⟨t0, t1, t2, t3, t4, t5⟩, t6, t7, m2, hm2, t8, fun t ht => ?_⟩
      rw [n3 _ (by omega) (by omega), n3 _ (by omega) (by omega), n3 _ (by omega) (by omega)]
      exact t9 t ht
theorem sim_rule (x y : Int32) : SimI (fun c => S_X6_rule c x y) (fun r => S_X7_rule r x y) := by
  intro c r hE
  obtain ⟨nc, nl, nr, nt, h⟩ := id hE
  have hb := h.1
  have s5 : c 0 0 14 = nI nr := h.2.1.2.2.2.2.1
  have s6 : r 20 0 21 = nI nr := h.2.1.2.2.2.2.2.1
  have s7 : c 5 0 1 = nI nt := h.2.1.2.2.2.2.2.2.1
  have s8 : r 20 0 27 = nI nt := h.2.1.2.2.2.2.2.2.2.1
  have no : ∃ w c' r', S_X6_rule_25 c = some (w, c') ∧ S_X7_rule_25 r = some (w, r') ∧ RelE c' r' := by
    unfold S_X6_rule_25 S_X7_rule_25
    rw [C_ref7, R_ref7, mb2, mb2]
    exact ⟨_, _, _, rfl, rfl, Rel_refs hE (by decide)⟩
  show ∃ w c' r', S_X6_rule c x y = some (w, c') ∧ S_X7_rule r x y = some (w, r') ∧ RelE c' r'
  unfold S_X6_rule S_X7_rule
  rw [C_within, R_in, mb2, mb2]
  by_cases hx : wi x 0 100000 = 0
  · rw [if_pos hx, if_pos hx]
    exact no
  rw [if_neg hx, if_neg hx, C_within, R_in, mb2, mb2]
  by_cases hy : wi y 0 100000 = 0
  · rw [if_pos hy, if_pos hy]
    exact no
  rw [if_neg hy, if_neg hy]
  by_cases hxy : ¬ x < y
  · rw [if_neg hxy, if_neg hxy]
    exact no
  have hxy : x < y := Decidable.not_not.mp hxy
  rw [if_pos hxy, if_pos hxy, s5, s6]
  by_cases hf : nr = 10
  · rw [if_neg (by rw [hf]; decide), if_pos (by rw [hf]; rfl), C_ref8, R_ref8, mb2, mb2]
    exact ⟨_, _, _, rfl, rfl, Rel_refs hE (by decide)⟩
  have hnr : nr < 10 := by omega
  have hyb : 0 ≤ y.toInt ∧ y.toInt ≤ 100000 := by
    have := hy
    rw [wi_1] at this
    simp at this
    exact this
  obtain ⟨o10, k10⟩ := nIa hnr (show 10 < 2 ^ 31 by decide)
  rw [if_pos (show nI nr < 10 from nI_lt (b := 10) hnr (by decide)), if_pos o10, k10, if_neg (show ¬ nI nr = 10 from fun q => hf ((nI_eq (b := 10) (by omega) (by decide)).mp q))]
  have hta := h.2.2.2.2.2.2.1
  have hT : HT (fun t => if t < nt then c 15 0 t else -1) nt := by
    refine ⟨by omega, fun t ht => ?_, fun t ht => ?_⟩
    · simp only [ht, if_true]
      exact (hta t ht).2
    · simp only [if_neg (show ¬ t < nt by omega)]
  have hc : HC (fun t => if t < nt then c 15 0 t else -1) nt (up c 4 0 1 0) 0 := by
    refine ⟨by rw [up_reg (by decide)]; exact s7, by simp [up]; rfl, Nat.zero_le _, fun t ht => ?_⟩
    rw [up_reg (by decide)]
    simp only [ht, if_true]
  have hr : HR (fun t => if t < nt then c 15 0 t else -1) nt (up (up r 20 0 28 0) 20 0 29 0) 0 false := by
    refine ⟨by rw [← s8]; simp [up], by simp [up]; rfl, by simp [up]; rfl, fun t ht => ?_⟩
    rw [up_reg (by decide), up_reg (by decide)]
    simp only [ht, if_true]
    exact (hta t ht).1.symm
  obtain ⟨ok, p', m', c', r', a1, a2, a3, a4, a5, a6, a7⟩ := sim_text hT hnr hc hr s6
  rw [a1, mb2, a2, mob, a6.2.2.1]
  have h' := Rel_parse h a3 (a4.lo (by omega))
  have s5' : c' 0 0 14 = nI nr := h'.2.1.2.2.2.2.1
  have s6' : r' 20 0 21 = nI nr := h'.2.1.2.2.2.2.2.1
  cases ok
  · rw [bo_f, if_pos (show (0 : Int32) = 0 from rfl), show bo (!false) = 1 from rfl, if_neg (show ¬ (1 : Int32) = 0 by decide), a5.2.1, a6.2.1]
    exact ⟨_, _, _, rfl, rfl, nc, nl, nr, nt, h'⟩
  · obtain ⟨b1, b2, b3⟩ := a7 rfl
    obtain ⟨p0, q0⟩ := nIa (show 15 * nr < 150 by omega) (show 150 < 2 ^ 31 by decide)
    obtain ⟨p1, q1⟩ := nIa (show 15 * nr + 1 < 150 by omega) (show 150 < 2 ^ 31 by decide)
    have e15 : 15 * nI nr = nI (15 * nr) := by rw [show (15 : Int32) = nI 15 from rfl, pk_mul]
    have u1 : up (up (up c' 3 nr 2 x) 3 nr 3 y) 5 0 1 0 0 0 14 = nI nr := by rw [up_reg (by decide), up_reg (by decide), up_reg (by decide)]; exact s5'
    have u2 : up r' 23 0 (15 * nr) x 20 0 21 = nI nr := by rw [up_reg (by decide)]; exact s6'
    have u3 : up (up (up r' 23 0 (15 * nr) x) 23 0 (15 * nr + 1) y) 20 0 27 0 20 0 21 = nI nr := by
      rw [← s6']
      simp [up]
    rw [bo_t, if_neg (show ¬ (1 : Int32) = 0 by decide), show bo (!true) = 0 from rfl, if_pos (show (0 : Int32) = 0 from rfl), mlt, mlt, mlt, mlt, s6', e15, if_pos p0, q0, mlt, u2, e15, nI_1, if_pos p1, q1, mlt, mlt, mlt, u1, u3, nI_1]
    have hR := Rel_rule (x := x) (y := y) h' hnr b1 b2 b3 hyb
    refine ⟨nI nr, ruC c' nr x y, ruR r' nr x y, ?_, ?_, nc, nl, nr + 1, 0, hR⟩
    · have e : up (up (up (up c' 3 nr 2 x) 3 nr 3 y) 5 0 1 0) 0 0 14 (nI (nr + 1)) 0 0 14 = nI (nr + 1) := by simp [up]
      rw [e, nI_pred]
      rfl
    · have e : up (up (up (up r' 23 0 (15 * nr) x) 23 0 (15 * nr + 1) y) 20 0 27 0) 20 0 21 (nI (nr + 1)) 20 0 21 = nI (nr + 1) := by simp [up]
      rw [e, nI_pred]
      rfl
