/-! rule: one test -/
def tsC (f : F3) (i1 : Nat) (x2 x3 r11 : Int32) : Option (Int32 × F3) := mm_b2 (S_X3_takeNumber f) fun r13 f12 => if r13 = (-1) then (some (0, f12)) else (if (f12 3 i1 5) < 3 then (if okI (f12 3 i1 5) 3 then (mm_let (up f12 16 i1 (f12 3 i1 5).toNatClampNeg x2) fun f17 => if okI (f17 3 i1 5) 3 then (mm_let (up f17 17 i1 (f17 3 i1 5).toNatClampNeg x3) fun f19 => if r11 = 0 then (S_X3_takeTest_125 f19 i1 (f19 3 i1 5) r13 i1) else (S_X3_takeTest_125 f19 i1 (f19 3 i1 5) (-r13) i1)) else none) else none) else (some (0, f12)))
theorem t44_eq (f : F3) (i1 : Nat) (x2 x3 : Int32) : S_X3_takeTest_44 f i1 x2 x3 = mm_let (up f 4 0 1 ((f 4 0 1) + 1)) fun f9 => mm_b2 (S_X3_takeSign f9 45) fun r11 f10 => tsC f10 i1 x2 x3 r11 := rfl
/-- what a test leaves in the class -/
def tcC (c : F3) (i m : Nat) (k s l : Int32) : F3 := up (up (up (up c 16 i m k) 17 i m s) 18 i m l) 3 i 5 (nI (m + 1))
theorem tcC_FM (c : F3) (i m : Nat) (k s l : Int32) : FM i (tcC c i m k s l) c := (FM_up _ 3 i 5 _ (by decide)).tr ((FM_up _ 18 i m _ (by decide)).tr ((FM_up _ 17 i m _ (by decide)).tr (FM_up c 16 i m _ (by decide))))
theorem tcC_4 (c : F3) (i m : Nat) (k s l : Int32) : tcC c i m k s l 4 = c 4 := by
  unfold tcC
  rw [up_reg (by decide), up_reg (by decide), up_reg (by decide), up_reg (by decide)]
theorem tcC_3 (c : F3) (i m : Nat) (k s l : Int32) {j : Nat} (hj : j ≠ 5) : tcC c i m k s l 3 i j = c 3 i j := by simp [tcC, up, hj]
theorem tcC_35 (c : F3) (i m : Nat) (k s l : Int32) : tcC c i m k s l 3 i 5 = nI (m + 1) := by simp [tcC, up]
theorem tcC_16 (c : F3) (i m : Nat) (k s l : Int32) (t : Nat) : tcC c i m k s l 16 i t = if t = m then k else c 16 i t := by simp [tcC, up]
theorem tcC_17 (c : F3) (i m : Nat) (k s l : Int32) (t : Nat) : tcC c i m k s l 17 i t = if t = m then s else c 17 i t := by simp [tcC, up]
theorem tcC_18 (c : F3) (i m : Nat) (k s l : Int32) (t : Nat) : tcC c i m k s l 18 i t = if t = m then l else c 18 i t := by simp [tcC, up]
section PC
variable {T : Nat → Int32} {nt p : Nat} {c r : F3} {b : Bool}
theorem nIa {a n : Nat} (h : a < n) (hn : n < 2 ^ 31) : okI (nI a) n = true ∧ (nI a).toNatClampNeg = a := ⟨okI_nI h hn, nI_clamp (by omega)⟩
theorem nI_p2 (a : Nat) : nI a + 2 = nI (a + 2) := by rw [show (2 : Int32) = nI 2 from rfl, nI_add]
theorem nI_p3 (a : Nat) : nI a + 3 = nI (a + 3) := by rw [show (3 : Int32) = nI 3 from rfl, nI_add]
theorem nI_p4 (a : Nat) : nI a + 4 = nI (a + 4) := by rw [show (4 : Int32) = nI 4 from rfl, nI_add]
theorem nI_p5 (a : Nat) : nI a + 5 = nI (a + 5) := by rw [show (5 : Int32) = nI 5 from rfl, nI_add]
theorem t141_eq (f : F3) {a : Nat} (ha : a < 150) (x : Int32) : S_X7_test_141 f (nI a) x = some (up f 23 0 a x) := by
  unfold S_X7_test_141
  rw [if_pos (nIa ha (by decide)).1, mlt, (nIa ha (by decide)).2]
theorem t105_eq (f : F3) {a : Nat} (ha : a + 2 < 150) (s x : Int32) {f2 : F3} (h : S_X7_digits f = some f2) : S_X7_test_105 f (nI a) s x = some (up (up f2 23 0 (a + 1) s) 23 0 (a + 2) (if x = 0 then f2 20 0 30 else - f2 20 0 30)) := by
  unfold S_X7_test_105
  have e30 : up f2 23 0 (a + 1) s 20 0 30 = f2 20 0 30 := by rw [up_reg (by decide)]
  rw [h, mob, nI_1, nI_p2, if_pos (nIa (show a + 1 < 150 by omega) (by decide)).1, mlt, (nIa (show a + 1 < 150 by omega) (by decide)).2, t141_eq _ ha, t141_eq _ ha, e30]
  by_cases q : x = 0
  · rw [if_pos q, if_pos q]
  · rw [if_neg q, if_neg q]
theorem R_69_bad (h : HR T nt r p true) {a : Nat} (ha : a + 2 < 150) (s : Int32) : ∃ r', S_X7_test_69 r (nI a) s = some r' ∧ FR (a + 1) r' r ∧ HR T nt r' p true := by
  obtain ⟨f2, a1, a2, a3⟩ := R_digits_bad h
  unfold S_X7_test_69 S_X7_test_89 S_X7_test_90
  rw [h.2.2.1, bo_t, if_neg (show ¬ (1 : Int32) = 0 by decide), if_pos (show (0 : Int32) = 0 from rfl), t105_eq r ha s 0 a1]
  exact ⟨_, rfl, (FR_up _ _ (by omega)).tr ((FR_up _ _ (by omega)).tr (FR_20 a2)), HR_23 (HR_23 a3 _ _) _ _⟩
theorem R_64_bad (h : HR T nt r p b) {a : Nat} (ha : a + 2 < 150) (s : Int32) : ∃ r', S_X7_test_64 r (nI a) s = some r' ∧ FR (a + 1) r' r ∧ HR T nt r' p true := by
  unfold S_X7_test_64
  rw [mlt]
  obtain ⟨r', a1, a2, a3⟩ := R_69_bad (HR_29 h true) ha s
  exact ⟨r', a1, a2.tr (FR_20 (F20_up r (Or.inr (Or.inl rfl)) _)), a3⟩
theorem R_test_bad (hT : HT T nt) (h : HR T nt r p true) (hp : p ≤ nt) {a : Nat} (ha : a + 2 < 150) : ∃ r', S_X7_test r (nI a) = some r' ∧ FR a r' r ∧ HR T nt r' p true := by
  have h1 := HR_23 h a 0
  unfold S_X7_test S_X7_test_20
  rw [h.2.2.1, bo_t, if_neg (show ¬ (1 : Int32) = 0 by decide), if_pos (nIa (show a < 150 by omega) (by decide)).1, (nIa (show a < 150 by omega) (by decide)).2, mlt, R_here hT h1 hp, mb2, h1.2.2.1, bo_t, if_neg (show ¬ (1 : Int32) = 0 by decide)]
  obtain ⟨r', a1, a2, a3⟩ := R_64_bad h1 ha (T p)
  exact ⟨r', a1, (a2.lo (by omega)).tr (FR_up r _ (Nat.le_refl a)), a3⟩
/-- from the number on; x: whether a minus stood there -/
theorem sim_test3 (hT : HT T nt) (hc : HC T nt c p) (hr : HR T nt r p false) {nr m a : Nat} (hm : m < 3) (h5 : c 3 nr 5 = nI m) (ha : a + 2 < 150) (k s x : Int32) : ∃ (ok : Bool) (p' : Nat) (l : Int32) (c1 c' r' : F3), tsC c nr k s x = some (bo ok, c') ∧ S_X7_test_105 r (nI a) s x = some r' ∧ F4 c1 c ∧ (ok = false → c' = c1) ∧ (ok = true → c' = tcC c1 nr m k s l ∧ r' 23 0 (a + 1) = s ∧ r' 23 0 (a + 2) = l) ∧ FR (a + 1) r' r ∧ HC T nt c' p' ∧ HR T nt r' p' (!ok) := by
  obtain ⟨ok, p', v, y, c1, r1, a1, a2, a3, a4, a5, a6, a7, a8⟩ := sim_numb hT hc hr
  have e5 : c1 3 nr 5 = nI m := by rw [a5 3 (by decide)]; exact h5
  rw [t105_eq r ha s x a2]
  unfold tsC
  rw [a1, mb2]
  have hr2 := HR_23 (HR_23 a8 (a + 1) s) (a + 2) (if x = 0 then r1 20 0 30 else - r1 20 0 30)
  have fr : FR (a + 1) (up (up r1 23 0 (a + 1) s) 23 0 (a + 2) (if x = 0 then r1 20 0 30 else - r1 20 0 30)) r := (FR_up _ _ (by omega)).tr ((FR_up _ _ (by omega)).tr (FR_20 a6))
  cases ok
  · rw [if_pos (a4 rfl)]
    exact ⟨false, p', 0, c1, c1, _, rfl, rfl, a5, fun _ => rfl, fun e => (by cases e), fr, a7, hr2⟩
  · obtain ⟨b1, b2, b3⟩ := a3 rfl
    have yn : ¬ y = -1 := by
      rw [b1]
      intro q
      have := congrArg Int32.toInt q
      rw [nI_toInt (by omega)] at this
      have e : (-1 : Int32).toInt = -1 := by decide
      omega
    have l3 : nI m < 3 := nI_lt (b := 3) hm (by decide)
    obtain ⟨o3, k3⟩ := nIa hm (show 3 < 2 ^ 31 by decide)
    have u5 : ∀ g j z, g ≠ 3 → ∀ f : F3, f 3 nr 5 = nI m → up f g nr j z 3 nr 5 = nI m := fun g j z hg f hf => by rw [up_reg (Ne.symm hg)]; exact hf
    have g1 := u5 16 m k (by decide) c1 e5
    have g2 := u5 17 m s (by decide) _ g1
    have t125 : ∀ z, S_X3_takeTest_125 (up (up c1 16 nr m k) 17 nr m s) nr (nI m) z nr = some (1, tcC c1 nr m k s z) := by
      intro z
      have g3 := u5 18 m z (by decide) _ g2
      unfold S_X3_takeTest_125
      rw [if_pos o3, k3, mlt, mlt, g3, nI_1]
      rfl
    rw [if_neg yn, e5, if_pos l3, if_pos o3, mlt, k3, g1, if_pos o3, mlt, k3, g2, t125, t125, b1, b3]
    have hcc : ∀ z, HC T nt (tcC c1 nr m k s z) p' := fun z => HC_fm a7 (tcC_FM c1 nr m k s z) (by rw [tcC_4]; exact a7.2.1) a7.2.2.1
    rw [b3] at hr2 fr
    refine ⟨true, p', if x = 0 then nI v else - nI v, c1, tcC c1 nr m k s (if x = 0 then nI v else - nI v), _, ?_, rfl, a5, fun e => (by cases e), fun _ => ⟨rfl, by simp [up], by simp [up]⟩, fr, hcc _, hr2⟩
    by_cases q : x = 0
    · rw [if_pos q, if_pos q]
      rfl
    · rw [if_neg q, if_neg q]
      rfl
/-- from the sign on -/
theorem sim_test2 (hT : HT T nt) (hc : HC T nt c p) (hr : HR T nt r p false) (hp : p < nt) {nr m a : Nat} (hm : m < 3) (h5 : c 3 nr 5 = nI m) (ha : a + 2 < 150) (k s : Int32) : ∃ (ok : Bool) (p' : Nat) (l : Int32) (c1 c' r' : F3), S_X3_takeTest_44 c nr k s = some (bo ok, c') ∧ S_X7_test_51 r (nI a) s = some r' ∧ F4 c1 c ∧ (ok = false → c' = c1) ∧ (ok = true → c' = tcC c1 nr m k s l ∧ r' 23 0 (a + 1) = s ∧ r' 23 0 (a + 2) = l) ∧ FR (a + 1) r' r ∧ HC T nt c' p' ∧ HR T nt r' p' (!ok) := by
  have hc1 := HC_s hc hp
  have hr1 := HR_s hr
  obtain ⟨c2, d1, d2, d3⟩ := C_sign hT hc1 (x := 45) (by decide)
  have f2 : F4 c2 c := d2.tr (F4_up c 1 _)
  have h52 : c2 3 nr 5 = nI m := by rw [f2 3 (by decide)]; exact h5
  rw [t44_eq]
  unfold S_X7_test_51 S_X7_test_69
  rw [mlt, mlt, hc.2.1, hr.2.1, nI_1, d1, mb2, hr1.2.2.1, bo_f, if_pos (show (0 : Int32) = 0 from rfl), R_here hT hr1 hc1.2.2.1, mb2]
  by_cases q : T (p + 1) = 45
  · rw [et_t q] at d3 ⊢
    have hr2 := HR_s hr1
    unfold S_X7_test_90
    rw [if_pos q, if_neg (show ¬ (1 : Int32) = 0 by decide), mlt, hr1.2.1, nI_1]
    obtain ⟨ok, p', l, c1, c', r', a1, a2, a3, a4, a5, a6, a7, a8⟩ := sim_test3 hT d3 hr2 hm h52 ha k s 1
    exact ⟨ok, p', l, c1, c', r', a1, a2, a3.tr f2, a4, a5, a6.tr ((FR_20 (F20_up _ (Or.inl rfl) _)).tr (FR_20 (F20_up r (Or.inl rfl) _))), a7, a8⟩
  · rw [et_f q] at d3 ⊢
    unfold S_X7_test_89 S_X7_test_90
    rw [if_neg q, if_pos (show (0 : Int32) = 0 from rfl)]
    obtain ⟨ok, p', l, c1, c', r', a1, a2, a3, a4, a5, a6, a7, a8⟩ := sim_test3 hT d3 hr1 hm h52 ha k s 0
    exact ⟨ok, p', l, c1, c', r', a1, a2, a3.tr f2, a4, a5, a6.tr (FR_20 (F20_up r (Or.inl rfl) _)), a7, a8⟩
/-- what is read so far -/
def PS (nr m : Nat) (c r : F3) : Prop := (c 3 nr 0 = r 23 0 (15 * nr + 2) ∧ c 3 nr 1 = r 23 0 (15 * nr + 3)) ∧ (c 3 nr 4 = r 23 0 (15 * nr + 5) ∧ (c 3 nr 4 = 0 ∨ c 3 nr 4 = 1)) ∧ c 3 nr 5 = nI m ∧ ∀ t, t < m → c 16 nr t = r 23 0 (15 * nr + 6 + 3 * t) ∧ c 17 nr t = r 23 0 (15 * nr + 7 + 3 * t) ∧ c 18 nr t = r 23 0 (15 * nr + 8 + 3 * t) ∧ 0 ≤ (c 16 nr t).toInt ∧ (c 16 nr t).toInt ≤ 4
theorem PS_fr {nr m : Nat} {c' r' : F3} (h : PS nr m c r) (hc : F4 c' c) (hr : F20 r' r) : PS nr m c' r' := by
  unfold PS
  rw [hc 3 (by decide), hc 16 (by decide), hc 17 (by decide), hc 18 (by decide), hr.1 23 (by decide)]
  exact h
theorem sim_test (hT : HT T nt) (hc : HC T nt c p) (hr : HR T nt r p false) {nr m : Nat} (hnr : nr < 10) (hm : m < 3) (hP : PS nr m c r) : ∃ (ok : Bool) (p' : Nat) (c' r' : F3), S_X3_takeTest c nr = some (bo ok, c') ∧ S_X7_test r (nI (15 * nr + 6 + 3 * m)) = some r' ∧ FM nr c' c ∧ FR (15 * nr + 6 + 3 * m) r' r ∧ HC T nt c' p' ∧ HR T nt r' p' (!ok) ∧ c' 3 nr 4 = c 3 nr 4 ∧ (ok = true → PS nr (m + 1) c' r') := by
  obtain ⟨⟨P0, P1⟩, ⟨P4, P4b⟩, P5, Pt⟩ := hP
  generalize hA : 15 * nr + 6 + 3 * m = a
  have ha : a + 2 < 150 := by omega
  obtain ⟨oa, ka⟩ := nIa (show a < 150 by omega) (show 150 < 2 ^ 31 by decide)
  obtain ⟨ok, p1, k, k', c1, r1, a1, a2, a3, a4, a5, a6, a7, a8⟩ := sim_field hT hc hr
  have h2 := HR_23 a8 a k'
  have f2 : FR a (up r1 23 0 a k') r := (FR_up r1 k' (Nat.le_refl a)).tr (FR_20 a6)
  have h51 : c1 3 nr 5 = nI m := by rw [a5 3 (by decide)]; exact P5
  unfold S_X3_takeTest S_X7_test S_X7_test_20
  rw [hr.2.2.1, bo_f, if_pos (show (0 : Int32) = 0 from rfl), a1, mb2, a2, mb2, if_pos oa, ka, mlt, R_here hT h2 a7.2.2.1, mb2, h2.2.2.1]
  cases ok
  · rw [if_pos (a4 rfl), show bo (!false) = 1 from rfl, if_neg (show ¬ (1 : Int32) = 0 by decide)]
    obtain ⟨r', b1, b2, b3⟩ := R_64_bad h2 ha (T p1)
    exact ⟨false, p1, c1, r', rfl, b1, FM_4 a5, (b2.lo (by omega)).tr f2, a7, b3, by rw [a5 3 (by decide)], fun e => (by cases e)⟩
  · obtain ⟨ek, ek0, ek4⟩ := a3 rfl
    have kn : ¬ k = -1 := by
      intro q
      rw [q] at ek0
      exact absurd ek0 (by decide)
    rw [if_neg kn, C_at hT a7, mb2, show bo (!true) = 0 from rfl, if_pos (show (0 : Int32) = 0 from rfl)]
    have cont : T p1 ≠ -1 → ∃ (ok : Bool) (p' : Nat) (c' r' : F3), S_X3_takeTest_44 c1 nr k (T p1) = some (bo ok, c') ∧ S_X7_test_51 (up r1 23 0 a k') (nI a) (T p1) = some r' ∧ FM nr c' c ∧ FR a r' r ∧ HC T nt c' p' ∧ HR T nt r' p' (!ok) ∧ c' 3 nr 4 = c 3 nr 4 ∧ (ok = true → PS nr (m + 1) c' r') := by
      intro hne
      obtain ⟨ok, p', l, c2, c', r', b1, b2, b3, b4, b5, b6, b7, b8⟩ := sim_test2 hT a7 h2 (hT.m1 a7.2.2.1 hne) hm h51 ha k (T p1)
      have F : F4 c2 c := b3.tr a5
      cases ok
      · rw [b4 rfl] at b1 b7
        exact ⟨false, p', c2, r', b1, b2, FM_4 F, (b6.lo (by omega)).tr f2, b7, b8, by rw [F 3 (by decide)], fun e => (by cases e)⟩
      · obtain ⟨d1, d2, d3⟩ := b5 rfl
        subst d1
        refine ⟨true, p', _, r', b1, b2, (tcC_FM c2 nr m _ _ _).tr (FM_4 F), (b6.lo (by omega)).tr f2, b7, b8, by rw [tcC_3 _ _ _ _ _ _ (by decide), F 3 (by decide)], fun _ => ?_⟩
        have rlow : ∀ j, j < a → r' 23 0 j = r 23 0 j := fun j hj => ((b6.lo (by omega)).tr f2).2.2 j hj
        have ra0 : r' 23 0 a = k' := by
          rw [b6.2.2 a (by omega)]
          simp [up]
        refine ⟨⟨?_, ?_⟩, ⟨?_, ?_⟩, tcC_35 _ _ _ _ _ _, fun t ht => ?_⟩
        · rw [tcC_3 _ _ _ _ _ _ (by decide), F 3 (by decide), rlow _ (by omega)]
          exact P0
        · rw [tcC_3 _ _ _ _ _ _ (by decide), F 3 (by decide), rlow _ (by omega)]
          exact P1
        · rw [tcC_3 _ _ _ _ _ _ (by decide), F 3 (by decide), rlow _ (by omega)]
          exact P4
        · rw [tcC_3 _ _ _ _ _ _ (by decide), F 3 (by decide)]
          exact P4b
        · rw [tcC_16, tcC_17, tcC_18]
          by_cases q : t = m
          · subst q
            rw [if_pos rfl, if_pos rfl, if_pos rfl, hA, show 15 * nr + 7 + 3 * t = a + 1 by omega, show 15 * nr + 8 + 3 * t = a + 2 by omega, ra0, d2, d3]
            exact ⟨ek, rfl, rfl, ek0, ek4⟩
          · rw [if_neg q, if_neg q, if_neg q, rlow _ (by omega), rlow _ (by omega), rlow _ (by omega), F 16 (by decide), F 17 (by decide), F 18 (by decide)]
            exact Pt t (by omega)
    by_cases q1 : T p1 = 61
    · rw [if_pos q1, if_pos q1]
      exact cont (by rw [q1]; decide)
    rw [if_neg q1, if_neg q1]
    by_cases q2 : T p1 = 60
    · rw [if_pos q2, if_pos q2]
      exact cont (by rw [q2]; decide)
    rw [if_neg q2, if_neg q2]
    by_cases q3 : T p1 = 62
    · rw [if_pos q3, if_pos q3]
      exact cont (by rw [q3]; decide)
    rw [if_neg q3, if_neg q3]
    obtain ⟨r', b1, b2, b3⟩ := R_64_bad h2 ha (T p1)
    exact ⟨false, p1, c1, r', rfl, b1, FM_4 a5, (b2.lo (by omega)).tr f2, a7, b3, by rw [a5 3 (by decide)], fun e => (by cases e)⟩
end PC
