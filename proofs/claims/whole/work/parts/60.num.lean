/-! rule: numbers; frames while a rule is read -/
def FM (i : Nat) (c' c : F3) : Prop := (∀ g, g ≠ 3 → g ≠ 4 → g ≠ 16 → g ≠ 17 → g ≠ 18 → c' g = c g) ∧ ∀ g, g ≠ 4 → ∀ j, j ≠ i → c' g j = c g j
def FR (lo : Nat) (r' r : F3) : Prop := (∀ g, g ≠ 20 → g ≠ 23 → r' g = r g) ∧ (∀ k, k ≠ 28 → k ≠ 29 → k ≠ 30 → r' 20 0 k = r 20 0 k) ∧ ∀ j, j < lo → r' 23 0 j = r 23 0 j
theorem FM.tr {i : Nat} {a b d : F3} (x : FM i a b) (y : FM i b d) : FM i a d := ⟨fun g h1 h2 h3 h4 h5 => (x.1 g h1 h2 h3 h4 h5).trans (y.1 g h1 h2 h3 h4 h5), fun g hg j hj => (x.2 g hg j hj).trans (y.2 g hg j hj)⟩
theorem FR.tr {lo : Nat} {a b d : F3} (x : FR lo a b) (y : FR lo b d) : FR lo a d := ⟨fun g h1 h2 => (x.1 g h1 h2).trans (y.1 g h1 h2), fun k h1 h2 h3 => (x.2.1 k h1 h2 h3).trans (y.2.1 k h1 h2 h3), fun j hj => (x.2.2 j hj).trans (y.2.2 j hj)⟩
theorem FR.lo {lo lo2 : Nat} {a b : F3} (x : FR lo a b) (h : lo2 ≤ lo) : FR lo2 a b := ⟨x.1, x.2.1, fun j hj => x.2.2 j (by omega)⟩
theorem FM_rf (i : Nat) (c : F3) : FM i c c := ⟨fun _ _ _ _ _ _ => rfl, fun _ _ _ _ => rfl⟩
theorem FR_rf (lo : Nat) (r : F3) : FR lo r r := ⟨fun _ _ _ => rfl, fun _ _ _ _ => rfl, fun _ _ => rfl⟩
theorem FM_4 {i : Nat} {c' c : F3} (h : F4 c' c) : FM i c' c := ⟨fun g _ h4 _ _ _ => h g h4, fun g hg j _ => by rw [h g hg]⟩
theorem FR_20 {lo : Nat} {r' r : F3} (h : F20 r' r) : FR lo r' r := ⟨fun g h20 _ => h.1 g h20, h.2, fun j _ => by rw [h.1 23 (by decide)]⟩
theorem FM_up (c : F3) (g i k : Nat) (x : Int32) (hg : g = 3 ∨ g = 16 ∨ g = 17 ∨ g = 18) : FM i (up c g i k x) c := ⟨fun g' h1 h2 h3 h4 h5 => up_reg (by omega), fun g' _ j hj => up_other c g i k x (fun q => hj q.2)⟩
theorem FR_up (r : F3) {lo j : Nat} (x : Int32) (hj : lo ≤ j) : FR lo (up r 23 0 j x) r := ⟨fun g _ h23 => up_reg h23, fun k _ _ _ => by rw [up_reg (by decide)], fun t ht => by
  simp only [up]
  rw [if_neg (by omega)]⟩
section PB
variable {T : Nat → Int32} {nt p : Nat} {c r : F3} {b : Bool}
theorem HC_fm {i : Nat} {c' : F3} (h : HC T nt c p) (hf : FM i c' c) {p' : Nat} (hp : c' 4 0 1 = nI p') (hn : p' ≤ nt) : HC T nt c' p' := ⟨by rw [hf.1 5 (by decide) (by decide) (by decide) (by decide) (by decide)]; exact h.1, hp, hn, fun t ht => by rw [hf.1 15 (by decide) (by decide) (by decide) (by decide) (by decide)]; exact h.2.2.2 t ht⟩
theorem HC_up (h : HC T nt c p) (g i k : Nat) (x : Int32) (hg : g = 3 ∨ g = 16 ∨ g = 17 ∨ g = 18) : HC T nt (up c g i k x) p := HC_fm h (FM_up c g i k x hg) (by rw [up_reg (show (4 : Nat) ≠ g by omega)]; exact h.2.1) h.2.2.1
theorem HR_fm {lo : Nat} {r' : F3} (h : HR T nt r p b) (hf : FR lo r' r) {p' : Nat} {b' : Bool} (hp : r' 20 0 28 = nI p') (hb : r' 20 0 29 = bo b') : HR T nt r' p' b' := ⟨by rw [hf.2.1 27 (by decide) (by decide) (by decide)]; exact h.1, hp, hb, fun t ht => by rw [hf.1 26 (by decide) (by decide)]; exact h.2.2.2 t ht⟩
theorem HR_23 (h : HR T nt r p b) (j : Nat) (x : Int32) : HR T nt (up r 23 0 j x) p b := HR_fm h (FR_up (lo := 0) r x (Nat.zero_le j)) (by rw [up_reg (by decide)]; exact h.2.1) (by rw [up_reg (by decide)]; exact h.2.2.1)
theorem HR_30 (h : HR T nt r p b) (x : Int32) : HR T nt (up r 20 0 30 x) p b := HR_fr h (F20_up r (Or.inr (Or.inr rfl)) x) (by rw [← h.2.1]; simp [up]) (by rw [← h.2.2.1]; simp [up])
theorem HR_29 (h : HR T nt r p b) (b' : Bool) : HR T nt (up r 20 0 29 (bo b')) p b' := HR_fr h (F20_up r (Or.inr (Or.inl rfl)) _) (by rw [← h.2.1]; simp [up]) (by simp [up])
theorem R_68 (h : HR T nt r p false) {k : Nat} (hk : k < 2 ^ 31) : ∃ r', S_X7_digits_68 r (nI k) = some r' ∧ F20 r' r ∧ HR T nt r' p (decide (k = 0)) ∧ r' 20 0 30 = r 20 0 30 := by
  unfold S_X7_digits_68 S_X7_digits_80 S_X7_digits_85
  rw [h.2.2.1, bo_f, if_pos rfl]
  by_cases q : k = 0
  · subst q
    rw [if_pos (show nI 0 = 0 from rfl), if_pos (show okB 1 = true by decide), mlt]
    exact ⟨_, rfl, F20_up r (Or.inr (Or.inl rfl)) _, HR_29 h true, by simp [up]⟩
  · rw [if_neg (nI_ne0 (by omega) hk), if_pos (show okB 0 = true by decide), mlt, decide_eq_false q]
    exact ⟨_, rfl, F20_up r (Or.inr (Or.inl rfl)) _, HR_29 h false, by simp [up]⟩
theorem R_digits_bad (h : HR T nt r p true) : ∃ r', S_X7_digits r = some r' ∧ F20 r' r ∧ HR T nt r' p true := by
  have h1 := HR_30 h 0
  unfold S_X7_digits
  rw [mlt, show FU = 599 + 1 from rfl, S_X7_digits_7, h1.2.2.1, bo_t, if_neg (show ¬ (1 : Int32) = 0 by decide)]
  unfold S_X7_digits_68 S_X7_digits_80 S_X7_digits_85
  rw [h1.2.2.1, bo_t, if_neg (show ¬ (1 : Int32) = 0 by decide), if_pos (show okB 1 = true by decide), mlt]
  exact ⟨_, rfl, (F20_up _ (Or.inr (Or.inl rfl)) _).tr (F20_up r (Or.inr (Or.inr rfl)) _), HR_29 h1 true⟩
theorem dg_of {d : Int32} (h1 : 48 ≤ d.toInt) (h2 : d.toInt ≤ 57) : ∃ e : Nat, e ≤ 9 ∧ d = nI (48 + e) := by
  obtain ⟨j, hj, e1, e2⟩ := nI_ofT (x := d) (by omega)
  refine ⟨j - 48, by omega, ?_⟩
  rw [e1]
  congr 1
  omega
theorem sub48 {d : Int32} (h : -1 ≤ d.toInt ∧ d.toInt < 256) : (d - 48).toInt = d.toInt - 48 := by
  rw [Int32.toInt_sub, show (48 : Int32).toInt = 48 from rfl, fb_bmod0 (by omega) (by omega)]
theorem sim_num_loop (hT : HT T nt) : ∀ (m k v n1 n2 : Nat) (c r : F3) (p : Nat) (x z : Int32), k + m = 4 → m < n1 → m < n2 → z = nI k → (v + 1) * 10 ^ m ≤ 10000 → (k = 0 → x = -1 ∧ v = 0) → (k ≠ 0 → x = nI v) → r 20 0 30 = nI v → HC T nt c p → HR T nt r p false → ∃ (ok : Bool) (p' v' : Nat) (y : Int32) (c' r' : F3), S_X3_takeNumber_4 n1 c x z = some (y, c') ∧ S_X7_digits_7 n2 r z = some r' ∧ (ok = true → y = nI v' ∧ v' < 10000 ∧ r' 20 0 30 = nI v') ∧ (ok = false → y = -1) ∧ F4 c' c ∧ F20 r' r ∧ HC T nt c' p' ∧ HR T nt r' p' (!ok)
  | m, k, v, n1 + 1, n2 + 1, c, r, p, x, z, hk, hn1, hn2, hz, hv, hx0, hx1, h30, hc, hr => by
    have hv1 : v < 10000 := by
      have := Nat.le_mul_of_pos_right (v + 1) (Nat.pow_pos (n := m) (show 0 < 10 by decide))
      omega
    obtain ⟨rf, f1, f2, f3, f4⟩ := R_68 (k := k) hr (by omega)
    have fin : ∀ w : Option (Int32 × F3), w = some (x, c) → ∃ (ok : Bool) (p' v' : Nat) (y : Int32) (c' r' : F3), w = some (y, c') ∧ S_X7_digits_68 r (nI k) = some r' ∧ (ok = true → y = nI v' ∧ v' < 10000 ∧ r' 20 0 30 = nI v') ∧ (ok = false → y = -1) ∧ F4 c' c ∧ F20 r' r ∧ HC T nt c' p' ∧ HR T nt r' p' (!ok) := by
      intro w hw
      by_cases q : k = 0
      · rw [decide_eq_true q] at f3
        exact ⟨false, p, v, x, c, rf, hw, f1, fun e => (by cases e), fun _ => (hx0 q).1, F4_rf c, f2, hc, f3⟩
      · rw [decide_eq_false q] at f3
        exact ⟨true, p, v, x, c, rf, hw, f1, fun _ => ⟨hx1 q, hv1, by rw [f4]; exact h30⟩, fun e => (by cases e), F4_rf c, f2, hc, f3⟩
    rw [hz, S_X3_takeNumber_4, S_X7_digits_7, hr.2.2.1, bo_f, if_pos (show (0 : Int32) = 0 from rfl)]
    by_cases k4 : k = 4
    · have e4 : (4 : Int32) ≤ nI k := by rw [k4]; decide
      rw [if_pos e4, if_pos e4]
      exact fin _ rfl
    · have e4 : ¬ (4 : Int32) ≤ nI k := nle_of (n := 4) (by omega) (by decide)
      have hd := hT.in p
      have hs := sub48 hd
      rw [if_neg e4, if_neg e4, C_at hT hc, mb2, R_here hT hr hc.2.2.1, mb2, R_in, mb2]
      by_cases g1 : 48 ≤ (T p).toInt ∧ (T p).toInt ≤ 57
      · obtain ⟨e, he, ed⟩ := dg_of g1.1 g1.2
        have hw : ¬ wi (T p) 48 57 = 0 := fun q => wi_1.mp q g1
        have hp : p < nt := hT.m1 hc.2.2.1 (fun q => by rw [q] at g1; exact absurd g1.1 (by decide))
        rw [if_neg (show ¬ (T p - 48 < 0) by rw [fa_lt, hs]; show ¬ ((T p).toInt - 48 < 0); omega), if_pos (show T p - 48 ≤ 9 by rw [fa_le, hs]; show (T p).toInt - 48 ≤ 9; omega), if_neg hw, R_here hT hr hc.2.2.1, mb2, mlt, mlt]
        unfold S_X3_takeNumber_51
        have e28 : up r 20 0 30 (10 * r 20 0 30 + T p - 48) 20 0 28 = nI p := by
          rw [← hr.2.1]
          simp [up]
        rw [mlt, mlt, hc.2.1, e28, nI_1, nI_1, h30, ed]
        have er : 10 * nI v + nI (48 + e) - 48 = nI (10 * v + e) := by
          rw [show (10 : Int32) = nI 10 from rfl, pk_mul, nI_add, show (48 : Int32) = nI 48 from rfl, pk_sub (by omega)]
          congr 1
          omega
        have ec : nI (48 + e) - 48 = nI e := by
          rw [show (48 : Int32) = nI 48 from rfl, pk_sub (by omega)]
          congr 1
          omega
        have hr1 := HR_s (HR_30 hr (nI (10 * v + e)))
        have hc1 := HC_s hc hp
        have hb : (10 * v + e + 1) * 10 ^ (m - 1) ≤ 10000 := by
          have e1 : 10 ^ m = 10 ^ (m - 1) * 10 := by
            rw [← Nat.pow_succ]
            congr 1
            omega
          rw [e1] at hv
          have e2 : (10 * v + e + 1) * 10 ^ (m - 1) ≤ (10 * (v + 1)) * 10 ^ (m - 1) := Nat.mul_le_mul_right _ (by omega)
          have e3 : (10 * (v + 1)) * 10 ^ (m - 1) = (v + 1) * (10 ^ (m - 1) * 10) := by
            rw [Nat.mul_comm 10 (v + 1), Nat.mul_assoc, Nat.mul_comm 10 (10 ^ (m - 1))]
          omega
        rw [er, ec]
        have ih := fun y (hy : y = nI (10 * v + e)) => sim_num_loop hT (m - 1) (k + 1) (10 * v + e) n1 n2 (up c 4 0 1 (nI (p + 1))) (up (up r 20 0 30 (nI (10 * v + e))) 20 0 28 (nI (p + 1))) (p + 1) y (nI (k + 1)) (by omega) (by omega) (by omega) rfl hb (fun q => absurd q (by omega)) (fun _ => hy) (by simp [up]) hc1 hr1
        have wrap : ∀ y, y = nI (10 * v + e) → ∃ (ok : Bool) (p' v' : Nat) (y' : Int32) (c' r' : F3), S_X3_takeNumber_4 n1 (up c 4 0 1 (nI (p + 1))) y (nI (k + 1)) = some (y', c') ∧ S_X7_digits_7 n2 (up (up r 20 0 30 (nI (10 * v + e))) 20 0 28 (nI (p + 1))) (nI (k + 1)) = some r' ∧ (ok = true → y' = nI v' ∧ v' < 10000 ∧ r' 20 0 30 = nI v') ∧ (ok = false → y' = -1) ∧ F4 c' c ∧ F20 r' r ∧ HC T nt c' p' ∧ HR T nt r' p' (!ok) := by
          intro y hy
          obtain ⟨ok, p', v', y', c', r', a1, a2, a3, a4, a5, a6, a7, a8⟩ := ih y hy
          exact ⟨ok, p', v', y', c', r', a1, a2, a3, a4, a5.tr (F4_up c 1 _), a6.tr ((F20_up _ (Or.inl rfl) _).tr (F20_up r (Or.inr (Or.inr rfl)) _)), a7, a8⟩
        by_cases k0 : k = 0
        · obtain ⟨x0, v0⟩ := hx0 k0
          rw [if_pos x0]
          exact wrap _ (by rw [v0]; congr 1; omega)
        · have x1 := hx1 k0
          have xn : ¬ x = -1 := by
            rw [x1]
            intro q
            have := congrArg Int32.toInt q
            rw [nI_toInt (by omega)] at this
            have e : (-1 : Int32).toInt = -1 := by decide
            omega
          rw [if_neg xn]
          exact wrap _ (by rw [x1, show (10 : Int32) = nI 10 from rfl, pk_mul, nI_add]; congr 1; omega)
      · have hw : wi (T p) 48 57 = 0 := wi_1.mpr g1
        rw [if_pos hw]
        by_cases g2 : (T p).toInt < 48
        · rw [if_pos (show T p - 48 < 0 by rw [fa_lt, hs]; show (T p).toInt - 48 < 0; omega)]
          exact fin _ rfl
        · rw [if_neg (show ¬ (T p - 48 < 0) by rw [fa_lt, hs]; show ¬ ((T p).toInt - 48 < 0); omega), if_neg (show ¬ (T p - 48 ≤ 9) by rw [fa_le, hs]; show ¬ ((T p).toInt - 48 ≤ 9); omega)]
          exact fin _ rfl
  | _, _, _, 0, _, _, _, _, _, _, _, h, _, _, _, _, _, _, _, _ => absurd h (Nat.not_lt_zero _)
  | _, _, _, _, 0, _, _, _, _, _, _, _, h, _, _, _, _, _, _, _ => absurd h (Nat.not_lt_zero _)
theorem sim_numb (hT : HT T nt) (hc : HC T nt c p) (hr : HR T nt r p false) : ∃ (ok : Bool) (p' v' : Nat) (y : Int32) (c' r' : F3), S_X3_takeNumber c = some (y, c') ∧ S_X7_digits r = some r' ∧ (ok = true → y = nI v' ∧ v' < 10000 ∧ r' 20 0 30 = nI v') ∧ (ok = false → y = -1) ∧ F4 c' c ∧ F20 r' r ∧ HC T nt c' p' ∧ HR T nt r' p' (!ok) := by
  have hr1 := HR_30 hr 0
  obtain ⟨ok, p', v', y', c', r', a1, a2, a3, a4, a5, a6, a7, a8⟩ := sim_num_loop hT 4 0 0 FU FU c (up r 20 0 30 0) p (-1) 0 rfl (FU_gt (by decide)) (FU_gt (by decide)) rfl (by decide) (fun _ => ⟨rfl, rfl⟩) (fun q => absurd rfl q) (by simp [up]; rfl) hc hr1
  exact ⟨ok, p', v', y', c', r', a1, a2, a3, a4, a5, a6.tr (F20_up r (Or.inr (Or.inr rfl)) _), a7, a8⟩
theorem sim_sign (hT : HT T nt) (hc : HC T nt c p) (hr : HR T nt r p false) {x : Int32} (hx : x ≠ -1) : ∃ (ok : Bool) (p' : Nat) (c' r' : F3), S_X3_takeSign c x = some (bo ok, c') ∧ S_X7_eats r x = some r' ∧ F4 c' c ∧ F20 r' r ∧ HC T nt c' p' ∧ HR T nt r' p' (!ok) := by
  obtain ⟨c', a1, a2, a3⟩ := C_sign hT hc hx
  obtain ⟨r', b1, b2, b3, b4⟩ := R_eats hT hr hc.2.2.1 hx
  refine ⟨!(et T x (p, false)).2, _, c', r', a1, b1, a2, b2, a3, ?_⟩
  rw [Bool.not_not]
  exact b3
end PB
