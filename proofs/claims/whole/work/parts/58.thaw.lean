/-! thaw -/
def itr (x : Int32) : Nat → (Nat → Int32) → Nat → Int32
  | 0, v => v
  | t + 1, v => fPas x (itr x t v)
def eq4 (u v : Nat → Int32) : Prop := u 0 = v 0 ∧ u 1 = v 1 ∧ u 2 = v 2 ∧ u 6 = v 6
theorem okQ_4 {u v : Nat → Int32} (h : eq4 u v) (hv : okCe v) : okQ u := by
  obtain ⟨a, b, d, e⟩ := h
  unfold okQ
  rw [a, b, d, e]
  exact okQ_of hv
theorem bor_4 {u v : Nat → Int32} (h : eq4 u v) (w : Int32) : fBor w u = fBor w v := by
  obtain ⟨a, b, d, e⟩ := h
  unfold fBor
  rw [a, b]
theorem hea_4 {u v : Nat → Int32} (h : eq4 u v) (x : Int32) : eq4 (fHea x u) (fHea x v) := by
  have h' := h
  obtain ⟨a, b, d, e⟩ := h
  unfold fHea
  rw [a]
  by_cases h3 : v 0 = 3
  · rw [if_pos h3, if_pos h3]
    by_cases c0 : -100 ≤ x
    · rw [if_pos c0, if_pos c0]
      exact h'
    · rw [if_neg c0, if_neg c0, e]
      have n0 : ∀ z : Nat → Int32, z 0 = 3 → ¬ upd z 6 (v 6 + 1) 0 = 0 := fun z hz => by
        simp [upd, hz]
      by_cases c1 : v 6 + 1 = 24
      · rw [if_pos c1, if_pos c1]
        unfold fBec
        rw [if_neg (n0 u (a.trans h3)), if_neg (n0 v h3)]
        refine ⟨?_, ?_, ?_, ?_⟩ <;> simp [upd, b, d]
      · rw [if_neg c1, if_neg c1]
        refine ⟨?_, ?_, ?_, ?_⟩ <;> simp [upd, a, b, d]
  · rw [if_neg h3, if_neg h3]
    exact h'
theorem pas_4 {u v : Nat → Int32} (h : eq4 u v) (x : Int32) : eq4 (fPas x u) (fPas x v) := by
  have h' := h
  obtain ⟨a, b, d, e⟩ := h
  unfold fPas
  rw [a]
  by_cases h4 : v 0 = 4
  · rw [if_pos h4, if_pos h4]
    exact h'
  · rw [if_neg h4, if_neg h4]
    by_cases h0 : x = 0
    · rw [if_pos h0, if_pos h0]
      exact hea_4 h' x
    · rw [if_neg h0, if_neg h0]
      have et : fThk x u = fThk x v := by
        unfold fThk fGro fRat fDen
        rw [a, b, d]
      rw [et]
      refine hea_4 ?_ x
      refine ⟨?_, ?_, ?_, ?_⟩ <;> simp [upd, a, d, e]
theorem hea_k {x : Int32} {v : Nat → Int32} {k : Nat} (h0 : k ≠ 0) (h5 : k ≠ 5) (h6 : k ≠ 6) (h7 : k ≠ 7) : fHea x v k = v k := by
  unfold fHea
  split
  · split
    · rfl
    · split
      · simp only [upd, if_neg h5]
        rw [fBec_k h0 h7]
        simp only [upd, if_neg h6]
      · simp only [upd, if_neg h6]
  · rfl
theorem pas_k {x : Int32} {v : Nat → Int32} {k : Nat} (h0 : k ≠ 0) (h1 : k ≠ 1) (h5 : k ≠ 5) (h6 : k ≠ 6) (h7 : k ≠ 7) : fPas x v k = v k := by
  unfold fPas
  split
  · rfl
  · split
    · exact hea_k h0 h5 h6 h7
    · rw [hea_k h0 h5 h6 h7]
      simp only [upd, if_neg h1]
theorem itr_k {x : Int32} {v : Nat → Int32} {k : Nat} (h0 : k ≠ 0) (h1 : k ≠ 1) (h5 : k ≠ 5) (h6 : k ≠ 6) (h7 : k ≠ 7) : ∀ t, itr x t v k = v k
  | 0 => rfl
  | t + 1 => by rw [itr, pas_k h0 h1 h5 h6 h7, itr_k h0 h1 h5 h6 h7 t]
theorem itr_ok {x : Int32} (hx : -600 ≤ x.toInt ∧ x.toInt ≤ 300) {v : Nat → Int32} (h : okCe v) : ∀ t, okCe (itr x t v)
  | 0 => h
  | t + 1 => okCe_pas (itr_ok hx h t) hx
/-- how many hours more P holds, at most m -/
def hrs (P : Nat → Bool) : Nat → Nat → Nat
  | 0, t => t
  | m + 1, t => if P (t + 1) = true then hrs P m (t + 1) else t
theorem hrs_sp (P : Nat → Bool) : ∀ (m t : Nat), t ≤ hrs P m t ∧ hrs P m t ≤ t + m ∧ (∀ u, t < u → u ≤ hrs P m t → P u = true) ∧ (hrs P m t < t + m → P (hrs P m t + 1) = false)
  | 0, t => ⟨Nat.le_refl _, by simp [hrs], fun u h1 h2 => by simp [hrs] at h2; omega, fun h => by simp [hrs] at h⟩
  | m + 1, t => by
    rw [hrs]
    by_cases q : P (t + 1) = true
    · rw [if_pos q]
      obtain ⟨a, b, d, e⟩ := hrs_sp P m (t + 1)
      refine ⟨by omega, by omega, fun u h1 h2 => ?_, fun h => e (by omega)⟩
      by_cases z : u = t + 1
      · rw [z]; exact q
      · exact d u (by omega) h2
    · rw [if_neg q]
      exact ⟨Nat.le_refl _, by omega, fun u h1 h2 => by omega, fun _ => by simpa using q⟩
theorem hrs_eq (P : Nat → Bool) {m t s : Nat} (h1 : t ≤ s) (h2 : s ≤ t + m) (h3 : ∀ u, t < u → u ≤ s → P u = true) (h4 : s < t + m → P (s + 1) = false) : hrs P m t = s := by
  obtain ⟨a, b, d, e⟩ := hrs_sp P m t
  rcases Nat.lt_trichotomy (hrs P m t) s with z | z | z
  · have := e (by omega)
    rw [h3 _ (by omega) (by omega)] at this
    cases this
  · exact z
  · have := h4 (by omega)
    rw [d (s + 1) (by omega) (by omega)] at this
    cases this
def allB (P : Nat → Nat → Bool) : Nat → Nat → Bool
  | 0, _ => true
  | k + 1, t => allB P k t && P k t
def Lf (P : Nat → Nat → Bool) (k : Nat) : Nat := if allB P k 0 = true then hrs (allB P k) 500 0 else 0
theorem Lf_le (P : Nat → Nat → Bool) (k : Nat) : Lf P k ≤ 500 := by
  unfold Lf
  split
  · have := (hrs_sp (allB P k) 500 0).2.1
    omega
  · omega
theorem Lf_0 (P : Nat → Nat → Bool) : Lf P 0 = 500 := by
  unfold Lf
  rw [if_pos (show allB P 0 0 = true from rfl)]
  exact hrs_eq _ (by omega) (by omega) (fun _ _ _ => rfl) (fun h => absurd h (by omega))
theorem Lf_s (P : Nat → Nat → Bool) (k : Nat) : (if P k 0 = true then hrs (P k) (Lf P k) 0 else 0) = Lf P (k + 1) := by
  have hL := Lf_le P k
  by_cases a : allB P k 0 = true
  · by_cases b : P k 0 = true
    · rw [if_pos b]
      unfold Lf at hL ⊢
      rw [if_pos a] at hL ⊢
      rw [if_pos (show allB P (k + 1) 0 = true by rw [allB, a, b]; rfl)]
      obtain ⟨a1, a2, a3, a4⟩ := hrs_sp (allB P k) 500 0
      obtain ⟨b1, b2, b3, b4⟩ := hrs_sp (P k) (hrs (allB P k) 500 0) 0
      refine (hrs_eq _ (by omega) (by omega) (fun u h1 h2 => ?_) (fun h => ?_)).symm
      · rw [allB, a3 u h1 (by omega), b3 u h1 h2]
        rfl
      · rw [allB]
        by_cases z : hrs (P k) (hrs (allB P k) 500 0) 0 < 0 + hrs (allB P k) 500 0
        · rw [b4 z, Bool.and_false]
        · have e : hrs (P k) (hrs (allB P k) 500 0) 0 = hrs (allB P k) 500 0 := by omega
          rw [e, a4 (by omega), Bool.false_and]
    · rw [if_neg b]
      unfold Lf
      rw [if_neg]
      rw [allB]
      simp at b
      rw [b, Bool.and_false]
      decide
  · have e : Lf P k = 0 := by
      unfold Lf
      rw [if_neg a]
    have e2 : Lf P (k + 1) = 0 := by
      unfold Lf
      rw [if_neg]
      rw [allB]
      simp at a
      rw [a, Bool.false_and]
      decide
    rw [e, e2]
    split
    · rfl
    · rfl
theorem C_hours_loop {x w : Int32} (hx : -600 ≤ x.toInt ∧ x.toInt ≤ 300) {v : Nat → Int32} (hv : okCe v) (L : Nat) (hL : L ≤ 500) : ∀ (m t n : Nat) (c : F3) (z : Int32), z = nI t → t + m = L → m < n → eq4 (c 1 10) (itr x t v) → ∃ c', S_X6_hoursHeldUp_21 n c w x (nI L) z = some (nI (hrs (fun t => fBor w (itr x t v)) m t), c') ∧ (∀ j, j ≠ 10 → c' 1 j = c 1 j) ∧ ∀ g, g ≠ 1 → c' g = c g
  | 0, t, n + 1, c, z, hz, hm, _, h4 => by
    rw [hz, S_X6_hoursHeldUp_21, if_pos (by rw [show t = L by omega]; exact Int32.le_refl _), show t = L by omega]
    exact ⟨c, rfl, fun _ _ => rfl, fun _ _ => rfl⟩
  | m + 1, t, n + 1, c, z, hz, hm, hn, h4 => by
    obtain ⟨c1, g1, g2⟩ := C_pass c 10 (okQ_4 h4 (itr_ok hx hv t)) hx
    have h5 : eq4 (c1 1 10) (itr x (t + 1) v) := by
      rw [g2.1]
      exact pas_4 h4 x
    rw [hz, S_X6_hoursHeldUp_21, if_neg (nle_of (show t < L by omega) (by omega)), g1, mob, C_holdsUp, mb2, hrs, bor_4 h5]
    cases hB : fBor w (itr x (t + 1) v)
    · rw [bo_f, if_pos rfl, if_neg (by simp)]
      exact ⟨c1, rfl, g2.2.1, g2.2.2⟩
    · rw [bo_t, if_neg (show ¬ (1 : Int32) = 0 by decide), if_pos rfl, nI_1]
      obtain ⟨c', a1, a2, a3⟩ := C_hours_loop hx hv L hL m (t + 1) n c1 _ rfl (by omega) (by omega) h5
      exact ⟨c', a1, fun j hj => (a2 j hj).trans (g2.2.1 j hj), fun g hg => (a3 g hg).trans (g2.2.2 g hg)⟩
  | 0, _, 0, _, _, _, _, h, _ => absurd h (Nat.lt_irrefl 0)
  | m + 1, _, 0, _, _, _, _, h, _ => absurd h (by omega)
theorem C_hours {x w : Int32} (hx : -600 ≤ x.toInt ∧ x.toInt ≤ 300) {i : Nat} (c : F3) (hv : okCe (c 1 i)) {L : Nat} (hL : L ≤ 500) : ∃ c', S_X6_hoursHeldUp c i w x (nI L) = some (nI (if fBor w (c 1 i) = true then hrs (fun t => fBor w (itr x t (c 1 i))) L 0 else 0), c') ∧ (∀ j, j ≠ 10 → c' 1 j = c 1 j) ∧ ∀ g, g ≠ 1 → c' g = c g := by
  unfold S_X6_hoursHeldUp
  rw [C_holdsUp, mb2]
  cases hB : fBor w (c 1 i)
  · rw [bo_f, if_pos rfl, if_neg (by simp)]
    exact ⟨c, rfl, fun _ _ => rfl, fun _ _ => rfl⟩
  · rw [bo_t, if_neg (show ¬ (1 : Int32) = 0 by decide), if_pos rfl]
    obtain ⟨c1, g1, g2, g3, g4⟩ : ∃ c1, S_X0_takeAfter c 10 i = some c1 ∧ eq4 (c1 1 10) (c 1 i) ∧ (∀ j, j ≠ 10 → c1 1 j = c 1 j) ∧ ∀ g, g ≠ 1 → c1 g = c g := by
      unfold S_X0_takeAfter
      rw [mlt, mlt, mlt, mlt]
      refine ⟨_, rfl, ?_, fun j hj => ?_, fun g hg => ?_⟩
      · by_cases e : i = 10
        · subst e
          refine ⟨?_, ?_, ?_, ?_⟩ <;> simp [up]
        · refine ⟨?_, ?_, ?_, ?_⟩ <;> simp [up, e]
      · rw [up_other _ _ _ _ _ (fun q => hj q.2), up_other _ _ _ _ _ (fun q => hj q.2), up_other _ _ _ _ _ (fun q => hj q.2), up_other _ _ _ _ _ (fun q => hj q.2)]
      · rw [up_reg hg, up_reg hg, up_reg hg, up_reg hg]
    rw [g1, mob]
    obtain ⟨c', a1, a2, a3⟩ := C_hours_loop (w := w) hx hv L hL L 0 FU c1 0 rfl (by omega) (FU_gt (by omega)) g2
    exact ⟨c', a1, fun j hj => (a2 j hj).trans (g3 j hj), fun g hg => (a3 g hg).trans (g4 g hg)⟩
theorem C_thaw_loop {x w : Int32} (hx : -600 ≤ x.toInt ∧ x.toInt ≤ 300) (v : Nat → Nat → Int32) (nc : Nat) (hnc : nc ≤ 10) (hv : ∀ i, i < nc → okCe (v i)) : ∀ (m k n : Nat) (c : F3) (z : Int32), z = nI k → k + m = nc → m < n → c 0 0 12 = nI nc → (∀ i, i < 10 → c 1 i = v i) → ∃ c', S_X6_thaw_37 n c w x (nI (Lf (fun i t => fBor w (itr x t (v i))) k)) z = some (nI (Lf (fun i t => fBor w (itr x t (v i))) nc), c') ∧ (∀ j, j ≠ 10 → c' 1 j = c 1 j) ∧ ∀ g, g ≠ 1 → c' g = c g
  | 0, k, n + 1, c, z, hz, hm, _, h12, h1 => by
    rw [hz, S_X6_thaw_37, h12, if_pos (by rw [show k = nc by omega]; exact Int32.le_refl _), show k = nc by omega]
    exact ⟨c, rfl, fun _ _ => rfl, fun _ _ => rfl⟩
  | m + 1, k, n + 1, c, z, hz, hm, hn, h12, h1 => by
    have hk : k < 10 := by omega
    obtain ⟨c1, g1, g2, g3⟩ := C_hours (w := w) (i := k) hx c (by rw [h1 k hk]; exact hv k (by omega)) (Lf_le (fun i t => fBor w (itr x t (v i))) k)
    rw [h1 k hk] at g1
    have e : (if fBor w (v k) = true then hrs (fun t => fBor w (itr x t (v k))) (Lf (fun i t => fBor w (itr x t (v i))) k) 0 else 0) = Lf (fun i t => fBor w (itr x t (v i))) (k + 1) := Lf_s (fun i t => fBor w (itr x t (v i))) k
    rw [e] at g1
    rw [hz, S_X6_thaw_37, h12, if_neg (nle_of (show k < nc by omega) (by omega)), if_pos (okI_nI hk (by decide)), nIk hk (by decide), g1, mb2, nI_1]
    obtain ⟨c', a1, a2, a3⟩ := C_thaw_loop hx v nc hnc hv m (k + 1) n c1 _ rfl (by omega) (by omega) (by rw [g3 0 (by decide)]; exact h12) (fun i hi => by rw [g2 i (by omega)]; exact h1 i hi)
    exact ⟨c', a1, fun j hj => (a2 j hj).trans (g2 j hj), fun g hg => (a3 g hg).trans (g3 g hg)⟩
  | 0, _, 0, _, _, _, _, h, _, _ => absurd h (Nat.lt_irrefl 0)
  | m + 1, _, 0, _, _, _, _, h, _, _ => absurd h (by omega)
/-- the reference: what it keeps -/
def kept (r' r : F3) (i : Nat) : Prop := r' 25 0 (5 * i) = r 30 0 i ∧ r' 25 0 (5 * i + 1) = r 31 0 i ∧ r' 25 0 (5 * i + 2) = r 35 0 i ∧ r' 25 0 (5 * i + 3) = r 36 0 i ∧ r' 25 0 (5 * i + 4) = r 37 0 i
theorem o50 {k j : Nat} (hk : k < 10) (hj : j < 5) : okI (nI (5 * k + j)) 50 = true ∧ (nI (5 * k + j)).toNatClampNeg = 5 * k + j := ⟨okI_nI (by omega) (by decide), nI_clamp (by omega)⟩
theorem R_thaw_32 (w x : Int32) : ∀ (m k n : Nat) (r : F3) (z : Int32), z = nI k → k + m = 10 → m < n → ∃ r', S_X7_thaw_32 n r w x z = (mm_b2 (S_X7_allBear r' w) fun a f => S_X7_thaw_131 FU f w x 0 a) ∧ (∀ g, g ≠ 25 → r' g = r g) ∧ (∀ i, k ≤ i → i < 10 → kept r' r i) ∧ ∀ t, t < 5 * k → r' 25 0 t = r 25 0 t
  | 0, k, n + 1, r, z, hz, hm, _ => by
    rw [hz, S_X7_thaw_32, if_pos (by rw [show k = 10 by omega]; decide)]
    exact ⟨r, rfl, fun _ _ => rfl, fun i a b => absurd a (by omega), fun _ _ => rfl⟩
  | m + 1, k, n + 1, r, z, hz, hm, hn => by
    have hk : k < 10 := by omega
    have e5 : 5 * nI k = nI (5 * k) := by rw [show (5 : Int32) = nI 5 from rfl, pk_mul]
    have ea : ∀ j, nI (5 * k) + nI j = nI (5 * k + j) := fun j => nI_add _ _
    have e1 : nI (5 * k) + 1 = nI (5 * k + 1) := ea 1
    have e2 : nI (5 * k) + 2 = nI (5 * k + 2) := ea 2
    have e3 : nI (5 * k) + 3 = nI (5 * k + 3) := ea 3
    have e4 : nI (5 * k) + 4 = nI (5 * k + 4) := ea 4
    rw [hz, S_X7_thaw_32, if_neg (show ¬ (10 : Int32) ≤ nI k from nle_of (n := 10) hk (by decide)), if_pos (okI_nI hk (by decide)), nIk hk (by decide), e5, e1, e2, e3, e4, if_pos (show okI (nI (5 * k)) 50 = true from (o50 hk (show 0 < 5 by decide)).1), show (nI (5 * k)).toNatClampNeg = 5 * k from (o50 hk (show 0 < 5 by decide)).2, mlt, if_pos (o50 hk (show 1 < 5 by decide)).1, (o50 hk (show 1 < 5 by decide)).2, mlt, if_pos (o50 hk (show 2 < 5 by decide)).1, (o50 hk (show 2 < 5 by decide)).2, mlt, if_pos (o50 hk (show 3 < 5 by decide)).1, (o50 hk (show 3 < 5 by decide)).2, mlt, if_pos (o50 hk (show 4 < 5 by decide)).1, (o50 hk (show 4 < 5 by decide)).2, mlt, nI_1]
    simp only [up_reg (show (31 : Nat) ≠ 25 by decide), up_reg (show (35 : Nat) ≠ 25 by decide), up_reg (show (36 : Nat) ≠ 25 by decide), up_reg (show (37 : Nat) ≠ 25 by decide), Nat.add_zero]
    generalize hr1 : up (up (up (up (up r 25 0 (5 * k) (r 30 0 k)) 25 0 (5 * k + 1) (r 31 0 k)) 25 0 (5 * k + 2) (r 35 0 k)) 25 0 (5 * k + 3) (r 36 0 k)) 25 0 (5 * k + 4) (r 37 0 k) = r1
    have g1 : ∀ g, g ≠ 25 → r1 g = r g := fun g hg => by
      rw [← hr1, up_reg hg, up_reg hg, up_reg hg, up_reg hg, up_reg hg]
    obtain ⟨r', a1, a2, a3, a4⟩ := R_thaw_32 w x m (k + 1) n r1 _ rfl (by omega) (by omega)
    refine ⟨r', a1, fun g hg => (a2 g hg).trans (g1 g hg), fun i h1 h2 => ?_, fun t ht => ?_⟩
    · by_cases e : i = k
      · subst e
        unfold kept
        rw [a4 _ (by omega), a4 _ (by omega), a4 _ (by omega), a4 _ (by omega), a4 _ (by omega), ← hr1]
        refine ⟨?_, ?_, ?_, ?_, ?_⟩ <;> simp [up]
      · have := a3 i (by omega) h2
        unfold kept at this ⊢
        rw [g1 30 (by decide), g1 31 (by decide), g1 35 (by decide), g1 36 (by decide), g1 37 (by decide)] at this
        exact this
    · rw [a4 t (by omega), ← hr1]
      simp only [up]
      rw [if_neg (by omega), if_neg (by omega), if_neg (by omega), if_neg (by omega), if_neg (by omega)]
  | 0, _, 0, _, _, _, _, h => absurd h (Nat.lt_irrefl 0)
  | m + 1, _, 0, _, _, _, _, h => absurd h (by omega)
/-- all from cell k on bear -/
def allF (w : Int32) (a : Nat → Nat → Int32) : Nat → Nat → Bool
  | 0, _ => true
  | m + 1, k => fBor w (a k) && allF w a m (k + 1)
theorem R_allBear_2 (w : Int32) {nc : Nat} (hnc : nc ≤ 10) {r : F3} (h2 : r 20 0 2 = nI nc) : ∀ (m k n : Nat) (z : Int32), z = nI k → k + m = nc → m < n → S_X7_allBear_2 n r w z = some (bo (allF w (rs r) m k), r)
  | 0, k, n + 1, z, hz, hm, _ => by
    rw [hz, S_X7_allBear_2, h2, if_pos (by rw [show k = nc by omega]; exact Int32.le_refl _)]
    rfl
  | m + 1, k, n + 1, z, hz, hm, hn => by
    rw [hz, S_X7_allBear_2, h2, if_neg (nle_of (show k < nc by omega) (by omega)), R_isBorne r (show k < 10 by omega), mb2, allF]
    cases hB : fBor w (rs r k)
    · rw [bo_f, if_pos rfl, Bool.false_and]
      rfl
    · rw [bo_t, if_neg (show ¬ (1 : Int32) = 0 by decide), nI_1, Bool.true_and]
      exact R_allBear_2 w hnc h2 m (k + 1) n _ rfl (by omega) (by omega)
  | 0, _, 0, _, _, _, h => absurd h (Nat.lt_irrefl 0)
  | m + 1, _, 0, _, _, _, h => absurd h (by omega)
theorem allF_iff (w : Int32) (a : Nat → Nat → Int32) : ∀ (m k : Nat), allF w a m k = true ↔ ∀ i, k ≤ i → i < k + m → fBor w (a i) = true
  | 0, k => ⟨fun _ i h1 h2 => absurd h2 (by omega), fun _ => rfl⟩
  | m + 1, k => by
    rw [allF, Bool.and_eq_true, allF_iff w a m (k + 1)]
    constructor
    · intro q i h1 h2
      by_cases e : i = k
      · rw [e]; exact q.1
      · exact q.2 i (by omega) (by omega)
    · intro q
      exact ⟨q k (Nat.le_refl _) (by omega), fun i h1 h2 => q i (by omega) (by omega)⟩
theorem allB_iff (P : Nat → Nat → Bool) (t : Nat) : ∀ (k : Nat), allB P k t = true ↔ ∀ i, i < k → P i t = true
  | 0 => ⟨fun _ i h => absurd h (Nat.not_lt_zero i), fun _ => rfl⟩
  | k + 1 => by
    rw [allB, Bool.and_eq_true, allB_iff P t k]
    constructor
    · intro q i h
      by_cases e : i = k
      · rw [e]; exact q.2
      · exact q.1 i (by omega)
    · intro q
      exact ⟨fun i h => q i (by omega), q k (by omega)⟩
/-- the reference's cells after t hours -/
def aft (x : Int32) (v : Nat → Nat → Int32) (nc t : Nat) (r0 r : F3) : Prop := (∀ i, i < nc → rs r i = itr x t (v i)) ∧ (∀ i, nc ≤ i → rs r i = rs r0 i) ∧ ∀ g, (g < 30 ∨ 38 < g) → r g = r0 g
theorem aft_all {x w : Int32} {v : Nat → Nat → Int32} {nc t : Nat} {r0 r : F3} (hnc : nc ≤ 10) (h : aft x v nc t r0 r) (h2 : r0 20 0 2 = nI nc) : S_X7_allBear r w = some (bo (allB (fun i t => fBor w (itr x t (v i))) nc t), r) := by
  unfold S_X7_allBear
  rw [R_allBear_2 w hnc (r := r) (by rw [h.2.2 20 (by omega)]; exact h2) nc 0 FU 0 rfl (by omega) (FU_gt (by omega))]
  have e : allF w (rs r) nc 0 = allB (fun i t => fBor w (itr x t (v i))) nc t := by
    rw [Bool.eq_iff_iff, allF_iff, allB_iff]
    constructor
    · intro q i hi
      have := q i (Nat.zero_le _) (by omega)
      rw [h.1 i hi] at this
      exact this
    · intro q i _ hi
      rw [h.1 i (by omega)]
      exact q i (by omega)
  rw [e]
theorem R_thaw_146 {x : Int32} (hx : -600 ≤ x.toInt ∧ x.toInt ≤ 300) (w : Int32) (v : Nat → Nat → Int32) {nc : Nat} (hnc : nc ≤ 10) (hv : ∀ i, i < nc → okCe (v i)) (t : Nat) (r0 : F3) (h2 : r0 20 0 2 = nI nc) (K : F3 → Int32 → Int32 → Int32 → Int32 → Option (Int32 × F3)) (y : Int32) : ∀ (m k n : Nat) (r : F3) (z : Int32), z = nI k → k + m = nc → m < n → (∀ i, i < k → rs r i = itr x (t + 1) (v i)) → (∀ i, k ≤ i → i < nc → rs r i = itr x t (v i)) → (∀ i, nc ≤ i → rs r i = rs r0 i) → (∀ g, (g < 30 ∨ 38 < g) → r g = r0 g) → ∃ r', aft x v nc (t + 1) r0 r' ∧ S_X7_thaw_146 K n r w x y z = (if bo (allB (fun i t => fBor w (itr x t (v i))) nc (t + 1)) = 0 then K r' w x (y + 0) (bo (allB (fun i t => fBor w (itr x t (v i))) nc (t + 1))) else K r' w x (y + 1) (bo (allB (fun i t => fBor w (itr x t (v i))) nc (t + 1))))
  | 0, k, n + 1, r, z, hz, hm, _, a1, a2, a3, a4 => by
    have ha : aft x v nc (t + 1) r0 r := ⟨fun i hi => a1 i (by omega), a3, a4⟩
    rw [hz, S_X7_thaw_146, a4 20 (by omega), h2, if_pos (by rw [show k = nc by omega]; exact Int32.le_refl _), aft_all hnc ha h2, mb2]
    exact ⟨r, ha, rfl⟩
  | m + 1, k, n + 1, r, z, hz, hm, hn, a1, a2, a3, a4 => by
    have hk : k < nc := by omega
    have ek := a2 k (Nat.le_refl _) hk
    obtain ⟨r1, g1, g2⟩ := R_grow r (show k < 10 by omega) (x := x) (by rw [ek]; exact itr_ok hx (hv k hk) t) hx
    rw [ek] at g2
    rw [hz, S_X7_thaw_146, a4 20 (by omega), h2, if_neg (nle_of hk (by omega)), g1, mob, nI_1]
    refine R_thaw_146 hx w v hnc hv t r0 h2 K y m (k + 1) n r1 _ rfl (by omega) (by omega) (fun i hi => ?_) (fun i h3 h4 => ?_) (fun i hi => ?_) (fun g hg => (g2.2.2 g hg).trans (a4 g hg))
    · by_cases e : i = k
      · subst e
        rw [g2.1]
        rfl
      · rw [g2.2.1 i e]
        exact a1 i (by omega)
    · rw [g2.2.1 i (by omega)]
      exact a2 i (by omega) h4
    · rw [g2.2.1 i (by omega)]
      exact a3 i hi
  | 0, _, 0, _, _, _, _, h, _, _, _, _ => absurd h (Nat.lt_irrefl 0)
  | m + 1, _, 0, _, _, _, _, h, _, _, _, _ => absurd h (by omega)
theorem R_thaw_131 {x : Int32} (hx : -600 ≤ x.toInt ∧ x.toInt ≤ 300) (w : Int32) (v : Nat → Nat → Int32) {nc : Nat} (hnc : nc ≤ 10) (hv : ∀ i, i < nc → okCe (v i)) (r0 : F3) (h2 : r0 20 0 2 = nI nc) : ∀ (m t n : Nat) (r : F3) (z : Int32), z = nI t → t + m = 500 → m + 1 < n → aft x v nc t r0 r → ∃ r' t', aft x v nc t' r0 r' ∧ S_X7_thaw_131 n r w x z 1 = S_X7_thaw_191 r' (nI (hrs (allB (fun i t => fBor w (itr x t (v i))) nc) m t))
  | 0, t, n + 1, r, z, hz, hm, _, ha => by
    rw [hz, S_X7_thaw_131, if_neg (show ¬ (1 : Int32) = 0 by decide), if_pos (by rw [show t = 500 by omega]; decide)]
    exact ⟨r, t, ha, rfl⟩
  | m + 1, t, n + 1, r, z, hz, hm, hn, ha => by
    rw [hz, S_X7_thaw_131, if_neg (show ¬ (1 : Int32) = 0 by decide), if_neg (show ¬ (500 : Int32) ≤ nI t from nle_of (n := 500) (by omega) (by decide)), hrs]
    obtain ⟨r1, b1, b2⟩ := R_thaw_146 hx w v hnc hv t r0 h2 (fun f9 x1_ x2_ x3_ x4_ => S_X7_thaw_131 n f9 x1_ x2_ x3_ x4_) (nI t) nc 0 FU r 0 rfl (by omega) (FU_gt (by omega)) (fun i hi => absurd hi (Nat.not_lt_zero i)) (fun i _ hi => ha.1 i hi) ha.2.1 ha.2.2
    rw [b2]
    cases hB : allB (fun i t => fBor w (itr x t (v i))) nc (t + 1)
    · rw [bo_f, if_pos rfl, if_neg (by simp), Int32.add_zero]
      refine ⟨r1, t + 1, b1, ?_⟩
      show S_X7_thaw_131 n r1 w x (nI t) 0 = _
      obtain ⟨n', rfl⟩ : ∃ n', n = n' + 1 := ⟨n - 1, by omega⟩
      rw [S_X7_thaw_131, if_pos rfl]
    · rw [bo_t, if_neg (show ¬ (1 : Int32) = 0 by decide), if_pos rfl, nI_1]
      exact R_thaw_131 hx w v hnc hv r0 h2 m (t + 1) n r1 _ rfl (by omega) (by omega) b1
  | 0, _, 0, _, _, _, _, h, _ => absurd h (by omega)
  | m + 1, _, 0, _, _, _, _, h, _ => absurd h (by omega)
theorem R_thaw_194 (y : Int32) : ∀ (m k n : Nat) (r : F3) (z : Int32), z = nI k → k + m = 10 → m < n → ∃ r', S_X7_thaw_194 n r y z = some (y, r') ∧ (∀ g, g ≠ 30 → g ≠ 31 → g ≠ 35 → g ≠ 36 → g ≠ 37 → r' g = r g) ∧ (∀ i, k ≤ i → i < 10 → kept r r' i) ∧ ∀ i, i < k → r' 30 0 i = r 30 0 i ∧ r' 31 0 i = r 31 0 i ∧ r' 35 0 i = r 35 0 i ∧ r' 36 0 i = r 36 0 i ∧ r' 37 0 i = r 37 0 i
  | 0, k, n + 1, r, z, hz, hm, _ => by
    rw [hz, S_X7_thaw_194, if_pos (by rw [show k = 10 by omega]; decide)]
    exact ⟨r, rfl, fun _ _ _ _ _ _ => rfl, fun i a b => absurd a (by omega), fun _ _ => ⟨rfl, rfl, rfl, rfl, rfl⟩⟩
  | m + 1, k, n + 1, r, z, hz, hm, hn => by
    have hk : k < 10 := by omega
    have e5 : 5 * nI k = nI (5 * k) := by rw [show (5 : Int32) = nI 5 from rfl, pk_mul]
    have ea : ∀ j, nI (5 * k) + nI j = nI (5 * k + j) := fun j => nI_add _ _
    have e1 : nI (5 * k) + 1 = nI (5 * k + 1) := ea 1
    have e2 : nI (5 * k) + 2 = nI (5 * k + 2) := ea 2
    have e3 : nI (5 * k) + 3 = nI (5 * k + 3) := ea 3
    have e4 : nI (5 * k) + 4 = nI (5 * k + 4) := ea 4
    rw [hz, S_X7_thaw_194, if_neg (show ¬ (10 : Int32) ≤ nI k from nle_of (n := 10) hk (by decide)), e5, e1, e2, e3, e4, if_pos (show okI (nI (5 * k)) 50 = true from (o50 hk (show 0 < 5 by decide)).1), if_pos (okI_nI hk (by decide)), nIk hk (by decide), show (nI (5 * k)).toNatClampNeg = 5 * k from (o50 hk (show 0 < 5 by decide)).2, mlt, if_pos (o50 hk (show 1 < 5 by decide)).1, (o50 hk (show 1 < 5 by decide)).2, mlt, if_pos (o50 hk (show 2 < 5 by decide)).1, (o50 hk (show 2 < 5 by decide)).2, mlt, if_pos (o50 hk (show 3 < 5 by decide)).1, (o50 hk (show 3 < 5 by decide)).2, mlt, if_pos (o50 hk (show 4 < 5 by decide)).1, (o50 hk (show 4 < 5 by decide)).2, mlt, nI_1]
    simp only [up_reg (show (25 : Nat) ≠ 30 by decide), up_reg (show (25 : Nat) ≠ 31 by decide), up_reg (show (25 : Nat) ≠ 35 by decide), up_reg (show (25 : Nat) ≠ 36 by decide), Nat.add_zero]
    generalize hr1 : up (up (up (up (up r 30 0 k (r 25 0 (5 * k))) 31 0 k (r 25 0 (5 * k + 1))) 35 0 k (r 25 0 (5 * k + 2))) 36 0 k (r 25 0 (5 * k + 3))) 37 0 k (r 25 0 (5 * k + 4)) = r1
    have g1 : ∀ g, g ≠ 30 → g ≠ 31 → g ≠ 35 → g ≠ 36 → g ≠ 37 → r1 g = r g := fun g h1 h2 h3 h4 h5 => by
      rw [← hr1, up_reg h5, up_reg h4, up_reg h3, up_reg h2, up_reg h1]
    have gk : kept r r1 k := by
      unfold kept
      rw [← hr1]
      refine ⟨?_, ?_, ?_, ?_, ?_⟩ <;> simp [up]
    have go : ∀ i, i ≠ k → r1 30 0 i = r 30 0 i ∧ r1 31 0 i = r 31 0 i ∧ r1 35 0 i = r 35 0 i ∧ r1 36 0 i = r 36 0 i ∧ r1 37 0 i = r 37 0 i := fun i hi => by
      rw [← hr1]
      refine ⟨?_, ?_, ?_, ?_, ?_⟩ <;> simp [up, hi]
    obtain ⟨r', a1, a2, a3, a4⟩ := R_thaw_194 y m (k + 1) n r1 _ rfl (by omega) (by omega)
    refine ⟨r', a1, fun g h1 h2 h3 h4 h5 => (a2 g h1 h2 h3 h4 h5).trans (g1 g h1 h2 h3 h4 h5), fun i h1 h2 => ?_, fun i hi => ?_⟩
    · by_cases e : i = k
      · subst e
        obtain ⟨b1, b2, b3, b4, b5⟩ := a4 i (by omega)
        unfold kept at gk ⊢
        rw [b1, b2, b3, b4, b5]
        exact gk
      · have := a3 i (by omega) h2
        unfold kept at this ⊢
        rw [g1 25 (by decide) (by decide) (by decide) (by decide) (by decide)] at this
        exact this
    · obtain ⟨b1, b2, b3, b4, b5⟩ := a4 i (by omega)
      obtain ⟨d1, d2, d3, d4, d5⟩ := go i (by omega)
      exact ⟨b1.trans d1, b2.trans d2, b3.trans d3, b4.trans d4, b5.trans d5⟩
  | 0, _, 0, _, _, _, _, h => absurd h (Nat.lt_irrefl 0)
  | m + 1, _, 0, _, _, _, _, h => absurd h (by omega)
/-- the trial cell, and what is kept, count for nothing -/
theorem Rel_trial {nc nl nr nt : Nat} {c c' r r' : F3} (h : Rel nc nl nr nt c r) (c1 : ∀ j, j ≠ 10 → c' 1 j = c 1 j) (hc : ∀ g, g ≠ 1 → c' g = c g) (r1 : ∀ j, j < 10 → rs r' j = rs r j) (hr : ∀ g, (g < 30 ∨ 38 < g) → g ≠ 25 → r' g = r g) : Rel nc nl nr nt c' r' := by
  have hb := h.1
  unfold Rel at h ⊢
  rw [hc 0 (by decide), hc 2 (by decide), hc 3 (by decide), hc 5 (by decide), hc 9 (by decide), hc 11 (by decide), hc 12 (by decide), hc 14 (by decide), hc 15 (by decide), hc 16 (by decide), hc 17 (by decide), hc 18 (by decide), hr 20 (by decide) (by decide), hr 21 (by decide) (by decide), hr 22 (by decide) (by decide), hr 23 (by decide) (by decide), hr 26 (by decide) (by decide), hr 27 (by decide) (by decide), rl_congr (r := r) (r' := r') (fun k h1 h2 => hr k (by omega) (by omega))]
  refine ⟨h.1, h.2.1, ⟨fun j hj => ?_, fun j h1 h2 => ?_⟩, h.2.2.2⟩
  · rw [c1 j (by omega), r1 j (by omega)]
    exact h.2.2.1.1 j hj
  · rw [c1 j (by omega), r1 j h2]
    exact h.2.2.1.2 j h1 h2
theorem sim_thaw (w x : Int32) : SimI (fun c => S_X6_thaw c w x) (fun r => S_X7_thaw r w x) := by
  intro c r hE
  obtain ⟨nc, nl, nr, nt, h⟩ := id hE
  have hb := h.1
  show ∃ q c' r', S_X6_thaw c w x = some (q, c') ∧ S_X7_thaw r w x = some (q, r') ∧ RelE c' r'
  have rf : ∃ w c' r', S_X6_thaw_23 c = some (w, c') ∧ S_X7_thaw_23 r = some (w, r') ∧ RelE c' r' := by
    unfold S_X6_thaw_23 S_X7_thaw_23
    rw [C_ref7, R_ref7, mb2, mb2]
    exact ⟨_, _, _, rfl, rfl, Rel_refs hE (by decide)⟩
  unfold S_X6_thaw S_X7_thaw
  rw [C_within, R_in, mb2, mb2]
  by_cases hw : wi w 1 99 = 0
  · rw [if_pos hw, if_pos hw]
    exact rf
  rw [if_neg hw, if_neg hw, C_within, R_in, mb2, mb2]
  by_cases hx0 : wi x (-600) 300 = 0
  · rw [if_pos hx0, if_pos hx0]
    exact rf
  rw [if_neg hx0, if_neg hx0]
  rw [wi_1] at hx0
  have hx : -600 ≤ x.toInt ∧ x.toInt ≤ 300 := by simpa using hx0
  obtain ⟨c', a1, a2, a3⟩ := C_thaw_loop (w := w) hx (c 1) nc hb.2.1 (fun i hi => Rel_ok h hi) nc 0 FU c 0 rfl (by omega) (FU_gt (by omega)) h.2.1.1 (fun _ _ => rfl)
  rw [Lf_0] at a1
  obtain ⟨r1, b1, b2, b3, -⟩ := R_thaw_32 w x 10 0 FU r 0 rfl (by omega) (FU_gt (by omega))
  have es1 : rs r1 = rs r := rs_congr (fun k h1 h2 => b2 k (by omega))
  have h2r : r1 20 0 2 = nI nc := by rw [b2 20 (by decide)]; exact h.2.1.2.1
  have ha0 : aft x (c 1) nc 0 r1 r1 := ⟨fun i hi => by rw [es1]; exact Rel_eq h hi, fun _ _ => rfl, fun _ _ => rfl⟩
  obtain ⟨r2, t2, d1, d2⟩ : ∃ r2 t2, aft x (c 1) nc t2 r1 r2 ∧ S_X7_thaw_32 FU r w x 0 = S_X7_thaw_191 r2 (nI (Lf (fun i t => fBor w (itr x t (c 1 i))) nc)) := by
    rw [b1, aft_all hb.2.1 ha0 h2r, mb2]
    unfold Lf
    cases hB : allB (fun i t => fBor w (itr x t (c 1 i))) nc 0
    · rw [bo_f, if_neg (by simp), show FU = 599 + 1 from rfl, S_X7_thaw_131, if_pos rfl]
      exact ⟨r1, 0, ha0, rfl⟩
    · rw [bo_t, if_pos rfl]
      exact R_thaw_131 hx w (c 1) hb.2.1 (fun i hi => Rel_ok h hi) r1 h2r 500 0 FU r1 0 rfl (by omega) (FU_gt (by omega)) ha0
  obtain ⟨r3, f1, f2, f3, -⟩ := R_thaw_194 (nI (Lf (fun i t => fBor w (itr x t (c 1 i))) nc)) 10 0 FU r2 0 rfl (by omega) (FU_gt (by omega))
  refine ⟨_, c', r3, a1, d2.trans f1, nc, nl, nr, nt, Rel_trial h a2 a3 (fun j hj => ?_) (fun g hg hg2 => ?_)⟩
  · obtain ⟨k1, k2, k3, k4, k5⟩ := b3 j (Nat.zero_le _) hj
    obtain ⟨m1, m2, m3, m4, m5⟩ := f3 j (Nat.zero_le _) hj
    have e25 : r2 25 = r1 25 := d1.2.2 25 (by omega)
    rw [e25] at m1 m2 m3 m4 m5
    have oth : ∀ k, k ≠ 0 → k ≠ 1 → k ≠ 5 → k ≠ 6 → k ≠ 7 → rs r2 j k = rs r j k := by
      intro k z0 z1 z5 z6 z7
      by_cases q : j < nc
      · rw [d1.1 j q, itr_k z0 z1 z5 z6 z7, ← Rel_eq h q]
      · rw [d1.2.1 j (by omega), es1]
    funext k
    by_cases z0 : k = 0
    · subst z0; exact m1.symm.trans k1
    by_cases z1 : k = 1
    · subst z1; exact m2.symm.trans k2
    by_cases z5 : k = 5
    · subst z5; exact m3.symm.trans k3
    by_cases z6 : k = 6
    · subst z6; exact m4.symm.trans k4
    by_cases z7 : k = 7
    · subst z7; exact m5.symm.trans k5
    rw [← oth k z0 z1 z5 z6 z7]
    unfold rs
    by_cases q8 : k < 8
    · rw [if_pos q8, if_pos q8, f2 (30 + k) (by omega) (by omega) (by omega) (by omega) (by omega)]
    · rw [if_neg q8, if_neg q8, f2 38 (by omega) (by omega) (by omega) (by omega) (by omega)]
  · rw [f2 g (by omega) (by omega) (by omega) (by omega) (by omega), d1.2.2 g hg, b2 g hg2]
