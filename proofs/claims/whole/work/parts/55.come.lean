/-! a load comes on a cell -/
theorem tsum_one {a a' : Nat → Nat → Int32} {l : Nat} (ho : ∀ j, j ≠ l → a' j = a j) (h1 : a l 3 ≠ 2) (h2 : a' l 3 = 2) : ∀ n, l < n → tsum a' n = tsum a n + a' l 0
  | 0, h => absurd h (Nat.not_lt_zero l)
  | n + 1, h => by
    rw [tsum, tsum]
    by_cases e : l = n
    · subst e
      rw [tsum_congr l (a := a') (b := a) (fun j hj => by rw [ho j (by omega)]), if_pos h2, if_neg h1, Int32.add_zero]
    · rw [tsum_one ho h1 h2 n (by omega), ho n (fun q => e q.symm), Int32.add_assoc, Int32.add_assoc, Int32.add_comm (a' l 0)]
def ce (c : F3) (l i : Nat) : F3 := up (up (up c 2 l 3 1) 2 l 4 (nI i)) 2 l 5 0
def re (r : F3) (l i : Nat) : F3 := up (up (up r 43 0 l 1) 44 0 l (nI i)) 45 0 l 0
def cn (c : F3) (l : Nat) (s t : Int32) : F3 := up (up (up (up c 2 l 3 s) 2 l 4 (-1)) 2 l 5 (-1)) 2 l 6 t
def rn (r : F3) (l : Nat) (s t : Int32) : F3 := up (up r 43 0 l s) 46 0 l t
theorem ce_o (c : F3) (l i : Nat) : (∀ j, j ≠ l → ce c l i 2 j = c 2 j) ∧ (∀ g, g ≠ 2 → ce c l i g = c g) ∧ ce c l i 2 l = upd (upd (upd (c 2 l) 3 1) 4 (nI i)) 5 0 := by
  unfold ce
  refine ⟨fun j hj => ?_, fun g hg => ?_, ?_⟩
  · rw [up_other _ _ _ _ _ (fun q => hj q.2), up_other _ _ _ _ _ (fun q => hj q.2), up_other _ _ _ _ _ (fun q => hj q.2)]
  · rw [up_reg hg, up_reg hg, up_reg hg]
  · rw [up_self, up_self, up_self]
theorem cn_o (c : F3) (l : Nat) (s t : Int32) : (∀ j, j ≠ l → cn c l s t 2 j = c 2 j) ∧ (∀ g, g ≠ 2 → cn c l s t g = c g) ∧ cn c l s t 2 l = upd (upd (upd (upd (c 2 l) 3 s) 4 (-1)) 5 (-1)) 6 t := by
  unfold cn
  refine ⟨fun j hj => ?_, fun g hg => ?_, ?_⟩
  · rw [up_other _ _ _ _ _ (fun q => hj q.2), up_other _ _ _ _ _ (fun q => hj q.2), up_other _ _ _ _ _ (fun q => hj q.2), up_other _ _ _ _ _ (fun q => hj q.2)]
  · rw [up_reg hg, up_reg hg, up_reg hg, up_reg hg]
  · rw [up_self, up_self, up_self, up_self]
section MV
variable {nc nl nr nt : Nat} {c r : F3}
theorem rl_at (h : Rel nc nl nr nt c r) {l : Nat} (hl : l < nl) : r 40 0 l = c 2 l 0 ∧ r 41 0 l = c 2 l 1 ∧ r 42 0 l = c 2 l 2 ∧ r 43 0 l = c 2 l 3 ∧ (if r 43 0 l = 1 then r 44 0 l else -1) = c 2 l 4 ∧ (if r 43 0 l = 1 then r 45 0 l else -1) = c 2 l 5 ∧ r 46 0 l = c 2 l 6 ∧ ∀ k, 7 ≤ k → c 2 l k = -1 := by
  have e := Rel_leq h hl
  refine ⟨congrFun e 0, congrFun e 1, congrFun e 2, congrFun e 3, congrFun e 4, congrFun e 5, congrFun e 6, fun k hk => ?_⟩
  have := congrFun e k
  rw [← this]
  match k, hk with
  | k + 7, _ => rfl
theorem Rel_enter (h : Rel nc nl nr nt c r) {l i : Nat} (hl : l < nl) (hi : i < nc) (hs : c 2 l 3 ≠ 2) : Rel nc nl nr nt (ce c l i) (re r l i) := by
  obtain ⟨o1, o2, o3⟩ := ce_o c l i
  obtain ⟨e0, e1, e2, e3, e4, e5, e6, e7⟩ := rl_at h hl
  have hrg : ∀ g, (g < 40 ∨ 46 < g) → re r l i g = r g := fun g hg => by
    unfold re
    rw [up_reg (by omega), up_reg (by omega), up_reg (by omega)]
  refine Rel_load (v := upd (upd (upd (c 2 l) 3 1) 4 (nI i)) 5 0) h hl o3 o1 o2 ?_ (fun j hj => ?_) (fun g hg _ => hrg g hg) (fun k _ => by rw [hrg 20 (by omega)]) ?_ (by simp [upd]) ?_
  · unfold re
    funext k
    match k with
    | 0 => simp [rl, up, upd, e0]
    | 1 => simp [rl, up, upd, e1]
    | 2 => simp [rl, up, upd, e2]
    | 3 => simp [rl, up, upd]
    | 4 => simp [rl, up, upd]
    | 5 => simp [rl, up, upd]
    | 6 => simp [rl, up, upd, e6]
    | k + 7 => simp [rl, upd, e7 (k + 7) (by omega)]
  · unfold re
    rw [rl_oth _ hj, rl_oth _ hj, rl_oth _ hj]
  · rw [hrg 20 (by omega), h.2.2.2.1.2]
    refine tsum_congr nl (fun j hj => ?_)
    by_cases q : j = l
    · subst q
      rw [o3, if_neg hs, if_neg (by simp [upd])]
    · rw [o1 j q]
  · have o := Rel_lok h hl
    unfold okLo at o ⊢
    simp [upd]
    exact ⟨o.1, o.2.1, o.2.2.1, i, hi, rfl⟩
theorem Rel_end3 (h : Rel nc nl nr nt c r) {l : Nat} {t : Int32} (hl : l < nl) (hs : c 2 l 3 ≠ 2) : Rel nc nl nr nt (cn c l 3 t) (rn r l 3 t) := by
  obtain ⟨o1, o2, o3⟩ := cn_o c l 3 t
  obtain ⟨e0, e1, e2, e3, e4, e5, e6, e7⟩ := rl_at h hl
  have hrg : ∀ g, (g < 40 ∨ 46 < g) → rn r l 3 t g = r g := fun g hg => by
    unfold rn
    rw [up_reg (by omega), up_reg (by omega)]
  refine Rel_load (v := upd (upd (upd (upd (c 2 l) 3 3) 4 (-1)) 5 (-1)) 6 t) h hl o3 o1 o2 ?_ (fun j hj => ?_) (fun g hg _ => hrg g hg) (fun k _ => by rw [hrg 20 (by omega)]) ?_ (by simp [upd]) ?_
  · unfold rn
    funext k
    match k with
    | 0 => simp [rl, up, upd, e0]
    | 1 => simp [rl, up, upd, e1]
    | 2 => simp [rl, up, upd, e2]
    | 3 => simp [rl, up, upd]
    | 4 => simp [rl, up, upd]
    | 5 => simp [rl, up, upd]
    | 6 => simp [rl, up, upd]
    | k + 7 => simp [rl, upd, e7 (k + 7) (by omega)]
  · unfold rn
    rw [rl_oth _ hj, rl_oth _ hj]
  · rw [hrg 20 (by omega), h.2.2.2.1.2]
    refine tsum_congr nl (fun j hj => ?_)
    by_cases q : j = l
    · subst q
      rw [o3, if_neg hs, if_neg (by simp [upd])]
    · rw [o1 j q]
  · have o := Rel_lok h hl
    unfold okLo at o ⊢
    simp [upd]
    exact ⟨o.1, o.2.1, o.2.2.1⟩
theorem Rel_end2 (h : Rel nc nl nr nt c r) {l : Nat} {t : Int32} (hl : l < nl) (hs : c 2 l 3 ≠ 2) : Rel nc nl nr nt (cn c l 2 t) (up (rn r l 2 t) 20 0 24 (r 20 0 24 + r 40 0 l)) := by
  obtain ⟨o1, o2, o3⟩ := cn_o c l 2 t
  obtain ⟨e0, e1, e2, e3, e4, e5, e6, e7⟩ := rl_at h hl
  have hrg : ∀ g, (g < 40 ∨ 46 < g) → rn r l 2 t g = r g := fun g hg => by
    unfold rn
    rw [up_reg (by omega), up_reg (by omega)]
  have er : rl (up (rn r l 2 t) 20 0 24 (r 20 0 24 + r 40 0 l)) = rl (rn r l 2 t) := rl_congr (fun k a b => up_reg (by omega))
  refine Rel_load (v := upd (upd (upd (upd (c 2 l) 3 2) 4 (-1)) 5 (-1)) 6 t) h hl o3 o1 o2 ?_ (fun j hj => ?_) (fun g hg hg2 => (up_reg hg2).trans (hrg g hg)) (fun k hk => ?_) ?_ (by simp [upd]) ?_
  · rw [er]
    unfold rn
    funext k
    match k with
    | 0 => simp [rl, up, upd, e0]
    | 1 => simp [rl, up, upd, e1]
    | 2 => simp [rl, up, upd, e2]
    | 3 => simp [rl, up, upd]
    | 4 => simp [rl, up, upd]
    | 5 => simp [rl, up, upd]
    | 6 => simp [rl, up, upd]
    | k + 7 => simp [rl, upd, e7 (k + 7) (by omega)]
  · rw [er]
    unfold rn
    rw [rl_oth _ hj, rl_oth _ hj]
  · rw [show up (rn r l 2 t) 20 0 24 (r 20 0 24 + r 40 0 l) 20 0 k = rn r l 2 t 20 0 k by simp [up, hk], hrg 20 (by omega)]
  · rw [show up (rn r l 2 t) 20 0 24 (r 20 0 24 + r 40 0 l) 20 0 24 = r 20 0 24 + r 40 0 l by simp [up], tsum_one o1 hs (by rw [o3]; simp [upd]) nl hl, h.2.2.2.1.2, e0, o3]
    simp [upd]
  · have o := Rel_lok h hl
    unfold okLo at o ⊢
    simp [upd]
    exact ⟨o.1, o.2.1, o.2.2.1⟩
/-- a weight wears a cell -/
def rwear (r : F3) (i : Nat) (w : Int32) : Option F3 := mm_let (up r 35 0 i (r 35 0 i + w)) fun f11 => if f11 30 0 i = 4 then some f11 else if f11 35 0 i < f11 31 0 i then some f11 else Option.bind (S_X7_cracks f11 (nI i)) fun f14 => some f14
theorem sim_wear (h : Rel nc nl nr nt c r) {i : Nat} (hi : i < nc) (w : Int32) : ∃ c' r', S_X0_wearDown c i w = some c' ∧ rwear r i w = some r' ∧ Rel nc nl nr nt c' r' ∧ (∀ g, g ≠ 1 → c' g = c g) ∧ ∀ g, (g < 30 ∨ 38 < g) → r' g = r g := by
  have hb := h.1
  have e := Rel_eq h hi
  have ok := Rel_ok h hi
  have e0 : r 30 0 i = c 1 i 0 := congrFun e 0
  have e1 : r 31 0 i = c 1 i 1 := congrFun e 1
  have e5 : r 35 0 i = c 1 i 5 := congrFun e 5
  unfold S_X0_wearDown rwear
  rw [e5, mlt, mlt]
  have u := Cupd_up c i 5 (c 1 i 5 + w)
  have v : Rupd r (up r 35 0 i (c 1 i 5 + w)) i (upd (rs r i) 5 (c 1 i 5 + w)) := Rupd_up r i 5 (c 1 i 5 + w) (by decide)
  rw [e] at v
  have h1 := Rel_cell h hi u v (okCe_5 ok)
  have a0 : up c 1 i 5 (c 1 i 5 + w) 1 i 0 = c 1 i 0 := by simp [up]
  have a1 : up c 1 i 5 (c 1 i 5 + w) 1 i 1 = c 1 i 1 := by simp [up]
  have a5 : up c 1 i 5 (c 1 i 5 + w) 1 i 5 = c 1 i 5 + w := by simp [up]
  have b0 : up r 35 0 i (c 1 i 5 + w) 30 0 i = c 1 i 0 := by rw [up_reg (by decide)]; exact e0
  have b1 : up r 35 0 i (c 1 i 5 + w) 31 0 i = c 1 i 1 := by rw [up_reg (by decide)]; exact e1
  have b5 : up r 35 0 i (c 1 i 5 + w) 35 0 i = c 1 i 5 + w := by simp [up]
  rw [a0, a1, a5, b0, b1, b5]
  by_cases h4 : c 1 i 0 = 4
  · rw [if_pos h4, if_pos h4]
    exact ⟨_, _, rfl, rfl, h1, u.2.2, v.2.2⟩
  · rw [if_neg h4, if_neg h4]
    by_cases h5 : c 1 i 5 + w < c 1 i 1
    · rw [if_pos h5, if_pos h5]
      exact ⟨_, _, rfl, rfl, h1, u.2.2, v.2.2⟩
    · obtain ⟨c2, g1, g2⟩ := C_crack (up c 1 i 5 (c 1 i 5 + w)) i
      obtain ⟨r2, g3, g4⟩ := R_cracks (up r 35 0 i (c 1 i 5 + w)) (show i < 10 by omega)
      rw [Rel_eq h1 hi] at g4
      have u2 := u.tr g2
      have v2 := v.tr g4
      rw [if_neg h5, if_neg h5, g1, g3, mob, mob]
      exact ⟨_, _, rfl, rfl, Rel_cell h1 hi g2 g4 (okCe_crk (Rel_ok h1 hi)), u2.2.2, v2.2.2⟩
/-- the class's part once nothing stands against it -/
def bodC (c : F3) (l i : Nat) : Option F3 := Option.bind (S_X0_noteCome c i (c 2 l 2) (c 0 0 15)) fun f11 => mm_b2 (S_X0_holdsUp f11 i (f11 2 l 0)) fun r13 f12 => if r13 = 0 then (Option.bind (S_X1_end f12 l 3 (f12 0 0 15)) fun f15 => Option.bind (S_X0_crack f15 i) fun f16 => some f16) else (Option.bind (S_X1_enter f12 l (nI i)) fun f17 => Option.bind (S_X0_wearDown f17 i (f17 2 l 0)) fun f18 => some f18)
/-- what a load's move leaves as it was -/
def MF (c c' r r' : F3) (l : Nat) : Prop := (∀ g, g ≠ 1 → g ≠ 2 → g ≠ 13 → c' g = c g) ∧ (∀ j, j ≠ l → c' 2 j = c 2 j) ∧ r' 24 = r 24
theorem sim_comes (h : Rel nc nl nr nt c r) {l i : Nat} (hl : l < nl) (hi : i < nc) (hs : c 2 l 3 ≠ 2) : ∃ c' r', bodC c l i = some c' ∧ S_X7_comes r (nI l) (nI i) = some r' ∧ Rel nc nl nr nt c' r' ∧ MF c c' r r' l ∧ (c' 2 l 3 = 1 ∨ c' 2 l 3 = 3) := by
  have hb := h.1
  have ec := Rel_eq h hi
  have okc0 := Rel_ok h hi
  obtain ⟨e0, e1, e2, e3, e4, e5, e6, e7⟩ := rl_at h hl
  have hd := (Rel_lok h hl).2.2.1
  have s9 : c 0 0 15 = r 20 0 1 := h.2.1.2.2.2.2.2.2.2.2.1
  have ol := okI_nI (show l < 24 by omega) (by decide)
  have oi := okI_nI (show i < 10 by omega) (by decide)
  have e2i : 2 * nI i = nI (2 * i) := by rw [show (2 : Int32) = nI 2 from rfl, pk_mul]
  obtain ⟨w, c1, hw, n1, n2, n3, n4⟩ : ∃ w c1, w < 2 ∧ S_X0_noteCome c i (c 2 l 2) (c 0 0 15) = some c1 ∧ Cupd c c1 i (upd (c 1 i) (8 + w) (c 0 0 15)) ∧ okI (2 * nI i + r 42 0 l) 20 = true ∧ (2 * nI i + r 42 0 l).toNatClampNeg = 2 * i + w := by
    unfold S_X0_noteCome
    rw [e2, e2i]
    rcases hd with q | q
    · rw [q, if_pos rfl, Int32.add_zero, nI_clamp (by omega), mlt]
      exact ⟨0, _, by decide, rfl, Cupd_up c i 8 _, okI_nI (by omega) (by decide), rfl⟩
    · rw [q, if_neg (by decide), nI_1, nI_clamp (by omega), mlt]
      exact ⟨1, _, by decide, rfl, Cupd_up c i 9 _, okI_nI (by omega) (by decide), rfl⟩
  have n5 := Rupd_came r i w (c 0 0 15) hw
  rw [ec] at n5
  have h1 := Rel_cell h hi n2 n5 (okCe_8 (by omega) okc0)
  generalize hr1 : up r 38 0 (2 * i + w) (c 0 0 15) = r1 at n5 h1
  have k2 : c1 2 = c 2 := n2.2.2 2 (by decide)
  have k0 : c1 0 = c 0 := n2.2.2 0 (by decide)
  have q20 : r1 20 = r 20 := n5.2.2 20 (by omega)
  have q40 : r1 40 = r 40 := n5.2.2 40 (by omega)
  unfold bodC S_X7_comes
  rw [n1, mob, C_holdsUp, mb2, if_pos ol, nIk (show l < 24 by omega) (by decide), if_pos n3, n4, ← s9, mlt, hr1, q40, e0, R_isBorne r1 (show i < 10 by omega), mb2, k2, Rel_eq h1 hi]
  cases hB : fBor (c 2 l 0) (c1 1 i)
  · rw [bo_f, if_pos rfl, if_pos rfl]
    unfold S_X1_end
    rw [mlt, mlt, mlt, mlt, mob, mlt, mlt]
    have v1 : up r1 43 0 l 3 20 0 1 = c 0 0 15 := by rw [up_reg (by decide), q20, s9]
    rw [v1, k0]
    have hR := Rel_end3 (t := c 0 0 15) h1 hl (by rw [k2]; exact hs)
    obtain ⟨o1, o2, o3⟩ := cn_o c1 l 3 (c 0 0 15)
    obtain ⟨c2, g1, g2⟩ := C_crack (cn c1 l 3 (c 0 0 15)) i
    obtain ⟨r2, g3, g4⟩ := R_cracks (rn r1 l 3 (c 0 0 15)) (show i < 10 by omega)
    rw [Rel_eq hR hi] at g4
    have hf := Rel_cell hR hi g2 g4 (okCe_crk (Rel_ok hR hi))
    refine ⟨c2, r2, ?_, ?_, hf, ⟨fun g a b _ => ?_, fun j hj => ?_, ?_⟩, Or.inr ?_⟩
    · show Option.bind (S_X0_crack (cn c1 l 3 (c 0 0 15)) i) _ = _
      rw [g1, mob]
    · show Option.bind (S_X7_cracks (rn r1 l 3 (c 0 0 15)) (nI i)) _ = _
      rw [g3, mob]
    · rw [g2.2.2 g a, o2 g b, n2.2.2 g a]
    · rw [g2.2.2 2 (by decide), o1 j hj, k2]
    · rw [g4.2.2 24 (by omega)]
      unfold rn
      rw [up_reg (by decide), up_reg (by decide), n5.2.2 24 (by omega)]
    · rw [g2.2.2 2 (by decide), o3]
      simp [upd]
  · rw [bo_t, if_neg (show ¬ (1 : Int32) = 0 by decide), if_neg (show ¬ (1 : Int32) = 0 by decide)]
    unfold S_X1_enter
    rw [mlt, mlt, mlt, mob, mlt, mlt, mlt, if_pos oi, nIk (show i < 10 by omega) (by decide)]
    have hR := Rel_enter h1 hl hi (by rw [k2]; exact hs)
    obtain ⟨o1, o2, o3⟩ := ce_o c1 l i
    have w1 : ce c1 l i 2 l 0 = c 2 l 0 := by rw [o3, k2]; simp [upd]
    have w2 : re r1 l i 40 0 l = c 2 l 0 := by
      unfold re
      rw [up_reg (by decide), up_reg (by decide), up_reg (by decide), q40, e0]
    obtain ⟨c2, r2, g1, g2, g3, g4, g5⟩ := sim_wear hR hi (c 2 l 0)
    refine ⟨c2, r2, ?_, ?_, g3, ⟨fun g a b _ => ?_, fun j hj => ?_, ?_⟩, Or.inl ?_⟩
    · show Option.bind (S_X0_wearDown (ce c1 l i) i (ce c1 l i 2 l 0)) _ = _
      rw [w1, g1, mob]
    · show rwear (re r1 l i) i (re r1 l i 40 0 l) = _
      rw [w2, g2]
    · rw [g4 g a, o2 g b, n2.2.2 g a]
    · rw [g4 2 (by decide), o1 j hj, k2]
    · rw [g5 24 (by omega)]
      unfold re
      rw [up_reg (by decide), up_reg (by decide), up_reg (by decide), n5.2.2 24 (by omega)]
    · rw [g4 2 (by decide), o3]
      simp [upd]
/-- whether another load stands in the way -/
theorem sim_barred (h : Rel nc nl nr nt c r) {l i : Nat} (hl : l < nl) (hi : i < nc) {nw : Int32} (hnw : nw = if 10 ≤ c 1 i 3 then 0 else 1) : ∀ (m t n : Nat) (z : Int32), z = nI t → t + m = nl → m < n → ∃ b : Bool, S_X6_isBarred_23 n c l (nI i) nw z = some (bo b, c) ∧ S_X7_can_13 n r (nI l) (nI i) z = some (bo (!b), r)
  | 0, t, n + 1, z, hz, hm, _ => by
    rw [hz, S_X6_isBarred_23, S_X7_can_13, h.2.1.2.2.1, h.2.1.2.2.2.1, if_pos (by rw [show t = nl by omega]; exact Int32.le_refl _), if_pos (by rw [show t = nl by omega]; exact Int32.le_refl _)]
    exact ⟨false, rfl, rfl⟩
  | m + 1, t, n + 1, z, hz, hm, hn => by
    have hb := h.1
    have ht : t < nl := by omega
    obtain ⟨e0, e1, e2, e3, e4, e5, e6, e7⟩ := rl_at h ht
    obtain ⟨-, -, e2l, -⟩ := rl_at h hl
    have e33 : r 33 0 i = c 1 i 3 := congrFun (Rel_eq h hi) 3
    have ot := okI_nI (show t < 24 by omega) (by decide)
    have ol := okI_nI (show l < 24 by omega) (by decide)
    have oi := okI_nI (show i < 10 by omega) (by decide)
    have ng : ¬ nI nl ≤ nI t := nle_of ht (by omega)
    have ih := sim_barred h hl hi hnw m (t + 1) n _ rfl (by omega) (by omega)
    rw [hz, S_X6_isBarred_23, S_X7_can_13, h.2.1.2.2.1, h.2.1.2.2.2.1, if_neg ng, if_neg ng, if_pos ot, if_pos ot, nIk (show t < 24 by omega) (by decide), e3]
    unfold S_X6_isBarred_77 S_X7_can_69
    rw [nI_1, if_pos ol, nIk (show l < 24 by omega) (by decide), if_pos oi, nIk (show i < 10 by omega) (by decide), e2, e2l, e33]
    by_cases q1 : c 2 t 3 = 1
    · rw [e3, if_pos q1] at e4
      rw [if_pos q1, if_pos q1, e4]
      by_cases q4 : c 2 t 4 = nI i
      · rw [if_pos q4, if_pos q4]
        by_cases q10 : 10 ≤ c 1 i 3
        · rw [if_pos q10] at hnw
          rw [if_pos hnw, if_pos q10]
          by_cases qd : c 2 t 2 = c 2 l 2
          · rw [if_pos qd, if_pos qd]
            exact ⟨true, rfl, rfl⟩
          · rw [if_neg qd, if_neg qd]
            exact ih
        · rw [if_neg q10] at hnw
          rw [if_neg (by rw [hnw]; decide), if_neg q10]
          refine ⟨true, rfl, ?_⟩
          split <;> rfl
      · rw [if_neg q4, if_neg q4]
        exact ih
    · rw [if_neg q1, if_neg q1]
      exact ih
  | 0, _, 0, _, _, _, h => absurd h (Nat.lt_irrefl 0)
  | m + 1, _, 0, _, _, _, h => absurd h (by omega)
theorem sim_can (h : Rel nc nl nr nt c r) (hh : 0 ≤ (c 0 0 15).toInt) {l i : Nat} (hl : l < nl) (hi : i < nc) : ∃ w c1, S_X7_can r (nI l) (nI i) = some (w, r) ∧ S_X6_comeIfItCan c l (nI i) = (if w = 0 then some c1 else bodC c1 l i) ∧ ∀ g, g ≠ 13 → c1 g = c g := by
  have hb := h.1
  have oi := okI_nI (show i < 10 by omega) (by decide)
  obtain ⟨b, a1, a2⟩ := sim_barred h hl hi (nw := if 10 ≤ c 1 i 3 then 0 else 1) rfl nl 0 FU 0 rfl (by omega) (FU_gt (by omega))
  obtain ⟨w, c1, b1, b2, b3⟩ := sim_reason h hh hl hi
  have hbar : S_X6_isBarred c l (nI i) = some (bo b, c) := by
    unfold S_X6_isBarred S_X6_isBarred_19
    rw [if_pos oi, nIk (show i < 10 by omega) (by decide)]
    by_cases q : 10 ≤ c 1 i 3
    · rw [if_pos q]
      rw [if_pos q] at a1
      exact a1
    · rw [if_neg q]
      rw [if_neg q] at a1
      exact a1
  unfold S_X6_comeIfItCan S_X7_can
  rw [C_isCell h, mb2, okI_nI hi (by omega), bo_t, if_neg (show ¬ (1 : Int32) = 0 by decide), hbar, mb2, b1, mb2, b2, mb2, if_pos oi, nIk (show i < 10 by omega) (by decide), a2]
  cases b
  · rw [bo_f, if_pos rfl]
    by_cases k : w = 0
    · rw [if_pos k, if_pos k]
      refine ⟨1, c1, rfl, ?_, b3⟩
      rw [if_neg (show ¬ (1 : Int32) = 0 by decide)]
      rfl
    · rw [if_neg k, if_neg k]
      refine ⟨0, c1, rfl, ?_, b3⟩
      rw [if_pos rfl]
  · rw [bo_t, if_neg (show ¬ (1 : Int32) = 0 by decide)]
    refine ⟨0, c, ?_, ?_, fun _ _ => rfl⟩
    · by_cases k : w = 0
      · rw [if_pos k]
        rfl
      · rw [if_neg k]
    · rw [if_pos rfl]
end MV
