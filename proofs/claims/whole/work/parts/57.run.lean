/-! the moves of an hour; run -/
section M1
variable {nc nl nr nt : Nat} {c r : F3}
theorem sim_come_at (h : Rel nc nl nr nt c r) (hh : 0 ≤ (c 0 0 15).toInt) {l i : Nat} (hl : l < nl) (hi : i < nc) (hs : c 2 l 3 ≠ 2) : ∃ w c' r', S_X7_can r (nI l) (nI i) = some (w, r) ∧ S_X6_comeIfItCan c l (nI i) = some c' ∧ (w = 0 → r' = r) ∧ (w ≠ 0 → S_X7_comes r (nI l) (nI i) = some r') ∧ Rel nc nl nr nt c' r' ∧ MF c c' r r' l ∧ (c' 2 l 3 = c 2 l 3 ∨ c' 2 l 3 = 1 ∨ c' 2 l 3 = 3) := by
  obtain ⟨w, c1, a1, a2, a3⟩ := sim_can h hh hl hi
  have h1 : Rel nc nl nr nt c1 r := Rel_13 h a3
  have k2 : c1 2 = c 2 := a3 2 (by decide)
  by_cases q : w = 0
  · rw [if_pos q] at a2
    exact ⟨w, c1, r, a1, a2, fun _ => rfl, fun z => absurd q z, h1, ⟨fun g _ _ z => a3 g z, fun j _ => by rw [k2], rfl⟩, Or.inl (by rw [k2])⟩
  · rw [if_neg q] at a2
    obtain ⟨c', r', b1, b2, b3, ⟨b4, b5, b6⟩, b7⟩ := sim_comes h1 hl hi (by rw [k2]; exact hs)
    exact ⟨w, c', r', a1, a2.trans b1, fun z => absurd z q, fun _ => b2, b3, ⟨fun g x y z => (b4 g x y z).trans (a3 g z), fun j hj => (b5 j hj).trans (by rw [k2]), b6⟩, Or.inr b7⟩
/-- the class's move of a load on a cell -/
def bodM (k2 : F3 → Int32 → Option F3) (f : F3) (l : Nat) (x1 : Int32) : Option F3 := mm_b2 (S_X6_isCell f (f 2 l 4)) fun r6 f5 => if r6 = 0 then (S_X6_moveLoadsOnCells_109 k2 f5 x1) else (if okI (f5 2 l 4) 10 then (if (f5 2 l 5) < (f5 1 ((f5 2 l 4).toNatClampNeg) 4) then (S_X6_moveLoadsOnCells_109 k2 f5 x1) else (mm_b2 (S_X6_lastPlace f5 (f5 2 l 2)) fun r11 f10 => if (f5 2 l 4) = r11 then (Option.bind (S_X1_end f10 l 2 (f10 0 0 15)) fun f14 => S_X6_moveLoadsOnCells_109 k2 f14 x1) else (if (f10 2 l 2) = 0 then (S_X6_moveLoadsOnCells_106 k2 f10 l ((f10 2 l 4) + 1) x1) else (S_X6_moveLoadsOnCells_106 k2 f10 l ((f10 2 l 4) - 1) x1)))) else none)
theorem sim_goesOn (h : Rel nc nl nr nt c r) (hh : 0 ≤ (c 0 0 15).toInt) {l : Nat} (hl : l < nl) (hs : c 2 l 3 = 1) : ∃ c' r', (∀ k2 x1, bodM k2 c l x1 = k2 c' (x1 + 1)) ∧ S_X7_goesOn r (nI l) = some r' ∧ Rel nc nl nr nt c' r' ∧ MF c c' r r' l ∧ (c' 2 l 3 = 1 ∨ c' 2 l 3 = 2 ∨ c' 2 l 3 = 3) := by
  have hb := h.1
  obtain ⟨e0, e1, e2, e3, e4, e5, e6, e7⟩ := rl_at h hl
  rw [e3, if_pos hs] at e4 e5
  obtain ⟨i, hi, ei⟩ := (Rel_lok h hl).2.2.2.2 hs
  have hd := (Rel_lok h hl).2.2.1
  have ol := okI_nI (show l < 24 by omega) (by decide)
  have oi := okI_nI (show i < 10 by omega) (by decide)
  have e34 : r 34 0 i = c 1 i 4 := congrFun (Rel_eq h hi) 4
  have s9 : c 0 0 15 = r 20 0 1 := h.2.1.2.2.2.2.2.2.2.2.1
  have hs2 : c 2 l 3 ≠ 2 := by rw [hs]; decide
  unfold bodM S_X7_goesOn
  rw [ei, C_isCell h, okI_nI hi (by omega), bo_t, if_pos ol, nIk (show l < 24 by omega) (by decide), e4, ei, if_pos oi, nIk (show i < 10 by omega) (by decide), e34, e5, e2, h.2.1.2.1]
  have skip : ∃ c' r', (∀ (k2 : F3 → Int32 → Option F3) (x1 : Int32), S_X6_moveLoadsOnCells_109 k2 c x1 = k2 c' (x1 + 1)) ∧ some r = some r' ∧ Rel nc nl nr nt c' r' ∧ MF c c' r r' l ∧ (c' 2 l 3 = 1 ∨ c' 2 l 3 = 2 ∨ c' 2 l 3 = 3) := ⟨c, r, fun _ _ => rfl, rfl, h, ⟨fun _ _ _ _ => rfl, fun _ _ => rfl, rfl⟩, Or.inl hs⟩
  by_cases q : c 2 l 5 < c 1 i 4
  · rw [if_neg (fun z => by rw [fa_lt] at q; rw [fa_le] at z; omega)]
    obtain ⟨c', r', a1, a2⟩ := skip
    refine ⟨c', r', fun k2 x1 => ?_, a2⟩
    rw [mb2, if_neg (show ¬ (1 : Int32) = 0 by decide), if_pos (by rw [ei]; exact oi), ei, nIk (show i < 10 by omega) (by decide), if_pos q]
    exact a1 k2 x1
  · rw [if_pos (by rw [fa_lt] at q; rw [fa_le]; omega)]
    -- the last place, and the next
    obtain ⟨p, hp, lp1, lp2⟩ : ∃ p, p < nc ∧ S_X6_lastPlace c (c 2 l 2) = some (nI p, c) ∧ (if c 2 l 2 = 0 then S_X7_goesOn_42 r (nI nc - 1) (nI l) (nI i) else S_X7_goesOn_42 r 0 (nI l) (nI i)) = S_X7_goesOn_42 r (nI p) (nI l) (nI i) ∧ (c 2 l 2 = 0 → p = nc - 1) ∧ (c 2 l 2 ≠ 0 → p = 0) := by
      unfold S_X6_lastPlace
      have en : nI nc - 1 = nI (nc - 1) := by rw [show (1 : Int32) = nI 1 from rfl, pk_sub (by omega)]
      by_cases z : c 2 l 2 = 0
      · rw [if_pos z, if_pos z, h.2.1.1, en]
        exact ⟨nc - 1, by omega, rfl, rfl, fun _ => rfl, fun w => absurd z w⟩
      · rw [if_neg z, if_neg z]
        exact ⟨0, by omega, rfl, rfl, fun w => absurd w z, fun _ => rfl⟩
    obtain ⟨lp2, lp3, lp4⟩ := lp2
    rw [lp2]
    unfold S_X7_goesOn_42
    by_cases qe : i = p
    · subst qe
      have hR := Rel_end2 (t := c 0 0 15) h hl hs2
      obtain ⟨o1, o2, o3⟩ := cn_o c l 2 (c 0 0 15)
      rw [if_pos rfl, if_pos ol, nIk (show l < 24 by omega) (by decide), mlt, mlt, mlt]
      have v1 : up r 43 0 l 2 20 0 1 = c 0 0 15 := by rw [up_reg (by decide), s9]
      rw [v1]
      have v2 : up (up r 43 0 l 2) 46 0 l (c 0 0 15) 20 0 24 = r 20 0 24 := by rw [up_reg (by decide), up_reg (by decide)]
      have v3 : up (up r 43 0 l 2) 46 0 l (c 0 0 15) 40 0 l = r 40 0 l := by rw [up_reg (by decide), up_reg (by decide)]
      rw [v2, v3]
      refine ⟨cn c l 2 (c 0 0 15), _, fun k2 x1 => ?_, rfl, hR, ⟨fun g _ y _ => o2 g y, o1, ?_⟩, Or.inr (Or.inl (by rw [o3]; simp [upd]))⟩
      · rw [mb2, if_neg (show ¬ (1 : Int32) = 0 by decide), if_pos (by rw [ei]; exact oi), ei, nIk (show i < 10 by omega) (by decide), if_neg q, lp1, mb2, if_pos rfl]
        rfl
      · rw [up_reg (by decide), up_reg (by decide), up_reg (by decide)]
    · have ne : ¬ nI i = nI p := fun z => qe ((nI_eq (by omega) (by omega)).mp z)
      rw [if_neg ne, if_pos ol, nIk (show l < 24 by omega) (by decide), e2]
      -- the next place
      obtain ⟨j, hj, j1, j2⟩ : ∃ j, j < nc ∧ (∀ (k2 : F3 → Int32 → Option F3) (x1 : Int32), (if c 2 l 2 = 0 then (S_X6_moveLoadsOnCells_106 k2 c l (nI i + 1) x1) else (S_X6_moveLoadsOnCells_106 k2 c l (nI i - 1) x1)) = S_X6_moveLoadsOnCells_106 k2 c l (nI j) x1) ∧ (if c 2 l 2 = 0 then (S_X7_goesOn_103 r (nI l) (nI i + 1) (nI l) (nI i)) else (S_X7_goesOn_103 r (nI l) (nI i - 1) (nI l) (nI i))) = (mm_b2 (S_X7_can r (nI l) (nI j)) fun r13 f12 => if r13 = 0 then some f12 else (if okI (nI l) 24 then (if f12 42 0 (nI l).toNatClampNeg = c 2 l 2 then Option.bind (S_X7_comes f12 (nI l) (nI j)) fun f17 => some f17 else (if (f12 42 0 (nI l).toNatClampNeg) = 0 then (S_X7_goesOn_129 f12 (nI l) (nI i + 1)) else (S_X7_goesOn_129 f12 (nI l) (nI i - 1)))) else none)) := by
        by_cases z : c 2 l 2 = 0
        · have hp' := lp3 z
          refine ⟨i + 1, by omega, fun k2 x1 => by rw [if_pos z, nI_1], ?_⟩
          rw [if_pos z, nI_1, z]
          unfold S_X7_goesOn_103 S_X7_goesOn_129
          rw [nI_1]
          congr 1
          funext a b
          by_cases w : b 42 0 (nI l).toNatClampNeg = 0
          · simp only [w, if_true]
          · simp only [w, if_false]
        · have hp' := lp4 z
          have ej : nI i - 1 = nI (i - 1) := by rw [show (1 : Int32) = nI 1 from rfl, pk_sub (by omega)]
          refine ⟨i - 1, by omega, fun k2 x1 => by rw [if_neg z, ej], ?_⟩
          rw [if_neg z, ej]
          unfold S_X7_goesOn_103 S_X7_goesOn_129
          rw [ej]
          congr 1
          funext a b
          by_cases w : b 42 0 (nI l).toNatClampNeg = c 2 l 2
          · simp only [w, if_true, z, if_false]
          · simp only [w, if_false]
      rw [j2]
      obtain ⟨w, c', r', a1, a2, a3, a4, a5, a6, a7⟩ := sim_come_at h hh hl hj hs2
      have hC : ∀ (k2 : F3 → Int32 → Option F3) (x1 : Int32), S_X6_moveLoadsOnCells_106 k2 c l (nI j) x1 = k2 c' (x1 + 1) := by
        intro k2 x1
        unfold S_X6_moveLoadsOnCells_106 S_X6_moveLoadsOnCells_109
        rw [a2, mob]
      refine ⟨c', r', fun k2 x1 => ?_, ?_, a5, a6, ?_⟩
      · rw [mb2, if_neg (show ¬ (1 : Int32) = 0 by decide), if_pos (by rw [ei]; exact oi), ei, nIk (show i < 10 by omega) (by decide), if_neg q, lp1, mb2, if_neg ne, ei, j1, hC]
      · rw [a1, mb2]
        by_cases z : w = 0
        · rw [if_pos z, a3 z]
        · rw [if_neg z, if_pos ol, nIk (show l < 24 by omega) (by decide), e2, if_pos rfl, a4 z, mob]
      · rw [hs] at a7
        rcases a7 with a | a | a
        · exact Or.inl a
        · exact Or.inl a
        · exact Or.inr (Or.inr a)
end M1
def JJ (c r : F3) (nl : Nat) (s : Int32) (k : Nat) : Prop := (∀ j, j < k → ¬ PP r s (pb c j)) ∧ ∀ j, k ≤ j → j < nl → c 2 (pb c j) 3 = s → r 24 0 (pb c j) = 0
theorem sim_phase1 : ∀ (m k n n2 : Nat) (nc nl nr nt : Nat) (c r : F3) (z : Int32), z = nI k → Rel nc nl nr nt c r → 0 ≤ (c 0 0 15).toInt → k + m = nl → m < n → m < n2 → JJ c r nl 1 k → (∀ l, l < nl → c 2 l 3 = 0 → r 24 0 l = 0) → ∃ c' r', S_X6_moveLoadsOnCells_2 n c z = some c' ∧ (mm_b2 (S_X7_next r 1) fun a f => S_X7_goesBy_84 n2 f a) = (mm_b2 (S_X7_next r' 0) fun a f => S_X7_goesBy_116 FU f a) ∧ Rel nc nl nr nt c' r' ∧ c' 0 = c 0 ∧ ∀ l, l < nl → c' 2 l 3 = 0 → r' 24 0 l = 0
  | 0, k, n + 1, n2 + 1, nc, nl, nr, nt, c, r, z, hz, h, hh, hk, _, _, hJ, hZ => by
    rw [next_none h (fun j hj => hJ.1 j (by omega)), mb2, hz, S_X6_moveLoadsOnCells_2, h.2.1.2.2.1, if_pos (by rw [show k = nl by omega]; exact Int32.le_refl _), S_X7_goesBy_84, if_pos rfl]
    exact ⟨c, r, rfl, rfl, h, rfl, hZ⟩
  | m + 1, k, n + 1, n2 + 1, nc, nl, nr, nt, c, r, z, hz, h, hh, hk, hn, hn2, hJ, hZ => by
    have hb := h.1
    have hkl : k < nl := by omega
    have ho : okI (nI k) 24 = true := okI_nI (by omega) (by decide)
    have hng : ¬ nI nl ≤ nI k := nle_of hkl (by omega)
    obtain ⟨hp1, hp2⟩ := pb_lt h hkl
    have hp3 : (nI (pb c k)).toNatClampNeg = pb c k := nI_clamp (by omega)
    have e3 := (rl_at h hp1).2.2.2.1
    rw [hz, S_X6_moveLoadsOnCells_2, h.2.1.2.2.1, if_neg hng, if_pos ho, nIk (show k < 24 by omega) (by decide), hp2, hp3, if_pos (show pb c k < 24 by omega)]
    by_cases q : c 2 (pb c k) 3 = 1
    · have hf : r 24 0 (pb c k) = 0 := hJ.2 k (Nat.le_refl _) hkl q
      rw [next_some h hkl ⟨hf, by rw [e3]; exact q⟩ hJ.1, mb2, S_X7_goesBy_84, if_neg (show ¬ nI (pb c k) = -1 from ki_sm' (show pb c k < 24 by omega)), if_pos (okI_nI (show pb c k < 24 by omega) (by decide)), hp3, mlt, if_pos q]
      have h1 : Rel nc nl nr nt c (up r 24 0 (pb c k) 1) := Rel_r24 h (fun g hg => up_reg hg)
      obtain ⟨c1, r1, a1, a2, a3, ⟨a4, a5, a6⟩, a7⟩ := sim_goesOn h1 hh hp1 q
      rw [a2, mob]
      have c9 : c1 9 = c 9 := a4 9 (by decide) (by decide) (by decide)
      have c0 : c1 0 = c 0 := a4 0 (by decide) (by decide) (by decide)
      have epb : ∀ j, pb c1 j = pb c j := fun j => by unfold pb; rw [c9]
      have e43 : ∀ l, l < nl → r1 43 0 l = c1 2 l 3 := fun l hl => (rl_at a3 hl).2.2.2.1
      have fl : ∀ l, l ≠ pb c k → r1 24 0 l = r 24 0 l := fun l hl => by
        rw [a6]
        simp [up, hl]
      have fk : r1 24 0 (pb c k) = 1 := by
        rw [a6]
        simp [up]
      obtain ⟨c', r', b1, b2, b3, b4, b5⟩ := sim_phase1 m (k + 1) n n2 nc nl nr nt c1 r1 _ (nI_1 k) a3 (by rw [c0]; exact hh) (by omega) (by omega) (by omega) (by
        refine ⟨fun j hj => ?_, fun j j1 j2 js => ?_⟩
        · rw [epb]
          by_cases e : j = k
          · subst e
            intro z
            rw [z.1] at fk
            exact absurd fk (by decide)
          · have ne := pb_ne h (show j < k by omega) hkl
            intro z
            refine hJ.1 j (by omega) ⟨by rw [← fl _ ne]; exact z.1, ?_⟩
            have := z.2
            rw [e43 _ (pb_lt h (show j < nl by omega)).1, a5 _ ne] at this
            rw [(rl_at h (pb_lt h (show j < nl by omega)).1).2.2.2.1]
            exact this
        · rw [epb] at js ⊢
          have ne := pb_ne h (show k < j by omega) j2
          rw [a5 _ ne.symm] at js
          rw [fl _ ne.symm]
          exact hJ.2 j (by omega) j2 js) (fun l hl hs => by
        by_cases e : l = pb c k
        · subst e
          rw [hs] at a7
          exact absurd a7 (by decide)
        · rw [a5 l e] at hs
          rw [fl l e]
          exact hZ l hl hs)
      refine ⟨c', r', ?_, b2, b3, b4.trans c0, b5⟩
      exact (a1 (fun f9 x1_ => S_X6_moveLoadsOnCells_2 n f9 x1_) (nI k)).trans b1
    · rw [if_neg q]
      unfold S_X6_moveLoadsOnCells_109
      have hJ' : JJ c r nl 1 (k + 1) := by
        refine ⟨fun j hj => ?_, fun j j1 j2 js => hJ.2 j (by omega) j2 js⟩
        by_cases e : j = k
        · subst e
          intro z
          exact q (by rw [← e3]; exact z.2)
        · exact hJ.1 j (by omega)
      exact sim_phase1 m (k + 1) n (n2 + 1) nc nl nr nt c r _ (nI_1 k) h hh (by omega) (by omega) (by omega) hJ' hZ
  | 0, _, 0, _, _, _, _, _, _, _, _, _, _, _, _, h, _, _, _ => absurd h (Nat.lt_irrefl 0)
  | m + 1, _, 0, _, _, _, _, _, _, _, _, _, _, _, _, h, _, _, _ => absurd h (by omega)
  | 0, _, _ + 1, 0, _, _, _, _, _, _, _, _, _, _, _, _, h, _, _ => absurd h (Nat.lt_irrefl 0)
  | m + 1, _, _ + 1, 0, _, _, _, _, _, _, _, _, _, _, _, _, h, _, _ => absurd h (by omega)
theorem sim_phase2 : ∀ (m k n n2 : Nat) (nc nl nr nt : Nat) (c r : F3) (z : Int32), z = nI k → Rel nc nl nr nt c r → 0 ≤ (c 0 0 15).toInt → k + m = nl → m < n → m < n2 → JJ c r nl 0 k → ∃ c' r', S_X6_moveWaitingLoads_2 n c z = some c' ∧ (mm_b2 (S_X7_next r 0) fun a f => S_X7_goesBy_116 n2 f a) = some (up r' 20 0 1 (r' 20 0 1 + 1)) ∧ Rel nc nl nr nt c' r' ∧ c' 0 = c 0
  | 0, k, n + 1, n2 + 1, nc, nl, nr, nt, c, r, z, hz, h, hh, hk, _, _, hJ => by
    rw [next_none h (fun j hj => hJ.1 j (by omega)), mb2, hz, S_X6_moveWaitingLoads_2, h.2.1.2.2.1, if_pos (by rw [show k = nl by omega]; exact Int32.le_refl _), S_X7_goesBy_116, if_pos rfl, mlt]
    exact ⟨c, r, rfl, rfl, h, rfl⟩
  | m + 1, k, n + 1, n2 + 1, nc, nl, nr, nt, c, r, z, hz, h, hh, hk, hn, hn2, hJ => by
    have hb := h.1
    have hkl : k < nl := by omega
    have ho : okI (nI k) 24 = true := okI_nI (by omega) (by decide)
    have hng : ¬ nI nl ≤ nI k := nle_of hkl (by omega)
    obtain ⟨hp1, hp2⟩ := pb_lt h hkl
    have hp3 : (nI (pb c k)).toNatClampNeg = pb c k := nI_clamp (by omega)
    have e3 := (rl_at h hp1).2.2.2.1
    have e2 := (rl_at h hp1).2.2.1
    rw [hz, S_X6_moveWaitingLoads_2, h.2.1.2.2.1, if_neg hng, if_pos ho, nIk (show k < 24 by omega) (by decide), hp2, hp3, if_pos (show pb c k < 24 by omega)]
    by_cases q : c 2 (pb c k) 3 = 0
    · have hf : r 24 0 (pb c k) = 0 := hJ.2 k (Nat.le_refl _) hkl q
      rw [next_some h hkl ⟨hf, by rw [e3]; exact q⟩ hJ.1, mb2, S_X7_goesBy_116, if_neg (show ¬ nI (pb c k) = -1 from ki_sm' (show pb c k < 24 by omega)), if_pos (okI_nI (show pb c k < 24 by omega) (by decide)), hp3, mlt, if_pos q]
      have h1 : Rel nc nl nr nt c (up r 24 0 (pb c k) 1) := Rel_r24 h (fun g hg => up_reg hg)
      have u42 : up r 24 0 (pb c k) 1 42 0 (pb c k) = c 2 (pb c k) 2 := by rw [up_reg (by decide)]; exact e2
      have u20 : up r 24 0 (pb c k) 1 20 0 2 = nI nc := by rw [up_reg (by decide)]; exact h.2.1.2.1
      have en : nI nc - 1 = nI (nc - 1) := by rw [show (1 : Int32) = nI 1 from rfl, pk_sub (by omega)]
      obtain ⟨i, hi, i1, i2⟩ : ∃ i, i < nc ∧ (if c 2 (pb c k) 2 = 0 then (S_X6_moveWaitingLoads_43 (fun f9 x1_ => S_X6_moveWaitingLoads_2 n f9 x1_) c (pb c k) 0 (nI k)) else (S_X6_moveWaitingLoads_43 (fun f9 x1_ => S_X6_moveWaitingLoads_2 n f9 x1_) c (pb c k) ((c 0 0 12) - 1) (nI k))) = S_X6_moveWaitingLoads_43 (fun f9 x1_ => S_X6_moveWaitingLoads_2 n f9 x1_) c (pb c k) (nI i) (nI k) ∧ (if up r 24 0 (pb c k) 1 42 0 (pb c k) = 0 then (S_X7_goesBy_147 (fun f9 x2_ => S_X7_goesBy_116 n2 f9 x2_) (up r 24 0 (pb c k) 1) 0 (nI (pb c k))) else (S_X7_goesBy_147 (fun f9 x2_ => S_X7_goesBy_116 n2 f9 x2_) (up r 24 0 (pb c k) 1) (up r 24 0 (pb c k) 1 20 0 2 - 1) (nI (pb c k)))) = S_X7_goesBy_147 (fun f9 x2_ => S_X7_goesBy_116 n2 f9 x2_) (up r 24 0 (pb c k) 1) (nI i) (nI (pb c k)) := by
        rw [u42, u20, h.2.1.1, en]
        by_cases w : c 2 (pb c k) 2 = 0
        · rw [if_pos w, if_pos w]
          exact ⟨0, by omega, rfl, rfl⟩
        · rw [if_neg w, if_neg w]
          exact ⟨nc - 1, by omega, rfl, rfl⟩
      rw [i1, i2]
      unfold S_X6_moveWaitingLoads_43 S_X6_moveWaitingLoads_46 S_X7_goesBy_147 S_X7_goesBy_163
      obtain ⟨w, c1, r1, a1, a2, a3, a4, a5, ⟨a6, a7, a8⟩, a9⟩ := sim_come_at h1 hh hp1 hi (by rw [q]; decide)
      rw [a1, mb2, a2, mob]
      have c9 : c1 9 = c 9 := a6 9 (by decide) (by decide) (by decide)
      have c0 : c1 0 = c 0 := a6 0 (by decide) (by decide) (by decide)
      have epb : ∀ j, pb c1 j = pb c j := fun j => by unfold pb; rw [c9]
      have e43 : ∀ l, l < nl → r1 43 0 l = c1 2 l 3 := fun l hl => (rl_at a5 hl).2.2.2.1
      have fl : ∀ l, l ≠ pb c k → r1 24 0 l = r 24 0 l := fun l hl => by
        rw [a8]
        simp [up, hl]
      have fk : r1 24 0 (pb c k) = 1 := by
        rw [a8]
        simp [up]
      obtain ⟨c', r', b1, b2, b3, b4⟩ := sim_phase2 m (k + 1) n n2 nc nl nr nt c1 r1 _ (nI_1 k) a5 (by rw [c0]; exact hh) (by omega) (by omega) (by omega) (by
        refine ⟨fun j hj => ?_, fun j j1 j2 js => ?_⟩
        · rw [epb]
          by_cases e : j = k
          · subst e
            intro z
            rw [z.1] at fk
            exact absurd fk (by decide)
          · have ne := pb_ne h (show j < k by omega) hkl
            intro z
            refine hJ.1 j (by omega) ⟨by rw [← fl _ ne]; exact z.1, ?_⟩
            have := z.2
            rw [e43 _ (pb_lt h (show j < nl by omega)).1, a7 _ ne] at this
            rw [(rl_at h (pb_lt h (show j < nl by omega)).1).2.2.2.1]
            exact this
        · rw [epb] at js ⊢
          have ne := pb_ne h (show k < j by omega) j2
          rw [a7 _ ne.symm] at js
          rw [fl _ ne.symm]
          exact hJ.2 j (by omega) j2 js)
      refine ⟨c', r', b1, ?_, b3, b4.trans c0⟩
      by_cases z : w = 0
      · rw [if_pos z, ← a3 z]
        exact b2
      · rw [if_neg z, a4 z, mob]
        exact b2
    · rw [if_neg q]
      unfold S_X6_moveWaitingLoads_46
      have hJ' : JJ c r nl 0 (k + 1) := by
        refine ⟨fun j hj => ?_, fun j j1 j2 js => hJ.2 j (by omega) j2 js⟩
        by_cases e : j = k
        · subst e
          intro z
          exact q (by rw [← e3]; exact z.2)
        · exact hJ.1 j (by omega)
      exact sim_phase2 m (k + 1) n (n2 + 1) nc nl nr nt c r _ (nI_1 k) h hh (by omega) (by omega) (by omega) hJ'
  | 0, _, 0, _, _, _, _, _, _, _, _, _, _, _, _, h, _, _ => absurd h (Nat.lt_irrefl 0)
  | m + 1, _, 0, _, _, _, _, _, _, _, _, _, _, _, _, h, _, _ => absurd h (by omega)
  | 0, _, _ + 1, 0, _, _, _, _, _, _, _, _, _, _, _, _, h, _ => absurd h (Nat.lt_irrefl 0)
  | m + 1, _, _ + 1, 0, _, _, _, _, _, _, _, _, _, _, _, _, h, _ => absurd h (by omega)
/-- one hour -/
theorem sim_hour {nc nl nr nt : Nat} {c r : F3} (h : Rel nc nl nr nt c r) (hh : 0 ≤ (c 0 0 15).toInt) : ∃ c1 c2 c3 c4 r4, S_X6_weatherCells c = some c1 ∧ S_X6_agePlaces c1 = some c2 ∧ S_X6_moveLoadsOnCells c2 = some c3 ∧ S_X6_moveWaitingLoads c3 = some c4 ∧ S_X7_goesBy r = some (up r4 20 0 1 (r4 20 0 1 + 1)) ∧ Rel nc nl nr nt c4 r4 ∧ c4 0 = c 0 := by
  have hb := h.1
  have s9 : c 0 0 15 = r 20 0 1 := h.2.1.2.2.2.2.2.2.2.2.1
  have hw := h.2.2.2.2.2.2.2.1
  have hx := hv_in (w := c 14 0) (p := (c 0 0 15).toInt.toNat % 48) (Nat.mod_lt _ (by decide)) (fun t ht => (hw t ht).2)
  obtain ⟨c1, r1, a1, a2, a3, a4⟩ := sim_weather_loop hx nc 0 FU FU nc nl nr nt c r 0 rfl h (by omega) (FU_gt (by omega)) (FU_gt (by omega))
  obtain ⟨c2, r2, b1, b2, b3, b4, b5, -⟩ := sim_age_loop nl 0 FU FU nc nl nr nt c1 r1 0 rfl a3 (by omega) (FU_gt (by omega)) (FU_gt (by omega))
  have h2 : 0 ≤ (c2 0 0 15).toInt := by rw [b4, a4]; exact hh
  obtain ⟨c3, r3, d1, d2, d3, d4, d5⟩ := sim_phase1 nl 0 FU FU nc nl nr nt c2 r2 0 rfl b3 h2 (by omega) (FU_gt (by omega)) (FU_gt (by omega)) ⟨fun j hj => absurd hj (Nat.not_lt_zero j), fun j _ hj _ => b5 _ (Nat.zero_le _) (pb_lt b3 hj).1⟩ (fun l hl _ => b5 l (Nat.zero_le _) hl)
  have h3 : 0 ≤ (c3 0 0 15).toInt := by rw [d4]; exact h2
  obtain ⟨c4, r4, f1, f2, f3, f4⟩ := sim_phase2 nl 0 FU FU nc nl nr nt c3 r3 0 rfl d3 h3 (by omega) (FU_gt (by omega)) (FU_gt (by omega)) ⟨fun j hj => absurd hj (Nat.not_lt_zero j), fun j _ hj hs => d5 _ (pb_lt d3 hj).1 hs⟩
  refine ⟨c1, c2, c3, c4, r4, ?_, b1, d1, f1, ?_, f3, by rw [f4, d4, b4, a4]⟩
  · unfold S_X6_weatherCells
    rw [(Rel_heat h hh).1, mb2]
    exact a1
  · unfold S_X7_goesBy
    rw [← s9, (Rel_heat h hh).2, mb2, a2, b2, d2]
    exact f2
theorem sim_run_loop (s : Int32) (N : Nat) (hN : N ≤ 200) : ∀ (m k n : Nat) (nc nl nr nt : Nat) (c r : F3) (z : Int32), z = nI k → Rel nc nl nr nt c r → 0 ≤ (c 0 0 15).toInt → (c 0 0 15).toInt + m < 2147483648 → k + m = N → m < n → ∃ w c' r', S_X6_run_37 n c (nI N) s z = some (w, c') ∧ S_X7_run_37 n r (nI N) s z = some (w, r') ∧ RelE c' r' ∧ (c' 0 0 15).toInt = (c 0 0 15).toInt + m
  | 0, k, n + 1, nc, nl, nr, nt, c, r, z, hz, h, hh, hh2, hk, _ => by
    rw [hz, S_X6_run_37, S_X7_run_37, if_pos (by rw [show k = N by omega]; exact Int32.le_refl _), if_pos (by rw [show k = N by omega]; exact Int32.le_refl _), C_loadsIn h, R_many h, mb2, mb2]
    exact ⟨_, _, _, rfl, rfl, ⟨nc, nl, nr, nt, h⟩, by simp⟩
  | m + 1, k, n + 1, nc, nl, nr, nt, c, r, z, hz, h, hh, hh2, hk, hn => by
    obtain ⟨c1, c2, c3, c4, r4, a1, a2, a3, a4, a5, a6, a7⟩ := sim_hour h hh
    have hng : ¬ nI N ≤ nI k := nle_of (by omega) (by omega)
    have s9 : c4 0 0 15 = r4 20 0 1 := a6.2.1.2.2.2.2.2.2.2.2.1
    rw [hz, S_X6_run_37, S_X7_run_37, if_neg hng, if_neg hng, a1, mob, a2, mob, a3, mob, a4, mob, mlt, a5, mob, ← s9, nI_1]
    have e : (c4 0 0 15 + 1).toInt = (c 0 0 15).toInt + 1 := by
      rw [Int32.toInt_add, a7, show (1 : Int32).toInt = 1 from rfl, fb_bmod0 (by omega) (by omega)]
    have u : up c4 0 0 15 (c4 0 0 15 + 1) 0 0 15 = c4 0 0 15 + 1 := by simp [up]
    obtain ⟨w, c', r', b1, b2, b3, b4⟩ := sim_run_loop s N hN m (k + 1) n nc nl nr nt (up c4 0 0 15 (c4 0 0 15 + 1)) (up r4 20 0 1 (c4 0 0 15 + 1)) _ rfl (Rel_hr a6 _) (by rw [u, e]; omega) (by rw [u, e]; omega) (by omega) (by omega)
    refine ⟨w, c', r', b1, b2, b3, ?_⟩
    rw [b4, u, e]
    omega
  | 0, _, 0, _, _, _, _, _, _, _, _, _, _, _, _, h => absurd h (Nat.lt_irrefl 0)
  | m + 1, _, 0, _, _, _, _, _, _, _, _, _, _, _, _, h => absurd h (by omega)
theorem sim_run (x : Int32) : ∀ c r, RelE c r → 0 ≤ (c 0 0 15).toInt → (c 0 0 15).toInt + 200 < 2147483648 → ∃ w c' r', S_X6_run c x = some (w, c') ∧ S_X7_run r x = some (w, r') ∧ RelE c' r' ∧ (c 0 0 15).toInt ≤ (c' 0 0 15).toInt ∧ (c' 0 0 15).toInt ≤ (c 0 0 15).toInt + 200 := by
  intro c r hE hh hh2
  obtain ⟨nc, nl, nr, nt, h⟩ := id hE
  have cr : ∀ j, j < 7 → cref c j 0 0 15 = c 0 0 15 := fun j _ => by
    unfold cref
    rw [up_reg (by decide)]
  unfold S_X6_run S_X7_run
  by_cases h0 : 0 ≤ x
  · rw [if_pos h0, if_pos h0, C_within, R_in, mb2, mb2]
    by_cases hv : wi x 1 200 = 0
    · rw [if_pos hv, if_pos hv, C_ref7, R_ref7, mb2, mb2]
      exact ⟨_, _, _, rfl, rfl, Rel_refs hE (by decide), by rw [cr 5 (by decide)]; omega, by rw [cr 5 (by decide)]; omega⟩
    · rw [if_neg hv, if_neg hv, C_loadsIn h, R_many h, mb2, mb2]
      rw [wi_1] at hv
      simp at hv
      obtain ⟨N, -, rfl, eN⟩ := nI_ofT (x := x) (by omega)
      rw [eN] at hv
      obtain ⟨w, c', r', b1, b2, b3, b4⟩ := sim_run_loop (nIn c nl 2) N (by omega) N 0 FU nc nl nr nt c r 0 rfl h hh (by omega) (by omega) (FU_gt (by omega))
      exact ⟨w, c', r', b1, b2, b3, by omega, by omega⟩
  · rw [if_neg h0, if_neg h0, C_ref4, R_ref4, mb2, mb2]
    exact ⟨_, _, _, rfl, rfl, Rel_refs hE (by decide), by rw [cr 2 (by decide)]; omega, by rw [cr 2 (by decide)]; omega⟩
