def Cupd (c c' : F3) (i : Nat) (v : Nat → Int32) : Prop := c' 1 i = v ∧ (∀ j, j ≠ i → c' 1 j = c 1 j) ∧ ∀ g, g ≠ 1 → c' g = c g
def Rupd (r r' : F3) (i : Nat) (v : Nat → Int32) : Prop := rs r' i = v ∧ (∀ j, j ≠ i → rs r' j = rs r j) ∧ ∀ g, (g < 30 ∨ 38 < g) → r' g = r g
theorem Cupd_rf (c : F3) (i : Nat) : Cupd c c i (c 1 i) := ⟨rfl, fun _ _ => rfl, fun _ _ => rfl⟩
theorem Rupd_rf (r : F3) (i : Nat) : Rupd r r i (rs r i) := ⟨rfl, fun _ _ => rfl, fun _ _ => rfl⟩
theorem Cupd.tr {c c1 c2 : F3} {i : Nat} {v w : Nat → Int32} (a : Cupd c c1 i v) (b : Cupd c1 c2 i w) : Cupd c c2 i w := ⟨b.1, fun j hj => (b.2.1 j hj).trans (a.2.1 j hj), fun g hg => (b.2.2 g hg).trans (a.2.2 g hg)⟩
theorem Rupd.tr {c c1 c2 : F3} {i : Nat} {v w : Nat → Int32} (a : Rupd c c1 i v) (b : Rupd c1 c2 i w) : Rupd c c2 i w := ⟨b.1, fun j hj => (b.2.1 j hj).trans (a.2.1 j hj), fun g hg => (b.2.2 g hg).trans (a.2.2 g hg)⟩
theorem Cupd_up (c : F3) (i k : Nat) (x : Int32) : Cupd c (up c 1 i k x) i (upd (c 1 i) k x) := ⟨up_self c 1 i k x, fun j hj => up_other c 1 i k x (fun q => hj q.2), fun g hg => up_reg hg⟩
/-- one change more -/
theorem Cupd.up {c c1 : F3} {i : Nat} {v : Nat → Int32} (a : Cupd c c1 i v) (k : Nat) (x : Int32) : Cupd c (up c1 1 i k x) i (upd v k x) := by
  have := a.tr (Cupd_up c1 i k x)
  rw [a.1] at this
  exact this
theorem Rupd_up (r : F3) (i k : Nat) (x : Int32) (hk : k < 8) : Rupd r (up r (30 + k) 0 i x) i (upd (rs r i) k x) := by
  refine ⟨?_, fun j hj => ?_, fun g hg => up_reg (by omega)⟩
  · funext q
    unfold rs up upd
    by_cases h1 : q < 8
    · simp only [if_pos h1]
      by_cases h2 : q = k
      · subst h2
        simp
      · rw [if_neg (by omega), if_neg h2]
    · have h2 : ¬ q = k := by omega
      simp only [if_neg h1, if_neg h2]
      by_cases h3 : q = 8
      · simp only [if_pos h3]
        rw [if_neg (by omega)]
      · simp only [if_neg h3]
        by_cases h4 : q = 9
        · simp only [if_pos h4]
          rw [if_neg (by omega)]
        · simp only [if_neg h4]
  · funext q
    unfold rs up
    by_cases h1 : q < 8
    · simp only [if_pos h1]
      rw [if_neg (by omega)]
    · simp only [if_neg h1]
      by_cases h3 : q = 8
      · simp only [if_pos h3]
        rw [if_neg (by omega)]
      · simp only [if_neg h3]
        by_cases h4 : q = 9
        · simp only [if_pos h4]
          rw [if_neg (by omega)]
        · simp only [if_neg h4]
theorem Rupd.up {c c1 : F3} {i : Nat} {v : Nat → Int32} (a : Rupd c c1 i v) (k : Nat) (x : Int32) (hk : k < 8) : Rupd c (up c1 (30 + k) 0 i x) i (upd v k x) := by
  have := a.tr (Rupd_up c1 i k x hk)
  rw [a.1] at this
  exact this
/-- the hour in which a load came -/
theorem Rupd_came (r : F3) (i w : Nat) (x : Int32) (hw : w < 2) : Rupd r (up r 38 0 (2 * i + w) x) i (upd (rs r i) (8 + w) x) := by
  refine ⟨?_, fun j hj => ?_, fun g hg => up_reg (by omega)⟩
  · funext q
    unfold rs up upd
    by_cases h1 : q < 8
    · simp only [if_pos h1]
      rw [if_neg (by omega), if_neg (by omega)]
    · simp only [if_neg h1]
      by_cases h3 : q = 8
      · subst h3
        simp only [if_true]
        by_cases h5 : w = 0
        · subst h5; simp
        · rw [if_neg (by omega), if_neg (by omega)]
      · simp only [if_neg h3]
        by_cases h4 : q = 9
        · subst h4
          simp only [if_true]
          by_cases h5 : w = 1
          · subst h5; simp
          · rw [if_neg (by omega), if_neg (by omega)]
        · simp only [if_neg h4]
          rw [if_neg (by omega)]
  · funext q
    unfold rs up
    by_cases h1 : q < 8
    · simp only [if_pos h1]
      rw [if_neg (by omega)]
    · simp only [if_neg h1]
      by_cases h3 : q = 8
      · simp only [if_pos h3]
        rw [if_neg (by omega)]
      · simp only [if_neg h3]
        by_cases h4 : q = 9
        · simp only [if_pos h4]
          rw [if_neg (by omega)]
        · simp only [if_neg h4]
theorem Rel_eq {nc nl nr nt i : Nat} {c r : F3} (h : Rel nc nl nr nt c r) (hi : i < nc) : rs r i = c 1 i := (h.2.2.1.1 i hi).1.symm
theorem Rel_ok {nc nl nr nt i : Nat} {c r : F3} (h : Rel nc nl nr nt c r) (hi : i < nc) : okCe (c 1 i) := (h.2.2.1.1 i hi).2
/-- both sides change one cell alike -/
theorem Rel_cell {nc nl nr nt i : Nat} {c c' r r' : F3} {v : Nat → Int32} (h : Rel nc nl nr nt c r) (hi : i < nc) (hc : Cupd c c' i v) (hr : Rupd r r' i v) (ho : okCe v) : Rel nc nl nr nt c' r' := by
  obtain ⟨c1, c2, hc⟩ := hc
  obtain ⟨r1, r2, hr⟩ := hr
  have hb := h.1
  unfold Rel at h ⊢
  rw [hc 0 (by decide), hc 2 (by decide), hc 3 (by decide), hc 5 (by decide), hc 9 (by decide), hc 11 (by decide), hc 12 (by decide), hc 14 (by decide), hc 15 (by decide), hc 16 (by decide), hc 17 (by decide), hc 18 (by decide), hr 20 (by decide), hr 21 (by decide), hr 22 (by decide), hr 23 (by decide), hr 26 (by decide), hr 27 (by decide), rl_congr (r := r) (r' := r') (fun k h1 h2 => hr k (by omega))]
  refine ⟨h.1, h.2.1, ⟨fun j hj => ?_, fun j h1 h2 => ?_⟩, h.2.2.2⟩
  · by_cases e : j = i
    · subst e
      rw [c1, r1]
      exact ⟨rfl, ho⟩
    · rw [c2 j e, r2 j e]
      exact h.2.2.1.1 j hj
  · rw [c2 j (by omega), r2 j (by omega)]
    exact h.2.2.1.2 j h1 h2
/-- what is done to a cell -/
def fBec (x : Int32) (v : Nat → Int32) : Nat → Int32 := if v 0 = x then upd v 0 x else upd (upd v 7 (-1)) 0 x
def fCrk (v : Nat → Int32) : Nat → Int32 := upd (upd (fBec 3 v) 5 0) 6 0
theorem C_become (c : F3) (i : Nat) (x : Int32) : ∃ c', S_X0_become c i x = some c' ∧ Cupd c c' i (fBec x (c 1 i)) := by
  unfold S_X0_become fBec
  simp only [S_X0_become_13, mlt]
  by_cases h : c 1 i 0 = x
  · rw [if_pos h, if_pos h]
    exact ⟨_, rfl, Cupd_up c i 0 x⟩
  · rw [if_neg h, if_neg h]
    exact ⟨_, rfl, (Cupd_up c i 7 (-1)).up 0 x⟩
theorem nIc {i : Nat} (h : i < 10) : (nI i).toNatClampNeg = i := nI_clamp (by omega)
theorem nIk {i n : Nat} (h : i < n) (hn : n < 2 ^ 31) : (nI i).toNatClampNeg = i := nI_clamp (by omega)
theorem R_becomes (r : F3) {i : Nat} (hi : i < 10) (x : Int32) : ∃ r', S_X7_becomes r (nI i) x = some r' ∧ Rupd r r' i (fBec x (rs r i)) := by
  unfold S_X7_becomes fBec
  simp only [S_X7_becomes_17, mlt, okI_nI hi (by decide), if_true, nIc hi]
  by_cases h : r 30 0 i = x
  · rw [if_pos h, if_pos (show rs r i 0 = x from h)]
    exact ⟨_, rfl, Rupd_up r i 0 x (by decide)⟩
  · rw [if_neg h, if_neg (show ¬ rs r i 0 = x from h)]
    exact ⟨_, rfl, (Rupd_up r i 7 (-1) (by decide)).up 0 x (by decide)⟩
theorem C_crack (c : F3) (i : Nat) : ∃ c', S_X0_crack c i = some c' ∧ Cupd c c' i (fCrk (c 1 i)) := by
  obtain ⟨c1, h1, h2⟩ := C_become c i 3
  unfold S_X0_crack
  simp only [h1, mob, mlt]
  exact ⟨_, rfl, (h2.up 5 0).up 6 0⟩
theorem R_cracks (r : F3) {i : Nat} (hi : i < 10) : ∃ r', S_X7_cracks r (nI i) = some r' ∧ Rupd r r' i (fCrk (rs r i)) := by
  obtain ⟨r1, h1, h2⟩ := R_becomes r hi 3
  unfold S_X7_cracks
  simp only [h1, mob, mlt, okI_nI hi (by decide), if_true, nIc hi]
  exact ⟨_, rfl, (h2.up 5 0 (by decide)).up 6 0 (by decide)⟩
/-- whether a weight is borne -/
def fBor (w : Int32) (v : Nat → Int32) : Bool := if v 0 = 4 then true else decide (¬ (v 1 * v 1 / 10000 < if v 0 = 3 then 2 * w else w))
theorem C_holdsUp (c : F3) (i : Nat) (w : Int32) : S_X0_holdsUp c i w = some (bo (fBor w (c 1 i)), c) := by
  unfold S_X0_holdsUp fBor
  simp only [S_X0_holdsUp_25]
  by_cases h4 : c 1 i 0 = 4
  · simp [h4, bo]
  · by_cases h3 : c 1 i 0 = 3
    · by_cases h : c 1 i 1 * c 1 i 1 / 10000 < 2 * w <;> simp [h3, h, bo]
    · by_cases h : c 1 i 1 * c 1 i 1 / 10000 < w <;> simp [h4, h3, h, bo]
theorem R_isBorne (r : F3) {i : Nat} (hi : i < 10) (w : Int32) : S_X7_isBorne r (nI i) w = some (bo (fBor w (rs r i)), r) := by
  unfold S_X7_isBorne fBor
  simp only [S_X7_isBorne_44, S_X7_isBorne_47, okI_nI hi (by decide), if_true, nIc hi, show rs r i 0 = r 30 0 i from rfl, show rs r i 1 = r 31 0 i from rfl]
  by_cases h4 : r 30 0 i = 4
  · simp [h4, bo]
  · by_cases h3 : r 30 0 i = 3
    · by_cases h : r 31 0 i * r 31 0 i / 10000 < 2 * w <;> simp [h3, h, bo]
    · by_cases h : r 31 0 i * r 31 0 i / 10000 < w <;> simp [h4, h3, h, bo]
theorem okCe_bec {v : Nat → Int32} {x : Int32} (h : okCe v) (h1 : 0 ≤ x.toInt ∧ x.toInt ≤ 4) (h3 : x ≠ 3) : okCe (fBec x v) := by
  unfold okCe at h ⊢
  unfold fBec
  by_cases e : v 0 = x
  · rw [if_pos e]
    simp [upd]
    exact ⟨h1, h.2.1, h.2.2.1, h.2.2.2.1, fun q => absurd q h3⟩
  · rw [if_neg e]
    simp [upd]
    exact ⟨h1, h.2.1, h.2.2.1, fun q => absurd q h3⟩
theorem okCe_crk {v : Nat → Int32} (h : okCe v) : okCe (fCrk v) := by
  unfold okCe at h ⊢
  unfold fCrk fBec
  by_cases e : v 0 = 3
  · rw [if_pos e]
    simp [upd]
    exact ⟨h.2.1, h.2.2.1, h.2.2.2.1⟩
  · rw [if_neg e]
    simp [upd]
    exact ⟨h.2.1, h.2.2.1⟩
theorem okCe_1 {v : Nat → Int32} {x : Int32} (h : okCe v) (hx : 0 ≤ x.toInt ∧ x.toInt ≤ 3000) : okCe (upd v 1 x) := by
  unfold okCe at h ⊢
  simp [upd]
  exact ⟨h.1, hx, h.2.2.1, h.2.2.2.1, h.2.2.2.2⟩
theorem okCe_2 {v : Nat → Int32} {x : Int32} (h : okCe v) (hx : 0 ≤ x.toInt ∧ x.toInt ≤ 200) : okCe (upd v 2 x) := by
  unfold okCe at h ⊢
  simp [upd]
  exact ⟨h.1, h.2.1, hx, h.2.2.2.1, h.2.2.2.2⟩
theorem okCe_5 {v : Nat → Int32} {x : Int32} (h : okCe v) : okCe (upd v 5 x) := by
  unfold okCe at h ⊢
  simp [upd]
  exact h
theorem okCe_7 {v : Nat → Int32} {x : Int32} (h : okCe v) (hx : -1 ≤ x.toInt ∧ x.toInt ≤ 3000) : okCe (upd v 7 x) := by
  unfold okCe at h ⊢
  simp [upd]
  exact ⟨h.1, h.2.1, h.2.2.1, hx, h.2.2.2.2⟩
theorem okCe_8 {v : Nat → Int32} {x : Int32} {k : Nat} (hk : 8 ≤ k) (h : okCe v) : okCe (upd v k x) := by
  unfold okCe at h ⊢
  simp only [upd, if_neg (show ¬ 0 = k by omega), if_neg (show ¬ 1 = k by omega), if_neg (show ¬ 2 = k by omega), if_neg (show ¬ 6 = k by omega), if_neg (show ¬ 7 = k by omega)]
  exact h
/-- the form of a step whose number is no cell's -/
theorem okc {x : Int32} {n m : Nat} (h : okI x n = true) (hn : n ≤ m) (hm : m < 2 ^ 31) : ∃ i, i < n ∧ i < m ∧ x = nI i ∧ okI x m = true ∧ x.toNatClampNeg = i := by
  obtain ⟨i, h1, rfl⟩ := okI_of h (by omega)
  exact ⟨i, h1, by omega, rfl, okI_nI (by omega) hm, nI_clamp (by omega)⟩
theorem sim_thick (x v : Int32) : SimI (fun c => S_X6_thick c x v) (fun r => S_X7_thick r x v) := by
  intro c r hE
  obtain ⟨nc, nl, nr, nt, h⟩ := id hE
  have hb := h.1
  simp only [S_X6_thick, S_X7_thick, C_isCell h, R_isCell h, mb2, bo_0]
  cases hx : okI x nc
  · simp only [if_true, C_ref3, R_ref3, mb2]
    exact ⟨_, _, _, rfl, rfl, Rel_refs hE (by decide)⟩
  · obtain ⟨i, hi, hi10, rfl, ho, hcl⟩ := okc hx hb.2.1 (by decide)
    have e := Rel_eq h hi
    have e0 : r 30 0 i = c 1 i 0 := congrFun e 0
    have e1 : r 31 0 i = c 1 i 1 := congrFun e 1
    simp only [Bool.true_eq_false, if_false, ho, if_true, hcl, e0, C_within, R_in, mb2]
    by_cases h4 : c 1 i 0 = 4
    · simp only [h4, if_true, C_ref5, R_ref5, mb2]
      exact ⟨_, _, _, rfl, rfl, Rel_refs hE (by decide)⟩
    · simp only [h4, if_false]
      by_cases hv : wi v 0 3000 = 0
      · simp only [hv, if_true, C_ref7, R_ref7, mb2]
        exact ⟨_, _, _, rfl, rfl, Rel_refs hE (by decide)⟩
      · simp only [hv, if_false, mlt, e1]
        refine ⟨_, _, _, rfl, rfl, nc, nl, nr, nt, Rel_cell h hi (Cupd_up c i 1 v) (by have := Rupd_up r i 1 v (by decide); rw [e] at this; exact this) (okCe_1 (Rel_ok h hi) ?_)⟩
        rw [wi_1] at hv
        simpa using hv
theorem sim_read (x : Int32) : SimI (fun c => S_X6_read c x) (fun r => S_X7_read r x) := by
  intro c r hE
  obtain ⟨nc, nl, nr, nt, h⟩ := id hE
  have hb := h.1
  simp only [S_X6_read, S_X7_read, C_isCell h, R_isCell h, mb2, bo_0]
  cases hx : okI x nc
  · simp only [if_true, C_ref3, R_ref3, mb2]
    exact ⟨_, _, _, rfl, rfl, Rel_refs hE (by decide)⟩
  · obtain ⟨i, hi, hi10, rfl, ho, hcl⟩ := okc hx hb.2.1 (by decide)
    have e := Rel_eq h hi
    have e0 : r 30 0 i = c 1 i 0 := congrFun e 0
    have e1 : r 31 0 i = c 1 i 1 := congrFun e 1
    simp only [Bool.true_eq_false, if_false, ho, if_true, hcl, e0, e1]
    by_cases h4 : c 1 i 0 = 4
    · simp only [h4, if_true, C_ref5, R_ref5, mb2]
      exact ⟨_, _, _, rfl, rfl, Rel_refs hE (by decide)⟩
    · simp only [h4, if_false, mlt]
      have k1 : up c 1 i 7 (c 1 i 1) 1 i 1 = c 1 i 1 := by simp [up]
      have k2 : up r 37 0 i (c 1 i 1) 37 0 i = c 1 i 1 := by simp [up]
      rw [k1, k2]
      have o := Rel_ok h hi
      refine ⟨_, _, _, rfl, rfl, nc, nl, nr, nt, Rel_cell h hi (Cupd_up c i 7 _) (by have := Rupd_up r i 7 (c 1 i 1) (by decide); rw [e] at this; exact this) (okCe_7 o ?_)⟩
      have := o.2.1
      omega
theorem sim_bears (x w : Int32) : SimI (fun c => S_X6_bears c x w) (fun r => S_X7_bears r x w) := by
  intro c r hE
  obtain ⟨nc, nl, nr, nt, h⟩ := id hE
  have hb := h.1
  simp only [S_X6_bears, S_X7_bears, C_isCell h, R_isCell h, mb2, bo_0]
  cases hx : okI x nc
  · simp only [if_true, C_ref3, R_ref3, mb2]
    exact ⟨_, _, _, rfl, rfl, Rel_refs hE (by decide)⟩
  · obtain ⟨i, hi, hi10, rfl, ho, hcl⟩ := okc hx hb.2.1 (by decide)
    have e := Rel_eq h hi
    simp only [Bool.true_eq_false, if_false, ho, if_true, hcl, C_within, R_in, mb2]
    by_cases hv : wi w 1 99 = 0
    · simp only [hv, if_true, C_ref7, R_ref7, mb2]
      exact ⟨_, _, _, rfl, rfl, Rel_refs hE (by decide)⟩
    · simp only [hv, if_false, C_holdsUp, R_isBorne r hi10, mb2, e, bo_0]
      cases fBor w (c 1 i)
      · exact ⟨_, _, _, rfl, rfl, hE⟩
      · exact ⟨_, _, _, rfl, rfl, hE⟩
theorem sim_sweep (x : Int32) : SimI (fun c => S_X6_sweep c x) (fun r => S_X7_sweep r x) := by
  intro c r hE
  obtain ⟨nc, nl, nr, nt, h⟩ := id hE
  have hb := h.1
  simp only [S_X6_sweep, S_X7_sweep, C_isCell h, R_isCell h, mb2, bo_0]
  cases hx : okI x nc
  · simp only [if_true, C_ref3, R_ref3, mb2]
    exact ⟨_, _, _, rfl, rfl, Rel_refs hE (by decide)⟩
  · obtain ⟨i, hi, hi10, rfl, ho, hcl⟩ := okc hx hb.2.1 (by decide)
    have e := Rel_eq h hi
    have e0 : r 30 0 i = c 1 i 0 := congrFun e 0
    obtain ⟨c1, g1, g2⟩ := C_become c i 1
    obtain ⟨r1, g3, g4⟩ := R_becomes r hi10 1
    rw [e] at g4
    have fin : ∃ w c' r', S_X6_sweep_44 c i = some (w, c') ∧ S_X7_sweep_41 r (nI i) = some (w, r') ∧ RelE c' r' := by
      simp only [S_X6_sweep_44, S_X7_sweep_41, g1, g3, mob, mlt, ho, if_true, hcl]
      exact ⟨_, _, _, rfl, rfl, nc, nl, nr, nt, Rel_cell h hi (g2.up 2 0) (g4.up 2 0 (by decide)) (okCe_2 (okCe_bec (Rel_ok h hi) (by decide) (by decide)) (by decide))⟩
    simp only [Bool.true_eq_false, if_false, ho, if_true, hcl, e0]
    by_cases h0 : c 1 i 0 = 0
    · simp only [h0, if_true]
      exact fin
    · by_cases h1 : c 1 i 0 = 1
      · simp only [h0, h1, if_true, if_false]
        first | exact fin | simpa using fin
      · simp only [h0, h1, if_false, C_ref5, R_ref5, mb2]
        exact ⟨_, _, _, rfl, rfl, Rel_refs hE (by decide)⟩
theorem sim_flood (x : Int32) : SimI (fun c => S_X6_flood c x) (fun r => S_X7_flood r x) := by
  intro c r hE
  obtain ⟨nc, nl, nr, nt, h⟩ := id hE
  have hb := h.1
  simp only [S_X6_flood, S_X7_flood, C_isCell h, R_isCell h, mb2, bo_0]
  cases hx : okI x nc
  · simp only [if_true, C_ref3, R_ref3, mb2]
    exact ⟨_, _, _, rfl, rfl, Rel_refs hE (by decide)⟩
  · obtain ⟨i, hi, hi10, rfl, ho, hcl⟩ := okc hx hb.2.1 (by decide)
    have e := Rel_eq h hi
    have e0 : r 30 0 i = c 1 i 0 := congrFun e 0
    obtain ⟨c1, g1, g2⟩ := C_become c i 2
    obtain ⟨r1, g3, g4⟩ := R_becomes r hi10 2
    rw [e] at g4
    have fin : ∃ w c' r', S_X6_flood_45 c i = some (w, c') ∧ S_X7_flood_42 r (nI i) = some (w, r') ∧ RelE c' r' := by
      simp only [S_X6_flood_45, S_X7_flood_42, g1, g3, mob]
      exact ⟨_, _, _, rfl, rfl, nc, nl, nr, nt, Rel_cell h hi g2 g4 (okCe_bec (Rel_ok h hi) (by decide) (by decide))⟩
    simp only [Bool.true_eq_false, if_false, ho, if_true, hcl, e0]
    by_cases h0 : c 1 i 0 = 1
    · simp only [h0, if_true]
      exact fin
    · by_cases h1 : c 1 i 0 = 2
      · simp only [h0, h1, if_true, if_false]
        first | exact fin | simpa using fin
      · simp only [h0, h1, if_false, C_ref5, R_ref5, mb2]
        exact ⟨_, _, _, rfl, rfl, Rel_refs hE (by decide)⟩
