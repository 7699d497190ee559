/-! load -/
theorem C_lineUp (b : Nat → Int32) (a : Nat → Nat → Int32) (nl : Nat) (hnl : nl < 24) (hb : ∀ k, k < nl → ∃ l, l < nl ∧ b k = nI l) : ∀ (p n : Nat) (f : F3) (x : Int32), x = nI p → p ≤ nl → p < n → f 2 = a → (∀ t, t < p → f 9 0 t = b t) → (∀ t, p < t → t ≤ nl → f 9 0 t = b (t - 1)) → (∀ t, p ≤ t → t < nl → (a (b t).toNatClampNeg 1).toInt < (a nl 1).toInt) → ∃ f' q, S_X6_lineUp_5 n f nl x = some f' ∧ (∀ g, g ≠ 9 → f' g = f g) ∧ q ≤ nl ∧ (∀ t, t < q → f' 9 0 t = b t) ∧ f' 9 0 q = nI nl ∧ (∀ t, q < t → t ≤ nl → f' 9 0 t = b (t - 1)) ∧ (∀ t, q ≤ t → t < nl → (a (b t).toNatClampNeg 1).toInt < (a nl 1).toInt) ∧ (q = 0 ∨ (a nl 1).toInt ≤ (a (b (q - 1)).toNatClampNeg 1).toInt)
  | 0, n + 1, f, x, hx, hp, _, h2, h3, h4, h5 => by
    rw [hx, S_X6_lineUp_5, if_pos (by decide)]
    unfold S_X6_lineUp_47
    rw [if_pos (by decide), mlt, show (nI 0).toNatClampNeg = 0 from rfl]
    refine ⟨_, 0, rfl, fun g hg => up_reg hg, Nat.zero_le _, fun t ht => absurd ht (Nat.not_lt_zero t), by simp [up], fun t h6 h7 => ?_, h5, Or.inl rfl⟩
    rw [← h4 t h6 h7]
    simp only [up]
    rw [if_neg (by omega)]
  | p + 1, n + 1, f, x, hx, hp, hn, h2, h3, h4, h5 => by
    obtain ⟨l, hl, el⟩ := hb p (by omega)
    have e1 : nI (p + 1) - 1 = nI p := nI_pred p
    have hng : ¬ nI (p + 1) ≤ 0 := nI_nle (by omega) (by omega)
    have ho1 : okI (nI p) 24 = true := okI_nI (by omega) (by decide)
    have ho2 : okI (nI (p + 1)) 24 = true := okI_nI (by omega) (by decide)
    rw [hx, S_X6_lineUp_5, if_neg hng, e1, if_pos ho1, nIk (show p < 24 by omega) (by decide), h3 p (by omega), el, nIk (show l < 24 by omega) (by decide), if_pos (show l < 24 by omega), h2]
    by_cases hc : a nl 1 ≤ a l 1
    · rw [if_pos hc]
      unfold S_X6_lineUp_47
      rw [if_pos ho2, mlt, nIk (show p + 1 < 24 by omega) (by decide)]
      refine ⟨_, p + 1, rfl, fun g hg => up_reg hg, hp, fun t ht => ?_, by simp [up], fun t h6 h7 => ?_, h5, Or.inr ?_⟩
      · rw [← h3 t ht]
        simp only [up]
        rw [if_neg (by omega)]
      · rw [← h4 t h6 h7]
        simp only [up]
        rw [if_neg (by omega)]
      · rw [Nat.add_sub_cancel, el, nIk (show l < 24 by omega) (by decide)]
        rw [fa_le] at hc
        exact hc
    · rw [if_neg hc, if_pos ho2, mlt, nIk (show p + 1 < 24 by omega) (by decide), pk_m1]
      have hg : ∀ g, g ≠ 9 → up f 9 0 (p + 1) (nI l) g = f g := fun g hg => up_reg hg
      obtain ⟨f', q, k1, k2, k3⟩ := C_lineUp b a nl hnl hb p n (up f 9 0 (p + 1) (nI l)) _ rfl (by omega) (by omega) (by rw [hg 2 (by decide)]; exact h2) (fun t ht => by
        rw [← h3 t (by omega)]
        simp only [up]
        rw [if_neg (by omega)]) (fun t h6 h7 => by
        by_cases et : t = p + 1
        · subst et
          rw [Nat.add_sub_cancel, el]
          simp [up]
        · rw [← h4 t (by omega) h7]
          simp only [up]
          rw [if_neg (by omega)]) (fun t h6 h7 => by
        by_cases et : t = p
        · subst et
          rw [el, nIk (show l < 24 by omega) (by decide)]
          rw [fa_le] at hc
          omega
        · exact h5 t (by omega) h7)
      exact ⟨f', q, k1, fun g hg9 => (k2 g hg9).trans (hg g hg9), k3⟩
  | 0, 0, _, _, _, _, h, _, _, _, _ => absurd h (Nat.lt_irrefl 0)
  | p + 1, 0, _, _, _, _, h, _, _, _, _ => absurd h (by omega)
theorem RMv_ins {b b' : Nat → Int32} {a : Nat → Nat → Int32} {nl q : Nat} (hnl : nl < 24) (h : RMv b a nl) (hq : q ≤ nl) (h1 : ∀ t, t < q → b' t = b t) (h2 : b' q = nI nl) (h3 : ∀ t, q < t → t ≤ nl → b' t = b (t - 1)) (h4 : ∀ t, q ≤ t → t < nl → (a (b t).toNatClampNeg 1).toInt < (a nl 1).toInt) (h5 : q = 0 ∨ (a nl 1).toInt ≤ (a (b (q - 1)).toNatClampNeg 1).toInt) : RMv b' a (nl + 1) := by
  obtain ⟨g1, g2⟩ := h
  have cl : (nI nl).toNatClampNeg = nl := nIk hnl (by decide)
  refine ⟨fun k hk => ?_, fun j k hjk hk => ?_⟩
  · rcases Nat.lt_trichotomy k q with c | c | c
    · rw [h1 k c]
      obtain ⟨l, hl, e⟩ := g1 k (by omega)
      exact ⟨l, by omega, e⟩
    · subst c
      exact ⟨nl, by omega, h2⟩
    · rw [h3 k c (by omega)]
      obtain ⟨l, hl, e⟩ := g1 (k - 1) (by omega)
      exact ⟨l, by omega, e⟩
  · rcases Nat.lt_trichotomy k q with c | c | c
    · rw [h1 k c, h1 j (by omega)]
      exact g2 j k hjk (by omega)
    · subst c
      rw [h2, h1 j hjk, cl]
      obtain ⟨l, hl, e⟩ := g1 j (by omega)
      have hlt : (b j).toNatClampNeg < nl := by
        rw [e, nIk (show l < 24 by omega) (by decide)]
        exact hl
      have h5' := h5.resolve_left (by omega)
      have hle : (a (b (k - 1)).toNatClampNeg 1).toInt ≤ (a (b j).toNatClampNeg 1).toInt := by
        by_cases ej : j = k - 1
        · rw [ej]; exact Int.le_refl _
        · rcases g2 j (k - 1) (by omega) (by omega) with z | z
          · omega
          · rw [z.1]; exact Int.le_refl _
      by_cases z : (a nl 1).toInt < (a (b j).toNatClampNeg 1).toInt
      · exact Or.inl z
      · refine Or.inr ⟨?_, hlt⟩
        rw [fa_eq]
        omega
    · rw [h3 k c (by omega)]
      rcases Nat.lt_trichotomy j q with d | d | d
      · rw [h1 j d]
        exact g2 j (k - 1) (by omega) (by omega)
      · subst d
        rw [h2, cl]
        exact Or.inl (h4 (k - 1) (by omega) (by omega))
      · rw [h3 j d (by omega)]
        exact g2 (j - 1) (k - 1) (by omega) (by omega)
theorem RMv_cg {b : Nat → Int32} {a a' : Nat → Nat → Int32} {nl : Nat} (hnl : nl < 2 ^ 31) (he : ∀ l, l < nl → a' l 1 = a l 1) (h : RMv b a nl) : RMv b a' nl := by
  obtain ⟨g1, g2⟩ := h
  have cl : ∀ k, k < nl → a' (b k).toNatClampNeg 1 = a (b k).toNatClampNeg 1 := by
    intro k hk
    obtain ⟨l, hl, e⟩ := g1 k hk
    rw [e, nI_clamp (by omega)]
    exact he l hl
  exact ⟨g1, fun j k h1 h2 => by rw [cl j (by omega), cl k h2]; exact g2 j k h1 h2⟩
def ldv (x y z : Int32) (k : Nat) : Int32 := if k = 0 then x else if k = 1 then y else if k = 2 then z else if k = 3 then 0 else -1
theorem sim_load (x y z : Int32) : SimI (fun c => S_X6_load c x y z) (fun r => S_X7_load r x y z) := by
  intro c r hE
  obtain ⟨nc, nl, nr, nt, h⟩ := id hE
  obtain ⟨hb1, hb2, hb3, hb4, hb5⟩ := h.1
  obtain ⟨s1, s2, s3, s4, s5, s6, s7, s8, s9, s10, s11⟩ := h.2.1
  show ∃ w c' r', S_X6_load c x y z = some (w, c') ∧ S_X7_load r x y z = some (w, r') ∧ RelE c' r'
  have rf : ∃ w c' r', S_X6_load_33 c x y z = some (w, c') ∧ S_X7_load_29 r = some (w, r') ∧ RelE c' r' := by
    unfold S_X6_load_33 S_X6_load_34 S_X7_load_29
    rw [if_pos rfl, C_ref7, R_ref7, mb2, mb2]
    exact ⟨_, _, _, rfl, rfl, Rel_refs hE (by decide)⟩
  unfold S_X6_load S_X7_load
  rw [C_within, R_in, mb2, mb2]
  by_cases hx : wi x 1 99 = 0
  · rw [if_pos hx, if_pos hx]
    exact rf
  rw [if_neg hx, if_neg hx, C_within, R_in, mb2, mb2]
  by_cases hy : wi y 0 9 = 0
  · rw [if_pos hy, if_pos hy]
    exact rf
  rw [if_neg hy, if_neg hy, C_within, R_in, mb2, mb2]
  by_cases hz : wi z 0 1 = 0
  · rw [if_pos hz, if_pos hz]
    exact rf
  rw [if_neg hz, if_neg hz]
  unfold S_X6_load_34
  rw [if_neg (show ¬ (1 : Int32) = 0 by decide), s3, s4]
  by_cases hl : nl = 24
  · subst hl
    rw [if_neg (show ¬ nI 24 < 24 by decide), if_pos (show nI 24 = 24 from rfl), C_ref8, R_ref8, mb2, mb2]
    exact ⟨_, _, _, rfl, rfl, Rel_refs hE (by decide)⟩
  have hn24 : nl < 24 := by omega
  have ho : okI (nI nl) 24 = true := okI_nI hn24 (by decide)
  have hcl : (nI nl).toNatClampNeg = nl := nIk hn24 (by decide)
  rw [if_pos (show nI nl < 24 from nI_lt (b := 24) hn24 (by decide)), if_neg (show ¬ nI nl = 24 from fun q => hl ((nI_eq (b := 24) (by omega) (by decide)).mp q)), if_pos ho, if_pos ho, hcl, mlt, mlt, mlt, mlt]
  have u1 : up r 40 0 nl x 20 0 13 = nI nl := by rw [up_reg (by decide)]; exact s4
  rw [u1, if_pos ho, hcl, mlt]
  have u2 : up (up r 40 0 nl x) 41 0 nl y 20 0 13 = nI nl := by rw [up_reg (by decide)]; exact u1
  rw [u2, if_pos ho, hcl, mlt]
  have u3 : up (up (up r 40 0 nl x) 41 0 nl y) 42 0 nl z 20 0 13 = nI nl := by rw [up_reg (by decide)]; exact u2
  rw [u3, if_pos ho, hcl, mlt]
  have u4 : up (up (up (up r 40 0 nl x) 41 0 nl y) 42 0 nl z) 43 0 nl 0 20 0 13 = nI nl := by rw [up_reg (by decide)]; exact u3
  rw [u4, if_pos ho, hcl, mlt, mlt]
  have u5 : up (up (up (up (up r 40 0 nl x) 41 0 nl y) 42 0 nl z) 43 0 nl 0) 46 0 nl (-1) 20 0 13 = nI nl := by rw [up_reg (by decide)]; exact u4
  rw [u5, nI_1]
  generalize hr1 : up (up (up (up (up r 40 0 nl x) 41 0 nl y) 42 0 nl z) 43 0 nl 0) 46 0 nl (-1) = r1
  have r1g : ∀ g, (g < 40 ∨ 46 < g) → r1 g = r g := fun g hg => by
    rw [← hr1, up_reg (by omega), up_reg (by omega), up_reg (by omega), up_reg (by omega), up_reg (by omega)]
  have r1o : ∀ j, j ≠ nl → rl r1 j = rl r j := fun j hj => by
    rw [← hr1, rl_oth _ hj, rl_oth _ hj, rl_oth _ hj, rl_oth _ hj, rl_oth _ hj]
  have r1n : rl r1 nl = ldv x y z := by
    rw [← hr1]
    funext k
    match k with
    | 0 => simp [rl, up, ldv]
    | 1 => simp [rl, up, ldv]
    | 2 => simp [rl, up, ldv]
    | 3 => simp [rl, up, ldv]
    | 4 => simp [rl, up, ldv]
    | 5 => simp [rl, up, ldv]
    | 6 => simp [rl, up, ldv]
    | k + 7 => simp [rl, ldv]
  -- the class
  obtain ⟨g0, g1, g2, ⟨g3, g3'⟩, g4, g5, g6, g7, g8, g9⟩ := id h
  obtain ⟨fr1, fr2⟩ := g3.2 nl (Nat.le_refl _) hn24
  generalize hc1 : up (up (up c 2 nl 0 x) 2 nl 1 y) 2 nl 2 z = c1
  have c1g : ∀ g, g ≠ 2 → c1 g = c g := fun g hg => by
    rw [← hc1, up_reg hg, up_reg hg, up_reg hg]
  have c1o : ∀ j, j ≠ nl → c1 2 j = c 2 j := fun j hj => by
    rw [← hc1, up_other _ _ _ _ _ (fun q => hj q.2), up_other _ _ _ _ _ (fun q => hj q.2), up_other _ _ _ _ _ (fun q => hj q.2)]
  have c1n : c1 2 nl = ldv x y z := by
    rw [← hc1]
    funext k
    match k with
    | 0 => simp [up, ldv]
    | 1 => simp [up, ldv]
    | 2 => simp [up, ldv]
    | 3 => simp [up, ldv, fr1]
    | k + 4 => simp [up, ldv, fr2 (k + 4) (by omega)]
  have hm : RMv (c 9 0) (c1 2) nl := RMv_cg (by omega) (fun l hl => by rw [c1o l (by omega)]) g4
  obtain ⟨c2, q, k1, k2, k3, k4, k5, k6, k7, k8⟩ := C_lineUp (c 9 0) (c1 2) nl hn24 g4.1 nl FU c1 (nI nl) rfl (Nat.le_refl _) (FU_gt (by omega)) rfl (fun t _ => by rw [c1g 9 (by decide)]) (fun t a b => absurd a (by omega)) (fun t a b => absurd a (by omega))
  have hlu : S_X6_lineUp c1 nl = some c2 := by
    unfold S_X6_lineUp
    rw [c1g 0 (by decide), s3]
    exact k1
  have hm' := RMv_ins hn24 hm k3 k4 k5 k6 k7 k8
  have c20 : c2 0 = c 0 := (k2 0 (by decide)).trans (c1g 0 (by decide))
  have c2g : ∀ g, g ≠ 2 → g ≠ 9 → c2 g = c g := fun g a b => (k2 g b).trans (c1g g a)
  rw [hlu, mob, mlt, c20, s3, nI_1]
  have v1 : up c2 0 0 13 (nI (nl + 1)) 0 0 13 = nI (nl + 1) := by simp [up]
  have v2 : up r1 20 0 13 (nI (nl + 1)) 20 0 13 = nI (nl + 1) := by simp [up]
  rw [v1, v2]
  refine ⟨_, _, _, rfl, rfl, nc, nl + 1, nr, nt, ?_⟩
  have hcg : ∀ g, g ≠ 0 → g ≠ 2 → g ≠ 9 → up c2 0 0 13 (nI (nl + 1)) g = c g := fun g a b d => (up_reg a).trans (c2g g b d)
  have hrg : ∀ g, (g < 40 ∨ 46 < g) → g ≠ 20 → up r1 20 0 13 (nI (nl + 1)) g = r g := fun g a b => (up_reg b).trans (r1g g a)
  have hc0 : ∀ k, k ≠ 13 → up c2 0 0 13 (nI (nl + 1)) 0 0 k = c 0 0 k := fun k hk => by
    rw [show up c2 0 0 13 (nI (nl + 1)) 0 0 k = c2 0 0 k by simp [up, hk], c20]
  have hr0 : ∀ k, k ≠ 13 → up r1 20 0 13 (nI (nl + 1)) 20 0 k = r 20 0 k := fun k hk => by
    rw [show up r1 20 0 13 (nI (nl + 1)) 20 0 k = r1 20 0 k by simp [up, hk], r1g 20 (by omega)]
  have e2 : up c2 0 0 13 (nI (nl + 1)) 2 = c1 2 := (up_reg (by decide)).trans (k2 2 (by decide))
  have e9 : up c2 0 0 13 (nI (nl + 1)) 9 = c2 9 := up_reg (by decide)
  have er : rl (up r1 20 0 13 (nI (nl + 1))) = rl r1 := rl_congr (fun k a b => up_reg (by omega))
  have es : rs (up r1 20 0 13 (nI (nl + 1))) = rs r := rs_congr (fun k a b => hrg k (by omega) (by omega))
  unfold Rel
  rw [e2, e9, er, es, hcg 1 (by decide) (by decide) (by decide), hcg 3 (by decide) (by decide) (by decide), hcg 5 (by decide) (by decide) (by decide), hcg 11 (by decide) (by decide) (by decide), hcg 12 (by decide) (by decide) (by decide), hcg 14 (by decide) (by decide) (by decide), hcg 15 (by decide) (by decide) (by decide), hcg 16 (by decide) (by decide) (by decide), hcg 17 (by decide) (by decide) (by decide), hcg 18 (by decide) (by decide) (by decide), hrg 21 (by decide) (by decide), hrg 22 (by decide) (by decide), hrg 23 (by decide) (by decide), hrg 26 (by decide) (by decide), hrg 27 (by decide) (by decide), hr0 24 (by decide), hc0 11 (by decide)]
  rw [wi_1] at hx hy hz
  simp at hx hy hz
  refine ⟨by omega, ?_, g2, ⟨⟨fun l hl => ?_, fun l h1 h2 => ?_⟩, ?_⟩, hm', g5, g6, g7, g8, g9⟩
  · unfold RSc
    rw [v1, v2, hc0 12 (by decide), hr0 2 (by decide), hc0 14 (by decide), hr0 21 (by decide), hr0 27 (by decide), hc0 15 (by decide), hr0 1 (by decide), hc0 11 (by decide), hr0 31 (by decide)]
    exact ⟨s1, s2, rfl, rfl, s5, s6, s7, s8, s9, s10, s11⟩
  · by_cases e : l = nl
    · subst e
      rw [c1n, r1n]
      refine ⟨rfl, ?_⟩
      unfold okLo ldv
      simp
      refine ⟨hx, hy, ?_⟩
      simp only [fa_eq, show (0 : Int32).toInt = 0 from rfl, show (1 : Int32).toInt = 1 from rfl]
      omega
    · rw [c1o l e, r1o l e]
      exact g3.1 l (by omega)
  · rw [c1o l (by omega)]
    exact g3.2 l (by omega) h2
  · rw [g3', tsum, tsum_congr nl (a := c1 2) (b := c 2) (fun l hl => by rw [c1o l (by omega)]), c1n]
    simp [ldv]
