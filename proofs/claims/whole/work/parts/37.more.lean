theorem ite_self_gap (a : Int32) : (if a = -9999 then (-9999 : Int32) else a) = a := by
  split
  · rename_i h; exact h.symm
  · rfl
theorem sim_cell (x y z : Int32) (hz : z = 0 ∨ z = 1) : SimI (fun c => S_X6_cell c x y z) (fun r => S_X7_cell r x y z) := by
  intro c r hE
  obtain ⟨nc, nl, nr, nt, h⟩ := id hE
  obtain ⟨hb1, hb2, hb3, hb4, hb5⟩ := h.1
  obtain ⟨s1, s2, s3, s4, s5, s6, s7, s8, s9, s10, s11⟩ := h.2.1
  simp only [S_X6_cell, S_X7_cell, C_within, R_in, mb2, S_X6_cell_26, S_X7_cell_26, C_ref7, R_ref7, s1, s2, s3, s4]
  by_cases hx : wi x 1 60 = 0
  · simp only [hx, if_true]
    exact ⟨_, _, _, rfl, rfl, Rel_refs hE (by decide)⟩
  by_cases hy : wi y 1 4 = 0
  · simp only [hx, hy, if_true, if_false]
    exact ⟨_, _, _, rfl, rfl, Rel_refs hE (by decide)⟩
  simp only [hx, hy, if_false]
  by_cases hl : nI nl ≤ 0
  · have hl0 : nl = 0 := by
      have := (nI_leI (a := nl) (b := 0) (by omega) (by decide)).mp hl
      omega
    simp only [hl, if_true]
    by_cases hc : nc = 10
    · subst hc
      simp only [if_neg (show ¬ nI 10 < 10 by decide), if_pos (show nI 10 = 10 by decide), C_ref8, R_ref8, mb2]
      exact ⟨_, _, _, rfl, rfl, Rel_refs hE (by decide)⟩
    · have hlt : nI nc < 10 := nI_lt (b := 10) (by omega) (by decide)
      have hne : ¬ nI nc = 10 := fun q => hc ((nI_eq (b := 10) (by omega) (by decide)).mp q)
      have ho : okI (nI nc) 10 = true := okI_nI (by omega) (by decide)
      have hcl : (nI nc).toNatClampNeg = nc := nI_clamp (by omega)
      obtain ⟨fr1, fr2⟩ := h.2.2.1.2 nc (Nat.le_refl _) (by omega)
      simp only [hlt, hne, ho, if_true, if_false, hcl, mlt]
      -- the kind
      obtain ⟨K, hK, hKc, hKr⟩ : ∃ K : Int32, (K = 0 ∨ K = 4) ∧ (if z = 0 then S_X6_cell_69 c nc x y 0 else S_X6_cell_69 c nc x y 4) = S_X6_cell_69 c nc x y K ∧ ∀ (f : F3) (q : Int32), (if z = 0 then S_X7_cell_86 f q 0 else S_X7_cell_86 f q 4) = S_X7_cell_86 f q K := by
        by_cases hz0 : z = 0
        · exact ⟨0, Or.inl rfl, by simp [hz0], fun f q => by simp [hz0]⟩
        · exact ⟨4, Or.inr rfl, by simp [hz0], fun f q => by simp [hz0]⟩
      rw [hKc]
      simp only [hKr]
      have u1 : up r 33 0 nc x 20 0 2 = nI nc := by rw [up_reg (by decide)]; exact s2
      have u2 : up (up r 33 0 nc x) 34 0 nc y 20 0 2 = nI nc := by rw [up_reg (by decide)]; exact u1
      simp only [u1, u2, ho, if_true, hcl, S_X6_cell_69, S_X0_lay, S_X7_cell_86, mlt, mob]
      have cu := ((Cupd_up c nc 3 x).up 4 y).up 0 K
      have ru := ((Rupd_up r nc 3 x (by decide)).up 4 y (by decide)).up 0 K (by decide)
      generalize hc1 : up (up (up c 1 nc 3 x) 1 nc 4 y) 1 nc 0 K = c1 at cu ⊢
      have hr1' : up (up (up r (30 + 3) 0 nc x) (30 + 4) 0 nc y) (30 + 0) 0 nc K = up (up (up r 33 0 nc x) 34 0 nc y) 30 0 nc K := rfl
      rw [hr1'] at ru
      generalize hr1 : up (up (up r 33 0 nc x) 34 0 nc y) 30 0 nc K = r1 at ru ⊢
      have k1 : c1 0 0 12 = nI nc := by rw [cu.2.2 0 (by decide)]; exact s1
      have k2 : r1 20 0 2 = nI nc := by rw [ru.2.2 20 (by decide)]; exact s2
      rw [k1, k2, nI_1]
      have k3 : up c1 0 0 12 (nI (nc + 1)) 0 0 12 = nI (nc + 1) := by simp [up]
      have k4 : up r1 20 0 2 (nI (nc + 1)) 20 0 2 = nI (nc + 1) := by simp [up]
      rw [k3, k4]
      refine ⟨_, _, _, rfl, rfl, nc + 1, nl, nr, nt, ?_⟩
      have hcg : ∀ g, g ≠ 0 → g ≠ 1 → up c1 0 0 12 (nI (nc + 1)) g = c g := fun g g0 g1 => (up_reg g0).trans (cu.2.2 g g1)
      have hrg : ∀ g, (g < 30 ∨ 38 < g) → g ≠ 20 → up r1 20 0 2 (nI (nc + 1)) g = r g := fun g g0 g1 => (up_reg g1).trans (ru.2.2 g g0)
      have hc0 : ∀ k, k ≠ 12 → up c1 0 0 12 (nI (nc + 1)) 0 0 k = c 0 0 k := fun k hk => by
        rw [show up c1 0 0 12 (nI (nc + 1)) 0 0 k = c1 0 0 k by simp [up, hk], cu.2.2 0 (by decide)]
      have hr0 : ∀ k, k ≠ 2 → up r1 20 0 2 (nI (nc + 1)) 20 0 k = r 20 0 k := fun k hk => by
        rw [show up r1 20 0 2 (nI (nc + 1)) 20 0 k = r1 20 0 k by simp [up, hk], ru.2.2 20 (by decide)]
      have e1 : up c1 0 0 12 (nI (nc + 1)) 1 = c1 1 := up_reg (by decide)
      have e2 : rs (up r1 20 0 2 (nI (nc + 1))) = rs r1 := rs_congr (fun k g1 g2 => up_reg (by omega))
      have e3 : rl (up r1 20 0 2 (nI (nc + 1))) = rl r := rl_congr (fun k g1 g2 => hrg k (by omega) (by omega))
      unfold Rel at h ⊢
      rw [e1, e2, e3, hcg 2 (by decide) (by decide), hcg 3 (by decide) (by decide), hcg 5 (by decide) (by decide), hcg 9 (by decide) (by decide), hcg 11 (by decide) (by decide), hcg 12 (by decide) (by decide), hcg 14 (by decide) (by decide), hcg 15 (by decide) (by decide), hcg 16 (by decide) (by decide), hcg 17 (by decide) (by decide), hcg 18 (by decide) (by decide), hrg 21 (by decide) (by decide), hrg 22 (by decide) (by decide), hrg 23 (by decide) (by decide), hrg 26 (by decide) (by decide), hrg 27 (by decide) (by decide), hr0 24 (by decide), hc0 11 (by decide)]
      obtain ⟨g0, g1, g2, g3, g4, g5, g6, g7, g8, g9⟩ := h
      refine ⟨by omega, ?_, ⟨fun j hj => ?_, fun j h1 h2 => ?_⟩, ⟨⟨fun l hl => absurd hl (by omega), g3.1.2⟩, g3.2⟩, g4, g5, g6, g7, g8, g9⟩
      · unfold RSc
        rw [k3, k4, hc0 13 (by decide), hr0 13 (by decide), hc0 14 (by decide), hr0 21 (by decide), hr0 27 (by decide), hc0 15 (by decide), hr0 1 (by decide), hc0 11 (by decide), hr0 31 (by decide)]
        exact ⟨rfl, rfl, s3, s4, s5, s6, s7, s8, s9, s10, s11⟩
      · by_cases e : j = nc
        · subst e
          rw [cu.1, ru.1]
          have fe : upd (upd (upd (c 1 j) 3 x) 4 y) 0 K = upd (upd (upd (rs r j) 3 x) 4 y) 0 K := by
            funext k
            simp only [upd]
            by_cases q0 : k = 0
            · simp [q0]
            by_cases q4 : k = 4
            · simp [q4]
            by_cases q3 : k = 3
            · simp [q3]
            simp only [q0, q4, q3, if_false]
            rw [fr1, fr2]
            simp [q3, q4]
          refine ⟨fe, ?_⟩
          unfold okCe
          simp only [upd, fr1]
          rcases hK with rfl | rfl <;> simp
        · rw [cu.2.1 j e, ru.2.1 j e]
          exact g2.1 j (by omega)
      · rw [cu.2.1 j (by omega), ru.2.1 j (by omega)]
        exact g2.2 j (by omega) h2
  · simp only [hl, if_false]
    exact ⟨_, _, _, rfl, rfl, Rel_refs hE (by decide)⟩
/-- the first number that is no gap, of m places from k on -/
def fstg (g : Nat → Int32) : Nat → Nat → Int32
  | 0, _ => -9999
  | m + 1, k => if g k = -9999 then fstg g m (k + 1) else g k
theorem fstg_gap {g : Nat → Int32} : ∀ (m k : Nat), fstg g m k = -9999 ↔ ∀ j, k ≤ j → j < k + m → g j = -9999
  | 0, k => ⟨fun _ j h1 h2 => absurd h2 (by omega), fun _ => rfl⟩
  | m + 1, k => by
    rw [fstg]
    by_cases h : g k = -9999
    · rw [if_pos h, fstg_gap m (k + 1)]
      constructor
      · intro q j h1 h2
        by_cases e : j = k
        · rw [e]; exact h
        · exact q j (by omega) (by omega)
      · intro q j h1 h2
        exact q j (by omega) (by omega)
    · rw [if_neg h]
      exact ⟨fun q => absurd q h, fun q => absurd (q k (Nat.le_refl _) (by omega)) h⟩
theorem fstg_in {g : Nat → Int32} {P : Int32 → Prop} (h0 : P (-9999)) (hg : ∀ j, P (g j)) : ∀ (m k : Nat), P (fstg g m k)
  | 0, _ => h0
  | m + 1, k => by
    rw [fstg]
    split
    · exact fstg_in h0 hg m (k + 1)
    · exact hg k
theorem mod48 {a : Nat} (h : a < 2 ^ 31) : nI a - nI a / 48 * 48 = nI (a % 48) := pk_rem (d := 48) h (by decide) (by decide)
theorem C_near (c : F3) (p st : Nat) (hst : st < 48) : ∀ (m k n : Nat) (z : Int32), z = nI k → 1 ≤ k → k + m = 48 → m < n → S_X5_nearest_5 n c (nI st) (nI ((p + st * (k - 1)) % 48)) z = some (fstg (fun j => c 14 0 ((p + st * j) % 48)) m k, c)
  | 0, k, n + 1, z, hz, h1, h, _ => by
    rw [hz, S_X5_nearest_5, if_pos (by rw [show k = 48 by omega]; decide)]
    rfl
  | m + 1, k, n + 1, z, hz, h1, h, hm => by
    have hk : k < 48 := by omega
    have hmod : (p + st * (k - 1)) % 48 < 48 := Nat.mod_lt _ (by decide)
    have e : (nI ((p + st * (k - 1)) % 48) + nI st) - (nI ((p + st * (k - 1)) % 48) + nI st) / 48 * 48 = nI ((p + st * k) % 48) := by
      rw [nI_add, mod48 (by omega)]
      congr 1
      rw [Nat.mod_add_mod]
      congr 1
      have : st * k = st * (k - 1) + st := by
        have : k = (k - 1) + 1 := by omega
        rw [this, Nat.mul_add, Nat.mul_one]
        simp
      omega
    have hm2 : (p + st * k) % 48 < 48 := Nat.mod_lt _ (by decide)
    rw [hz, S_X5_nearest_5, if_neg (show ¬ (48 : Int32) ≤ nI k from nle_of (n := 48) hk (by decide)), e, if_pos (okI_nI hm2 (by decide)), nIk hm2 (by decide), fstg]
    by_cases hg : c 14 0 ((p + st * k) % 48) = -9999
    · rw [if_pos hg, if_pos hg, nI_1]
      exact C_near c p st hst m (k + 1) n _ rfl (by omega) (by omega) (by omega)
    · rw [if_neg hg, if_neg hg]
  | 0, _, 0, _, _, _, _, h => absurd h (Nat.lt_irrefl 0)
  | m + 1, _, 0, _, _, _, _, h => absurd h (by omega)
theorem R_heat_36 (r : F3) (p : Nat) (hp : p < 48) : ∀ (m k n : Nat) (a b z : Int32), z = nI k → 1 ≤ k → k + m = 48 → m < n → S_X7_heatOf_36 n r (nI p) a b z = (let A := if a = -9999 then fstg (fun j => r 22 0 ((p + 48 - j) % 48)) m k else a; let B := if b = -9999 then fstg (fun j => r 22 0 ((p + j) % 48)) m k else b; if A = -9999 then some (-100, r) else if A ≤ B then some (B, r) else some (A, r))
  | 0, k, n + 1, a, b, z, hz, h1, h, _ => by
    rw [hz, S_X7_heatOf_36, if_pos (by rw [show k = 48 by omega]; decide)]
    simp only [fstg, ite_self_gap]
  | m + 1, k, n + 1, a, b, z, hz, h1, h, hm => by
    have hk : k < 48 := by omega
    have e1 : ((nI p + 48) - nI k) - ((nI p + 48) - nI k) / 48 * 48 = nI ((p + 48 - k) % 48) := by
      rw [show (48 : Int32) = nI 48 from rfl, nI_add, pk_sub (by omega)]
      exact mod48 (by omega)
    have e2 : (nI p + nI k) - (nI p + nI k) / 48 * 48 = nI ((p + k) % 48) := by
      rw [nI_add]
      exact mod48 (by omega)
    have m1 : (p + 48 - k) % 48 < 48 := Nat.mod_lt _ (by decide)
    have m2 : (p + k) % 48 < 48 := Nat.mod_lt _ (by decide)
    rw [hz, S_X7_heatOf_36, if_neg (show ¬ (48 : Int32) ≤ nI k from nle_of (n := 48) hk (by decide)), e1, e2, if_pos (okI_nI m1 (by decide)), if_pos (okI_nI m2 (by decide)), nIk m1 (by decide), nIk m2 (by decide)]
    have step : ∀ s : Int32, S_X7_heatOf_87 (fun f9 x2_ x3_ x4_ x5_ => S_X7_heatOf_36 n f9 x2_ x3_ x4_ x5_) r s (nI p) b (nI k) (r 22 0 ((p + k) % 48)) = S_X7_heatOf_36 n r (nI p) s (if b = -9999 then r 22 0 ((p + k) % 48) else b) (nI (k + 1)) := by
      intro s
      unfold S_X7_heatOf_87 S_X7_heatOf_103
      rw [nI_1]
      split <;> rfl
    have both : (if a = -9999 then S_X7_heatOf_87 (fun f9 x2_ x3_ x4_ x5_ => S_X7_heatOf_36 n f9 x2_ x3_ x4_ x5_) r (r 22 0 ((p + 48 - k) % 48)) (nI p) b (nI k) (r 22 0 ((p + k) % 48)) else S_X7_heatOf_87 (fun f9 x2_ x3_ x4_ x5_ => S_X7_heatOf_36 n f9 x2_ x3_ x4_ x5_) r a (nI p) b (nI k) (r 22 0 ((p + k) % 48))) = S_X7_heatOf_36 n r (nI p) (if a = -9999 then r 22 0 ((p + 48 - k) % 48) else a) (if b = -9999 then r 22 0 ((p + k) % 48) else b) (nI (k + 1)) := by
      by_cases ha : a = -9999
      · rw [if_pos ha, if_pos ha, step]
      · rw [if_neg ha, if_neg ha, step]
    rw [both, R_heat_36 r p hp m (k + 1) n _ _ _ rfl (by omega) (by omega) (by omega)]
    have fa : (if (if a = -9999 then r 22 0 ((p + 48 - k) % 48) else a) = -9999 then fstg (fun j => r 22 0 ((p + 48 - j) % 48)) m (k + 1) else (if a = -9999 then r 22 0 ((p + 48 - k) % 48) else a)) = if a = -9999 then fstg (fun j => r 22 0 ((p + 48 - j) % 48)) (m + 1) k else a := by
      by_cases ha : a = -9999
      · simp only [ha, if_true]
        rw [fstg]
      · simp only [ha, if_false]
    have fb : (if (if b = -9999 then r 22 0 ((p + k) % 48) else b) = -9999 then fstg (fun j => r 22 0 ((p + j) % 48)) m (k + 1) else (if b = -9999 then r 22 0 ((p + k) % 48) else b)) = if b = -9999 then fstg (fun j => r 22 0 ((p + j) % 48)) (m + 1) k else b := by
      by_cases hb : b = -9999
      · simp only [hb, if_true]
        rw [fstg]
      · simp only [hb, if_false]
    rw [fa, fb]
  | 0, _, 0, _, _, _, _, _, _, h => absurd h (Nat.lt_irrefl 0)
  | m + 1, _, 0, _, _, _, _, _, _, h => absurd h (by omega)
