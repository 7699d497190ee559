theorem fBec_k {v : Nat → Int32} {x : Int32} {k : Nat} (h0 : k ≠ 0) (h7 : k ≠ 7) : fBec x v k = v k := by
  unfold fBec
  split <;> simp [upd, h0, h7]
theorem fb_bmod0 {z : Int} (h1 : -2147483648 ≤ z) (h2 : z < 2147483648) : z.bmod (2 ^ 32) = z := by
  rw [Int.bmod_eq_of_le] <;> omega
/-- a sum over m places from k on, onto s -/
def accF (g : Nat → Int32) : Nat → Nat → Int32 → Int32
  | 0, _, s => s
  | m + 1, k, s => accF g m (k + 1) (s + g k)
theorem accF_congr {g g' : Nat → Int32} : ∀ (m k : Nat) (s : Int32), (∀ l, k ≤ l → l < k + m → g l = g' l) → accF g m k s = accF g' m k s
  | 0, _, _, _ => rfl
  | m + 1, k, s, h => by
    rw [accF, accF, h k (Nat.le_refl _) (by omega)]
    exact accF_congr m (k + 1) _ (fun l h1 h2 => h l (by omega) (by omega))
theorem accF_snoc (g : Nat → Int32) : ∀ (m k : Nat) (s : Int32), accF g (m + 1) k s = accF g m k s + g (k + m)
  | 0, _, _ => rfl
  | m + 1, k, s => by
    rw [accF, accF_snoc g m (k + 1) (s + g k), accF, show k + 1 + m = k + (m + 1) by omega]
theorem accF_tsum (a : Nat → Nat → Int32) : ∀ n, accF (fun l => if a l 3 = 2 then a l 0 else 0) n 0 0 = tsum a n
  | 0 => rfl
  | n + 1 => by
    rw [accF_snoc, accF_tsum a n, tsum, Nat.zero_add]
theorem nle_of {k n : Nat} (h : k < n) (hn : n < 2 ^ 31) : ¬ nI n ≤ nI k := nI_ge h hn
theorem C_loadsOn_4 {c : F3} {nl : Nat} (hn : nl ≤ 24) (hc : c 0 0 13 = nI nl) (x : Int32) : ∀ (m k n : Nat) (s : Int32), k + m = nl → m < n → S_X6_loadsOn_4 n c x s (nI k) = some (accF (fun l => if c 2 l 3 = 1 ∧ c 2 l 4 = x then 1 else 0) m k s, c)
  | 0, k, n + 1, s, h, _ => by
    rw [S_X6_loadsOn_4, hc, if_pos (by rw [show k = nl by omega]; exact Int32.le_refl _)]
    rfl
  | m + 1, k, n + 1, s, h, hm => by
    have hk : k < 24 := by omega
    rw [S_X6_loadsOn_4, hc, if_neg (nle_of (by omega) (by omega)), if_pos (okI_nI hk (by decide)), nIk hk (by decide), accF]
    by_cases h3 : c 2 k 3 = 1
    · by_cases h4 : c 2 k 4 = x
      · simp only [h3, h4, if_true, and_self, S_X6_loadsOn_44, nI_1]
        exact C_loadsOn_4 hn hc x m (k + 1) n _ (by omega) (by omega)
      · simp only [h3, h4, if_true, if_false, and_false, S_X6_loadsOn_43, S_X6_loadsOn_44, nI_1]
        exact C_loadsOn_4 hn hc x m (k + 1) n _ (by omega) (by omega)
    · simp only [h3, if_false, false_and, S_X6_loadsOn_43, S_X6_loadsOn_44, nI_1]
      exact C_loadsOn_4 hn hc x m (k + 1) n _ (by omega) (by omega)
  | 0, _, 0, _, _, h => absurd h (Nat.lt_irrefl 0)
  | m + 1, _, 0, _, _, h => absurd h (by omega)
theorem R_loadsOn_4 {c : F3} {nl : Nat} (hn : nl ≤ 24) (hc : c 20 0 13 = nI nl) (x : Int32) : ∀ (m k n : Nat) (s : Int32), k + m = nl → m < n → S_X7_loadsOn_4 n c x s (nI k) = some (accF (fun l => if c 43 0 l = 1 ∧ c 44 0 l = x then 1 else 0) m k s, c)
  | 0, k, n + 1, s, h, _ => by
    rw [S_X7_loadsOn_4, hc, if_pos (by rw [show k = nl by omega]; exact Int32.le_refl _)]
    rfl
  | m + 1, k, n + 1, s, h, hm => by
    have hk : k < 24 := by omega
    rw [S_X7_loadsOn_4, hc, if_neg (nle_of (by omega) (by omega)), if_pos (okI_nI hk (by decide)), nIk hk (by decide), accF]
    by_cases h3 : c 43 0 k = 1
    · by_cases h4 : c 44 0 k = x
      · simp only [h3, h4, if_true, and_self, S_X7_loadsOn_38, nI_1]
        exact R_loadsOn_4 hn hc x m (k + 1) n _ (by omega) (by omega)
      · simp only [h3, h4, if_true, if_false, and_false, S_X7_loadsOn_37, S_X7_loadsOn_38, nI_1]
        exact R_loadsOn_4 hn hc x m (k + 1) n _ (by omega) (by omega)
    · simp only [h3, if_false, false_and, S_X7_loadsOn_37, S_X7_loadsOn_38, nI_1]
      exact R_loadsOn_4 hn hc x m (k + 1) n _ (by omega) (by omega)
  | 0, _, 0, _, _, h => absurd h (Nat.lt_irrefl 0)
  | m + 1, _, 0, _, _, h => absurd h (by omega)
theorem C_loadsIn_4 {c : F3} {nl : Nat} (hn : nl ≤ 24) (hc : c 0 0 13 = nI nl) (x : Int32) : ∀ (m k n : Nat) (s : Int32), k + m = nl → m < n → S_X6_loadsIn_4 n c x s (nI k) = some (accF (fun l => if c 2 l 3 = x then 1 else 0) m k s, c)
  | 0, k, n + 1, s, h, _ => by
    rw [S_X6_loadsIn_4, hc, if_pos (by rw [show k = nl by omega]; exact Int32.le_refl _)]
    rfl
  | m + 1, k, n + 1, s, h, hm => by
    have hk : k < 24 := by omega
    rw [S_X6_loadsIn_4, hc, if_neg (nle_of (by omega) (by omega)), if_pos (okI_nI hk (by decide)), nIk hk (by decide), accF]
    by_cases h3 : c 2 k 3 = x
    · simp only [h3, if_true, S_X6_loadsIn_31, nI_1]
      exact C_loadsIn_4 hn hc x m (k + 1) n _ (by omega) (by omega)
    · simp only [h3, if_false, S_X6_loadsIn_31, nI_1]
      exact C_loadsIn_4 hn hc x m (k + 1) n _ (by omega) (by omega)
  | 0, _, 0, _, _, h => absurd h (Nat.lt_irrefl 0)
  | m + 1, _, 0, _, _, h => absurd h (by omega)
theorem R_many_4 {c : F3} {nl : Nat} (hn : nl ≤ 24) (hc : c 20 0 13 = nI nl) (x : Int32) : ∀ (m k n : Nat) (s : Int32), k + m = nl → m < n → S_X7_many_4 n c x s (nI k) = some (accF (fun l => if c 43 0 l = x then 1 else 0) m k s, c)
  | 0, k, n + 1, s, h, _ => by
    rw [S_X7_many_4, hc, if_pos (by rw [show k = nl by omega]; exact Int32.le_refl _)]
    rfl
  | m + 1, k, n + 1, s, h, hm => by
    have hk : k < 24 := by omega
    rw [S_X7_many_4, hc, if_neg (nle_of (by omega) (by omega)), if_pos (okI_nI hk (by decide)), nIk hk (by decide), accF]
    by_cases h3 : c 43 0 k = x
    · simp only [h3, if_true, S_X7_many_28, nI_1]
      exact R_many_4 hn hc x m (k + 1) n _ (by omega) (by omega)
    · simp only [h3, if_false, S_X7_many_28, nI_1]
      exact R_many_4 hn hc x m (k + 1) n _ (by omega) (by omega)
  | 0, _, 0, _, _, h => absurd h (Nat.lt_irrefl 0)
  | m + 1, _, 0, _, _, h => absurd h (by omega)
theorem C_tons_4 {c : F3} {nl : Nat} (hn : nl ≤ 24) (hc : c 0 0 13 = nI nl) : ∀ (m k n : Nat) (s : Int32), k + m = nl → m < n → S_X6_tonsDelivered_4 n c s (nI k) = some (accF (fun l => if c 2 l 3 = 2 then c 2 l 0 else 0) m k s, c)
  | 0, k, n + 1, s, h, _ => by
    rw [S_X6_tonsDelivered_4, hc, if_pos (by rw [show k = nl by omega]; exact Int32.le_refl _)]
    rfl
  | m + 1, k, n + 1, s, h, hm => by
    have hk : k < 24 := by omega
    rw [S_X6_tonsDelivered_4, hc, if_neg (nle_of (by omega) (by omega)), if_pos (okI_nI hk (by decide)), nIk hk (by decide), accF]
    by_cases h3 : c 2 k 3 = 2
    · simp only [h3, if_true, S_X6_tonsDelivered_39, nI_1]
      exact C_tons_4 hn hc m (k + 1) n _ (by omega) (by omega)
    · simp only [h3, if_false, S_X6_tonsDelivered_39, nI_1]
      exact C_tons_4 hn hc m (k + 1) n _ (by omega) (by omega)
  | 0, _, 0, _, _, h => absurd h (Nat.lt_irrefl 0)
  | m + 1, _, 0, _, _, h => absurd h (by omega)
/-- how many loads are on cell x; how many are in state x -/
def nOn (c : F3) (nl : Nat) (x : Int32) : Int32 := accF (fun l => if c 2 l 3 = 1 ∧ c 2 l 4 = x then 1 else 0) nl 0 0
def nIn (c : F3) (nl : Nat) (x : Int32) : Int32 := accF (fun l => if c 2 l 3 = x then 1 else 0) nl 0 0
section LD
variable {nc nl nr nt : Nat} {c r : F3}
theorem Rel_leq (h : Rel nc nl nr nt c r) {l : Nat} (hl : l < nl) : rl r l = c 2 l := (h.2.2.2.1.1.1 l hl).1.symm
theorem Rel_lok (h : Rel nc nl nr nt c r) {l : Nat} (hl : l < nl) : okLo (c 2 l) nc := (h.2.2.2.1.1.1 l hl).2
theorem C_loadsOn (h : Rel nc nl nr nt c r) (x : Int32) : S_X6_loadsOn c x = some (nOn c nl x, c) := C_loadsOn_4 h.1.2.2.1 h.2.1.2.2.1 x nl 0 FU 0 (by omega) (FU_gt (by have := h.1; omega))
theorem R_loadsOn (h : Rel nc nl nr nt c r) (x : Int32) : S_X7_loadsOn r x = some (nOn c nl x, r) := by
  have h1 := R_loadsOn_4 (c := r) h.1.2.2.1 h.2.1.2.2.2.1 x nl 0 FU 0 (by omega) (FU_gt (by have := h.1; omega))
  have h2 : S_X7_loadsOn r x = some (accF (fun l => if r 43 0 l = 1 ∧ r 44 0 l = x then 1 else 0) nl 0 0, r) := h1
  rw [h2]
  unfold nOn
  rw [accF_congr nl 0 0 (fun l _ hl => ?_)]
  have e := Rel_leq h (show l < nl by omega)
  have e3 : r 43 0 l = c 2 l 3 := congrFun e 3
  have e4 : (if r 43 0 l = 1 then r 44 0 l else -1) = c 2 l 4 := congrFun e 4
  rw [e3] at e4 ⊢
  by_cases q : c 2 l 3 = 1
  · rw [if_pos q] at e4
    rw [e4]
  · simp [q]
theorem C_loadsIn (h : Rel nc nl nr nt c r) (x : Int32) : S_X6_loadsIn c x = some (nIn c nl x, c) := C_loadsIn_4 h.1.2.2.1 h.2.1.2.2.1 x nl 0 FU 0 (by omega) (FU_gt (by have := h.1; omega))
theorem R_many (h : Rel nc nl nr nt c r) (x : Int32) : S_X7_many r x = some (nIn c nl x, r) := by
  have h1 := R_many_4 (c := r) h.1.2.2.1 h.2.1.2.2.2.1 x nl 0 FU 0 (by omega) (FU_gt (by have := h.1; omega))
  have h2 : S_X7_many r x = some (accF (fun l => if r 43 0 l = x then 1 else 0) nl 0 0, r) := h1
  rw [h2]
  unfold nIn
  rw [accF_congr nl 0 0 (fun l _ hl => ?_)]
  have e3 : r 43 0 l = c 2 l 3 := congrFun (Rel_leq h (show l < nl by omega)) 3
  rw [e3]
theorem C_tons (h : Rel nc nl nr nt c r) : S_X6_tonsDelivered c = some (r 20 0 24, c) := by
  have h1 : S_X6_tonsDelivered c = some (accF (fun l => if c 2 l 3 = 2 then c 2 l 0 else 0) nl 0 0, c) := C_tons_4 h.1.2.2.1 h.2.1.2.2.1 nl 0 FU 0 (by omega) (FU_gt (by have := h.1; omega))
  rw [h1, accF_tsum, h.2.2.2.1.2]
end LD
theorem sim_bypass (x : Int32) : SimI (fun c => S_X6_bypass c x) (fun r => S_X7_bypass r x) := by
  intro c r hE
  obtain ⟨nc, nl, nr, nt, h⟩ := id hE
  have hb := h.1
  simp only [S_X6_bypass, S_X7_bypass, C_isCell h, R_isCell h, mb2, bo_0]
  cases hx : okI x nc
  · simp only [if_true, C_ref3, R_ref3, mb2]
    exact ⟨_, _, _, rfl, rfl, Rel_refs hE (by decide)⟩
  · obtain ⟨i, hi, hi10, rfl, ho, hcl⟩ := okc hx hb.2.1 (by decide)
    have e := Rel_eq h hi
    have e0 : r 30 0 i = c 1 i 0 := congrFun e 0
    simp only [Bool.true_eq_false, if_false, ho, if_true, hcl, e0, C_loadsOn h, R_loadsOn h, mb2]
    by_cases h0 : c 1 i 0 = 3
    · simp only [h0, if_true]
      by_cases hq : nOn c nl (nI i) ≤ 0
      · simp only [hq, if_true]
        obtain ⟨c1, g1, g2⟩ := C_become c i 1
        obtain ⟨r1, g3, g4⟩ := R_becomes r hi10 1
        rw [e] at g4
        simp only [g1, g3, mob, mlt]
        have c2 := (g2.up 2 0).up 5 0
        have r2 := (g4.up 2 0 (by decide)).up 5 0 (by decide)
        have kc : up (up c1 1 i 2 0) 1 i 5 0 1 i 1 = c 1 i 1 := by
          rw [c2.1]
          simp only [upd, if_neg (show ¬ (1 : Nat) = 5 by decide), if_neg (show ¬ (1 : Nat) = 2 by decide), fBec_k (show (1 : Nat) ≠ 0 by decide) (show (1 : Nat) ≠ 7 by decide)]
        have kr : up (up r1 32 0 i 0) 35 0 i 0 31 0 i = c 1 i 1 := by
          have := congrFun r2.1 1
          rw [show rs (up (up r1 (30 + 2) 0 i 0) (30 + 5) 0 i 0) i 1 = up (up r1 32 0 i 0) 35 0 i 0 31 0 i from rfl] at this
          rw [this]
          simp only [upd, if_neg (show ¬ (1 : Nat) = 5 by decide), if_neg (show ¬ (1 : Nat) = 2 by decide), fBec_k (show (1 : Nat) ≠ 0 by decide) (show (1 : Nat) ≠ 7 by decide)]
        rw [kc, kr]
        have o := Rel_ok h hi
        have hw : ∀ (z : F3) (y : Int32), up z 1 i 1 y 1 i 1 = y := fun z y => by simp [up]
        have hw2 : ∀ (z : F3) (y : Int32), up z 31 0 i y 31 0 i = y := fun z y => by simp [up]
        rw [hw, hw2]
        refine ⟨_, _, _, rfl, rfl, nc, nl, nr, nt, Rel_cell h hi (c2.up 1 _) (r2.up 1 _ (by decide)) (okCe_1 (okCe_5 (okCe_2 (okCe_bec o (by decide) (by decide)) (by decide))) ?_)⟩
        have o1 := o.2.1
        rw [Int32.toInt_div]
        have : (c 1 i 1).toInt.tdiv 2 = (c 1 i 1).toInt / 2 := Int.tdiv_eq_ediv_of_nonneg o1.1
        rw [show (2 : Int32).toInt = 2 from rfl, this, fb_bmod0 (by omega) (by omega)]
        omega
      · simp only [hq, if_false, C_ref7, R_ref7, mb2]
        exact ⟨_, _, _, rfl, rfl, Rel_refs hE (by decide)⟩
    · simp only [h0, if_false, C_ref5, R_ref5, mb2]
      exact ⟨_, _, _, rfl, rfl, Rel_refs hE (by decide)⟩
theorem sim_of (x w : Int32) : SimI (fun c => S_X6_of c x w) (fun r => S_X7_of r x w) := by
  intro c r hE
  obtain ⟨nc, nl, nr, nt, h⟩ := id hE
  have hb := h.1
  simp only [S_X6_of, S_X7_of, C_isLoad h, R_isLoad h, mb2, bo_0]
  cases hx : okI x nl
  · simp only [if_true, C_ref3, R_ref3, mb2]
    exact ⟨_, _, _, rfl, rfl, Rel_refs hE (by decide)⟩
  · obtain ⟨l, hl, hl24, rfl, ho, hcl⟩ := okc hx hb.2.2.1 (by decide)
    have e := Rel_leq h hl
    have e0 : r 40 0 l = c 2 l 0 := congrFun e 0
    have e1 : r 41 0 l = c 2 l 1 := congrFun e 1
    have e2 : r 42 0 l = c 2 l 2 := congrFun e 2
    have e3 : r 43 0 l = c 2 l 3 := congrFun e 3
    have e4 : (if r 43 0 l = 1 then r 44 0 l else -1) = c 2 l 4 := congrFun e 4
    have e5 : (if r 43 0 l = 1 then r 45 0 l else -1) = c 2 l 5 := congrFun e 5
    have e6 : r 46 0 l = c 2 l 6 := congrFun e 6
    have p4 : ∀ z : F3, (if r 43 0 l = 1 then some (r 44 0 l, z) else some (-1, z)) = some (c 2 l 4, z) := fun z => by rw [← e4]; split <;> rfl
    have p5 : ∀ z : F3, (if r 43 0 l = 1 then some (r 45 0 l, z) else some (-1, z)) = some (c 2 l 5, z) := fun z => by rw [← e5]; split <;> rfl
    simp only [Bool.true_eq_false, if_false, ho, if_true, hcl, e0, e1, e2, p4, p5, e6]
    rw [e3]
    by_cases w0 : w = 0
    · simp only [w0, if_true]; exact ⟨_, _, _, rfl, rfl, hE⟩
    by_cases w1 : w = 1
    · simp only [w1, if_true]; exact ⟨_, _, _, rfl, rfl, hE⟩
    by_cases w2 : w = 2
    · simp only [w2, if_true]; exact ⟨_, _, _, rfl, rfl, hE⟩
    by_cases w3 : w = 3
    · simp only [w3, if_true]; exact ⟨_, _, _, rfl, rfl, hE⟩
    by_cases w4 : w = 4
    · simp only [w4, if_true]; exact ⟨_, _, _, rfl, rfl, hE⟩
    by_cases w5 : w = 5
    · simp only [w5, if_true]; exact ⟨_, _, _, rfl, rfl, hE⟩
    by_cases w6 : w = 6
    · simp only [w6, if_true]; exact ⟨_, _, _, rfl, rfl, hE⟩
    simp only [w0, w1, w2, w3, w4, w5, w6, if_false, C_ref7, R_ref7, mb2]
    exact ⟨_, _, _, rfl, rfl, Rel_refs hE (by decide)⟩
theorem RMv_congr {b : Nat → Int32} {a a' : Nat → Nat → Int32} {nl : Nat} (he : ∀ l, a' l 1 = a l 1) (h : RMv b a nl) : RMv b a' nl := ⟨h.1, fun j k h1 h2 => by rw [he, he]; exact h.2 j k h1 h2⟩
theorem tsum_congr {a b : Nat → Nat → Int32} : ∀ n, (∀ l, l < n → (if a l 3 = 2 then a l 0 else 0) = (if b l 3 = 2 then b l 0 else (0 : Int32))) → tsum a n = tsum b n
  | 0, _ => rfl
  | n + 1, h => by rw [tsum, tsum, tsum_congr n (fun l hl => h l (by omega)), h n (by omega)]
/-- both sides change one load alike; the tons, which the reference keeps, are told -/
theorem Rel_load {nc nl nr nt l : Nat} {c c' r r' : F3} {v : Nat → Int32} (h : Rel nc nl nr nt c r) (hl : l < nl) (c1 : c' 2 l = v) (c2 : ∀ j, j ≠ l → c' 2 j = c 2 j) (hc : ∀ g, g ≠ 2 → c' g = c g) (r1 : rl r' l = v) (r2 : ∀ j, j ≠ l → rl r' j = rl r j) (hr : ∀ g, (g < 40 ∨ 46 < g) → g ≠ 20 → r' g = r g) (h20 : ∀ k, k ≠ 24 → r' 20 0 k = r 20 0 k) (ht : r' 20 0 24 = tsum (c' 2) nl) (hrk : v 1 = c 2 l 1) (ho : okLo v nc) : Rel nc nl nr nt c' r' := by
  have hb := h.1
  have hrank : ∀ j, c' 2 j 1 = c 2 j 1 := by
    intro j
    by_cases e : j = l
    · subst e; rw [c1, hrk]
    · rw [c2 j e]
  unfold Rel at h ⊢
  rw [hc 0 (by decide), hc 1 (by decide), hc 3 (by decide), hc 5 (by decide), hc 9 (by decide), hc 11 (by decide), hc 12 (by decide), hc 14 (by decide), hc 15 (by decide), hc 16 (by decide), hc 17 (by decide), hc 18 (by decide), hr 21 (by decide) (by decide), hr 22 (by decide) (by decide), hr 23 (by decide) (by decide), hr 26 (by decide) (by decide), hr 27 (by decide) (by decide), rs_congr (r := r) (r' := r') (fun k h1 h2 => hr k (by omega) (by omega))]
  obtain ⟨g0, g1, g2, ⟨g3, g3'⟩, g4, g5⟩ := h
  refine ⟨g0, ?_, g2, ⟨⟨fun j hj => ?_, fun j h1 h2 => ?_⟩, ht⟩, RMv_congr hrank g4, g5⟩
  · unfold RSc at g1 ⊢
    rw [h20 2 (by decide), h20 13 (by decide), h20 21 (by decide), h20 27 (by decide), h20 1 (by decide), h20 31 (by decide)]
    exact g1
  · by_cases e : j = l
    · subst e
      rw [c1, r1]
      exact ⟨rfl, ho⟩
    · rw [c2 j e, r2 j e]
      exact g3.1 j hj
  · rw [c2 j (by omega)]
    exact g3.2 j h1 h2
