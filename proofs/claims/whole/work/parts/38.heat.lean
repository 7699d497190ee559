theorem xor48 (x : Int32) (h : 0 ≤ x.toInt) : 0 ≤ x ^^^ 48 := by
  have h1 : x.toBitVec.msb = false := by
    rw [BitVec.msb_eq_toInt]
    have : ¬ x.toBitVec.toInt < 0 := fun q => by
      have : x.toInt < 0 := q
      omega
    exact decide_eq_false this
  have h2 : (x ^^^ 48).toBitVec.msb = false := by
    rw [Int32.toBitVec_xor, BitVec.msb_xor, h1]
    decide
  rw [BitVec.msb_eq_toInt] at h2
  rw [Int32.le_iff_toInt_le]
  have h3 : ¬ (x ^^^ 48).toBitVec.toInt < 0 := by simpa using h2
  have h4 : ¬ (x ^^^ 48).toInt < 0 := h3
  show (0 : Int32).toInt ≤ (x ^^^ 48).toInt
  have : (0 : Int32).toInt = 0 := rfl
  omega
theorem nI_ofT {x : Int32} (h : 0 ≤ x.toInt) : ∃ j : Nat, j < 2 ^ 31 ∧ x = nI j ∧ x.toInt = j := by
  obtain ⟨j, h1, rfl⟩ := nI_of (x := x) (by rw [Int32.lt_iff_toInt_lt]; have : (0 : Int32).toInt = 0 := rfl; omega)
  exact ⟨j, h1, rfl, nI_toInt h1⟩
theorem fstg_congr {g g' : Nat → Int32} : ∀ (m k : Nat), (∀ j, k ≤ j → j < k + m → g j = g' j) → fstg g m k = fstg g' m k
  | 0, _, _ => rfl
  | m + 1, k, h => by
    rw [fstg, fstg, h k (Nat.le_refl _) (by omega), fstg_congr m (k + 1) (fun j h1 h2 => h j (by omega) (by omega))]
/-- the heat of place p -/
def hv (w : Nat → Int32) (p : Nat) : Int32 := if w p = -9999 then (if fstg (fun j => w ((p + 48 - j) % 48)) 47 1 = -9999 then -100 else if fstg (fun j => w ((p + 48 - j) % 48)) 47 1 ≤ fstg (fun j => w ((p + j) % 48)) 47 1 then fstg (fun j => w ((p + j) % 48)) 47 1 else fstg (fun j => w ((p + 48 - j) % 48)) 47 1) else w p
theorem hv_congr {w w' : Nat → Int32} {p : Nat} (hp : p < 48) (h : ∀ t, t < 48 → w t = w' t) : hv w p = hv w' p := by
  unfold hv
  rw [h p hp, fstg_congr (g := fun j => w ((p + 48 - j) % 48)) (g' := fun j => w' ((p + 48 - j) % 48)) 47 1 (fun j _ _ => h _ (Nat.mod_lt _ (by decide))), fstg_congr (g := fun j => w ((p + j) % 48)) (g' := fun j => w' ((p + j) % 48)) 47 1 (fun j _ _ => h _ (Nat.mod_lt _ (by decide)))]
theorem R_heatOf (r : F3) {x : Int32} (hx : 0 ≤ x.toInt) : S_X7_heatOf r x = some (hv (r 22 0) (x.toInt.toNat % 48), r) := by
  obtain ⟨a, ha, rfl, ht⟩ := nI_ofT hx
  rw [ht, Int.toNat_natCast]
  have hm : a % 48 < 48 := Nat.mod_lt _ (by decide)
  unfold S_X7_heatOf
  rw [mod48 ha, if_pos (okI_nI hm (by decide)), nIk hm (by decide), R_heat_36 r (a % 48) hm 47 1 FU (-9999) (-9999) 1 rfl (by omega) (by omega) (FU_gt (by omega))]
  simp only [if_true]
  unfold hv
  split
  · split
    · rfl
    · split <;> rfl
  · rfl
theorem C_heatOf (c : F3) {x : Int32} (hx : 0 ≤ x.toInt) (hw : ∀ t, t < 48 → (c 14 0 t = -9999 ∨ (-600 ≤ (c 14 0 t).toInt ∧ (c 14 0 t).toInt ≤ 300))) : S_X5_heatOf c x = some (hv (c 14 0) (x.toInt.toNat % 48), c) := by
  have hxor := xor48 x hx
  obtain ⟨a, ha, rfl, ht⟩ := nI_ofT hx
  rw [ht, Int.toNat_natCast]
  have hm : a % 48 < 48 := Nat.mod_lt _ (by decide)
  generalize hp : a % 48 = p at hm ⊢
  have hn47 : S_X5_nearest c (nI p) 47 = some (fstg (fun j => c 14 0 ((p + 48 - j) % 48)) 47 1, c) := by
    have := C_near c p 47 (by decide) 47 1 FU 1 rfl (by omega) (by omega) (FU_gt (by omega))
    rw [show (p + 47 * (1 - 1)) % 48 = p by omega] at this
    unfold S_X5_nearest
    rw [show (47 : Int32) = nI 47 from rfl, this, fstg_congr (g := fun j => c 14 0 ((p + 47 * j) % 48)) (g' := fun j => c 14 0 ((p + 48 - j) % 48)) 47 1 (fun j h1 h2 => by show c 14 0 ((p + 47 * j) % 48) = c 14 0 ((p + 48 - j) % 48); rw [show (p + 47 * j) % 48 = (p + 48 - j) % 48 by omega])]
  have hn1 : S_X5_nearest c (nI p) 1 = some (fstg (fun j => c 14 0 ((p + j) % 48)) 47 1, c) := by
    have := C_near c p 1 (by decide) 47 1 FU 1 rfl (by omega) (by omega) (FU_gt (by omega))
    rw [show (p + 1 * (1 - 1)) % 48 = p by omega] at this
    unfold S_X5_nearest
    rw [show (1 : Int32) = nI 1 from rfl, show S_X5_nearest_5 FU c (nI 1) (nI p) (nI 1) = _ from this, fstg_congr (g := fun j => c 14 0 ((p + 1 * j) % 48)) (g' := fun j => c 14 0 ((p + j) % 48)) 47 1 (fun j h1 h2 => by show c 14 0 ((p + 1 * j) % 48) = c 14 0 ((p + j) % 48); rw [Nat.one_mul])]
  unfold S_X5_heatOf S_J9_floorMod_7cf53
  rw [if_pos (by decide), if_pos hxor, mb2, mod48 ha, hp, if_pos (okI_nI hm (by decide)), nIk hm (by decide), hn47, mb2, hn1, mb2]
  unfold hv
  by_cases hg : c 14 0 p = -9999
  · rw [if_pos hg, if_pos hg]
    have hA := fstg_in (g := fun j => c 14 0 ((p + 48 - j) % 48)) (P := fun v => v = -9999 ∨ (-600 ≤ v.toInt ∧ v.toInt ≤ 300)) (Or.inl rfl) (fun j => hw _ (Nat.mod_lt _ (by decide))) 47 1
    have hB := fstg_in (g := fun j => c 14 0 ((p + j) % 48)) (P := fun v => v = -9999 ∨ (-600 ≤ v.toInt ∧ v.toInt ≤ 300)) (Or.inl rfl) (fun j => hw _ (Nat.mod_lt _ (by decide))) 47 1
    have hAB : fstg (fun j => c 14 0 ((p + 48 - j) % 48)) 47 1 = -9999 ↔ fstg (fun j => c 14 0 ((p + j) % 48)) 47 1 = -9999 := by
      rw [fstg_gap, fstg_gap]
      constructor
      · intro q j h1 h2
        have := q (48 - j) (by omega) (by omega)
        have e : (p + 48 - (48 - j)) % 48 = (p + j) % 48 := by omega
        simp only [e] at this
        exact this
      · intro q j h1 h2
        have := q (48 - j) (by omega) (by omega)
        have e : (p + (48 - j)) % 48 = (p + 48 - j) % 48 := by omega
        simp only [e] at this
        exact this
    generalize fstg (fun j => c 14 0 ((p + 48 - j) % 48)) 47 1 = A at hA hAB ⊢
    generalize fstg (fun j => c 14 0 ((p + j) % 48)) 47 1 = B at hB hAB ⊢
    by_cases eA : A = -9999
    · have eB := hAB.mp eA
      rw [eA, eB]
      rfl
    · have hA' : -600 ≤ A.toInt ∧ A.toInt ≤ 300 := hA.resolve_left eA
      have hB' : -600 ≤ B.toInt ∧ B.toInt ≤ 300 := hB.resolve_left (fun q => eA (hAB.mpr q))
      have hn : ∀ v : Int32, -600 ≤ v.toInt → ¬ v = -9999 := fun v hv q => by rw [q] at hv; exact absurd hv (by decide)
      rw [if_neg eA]
      by_cases l1 : A < B
      · rw [if_pos l1, if_neg (hn B hB'.1), if_pos (Int32.le_of_lt l1)]
      · rw [if_neg l1, if_neg eA]
        by_cases l2 : A ≤ B
        · rw [if_pos l2]
          have : A = B := by
            rw [fa_lt] at l1
            rw [fa_le] at l2
            rw [fa_eq]
            omega
          rw [this]
        · rw [if_neg l2]
  · rw [if_neg hg, if_neg hg]
/-- both sides have the same heat -/
theorem Rel_heat {nc nl nr nt : Nat} {c r : F3} (h : Rel nc nl nr nt c r) {x : Int32} (hx : 0 ≤ x.toInt) : S_X5_heatOf c x = some (hv (c 14 0) (x.toInt.toNat % 48), c) ∧ S_X7_heatOf r x = some (hv (c 14 0) (x.toInt.toNat % 48), r) := by
  have hw := h.2.2.2.2.2.2.2.1
  refine ⟨C_heatOf c hx (fun t ht => (hw t ht).2), ?_⟩
  rw [R_heatOf r hx, hv_congr (Nat.mod_lt _ (by decide)) (fun t ht => (hw t ht).1)]
theorem sim_heat (x : Int32) : SimI (fun c => S_X6_heat c x) (fun r => S_X7_heat r x) := by
  intro c r hE
  obtain ⟨nc, nl, nr, nt, h⟩ := id hE
  show ∃ w c' r', S_X6_heat c x = some (w, c') ∧ S_X7_heat r x = some (w, r') ∧ RelE c' r'
  unfold S_X6_heat S_X7_heat
  by_cases hx : 0 ≤ x
  · have hx' : 0 ≤ x.toInt := by
      rw [fa_le] at hx
      exact hx
    rw [if_pos hx, if_pos hx, (Rel_heat h hx').1, (Rel_heat h hx').2, mb2, mb2]
    exact ⟨_, _, _, rfl, rfl, hE⟩
  · rw [if_neg hx, if_neg hx, C_ref3, R_nou3, mb2, mb2]
    exact ⟨_, _, _, rfl, rfl, Rel_refs hE (by decide)⟩
/-- a heat lies within bounds -/
theorem hv_in {w : Nat → Int32} {p : Nat} (hp : p < 48) (hw : ∀ t, t < 48 → (w t = -9999 ∨ (-600 ≤ (w t).toInt ∧ (w t).toInt ≤ 300))) : -600 ≤ (hv w p).toInt ∧ (hv w p).toInt ≤ 300 := by
  unfold hv
  have hA := fstg_in (g := fun j => w ((p + 48 - j) % 48)) (P := fun v => v = -9999 ∨ (-600 ≤ v.toInt ∧ v.toInt ≤ 300)) (Or.inl rfl) (fun j => hw _ (Nat.mod_lt _ (by decide))) 47 1
  have hB := fstg_in (g := fun j => w ((p + j) % 48)) (P := fun v => v = -9999 ∨ (-600 ≤ v.toInt ∧ v.toInt ≤ 300)) (Or.inl rfl) (fun j => hw _ (Nat.mod_lt _ (by decide))) 47 1
  generalize fstg (fun j => w ((p + 48 - j) % 48)) 47 1 = A at hA ⊢
  generalize fstg (fun j => w ((p + j) % 48)) 47 1 = B at hB ⊢
  split
  · split
    · decide
    · rename_i hA2
      have hA' := hA.resolve_left hA2
      split
      · rename_i hAB
        rcases hB with rfl | hB
        · rw [fa_le] at hAB
          have : (-9999 : Int32).toInt = -9999 := rfl
          omega
        · exact hB
      · exact hA'
  · rename_i hg
    exact (hw p hp).resolve_left hg
