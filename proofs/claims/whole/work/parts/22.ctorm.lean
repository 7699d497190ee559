set_option maxRecDepth 100000 in
def A_X0_init (n : Nat) (f : F3) (g : G3) (i0 : Nat) : Option (Nat × F3 × G3) := if okA 1 i0 n then (mm_let (up f 1 i0 0 0) fun f2 => mm_let (up f2 1 i0 1 0) fun f3 => mm_let (up f3 1 i0 2 0) fun f4 => mm_let (up f4 1 i0 3 1) fun f5 => mm_let (up f5 1 i0 4 1) fun f6 => mm_let (up f6 1 i0 5 0) fun f7 => mm_let (up f7 1 i0 6 0) fun f8 => mm_let (up f8 1 i0 7 (-1)) fun f9 => mm_let (up f9 1 i0 8 (-1)) fun f10 => mm_let (up f10 1 i0 9 (-1)) fun f11 => if n ≤ n + 0 then (some (n, f11, g)) else none) else none
set_option maxHeartbeats 4000000 in
set_option maxRecDepth 100000 in
theorem TA_X0_init (G : mmG) {n : Nat} {f : F3} {g : G3} {n' : Nat} {f' : F3} {g' : G3} {i0 : Nat} (h : A_X0_init n f g i0 = some (n', f', g')) : mmMA G yX0_init cX0_init 1 1 [.ref (ra G 1 i0)] n f g 0 n' f' g' := by
  refine mm_startA (by decide +kernel) (Nat.le_of_ble_eq_true rfl) ?_
  intro p e s m args below meth c ls C0 hin hN hl
  obtain ⟨hx, hb, hml, hr, hown, hts, hlocks⟩ := id C0
  have hl : lv_has ls 1 [(0, .ref (ra G 1 i0))] := hl
  rw [A_X0_init] at h
  have hns : n ≤ n := Nat.le_refl n
  refine lv_aload_n hx hb dX0_init_0 rfl (lv_at hl 0 rfl) ?_
  refine W.objInit hx hb hown (hts _ la_0) (hts _ la_1) (hts _ la_2) rfl (by rw [hml]; exact hl.1) rfl dX0_init_1 (Nat.le_of_ble_eq_true rfl) (Nat.le_of_ble_eq_true rfl) ?_
  refine W.eq (g2 := F0 m 4 ls ([])) rfl ?_
  refine lv_aload_n hx hb dX0_init_4 rfl (lv_at hl 0 rfl) ?_
  refine lv_iconst (v := 0) hx hb dX0_init_5 (by decide) ?_
  obtain ⟨z1, h⟩ := mm_if h
  obtain ⟨f2, ef2, h⟩ := mm_lt h
  refine mm_putA (f' := f2) (g' := g) hx hb hts hown hN 1 i0 0 z1 rfl rfl iX0 tyX0 tyX0_ok nmX0 (by decide) la_3 (Or.inr rfl) (Or.inr rfl) rfl rfl (Nat.le_of_ble_eq_true rfl) (fun r' i' hne => ⟨by rw [ef2]; exact up_other _ _ _ _ _ hne, rfl⟩) (by rw [ef2, up_self]; rfl) dX0_init_6 (fun H locs hN => ?_)
  refine lv_aload_n hx hb dX0_init_9 rfl (lv_at hl 0 rfl) ?_
  refine lv_iconst (v := 0) hx hb dX0_init_10 (by decide) ?_
  obtain ⟨f3, ef3, h⟩ := mm_lt h
  refine mm_putA (f' := f3) (g' := g) hx hb hts hown hN 1 i0 1 z1 rfl rfl iX0 tyX0 tyX0_ok nmX0 (by decide) la_4 (Or.inr rfl) (Or.inr rfl) rfl rfl (Nat.le_of_ble_eq_true rfl) (fun r' i' hne => ⟨by rw [ef3]; exact up_other _ _ _ _ _ hne, rfl⟩) (by rw [ef3, up_self]; rfl) dX0_init_11 (fun H locs hN => ?_)
  refine lv_aload_n hx hb dX0_init_14 rfl (lv_at hl 0 rfl) ?_
  refine lv_iconst (v := 0) hx hb dX0_init_15 (by decide) ?_
  obtain ⟨f4, ef4, h⟩ := mm_lt h
  refine mm_putA (f' := f4) (g' := g) hx hb hts hown hN 1 i0 2 z1 rfl rfl iX0 tyX0 tyX0_ok nmX0 (by decide) la_5 (Or.inr rfl) (Or.inr rfl) rfl rfl (Nat.le_of_ble_eq_true rfl) (fun r' i' hne => ⟨by rw [ef4]; exact up_other _ _ _ _ _ hne, rfl⟩) (by rw [ef4, up_self]; rfl) dX0_init_16 (fun H locs hN => ?_)
  refine lv_aload_n hx hb dX0_init_19 rfl (lv_at hl 0 rfl) ?_
  refine lv_iconst (v := 1) hx hb dX0_init_20 (by decide) ?_
  obtain ⟨f5, ef5, h⟩ := mm_lt h
  refine mm_putA (f' := f5) (g' := g) hx hb hts hown hN 1 i0 3 z1 rfl rfl iX0 tyX0 tyX0_ok nmX0 (by decide) la_6 (Or.inr rfl) (Or.inr rfl) rfl rfl (Nat.le_of_ble_eq_true rfl) (fun r' i' hne => ⟨by rw [ef5]; exact up_other _ _ _ _ _ hne, rfl⟩) (by rw [ef5, up_self]; rfl) dX0_init_21 (fun H locs hN => ?_)
  refine lv_aload_n hx hb dX0_init_24 rfl (lv_at hl 0 rfl) ?_
  refine lv_iconst (v := 1) hx hb dX0_init_25 (by decide) ?_
  obtain ⟨f6, ef6, h⟩ := mm_lt h
  refine mm_putA (f' := f6) (g' := g) hx hb hts hown hN 1 i0 4 z1 rfl rfl iX0 tyX0 tyX0_ok nmX0 (by decide) la_7 (Or.inr rfl) (Or.inr rfl) rfl rfl (Nat.le_of_ble_eq_true rfl) (fun r' i' hne => ⟨by rw [ef6]; exact up_other _ _ _ _ _ hne, rfl⟩) (by rw [ef6, up_self]; rfl) dX0_init_26 (fun H locs hN => ?_)
  refine lv_aload_n hx hb dX0_init_29 rfl (lv_at hl 0 rfl) ?_
  refine lv_iconst (v := 0) hx hb dX0_init_30 (by decide) ?_
  obtain ⟨f7, ef7, h⟩ := mm_lt h
  refine mm_putA (f' := f7) (g' := g) hx hb hts hown hN 1 i0 5 z1 rfl rfl iX0 tyX0 tyX0_ok nmX0 (by decide) la_8 (Or.inr rfl) (Or.inr rfl) rfl rfl (Nat.le_of_ble_eq_true rfl) (fun r' i' hne => ⟨by rw [ef7]; exact up_other _ _ _ _ _ hne, rfl⟩) (by rw [ef7, up_self]; rfl) dX0_init_31 (fun H locs hN => ?_)
  refine lv_aload_n hx hb dX0_init_34 rfl (lv_at hl 0 rfl) ?_
  refine lv_iconst (v := 0) hx hb dX0_init_35 (by decide) ?_
  obtain ⟨f8, ef8, h⟩ := mm_lt h
  refine mm_putA (f' := f8) (g' := g) hx hb hts hown hN 1 i0 6 z1 rfl rfl iX0 tyX0 tyX0_ok nmX0 (by decide) la_9 (Or.inr rfl) (Or.inr rfl) rfl rfl (Nat.le_of_ble_eq_true rfl) (fun r' i' hne => ⟨by rw [ef8]; exact up_other _ _ _ _ _ hne, rfl⟩) (by rw [ef8, up_self]; rfl) dX0_init_36 (fun H locs hN => ?_)
  refine lv_aload_n hx hb dX0_init_39 rfl (lv_at hl 0 rfl) ?_
  refine lv_iconst (v := (-1)) hx hb dX0_init_40 (by decide) ?_
  obtain ⟨f9, ef9, h⟩ := mm_lt h
  refine mm_putA (f' := f9) (g' := g) hx hb hts hown hN 1 i0 7 z1 rfl rfl iX0 tyX0 tyX0_ok nmX0 (by decide) la_10 (Or.inr rfl) (Or.inr rfl) rfl rfl (Nat.le_of_ble_eq_true rfl) (fun r' i' hne => ⟨by rw [ef9]; exact up_other _ _ _ _ _ hne, rfl⟩) (by rw [ef9, up_self]; rfl) dX0_init_41 (fun H locs hN => ?_)
  refine lv_aload_n hx hb dX0_init_44 rfl (lv_at hl 0 rfl) ?_
  refine lv_iconst (v := (-1)) hx hb dX0_init_45 (by decide) ?_
  obtain ⟨f10, ef10, h⟩ := mm_lt h
  refine mm_putA (f' := f10) (g' := g) hx hb hts hown hN 1 i0 8 z1 rfl rfl iX0 tyX0 tyX0_ok nmX0 (by decide) la_11 (Or.inr rfl) (Or.inr rfl) rfl rfl (Nat.le_of_ble_eq_true rfl) (fun r' i' hne => ⟨by rw [ef10]; exact up_other _ _ _ _ _ hne, rfl⟩) (by rw [ef10, up_self]; rfl) dX0_init_46 (fun H locs hN => ?_)
  refine lv_aload_n hx hb dX0_init_49 rfl (lv_at hl 0 rfl) ?_
  refine lv_iconst (v := (-1)) hx hb dX0_init_50 (by decide) ?_
  obtain ⟨f11, ef11, h⟩ := mm_lt h
  refine mm_putA (f' := f11) (g' := g) hx hb hts hown hN 1 i0 9 z1 rfl rfl iX0 tyX0 tyX0_ok nmX0 (by decide) la_12 (Or.inr rfl) (Or.inr rfl) rfl rfl (Nat.le_of_ble_eq_true rfl) (fun r' i' hne => ⟨by rw [ef11]; exact up_other _ _ _ _ _ hne, rfl⟩) (by rw [ef11, up_self]; rfl) dX0_init_51 (fun H locs hN => ?_)
  obtain ⟨z12, h⟩ := mm_if h
  obtain ⟨rfl, rfl, rfl⟩ := mm_p3 h
  exact mm_vretA C0 hN ⟨hns, z12⟩ dX0_init_54
set_option maxRecDepth 100000 in
def A_X1_init (n : Nat) (f : F3) (g : G3) (i0 : Nat) : Option (Nat × F3 × G3) := if okA 2 i0 n then (mm_let (up f 2 i0 0 0) fun f2 => mm_let (up f2 2 i0 1 0) fun f3 => mm_let (up f3 2 i0 2 0) fun f4 => mm_let (up f4 2 i0 3 0) fun f5 => mm_let (up f5 2 i0 4 (-1)) fun f6 => mm_let (up f6 2 i0 5 (-1)) fun f7 => mm_let (up f7 2 i0 6 (-1)) fun f8 => if n ≤ n + 0 then (some (n, f8, g)) else none) else none
set_option maxHeartbeats 4000000 in
set_option maxRecDepth 100000 in
theorem TA_X1_init (G : mmG) {n : Nat} {f : F3} {g : G3} {n' : Nat} {f' : F3} {g' : G3} {i0 : Nat} (h : A_X1_init n f g i0 = some (n', f', g')) : mmMA G yX1_init cX1_init 1 1 [.ref (ra G 2 i0)] n f g 0 n' f' g' := by
  refine mm_startA (by decide +kernel) (Nat.le_of_ble_eq_true rfl) ?_
  intro p e s m args below meth c ls C0 hin hN hl
  obtain ⟨hx, hb, hml, hr, hown, hts, hlocks⟩ := id C0
  have hl : lv_has ls 1 [(0, .ref (ra G 2 i0))] := hl
  rw [A_X1_init] at h
  have hns : n ≤ n := Nat.le_refl n
  refine lv_aload_n hx hb dX1_init_0 rfl (lv_at hl 0 rfl) ?_
  refine W.objInit hx hb hown (hts _ la_13) (hts _ la_1) (hts _ la_2) rfl (by rw [hml]; exact hl.1) rfl dX1_init_1 (Nat.le_of_ble_eq_true rfl) (Nat.le_of_ble_eq_true rfl) ?_
  refine W.eq (g2 := F0 m 4 ls ([])) rfl ?_
  refine lv_aload_n hx hb dX1_init_4 rfl (lv_at hl 0 rfl) ?_
  refine lv_iconst (v := 0) hx hb dX1_init_5 (by decide) ?_
  obtain ⟨z1, h⟩ := mm_if h
  obtain ⟨f2, ef2, h⟩ := mm_lt h
  refine mm_putA (f' := f2) (g' := g) hx hb hts hown hN 2 i0 0 z1 rfl rfl iX1 tyX1 tyX1_ok nmX1 (by decide) la_14 (Or.inr rfl) (Or.inr rfl) rfl rfl (Nat.le_of_ble_eq_true rfl) (fun r' i' hne => ⟨by rw [ef2]; exact up_other _ _ _ _ _ hne, rfl⟩) (by rw [ef2, up_self]; rfl) dX1_init_6 (fun H locs hN => ?_)
  refine lv_aload_n hx hb dX1_init_9 rfl (lv_at hl 0 rfl) ?_
  refine lv_iconst (v := 0) hx hb dX1_init_10 (by decide) ?_
  obtain ⟨f3, ef3, h⟩ := mm_lt h
  refine mm_putA (f' := f3) (g' := g) hx hb hts hown hN 2 i0 1 z1 rfl rfl iX1 tyX1 tyX1_ok nmX1 (by decide) la_15 (Or.inr rfl) (Or.inr rfl) rfl rfl (Nat.le_of_ble_eq_true rfl) (fun r' i' hne => ⟨by rw [ef3]; exact up_other _ _ _ _ _ hne, rfl⟩) (by rw [ef3, up_self]; rfl) dX1_init_11 (fun H locs hN => ?_)
  refine lv_aload_n hx hb dX1_init_14 rfl (lv_at hl 0 rfl) ?_
  refine lv_iconst (v := 0) hx hb dX1_init_15 (by decide) ?_
  obtain ⟨f4, ef4, h⟩ := mm_lt h
  refine mm_putA (f' := f4) (g' := g) hx hb hts hown hN 2 i0 2 z1 rfl rfl iX1 tyX1 tyX1_ok nmX1 (by decide) la_16 (Or.inr rfl) (Or.inr rfl) rfl rfl (Nat.le_of_ble_eq_true rfl) (fun r' i' hne => ⟨by rw [ef4]; exact up_other _ _ _ _ _ hne, rfl⟩) (by rw [ef4, up_self]; rfl) dX1_init_16 (fun H locs hN => ?_)
  refine lv_aload_n hx hb dX1_init_19 rfl (lv_at hl 0 rfl) ?_
  refine lv_iconst (v := 0) hx hb dX1_init_20 (by decide) ?_
  obtain ⟨f5, ef5, h⟩ := mm_lt h
  refine mm_putA (f' := f5) (g' := g) hx hb hts hown hN 2 i0 3 z1 rfl rfl iX1 tyX1 tyX1_ok nmX1 (by decide) la_17 (Or.inr rfl) (Or.inr rfl) rfl rfl (Nat.le_of_ble_eq_true rfl) (fun r' i' hne => ⟨by rw [ef5]; exact up_other _ _ _ _ _ hne, rfl⟩) (by rw [ef5, up_self]; rfl) dX1_init_21 (fun H locs hN => ?_)
  refine lv_aload_n hx hb dX1_init_24 rfl (lv_at hl 0 rfl) ?_
  refine lv_iconst (v := (-1)) hx hb dX1_init_25 (by decide) ?_
  obtain ⟨f6, ef6, h⟩ := mm_lt h
  refine mm_putA (f' := f6) (g' := g) hx hb hts hown hN 2 i0 4 z1 rfl rfl iX1 tyX1 tyX1_ok nmX1 (by decide) la_18 (Or.inr rfl) (Or.inr rfl) rfl rfl (Nat.le_of_ble_eq_true rfl) (fun r' i' hne => ⟨by rw [ef6]; exact up_other _ _ _ _ _ hne, rfl⟩) (by rw [ef6, up_self]; rfl) dX1_init_26 (fun H locs hN => ?_)
  refine lv_aload_n hx hb dX1_init_29 rfl (lv_at hl 0 rfl) ?_
  refine lv_iconst (v := (-1)) hx hb dX1_init_30 (by decide) ?_
  obtain ⟨f7, ef7, h⟩ := mm_lt h
  refine mm_putA (f' := f7) (g' := g) hx hb hts hown hN 2 i0 5 z1 rfl rfl iX1 tyX1 tyX1_ok nmX1 (by decide) la_19 (Or.inr rfl) (Or.inr rfl) rfl rfl (Nat.le_of_ble_eq_true rfl) (fun r' i' hne => ⟨by rw [ef7]; exact up_other _ _ _ _ _ hne, rfl⟩) (by rw [ef7, up_self]; rfl) dX1_init_31 (fun H locs hN => ?_)
  refine lv_aload_n hx hb dX1_init_34 rfl (lv_at hl 0 rfl) ?_
  refine lv_iconst (v := (-1)) hx hb dX1_init_35 (by decide) ?_
  obtain ⟨f8, ef8, h⟩ := mm_lt h
  refine mm_putA (f' := f8) (g' := g) hx hb hts hown hN 2 i0 6 z1 rfl rfl iX1 tyX1 tyX1_ok nmX1 (by decide) la_20 (Or.inr rfl) (Or.inr rfl) rfl rfl (Nat.le_of_ble_eq_true rfl) (fun r' i' hne => ⟨by rw [ef8]; exact up_other _ _ _ _ _ hne, rfl⟩) (by rw [ef8, up_self]; rfl) dX1_init_36 (fun H locs hN => ?_)
  obtain ⟨z9, h⟩ := mm_if h
  obtain ⟨rfl, rfl, rfl⟩ := mm_p3 h
  exact mm_vretA C0 hN ⟨hns, z9⟩ dX1_init_39
set_option maxRecDepth 100000 in
def A_X2_init (n : Nat) (f : F3) (g : G3) (i0 : Nat) : Option (Nat × F3 × G3) := if okA 3 i0 n then (mm_let (up f 3 i0 0 0) fun f2 => mm_let (up f2 3 i0 1 0) fun f3 => mm_let (up f3 3 i0 2 0) fun f4 => mm_let (up f4 3 i0 3 0) fun f5 => mm_let (up f5 3 i0 4 0) fun f6 => mm_let (up f6 3 i0 5 0) fun f7 => if n < n + 3 ∧ n < mm_NT ∧ mm_loc n = (16, i0) then (mm_let (n + 1) fun n9 => mm_let (zf f7 16 i0) fun f10 => mm_let (zg g 16 i0) fun g11 => if okA 3 i0 n9 then (mm_let (upg g11 3 i0 6 (16, i0)) fun g14 => if n9 < n + 3 ∧ n9 < mm_NT ∧ mm_loc n9 = (17, i0) then (mm_let (n9 + 1) fun n16 => mm_let (zf f10 17 i0) fun f17 => mm_let (zg g14 17 i0) fun g18 => if okA 3 i0 n16 then (mm_let (upg g18 3 i0 7 (17, i0)) fun g21 => if n16 < n + 3 ∧ n16 < mm_NT ∧ mm_loc n16 = (18, i0) then (mm_let (n16 + 1) fun n23 => mm_let (zf f17 18 i0) fun f24 => mm_let (zg g21 18 i0) fun g25 => if okA 3 i0 n23 then (mm_let (upg g25 3 i0 8 (18, i0)) fun g28 => if n23 ≤ n + 3 then (some (n23, f24, g28)) else none) else none) else none) else none) else none) else none) else none) else none
set_option maxHeartbeats 4000000 in
set_option maxRecDepth 100000 in
theorem TA_X2_init (G : mmG) {n : Nat} {f : F3} {g : G3} {n' : Nat} {f' : F3} {g' : G3} {i0 : Nat} (h : A_X2_init n f g i0 = some (n', f', g')) : mmMA G yX2_init cX2_init 1 1 [.ref (ra G 3 i0)] n f g 3 n' f' g' := by
  refine mm_startA (by decide +kernel) (Nat.le_of_ble_eq_true rfl) ?_
  intro p e s m args below meth c ls C0 hin hN hl
  obtain ⟨hx, hb, hml, hr, hown, hts, hlocks⟩ := id C0
  have hl : lv_has ls 1 [(0, .ref (ra G 3 i0))] := hl
  rw [A_X2_init] at h
  have hns : n ≤ n := Nat.le_refl n
  refine lv_aload_n hx hb dX2_init_0 rfl (lv_at hl 0 rfl) ?_
  refine W.objInit hx hb hown (hts _ la_21) (hts _ la_1) (hts _ la_2) rfl (by rw [hml]; exact hl.1) rfl dX2_init_1 (Nat.le_of_ble_eq_true rfl) (Nat.le_of_ble_eq_true rfl) ?_
  refine W.eq (g2 := F0 m 4 ls ([])) rfl ?_
  refine lv_aload_n hx hb dX2_init_4 rfl (lv_at hl 0 rfl) ?_
  refine lv_iconst (v := 0) hx hb dX2_init_5 (by decide) ?_
  obtain ⟨z1, h⟩ := mm_if h
  obtain ⟨f2, ef2, h⟩ := mm_lt h
  refine mm_putA (f' := f2) (g' := g) hx hb hts hown hN 3 i0 0 z1 rfl rfl iX2 tyX2 tyX2_ok nmX2 (by decide) la_22 (Or.inr rfl) (Or.inr rfl) rfl rfl (Nat.le_of_ble_eq_true rfl) (fun r' i' hne => ⟨by rw [ef2]; exact up_other _ _ _ _ _ hne, rfl⟩) (by rw [ef2, up_self]; rfl) dX2_init_6 (fun H locs hN => ?_)
  refine lv_aload_n hx hb dX2_init_9 rfl (lv_at hl 0 rfl) ?_
  refine lv_iconst (v := 0) hx hb dX2_init_10 (by decide) ?_
  obtain ⟨f3, ef3, h⟩ := mm_lt h
  refine mm_putA (f' := f3) (g' := g) hx hb hts hown hN 3 i0 1 z1 rfl rfl iX2 tyX2 tyX2_ok nmX2 (by decide) la_23 (Or.inr rfl) (Or.inr rfl) rfl rfl (Nat.le_of_ble_eq_true rfl) (fun r' i' hne => ⟨by rw [ef3]; exact up_other _ _ _ _ _ hne, rfl⟩) (by rw [ef3, up_self]; rfl) dX2_init_11 (fun H locs hN => ?_)
  refine lv_aload_n hx hb dX2_init_14 rfl (lv_at hl 0 rfl) ?_
  refine lv_iconst (v := 0) hx hb dX2_init_15 (by decide) ?_
  obtain ⟨f4, ef4, h⟩ := mm_lt h
  refine mm_putA (f' := f4) (g' := g) hx hb hts hown hN 3 i0 2 z1 rfl rfl iX2 tyX2 tyX2_ok nmX2 (by decide) la_24 (Or.inr rfl) (Or.inr rfl) rfl rfl (Nat.le_of_ble_eq_true rfl) (fun r' i' hne => ⟨by rw [ef4]; exact up_other _ _ _ _ _ hne, rfl⟩) (by rw [ef4, up_self]; rfl) dX2_init_16 (fun H locs hN => ?_)
  refine lv_aload_n hx hb dX2_init_19 rfl (lv_at hl 0 rfl) ?_
  refine lv_iconst (v := 0) hx hb dX2_init_20 (by decide) ?_
  obtain ⟨f5, ef5, h⟩ := mm_lt h
  refine mm_putA (f' := f5) (g' := g) hx hb hts hown hN 3 i0 3 z1 rfl rfl iX2 tyX2 tyX2_ok nmX2 (by decide) la_25 (Or.inr rfl) (Or.inr rfl) rfl rfl (Nat.le_of_ble_eq_true rfl) (fun r' i' hne => ⟨by rw [ef5]; exact up_other _ _ _ _ _ hne, rfl⟩) (by rw [ef5, up_self]; rfl) dX2_init_21 (fun H locs hN => ?_)
  refine lv_aload_n hx hb dX2_init_24 rfl (lv_at hl 0 rfl) ?_
  refine lv_iconst (v := 0) hx hb dX2_init_25 (by decide) ?_
  obtain ⟨f6, ef6, h⟩ := mm_lt h
  refine mm_putA (f' := f6) (g' := g) hx hb hts hown hN 3 i0 4 z1 rfl rfl iX2 tyX2 tyX2_ok nmX2 (by decide) la_26 (Or.inr rfl) (Or.inr rfl) rfl rfl (Nat.le_of_ble_eq_true rfl) (fun r' i' hne => ⟨by rw [ef6]; exact up_other _ _ _ _ _ hne, rfl⟩) (by rw [ef6, up_self]; rfl) dX2_init_26 (fun H locs hN => ?_)
  refine lv_aload_n hx hb dX2_init_29 rfl (lv_at hl 0 rfl) ?_
  refine lv_iconst (v := 0) hx hb dX2_init_30 (by decide) ?_
  obtain ⟨f7, ef7, h⟩ := mm_lt h
  refine mm_putA (f' := f7) (g' := g) hx hb hts hown hN 3 i0 5 z1 rfl rfl iX2 tyX2 tyX2_ok nmX2 (by decide) la_27 (Or.inr rfl) (Or.inr rfl) rfl rfl (Nat.le_of_ble_eq_true rfl) (fun r' i' hne => ⟨by rw [ef7]; exact up_other _ _ _ _ _ hne, rfl⟩) (by rw [ef7, up_self]; rfl) dX2_init_31 (fun H locs hN => ?_)
  refine lv_aload_n hx hb dX2_init_34 rfl (lv_at hl 0 rfl) ?_
  refine lv_iconst (v := 3) hx hb dX2_init_35 (by decide) ?_
  obtain ⟨z8, h⟩ := mm_if h
  obtain ⟨n9, en9, h⟩ := mm_lt h
  obtain ⟨f10, ef10, h⟩ := mm_lt h
  obtain ⟨g11, eg11, h⟩ := mm_lt h
  refine mm_nwaA 0 (ty := .int) hx hb hts hN 16 i0 hns z8 (L := 3) (LN := 3) rfl rfl (fun _ => rfl) rfl rfl la_28 rfl (by decide) (by decide) (by decide) dX2_init_36 (fun H hN => ?_)
  rw [← en9, ← ef10, ← eg11] at hN
  refine W_cnt (c1 := n9 - n) (s1 := SL n9 - SL n) (by rw [en9]) (by rw [en9]) ?_
  have hn12 : n ≤ n9 := by omega
  refine W.eq (g2 := F0 m 38 ls (.ref (ra G 16 i0) :: .ref (ra G 3 i0) :: [])) rfl ?_
  obtain ⟨z13, h⟩ := mm_if h
  obtain ⟨g14, eg14, h⟩ := mm_lt h
  refine mm_putA (f' := f10) (g' := g14) hx hb hts hown hN 3 i0 6 z13 rfl rfl iX2 tyX2 tyX2_ok nmX2 (by decide) la_29 (Or.inl hin) (Or.inl rfl) rfl rfl (Nat.le_of_ble_eq_true rfl) (fun r' i' hne => ⟨rfl, by rw [eg14]; exact upg_other _ _ _ _ _ hne⟩) (by rw [eg14, upg_self]; rfl) dX2_init_38 (fun H locs hN => ?_)
  refine lv_aload_n hx hb dX2_init_41 rfl (lv_at hl 0 rfl) ?_
  refine lv_iconst (v := 3) hx hb dX2_init_42 (by decide) ?_
  obtain ⟨z15, h⟩ := mm_if h
  obtain ⟨n16, en16, h⟩ := mm_lt h
  obtain ⟨f17, ef17, h⟩ := mm_lt h
  obtain ⟨g18, eg18, h⟩ := mm_lt h
  refine mm_nwaA 0 (ty := .int) hx hb hts hN 17 i0 hn12 z15 (L := 3) (LN := 3) rfl rfl (fun _ => rfl) rfl rfl la_28 rfl (by decide) (by decide) (by decide) dX2_init_43 (fun H hN => ?_)
  rw [← en16, ← ef17, ← eg18] at hN
  refine W_cnt (c1 := n16 - n) (s1 := SL n16 - SL n) (by rw [en16]) (by rw [en16]) ?_
  have hn19 : n ≤ n16 := by omega
  refine W.eq (g2 := F0 m 45 ls (.ref (ra G 17 i0) :: .ref (ra G 3 i0) :: [])) rfl ?_
  obtain ⟨z20, h⟩ := mm_if h
  obtain ⟨g21, eg21, h⟩ := mm_lt h
  refine mm_putA (f' := f17) (g' := g21) hx hb hts hown hN 3 i0 7 z20 rfl rfl iX2 tyX2 tyX2_ok nmX2 (by decide) la_30 (Or.inl hin) (Or.inl rfl) rfl rfl (Nat.le_of_ble_eq_true rfl) (fun r' i' hne => ⟨rfl, by rw [eg21]; exact upg_other _ _ _ _ _ hne⟩) (by rw [eg21, upg_self]; rfl) dX2_init_45 (fun H locs hN => ?_)
  refine lv_aload_n hx hb dX2_init_48 rfl (lv_at hl 0 rfl) ?_
  refine lv_iconst (v := 3) hx hb dX2_init_49 (by decide) ?_
  obtain ⟨z22, h⟩ := mm_if h
  obtain ⟨n23, en23, h⟩ := mm_lt h
  obtain ⟨f24, ef24, h⟩ := mm_lt h
  obtain ⟨g25, eg25, h⟩ := mm_lt h
  refine mm_nwaA 0 (ty := .int) hx hb hts hN 18 i0 hn19 z22 (L := 3) (LN := 3) rfl rfl (fun _ => rfl) rfl rfl la_28 rfl (by decide) (by decide) (by decide) dX2_init_50 (fun H hN => ?_)
  rw [← en23, ← ef24, ← eg25] at hN
  refine W_cnt (c1 := n23 - n) (s1 := SL n23 - SL n) (by rw [en23]) (by rw [en23]) ?_
  have hn26 : n ≤ n23 := by omega
  refine W.eq (g2 := F0 m 52 ls (.ref (ra G 18 i0) :: .ref (ra G 3 i0) :: [])) rfl ?_
  obtain ⟨z27, h⟩ := mm_if h
  obtain ⟨g28, eg28, h⟩ := mm_lt h
  refine mm_putA (f' := f24) (g' := g28) hx hb hts hown hN 3 i0 8 z27 rfl rfl iX2 tyX2 tyX2_ok nmX2 (by decide) la_31 (Or.inl hin) (Or.inl rfl) rfl rfl (Nat.le_of_ble_eq_true rfl) (fun r' i' hne => ⟨rfl, by rw [eg28]; exact upg_other _ _ _ _ _ hne⟩) (by rw [eg28, upg_self]; rfl) dX2_init_52 (fun H locs hN => ?_)
  obtain ⟨z29, h⟩ := mm_if h
  obtain ⟨rfl, rfl, rfl⟩ := mm_p3 h
  exact mm_vretA C0 hN ⟨hn26, z29⟩ dX2_init_55
set_option maxRecDepth 100000 in
def A_X4_init (n : Nat) (f : F3) (g : G3)  : Option (Nat × F3 × G3) := if n < n + 1 ∧ n < mm_NT ∧ mm_loc n = (15, 0) then (mm_let (n + 1) fun n2 => mm_let (zf f 15 0) fun f3 => mm_let (zg g 15 0) fun g4 => if okA 5 0 n2 then (mm_let (upg g4 5 0 0 (15, 0)) fun g7 => mm_let (up f3 5 0 1 0) fun f8 => if n2 ≤ n + 1 then (some (n2, f8, g7)) else none) else none) else none
set_option maxHeartbeats 4000000 in
set_option maxRecDepth 100000 in
theorem TA_X4_init (G : mmG) {n : Nat} {f : F3} {g : G3} {n' : Nat} {f' : F3} {g' : G3}  (h : A_X4_init n f g  = some (n', f', g')) : mmMA G yX4_init cX4_init 1 1 [.ref (ra G 5 0)] n f g 1 n' f' g' := by
  refine mm_startA (by decide +kernel) (Nat.le_of_ble_eq_true rfl) ?_
  intro p e s m args below meth c ls C0 hin hN hl
  obtain ⟨hx, hb, hml, hr, hown, hts, hlocks⟩ := id C0
  have hl : lv_has ls 1 [(0, .ref (ra G 5 0))] := hl
  rw [A_X4_init] at h
  have hns : n ≤ n := Nat.le_refl n
  refine lv_aload_n hx hb dX4_init_0 rfl (lv_at hl 0 rfl) ?_
  refine W.objInit hx hb hown (hts _ la_32) (hts _ la_1) (hts _ la_2) rfl (by rw [hml]; exact hl.1) rfl dX4_init_1 (Nat.le_of_ble_eq_true rfl) (Nat.le_of_ble_eq_true rfl) ?_
  refine W.eq (g2 := F0 m 4 ls ([])) rfl ?_
  refine lv_aload_n hx hb dX4_init_4 rfl (lv_at hl 0 rfl) ?_
  refine lv_bipush (v := 80) hx hb dX4_init_5 (by decide) ?_
  obtain ⟨z1, h⟩ := mm_if h
  obtain ⟨n2, en2, h⟩ := mm_lt h
  obtain ⟨f3, ef3, h⟩ := mm_lt h
  obtain ⟨g4, eg4, h⟩ := mm_lt h
  refine mm_nwaA 0 (ty := .int) hx hb hts hN 15 0 hns z1 (L := 80) (LN := 80) rfl rfl (fun _ => rfl) rfl rfl la_28 rfl (by decide) (by decide) (by decide) dX4_init_7 (fun H hN => ?_)
  rw [← en2, ← ef3, ← eg4] at hN
  refine W_cnt (c1 := n2 - n) (s1 := SL n2 - SL n) (by rw [en2]) (by rw [en2]) ?_
  have hn5 : n ≤ n2 := by omega
  refine W.eq (g2 := F0 m 9 ls (.ref (ra G 15 0) :: .ref (ra G 5 0) :: [])) rfl ?_
  obtain ⟨z6, h⟩ := mm_if h
  obtain ⟨g7, eg7, h⟩ := mm_lt h
  refine mm_putA (f' := f3) (g' := g7) hx hb hts hown hN 5 0 0 z6 rfl rfl iX4 tyX4 tyX4_ok nmX4 (by decide) la_33 (Or.inl hin) (Or.inl rfl) rfl rfl (Nat.le_of_ble_eq_true rfl) (fun r' i' hne => ⟨rfl, by rw [eg7]; exact upg_other _ _ _ _ _ hne⟩) (by rw [eg7, upg_self]; rfl) dX4_init_9 (fun H locs hN => ?_)
  refine lv_aload_n hx hb dX4_init_12 rfl (lv_at hl 0 rfl) ?_
  refine lv_iconst (v := 0) hx hb dX4_init_13 (by decide) ?_
  obtain ⟨f8, ef8, h⟩ := mm_lt h
  refine mm_putA (f' := f8) (g' := g7) hx hb hts hown hN 5 0 1 z6 rfl rfl iX4 tyX4 tyX4_ok nmX4 (by decide) la_34 (Or.inr rfl) (Or.inr rfl) rfl rfl (Nat.le_of_ble_eq_true rfl) (fun r' i' hne => ⟨by rw [ef8]; exact up_other _ _ _ _ _ hne, rfl⟩) (by rw [ef8, up_self]; rfl) dX4_init_14 (fun H locs hN => ?_)
  obtain ⟨z9, h⟩ := mm_if h
  obtain ⟨rfl, rfl, rfl⟩ := mm_p3 h
  exact mm_vretA C0 hN ⟨hn5, z9⟩ dX4_init_17
set_option maxRecDepth 100000 in
def A_X3_init (n : Nat) (f : F3) (g : G3)  : Option (Nat × F3 × G3) := if n < n + 2 ∧ n < mm_NT ∧ mm_loc n = (5, 0) then (mm_let (n + 1) fun n2 => mm_let (zf f 5 0) fun f3 => mm_let (zg g 5 0) fun g4 => mm_b3 (A_X4_init n2 f3 g4 ) fun n6 f7 g8 => if n6 = n2 + 1 ∧ n2 + 1 ≤ n + 2 then (if okA 4 0 n6 then (mm_let (upg g8 4 0 0 (5, 0)) fun g12 => mm_let (up f7 4 0 1 0) fun f13 => if n6 ≤ n + 2 then (some (n6, f13, g12)) else none) else none) else none) else none
set_option maxHeartbeats 4000000 in
set_option maxRecDepth 100000 in
theorem TA_X3_init (G : mmG) {n : Nat} {f : F3} {g : G3} {n' : Nat} {f' : F3} {g' : G3}  (h : A_X3_init n f g  = some (n', f', g')) : mmMA G yX3_init cX3_init 1 2 [.ref (ra G 4 0)] n f g 2 n' f' g' := by
  refine mm_startA (by decide +kernel) (Nat.le_of_ble_eq_true rfl) ?_
  intro p e s m args below meth c ls C0 hin hN hl
  obtain ⟨hx, hb, hml, hr, hown, hts, hlocks⟩ := id C0
  have hl : lv_has ls 1 [(0, .ref (ra G 4 0))] := hl
  rw [A_X3_init] at h
  have hns : n ≤ n := Nat.le_refl n
  refine lv_aload_n hx hb dX3_init_0 rfl (lv_at hl 0 rfl) ?_
  refine W.objInit hx hb hown (hts _ la_35) (hts _ la_1) (hts _ la_2) rfl (by rw [hml]; exact hl.1) rfl dX3_init_1 (Nat.le_of_ble_eq_true rfl) (Nat.le_of_ble_eq_true rfl) ?_
  refine W.eq (g2 := F0 m 4 ls ([])) rfl ?_
  refine lv_aload_n hx hb dX3_init_4 rfl (lv_at hl 0 rfl) ?_
  obtain ⟨z1, h⟩ := mm_if h
  obtain ⟨n2, en2, h⟩ := mm_lt h
  obtain ⟨f3, ef3, h⟩ := mm_lt h
  obtain ⟨g4, eg4, h⟩ := mm_lt h
  refine mm_newA hx hb hts hown hN 5 0 hns z1 rfl rfl iX4 tyX4 tyX4_ok la_36 la_37 la_38 rfl df_X4 dX3_init_5 (fun H hN => ?_)
  rw [← en2, ← ef3, ← eg4] at hN
  refine W_cnt (c1 := n2 - n) (s1 := SL n2 - SL n) (by rw [en2]) (by rw [en2]) ?_
  have hn5 : n ≤ n2 := by omega
  refine W.eq (g2 := F0 m 8 ls (.ref (ra G 5 0) :: .ref (ra G 4 0) :: [])) rfl ?_
  refine lv_dup hx hb dX3_init_8 rfl ?_
  obtain ⟨n6, f7, g8, en6, h⟩ := mm_b3e h
  obtain ⟨z9, h⟩ := mm_if h
  refine mm_callIN (host := "IceRoad") (d0 := 1) (mc0 := 1) (rest := [.ref (ra G 5 0), .ref (ra G 4 0)]) [] C0 rfl hN (TA_X4_init G en6) wi_X4_init hN.2.2.2.2.2.2.2 rfl hdA_X4_init ⟨by decide, by decide⟩ hn5 z9 hl.1 rfl (Nat.le_of_ble_eq_true rfl) dX3_init_9 (fun H locs hN => ?_)
  have hn10 : n ≤ n6 := by omega
  refine W.eq (g2 := F0 m 12 ls (.ref (ra G 5 0) :: .ref (ra G 4 0) :: [])) rfl ?_
  obtain ⟨z11, h⟩ := mm_if h
  obtain ⟨g12, eg12, h⟩ := mm_lt h
  refine mm_putA (f' := f7) (g' := g12) hx hb hts hown hN 4 0 0 z11 rfl rfl iX3 tyX3 tyX3_ok nmX3 (by decide) la_39 (Or.inl hin) (Or.inl rfl) rfl rfl (Nat.le_of_ble_eq_true rfl) (fun r' i' hne => ⟨rfl, by rw [eg12]; exact upg_other _ _ _ _ _ hne⟩) (by rw [eg12, upg_self]; rfl) dX3_init_12 (fun H locs hN => ?_)
  refine lv_aload_n hx hb dX3_init_15 rfl (lv_at hl 0 rfl) ?_
  refine lv_iconst (v := 0) hx hb dX3_init_16 (by decide) ?_
  obtain ⟨f13, ef13, h⟩ := mm_lt h
  refine mm_putA (f' := f13) (g' := g12) hx hb hts hown hN 4 0 1 z11 rfl rfl iX3 tyX3 tyX3_ok nmX3 (by decide) la_40 (Or.inr rfl) (Or.inr rfl) rfl rfl (Nat.le_of_ble_eq_true rfl) (fun r' i' hne => ⟨by rw [ef13]; exact up_other _ _ _ _ _ hne, rfl⟩) (by rw [ef13, up_self]; rfl) dX3_init_17 (fun H locs hN => ?_)
  obtain ⟨z14, h⟩ := mm_if h
  obtain ⟨rfl, rfl, rfl⟩ := mm_p3 h
  exact mm_vretA C0 hN ⟨hn10, z14⟩ dX3_init_20
def A_X5_init_14 (ns : Nat) : Nat → Nat → F3 → G3 → Int32 → Option (Nat × F3 × G3)
  | 0, _, _, _, _ => none
  | k + 1, n, f, g, x1 => if 48 ≤ x1 then (if n ≤ ns + 1 then (some (n, f, g)) else none) else (if okA 6 0 n then (if g 6 0 0 = (14, 0) then (if okA 14 0 n then (if okI x1 48 then (mm_let (up f 14 0 x1.toNatClampNeg (-9999)) fun f14 => A_X5_init_14 ns k n f14 g (x1 + 1)) else none) else none) else none) else none)
set_option maxHeartbeats 4000000 in
set_option maxRecDepth 100000 in
theorem LA_X5_init_14 {G : mmG} {p : Program} {e : Env} {s : State} {m : MethodId} {args : Array Value} {below : List Frame} {meth : Method} {c : Code} {n' ns : Nat} {f' : F3} {g' : G3} (C0 : mmC yX5_init cX5_init 2 none p s m args meth c) (hin : meth.name = "<init>") : ∀ (k : Nat) {n : Nat} {f : F3} {g : G3} {x1 : Int32} (hns : ns ≤ n), A_X5_init_14 ns k n f g x1 = some (n', f', g') → ∀ (H : Heap) (locs : List Loc) (ls : Array Slot), mm_N G n f g s H locs → lv_has ls 2 [(0, .ref (ra G 6 0)), (1, .int x1)] → W p G.1 e (mm_rA 1 1 ns) s m args below meth c H locs (n - ns) (SL n - SL ns) (MQ below (mm_QA G n' f' g') args s 1 (SL (ns + 1) - SL ns) (mm_A G)) (F0 m 14 ls []) := by
  obtain ⟨hx, hb, hml, hr, hown, hts, hlocks⟩ := id C0
  intro k
  induction k with
  | zero =>
    intro n f g x1 hns h H locs ls hN hl
    cases h
  | succ k ih =>
    intro n f g x1 hns h H locs ls hN hl
    rw [A_X5_init_14] at h
    refine lv_iload_n hx hb dX5_init_14 rfl (lv_at hl 1 rfl) ?_
    refine lv_bipush (v := 48) hx hb dX5_init_15 (by decide) ?_
    refine lv_icmp_ge (tgt := 35) hx hb dX5_init_17 (by decide) (fun c8 => ?_) (fun c8 => ?_)
    · rw [if_pos c8] at h
      obtain ⟨z9, h⟩ := mm_if h
      obtain ⟨rfl, rfl, rfl⟩ := mm_p3 h
      exact mm_vretA C0 hN ⟨hns, z9⟩ dX5_init_35
    · rw [if_neg c8] at h
      refine lv_aload_n hx hb dX5_init_20 rfl (lv_at hl 0 rfl) ?_
      obtain ⟨z10, h⟩ := mm_if h
      obtain ⟨z11, h⟩ := mm_if h
      refine mm_get hx hb hts hown hN.1 6 0 0 (okA_v z10).1 (v := .ref (ra G 14 0)) rfl rfl iX5 (by decide) la_42 (by show some (va_rf (mm_ro G (g 6 0 0))) = _; rw [z11]; rfl) dX5_init_21 ?_
      refine lv_iload_n hx hb dX5_init_24 rfl (lv_at hl 1 rfl) ?_
      refine lv_sipush (v := (-9999)) hx hb dX5_init_25 (by decide) ?_
      obtain ⟨z12, h⟩ := mm_if h
      obtain ⟨z13, h⟩ := mm_if h
      obtain ⟨f14, ef14, h⟩ := mm_lt h
      refine mm_istA hx hb hN 14 0 z12 (L := 48) (j := x1) (x := (-9999)) (fun _ => rfl) (okI_in z13) dX5_init_28 (fun H locs hN => ?_)
      rw [← ef14] at hN
      refine lv_iinc (v := x1 + 1) (lv' := [(1, .int (x1 + 1)), (0, .ref (ra G 6 0))]) hx hb dX5_init_29 hl (k := 1) rfl rfl (by decide) rfl (fun ls hl => ?_)
      refine lv_goto (tgt := 14) hx hb dX5_init_32 (by decide) ?_
      exact ih hns h _ _ _ hN (lv_sub hl [1, 0] rfl)
set_option maxRecDepth 100000 in
def A_X5_init (n : Nat) (f : F3) (g : G3)  : Option (Nat × F3 × G3) := if n < n + 1 ∧ n < mm_NT ∧ mm_loc n = (14, 0) then (mm_let (n + 1) fun n2 => mm_let (zf f 14 0) fun f3 => mm_let (zg g 14 0) fun g4 => if okA 6 0 n2 then (mm_let (upg g4 6 0 0 (14, 0)) fun g7 => A_X5_init_14 n 600 n2 f3 g7 0) else none) else none
set_option maxHeartbeats 4000000 in
set_option maxRecDepth 100000 in
theorem TA_X5_init (G : mmG) {n : Nat} {f : F3} {g : G3} {n' : Nat} {f' : F3} {g' : G3}  (h : A_X5_init n f g  = some (n', f', g')) : mmMA G yX5_init cX5_init 2 1 [.ref (ra G 6 0)] n f g 1 n' f' g' := by
  refine mm_startA (by decide +kernel) (Nat.le_of_ble_eq_true rfl) ?_
  intro p e s m args below meth c ls C0 hin hN hl
  obtain ⟨hx, hb, hml, hr, hown, hts, hlocks⟩ := id C0
  have hl : lv_has ls 2 [(0, .ref (ra G 6 0))] := hl
  rw [A_X5_init] at h
  have hns : n ≤ n := Nat.le_refl n
  refine lv_aload_n hx hb dX5_init_0 rfl (lv_at hl 0 rfl) ?_
  refine W.objInit hx hb hown (hts _ la_41) (hts _ la_1) (hts _ la_2) rfl (by rw [hml]; exact hl.1) rfl dX5_init_1 (Nat.le_of_ble_eq_true rfl) (Nat.le_of_ble_eq_true rfl) ?_
  refine W.eq (g2 := F0 m 4 ls ([])) rfl ?_
  refine lv_aload_n hx hb dX5_init_4 rfl (lv_at hl 0 rfl) ?_
  refine lv_bipush (v := 48) hx hb dX5_init_5 (by decide) ?_
  obtain ⟨z1, h⟩ := mm_if h
  obtain ⟨n2, en2, h⟩ := mm_lt h
  obtain ⟨f3, ef3, h⟩ := mm_lt h
  obtain ⟨g4, eg4, h⟩ := mm_lt h
  refine mm_nwaA 0 (ty := .int) hx hb hts hN 14 0 hns z1 (L := 48) (LN := 48) rfl rfl (fun _ => rfl) rfl rfl la_28 rfl (by decide) (by decide) (by decide) dX5_init_7 (fun H hN => ?_)
  rw [← en2, ← ef3, ← eg4] at hN
  refine W_cnt (c1 := n2 - n) (s1 := SL n2 - SL n) (by rw [en2]) (by rw [en2]) ?_
  have hn5 : n ≤ n2 := by omega
  refine W.eq (g2 := F0 m 9 ls (.ref (ra G 14 0) :: .ref (ra G 6 0) :: [])) rfl ?_
  obtain ⟨z6, h⟩ := mm_if h
  obtain ⟨g7, eg7, h⟩ := mm_lt h
  refine mm_putA (f' := f3) (g' := g7) hx hb hts hown hN 6 0 0 z6 rfl rfl iX5 tyX5 tyX5_ok nmX5 (by decide) la_42 (Or.inl hin) (Or.inl rfl) rfl rfl (Nat.le_of_ble_eq_true rfl) (fun r' i' hne => ⟨rfl, by rw [eg7]; exact upg_other _ _ _ _ _ hne⟩) (by rw [eg7, upg_self]; rfl) dX5_init_9 (fun H locs hN => ?_)
  refine lv_iconst (v := 0) hx hb dX5_init_12 (by decide) ?_
  refine lv_istore_n (lv' := [(1, .int 0), (0, .ref (ra G 6 0))]) hx hb dX5_init_13 rfl hl (by decide) rfl (fun ls hl => ?_)
  exact LA_X5_init_14 C0 hin _ hn5 h _ _ _ hN (lv_sub hl [1, 0] rfl)
set_option maxRecDepth 100000 in
def A_X0_lay (n : Nat) (f : F3) (g : G3) (i0 : Nat) (x1 : Int32) (x2 : Int32) (x3 : Int32) : Option (Nat × F3 × G3) := if okA 1 i0 n then (mm_let (up f 1 i0 3 x1) fun f2 => mm_let (up f2 1 i0 4 x2) fun f3 => mm_let (up f3 1 i0 0 x3) fun f4 => if n ≤ n + 0 then (some (n, f4, g)) else none) else none
set_option maxHeartbeats 4000000 in
set_option maxRecDepth 100000 in
theorem TA_X0_lay (G : mmG) {n : Nat} {f : F3} {g : G3} {n' : Nat} {f' : F3} {g' : G3} {i0 : Nat} {x1 : Int32} {x2 : Int32} {x3 : Int32} (h : A_X0_lay n f g i0 x1 x2 x3 = some (n', f', g')) : mmMA G yX0_lay cX0_lay 4 0 [.ref (ra G 1 i0), .int x1, .int x2, .int x3] n f g 0 n' f' g' := by
  refine mm_startA (by decide +kernel) (Nat.le_of_ble_eq_true rfl) ?_
  intro p e s m args below meth c ls C0 hin hN hl
  obtain ⟨hx, hb, hml, hr, hown, hts, hlocks⟩ := id C0
  have hl : lv_has ls 4 [(0, .ref (ra G 1 i0)), (1, .int x1), (2, .int x2), (3, .int x3)] := hl
  rw [A_X0_lay] at h
  have hns : n ≤ n := Nat.le_refl n
  refine lv_aload_n hx hb dX0_lay_0 rfl (lv_at hl 0 rfl) ?_
  refine lv_iload_n hx hb dX0_lay_1 rfl (lv_at hl 1 rfl) ?_
  obtain ⟨z1, h⟩ := mm_if h
  obtain ⟨f2, ef2, h⟩ := mm_lt h
  refine mm_putA (f' := f2) (g' := g) hx hb hts hown hN 1 i0 3 z1 rfl rfl iX0 tyX0 tyX0_ok nmX0 (by decide) la_6 (Or.inr rfl) (Or.inr rfl) rfl rfl (Nat.le_of_ble_eq_true rfl) (fun r' i' hne => ⟨by rw [ef2]; exact up_other _ _ _ _ _ hne, rfl⟩) (by rw [ef2, up_self]; rfl) dX0_lay_2 (fun H locs hN => ?_)
  refine lv_aload_n hx hb dX0_lay_5 rfl (lv_at hl 0 rfl) ?_
  refine lv_iload_n hx hb dX0_lay_6 rfl (lv_at hl 2 rfl) ?_
  obtain ⟨f3, ef3, h⟩ := mm_lt h
  refine mm_putA (f' := f3) (g' := g) hx hb hts hown hN 1 i0 4 z1 rfl rfl iX0 tyX0 tyX0_ok nmX0 (by decide) la_7 (Or.inr rfl) (Or.inr rfl) rfl rfl (Nat.le_of_ble_eq_true rfl) (fun r' i' hne => ⟨by rw [ef3]; exact up_other _ _ _ _ _ hne, rfl⟩) (by rw [ef3, up_self]; rfl) dX0_lay_7 (fun H locs hN => ?_)
  refine lv_aload_n hx hb dX0_lay_10 rfl (lv_at hl 0 rfl) ?_
  refine lv_iload_n hx hb dX0_lay_11 rfl (lv_at hl 3 rfl) ?_
  obtain ⟨f4, ef4, h⟩ := mm_lt h
  refine mm_putA (f' := f4) (g' := g) hx hb hts hown hN 1 i0 0 z1 rfl rfl iX0 tyX0 tyX0_ok nmX0 (by decide) la_3 (Or.inr rfl) (Or.inr rfl) rfl rfl (Nat.le_of_ble_eq_true rfl) (fun r' i' hne => ⟨by rw [ef4]; exact up_other _ _ _ _ _ hne, rfl⟩) (by rw [ef4, up_self]; rfl) dX0_lay_12 (fun H locs hN => ?_)
  obtain ⟨z5, h⟩ := mm_if h
  obtain ⟨rfl, rfl, rfl⟩ := mm_p3 h
  exact mm_vretA C0 hN ⟨hns, z5⟩ dX0_lay_15
def A_X6_init_200 (ns : Nat) : Nat → Nat → F3 → G3 → Int32 → Option (Nat × F3 × G3)
  | 0, _, _, _, _ => none
  | k + 1, n, f, g, x1 => if 10 ≤ x1 then (if okA 0 0 n then (if g 0 0 0 = (7, 0) then (if okA 7 0 n then (if g 7 0 0 = (1, 0) then (if okA 1 0 n then (mm_b3 (A_X0_lay n f g 0 20 1 0) fun n140 f141 g142 => if n140 = n + 0 ∧ n + 0 ≤ ns + 87 then (if okA 0 0 n140 then (if g142 0 0 0 = (7, 0) then (if okA 7 0 n140 then (if g142 7 0 1 = (1, 1) then (if okA 1 1 n140 then (mm_b3 (A_X0_lay n140 f141 g142 1 20 1 0) fun n150 f151 g152 => if n150 = n140 + 0 ∧ n140 + 0 ≤ ns + 87 then (if okA 0 0 n150 then (mm_let (up f151 0 0 12 2) fun f157 => if n150 ≤ ns + 87 then (some (n150, f157, g152)) else none) else none) else none) else none) else none) else none) else none) else none) else none) else none) else none) else none) else none) else none) else (if okA 0 0 n then (if g 0 0 3 = (10, 0) then (if n < ns + 87 ∧ n < mm_NT ∧ mm_loc n = (3, x1.toNatClampNeg) then (mm_let (n + 1) fun n162 => mm_let (zf f 3 x1.toNatClampNeg) fun f163 => mm_let (zg g 3 x1.toNatClampNeg) fun g164 => mm_b3 (A_X2_init n162 f163 g164 x1.toNatClampNeg) fun n166 f167 g168 => if n166 = n162 + 3 ∧ n162 + 3 ≤ ns + 87 then (if okA 10 0 n166 then (if okA 3 x1.toNatClampNeg n166 then (if okI x1 10 then (mm_let (upg g168 10 0 x1.toNatClampNeg (3, x1.toNatClampNeg)) fun g174 => A_X6_init_200 ns k n166 f167 g174 (x1 + 1)) else none) else none) else none) else none) else none) else none) else none)
set_option maxHeartbeats 4000000 in
set_option maxRecDepth 100000 in
theorem LA_X6_init_200 {G : mmG} {p : Program} {e : Env} {s : State} {m : MethodId} {args : Array Value} {below : List Frame} {meth : Method} {c : Code} {n' ns : Nat} {f' : F3} {g' : G3} (C0 : mmC yX6_init cX6_init 2 none p s m args meth c) (hin : meth.name = "<init>") : ∀ (k : Nat) {n : Nat} {f : F3} {g : G3} {x1 : Int32} (hns : ns ≤ n), A_X6_init_200 ns k n f g x1 = some (n', f', g') → ∀ (H : Heap) (locs : List Loc) (ls : Array Slot), mm_N G n f g s H locs → lv_has ls 2 [(0, .ref (ra G 0 0)), (1, .int x1)] → W p G.1 e (mm_rA 3 87 ns) s m args below meth c H locs (n - ns) (SL n - SL ns) (MQ below (mm_QA G n' f' g') args s 87 (SL (ns + 87) - SL ns) (mm_A G)) (F0 m 200 ls []) := by
  obtain ⟨hx, hb, hml, hr, hown, hts, hlocks⟩ := id C0
  intro k
  induction k with
  | zero =>
    intro n f g x1 hns h H locs ls hN hl
    cases h
  | succ k ih =>
    intro n f g x1 hns h H locs ls hN hl
    rw [A_X6_init_200] at h
    refine lv_iload_n hx hb dX6_init_200 rfl (lv_at hl 1 rfl) ?_
    refine lv_bipush (v := 10) hx hb dX6_init_201 (by decide) ?_
    refine lv_icmp_ge (tgt := 225) hx hb dX6_init_203 (by decide) (fun c135 => ?_) (fun c135 => ?_)
    · rw [if_pos c135] at h
      refine lv_aload_n hx hb dX6_init_225 rfl (lv_at hl 0 rfl) ?_
      obtain ⟨z136, h⟩ := mm_if h
      obtain ⟨z137, h⟩ := mm_if h
      refine mm_get hx hb hts hown hN.1 0 0 0 (okA_v z136).1 (v := .ref (ra G 7 0)) rfl rfl iX6 (by decide) la_45 (by show some (va_rf (mm_ro G (g 0 0 0))) = _; rw [z137]; rfl) dX6_init_226 ?_
      refine lv_iconst (v := 0) hx hb dX6_init_229 (by decide) ?_
      obtain ⟨z138, h⟩ := mm_if h
      obtain ⟨z139, h⟩ := mm_if h
      refine mm_aldA hx hb hN 7 0 2 z138 (L := 10) (C := "IceRoad$Cell") (r2 := 1) (i2 := 0) rfl rfl (okI_in (by decide +kernel)) z139 (by decide) dX6_init_230 ?_
      refine lv_bipush (v := 20) hx hb dX6_init_231 (by decide) ?_
      refine lv_iconst (v := 1) hx hb dX6_init_233 (by decide) ?_
      refine lv_iconst (v := 0) hx hb dX6_init_234 (by decide) ?_
      obtain ⟨z143, h⟩ := mm_if h
      obtain ⟨n140, f141, g142, en140, h⟩ := mm_b3e h
      obtain ⟨z144, h⟩ := mm_if h
      refine mm_callVA (d0 := 0) (mc0 := 0) (rest := []) [.int 20, .int 1, .int 0] C0 rfl hN 1 0 z143 (TA_X0_lay G en140) ws_X0_lay la_75 hd_X0_lay ⟨by decide, by decide⟩ hns z144 rfl rfl rfl hl.1 rfl (Nat.le_of_ble_eq_true rfl) dX6_init_235 (fun H locs hN => ?_)
      have hn145 : ns ≤ n140 := by omega
      refine W.eq (g2 := F0 m 238 ls ([])) rfl ?_
      refine lv_aload_n hx hb dX6_init_238 rfl (lv_at hl 0 rfl) ?_
      obtain ⟨z146, h⟩ := mm_if h
      obtain ⟨z147, h⟩ := mm_if h
      refine mm_get hx hb hts hown hN.1 0 0 0 (okA_v z146).1 (v := .ref (ra G 7 0)) rfl rfl iX6 (by decide) la_45 (by show some (va_rf (mm_ro G (g142 0 0 0))) = _; rw [z147]; rfl) dX6_init_239 ?_
      refine lv_iconst (v := 1) hx hb dX6_init_242 (by decide) ?_
      obtain ⟨z148, h⟩ := mm_if h
      obtain ⟨z149, h⟩ := mm_if h
      refine mm_aldA hx hb hN 7 0 2 z148 (L := 10) (C := "IceRoad$Cell") (r2 := 1) (i2 := 1) rfl rfl (okI_in (by decide +kernel)) z149 (by decide) dX6_init_243 ?_
      refine lv_bipush (v := 20) hx hb dX6_init_244 (by decide) ?_
      refine lv_iconst (v := 1) hx hb dX6_init_246 (by decide) ?_
      refine lv_iconst (v := 0) hx hb dX6_init_247 (by decide) ?_
      obtain ⟨z153, h⟩ := mm_if h
      obtain ⟨n150, f151, g152, en150, h⟩ := mm_b3e h
      obtain ⟨z154, h⟩ := mm_if h
      refine mm_callVA (d0 := 0) (mc0 := 0) (rest := []) [.int 20, .int 1, .int 0] C0 rfl hN 1 1 z153 (TA_X0_lay G en150) ws_X0_lay la_75 hd_X0_lay ⟨by decide, by decide⟩ hn145 z154 rfl rfl rfl hl.1 rfl (Nat.le_of_ble_eq_true rfl) dX6_init_248 (fun H locs hN => ?_)
      have hn155 : ns ≤ n150 := by omega
      refine W.eq (g2 := F0 m 251 ls ([])) rfl ?_
      refine lv_aload_n hx hb dX6_init_251 rfl (lv_at hl 0 rfl) ?_
      refine lv_iconst (v := 2) hx hb dX6_init_252 (by decide) ?_
      obtain ⟨z156, h⟩ := mm_if h
      obtain ⟨f157, ef157, h⟩ := mm_lt h
      refine mm_putA (f' := f157) (g' := g152) hx hb hts hown hN 0 0 12 z156 rfl rfl iX6 tyX6 tyX6_ok nmX6 (by decide) la_69 (Or.inr rfl) (Or.inr rfl) rfl rfl (Nat.le_of_ble_eq_true rfl) (fun r' i' hne => ⟨by rw [ef157]; exact up_other _ _ _ _ _ hne, rfl⟩) (by rw [ef157, up_self]; rfl) dX6_init_253 (fun H locs hN => ?_)
      obtain ⟨z158, h⟩ := mm_if h
      obtain ⟨rfl, rfl, rfl⟩ := mm_p3 h
      exact mm_vretA C0 hN ⟨hn155, z158⟩ dX6_init_256
    · rw [if_neg c135] at h
      refine lv_aload_n hx hb dX6_init_206 rfl (lv_at hl 0 rfl) ?_
      obtain ⟨z159, h⟩ := mm_if h
      obtain ⟨z160, h⟩ := mm_if h
      refine mm_get hx hb hts hown hN.1 0 0 3 (okA_v z159).1 (v := .ref (ra G 10 0)) rfl rfl iX6 (by decide) la_50 (by show some (va_rf (mm_ro G (g 0 0 3))) = _; rw [z160]; rfl) dX6_init_207 ?_
      refine lv_iload_n hx hb dX6_init_210 rfl (lv_at hl 1 rfl) ?_
      obtain ⟨z161, h⟩ := mm_if h
      obtain ⟨n162, en162, h⟩ := mm_lt h
      obtain ⟨f163, ef163, h⟩ := mm_lt h
      obtain ⟨g164, eg164, h⟩ := mm_lt h
      refine mm_newA hx hb hts hown hN 3 x1.toNatClampNeg hns z161 rfl rfl iX2 tyX2 tyX2_ok la_49 la_76 la_77 rfl df_X2 dX6_init_211 (fun H hN => ?_)
      rw [← en162, ← ef163, ← eg164] at hN
      refine W_cnt (c1 := n162 - ns) (s1 := SL n162 - SL ns) (by rw [en162]) (by rw [en162]) ?_
      have hn165 : ns ≤ n162 := by omega
      refine W.eq (g2 := F0 m 214 ls (.ref (ra G 3 x1.toNatClampNeg) :: .int x1 :: .ref (ra G 10 0) :: [])) rfl ?_
      refine lv_dup hx hb dX6_init_214 rfl ?_
      obtain ⟨n166, f167, g168, en166, h⟩ := mm_b3e h
      obtain ⟨z169, h⟩ := mm_if h
      refine mm_callIN (host := "IceRoad") (d0 := 1) (mc0 := 3) (rest := [.ref (ra G 3 x1.toNatClampNeg), .int x1, .ref (ra G 10 0)]) [] C0 rfl hN (TA_X2_init G en166) wi_X2_init hN.2.2.2.2.2.2.1 rfl hdA_X2_init ⟨by decide, by decide⟩ hn165 z169 hl.1 rfl (Nat.le_of_ble_eq_true rfl) dX6_init_215 (fun H locs hN => ?_)
      have hn170 : ns ≤ n166 := by omega
      refine W.eq (g2 := F0 m 218 ls (.ref (ra G 3 x1.toNatClampNeg) :: .int x1 :: .ref (ra G 10 0) :: [])) rfl ?_
      obtain ⟨z171, h⟩ := mm_if h
      obtain ⟨z172, h⟩ := mm_if h
      obtain ⟨z173, h⟩ := mm_if h
      obtain ⟨g174, eg174, h⟩ := mm_lt h
      refine mm_astA hx hb hN 10 0 4 z171 (L := 10) (fun _ => rfl) 3 x1.toNatClampNeg z172 (by decide) rfl rfl rfl (j := x1) (okI_in z173) dX6_init_218 (fun H locs hN => ?_)
      rw [← eg174] at hN
      refine lv_iinc (v := x1 + 1) (lv' := [(1, .int (x1 + 1)), (0, .ref (ra G 0 0))]) hx hb dX6_init_219 hl (k := 1) rfl rfl (by decide) rfl (fun ls hl => ?_)
      refine lv_goto (tgt := 200) hx hb dX6_init_222 (by decide) ?_
      exact ih hn170 h _ _ _ hN (lv_sub hl [1, 0] rfl)
def A_X6_init_161 (ns : Nat) : Nat → Nat → F3 → G3 → Int32 → Option (Nat × F3 × G3)
  | 0, _, _, _, _ => none
  | k + 1, n, f, g, x1 => if 24 ≤ x1 then (A_X6_init_200 ns 600 n f g 0) else (if okA 0 0 n then (if g 0 0 1 = (8, 0) then (if n < ns + 87 ∧ n < mm_NT ∧ mm_loc n = (2, x1.toNatClampNeg) then (mm_let (n + 1) fun n116 => mm_let (zf f 2 x1.toNatClampNeg) fun f117 => mm_let (zg g 2 x1.toNatClampNeg) fun g118 => mm_b3 (A_X1_init n116 f117 g118 x1.toNatClampNeg) fun n120 f121 g122 => if n120 = n116 + 0 ∧ n116 + 0 ≤ ns + 87 then (if okA 8 0 n120 then (if okA 2 x1.toNatClampNeg n120 then (if okI x1 24 then (mm_let (upg g122 8 0 x1.toNatClampNeg (2, x1.toNatClampNeg)) fun g128 => if okA 0 0 n120 then (if g128 0 0 2 = (9, 0) then (if g128 0 0 1 = (8, 0) then (if g128 8 0 x1.toNatClampNeg = (2, x1.toNatClampNeg) then (if okA 9 0 n120 then (mm_let (upg g128 9 0 x1.toNatClampNeg (2, x1.toNatClampNeg)) fun g134 => A_X6_init_161 ns k n120 f121 g134 (x1 + 1)) else none) else none) else none) else none) else none) else none) else none) else none) else none) else none) else none) else none)
set_option maxHeartbeats 4000000 in
set_option maxRecDepth 100000 in
theorem LA_X6_init_161 {G : mmG} {p : Program} {e : Env} {s : State} {m : MethodId} {args : Array Value} {below : List Frame} {meth : Method} {c : Code} {n' ns : Nat} {f' : F3} {g' : G3} (C0 : mmC yX6_init cX6_init 2 none p s m args meth c) (hin : meth.name = "<init>") : ∀ (k : Nat) {n : Nat} {f : F3} {g : G3} {x1 : Int32} (hns : ns ≤ n), A_X6_init_161 ns k n f g x1 = some (n', f', g') → ∀ (H : Heap) (locs : List Loc) (ls : Array Slot), mm_N G n f g s H locs → lv_has ls 2 [(0, .ref (ra G 0 0)), (1, .int x1)] → W p G.1 e (mm_rA 3 87 ns) s m args below meth c H locs (n - ns) (SL n - SL ns) (MQ below (mm_QA G n' f' g') args s 87 (SL (ns + 87) - SL ns) (mm_A G)) (F0 m 161 ls []) := by
  obtain ⟨hx, hb, hml, hr, hown, hts, hlocks⟩ := id C0
  intro k
  induction k with
  | zero =>
    intro n f g x1 hns h H locs ls hN hl
    cases h
  | succ k ih =>
    intro n f g x1 hns h H locs ls hN hl
    rw [A_X6_init_161] at h
    refine lv_iload_n hx hb dX6_init_161 rfl (lv_at hl 1 rfl) ?_
    refine lv_bipush (v := 24) hx hb dX6_init_162 (by decide) ?_
    refine lv_icmp_ge (tgt := 198) hx hb dX6_init_164 (by decide) (fun c112 => ?_) (fun c112 => ?_)
    · rw [if_pos c112] at h
      refine lv_iconst (v := 0) hx hb dX6_init_198 (by decide) ?_
      refine lv_istore_n (lv' := [(1, .int 0), (0, .ref (ra G 0 0))]) hx hb dX6_init_199 rfl hl (by decide) rfl (fun ls hl => ?_)
      exact LA_X6_init_200 C0 hin _ hns h _ _ _ hN (lv_sub hl [1, 0] rfl)
    · rw [if_neg c112] at h
      refine lv_aload_n hx hb dX6_init_167 rfl (lv_at hl 0 rfl) ?_
      obtain ⟨z113, h⟩ := mm_if h
      obtain ⟨z114, h⟩ := mm_if h
      refine mm_get hx hb hts hown hN.1 0 0 1 (okA_v z113).1 (v := .ref (ra G 8 0)) rfl rfl iX6 (by decide) la_47 (by show some (va_rf (mm_ro G (g 0 0 1))) = _; rw [z114]; rfl) dX6_init_168 ?_
      refine lv_iload_n hx hb dX6_init_171 rfl (lv_at hl 1 rfl) ?_
      obtain ⟨z115, h⟩ := mm_if h
      obtain ⟨n116, en116, h⟩ := mm_lt h
      obtain ⟨f117, ef117, h⟩ := mm_lt h
      obtain ⟨g118, eg118, h⟩ := mm_lt h
      refine mm_newA hx hb hts hown hN 2 x1.toNatClampNeg hns z115 rfl rfl iX1 tyX1 tyX1_ok la_46 la_73 la_74 rfl df_X1 dX6_init_172 (fun H hN => ?_)
      rw [← en116, ← ef117, ← eg118] at hN
      refine W_cnt (c1 := n116 - ns) (s1 := SL n116 - SL ns) (by rw [en116]) (by rw [en116]) ?_
      have hn119 : ns ≤ n116 := by omega
      refine W.eq (g2 := F0 m 175 ls (.ref (ra G 2 x1.toNatClampNeg) :: .int x1 :: .ref (ra G 8 0) :: [])) rfl ?_
      refine lv_dup hx hb dX6_init_175 rfl ?_
      obtain ⟨n120, f121, g122, en120, h⟩ := mm_b3e h
      obtain ⟨z123, h⟩ := mm_if h
      refine mm_callIN (host := "IceRoad") (d0 := 1) (mc0 := 0) (rest := [.ref (ra G 2 x1.toNatClampNeg), .int x1, .ref (ra G 8 0)]) [] C0 rfl hN (TA_X1_init G en120) wi_X1_init hN.2.2.2.2.2.1 rfl hdA_X1_init ⟨by decide, by decide⟩ hn119 z123 hl.1 rfl (Nat.le_of_ble_eq_true rfl) dX6_init_176 (fun H locs hN => ?_)
      have hn124 : ns ≤ n120 := by omega
      refine W.eq (g2 := F0 m 179 ls (.ref (ra G 2 x1.toNatClampNeg) :: .int x1 :: .ref (ra G 8 0) :: [])) rfl ?_
      obtain ⟨z125, h⟩ := mm_if h
      obtain ⟨z126, h⟩ := mm_if h
      obtain ⟨z127, h⟩ := mm_if h
      obtain ⟨g128, eg128, h⟩ := mm_lt h
      refine mm_astA hx hb hN 8 0 3 z125 (L := 24) (fun _ => rfl) 2 x1.toNatClampNeg z126 (by decide) rfl rfl rfl (j := x1) (okI_in z127) dX6_init_179 (fun H locs hN => ?_)
      rw [← eg128] at hN
      refine lv_aload_n hx hb dX6_init_180 rfl (lv_at hl 0 rfl) ?_
      obtain ⟨z129, h⟩ := mm_if h
      obtain ⟨z130, h⟩ := mm_if h
      refine mm_get hx hb hts hown hN.1 0 0 2 (okA_v z129).1 (v := .ref (ra G 9 0)) rfl rfl iX6 (by decide) la_48 (by show some (va_rf (mm_ro G (g128 0 0 2))) = _; rw [z130]; rfl) dX6_init_181 ?_
      refine lv_iload_n hx hb dX6_init_184 rfl (lv_at hl 1 rfl) ?_
      refine lv_aload_n hx hb dX6_init_185 rfl (lv_at hl 0 rfl) ?_
      obtain ⟨z131, h⟩ := mm_if h
      refine mm_get hx hb hts hown hN.1 0 0 1 (okA_v z129).1 (v := .ref (ra G 8 0)) rfl rfl iX6 (by decide) la_47 (by show some (va_rf (mm_ro G (g128 0 0 1))) = _; rw [z131]; rfl) dX6_init_186 ?_
      refine lv_iload_n hx hb dX6_init_189 rfl (lv_at hl 1 rfl) ?_
      obtain ⟨z132, h⟩ := mm_if h
      refine mm_aldA hx hb hN 8 0 3 z125 (L := 24) (C := "IceRoad$Load") (r2 := 2) (i2 := x1.toNatClampNeg) rfl rfl (okI_in z127) z132 (by decide) dX6_init_190 ?_
      obtain ⟨z133, h⟩ := mm_if h
      obtain ⟨g134, eg134, h⟩ := mm_lt h
      refine mm_astA hx hb hN 9 0 3 z133 (L := 24) (fun _ => rfl) 2 x1.toNatClampNeg z126 (by decide) rfl rfl rfl (j := x1) (okI_in z127) dX6_init_191 (fun H locs hN => ?_)
      rw [← eg134] at hN
      refine lv_iinc (v := x1 + 1) (lv' := [(1, .int (x1 + 1)), (0, .ref (ra G 0 0))]) hx hb dX6_init_192 hl (k := 1) rfl rfl (by decide) rfl (fun ls hl => ?_)
      refine lv_goto (tgt := 161) hx hb dX6_init_195 (by decide) ?_
      exact ih hn124 h _ _ _ hN (lv_sub hl [1, 0] rfl)
def A_X6_init_134 (ns : Nat) : Nat → Nat → F3 → G3 → Int32 → Option (Nat × F3 × G3)
  | 0, _, _, _, _ => none
  | k + 1, n, f, g, x1 => if 10 ≤ x1 then (A_X6_init_161 ns 600 n f g 0) else (if okA 0 0 n then (if g 0 0 0 = (7, 0) then (if n < ns + 87 ∧ n < mm_NT ∧ mm_loc n = (1, x1.toNatClampNeg) then (mm_let (n + 1) fun n99 => mm_let (zf f 1 x1.toNatClampNeg) fun f100 => mm_let (zg g 1 x1.toNatClampNeg) fun g101 => mm_b3 (A_X0_init n99 f100 g101 x1.toNatClampNeg) fun n103 f104 g105 => if n103 = n99 + 0 ∧ n99 + 0 ≤ ns + 87 then (if okA 7 0 n103 then (if okA 1 x1.toNatClampNeg n103 then (if okI x1 10 then (mm_let (upg g105 7 0 x1.toNatClampNeg (1, x1.toNatClampNeg)) fun g111 => A_X6_init_134 ns k n103 f104 g111 (x1 + 1)) else none) else none) else none) else none) else none) else none) else none)
set_option maxHeartbeats 4000000 in
set_option maxRecDepth 100000 in
theorem LA_X6_init_134 {G : mmG} {p : Program} {e : Env} {s : State} {m : MethodId} {args : Array Value} {below : List Frame} {meth : Method} {c : Code} {n' ns : Nat} {f' : F3} {g' : G3} (C0 : mmC yX6_init cX6_init 2 none p s m args meth c) (hin : meth.name = "<init>") : ∀ (k : Nat) {n : Nat} {f : F3} {g : G3} {x1 : Int32} (hns : ns ≤ n), A_X6_init_134 ns k n f g x1 = some (n', f', g') → ∀ (H : Heap) (locs : List Loc) (ls : Array Slot), mm_N G n f g s H locs → lv_has ls 2 [(0, .ref (ra G 0 0)), (1, .int x1)] → W p G.1 e (mm_rA 3 87 ns) s m args below meth c H locs (n - ns) (SL n - SL ns) (MQ below (mm_QA G n' f' g') args s 87 (SL (ns + 87) - SL ns) (mm_A G)) (F0 m 134 ls []) := by
  obtain ⟨hx, hb, hml, hr, hown, hts, hlocks⟩ := id C0
  intro k
  induction k with
  | zero =>
    intro n f g x1 hns h H locs ls hN hl
    cases h
  | succ k ih =>
    intro n f g x1 hns h H locs ls hN hl
    rw [A_X6_init_134] at h
    refine lv_iload_n hx hb dX6_init_134 rfl (lv_at hl 1 rfl) ?_
    refine lv_bipush (v := 10) hx hb dX6_init_135 (by decide) ?_
    refine lv_icmp_ge (tgt := 159) hx hb dX6_init_137 (by decide) (fun c95 => ?_) (fun c95 => ?_)
    · rw [if_pos c95] at h
      refine lv_iconst (v := 0) hx hb dX6_init_159 (by decide) ?_
      refine lv_istore_n (lv' := [(1, .int 0), (0, .ref (ra G 0 0))]) hx hb dX6_init_160 rfl hl (by decide) rfl (fun ls hl => ?_)
      exact LA_X6_init_161 C0 hin _ hns h _ _ _ hN (lv_sub hl [1, 0] rfl)
    · rw [if_neg c95] at h
      refine lv_aload_n hx hb dX6_init_140 rfl (lv_at hl 0 rfl) ?_
      obtain ⟨z96, h⟩ := mm_if h
      obtain ⟨z97, h⟩ := mm_if h
      refine mm_get hx hb hts hown hN.1 0 0 0 (okA_v z96).1 (v := .ref (ra G 7 0)) rfl rfl iX6 (by decide) la_45 (by show some (va_rf (mm_ro G (g 0 0 0))) = _; rw [z97]; rfl) dX6_init_141 ?_
      refine lv_iload_n hx hb dX6_init_144 rfl (lv_at hl 1 rfl) ?_
      obtain ⟨z98, h⟩ := mm_if h
      obtain ⟨n99, en99, h⟩ := mm_lt h
      obtain ⟨f100, ef100, h⟩ := mm_lt h
      obtain ⟨g101, eg101, h⟩ := mm_lt h
      refine mm_newA hx hb hts hown hN 1 x1.toNatClampNeg hns z98 rfl rfl iX0 tyX0 tyX0_ok la_44 la_65 la_66 rfl df_X0 dX6_init_145 (fun H hN => ?_)
      rw [← en99, ← ef100, ← eg101] at hN
      refine W_cnt (c1 := n99 - ns) (s1 := SL n99 - SL ns) (by rw [en99]) (by rw [en99]) ?_
      have hn102 : ns ≤ n99 := by omega
      refine W.eq (g2 := F0 m 148 ls (.ref (ra G 1 x1.toNatClampNeg) :: .int x1 :: .ref (ra G 7 0) :: [])) rfl ?_
      refine lv_dup hx hb dX6_init_148 rfl ?_
      obtain ⟨n103, f104, g105, en103, h⟩ := mm_b3e h
      obtain ⟨z106, h⟩ := mm_if h
      refine mm_callIN (host := "IceRoad") (d0 := 1) (mc0 := 0) (rest := [.ref (ra G 1 x1.toNatClampNeg), .int x1, .ref (ra G 7 0)]) [] C0 rfl hN (TA_X0_init G en103) wi_X0_init hN.2.2.2.2.1 rfl hdA_X0_init ⟨by decide, by decide⟩ hn102 z106 hl.1 rfl (Nat.le_of_ble_eq_true rfl) dX6_init_149 (fun H locs hN => ?_)
      have hn107 : ns ≤ n103 := by omega
      refine W.eq (g2 := F0 m 152 ls (.ref (ra G 1 x1.toNatClampNeg) :: .int x1 :: .ref (ra G 7 0) :: [])) rfl ?_
      obtain ⟨z108, h⟩ := mm_if h
      obtain ⟨z109, h⟩ := mm_if h
      obtain ⟨z110, h⟩ := mm_if h
      obtain ⟨g111, eg111, h⟩ := mm_lt h
      refine mm_astA hx hb hN 7 0 2 z108 (L := 10) (fun _ => rfl) 1 x1.toNatClampNeg z109 (by decide) rfl rfl rfl (j := x1) (okI_in z110) dX6_init_152 (fun H locs hN => ?_)
      rw [← eg111] at hN
      refine lv_iinc (v := x1 + 1) (lv' := [(1, .int (x1 + 1)), (0, .ref (ra G 0 0))]) hx hb dX6_init_153 hl (k := 1) rfl rfl (by decide) rfl (fun ls hl => ?_)
      refine lv_goto (tgt := 134) hx hb dX6_init_156 (by decide) ?_
      exact ih hn107 h _ _ _ hN (lv_sub hl [1, 0] rfl)
set_option maxRecDepth 100000 in
def A_X6_init (n : Nat) (f : F3) (g : G3)  : Option (Nat × F3 × G3) := if n < n + 87 ∧ n < mm_NT ∧ mm_loc n = (7, 0) then (mm_let (n + 1) fun n2 => mm_let (zf f 7 0) fun f3 => mm_let (zg g 7 0) fun g4 => if okA 0 0 n2 then (mm_let (upg g4 0 0 0 (7, 0)) fun g7 => if n2 < n + 87 ∧ n2 < mm_NT ∧ mm_loc n2 = (8, 0) then (mm_let (n2 + 1) fun n9 => mm_let (zf f3 8 0) fun f10 => mm_let (zg g7 8 0) fun g11 => if okA 0 0 n9 then (mm_let (upg g11 0 0 1 (8, 0)) fun g14 => if n9 < n + 87 ∧ n9 < mm_NT ∧ mm_loc n9 = (9, 0) then (mm_let (n9 + 1) fun n16 => mm_let (zf f10 9 0) fun f17 => mm_let (zg g14 9 0) fun g18 => if okA 0 0 n16 then (mm_let (upg g18 0 0 2 (9, 0)) fun g21 => if n16 < n + 87 ∧ n16 < mm_NT ∧ mm_loc n16 = (10, 0) then (mm_let (n16 + 1) fun n23 => mm_let (zf f17 10 0) fun f24 => mm_let (zg g21 10 0) fun g25 => if okA 0 0 n23 then (mm_let (upg g25 0 0 3 (10, 0)) fun g28 => if n23 < n + 87 ∧ n23 < mm_NT ∧ mm_loc n23 = (6, 0) then (mm_let (n23 + 1) fun n30 => mm_let (zf f24 6 0) fun f31 => mm_let (zg g28 6 0) fun g32 => mm_b3 (A_X5_init n30 f31 g32 ) fun n34 f35 g36 => if n34 = n30 + 1 ∧ n30 + 1 ≤ n + 87 then (if okA 0 0 n34 then (mm_let (upg g36 0 0 4 (6, 0)) fun g40 => if n34 < n + 87 ∧ n34 < mm_NT ∧ mm_loc n34 = (4, 0) then (mm_let (n34 + 1) fun n42 => mm_let (zf f35 4 0) fun f43 => mm_let (zg g40 4 0) fun g44 => mm_b3 (A_X3_init n42 f43 g44 ) fun n46 f47 g48 => if n46 = n42 + 2 ∧ n42 + 2 ≤ n + 87 then (if okA 0 0 n46 then (mm_let (upg g48 0 0 5 (4, 0)) fun g52 => if g52 0 0 5 = (4, 0) then (if okA 4 0 n46 then (if g52 4 0 0 = (5, 0) then (mm_let (upg g52 0 0 6 (5, 0)) fun g56 => if n46 < n + 87 ∧ n46 < mm_NT ∧ mm_loc n46 = (11, 0) then (mm_let (n46 + 1) fun n58 => mm_let (zf f47 11 0) fun f59 => mm_let (zg g56 11 0) fun g60 => if okA 0 0 n58 then (mm_let (upg g60 0 0 7 (11, 0)) fun g63 => if n58 < n + 87 ∧ n58 < mm_NT ∧ mm_loc n58 = (12, 0) then (mm_let (n58 + 1) fun n65 => mm_let (zf f59 12 0) fun f66 => mm_let (zg g63 12 0) fun g67 => if okA 0 0 n65 then (mm_let (upg g67 0 0 8 (12, 0)) fun g70 => if n65 < n + 87 ∧ n65 < mm_NT ∧ mm_loc n65 = (13, 0) then (mm_let (n65 + 1) fun n72 => mm_let (zf f66 13 0) fun f73 => mm_let (zg g70 13 0) fun g74 => if okA 0 0 n72 then (mm_let (upg g74 0 0 9 (13, 0)) fun g77 => if n72 < n + 87 ∧ n72 < mm_NT ∧ mm_loc n72 = (1, 10) then (mm_let (n72 + 1) fun n79 => mm_let (zf f73 1 10) fun f80 => mm_let (zg g77 1 10) fun g81 => mm_b3 (A_X0_init n79 f80 g81 10) fun n83 f84 g85 => if n83 = n79 + 0 ∧ n79 + 0 ≤ n + 87 then (if okA 0 0 n83 then (mm_let (upg g85 0 0 10 (1, 10)) fun g89 => mm_let (up f84 0 0 11 0) fun f90 => mm_let (up f90 0 0 12 0) fun f91 => mm_let (up f91 0 0 13 0) fun f92 => mm_let (up f92 0 0 14 0) fun f93 => mm_let (up f93 0 0 15 0) fun f94 => A_X6_init_134 n 600 n83 f94 g89 0) else none) else none) else none) else none) else none) else none) else none) else none) else none) else none) else none) else none) else none) else none) else none) else none) else none) else none) else none) else none) else none) else none) else none) else none) else none) else none
set_option maxHeartbeats 4000000 in
set_option maxRecDepth 100000 in
theorem TA_X6_init (G : mmG) {n : Nat} {f : F3} {g : G3} {n' : Nat} {f' : F3} {g' : G3}  (h : A_X6_init n f g  = some (n', f', g')) : mmMA G yX6_init cX6_init 2 3 [.ref (ra G 0 0)] n f g 87 n' f' g' := by
  refine mm_startA (by decide +kernel) (Nat.le_of_ble_eq_true rfl) ?_
  intro p e s m args below meth c ls C0 hin hN hl
  obtain ⟨hx, hb, hml, hr, hown, hts, hlocks⟩ := id C0
  have hl : lv_has ls 2 [(0, .ref (ra G 0 0))] := hl
  rw [A_X6_init] at h
  have hns : n ≤ n := Nat.le_refl n
  refine lv_aload_n hx hb dX6_init_0 rfl (lv_at hl 0 rfl) ?_
  refine W.objInit hx hb hown (hts _ la_43) (hts _ la_1) (hts _ la_2) rfl (by rw [hml]; exact hl.1) rfl dX6_init_1 (Nat.le_of_ble_eq_true rfl) (Nat.le_of_ble_eq_true rfl) ?_
  refine W.eq (g2 := F0 m 4 ls ([])) rfl ?_
  refine lv_aload_n hx hb dX6_init_4 rfl (lv_at hl 0 rfl) ?_
  refine lv_bipush (v := 10) hx hb dX6_init_5 (by decide) ?_
  obtain ⟨z1, h⟩ := mm_if h
  obtain ⟨n2, en2, h⟩ := mm_lt h
  obtain ⟨f3, ef3, h⟩ := mm_lt h
  obtain ⟨g4, eg4, h⟩ := mm_lt h
  refine mm_nwqA 2 hx hb hts hown hN 7 0 hns z1 (L := 10) (LN := 10) rfl rfl hN.2.2.1.1 la_44 rfl (by decide) (by decide) (by decide) dX6_init_7 (fun H hN => ?_)
  rw [← en2, ← ef3, ← eg4] at hN
  refine W_cnt (c1 := n2 - n) (s1 := SL n2 - SL n) (by rw [en2]) (by rw [en2]) ?_
  have hn5 : n ≤ n2 := by omega
  refine W.eq (g2 := F0 m 10 ls (.ref (ra G 7 0) :: .ref (ra G 0 0) :: [])) rfl ?_
  obtain ⟨z6, h⟩ := mm_if h
  obtain ⟨g7, eg7, h⟩ := mm_lt h
  refine mm_putA (f' := f3) (g' := g7) hx hb hts hown hN 0 0 0 z6 rfl rfl iX6 tyX6 tyX6_ok nmX6 (by decide) la_45 (Or.inl hin) (Or.inl rfl) rfl rfl (Nat.le_of_ble_eq_true rfl) (fun r' i' hne => ⟨rfl, by rw [eg7]; exact upg_other _ _ _ _ _ hne⟩) (by rw [eg7, upg_self]; rfl) dX6_init_10 (fun H locs hN => ?_)
  refine lv_aload_n hx hb dX6_init_13 rfl (lv_at hl 0 rfl) ?_
  refine lv_bipush (v := 24) hx hb dX6_init_14 (by decide) ?_
  obtain ⟨z8, h⟩ := mm_if h
  obtain ⟨n9, en9, h⟩ := mm_lt h
  obtain ⟨f10, ef10, h⟩ := mm_lt h
  obtain ⟨g11, eg11, h⟩ := mm_lt h
  refine mm_nwqA 3 hx hb hts hown hN 8 0 hn5 z8 (L := 24) (LN := 24) rfl rfl hN.2.2.1.2.1 la_46 rfl (by decide) (by decide) (by decide) dX6_init_16 (fun H hN => ?_)
  rw [← en9, ← ef10, ← eg11] at hN
  refine W_cnt (c1 := n9 - n) (s1 := SL n9 - SL n) (by rw [en9]) (by rw [en9]) ?_
  have hn12 : n ≤ n9 := by omega
  refine W.eq (g2 := F0 m 19 ls (.ref (ra G 8 0) :: .ref (ra G 0 0) :: [])) rfl ?_
  obtain ⟨z13, h⟩ := mm_if h
  obtain ⟨g14, eg14, h⟩ := mm_lt h
  refine mm_putA (f' := f10) (g' := g14) hx hb hts hown hN 0 0 1 z13 rfl rfl iX6 tyX6 tyX6_ok nmX6 (by decide) la_47 (Or.inl hin) (Or.inl rfl) rfl rfl (Nat.le_of_ble_eq_true rfl) (fun r' i' hne => ⟨rfl, by rw [eg14]; exact upg_other _ _ _ _ _ hne⟩) (by rw [eg14, upg_self]; rfl) dX6_init_19 (fun H locs hN => ?_)
  refine lv_aload_n hx hb dX6_init_22 rfl (lv_at hl 0 rfl) ?_
  refine lv_bipush (v := 24) hx hb dX6_init_23 (by decide) ?_
  obtain ⟨z15, h⟩ := mm_if h
  obtain ⟨n16, en16, h⟩ := mm_lt h
  obtain ⟨f17, ef17, h⟩ := mm_lt h
  obtain ⟨g18, eg18, h⟩ := mm_lt h
  refine mm_nwqA 3 hx hb hts hown hN 9 0 hn12 z15 (L := 24) (LN := 24) rfl rfl hN.2.2.1.2.1 la_46 rfl (by decide) (by decide) (by decide) dX6_init_25 (fun H hN => ?_)
  rw [← en16, ← ef17, ← eg18] at hN
  refine W_cnt (c1 := n16 - n) (s1 := SL n16 - SL n) (by rw [en16]) (by rw [en16]) ?_
  have hn19 : n ≤ n16 := by omega
  refine W.eq (g2 := F0 m 28 ls (.ref (ra G 9 0) :: .ref (ra G 0 0) :: [])) rfl ?_
  obtain ⟨z20, h⟩ := mm_if h
  obtain ⟨g21, eg21, h⟩ := mm_lt h
  refine mm_putA (f' := f17) (g' := g21) hx hb hts hown hN 0 0 2 z20 rfl rfl iX6 tyX6 tyX6_ok nmX6 (by decide) la_48 (Or.inl hin) (Or.inl rfl) rfl rfl (Nat.le_of_ble_eq_true rfl) (fun r' i' hne => ⟨rfl, by rw [eg21]; exact upg_other _ _ _ _ _ hne⟩) (by rw [eg21, upg_self]; rfl) dX6_init_28 (fun H locs hN => ?_)
  refine lv_aload_n hx hb dX6_init_31 rfl (lv_at hl 0 rfl) ?_
  refine lv_bipush (v := 10) hx hb dX6_init_32 (by decide) ?_
  obtain ⟨z22, h⟩ := mm_if h
  obtain ⟨n23, en23, h⟩ := mm_lt h
  obtain ⟨f24, ef24, h⟩ := mm_lt h
  obtain ⟨g25, eg25, h⟩ := mm_lt h
  refine mm_nwqA 4 hx hb hts hown hN 10 0 hn19 z22 (L := 10) (LN := 10) rfl rfl hN.2.2.1.2.2 la_49 rfl (by decide) (by decide) (by decide) dX6_init_34 (fun H hN => ?_)
  rw [← en23, ← ef24, ← eg25] at hN
  refine W_cnt (c1 := n23 - n) (s1 := SL n23 - SL n) (by rw [en23]) (by rw [en23]) ?_
  have hn26 : n ≤ n23 := by omega
  refine W.eq (g2 := F0 m 37 ls (.ref (ra G 10 0) :: .ref (ra G 0 0) :: [])) rfl ?_
  obtain ⟨z27, h⟩ := mm_if h
  obtain ⟨g28, eg28, h⟩ := mm_lt h
  refine mm_putA (f' := f24) (g' := g28) hx hb hts hown hN 0 0 3 z27 rfl rfl iX6 tyX6 tyX6_ok nmX6 (by decide) la_50 (Or.inl hin) (Or.inl rfl) rfl rfl (Nat.le_of_ble_eq_true rfl) (fun r' i' hne => ⟨rfl, by rw [eg28]; exact upg_other _ _ _ _ _ hne⟩) (by rw [eg28, upg_self]; rfl) dX6_init_37 (fun H locs hN => ?_)
  refine lv_aload_n hx hb dX6_init_40 rfl (lv_at hl 0 rfl) ?_
  obtain ⟨z29, h⟩ := mm_if h
  obtain ⟨n30, en30, h⟩ := mm_lt h
  obtain ⟨f31, ef31, h⟩ := mm_lt h
  obtain ⟨g32, eg32, h⟩ := mm_lt h
  refine mm_newA hx hb hts hown hN 6 0 hn26 z29 rfl rfl iX5 tyX5 tyX5_ok la_51 la_52 la_53 rfl df_X5 dX6_init_41 (fun H hN => ?_)
  rw [← en30, ← ef31, ← eg32] at hN
  refine W_cnt (c1 := n30 - n) (s1 := SL n30 - SL n) (by rw [en30]) (by rw [en30]) ?_
  have hn33 : n ≤ n30 := by omega
  refine W.eq (g2 := F0 m 44 ls (.ref (ra G 6 0) :: .ref (ra G 0 0) :: [])) rfl ?_
  refine lv_dup hx hb dX6_init_44 rfl ?_
  obtain ⟨n34, f35, g36, en34, h⟩ := mm_b3e h
  obtain ⟨z37, h⟩ := mm_if h
  refine mm_callI (d0 := 1) (mc0 := 1) (rest := [.ref (ra G 6 0), .ref (ra G 0 0)]) [] C0 rfl hN (TA_X5_init G en34) wi_X5_init la_54 rfl hdA_X5_init ⟨by decide, by decide⟩ hn33 z37 hl.1 rfl (Nat.le_of_ble_eq_true rfl) dX6_init_45 (fun H locs hN => ?_)
  have hn38 : n ≤ n34 := by omega
  refine W.eq (g2 := F0 m 48 ls (.ref (ra G 6 0) :: .ref (ra G 0 0) :: [])) rfl ?_
  obtain ⟨z39, h⟩ := mm_if h
  obtain ⟨g40, eg40, h⟩ := mm_lt h
  refine mm_putA (f' := f35) (g' := g40) hx hb hts hown hN 0 0 4 z39 rfl rfl iX6 tyX6 tyX6_ok nmX6 (by decide) la_55 (Or.inl hin) (Or.inl rfl) rfl rfl (Nat.le_of_ble_eq_true rfl) (fun r' i' hne => ⟨rfl, by rw [eg40]; exact upg_other _ _ _ _ _ hne⟩) (by rw [eg40, upg_self]; rfl) dX6_init_48 (fun H locs hN => ?_)
  refine lv_aload_n hx hb dX6_init_51 rfl (lv_at hl 0 rfl) ?_
  obtain ⟨z41, h⟩ := mm_if h
  obtain ⟨n42, en42, h⟩ := mm_lt h
  obtain ⟨f43, ef43, h⟩ := mm_lt h
  obtain ⟨g44, eg44, h⟩ := mm_lt h
  refine mm_newA hx hb hts hown hN 4 0 hn38 z41 rfl rfl iX3 tyX3 tyX3_ok la_56 la_57 la_58 rfl df_X3 dX6_init_52 (fun H hN => ?_)
  rw [← en42, ← ef43, ← eg44] at hN
  refine W_cnt (c1 := n42 - n) (s1 := SL n42 - SL n) (by rw [en42]) (by rw [en42]) ?_
  have hn45 : n ≤ n42 := by omega
  refine W.eq (g2 := F0 m 55 ls (.ref (ra G 4 0) :: .ref (ra G 0 0) :: [])) rfl ?_
  refine lv_dup hx hb dX6_init_55 rfl ?_
  obtain ⟨n46, f47, g48, en46, h⟩ := mm_b3e h
  obtain ⟨z49, h⟩ := mm_if h
  refine mm_callIN (host := "IceRoad") (d0 := 2) (mc0 := 2) (rest := [.ref (ra G 4 0), .ref (ra G 0 0)]) [] C0 rfl hN (TA_X3_init G en46) wi_X3_init hN.2.2.2.1 rfl hdA_X3_init ⟨by decide, by decide⟩ hn45 z49 hl.1 rfl (Nat.le_of_ble_eq_true rfl) dX6_init_56 (fun H locs hN => ?_)
  have hn50 : n ≤ n46 := by omega
  refine W.eq (g2 := F0 m 59 ls (.ref (ra G 4 0) :: .ref (ra G 0 0) :: [])) rfl ?_
  obtain ⟨z51, h⟩ := mm_if h
  obtain ⟨g52, eg52, h⟩ := mm_lt h
  refine mm_putA (f' := f47) (g' := g52) hx hb hts hown hN 0 0 5 z51 rfl rfl iX6 tyX6 tyX6_ok nmX6 (by decide) la_59 (Or.inl hin) (Or.inl rfl) rfl rfl (Nat.le_of_ble_eq_true rfl) (fun r' i' hne => ⟨rfl, by rw [eg52]; exact upg_other _ _ _ _ _ hne⟩) (by rw [eg52, upg_self]; rfl) dX6_init_59 (fun H locs hN => ?_)
  refine lv_aload_n hx hb dX6_init_62 rfl (lv_at hl 0 rfl) ?_
  refine lv_aload_n hx hb dX6_init_63 rfl (lv_at hl 0 rfl) ?_
  obtain ⟨z53, h⟩ := mm_if h
  refine mm_get hx hb hts hown hN.1 0 0 5 (okA_v z51).1 (v := .ref (ra G 4 0)) rfl rfl iX6 (by decide) la_59 (by show some (va_rf (mm_ro G (g52 0 0 5))) = _; rw [z53]; rfl) dX6_init_64 ?_
  obtain ⟨z54, h⟩ := mm_if h
  obtain ⟨z55, h⟩ := mm_if h
  refine mm_get hx hb hts hown hN.1 4 0 0 (okA_v z54).1 (v := .ref (ra G 5 0)) rfl rfl iX3 (by decide) la_60 (by show some (va_rf (mm_ro G (g52 4 0 0))) = _; rw [z55]; rfl) dX6_init_67 ?_
  obtain ⟨g56, eg56, h⟩ := mm_lt h
  refine mm_putA (f' := f47) (g' := g56) hx hb hts hown hN 0 0 6 z51 rfl rfl iX6 tyX6 tyX6_ok nmX6 (by decide) la_61 (Or.inl hin) (Or.inl rfl) rfl rfl (Nat.le_of_ble_eq_true rfl) (fun r' i' hne => ⟨rfl, by rw [eg56]; exact upg_other _ _ _ _ _ hne⟩) (by rw [eg56, upg_self]; rfl) dX6_init_70 (fun H locs hN => ?_)
  refine lv_aload_n hx hb dX6_init_73 rfl (lv_at hl 0 rfl) ?_
  refine lv_bipush (v := 48) hx hb dX6_init_74 (by decide) ?_
  obtain ⟨z57, h⟩ := mm_if h
  obtain ⟨n58, en58, h⟩ := mm_lt h
  obtain ⟨f59, ef59, h⟩ := mm_lt h
  obtain ⟨g60, eg60, h⟩ := mm_lt h
  refine mm_nwaA 0 (ty := .int) hx hb hts hN 11 0 hn50 z57 (L := 48) (LN := 48) rfl rfl (fun _ => rfl) rfl rfl la_28 rfl (by decide) (by decide) (by decide) dX6_init_76 (fun H hN => ?_)
  rw [← en58, ← ef59, ← eg60] at hN
  refine W_cnt (c1 := n58 - n) (s1 := SL n58 - SL n) (by rw [en58]) (by rw [en58]) ?_
  have hn61 : n ≤ n58 := by omega
  refine W.eq (g2 := F0 m 78 ls (.ref (ra G 11 0) :: .ref (ra G 0 0) :: [])) rfl ?_
  obtain ⟨z62, h⟩ := mm_if h
  obtain ⟨g63, eg63, h⟩ := mm_lt h
  refine mm_putA (f' := f59) (g' := g63) hx hb hts hown hN 0 0 7 z62 rfl rfl iX6 tyX6 tyX6_ok nmX6 (by decide) la_62 (Or.inl hin) (Or.inl rfl) rfl rfl (Nat.le_of_ble_eq_true rfl) (fun r' i' hne => ⟨rfl, by rw [eg63]; exact upg_other _ _ _ _ _ hne⟩) (by rw [eg63, upg_self]; rfl) dX6_init_78 (fun H locs hN => ?_)
  refine lv_aload_n hx hb dX6_init_81 rfl (lv_at hl 0 rfl) ?_
  refine lv_bipush (v := 7) hx hb dX6_init_82 (by decide) ?_
  obtain ⟨z64, h⟩ := mm_if h
  obtain ⟨n65, en65, h⟩ := mm_lt h
  obtain ⟨f66, ef66, h⟩ := mm_lt h
  obtain ⟨g67, eg67, h⟩ := mm_lt h
  refine mm_nwaA 0 (ty := .int) hx hb hts hN 12 0 hn61 z64 (L := 7) (LN := 7) rfl rfl (fun _ => rfl) rfl rfl la_28 rfl (by decide) (by decide) (by decide) dX6_init_84 (fun H hN => ?_)
  rw [← en65, ← ef66, ← eg67] at hN
  refine W_cnt (c1 := n65 - n) (s1 := SL n65 - SL n) (by rw [en65]) (by rw [en65]) ?_
  have hn68 : n ≤ n65 := by omega
  refine W.eq (g2 := F0 m 86 ls (.ref (ra G 12 0) :: .ref (ra G 0 0) :: [])) rfl ?_
  obtain ⟨z69, h⟩ := mm_if h
  obtain ⟨g70, eg70, h⟩ := mm_lt h
  refine mm_putA (f' := f66) (g' := g70) hx hb hts hown hN 0 0 8 z69 rfl rfl iX6 tyX6 tyX6_ok nmX6 (by decide) la_63 (Or.inl hin) (Or.inl rfl) rfl rfl (Nat.le_of_ble_eq_true rfl) (fun r' i' hne => ⟨rfl, by rw [eg70]; exact upg_other _ _ _ _ _ hne⟩) (by rw [eg70, upg_self]; rfl) dX6_init_86 (fun H locs hN => ?_)
  refine lv_aload_n hx hb dX6_init_89 rfl (lv_at hl 0 rfl) ?_
  refine lv_iconst (v := 5) hx hb dX6_init_90 (by decide) ?_
  obtain ⟨z71, h⟩ := mm_if h
  obtain ⟨n72, en72, h⟩ := mm_lt h
  obtain ⟨f73, ef73, h⟩ := mm_lt h
  obtain ⟨g74, eg74, h⟩ := mm_lt h
  refine mm_nwaA 0 (ty := .int) hx hb hts hN 13 0 hn68 z71 (L := 5) (LN := 5) rfl rfl (fun _ => rfl) rfl rfl la_28 rfl (by decide) (by decide) (by decide) dX6_init_91 (fun H hN => ?_)
  rw [← en72, ← ef73, ← eg74] at hN
  refine W_cnt (c1 := n72 - n) (s1 := SL n72 - SL n) (by rw [en72]) (by rw [en72]) ?_
  have hn75 : n ≤ n72 := by omega
  refine W.eq (g2 := F0 m 93 ls (.ref (ra G 13 0) :: .ref (ra G 0 0) :: [])) rfl ?_
  obtain ⟨z76, h⟩ := mm_if h
  obtain ⟨g77, eg77, h⟩ := mm_lt h
  refine mm_putA (f' := f73) (g' := g77) hx hb hts hown hN 0 0 9 z76 rfl rfl iX6 tyX6 tyX6_ok nmX6 (by decide) la_64 (Or.inl hin) (Or.inl rfl) rfl rfl (Nat.le_of_ble_eq_true rfl) (fun r' i' hne => ⟨rfl, by rw [eg77]; exact upg_other _ _ _ _ _ hne⟩) (by rw [eg77, upg_self]; rfl) dX6_init_93 (fun H locs hN => ?_)
  refine lv_aload_n hx hb dX6_init_96 rfl (lv_at hl 0 rfl) ?_
  obtain ⟨z78, h⟩ := mm_if h
  obtain ⟨n79, en79, h⟩ := mm_lt h
  obtain ⟨f80, ef80, h⟩ := mm_lt h
  obtain ⟨g81, eg81, h⟩ := mm_lt h
  refine mm_newA hx hb hts hown hN 1 10 hn75 z78 rfl rfl iX0 tyX0 tyX0_ok la_44 la_65 la_66 rfl df_X0 dX6_init_97 (fun H hN => ?_)
  rw [← en79, ← ef80, ← eg81] at hN
  refine W_cnt (c1 := n79 - n) (s1 := SL n79 - SL n) (by rw [en79]) (by rw [en79]) ?_
  have hn82 : n ≤ n79 := by omega
  refine W.eq (g2 := F0 m 100 ls (.ref (ra G 1 10) :: .ref (ra G 0 0) :: [])) rfl ?_
  refine lv_dup hx hb dX6_init_100 rfl ?_
  obtain ⟨n83, f84, g85, en83, h⟩ := mm_b3e h
  obtain ⟨z86, h⟩ := mm_if h
  refine mm_callIN (host := "IceRoad") (d0 := 1) (mc0 := 0) (rest := [.ref (ra G 1 10), .ref (ra G 0 0)]) [] C0 rfl hN (TA_X0_init G en83) wi_X0_init hN.2.2.2.2.1 rfl hdA_X0_init ⟨by decide, by decide⟩ hn82 z86 hl.1 rfl (Nat.le_of_ble_eq_true rfl) dX6_init_101 (fun H locs hN => ?_)
  have hn87 : n ≤ n83 := by omega
  refine W.eq (g2 := F0 m 104 ls (.ref (ra G 1 10) :: .ref (ra G 0 0) :: [])) rfl ?_
  obtain ⟨z88, h⟩ := mm_if h
  obtain ⟨g89, eg89, h⟩ := mm_lt h
  refine mm_putA (f' := f84) (g' := g89) hx hb hts hown hN 0 0 10 z88 rfl rfl iX6 tyX6 tyX6_ok nmX6 (by decide) la_67 (Or.inl hin) (Or.inl rfl) rfl rfl (Nat.le_of_ble_eq_true rfl) (fun r' i' hne => ⟨rfl, by rw [eg89]; exact upg_other _ _ _ _ _ hne⟩) (by rw [eg89, upg_self]; rfl) dX6_init_104 (fun H locs hN => ?_)
  refine lv_aload_n hx hb dX6_init_107 rfl (lv_at hl 0 rfl) ?_
  refine lv_iconst (v := 0) hx hb dX6_init_108 (by decide) ?_
  obtain ⟨f90, ef90, h⟩ := mm_lt h
  refine mm_putA (f' := f90) (g' := g89) hx hb hts hown hN 0 0 11 z88 rfl rfl iX6 tyX6 tyX6_ok nmX6 (by decide) la_68 (Or.inr rfl) (Or.inr rfl) rfl rfl (Nat.le_of_ble_eq_true rfl) (fun r' i' hne => ⟨by rw [ef90]; exact up_other _ _ _ _ _ hne, rfl⟩) (by rw [ef90, up_self]; rfl) dX6_init_109 (fun H locs hN => ?_)
  refine lv_aload_n hx hb dX6_init_112 rfl (lv_at hl 0 rfl) ?_
  refine lv_iconst (v := 0) hx hb dX6_init_113 (by decide) ?_
  obtain ⟨f91, ef91, h⟩ := mm_lt h
  refine mm_putA (f' := f91) (g' := g89) hx hb hts hown hN 0 0 12 z88 rfl rfl iX6 tyX6 tyX6_ok nmX6 (by decide) la_69 (Or.inr rfl) (Or.inr rfl) rfl rfl (Nat.le_of_ble_eq_true rfl) (fun r' i' hne => ⟨by rw [ef91]; exact up_other _ _ _ _ _ hne, rfl⟩) (by rw [ef91, up_self]; rfl) dX6_init_114 (fun H locs hN => ?_)
  refine lv_aload_n hx hb dX6_init_117 rfl (lv_at hl 0 rfl) ?_
  refine lv_iconst (v := 0) hx hb dX6_init_118 (by decide) ?_
  obtain ⟨f92, ef92, h⟩ := mm_lt h
  refine mm_putA (f' := f92) (g' := g89) hx hb hts hown hN 0 0 13 z88 rfl rfl iX6 tyX6 tyX6_ok nmX6 (by decide) la_70 (Or.inr rfl) (Or.inr rfl) rfl rfl (Nat.le_of_ble_eq_true rfl) (fun r' i' hne => ⟨by rw [ef92]; exact up_other _ _ _ _ _ hne, rfl⟩) (by rw [ef92, up_self]; rfl) dX6_init_119 (fun H locs hN => ?_)
  refine lv_aload_n hx hb dX6_init_122 rfl (lv_at hl 0 rfl) ?_
  refine lv_iconst (v := 0) hx hb dX6_init_123 (by decide) ?_
  obtain ⟨f93, ef93, h⟩ := mm_lt h
  refine mm_putA (f' := f93) (g' := g89) hx hb hts hown hN 0 0 14 z88 rfl rfl iX6 tyX6 tyX6_ok nmX6 (by decide) la_71 (Or.inr rfl) (Or.inr rfl) rfl rfl (Nat.le_of_ble_eq_true rfl) (fun r' i' hne => ⟨by rw [ef93]; exact up_other _ _ _ _ _ hne, rfl⟩) (by rw [ef93, up_self]; rfl) dX6_init_124 (fun H locs hN => ?_)
  refine lv_aload_n hx hb dX6_init_127 rfl (lv_at hl 0 rfl) ?_
  refine lv_iconst (v := 0) hx hb dX6_init_128 (by decide) ?_
  obtain ⟨f94, ef94, h⟩ := mm_lt h
  refine mm_putA (f' := f94) (g' := g89) hx hb hts hown hN 0 0 15 z88 rfl rfl iX6 tyX6 tyX6_ok nmX6 (by decide) la_72 (Or.inr rfl) (Or.inr rfl) rfl rfl (Nat.le_of_ble_eq_true rfl) (fun r' i' hne => ⟨by rw [ef94]; exact up_other _ _ _ _ _ hne, rfl⟩) (by rw [ef94, up_self]; rfl) dX6_init_129 (fun H locs hN => ?_)
  refine lv_iconst (v := 0) hx hb dX6_init_132 (by decide) ?_
  refine lv_istore_n (lv' := [(1, .int 0), (0, .ref (ra G 0 0))]) hx hb dX6_init_133 rfl hl (by decide) rfl (fun ls hl => ?_)
  exact LA_X6_init_134 C0 hin _ hn87 h _ _ _ hN (lv_sub hl [1, 0] rfl)
def A_X7_init_432 (ns : Nat) : Nat → Nat → F3 → G3 → Int32 → Option (Nat × F3 × G3)
  | 0, _, _, _, _ => none
  | k + 1, n, f, g, x1 => if 48 ≤ x1 then (if n ≤ ns + 24 then (some (n, f, g)) else none) else (if okA 20 0 n then (if g 20 0 12 = (22, 0) then (if okA 22 0 n then (if okI x1 48 then (mm_let (up f 22 0 x1.toNatClampNeg (-9999)) fun f230 => A_X7_init_432 ns k n f230 g (x1 + 1)) else none) else none) else none) else none)
set_option maxHeartbeats 4000000 in
set_option maxRecDepth 100000 in
theorem LA_X7_init_432 {G : mmG} {p : Program} {e : Env} {s : State} {m : MethodId} {args : Array Value} {below : List Frame} {meth : Method} {c : Code} {n' ns : Nat} {f' : F3} {g' : G3} (C0 : mmC yX7_init cX7_init 2 none p s m args meth c) (hin : meth.name = "<init>") : ∀ (k : Nat) {n : Nat} {f : F3} {g : G3} {x1 : Int32} (hns : ns ≤ n), A_X7_init_432 ns k n f g x1 = some (n', f', g') → ∀ (H : Heap) (locs : List Loc) (ls : Array Slot), mm_N G n f g s H locs → lv_has ls 2 [(0, .ref (ra G 20 0)), (1, .int x1)] → W p G.1 e (mm_rA 1 24 ns) s m args below meth c H locs (n - ns) (SL n - SL ns) (MQ below (mm_QA G n' f' g') args s 24 (SL (ns + 24) - SL ns) (mm_A G)) (F0 m 432 ls []) := by
  obtain ⟨hx, hb, hml, hr, hown, hts, hlocks⟩ := id C0
  intro k
  induction k with
  | zero =>
    intro n f g x1 hns h H locs ls hN hl
    cases h
  | succ k ih =>
    intro n f g x1 hns h H locs ls hN hl
    rw [A_X7_init_432] at h
    refine lv_iload_n hx hb dX7_init_432 rfl (lv_at hl 1 rfl) ?_
    refine lv_bipush (v := 48) hx hb dX7_init_433 (by decide) ?_
    refine lv_icmp_ge (tgt := 453) hx hb dX7_init_435 (by decide) (fun c224 => ?_) (fun c224 => ?_)
    · rw [if_pos c224] at h
      obtain ⟨z225, h⟩ := mm_if h
      obtain ⟨rfl, rfl, rfl⟩ := mm_p3 h
      exact mm_vretA C0 hN ⟨hns, z225⟩ dX7_init_453
    · rw [if_neg c224] at h
      refine lv_aload_n hx hb dX7_init_438 rfl (lv_at hl 0 rfl) ?_
      obtain ⟨z226, h⟩ := mm_if h
      obtain ⟨z227, h⟩ := mm_if h
      refine mm_get hx hb hts hown hN.1 20 0 12 (okA_v z226).1 (v := .ref (ra G 22 0)) rfl rfl iX7 (by decide) la_90 (by show some (va_rf (mm_ro G (g 20 0 12))) = _; rw [z227]; rfl) dX7_init_439 ?_
      refine lv_iload_n hx hb dX7_init_442 rfl (lv_at hl 1 rfl) ?_
      refine lv_sipush (v := (-9999)) hx hb dX7_init_443 (by decide) ?_
      obtain ⟨z228, h⟩ := mm_if h
      obtain ⟨z229, h⟩ := mm_if h
      obtain ⟨f230, ef230, h⟩ := mm_lt h
      refine mm_istA hx hb hN 22 0 z228 (L := 48) (j := x1) (x := (-9999)) (fun _ => rfl) (okI_in z229) dX7_init_446 (fun H locs hN => ?_)
      rw [← ef230] at hN
      refine lv_iinc (v := x1 + 1) (lv' := [(1, .int (x1 + 1)), (0, .ref (ra G 20 0))]) hx hb dX7_init_447 hl (k := 1) rfl rfl (by decide) rfl (fun ls hl => ?_)
      refine lv_goto (tgt := 432) hx hb dX7_init_450 (by decide) ?_
      exact ih hns h _ _ _ hN (lv_sub hl [1, 0] rfl)
set_option maxRecDepth 100000 in
def A_X7_init (n : Nat) (f : F3) (g : G3)  : Option (Nat × F3 × G3) := if n < n + 24 ∧ n < mm_NT ∧ mm_loc n = (21, 0) then (mm_let (n + 1) fun n2 => mm_let (zf f 21 0) fun f3 => mm_let (zg g 21 0) fun g4 => if okA 20 0 n2 then (mm_let (upg g4 20 0 0 (21, 0)) fun g7 => mm_let (up f3 20 0 2 2) fun f8 => if n2 < n + 24 ∧ n2 < mm_NT ∧ mm_loc n2 = (30, 0) then (mm_let (n2 + 1) fun n10 => mm_let (zf f8 30 0) fun f11 => mm_let (zg g7 30 0) fun g12 => if okA 20 0 n10 then (mm_let (upg g12 20 0 3 (30, 0)) fun g15 => if n10 < n + 24 ∧ n10 < mm_NT ∧ mm_loc n10 = (31, 0) then (mm_let (n10 + 1) fun n17 => mm_let (zf f11 31 0) fun f18 => mm_let (zg g15 31 0) fun g19 => if okA 20 0 n17 then (mm_let (upg g19 20 0 4 (31, 0)) fun g22 => if n17 < n + 24 ∧ n17 < mm_NT ∧ mm_loc n17 = (32, 0) then (mm_let (n17 + 1) fun n24 => mm_let (zf f18 32 0) fun f25 => mm_let (zg g22 32 0) fun g26 => if okA 20 0 n24 then (mm_let (upg g26 20 0 5 (32, 0)) fun g29 => if n24 < n + 24 ∧ n24 < mm_NT ∧ mm_loc n24 = (33, 0) then (mm_let (n24 + 1) fun n31 => mm_let (zf f25 33 0) fun f32 => mm_let (zg g29 33 0) fun g33 => if okA 33 0 n31 then (mm_let (up f32 33 0 0 20) fun f36 => mm_let (up f36 33 0 1 20) fun f37 => mm_let (up f37 33 0 2 0) fun f38 => mm_let (up f38 33 0 3 0) fun f39 => mm_let (up f39 33 0 4 0) fun f40 => mm_let (up f40 33 0 5 0) fun f41 => mm_let (up f41 33 0 6 0) fun f42 => mm_let (up f42 33 0 7 0) fun f43 => mm_let (up f43 33 0 8 0) fun f44 => mm_let (up f44 33 0 9 0) fun f45 => if okA 20 0 n31 then (mm_let (upg g33 20 0 6 (33, 0)) fun g47 => if n31 < n + 24 ∧ n31 < mm_NT ∧ mm_loc n31 = (34, 0) then (mm_let (n31 + 1) fun n49 => mm_let (zf f45 34 0) fun f50 => mm_let (zg g47 34 0) fun g51 => if okA 34 0 n49 then (mm_let (up f50 34 0 0 1) fun f54 => mm_let (up f54 34 0 1 1) fun f55 => mm_let (up f55 34 0 2 0) fun f56 => mm_let (up f56 34 0 3 0) fun f57 => mm_let (up f57 34 0 4 0) fun f58 => mm_let (up f58 34 0 5 0) fun f59 => mm_let (up f59 34 0 6 0) fun f60 => mm_let (up f60 34 0 7 0) fun f61 => mm_let (up f61 34 0 8 0) fun f62 => mm_let (up f62 34 0 9 0) fun f63 => if okA 20 0 n49 then (mm_let (upg g51 20 0 7 (34, 0)) fun g65 => if n49 < n + 24 ∧ n49 < mm_NT ∧ mm_loc n49 = (35, 0) then (mm_let (n49 + 1) fun n67 => mm_let (zf f63 35 0) fun f68 => mm_let (zg g65 35 0) fun g69 => if okA 20 0 n67 then (mm_let (upg g69 20 0 8 (35, 0)) fun g72 => if n67 < n + 24 ∧ n67 < mm_NT ∧ mm_loc n67 = (36, 0) then (mm_let (n67 + 1) fun n74 => mm_let (zf f68 36 0) fun f75 => mm_let (zg g72 36 0) fun g76 => if okA 20 0 n74 then (mm_let (upg g76 20 0 9 (36, 0)) fun g79 => if n74 < n + 24 ∧ n74 < mm_NT ∧ mm_loc n74 = (37, 0) then (mm_let (n74 + 1) fun n81 => mm_let (zf f75 37 0) fun f82 => mm_let (zg g79 37 0) fun g83 => if okA 37 0 n81 then (mm_let (up f82 37 0 0 (-1)) fun f86 => mm_let (up f86 37 0 1 (-1)) fun f87 => mm_let (up f87 37 0 2 (-1)) fun f88 => mm_let (up f88 37 0 3 (-1)) fun f89 => mm_let (up f89 37 0 4 (-1)) fun f90 => mm_let (up f90 37 0 5 (-1)) fun f91 => mm_let (up f91 37 0 6 (-1)) fun f92 => mm_let (up f92 37 0 7 (-1)) fun f93 => mm_let (up f93 37 0 8 (-1)) fun f94 => mm_let (up f94 37 0 9 (-1)) fun f95 => if okA 20 0 n81 then (mm_let (upg g83 20 0 10 (37, 0)) fun g97 => if n81 < n + 24 ∧ n81 < mm_NT ∧ mm_loc n81 = (38, 0) then (mm_let (n81 + 1) fun n99 => mm_let (zf f95 38 0) fun f100 => mm_let (zg g97 38 0) fun g101 => if okA 38 0 n99 then (mm_let (up f100 38 0 0 (-1)) fun f104 => mm_let (up f104 38 0 1 (-1)) fun f105 => mm_let (up f105 38 0 2 (-1)) fun f106 => mm_let (up f106 38 0 3 (-1)) fun f107 => mm_let (up f107 38 0 4 (-1)) fun f108 => mm_let (up f108 38 0 5 (-1)) fun f109 => mm_let (up f109 38 0 6 (-1)) fun f110 => mm_let (up f110 38 0 7 (-1)) fun f111 => mm_let (up f111 38 0 8 (-1)) fun f112 => mm_let (up f112 38 0 9 (-1)) fun f113 => mm_let (up f113 38 0 10 (-1)) fun f114 => mm_let (up f114 38 0 11 (-1)) fun f115 => mm_let (up f115 38 0 12 (-1)) fun f116 => mm_let (up f116 38 0 13 (-1)) fun f117 => mm_let (up f117 38 0 14 (-1)) fun f118 => mm_let (up f118 38 0 15 (-1)) fun f119 => mm_let (up f119 38 0 16 (-1)) fun f120 => mm_let (up f120 38 0 17 (-1)) fun f121 => mm_let (up f121 38 0 18 (-1)) fun f122 => mm_let (up f122 38 0 19 (-1)) fun f123 => if okA 20 0 n99 then (mm_let (upg g101 20 0 11 (38, 0)) fun g125 => if n99 < n + 24 ∧ n99 < mm_NT ∧ mm_loc n99 = (22, 0) then (mm_let (n99 + 1) fun n127 => mm_let (zf f123 22 0) fun f128 => mm_let (zg g125 22 0) fun g129 => if okA 20 0 n127 then (mm_let (upg g129 20 0 12 (22, 0)) fun g132 => if n127 < n + 24 ∧ n127 < mm_NT ∧ mm_loc n127 = (40, 0) then (mm_let (n127 + 1) fun n134 => mm_let (zf f128 40 0) fun f135 => mm_let (zg g132 40 0) fun g136 => if okA 20 0 n134 then (mm_let (upg g136 20 0 14 (40, 0)) fun g139 => if n134 < n + 24 ∧ n134 < mm_NT ∧ mm_loc n134 = (41, 0) then (mm_let (n134 + 1) fun n141 => mm_let (zf f135 41 0) fun f142 => mm_let (zg g139 41 0) fun g143 => if okA 20 0 n141 then (mm_let (upg g143 20 0 15 (41, 0)) fun g146 => if n141 < n + 24 ∧ n141 < mm_NT ∧ mm_loc n141 = (42, 0) then (mm_let (n141 + 1) fun n148 => mm_let (zf f142 42 0) fun f149 => mm_let (zg g146 42 0) fun g150 => if okA 20 0 n148 then (mm_let (upg g150 20 0 16 (42, 0)) fun g153 => if n148 < n + 24 ∧ n148 < mm_NT ∧ mm_loc n148 = (43, 0) then (mm_let (n148 + 1) fun n155 => mm_let (zf f149 43 0) fun f156 => mm_let (zg g153 43 0) fun g157 => if okA 20 0 n155 then (mm_let (upg g157 20 0 17 (43, 0)) fun g160 => if n155 < n + 24 ∧ n155 < mm_NT ∧ mm_loc n155 = (44, 0) then (mm_let (n155 + 1) fun n162 => mm_let (zf f156 44 0) fun f163 => mm_let (zg g160 44 0) fun g164 => if okA 20 0 n162 then (mm_let (upg g164 20 0 18 (44, 0)) fun g167 => if n162 < n + 24 ∧ n162 < mm_NT ∧ mm_loc n162 = (45, 0) then (mm_let (n162 + 1) fun n169 => mm_let (zf f163 45 0) fun f170 => mm_let (zg g167 45 0) fun g171 => if okA 20 0 n169 then (mm_let (upg g171 20 0 19 (45, 0)) fun g174 => if n169 < n + 24 ∧ n169 < mm_NT ∧ mm_loc n169 = (46, 0) then (mm_let (n169 + 1) fun n176 => mm_let (zf f170 46 0) fun f177 => mm_let (zg g174 46 0) fun g178 => if okA 20 0 n176 then (mm_let (upg g178 20 0 20 (46, 0)) fun g181 => if n176 < n + 24 ∧ n176 < mm_NT ∧ mm_loc n176 = (23, 0) then (mm_let (n176 + 1) fun n183 => mm_let (zf f177 23 0) fun f184 => mm_let (zg g181 23 0) fun g185 => if okA 20 0 n183 then (mm_let (upg g185 20 0 22 (23, 0)) fun g188 => if n183 < n + 24 ∧ n183 < mm_NT ∧ mm_loc n183 = (24, 0) then (mm_let (n183 + 1) fun n190 => mm_let (zf f184 24 0) fun f191 => mm_let (zg g188 24 0) fun g192 => if okA 20 0 n190 then (mm_let (upg g192 20 0 23 (24, 0)) fun g195 => if n190 < n + 24 ∧ n190 < mm_NT ∧ mm_loc n190 = (25, 0) then (mm_let (n190 + 1) fun n197 => mm_let (zf f191 25 0) fun f198 => mm_let (zg g195 25 0) fun g199 => if okA 20 0 n197 then (mm_let (upg g199 20 0 25 (25, 0)) fun g202 => if n197 < n + 24 ∧ n197 < mm_NT ∧ mm_loc n197 = (26, 0) then (mm_let (n197 + 1) fun n204 => mm_let (zf f198 26 0) fun f205 => mm_let (zg g202 26 0) fun g206 => if okA 20 0 n204 then (mm_let (upg g206 20 0 26 (26, 0)) fun g209 => if n204 < n + 24 ∧ n204 < mm_NT ∧ mm_loc n204 = (27, 0) then (mm_let (n204 + 1) fun n211 => mm_let (zf f205 27 0) fun f212 => mm_let (zg g209 27 0) fun g213 => if okA 20 0 n211 then (mm_let (upg g213 20 0 32 (27, 0)) fun g216 => if n211 < n + 24 ∧ n211 < mm_NT ∧ mm_loc n211 = (28, 0) then (mm_let (n211 + 1) fun n218 => mm_let (zf f212 28 0) fun f219 => mm_let (zg g216 28 0) fun g220 => if okA 20 0 n218 then (mm_let (upg g220 20 0 33 (28, 0)) fun g223 => A_X7_init_432 n 600 n218 f219 g223 0) else none) else none) else none) else none) else none) else none) else none) else none) else none) else none) else none) else none) else none) else none) else none) else none) else none) else none) else none) else none) else none) else none) else none) else none) else none) else none) else none) else none) else none) else none) else none) else none) else none) else none) else none) else none) else none) else none) else none) else none) else none) else none) else none) else none) else none) else none) else none) else none) else none) else none) else none) else none
set_option maxHeartbeats 4000000 in
set_option maxRecDepth 100000 in
theorem TA_X7_init (G : mmG) {n : Nat} {f : F3} {g : G3} {n' : Nat} {f' : F3} {g' : G3}  (h : A_X7_init n f g  = some (n', f', g')) : mmMA G yX7_init cX7_init 2 1 [.ref (ra G 20 0)] n f g 24 n' f' g' := by
  refine mm_startA (by decide +kernel) (Nat.le_of_ble_eq_true rfl) ?_
  intro p e s m args below meth c ls C0 hin hN hl
  obtain ⟨hx, hb, hml, hr, hown, hts, hlocks⟩ := id C0
  have hl : lv_has ls 2 [(0, .ref (ra G 20 0))] := hl
  rw [A_X7_init] at h
  have hns : n ≤ n := Nat.le_refl n
  refine lv_aload_n hx hb dX7_init_0 rfl (lv_at hl 0 rfl) ?_
  refine W.objInit hx hb hown (hts _ la_78) (hts _ la_1) (hts _ la_2) rfl (by rw [hml]; exact hl.1) rfl dX7_init_1 (Nat.le_of_ble_eq_true rfl) (Nat.le_of_ble_eq_true rfl) ?_
  refine W.eq (g2 := F0 m 4 ls ([])) rfl ?_
  refine lv_aload_n hx hb dX7_init_4 rfl (lv_at hl 0 rfl) ?_
  refine lv_bipush (v := 9) hx hb dX7_init_5 (by decide) ?_
  obtain ⟨z1, h⟩ := mm_if h
  obtain ⟨n2, en2, h⟩ := mm_lt h
  obtain ⟨f3, ef3, h⟩ := mm_lt h
  obtain ⟨g4, eg4, h⟩ := mm_lt h
  refine mm_nwaA 0 (ty := .int) hx hb hts hN 21 0 hns z1 (L := 9) (LN := 9) rfl rfl (fun _ => rfl) rfl rfl la_28 rfl (by decide) (by decide) (by decide) dX7_init_7 (fun H hN => ?_)
  rw [← en2, ← ef3, ← eg4] at hN
  refine W_cnt (c1 := n2 - n) (s1 := SL n2 - SL n) (by rw [en2]) (by rw [en2]) ?_
  have hn5 : n ≤ n2 := by omega
  refine W.eq (g2 := F0 m 9 ls (.ref (ra G 21 0) :: .ref (ra G 20 0) :: [])) rfl ?_
  obtain ⟨z6, h⟩ := mm_if h
  obtain ⟨g7, eg7, h⟩ := mm_lt h
  refine mm_putA (f' := f3) (g' := g7) hx hb hts hown hN 20 0 0 z6 rfl rfl iX7 tyX7 tyX7_ok nmX7 (by decide) la_79 (Or.inl hin) (Or.inl rfl) rfl rfl (Nat.le_of_ble_eq_true rfl) (fun r' i' hne => ⟨rfl, by rw [eg7]; exact upg_other _ _ _ _ _ hne⟩) (by rw [eg7, upg_self]; rfl) dX7_init_9 (fun H locs hN => ?_)
  refine lv_aload_n hx hb dX7_init_12 rfl (lv_at hl 0 rfl) ?_
  refine lv_iconst (v := 2) hx hb dX7_init_13 (by decide) ?_
  obtain ⟨f8, ef8, h⟩ := mm_lt h
  refine mm_putA (f' := f8) (g' := g7) hx hb hts hown hN 20 0 2 z6 rfl rfl iX7 tyX7 tyX7_ok nmX7 (by decide) la_80 (Or.inr rfl) (Or.inr rfl) rfl rfl (Nat.le_of_ble_eq_true rfl) (fun r' i' hne => ⟨by rw [ef8]; exact up_other _ _ _ _ _ hne, rfl⟩) (by rw [ef8, up_self]; rfl) dX7_init_14 (fun H locs hN => ?_)
  refine lv_aload_n hx hb dX7_init_17 rfl (lv_at hl 0 rfl) ?_
  refine lv_bipush (v := 10) hx hb dX7_init_18 (by decide) ?_
  obtain ⟨z9, h⟩ := mm_if h
  obtain ⟨n10, en10, h⟩ := mm_lt h
  obtain ⟨f11, ef11, h⟩ := mm_lt h
  obtain ⟨g12, eg12, h⟩ := mm_lt h
  refine mm_nwaA 0 (ty := .int) hx hb hts hN 30 0 hn5 z9 (L := 10) (LN := 10) rfl rfl (fun _ => rfl) rfl rfl la_28 rfl (by decide) (by decide) (by decide) dX7_init_20 (fun H hN => ?_)
  rw [← en10, ← ef11, ← eg12] at hN
  refine W_cnt (c1 := n10 - n) (s1 := SL n10 - SL n) (by rw [en10]) (by rw [en10]) ?_
  have hn13 : n ≤ n10 := by omega
  refine W.eq (g2 := F0 m 22 ls (.ref (ra G 30 0) :: .ref (ra G 20 0) :: [])) rfl ?_
  obtain ⟨z14, h⟩ := mm_if h
  obtain ⟨g15, eg15, h⟩ := mm_lt h
  refine mm_putA (f' := f11) (g' := g15) hx hb hts hown hN 20 0 3 z14 rfl rfl iX7 tyX7 tyX7_ok nmX7 (by decide) la_81 (Or.inl hin) (Or.inl rfl) rfl rfl (Nat.le_of_ble_eq_true rfl) (fun r' i' hne => ⟨rfl, by rw [eg15]; exact upg_other _ _ _ _ _ hne⟩) (by rw [eg15, upg_self]; rfl) dX7_init_22 (fun H locs hN => ?_)
  refine lv_aload_n hx hb dX7_init_25 rfl (lv_at hl 0 rfl) ?_
  refine lv_bipush (v := 10) hx hb dX7_init_26 (by decide) ?_
  obtain ⟨z16, h⟩ := mm_if h
  obtain ⟨n17, en17, h⟩ := mm_lt h
  obtain ⟨f18, ef18, h⟩ := mm_lt h
  obtain ⟨g19, eg19, h⟩ := mm_lt h
  refine mm_nwaA 0 (ty := .int) hx hb hts hN 31 0 hn13 z16 (L := 10) (LN := 10) rfl rfl (fun _ => rfl) rfl rfl la_28 rfl (by decide) (by decide) (by decide) dX7_init_28 (fun H hN => ?_)
  rw [← en17, ← ef18, ← eg19] at hN
  refine W_cnt (c1 := n17 - n) (s1 := SL n17 - SL n) (by rw [en17]) (by rw [en17]) ?_
  have hn20 : n ≤ n17 := by omega
  refine W.eq (g2 := F0 m 30 ls (.ref (ra G 31 0) :: .ref (ra G 20 0) :: [])) rfl ?_
  obtain ⟨z21, h⟩ := mm_if h
  obtain ⟨g22, eg22, h⟩ := mm_lt h
  refine mm_putA (f' := f18) (g' := g22) hx hb hts hown hN 20 0 4 z21 rfl rfl iX7 tyX7 tyX7_ok nmX7 (by decide) la_82 (Or.inl hin) (Or.inl rfl) rfl rfl (Nat.le_of_ble_eq_true rfl) (fun r' i' hne => ⟨rfl, by rw [eg22]; exact upg_other _ _ _ _ _ hne⟩) (by rw [eg22, upg_self]; rfl) dX7_init_30 (fun H locs hN => ?_)
  refine lv_aload_n hx hb dX7_init_33 rfl (lv_at hl 0 rfl) ?_
  refine lv_bipush (v := 10) hx hb dX7_init_34 (by decide) ?_
  obtain ⟨z23, h⟩ := mm_if h
  obtain ⟨n24, en24, h⟩ := mm_lt h
  obtain ⟨f25, ef25, h⟩ := mm_lt h
  obtain ⟨g26, eg26, h⟩ := mm_lt h
  refine mm_nwaA 0 (ty := .int) hx hb hts hN 32 0 hn20 z23 (L := 10) (LN := 10) rfl rfl (fun _ => rfl) rfl rfl la_28 rfl (by decide) (by decide) (by decide) dX7_init_36 (fun H hN => ?_)
  rw [← en24, ← ef25, ← eg26] at hN
  refine W_cnt (c1 := n24 - n) (s1 := SL n24 - SL n) (by rw [en24]) (by rw [en24]) ?_
  have hn27 : n ≤ n24 := by omega
  refine W.eq (g2 := F0 m 38 ls (.ref (ra G 32 0) :: .ref (ra G 20 0) :: [])) rfl ?_
  obtain ⟨z28, h⟩ := mm_if h
  obtain ⟨g29, eg29, h⟩ := mm_lt h
  refine mm_putA (f' := f25) (g' := g29) hx hb hts hown hN 20 0 5 z28 rfl rfl iX7 tyX7 tyX7_ok nmX7 (by decide) la_83 (Or.inl hin) (Or.inl rfl) rfl rfl (Nat.le_of_ble_eq_true rfl) (fun r' i' hne => ⟨rfl, by rw [eg29]; exact upg_other _ _ _ _ _ hne⟩) (by rw [eg29, upg_self]; rfl) dX7_init_38 (fun H locs hN => ?_)
  refine lv_aload_n hx hb dX7_init_41 rfl (lv_at hl 0 rfl) ?_
  refine lv_bipush (v := 10) hx hb dX7_init_42 (by decide) ?_
  obtain ⟨z30, h⟩ := mm_if h
  obtain ⟨n31, en31, h⟩ := mm_lt h
  obtain ⟨f32, ef32, h⟩ := mm_lt h
  obtain ⟨g33, eg33, h⟩ := mm_lt h
  refine mm_nwaA 0 (ty := .int) hx hb hts hN 33 0 hn27 z30 (L := 10) (LN := 10) rfl rfl (fun _ => rfl) rfl rfl la_28 rfl (by decide) (by decide) (by decide) dX7_init_44 (fun H hN => ?_)
  rw [← en31, ← ef32, ← eg33] at hN
  refine W_cnt (c1 := n31 - n) (s1 := SL n31 - SL n) (by rw [en31]) (by rw [en31]) ?_
  have hn34 : n ≤ n31 := by omega
  refine W.eq (g2 := F0 m 46 ls (.ref (ra G 33 0) :: .ref (ra G 20 0) :: [])) rfl ?_
  refine lv_dup hx hb dX7_init_46 rfl ?_
  refine lv_iconst (v := 0) hx hb dX7_init_47 (by decide) ?_
  refine lv_bipush (v := 20) hx hb dX7_init_48 (by decide) ?_
  obtain ⟨z35, h⟩ := mm_if h
  obtain ⟨f36, ef36, h⟩ := mm_lt h
  refine mm_istA hx hb hN 33 0 z35 (L := 10) (j := 0) (x := 20) (fun _ => rfl) (okI_in (by decide +kernel)) dX7_init_50 (fun H locs hN => ?_)
  rw [show ((0 : Int32).toNatClampNeg) = 0 from by decide] at hN
  rw [← ef36] at hN
  refine lv_dup hx hb dX7_init_51 rfl ?_
  refine lv_iconst (v := 1) hx hb dX7_init_52 (by decide) ?_
  refine lv_bipush (v := 20) hx hb dX7_init_53 (by decide) ?_
  obtain ⟨f37, ef37, h⟩ := mm_lt h
  refine mm_istA hx hb hN 33 0 z35 (L := 10) (j := 1) (x := 20) (fun _ => rfl) (okI_in (by decide +kernel)) dX7_init_55 (fun H locs hN => ?_)
  rw [show ((1 : Int32).toNatClampNeg) = 1 from by decide] at hN
  rw [← ef37] at hN
  refine lv_dup hx hb dX7_init_56 rfl ?_
  refine lv_iconst (v := 2) hx hb dX7_init_57 (by decide) ?_
  refine lv_iconst (v := 0) hx hb dX7_init_58 (by decide) ?_
  obtain ⟨f38, ef38, h⟩ := mm_lt h
  refine mm_istA hx hb hN 33 0 z35 (L := 10) (j := 2) (x := 0) (fun _ => rfl) (okI_in (by decide +kernel)) dX7_init_59 (fun H locs hN => ?_)
  rw [show ((2 : Int32).toNatClampNeg) = 2 from by decide] at hN
  rw [← ef38] at hN
  refine lv_dup hx hb dX7_init_60 rfl ?_
  refine lv_iconst (v := 3) hx hb dX7_init_61 (by decide) ?_
  refine lv_iconst (v := 0) hx hb dX7_init_62 (by decide) ?_
  obtain ⟨f39, ef39, h⟩ := mm_lt h
  refine mm_istA hx hb hN 33 0 z35 (L := 10) (j := 3) (x := 0) (fun _ => rfl) (okI_in (by decide +kernel)) dX7_init_63 (fun H locs hN => ?_)
  rw [show ((3 : Int32).toNatClampNeg) = 3 from by decide] at hN
  rw [← ef39] at hN
  refine lv_dup hx hb dX7_init_64 rfl ?_
  refine lv_iconst (v := 4) hx hb dX7_init_65 (by decide) ?_
  refine lv_iconst (v := 0) hx hb dX7_init_66 (by decide) ?_
  obtain ⟨f40, ef40, h⟩ := mm_lt h
  refine mm_istA hx hb hN 33 0 z35 (L := 10) (j := 4) (x := 0) (fun _ => rfl) (okI_in (by decide +kernel)) dX7_init_67 (fun H locs hN => ?_)
  rw [show ((4 : Int32).toNatClampNeg) = 4 from by decide] at hN
  rw [← ef40] at hN
  refine lv_dup hx hb dX7_init_68 rfl ?_
  refine lv_iconst (v := 5) hx hb dX7_init_69 (by decide) ?_
  refine lv_iconst (v := 0) hx hb dX7_init_70 (by decide) ?_
  obtain ⟨f41, ef41, h⟩ := mm_lt h
  refine mm_istA hx hb hN 33 0 z35 (L := 10) (j := 5) (x := 0) (fun _ => rfl) (okI_in (by decide +kernel)) dX7_init_71 (fun H locs hN => ?_)
  rw [show ((5 : Int32).toNatClampNeg) = 5 from by decide] at hN
  rw [← ef41] at hN
  refine lv_dup hx hb dX7_init_72 rfl ?_
  refine lv_bipush (v := 6) hx hb dX7_init_73 (by decide) ?_
  refine lv_iconst (v := 0) hx hb dX7_init_75 (by decide) ?_
  obtain ⟨f42, ef42, h⟩ := mm_lt h
  refine mm_istA hx hb hN 33 0 z35 (L := 10) (j := 6) (x := 0) (fun _ => rfl) (okI_in (by decide +kernel)) dX7_init_76 (fun H locs hN => ?_)
  rw [show ((6 : Int32).toNatClampNeg) = 6 from by decide] at hN
  rw [← ef42] at hN
  refine lv_dup hx hb dX7_init_77 rfl ?_
  refine lv_bipush (v := 7) hx hb dX7_init_78 (by decide) ?_
  refine lv_iconst (v := 0) hx hb dX7_init_80 (by decide) ?_
  obtain ⟨f43, ef43, h⟩ := mm_lt h
  refine mm_istA hx hb hN 33 0 z35 (L := 10) (j := 7) (x := 0) (fun _ => rfl) (okI_in (by decide +kernel)) dX7_init_81 (fun H locs hN => ?_)
  rw [show ((7 : Int32).toNatClampNeg) = 7 from by decide] at hN
  rw [← ef43] at hN
  refine lv_dup hx hb dX7_init_82 rfl ?_
  refine lv_bipush (v := 8) hx hb dX7_init_83 (by decide) ?_
  refine lv_iconst (v := 0) hx hb dX7_init_85 (by decide) ?_
  obtain ⟨f44, ef44, h⟩ := mm_lt h
  refine mm_istA hx hb hN 33 0 z35 (L := 10) (j := 8) (x := 0) (fun _ => rfl) (okI_in (by decide +kernel)) dX7_init_86 (fun H locs hN => ?_)
  rw [show ((8 : Int32).toNatClampNeg) = 8 from by decide] at hN
  rw [← ef44] at hN
  refine lv_dup hx hb dX7_init_87 rfl ?_
  refine lv_bipush (v := 9) hx hb dX7_init_88 (by decide) ?_
  refine lv_iconst (v := 0) hx hb dX7_init_90 (by decide) ?_
  obtain ⟨f45, ef45, h⟩ := mm_lt h
  refine mm_istA hx hb hN 33 0 z35 (L := 10) (j := 9) (x := 0) (fun _ => rfl) (okI_in (by decide +kernel)) dX7_init_91 (fun H locs hN => ?_)
  rw [show ((9 : Int32).toNatClampNeg) = 9 from by decide] at hN
  rw [← ef45] at hN
  obtain ⟨z46, h⟩ := mm_if h
  obtain ⟨g47, eg47, h⟩ := mm_lt h
  refine mm_putA (f' := f45) (g' := g47) hx hb hts hown hN 20 0 6 z46 rfl rfl iX7 tyX7 tyX7_ok nmX7 (by decide) la_84 (Or.inl hin) (Or.inl rfl) rfl rfl (Nat.le_of_ble_eq_true rfl) (fun r' i' hne => ⟨rfl, by rw [eg47]; exact upg_other _ _ _ _ _ hne⟩) (by rw [eg47, upg_self]; rfl) dX7_init_92 (fun H locs hN => ?_)
  refine lv_aload_n hx hb dX7_init_95 rfl (lv_at hl 0 rfl) ?_
  refine lv_bipush (v := 10) hx hb dX7_init_96 (by decide) ?_
  obtain ⟨z48, h⟩ := mm_if h
  obtain ⟨n49, en49, h⟩ := mm_lt h
  obtain ⟨f50, ef50, h⟩ := mm_lt h
  obtain ⟨g51, eg51, h⟩ := mm_lt h
  refine mm_nwaA 0 (ty := .int) hx hb hts hN 34 0 hn34 z48 (L := 10) (LN := 10) rfl rfl (fun _ => rfl) rfl rfl la_28 rfl (by decide) (by decide) (by decide) dX7_init_98 (fun H hN => ?_)
  rw [← en49, ← ef50, ← eg51] at hN
  refine W_cnt (c1 := n49 - n) (s1 := SL n49 - SL n) (by rw [en49]) (by rw [en49]) ?_
  have hn52 : n ≤ n49 := by omega
  refine W.eq (g2 := F0 m 100 ls (.ref (ra G 34 0) :: .ref (ra G 20 0) :: [])) rfl ?_
  refine lv_dup hx hb dX7_init_100 rfl ?_
  refine lv_iconst (v := 0) hx hb dX7_init_101 (by decide) ?_
  refine lv_iconst (v := 1) hx hb dX7_init_102 (by decide) ?_
  obtain ⟨z53, h⟩ := mm_if h
  obtain ⟨f54, ef54, h⟩ := mm_lt h
  refine mm_istA hx hb hN 34 0 z53 (L := 10) (j := 0) (x := 1) (fun _ => rfl) (okI_in (by decide +kernel)) dX7_init_103 (fun H locs hN => ?_)
  rw [show ((0 : Int32).toNatClampNeg) = 0 from by decide] at hN
  rw [← ef54] at hN
  refine lv_dup hx hb dX7_init_104 rfl ?_
  refine lv_iconst (v := 1) hx hb dX7_init_105 (by decide) ?_
  refine lv_iconst (v := 1) hx hb dX7_init_106 (by decide) ?_
  obtain ⟨f55, ef55, h⟩ := mm_lt h
  refine mm_istA hx hb hN 34 0 z53 (L := 10) (j := 1) (x := 1) (fun _ => rfl) (okI_in (by decide +kernel)) dX7_init_107 (fun H locs hN => ?_)
  rw [show ((1 : Int32).toNatClampNeg) = 1 from by decide] at hN
  rw [← ef55] at hN
  refine lv_dup hx hb dX7_init_108 rfl ?_
  refine lv_iconst (v := 2) hx hb dX7_init_109 (by decide) ?_
  refine lv_iconst (v := 0) hx hb dX7_init_110 (by decide) ?_
  obtain ⟨f56, ef56, h⟩ := mm_lt h
  refine mm_istA hx hb hN 34 0 z53 (L := 10) (j := 2) (x := 0) (fun _ => rfl) (okI_in (by decide +kernel)) dX7_init_111 (fun H locs hN => ?_)
  rw [show ((2 : Int32).toNatClampNeg) = 2 from by decide] at hN
  rw [← ef56] at hN
  refine lv_dup hx hb dX7_init_112 rfl ?_
  refine lv_iconst (v := 3) hx hb dX7_init_113 (by decide) ?_
  refine lv_iconst (v := 0) hx hb dX7_init_114 (by decide) ?_
  obtain ⟨f57, ef57, h⟩ := mm_lt h
  refine mm_istA hx hb hN 34 0 z53 (L := 10) (j := 3) (x := 0) (fun _ => rfl) (okI_in (by decide +kernel)) dX7_init_115 (fun H locs hN => ?_)
  rw [show ((3 : Int32).toNatClampNeg) = 3 from by decide] at hN
  rw [← ef57] at hN
  refine lv_dup hx hb dX7_init_116 rfl ?_
  refine lv_iconst (v := 4) hx hb dX7_init_117 (by decide) ?_
  refine lv_iconst (v := 0) hx hb dX7_init_118 (by decide) ?_
  obtain ⟨f58, ef58, h⟩ := mm_lt h
  refine mm_istA hx hb hN 34 0 z53 (L := 10) (j := 4) (x := 0) (fun _ => rfl) (okI_in (by decide +kernel)) dX7_init_119 (fun H locs hN => ?_)
  rw [show ((4 : Int32).toNatClampNeg) = 4 from by decide] at hN
  rw [← ef58] at hN
  refine lv_dup hx hb dX7_init_120 rfl ?_
  refine lv_iconst (v := 5) hx hb dX7_init_121 (by decide) ?_
  refine lv_iconst (v := 0) hx hb dX7_init_122 (by decide) ?_
  obtain ⟨f59, ef59, h⟩ := mm_lt h
  refine mm_istA hx hb hN 34 0 z53 (L := 10) (j := 5) (x := 0) (fun _ => rfl) (okI_in (by decide +kernel)) dX7_init_123 (fun H locs hN => ?_)
  rw [show ((5 : Int32).toNatClampNeg) = 5 from by decide] at hN
  rw [← ef59] at hN
  refine lv_dup hx hb dX7_init_124 rfl ?_
  refine lv_bipush (v := 6) hx hb dX7_init_125 (by decide) ?_
  refine lv_iconst (v := 0) hx hb dX7_init_127 (by decide) ?_
  obtain ⟨f60, ef60, h⟩ := mm_lt h
  refine mm_istA hx hb hN 34 0 z53 (L := 10) (j := 6) (x := 0) (fun _ => rfl) (okI_in (by decide +kernel)) dX7_init_128 (fun H locs hN => ?_)
  rw [show ((6 : Int32).toNatClampNeg) = 6 from by decide] at hN
  rw [← ef60] at hN
  refine lv_dup hx hb dX7_init_129 rfl ?_
  refine lv_bipush (v := 7) hx hb dX7_init_130 (by decide) ?_
  refine lv_iconst (v := 0) hx hb dX7_init_132 (by decide) ?_
  obtain ⟨f61, ef61, h⟩ := mm_lt h
  refine mm_istA hx hb hN 34 0 z53 (L := 10) (j := 7) (x := 0) (fun _ => rfl) (okI_in (by decide +kernel)) dX7_init_133 (fun H locs hN => ?_)
  rw [show ((7 : Int32).toNatClampNeg) = 7 from by decide] at hN
  rw [← ef61] at hN
  refine lv_dup hx hb dX7_init_134 rfl ?_
  refine lv_bipush (v := 8) hx hb dX7_init_135 (by decide) ?_
  refine lv_iconst (v := 0) hx hb dX7_init_137 (by decide) ?_
  obtain ⟨f62, ef62, h⟩ := mm_lt h
  refine mm_istA hx hb hN 34 0 z53 (L := 10) (j := 8) (x := 0) (fun _ => rfl) (okI_in (by decide +kernel)) dX7_init_138 (fun H locs hN => ?_)
  rw [show ((8 : Int32).toNatClampNeg) = 8 from by decide] at hN
  rw [← ef62] at hN
  refine lv_dup hx hb dX7_init_139 rfl ?_
  refine lv_bipush (v := 9) hx hb dX7_init_140 (by decide) ?_
  refine lv_iconst (v := 0) hx hb dX7_init_142 (by decide) ?_
  obtain ⟨f63, ef63, h⟩ := mm_lt h
  refine mm_istA hx hb hN 34 0 z53 (L := 10) (j := 9) (x := 0) (fun _ => rfl) (okI_in (by decide +kernel)) dX7_init_143 (fun H locs hN => ?_)
  rw [show ((9 : Int32).toNatClampNeg) = 9 from by decide] at hN
  rw [← ef63] at hN
  obtain ⟨z64, h⟩ := mm_if h
  obtain ⟨g65, eg65, h⟩ := mm_lt h
  refine mm_putA (f' := f63) (g' := g65) hx hb hts hown hN 20 0 7 z64 rfl rfl iX7 tyX7 tyX7_ok nmX7 (by decide) la_85 (Or.inl hin) (Or.inl rfl) rfl rfl (Nat.le_of_ble_eq_true rfl) (fun r' i' hne => ⟨rfl, by rw [eg65]; exact upg_other _ _ _ _ _ hne⟩) (by rw [eg65, upg_self]; rfl) dX7_init_144 (fun H locs hN => ?_)
  refine lv_aload_n hx hb dX7_init_147 rfl (lv_at hl 0 rfl) ?_
  refine lv_bipush (v := 10) hx hb dX7_init_148 (by decide) ?_
  obtain ⟨z66, h⟩ := mm_if h
  obtain ⟨n67, en67, h⟩ := mm_lt h
  obtain ⟨f68, ef68, h⟩ := mm_lt h
  obtain ⟨g69, eg69, h⟩ := mm_lt h
  refine mm_nwaA 0 (ty := .int) hx hb hts hN 35 0 hn52 z66 (L := 10) (LN := 10) rfl rfl (fun _ => rfl) rfl rfl la_28 rfl (by decide) (by decide) (by decide) dX7_init_150 (fun H hN => ?_)
  rw [← en67, ← ef68, ← eg69] at hN
  refine W_cnt (c1 := n67 - n) (s1 := SL n67 - SL n) (by rw [en67]) (by rw [en67]) ?_
  have hn70 : n ≤ n67 := by omega
  refine W.eq (g2 := F0 m 152 ls (.ref (ra G 35 0) :: .ref (ra G 20 0) :: [])) rfl ?_
  obtain ⟨z71, h⟩ := mm_if h
  obtain ⟨g72, eg72, h⟩ := mm_lt h
  refine mm_putA (f' := f68) (g' := g72) hx hb hts hown hN 20 0 8 z71 rfl rfl iX7 tyX7 tyX7_ok nmX7 (by decide) la_86 (Or.inl hin) (Or.inl rfl) rfl rfl (Nat.le_of_ble_eq_true rfl) (fun r' i' hne => ⟨rfl, by rw [eg72]; exact upg_other _ _ _ _ _ hne⟩) (by rw [eg72, upg_self]; rfl) dX7_init_152 (fun H locs hN => ?_)
  refine lv_aload_n hx hb dX7_init_155 rfl (lv_at hl 0 rfl) ?_
  refine lv_bipush (v := 10) hx hb dX7_init_156 (by decide) ?_
  obtain ⟨z73, h⟩ := mm_if h
  obtain ⟨n74, en74, h⟩ := mm_lt h
  obtain ⟨f75, ef75, h⟩ := mm_lt h
  obtain ⟨g76, eg76, h⟩ := mm_lt h
  refine mm_nwaA 0 (ty := .int) hx hb hts hN 36 0 hn70 z73 (L := 10) (LN := 10) rfl rfl (fun _ => rfl) rfl rfl la_28 rfl (by decide) (by decide) (by decide) dX7_init_158 (fun H hN => ?_)
  rw [← en74, ← ef75, ← eg76] at hN
  refine W_cnt (c1 := n74 - n) (s1 := SL n74 - SL n) (by rw [en74]) (by rw [en74]) ?_
  have hn77 : n ≤ n74 := by omega
  refine W.eq (g2 := F0 m 160 ls (.ref (ra G 36 0) :: .ref (ra G 20 0) :: [])) rfl ?_
  obtain ⟨z78, h⟩ := mm_if h
  obtain ⟨g79, eg79, h⟩ := mm_lt h
  refine mm_putA (f' := f75) (g' := g79) hx hb hts hown hN 20 0 9 z78 rfl rfl iX7 tyX7 tyX7_ok nmX7 (by decide) la_87 (Or.inl hin) (Or.inl rfl) rfl rfl (Nat.le_of_ble_eq_true rfl) (fun r' i' hne => ⟨rfl, by rw [eg79]; exact upg_other _ _ _ _ _ hne⟩) (by rw [eg79, upg_self]; rfl) dX7_init_160 (fun H locs hN => ?_)
  refine lv_aload_n hx hb dX7_init_163 rfl (lv_at hl 0 rfl) ?_
  refine lv_bipush (v := 10) hx hb dX7_init_164 (by decide) ?_
  obtain ⟨z80, h⟩ := mm_if h
  obtain ⟨n81, en81, h⟩ := mm_lt h
  obtain ⟨f82, ef82, h⟩ := mm_lt h
  obtain ⟨g83, eg83, h⟩ := mm_lt h
  refine mm_nwaA 0 (ty := .int) hx hb hts hN 37 0 hn77 z80 (L := 10) (LN := 10) rfl rfl (fun _ => rfl) rfl rfl la_28 rfl (by decide) (by decide) (by decide) dX7_init_166 (fun H hN => ?_)
  rw [← en81, ← ef82, ← eg83] at hN
  refine W_cnt (c1 := n81 - n) (s1 := SL n81 - SL n) (by rw [en81]) (by rw [en81]) ?_
  have hn84 : n ≤ n81 := by omega
  refine W.eq (g2 := F0 m 168 ls (.ref (ra G 37 0) :: .ref (ra G 20 0) :: [])) rfl ?_
  refine lv_dup hx hb dX7_init_168 rfl ?_
  refine lv_iconst (v := 0) hx hb dX7_init_169 (by decide) ?_
  refine lv_iconst (v := (-1)) hx hb dX7_init_170 (by decide) ?_
  obtain ⟨z85, h⟩ := mm_if h
  obtain ⟨f86, ef86, h⟩ := mm_lt h
  refine mm_istA hx hb hN 37 0 z85 (L := 10) (j := 0) (x := (-1)) (fun _ => rfl) (okI_in (by decide +kernel)) dX7_init_171 (fun H locs hN => ?_)
  rw [show ((0 : Int32).toNatClampNeg) = 0 from by decide] at hN
  rw [← ef86] at hN
  refine lv_dup hx hb dX7_init_172 rfl ?_
  refine lv_iconst (v := 1) hx hb dX7_init_173 (by decide) ?_
  refine lv_iconst (v := (-1)) hx hb dX7_init_174 (by decide) ?_
  obtain ⟨f87, ef87, h⟩ := mm_lt h
  refine mm_istA hx hb hN 37 0 z85 (L := 10) (j := 1) (x := (-1)) (fun _ => rfl) (okI_in (by decide +kernel)) dX7_init_175 (fun H locs hN => ?_)
  rw [show ((1 : Int32).toNatClampNeg) = 1 from by decide] at hN
  rw [← ef87] at hN
  refine lv_dup hx hb dX7_init_176 rfl ?_
  refine lv_iconst (v := 2) hx hb dX7_init_177 (by decide) ?_
  refine lv_iconst (v := (-1)) hx hb dX7_init_178 (by decide) ?_
  obtain ⟨f88, ef88, h⟩ := mm_lt h
  refine mm_istA hx hb hN 37 0 z85 (L := 10) (j := 2) (x := (-1)) (fun _ => rfl) (okI_in (by decide +kernel)) dX7_init_179 (fun H locs hN => ?_)
  rw [show ((2 : Int32).toNatClampNeg) = 2 from by decide] at hN
  rw [← ef88] at hN
  refine lv_dup hx hb dX7_init_180 rfl ?_
  refine lv_iconst (v := 3) hx hb dX7_init_181 (by decide) ?_
  refine lv_iconst (v := (-1)) hx hb dX7_init_182 (by decide) ?_
  obtain ⟨f89, ef89, h⟩ := mm_lt h
  refine mm_istA hx hb hN 37 0 z85 (L := 10) (j := 3) (x := (-1)) (fun _ => rfl) (okI_in (by decide +kernel)) dX7_init_183 (fun H locs hN => ?_)
  rw [show ((3 : Int32).toNatClampNeg) = 3 from by decide] at hN
  rw [← ef89] at hN
  refine lv_dup hx hb dX7_init_184 rfl ?_
  refine lv_iconst (v := 4) hx hb dX7_init_185 (by decide) ?_
  refine lv_iconst (v := (-1)) hx hb dX7_init_186 (by decide) ?_
  obtain ⟨f90, ef90, h⟩ := mm_lt h
  refine mm_istA hx hb hN 37 0 z85 (L := 10) (j := 4) (x := (-1)) (fun _ => rfl) (okI_in (by decide +kernel)) dX7_init_187 (fun H locs hN => ?_)
  rw [show ((4 : Int32).toNatClampNeg) = 4 from by decide] at hN
  rw [← ef90] at hN
  refine lv_dup hx hb dX7_init_188 rfl ?_
  refine lv_iconst (v := 5) hx hb dX7_init_189 (by decide) ?_
  refine lv_iconst (v := (-1)) hx hb dX7_init_190 (by decide) ?_
  obtain ⟨f91, ef91, h⟩ := mm_lt h
  refine mm_istA hx hb hN 37 0 z85 (L := 10) (j := 5) (x := (-1)) (fun _ => rfl) (okI_in (by decide +kernel)) dX7_init_191 (fun H locs hN => ?_)
  rw [show ((5 : Int32).toNatClampNeg) = 5 from by decide] at hN
  rw [← ef91] at hN
  refine lv_dup hx hb dX7_init_192 rfl ?_
  refine lv_bipush (v := 6) hx hb dX7_init_193 (by decide) ?_
  refine lv_iconst (v := (-1)) hx hb dX7_init_195 (by decide) ?_
  obtain ⟨f92, ef92, h⟩ := mm_lt h
  refine mm_istA hx hb hN 37 0 z85 (L := 10) (j := 6) (x := (-1)) (fun _ => rfl) (okI_in (by decide +kernel)) dX7_init_196 (fun H locs hN => ?_)
  rw [show ((6 : Int32).toNatClampNeg) = 6 from by decide] at hN
  rw [← ef92] at hN
  refine lv_dup hx hb dX7_init_197 rfl ?_
  refine lv_bipush (v := 7) hx hb dX7_init_198 (by decide) ?_
  refine lv_iconst (v := (-1)) hx hb dX7_init_200 (by decide) ?_
  obtain ⟨f93, ef93, h⟩ := mm_lt h
  refine mm_istA hx hb hN 37 0 z85 (L := 10) (j := 7) (x := (-1)) (fun _ => rfl) (okI_in (by decide +kernel)) dX7_init_201 (fun H locs hN => ?_)
  rw [show ((7 : Int32).toNatClampNeg) = 7 from by decide] at hN
  rw [← ef93] at hN
  refine lv_dup hx hb dX7_init_202 rfl ?_
  refine lv_bipush (v := 8) hx hb dX7_init_203 (by decide) ?_
  refine lv_iconst (v := (-1)) hx hb dX7_init_205 (by decide) ?_
  obtain ⟨f94, ef94, h⟩ := mm_lt h
  refine mm_istA hx hb hN 37 0 z85 (L := 10) (j := 8) (x := (-1)) (fun _ => rfl) (okI_in (by decide +kernel)) dX7_init_206 (fun H locs hN => ?_)
  rw [show ((8 : Int32).toNatClampNeg) = 8 from by decide] at hN
  rw [← ef94] at hN
  refine lv_dup hx hb dX7_init_207 rfl ?_
  refine lv_bipush (v := 9) hx hb dX7_init_208 (by decide) ?_
  refine lv_iconst (v := (-1)) hx hb dX7_init_210 (by decide) ?_
  obtain ⟨f95, ef95, h⟩ := mm_lt h
  refine mm_istA hx hb hN 37 0 z85 (L := 10) (j := 9) (x := (-1)) (fun _ => rfl) (okI_in (by decide +kernel)) dX7_init_211 (fun H locs hN => ?_)
  rw [show ((9 : Int32).toNatClampNeg) = 9 from by decide] at hN
  rw [← ef95] at hN
  obtain ⟨z96, h⟩ := mm_if h
  obtain ⟨g97, eg97, h⟩ := mm_lt h
  refine mm_putA (f' := f95) (g' := g97) hx hb hts hown hN 20 0 10 z96 rfl rfl iX7 tyX7 tyX7_ok nmX7 (by decide) la_88 (Or.inl hin) (Or.inl rfl) rfl rfl (Nat.le_of_ble_eq_true rfl) (fun r' i' hne => ⟨rfl, by rw [eg97]; exact upg_other _ _ _ _ _ hne⟩) (by rw [eg97, upg_self]; rfl) dX7_init_212 (fun H locs hN => ?_)
  refine lv_aload_n hx hb dX7_init_215 rfl (lv_at hl 0 rfl) ?_
  refine lv_bipush (v := 20) hx hb dX7_init_216 (by decide) ?_
  obtain ⟨z98, h⟩ := mm_if h
  obtain ⟨n99, en99, h⟩ := mm_lt h
  obtain ⟨f100, ef100, h⟩ := mm_lt h
  obtain ⟨g101, eg101, h⟩ := mm_lt h
  refine mm_nwaA 0 (ty := .int) hx hb hts hN 38 0 hn84 z98 (L := 20) (LN := 20) rfl rfl (fun _ => rfl) rfl rfl la_28 rfl (by decide) (by decide) (by decide) dX7_init_218 (fun H hN => ?_)
  rw [← en99, ← ef100, ← eg101] at hN
  refine W_cnt (c1 := n99 - n) (s1 := SL n99 - SL n) (by rw [en99]) (by rw [en99]) ?_
  have hn102 : n ≤ n99 := by omega
  refine W.eq (g2 := F0 m 220 ls (.ref (ra G 38 0) :: .ref (ra G 20 0) :: [])) rfl ?_
  refine lv_dup hx hb dX7_init_220 rfl ?_
  refine lv_iconst (v := 0) hx hb dX7_init_221 (by decide) ?_
  refine lv_iconst (v := (-1)) hx hb dX7_init_222 (by decide) ?_
  obtain ⟨z103, h⟩ := mm_if h
  obtain ⟨f104, ef104, h⟩ := mm_lt h
  refine mm_istA hx hb hN 38 0 z103 (L := 20) (j := 0) (x := (-1)) (fun _ => rfl) (okI_in (by decide +kernel)) dX7_init_223 (fun H locs hN => ?_)
  rw [show ((0 : Int32).toNatClampNeg) = 0 from by decide] at hN
  rw [← ef104] at hN
  refine lv_dup hx hb dX7_init_224 rfl ?_
  refine lv_iconst (v := 1) hx hb dX7_init_225 (by decide) ?_
  refine lv_iconst (v := (-1)) hx hb dX7_init_226 (by decide) ?_
  obtain ⟨f105, ef105, h⟩ := mm_lt h
  refine mm_istA hx hb hN 38 0 z103 (L := 20) (j := 1) (x := (-1)) (fun _ => rfl) (okI_in (by decide +kernel)) dX7_init_227 (fun H locs hN => ?_)
  rw [show ((1 : Int32).toNatClampNeg) = 1 from by decide] at hN
  rw [← ef105] at hN
  refine lv_dup hx hb dX7_init_228 rfl ?_
  refine lv_iconst (v := 2) hx hb dX7_init_229 (by decide) ?_
  refine lv_iconst (v := (-1)) hx hb dX7_init_230 (by decide) ?_
  obtain ⟨f106, ef106, h⟩ := mm_lt h
  refine mm_istA hx hb hN 38 0 z103 (L := 20) (j := 2) (x := (-1)) (fun _ => rfl) (okI_in (by decide +kernel)) dX7_init_231 (fun H locs hN => ?_)
  rw [show ((2 : Int32).toNatClampNeg) = 2 from by decide] at hN
  rw [← ef106] at hN
  refine lv_dup hx hb dX7_init_232 rfl ?_
  refine lv_iconst (v := 3) hx hb dX7_init_233 (by decide) ?_
  refine lv_iconst (v := (-1)) hx hb dX7_init_234 (by decide) ?_
  obtain ⟨f107, ef107, h⟩ := mm_lt h
  refine mm_istA hx hb hN 38 0 z103 (L := 20) (j := 3) (x := (-1)) (fun _ => rfl) (okI_in (by decide +kernel)) dX7_init_235 (fun H locs hN => ?_)
  rw [show ((3 : Int32).toNatClampNeg) = 3 from by decide] at hN
  rw [← ef107] at hN
  refine lv_dup hx hb dX7_init_236 rfl ?_
  refine lv_iconst (v := 4) hx hb dX7_init_237 (by decide) ?_
  refine lv_iconst (v := (-1)) hx hb dX7_init_238 (by decide) ?_
  obtain ⟨f108, ef108, h⟩ := mm_lt h
  refine mm_istA hx hb hN 38 0 z103 (L := 20) (j := 4) (x := (-1)) (fun _ => rfl) (okI_in (by decide +kernel)) dX7_init_239 (fun H locs hN => ?_)
  rw [show ((4 : Int32).toNatClampNeg) = 4 from by decide] at hN
  rw [← ef108] at hN
  refine lv_dup hx hb dX7_init_240 rfl ?_
  refine lv_iconst (v := 5) hx hb dX7_init_241 (by decide) ?_
  refine lv_iconst (v := (-1)) hx hb dX7_init_242 (by decide) ?_
  obtain ⟨f109, ef109, h⟩ := mm_lt h
  refine mm_istA hx hb hN 38 0 z103 (L := 20) (j := 5) (x := (-1)) (fun _ => rfl) (okI_in (by decide +kernel)) dX7_init_243 (fun H locs hN => ?_)
  rw [show ((5 : Int32).toNatClampNeg) = 5 from by decide] at hN
  rw [← ef109] at hN
  refine lv_dup hx hb dX7_init_244 rfl ?_
  refine lv_bipush (v := 6) hx hb dX7_init_245 (by decide) ?_
  refine lv_iconst (v := (-1)) hx hb dX7_init_247 (by decide) ?_
  obtain ⟨f110, ef110, h⟩ := mm_lt h
  refine mm_istA hx hb hN 38 0 z103 (L := 20) (j := 6) (x := (-1)) (fun _ => rfl) (okI_in (by decide +kernel)) dX7_init_248 (fun H locs hN => ?_)
  rw [show ((6 : Int32).toNatClampNeg) = 6 from by decide] at hN
  rw [← ef110] at hN
  refine lv_dup hx hb dX7_init_249 rfl ?_
  refine lv_bipush (v := 7) hx hb dX7_init_250 (by decide) ?_
  refine lv_iconst (v := (-1)) hx hb dX7_init_252 (by decide) ?_
  obtain ⟨f111, ef111, h⟩ := mm_lt h
  refine mm_istA hx hb hN 38 0 z103 (L := 20) (j := 7) (x := (-1)) (fun _ => rfl) (okI_in (by decide +kernel)) dX7_init_253 (fun H locs hN => ?_)
  rw [show ((7 : Int32).toNatClampNeg) = 7 from by decide] at hN
  rw [← ef111] at hN
  refine lv_dup hx hb dX7_init_254 rfl ?_
  refine lv_bipush (v := 8) hx hb dX7_init_255 (by decide) ?_
  refine lv_iconst (v := (-1)) hx hb dX7_init_257 (by decide) ?_
  obtain ⟨f112, ef112, h⟩ := mm_lt h
  refine mm_istA hx hb hN 38 0 z103 (L := 20) (j := 8) (x := (-1)) (fun _ => rfl) (okI_in (by decide +kernel)) dX7_init_258 (fun H locs hN => ?_)
  rw [show ((8 : Int32).toNatClampNeg) = 8 from by decide] at hN
  rw [← ef112] at hN
  refine lv_dup hx hb dX7_init_259 rfl ?_
  refine lv_bipush (v := 9) hx hb dX7_init_260 (by decide) ?_
  refine lv_iconst (v := (-1)) hx hb dX7_init_262 (by decide) ?_
  obtain ⟨f113, ef113, h⟩ := mm_lt h
  refine mm_istA hx hb hN 38 0 z103 (L := 20) (j := 9) (x := (-1)) (fun _ => rfl) (okI_in (by decide +kernel)) dX7_init_263 (fun H locs hN => ?_)
  rw [show ((9 : Int32).toNatClampNeg) = 9 from by decide] at hN
  rw [← ef113] at hN
  refine lv_dup hx hb dX7_init_264 rfl ?_
  refine lv_bipush (v := 10) hx hb dX7_init_265 (by decide) ?_
  refine lv_iconst (v := (-1)) hx hb dX7_init_267 (by decide) ?_
  obtain ⟨f114, ef114, h⟩ := mm_lt h
  refine mm_istA hx hb hN 38 0 z103 (L := 20) (j := 10) (x := (-1)) (fun _ => rfl) (okI_in (by decide +kernel)) dX7_init_268 (fun H locs hN => ?_)
  rw [show ((10 : Int32).toNatClampNeg) = 10 from by decide] at hN
  rw [← ef114] at hN
  refine lv_dup hx hb dX7_init_269 rfl ?_
  refine lv_bipush (v := 11) hx hb dX7_init_270 (by decide) ?_
  refine lv_iconst (v := (-1)) hx hb dX7_init_272 (by decide) ?_
  obtain ⟨f115, ef115, h⟩ := mm_lt h
  refine mm_istA hx hb hN 38 0 z103 (L := 20) (j := 11) (x := (-1)) (fun _ => rfl) (okI_in (by decide +kernel)) dX7_init_273 (fun H locs hN => ?_)
  rw [show ((11 : Int32).toNatClampNeg) = 11 from by decide] at hN
  rw [← ef115] at hN
  refine lv_dup hx hb dX7_init_274 rfl ?_
  refine lv_bipush (v := 12) hx hb dX7_init_275 (by decide) ?_
  refine lv_iconst (v := (-1)) hx hb dX7_init_277 (by decide) ?_
  obtain ⟨f116, ef116, h⟩ := mm_lt h
  refine mm_istA hx hb hN 38 0 z103 (L := 20) (j := 12) (x := (-1)) (fun _ => rfl) (okI_in (by decide +kernel)) dX7_init_278 (fun H locs hN => ?_)
  rw [show ((12 : Int32).toNatClampNeg) = 12 from by decide] at hN
  rw [← ef116] at hN
  refine lv_dup hx hb dX7_init_279 rfl ?_
  refine lv_bipush (v := 13) hx hb dX7_init_280 (by decide) ?_
  refine lv_iconst (v := (-1)) hx hb dX7_init_282 (by decide) ?_
  obtain ⟨f117, ef117, h⟩ := mm_lt h
  refine mm_istA hx hb hN 38 0 z103 (L := 20) (j := 13) (x := (-1)) (fun _ => rfl) (okI_in (by decide +kernel)) dX7_init_283 (fun H locs hN => ?_)
  rw [show ((13 : Int32).toNatClampNeg) = 13 from by decide] at hN
  rw [← ef117] at hN
  refine lv_dup hx hb dX7_init_284 rfl ?_
  refine lv_bipush (v := 14) hx hb dX7_init_285 (by decide) ?_
  refine lv_iconst (v := (-1)) hx hb dX7_init_287 (by decide) ?_
  obtain ⟨f118, ef118, h⟩ := mm_lt h
  refine mm_istA hx hb hN 38 0 z103 (L := 20) (j := 14) (x := (-1)) (fun _ => rfl) (okI_in (by decide +kernel)) dX7_init_288 (fun H locs hN => ?_)
  rw [show ((14 : Int32).toNatClampNeg) = 14 from by decide] at hN
  rw [← ef118] at hN
  refine lv_dup hx hb dX7_init_289 rfl ?_
  refine lv_bipush (v := 15) hx hb dX7_init_290 (by decide) ?_
  refine lv_iconst (v := (-1)) hx hb dX7_init_292 (by decide) ?_
  obtain ⟨f119, ef119, h⟩ := mm_lt h
  refine mm_istA hx hb hN 38 0 z103 (L := 20) (j := 15) (x := (-1)) (fun _ => rfl) (okI_in (by decide +kernel)) dX7_init_293 (fun H locs hN => ?_)
  rw [show ((15 : Int32).toNatClampNeg) = 15 from by decide] at hN
  rw [← ef119] at hN
  refine lv_dup hx hb dX7_init_294 rfl ?_
  refine lv_bipush (v := 16) hx hb dX7_init_295 (by decide) ?_
  refine lv_iconst (v := (-1)) hx hb dX7_init_297 (by decide) ?_
  obtain ⟨f120, ef120, h⟩ := mm_lt h
  refine mm_istA hx hb hN 38 0 z103 (L := 20) (j := 16) (x := (-1)) (fun _ => rfl) (okI_in (by decide +kernel)) dX7_init_298 (fun H locs hN => ?_)
  rw [show ((16 : Int32).toNatClampNeg) = 16 from by decide] at hN
  rw [← ef120] at hN
  refine lv_dup hx hb dX7_init_299 rfl ?_
  refine lv_bipush (v := 17) hx hb dX7_init_300 (by decide) ?_
  refine lv_iconst (v := (-1)) hx hb dX7_init_302 (by decide) ?_
  obtain ⟨f121, ef121, h⟩ := mm_lt h
  refine mm_istA hx hb hN 38 0 z103 (L := 20) (j := 17) (x := (-1)) (fun _ => rfl) (okI_in (by decide +kernel)) dX7_init_303 (fun H locs hN => ?_)
  rw [show ((17 : Int32).toNatClampNeg) = 17 from by decide] at hN
  rw [← ef121] at hN
  refine lv_dup hx hb dX7_init_304 rfl ?_
  refine lv_bipush (v := 18) hx hb dX7_init_305 (by decide) ?_
  refine lv_iconst (v := (-1)) hx hb dX7_init_307 (by decide) ?_
  obtain ⟨f122, ef122, h⟩ := mm_lt h
  refine mm_istA hx hb hN 38 0 z103 (L := 20) (j := 18) (x := (-1)) (fun _ => rfl) (okI_in (by decide +kernel)) dX7_init_308 (fun H locs hN => ?_)
  rw [show ((18 : Int32).toNatClampNeg) = 18 from by decide] at hN
  rw [← ef122] at hN
  refine lv_dup hx hb dX7_init_309 rfl ?_
  refine lv_bipush (v := 19) hx hb dX7_init_310 (by decide) ?_
  refine lv_iconst (v := (-1)) hx hb dX7_init_312 (by decide) ?_
  obtain ⟨f123, ef123, h⟩ := mm_lt h
  refine mm_istA hx hb hN 38 0 z103 (L := 20) (j := 19) (x := (-1)) (fun _ => rfl) (okI_in (by decide +kernel)) dX7_init_313 (fun H locs hN => ?_)
  rw [show ((19 : Int32).toNatClampNeg) = 19 from by decide] at hN
  rw [← ef123] at hN
  obtain ⟨z124, h⟩ := mm_if h
  obtain ⟨g125, eg125, h⟩ := mm_lt h
  refine mm_putA (f' := f123) (g' := g125) hx hb hts hown hN 20 0 11 z124 rfl rfl iX7 tyX7 tyX7_ok nmX7 (by decide) la_89 (Or.inl hin) (Or.inl rfl) rfl rfl (Nat.le_of_ble_eq_true rfl) (fun r' i' hne => ⟨rfl, by rw [eg125]; exact upg_other _ _ _ _ _ hne⟩) (by rw [eg125, upg_self]; rfl) dX7_init_314 (fun H locs hN => ?_)
  refine lv_aload_n hx hb dX7_init_317 rfl (lv_at hl 0 rfl) ?_
  refine lv_bipush (v := 48) hx hb dX7_init_318 (by decide) ?_
  obtain ⟨z126, h⟩ := mm_if h
  obtain ⟨n127, en127, h⟩ := mm_lt h
  obtain ⟨f128, ef128, h⟩ := mm_lt h
  obtain ⟨g129, eg129, h⟩ := mm_lt h
  refine mm_nwaA 0 (ty := .int) hx hb hts hN 22 0 hn102 z126 (L := 48) (LN := 48) rfl rfl (fun _ => rfl) rfl rfl la_28 rfl (by decide) (by decide) (by decide) dX7_init_320 (fun H hN => ?_)
  rw [← en127, ← ef128, ← eg129] at hN
  refine W_cnt (c1 := n127 - n) (s1 := SL n127 - SL n) (by rw [en127]) (by rw [en127]) ?_
  have hn130 : n ≤ n127 := by omega
  refine W.eq (g2 := F0 m 322 ls (.ref (ra G 22 0) :: .ref (ra G 20 0) :: [])) rfl ?_
  obtain ⟨z131, h⟩ := mm_if h
  obtain ⟨g132, eg132, h⟩ := mm_lt h
  refine mm_putA (f' := f128) (g' := g132) hx hb hts hown hN 20 0 12 z131 rfl rfl iX7 tyX7 tyX7_ok nmX7 (by decide) la_90 (Or.inl hin) (Or.inl rfl) rfl rfl (Nat.le_of_ble_eq_true rfl) (fun r' i' hne => ⟨rfl, by rw [eg132]; exact upg_other _ _ _ _ _ hne⟩) (by rw [eg132, upg_self]; rfl) dX7_init_322 (fun H locs hN => ?_)
  refine lv_aload_n hx hb dX7_init_325 rfl (lv_at hl 0 rfl) ?_
  refine lv_bipush (v := 24) hx hb dX7_init_326 (by decide) ?_
  obtain ⟨z133, h⟩ := mm_if h
  obtain ⟨n134, en134, h⟩ := mm_lt h
  obtain ⟨f135, ef135, h⟩ := mm_lt h
  obtain ⟨g136, eg136, h⟩ := mm_lt h
  refine mm_nwaA 0 (ty := .int) hx hb hts hN 40 0 hn130 z133 (L := 24) (LN := 24) rfl rfl (fun _ => rfl) rfl rfl la_28 rfl (by decide) (by decide) (by decide) dX7_init_328 (fun H hN => ?_)
  rw [← en134, ← ef135, ← eg136] at hN
  refine W_cnt (c1 := n134 - n) (s1 := SL n134 - SL n) (by rw [en134]) (by rw [en134]) ?_
  have hn137 : n ≤ n134 := by omega
  refine W.eq (g2 := F0 m 330 ls (.ref (ra G 40 0) :: .ref (ra G 20 0) :: [])) rfl ?_
  obtain ⟨z138, h⟩ := mm_if h
  obtain ⟨g139, eg139, h⟩ := mm_lt h
  refine mm_putA (f' := f135) (g' := g139) hx hb hts hown hN 20 0 14 z138 rfl rfl iX7 tyX7 tyX7_ok nmX7 (by decide) la_91 (Or.inl hin) (Or.inl rfl) rfl rfl (Nat.le_of_ble_eq_true rfl) (fun r' i' hne => ⟨rfl, by rw [eg139]; exact upg_other _ _ _ _ _ hne⟩) (by rw [eg139, upg_self]; rfl) dX7_init_330 (fun H locs hN => ?_)
  refine lv_aload_n hx hb dX7_init_333 rfl (lv_at hl 0 rfl) ?_
  refine lv_bipush (v := 24) hx hb dX7_init_334 (by decide) ?_
  obtain ⟨z140, h⟩ := mm_if h
  obtain ⟨n141, en141, h⟩ := mm_lt h
  obtain ⟨f142, ef142, h⟩ := mm_lt h
  obtain ⟨g143, eg143, h⟩ := mm_lt h
  refine mm_nwaA 0 (ty := .int) hx hb hts hN 41 0 hn137 z140 (L := 24) (LN := 24) rfl rfl (fun _ => rfl) rfl rfl la_28 rfl (by decide) (by decide) (by decide) dX7_init_336 (fun H hN => ?_)
  rw [← en141, ← ef142, ← eg143] at hN
  refine W_cnt (c1 := n141 - n) (s1 := SL n141 - SL n) (by rw [en141]) (by rw [en141]) ?_
  have hn144 : n ≤ n141 := by omega
  refine W.eq (g2 := F0 m 338 ls (.ref (ra G 41 0) :: .ref (ra G 20 0) :: [])) rfl ?_
  obtain ⟨z145, h⟩ := mm_if h
  obtain ⟨g146, eg146, h⟩ := mm_lt h
  refine mm_putA (f' := f142) (g' := g146) hx hb hts hown hN 20 0 15 z145 rfl rfl iX7 tyX7 tyX7_ok nmX7 (by decide) la_92 (Or.inl hin) (Or.inl rfl) rfl rfl (Nat.le_of_ble_eq_true rfl) (fun r' i' hne => ⟨rfl, by rw [eg146]; exact upg_other _ _ _ _ _ hne⟩) (by rw [eg146, upg_self]; rfl) dX7_init_338 (fun H locs hN => ?_)
  refine lv_aload_n hx hb dX7_init_341 rfl (lv_at hl 0 rfl) ?_
  refine lv_bipush (v := 24) hx hb dX7_init_342 (by decide) ?_
  obtain ⟨z147, h⟩ := mm_if h
  obtain ⟨n148, en148, h⟩ := mm_lt h
  obtain ⟨f149, ef149, h⟩ := mm_lt h
  obtain ⟨g150, eg150, h⟩ := mm_lt h
  refine mm_nwaA 0 (ty := .int) hx hb hts hN 42 0 hn144 z147 (L := 24) (LN := 24) rfl rfl (fun _ => rfl) rfl rfl la_28 rfl (by decide) (by decide) (by decide) dX7_init_344 (fun H hN => ?_)
  rw [← en148, ← ef149, ← eg150] at hN
  refine W_cnt (c1 := n148 - n) (s1 := SL n148 - SL n) (by rw [en148]) (by rw [en148]) ?_
  have hn151 : n ≤ n148 := by omega
  refine W.eq (g2 := F0 m 346 ls (.ref (ra G 42 0) :: .ref (ra G 20 0) :: [])) rfl ?_
  obtain ⟨z152, h⟩ := mm_if h
  obtain ⟨g153, eg153, h⟩ := mm_lt h
  refine mm_putA (f' := f149) (g' := g153) hx hb hts hown hN 20 0 16 z152 rfl rfl iX7 tyX7 tyX7_ok nmX7 (by decide) la_93 (Or.inl hin) (Or.inl rfl) rfl rfl (Nat.le_of_ble_eq_true rfl) (fun r' i' hne => ⟨rfl, by rw [eg153]; exact upg_other _ _ _ _ _ hne⟩) (by rw [eg153, upg_self]; rfl) dX7_init_346 (fun H locs hN => ?_)
  refine lv_aload_n hx hb dX7_init_349 rfl (lv_at hl 0 rfl) ?_
  refine lv_bipush (v := 24) hx hb dX7_init_350 (by decide) ?_
  obtain ⟨z154, h⟩ := mm_if h
  obtain ⟨n155, en155, h⟩ := mm_lt h
  obtain ⟨f156, ef156, h⟩ := mm_lt h
  obtain ⟨g157, eg157, h⟩ := mm_lt h
  refine mm_nwaA 0 (ty := .int) hx hb hts hN 43 0 hn151 z154 (L := 24) (LN := 24) rfl rfl (fun _ => rfl) rfl rfl la_28 rfl (by decide) (by decide) (by decide) dX7_init_352 (fun H hN => ?_)
  rw [← en155, ← ef156, ← eg157] at hN
  refine W_cnt (c1 := n155 - n) (s1 := SL n155 - SL n) (by rw [en155]) (by rw [en155]) ?_
  have hn158 : n ≤ n155 := by omega
  refine W.eq (g2 := F0 m 354 ls (.ref (ra G 43 0) :: .ref (ra G 20 0) :: [])) rfl ?_
  obtain ⟨z159, h⟩ := mm_if h
  obtain ⟨g160, eg160, h⟩ := mm_lt h
  refine mm_putA (f' := f156) (g' := g160) hx hb hts hown hN 20 0 17 z159 rfl rfl iX7 tyX7 tyX7_ok nmX7 (by decide) la_94 (Or.inl hin) (Or.inl rfl) rfl rfl (Nat.le_of_ble_eq_true rfl) (fun r' i' hne => ⟨rfl, by rw [eg160]; exact upg_other _ _ _ _ _ hne⟩) (by rw [eg160, upg_self]; rfl) dX7_init_354 (fun H locs hN => ?_)
  refine lv_aload_n hx hb dX7_init_357 rfl (lv_at hl 0 rfl) ?_
  refine lv_bipush (v := 24) hx hb dX7_init_358 (by decide) ?_
  obtain ⟨z161, h⟩ := mm_if h
  obtain ⟨n162, en162, h⟩ := mm_lt h
  obtain ⟨f163, ef163, h⟩ := mm_lt h
  obtain ⟨g164, eg164, h⟩ := mm_lt h
  refine mm_nwaA 0 (ty := .int) hx hb hts hN 44 0 hn158 z161 (L := 24) (LN := 24) rfl rfl (fun _ => rfl) rfl rfl la_28 rfl (by decide) (by decide) (by decide) dX7_init_360 (fun H hN => ?_)
  rw [← en162, ← ef163, ← eg164] at hN
  refine W_cnt (c1 := n162 - n) (s1 := SL n162 - SL n) (by rw [en162]) (by rw [en162]) ?_
  have hn165 : n ≤ n162 := by omega
  refine W.eq (g2 := F0 m 362 ls (.ref (ra G 44 0) :: .ref (ra G 20 0) :: [])) rfl ?_
  obtain ⟨z166, h⟩ := mm_if h
  obtain ⟨g167, eg167, h⟩ := mm_lt h
  refine mm_putA (f' := f163) (g' := g167) hx hb hts hown hN 20 0 18 z166 rfl rfl iX7 tyX7 tyX7_ok nmX7 (by decide) la_95 (Or.inl hin) (Or.inl rfl) rfl rfl (Nat.le_of_ble_eq_true rfl) (fun r' i' hne => ⟨rfl, by rw [eg167]; exact upg_other _ _ _ _ _ hne⟩) (by rw [eg167, upg_self]; rfl) dX7_init_362 (fun H locs hN => ?_)
  refine lv_aload_n hx hb dX7_init_365 rfl (lv_at hl 0 rfl) ?_
  refine lv_bipush (v := 24) hx hb dX7_init_366 (by decide) ?_
  obtain ⟨z168, h⟩ := mm_if h
  obtain ⟨n169, en169, h⟩ := mm_lt h
  obtain ⟨f170, ef170, h⟩ := mm_lt h
  obtain ⟨g171, eg171, h⟩ := mm_lt h
  refine mm_nwaA 0 (ty := .int) hx hb hts hN 45 0 hn165 z168 (L := 24) (LN := 24) rfl rfl (fun _ => rfl) rfl rfl la_28 rfl (by decide) (by decide) (by decide) dX7_init_368 (fun H hN => ?_)
  rw [← en169, ← ef170, ← eg171] at hN
  refine W_cnt (c1 := n169 - n) (s1 := SL n169 - SL n) (by rw [en169]) (by rw [en169]) ?_
  have hn172 : n ≤ n169 := by omega
  refine W.eq (g2 := F0 m 370 ls (.ref (ra G 45 0) :: .ref (ra G 20 0) :: [])) rfl ?_
  obtain ⟨z173, h⟩ := mm_if h
  obtain ⟨g174, eg174, h⟩ := mm_lt h
  refine mm_putA (f' := f170) (g' := g174) hx hb hts hown hN 20 0 19 z173 rfl rfl iX7 tyX7 tyX7_ok nmX7 (by decide) la_96 (Or.inl hin) (Or.inl rfl) rfl rfl (Nat.le_of_ble_eq_true rfl) (fun r' i' hne => ⟨rfl, by rw [eg174]; exact upg_other _ _ _ _ _ hne⟩) (by rw [eg174, upg_self]; rfl) dX7_init_370 (fun H locs hN => ?_)
  refine lv_aload_n hx hb dX7_init_373 rfl (lv_at hl 0 rfl) ?_
  refine lv_bipush (v := 24) hx hb dX7_init_374 (by decide) ?_
  obtain ⟨z175, h⟩ := mm_if h
  obtain ⟨n176, en176, h⟩ := mm_lt h
  obtain ⟨f177, ef177, h⟩ := mm_lt h
  obtain ⟨g178, eg178, h⟩ := mm_lt h
  refine mm_nwaA 0 (ty := .int) hx hb hts hN 46 0 hn172 z175 (L := 24) (LN := 24) rfl rfl (fun _ => rfl) rfl rfl la_28 rfl (by decide) (by decide) (by decide) dX7_init_376 (fun H hN => ?_)
  rw [← en176, ← ef177, ← eg178] at hN
  refine W_cnt (c1 := n176 - n) (s1 := SL n176 - SL n) (by rw [en176]) (by rw [en176]) ?_
  have hn179 : n ≤ n176 := by omega
  refine W.eq (g2 := F0 m 378 ls (.ref (ra G 46 0) :: .ref (ra G 20 0) :: [])) rfl ?_
  obtain ⟨z180, h⟩ := mm_if h
  obtain ⟨g181, eg181, h⟩ := mm_lt h
  refine mm_putA (f' := f177) (g' := g181) hx hb hts hown hN 20 0 20 z180 rfl rfl iX7 tyX7 tyX7_ok nmX7 (by decide) la_97 (Or.inl hin) (Or.inl rfl) rfl rfl (Nat.le_of_ble_eq_true rfl) (fun r' i' hne => ⟨rfl, by rw [eg181]; exact upg_other _ _ _ _ _ hne⟩) (by rw [eg181, upg_self]; rfl) dX7_init_378 (fun H locs hN => ?_)
  refine lv_aload_n hx hb dX7_init_381 rfl (lv_at hl 0 rfl) ?_
  refine lv_sipush (v := 150) hx hb dX7_init_382 (by decide) ?_
  obtain ⟨z182, h⟩ := mm_if h
  obtain ⟨n183, en183, h⟩ := mm_lt h
  obtain ⟨f184, ef184, h⟩ := mm_lt h
  obtain ⟨g185, eg185, h⟩ := mm_lt h
  refine mm_nwaA 0 (ty := .int) hx hb hts hN 23 0 hn179 z182 (L := 150) (LN := 150) rfl rfl (fun _ => rfl) rfl rfl la_28 rfl (by decide) (by decide) (by decide) dX7_init_385 (fun H hN => ?_)
  rw [← en183, ← ef184, ← eg185] at hN
  refine W_cnt (c1 := n183 - n) (s1 := SL n183 - SL n) (by rw [en183]) (by rw [en183]) ?_
  have hn186 : n ≤ n183 := by omega
  refine W.eq (g2 := F0 m 387 ls (.ref (ra G 23 0) :: .ref (ra G 20 0) :: [])) rfl ?_
  obtain ⟨z187, h⟩ := mm_if h
  obtain ⟨g188, eg188, h⟩ := mm_lt h
  refine mm_putA (f' := f184) (g' := g188) hx hb hts hown hN 20 0 22 z187 rfl rfl iX7 tyX7 tyX7_ok nmX7 (by decide) la_98 (Or.inl hin) (Or.inl rfl) rfl rfl (Nat.le_of_ble_eq_true rfl) (fun r' i' hne => ⟨rfl, by rw [eg188]; exact upg_other _ _ _ _ _ hne⟩) (by rw [eg188, upg_self]; rfl) dX7_init_387 (fun H locs hN => ?_)
  refine lv_aload_n hx hb dX7_init_390 rfl (lv_at hl 0 rfl) ?_
  refine lv_bipush (v := 24) hx hb dX7_init_391 (by decide) ?_
  obtain ⟨z189, h⟩ := mm_if h
  obtain ⟨n190, en190, h⟩ := mm_lt h
  obtain ⟨f191, ef191, h⟩ := mm_lt h
  obtain ⟨g192, eg192, h⟩ := mm_lt h
  refine mm_nwaA 1 (ty := .boolean) hx hb hts hN 24 0 hn186 z189 (L := 24) (LN := 24) rfl rfl (fun _ => rfl) rfl rfl la_99 rfl (by decide) (by decide) (by decide) dX7_init_393 (fun H hN => ?_)
  rw [← en190, ← ef191, ← eg192] at hN
  refine W_cnt (c1 := n190 - n) (s1 := SL n190 - SL n) (by rw [en190]) (by rw [en190]) ?_
  have hn193 : n ≤ n190 := by omega
  refine W.eq (g2 := F0 m 395 ls (.ref (ra G 24 0) :: .ref (ra G 20 0) :: [])) rfl ?_
  obtain ⟨z194, h⟩ := mm_if h
  obtain ⟨g195, eg195, h⟩ := mm_lt h
  refine mm_putA (f' := f191) (g' := g195) hx hb hts hown hN 20 0 23 z194 rfl rfl iX7 tyX7 tyX7_ok nmX7 (by decide) la_100 (Or.inl hin) (Or.inl rfl) rfl rfl (Nat.le_of_ble_eq_true rfl) (fun r' i' hne => ⟨rfl, by rw [eg195]; exact upg_other _ _ _ _ _ hne⟩) (by rw [eg195, upg_self]; rfl) dX7_init_395 (fun H locs hN => ?_)
  refine lv_aload_n hx hb dX7_init_398 rfl (lv_at hl 0 rfl) ?_
  refine lv_bipush (v := 50) hx hb dX7_init_399 (by decide) ?_
  obtain ⟨z196, h⟩ := mm_if h
  obtain ⟨n197, en197, h⟩ := mm_lt h
  obtain ⟨f198, ef198, h⟩ := mm_lt h
  obtain ⟨g199, eg199, h⟩ := mm_lt h
  refine mm_nwaA 0 (ty := .int) hx hb hts hN 25 0 hn193 z196 (L := 50) (LN := 50) rfl rfl (fun _ => rfl) rfl rfl la_28 rfl (by decide) (by decide) (by decide) dX7_init_401 (fun H hN => ?_)
  rw [← en197, ← ef198, ← eg199] at hN
  refine W_cnt (c1 := n197 - n) (s1 := SL n197 - SL n) (by rw [en197]) (by rw [en197]) ?_
  have hn200 : n ≤ n197 := by omega
  refine W.eq (g2 := F0 m 403 ls (.ref (ra G 25 0) :: .ref (ra G 20 0) :: [])) rfl ?_
  obtain ⟨z201, h⟩ := mm_if h
  obtain ⟨g202, eg202, h⟩ := mm_lt h
  refine mm_putA (f' := f198) (g' := g202) hx hb hts hown hN 20 0 25 z201 rfl rfl iX7 tyX7 tyX7_ok nmX7 (by decide) la_101 (Or.inl hin) (Or.inl rfl) rfl rfl (Nat.le_of_ble_eq_true rfl) (fun r' i' hne => ⟨rfl, by rw [eg202]; exact upg_other _ _ _ _ _ hne⟩) (by rw [eg202, upg_self]; rfl) dX7_init_403 (fun H locs hN => ?_)
  refine lv_aload_n hx hb dX7_init_406 rfl (lv_at hl 0 rfl) ?_
  refine lv_bipush (v := 80) hx hb dX7_init_407 (by decide) ?_
  obtain ⟨z203, h⟩ := mm_if h
  obtain ⟨n204, en204, h⟩ := mm_lt h
  obtain ⟨f205, ef205, h⟩ := mm_lt h
  obtain ⟨g206, eg206, h⟩ := mm_lt h
  refine mm_nwaA 0 (ty := .int) hx hb hts hN 26 0 hn200 z203 (L := 80) (LN := 80) rfl rfl (fun _ => rfl) rfl rfl la_28 rfl (by decide) (by decide) (by decide) dX7_init_409 (fun H hN => ?_)
  rw [← en204, ← ef205, ← eg206] at hN
  refine W_cnt (c1 := n204 - n) (s1 := SL n204 - SL n) (by rw [en204]) (by rw [en204]) ?_
  have hn207 : n ≤ n204 := by omega
  refine W.eq (g2 := F0 m 411 ls (.ref (ra G 26 0) :: .ref (ra G 20 0) :: [])) rfl ?_
  obtain ⟨z208, h⟩ := mm_if h
  obtain ⟨g209, eg209, h⟩ := mm_lt h
  refine mm_putA (f' := f205) (g' := g209) hx hb hts hown hN 20 0 26 z208 rfl rfl iX7 tyX7 tyX7_ok nmX7 (by decide) la_102 (Or.inl hin) (Or.inl rfl) rfl rfl (Nat.le_of_ble_eq_true rfl) (fun r' i' hne => ⟨rfl, by rw [eg209]; exact upg_other _ _ _ _ _ hne⟩) (by rw [eg209, upg_self]; rfl) dX7_init_411 (fun H locs hN => ?_)
  refine lv_aload_n hx hb dX7_init_414 rfl (lv_at hl 0 rfl) ?_
  refine lv_bipush (v := 48) hx hb dX7_init_415 (by decide) ?_
  obtain ⟨z210, h⟩ := mm_if h
  obtain ⟨n211, en211, h⟩ := mm_lt h
  obtain ⟨f212, ef212, h⟩ := mm_lt h
  obtain ⟨g213, eg213, h⟩ := mm_lt h
  refine mm_nwaA 0 (ty := .int) hx hb hts hN 27 0 hn207 z210 (L := 48) (LN := 48) rfl rfl (fun _ => rfl) rfl rfl la_28 rfl (by decide) (by decide) (by decide) dX7_init_417 (fun H hN => ?_)
  rw [← en211, ← ef212, ← eg213] at hN
  refine W_cnt (c1 := n211 - n) (s1 := SL n211 - SL n) (by rw [en211]) (by rw [en211]) ?_
  have hn214 : n ≤ n211 := by omega
  refine W.eq (g2 := F0 m 419 ls (.ref (ra G 27 0) :: .ref (ra G 20 0) :: [])) rfl ?_
  obtain ⟨z215, h⟩ := mm_if h
  obtain ⟨g216, eg216, h⟩ := mm_lt h
  refine mm_putA (f' := f212) (g' := g216) hx hb hts hown hN 20 0 32 z215 rfl rfl iX7 tyX7 tyX7_ok nmX7 (by decide) la_103 (Or.inl hin) (Or.inl rfl) rfl rfl (Nat.le_of_ble_eq_true rfl) (fun r' i' hne => ⟨rfl, by rw [eg216]; exact upg_other _ _ _ _ _ hne⟩) (by rw [eg216, upg_self]; rfl) dX7_init_419 (fun H locs hN => ?_)
  refine lv_aload_n hx hb dX7_init_422 rfl (lv_at hl 0 rfl) ?_
  refine lv_bipush (v := 48) hx hb dX7_init_423 (by decide) ?_
  obtain ⟨z217, h⟩ := mm_if h
  obtain ⟨n218, en218, h⟩ := mm_lt h
  obtain ⟨f219, ef219, h⟩ := mm_lt h
  obtain ⟨g220, eg220, h⟩ := mm_lt h
  refine mm_nwaA 0 (ty := .int) hx hb hts hN 28 0 hn214 z217 (L := 48) (LN := 48) rfl rfl (fun _ => rfl) rfl rfl la_28 rfl (by decide) (by decide) (by decide) dX7_init_425 (fun H hN => ?_)
  rw [← en218, ← ef219, ← eg220] at hN
  refine W_cnt (c1 := n218 - n) (s1 := SL n218 - SL n) (by rw [en218]) (by rw [en218]) ?_
  have hn221 : n ≤ n218 := by omega
  refine W.eq (g2 := F0 m 427 ls (.ref (ra G 28 0) :: .ref (ra G 20 0) :: [])) rfl ?_
  obtain ⟨z222, h⟩ := mm_if h
  obtain ⟨g223, eg223, h⟩ := mm_lt h
  refine mm_putA (f' := f219) (g' := g223) hx hb hts hown hN 20 0 33 z222 rfl rfl iX7 tyX7 tyX7_ok nmX7 (by decide) la_104 (Or.inl hin) (Or.inl rfl) rfl rfl (Nat.le_of_ble_eq_true rfl) (fun r' i' hne => ⟨rfl, by rw [eg223]; exact upg_other _ _ _ _ _ hne⟩) (by rw [eg223, upg_self]; rfl) dX7_init_427 (fun H locs hN => ?_)
  refine lv_iconst (v := 0) hx hb dX7_init_430 (by decide) ?_
  refine lv_istore_n (lv' := [(1, .int 0), (0, .ref (ra G 20 0))]) hx hb dX7_init_431 rfl hl (by decide) rfl (fun ls hl => ?_)
  exact LA_X7_init_432 C0 hin _ hn221 h _ _ _ hN (lv_sub hl [1, 0] rfl)
