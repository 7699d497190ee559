def S_X7_thick (f : F3) (x1 : Int32) (x2 : Int32) : Option (Int32 × F3) := mm_b2 (S_X7_isCell f x1) fun r2 f1 => if r2 = 0 then (mm_b2 (S_X7_refuse f1 (-3)) fun r15 f14 => some (r15, f14)) else (if okI x1 10 then (if (f1 30 0 x1.toNatClampNeg) = 4 then (mm_b2 (S_X7_refuse f1 (-5)) fun r13 f12 => some (r13, f12)) else (mm_b2 (S_X7_in f1 x2 0 3000) fun r7 f6 => if r7 = 0 then (mm_b2 (S_X7_refuse f6 (-7)) fun r11 f10 => some (r11, f10)) else (mm_let (up f6 31 0 x1.toNatClampNeg x2) fun f9 => some (f6 31 0 x1.toNatClampNeg, f9)))) else none)
set_option maxHeartbeats 4000000 in
set_option maxRecDepth 100000 in
theorem T_X7_thick (G : mmG) {f f' : F3} {rv : Int32} {x1 : Int32} {x2 : Int32} (h : S_X7_thick f x1 x2 = some (rv, f')) : mmM G yX7_thick cX7_thick 4 (some .int) 2 [.ref (ra G 20 0), .int x1, .int x2] f (some (.int rv)) f' := by
  refine mm_start (by decide +kernel) (Nat.le_of_ble_eq_true rfl) ?_
  intro p e s m args below meth c ls C0 hR hl
  obtain ⟨hx, hb, hml, hr, hown, hts, hlocks⟩ := id C0
  have hl : lv_has ls 4 [(0, .ref (ra G 20 0)), (1, .int x1), (2, .int x2)] := hl
  rw [S_X7_thick] at h
  refine lv_aload_n hx hb dX7_thick_0 rfl (lv_at hl 0 rfl) ?_
  refine lv_iload_n hx hb dX7_thick_1 rfl (lv_at hl 1 rfl) ?_
  obtain ⟨r2, f1, ef1, h⟩ := mm_b2e h
  refine mm_callV (v := some (.int r2)) (f1 := f1) (d0 := 1) (rest := []) [.int x1] C0 rfl hR 20 0 (T_X7_isCell G ef1) ws_X7_isCell lk_146 hd_X7_isCell ⟨by decide, by decide⟩ vl_20 rfl rfl rfl hl.1 rfl (Nat.le_of_ble_eq_true rfl) dX7_thick_2 (fun H locs hR => ?_)
  refine W.eq (g2 := F0 m 5 ls (.int r2 :: [])) rfl ?_
  refine lv_if_ne (tgt := 15) hx hb dX7_thick_5 (by decide) (fun c3 => ?_) (fun c3 => ?_)
  · rw [if_neg c3] at h
    refine lv_aload_n hx hb dX7_thick_15 rfl (lv_at hl 0 rfl) ?_
    refine mm_get hx hb hts hown hR 20 0 3 vl_20 (v := .ref (ra G 30 0)) rfl rfl iX7 (by decide) lk_140 rfl dX7_thick_16 ?_
    refine lv_iload_n hx hb dX7_thick_19 rfl (lv_at hl 1 rfl) ?_
    obtain ⟨z4, h⟩ := mm_if h
    refine mm_ild hx hb hR 30 0 vl_30 (L := 10) rfl (okI_in z4) dX7_thick_20 ?_
    refine lv_iconst (v := 4) hx hb dX7_thick_21 (by decide) ?_
    refine lv_icmp_ne (tgt := 32) hx hb dX7_thick_22 (by decide) (fun c5 => ?_) (fun c5 => ?_)
    · rw [if_neg c5] at h
      refine lv_iload_n hx hb dX7_thick_32 rfl (lv_at hl 2 rfl) ?_
      refine lv_iconst (v := 0) hx hb dX7_thick_33 (by decide) ?_
      refine lv_sipush (v := 3000) hx hb dX7_thick_34 (by decide) ?_
      obtain ⟨r7, f6, ef6, h⟩ := mm_b2e h
      refine mm_callS (v := some (.int r7)) (f1 := f6) (d0 := 0) (rest := []) [.int x2, .int 0, .int 3000] C0 rfl hR (T_X7_in G ef6) ws_X7_in lk_144 hd_X7_in ⟨by decide, by decide⟩ hl.1 rfl (Nat.le_of_ble_eq_true rfl) dX7_thick_37 (fun H locs hR => ?_)
      refine W.eq (g2 := F0 m 40 ls (.int r7 :: [])) rfl ?_
      refine lv_if_ne (tgt := 50) hx hb dX7_thick_40 (by decide) (fun c8 => ?_) (fun c8 => ?_)
      · rw [if_neg c8] at h
        refine lv_aload_n hx hb dX7_thick_50 rfl (lv_at hl 0 rfl) ?_
        refine mm_get hx hb hts hown hR 20 0 4 vl_20 (v := .ref (ra G 31 0)) rfl rfl iX7 (by decide) lk_141 rfl dX7_thick_51 ?_
        refine lv_iload_n hx hb dX7_thick_54 rfl (lv_at hl 1 rfl) ?_
        refine mm_ild hx hb hR 31 0 vl_31 (L := 10) rfl (okI_in z4) dX7_thick_55 ?_
        refine lv_istore_n (lv' := [(3, .int (f6 31 0 x1.toNatClampNeg)), (0, .ref (ra G 20 0)), (1, .int x1), (2, .int x2)]) hx hb dX7_thick_56 rfl hl (by decide) rfl (fun ls hl => ?_)
        refine lv_aload_n hx hb dX7_thick_57 rfl (lv_at hl 1 rfl) ?_
        refine mm_get hx hb hts hown hR 20 0 4 vl_20 (v := .ref (ra G 31 0)) rfl rfl iX7 (by decide) lk_141 rfl dX7_thick_58 ?_
        refine lv_iload_n hx hb dX7_thick_61 rfl (lv_at hl 2 rfl) ?_
        refine lv_iload_n hx hb dX7_thick_62 rfl (lv_at hl 3 rfl) ?_
        obtain ⟨f9, ef9, h⟩ := mm_lt h
        refine mm_ist hx hb hR 31 0 (by decide) vl_31 (L := 10) (j := x1) (x := x2) (fun _ => rfl) (okI_in z4) dX7_thick_63 (fun H locs hR => ?_)
        rw [← ef9] at hR
        refine lv_iload_n hx hb dX7_thick_64 rfl (lv_at hl 0 rfl) ?_
        cases h
        exact mm_iret C0 hR dX7_thick_65
      · rw [if_pos c8] at h
        refine lv_aload_n hx hb dX7_thick_43 rfl (lv_at hl 0 rfl) ?_
        refine lv_bipush (v := (-7)) hx hb dX7_thick_44 (by decide) ?_
        obtain ⟨r11, f10, ef10, h⟩ := mm_b2e h
        refine mm_callV (v := some (.int r11)) (f1 := f10) (d0 := 0) (rest := []) [.int (-7)] C0 rfl hR 20 0 (T_X7_refuse G ef10) ws_X7_refuse lk_147 hd_X7_refuse ⟨by decide, by decide⟩ vl_20 rfl rfl rfl hl.1 rfl (Nat.le_of_ble_eq_true rfl) dX7_thick_46 (fun H locs hR => ?_)
        refine W.eq (g2 := F0 m 49 ls (.int r11 :: [])) rfl ?_
        cases h
        exact mm_iret C0 hR dX7_thick_49
    · rw [if_pos c5] at h
      refine lv_aload_n hx hb dX7_thick_25 rfl (lv_at hl 0 rfl) ?_
      refine lv_bipush (v := (-5)) hx hb dX7_thick_26 (by decide) ?_
      obtain ⟨r13, f12, ef12, h⟩ := mm_b2e h
      refine mm_callV (v := some (.int r13)) (f1 := f12) (d0 := 0) (rest := []) [.int (-5)] C0 rfl hR 20 0 (T_X7_refuse G ef12) ws_X7_refuse lk_147 hd_X7_refuse ⟨by decide, by decide⟩ vl_20 rfl rfl rfl hl.1 rfl (Nat.le_of_ble_eq_true rfl) dX7_thick_28 (fun H locs hR => ?_)
      refine W.eq (g2 := F0 m 31 ls (.int r13 :: [])) rfl ?_
      cases h
      exact mm_iret C0 hR dX7_thick_31
  · rw [if_pos c3] at h
    refine lv_aload_n hx hb dX7_thick_8 rfl (lv_at hl 0 rfl) ?_
    refine lv_bipush (v := (-3)) hx hb dX7_thick_9 (by decide) ?_
    obtain ⟨r15, f14, ef14, h⟩ := mm_b2e h
    refine mm_callV (v := some (.int r15)) (f1 := f14) (d0 := 0) (rest := []) [.int (-3)] C0 rfl hR 20 0 (T_X7_refuse G ef14) ws_X7_refuse lk_147 hd_X7_refuse ⟨by decide, by decide⟩ vl_20 rfl rfl rfl hl.1 rfl (Nat.le_of_ble_eq_true rfl) dX7_thick_11 (fun H locs hR => ?_)
    refine W.eq (g2 := F0 m 14 ls (.int r15 :: [])) rfl ?_
    cases h
    exact mm_iret C0 hR dX7_thick_14
def S_X7_turn (f : F3) (x1 : Int32) : Option (Int32 × F3) := mm_b2 (S_X7_isLoad f x1) fun r2 f1 => if r2 = 0 then (mm_b2 (S_X7_refuse f1 (-3)) fun r12 f11 => some (r12, f11)) else (if okI x1 24 then (if (f1 43 0 x1.toNatClampNeg) = 0 then (mm_let (up f1 43 0 x1.toNatClampNeg 4) fun f6 => mm_b2 (S_X7_many f6 0) fun r8 f7 => some (r8, f7)) else (mm_b2 (S_X7_refuse f1 (-7)) fun r10 f9 => some (r10, f9))) else none)
set_option maxHeartbeats 4000000 in
set_option maxRecDepth 100000 in
theorem T_X7_turn (G : mmG) {f f' : F3} {rv : Int32} {x1 : Int32} (h : S_X7_turn f x1 = some (rv, f')) : mmM G yX7_turn cX7_turn 2 (some .int) 2 [.ref (ra G 20 0), .int x1] f (some (.int rv)) f' := by
  refine mm_start (by decide +kernel) (Nat.le_of_ble_eq_true rfl) ?_
  intro p e s m args below meth c ls C0 hR hl
  obtain ⟨hx, hb, hml, hr, hown, hts, hlocks⟩ := id C0
  have hl : lv_has ls 2 [(0, .ref (ra G 20 0)), (1, .int x1)] := hl
  rw [S_X7_turn] at h
  refine lv_aload_n hx hb dX7_turn_0 rfl (lv_at hl 0 rfl) ?_
  refine lv_iload_n hx hb dX7_turn_1 rfl (lv_at hl 1 rfl) ?_
  obtain ⟨r2, f1, ef1, h⟩ := mm_b2e h
  refine mm_callV (v := some (.int r2)) (f1 := f1) (d0 := 1) (rest := []) [.int x1] C0 rfl hR 20 0 (T_X7_isLoad G ef1) ws_X7_isLoad lk_198 hd_X7_isLoad ⟨by decide, by decide⟩ vl_20 rfl rfl rfl hl.1 rfl (Nat.le_of_ble_eq_true rfl) dX7_turn_2 (fun H locs hR => ?_)
  refine W.eq (g2 := F0 m 5 ls (.int r2 :: [])) rfl ?_
  refine lv_if_ne (tgt := 15) hx hb dX7_turn_5 (by decide) (fun c3 => ?_) (fun c3 => ?_)
  · rw [if_neg c3] at h
    refine lv_aload_n hx hb dX7_turn_15 rfl (lv_at hl 0 rfl) ?_
    refine mm_get hx hb hts hown hR 20 0 17 vl_20 (v := .ref (ra G 43 0)) rfl rfl iX7 (by decide) lk_150 rfl dX7_turn_16 ?_
    refine lv_iload_n hx hb dX7_turn_19 rfl (lv_at hl 1 rfl) ?_
    obtain ⟨z4, h⟩ := mm_if h
    refine mm_ild hx hb hR 43 0 vl_43 (L := 24) rfl (okI_in z4) dX7_turn_20 ?_
    refine lv_if_eq (tgt := 31) hx hb dX7_turn_21 (by decide) (fun c5 => ?_) (fun c5 => ?_)
    · rw [if_pos c5] at h
      refine lv_aload_n hx hb dX7_turn_31 rfl (lv_at hl 0 rfl) ?_
      refine mm_get hx hb hts hown hR 20 0 17 vl_20 (v := .ref (ra G 43 0)) rfl rfl iX7 (by decide) lk_150 rfl dX7_turn_32 ?_
      refine lv_iload_n hx hb dX7_turn_35 rfl (lv_at hl 1 rfl) ?_
      refine lv_iconst (v := 4) hx hb dX7_turn_36 (by decide) ?_
      obtain ⟨f6, ef6, h⟩ := mm_lt h
      refine mm_ist hx hb hR 43 0 (by decide) vl_43 (L := 24) (j := x1) (x := 4) (fun _ => rfl) (okI_in z4) dX7_turn_37 (fun H locs hR => ?_)
      rw [← ef6] at hR
      refine lv_aload_n hx hb dX7_turn_38 rfl (lv_at hl 0 rfl) ?_
      refine lv_iconst (v := 0) hx hb dX7_turn_39 (by decide) ?_
      obtain ⟨r8, f7, ef7, h⟩ := mm_b2e h
      refine mm_callV (v := some (.int r8)) (f1 := f7) (d0 := 0) (rest := []) [.int 0] C0 rfl hR 20 0 (T_X7_many G ef7) ws_X7_many lk_182 hd_X7_many ⟨by decide, by decide⟩ vl_20 rfl rfl rfl hl.1 rfl (Nat.le_of_ble_eq_true rfl) dX7_turn_40 (fun H locs hR => ?_)
      refine W.eq (g2 := F0 m 43 ls (.int r8 :: [])) rfl ?_
      cases h
      exact mm_iret C0 hR dX7_turn_43
    · rw [if_neg c5] at h
      refine lv_aload_n hx hb dX7_turn_24 rfl (lv_at hl 0 rfl) ?_
      refine lv_bipush (v := (-7)) hx hb dX7_turn_25 (by decide) ?_
      obtain ⟨r10, f9, ef9, h⟩ := mm_b2e h
      refine mm_callV (v := some (.int r10)) (f1 := f9) (d0 := 0) (rest := []) [.int (-7)] C0 rfl hR 20 0 (T_X7_refuse G ef9) ws_X7_refuse lk_147 hd_X7_refuse ⟨by decide, by decide⟩ vl_20 rfl rfl rfl hl.1 rfl (Nat.le_of_ble_eq_true rfl) dX7_turn_27 (fun H locs hR => ?_)
      refine W.eq (g2 := F0 m 30 ls (.int r10 :: [])) rfl ?_
      cases h
      exact mm_iret C0 hR dX7_turn_30
  · rw [if_pos c3] at h
    refine lv_aload_n hx hb dX7_turn_8 rfl (lv_at hl 0 rfl) ?_
    refine lv_bipush (v := (-3)) hx hb dX7_turn_9 (by decide) ?_
    obtain ⟨r12, f11, ef11, h⟩ := mm_b2e h
    refine mm_callV (v := some (.int r12)) (f1 := f11) (d0 := 0) (rest := []) [.int (-3)] C0 rfl hR 20 0 (T_X7_refuse G ef11) ws_X7_refuse lk_147 hd_X7_refuse ⟨by decide, by decide⟩ vl_20 rfl rfl rfl hl.1 rfl (Nat.le_of_ble_eq_true rfl) dX7_turn_11 (fun H locs hR => ?_)
    refine W.eq (g2 := F0 m 14 ls (.int r12 :: [])) rfl ?_
    cases h
    exact mm_iret C0 hR dX7_turn_14
def S_X7_weather_44 (f : F3) (x1 : Int32) (x2 : Int32) : Option (Int32 × F3) := if okI x1 48 then (mm_let (up f 22 0 x1.toNatClampNeg x2) fun f13 => some (f 22 0 x1.toNatClampNeg, f13)) else none
set_option maxHeartbeats 4000000 in
set_option maxRecDepth 100000 in
theorem L_X7_weather_44 {G : mmG} {p : Program} {e : Env} {s : State} {m : MethodId} {args : Array Value} {below : List Frame} {meth : Method} {c : Code} {f' : F3} {rv : Int32} (C0 : mmC yX7_weather cX7_weather 4 (some .int) p s m args meth c) {f : F3} {x1 : Int32} {x2 : Int32} (h : S_X7_weather_44 f x1 x2 = some (rv, f')) (H : Heap) (locs : List Loc) (ls : Array Slot) (hR : mm_R G mm_NT f (GG f) s H locs) (hl : lv_has ls 4 [(0, .ref (ra G 20 0)), (1, .int x1), (2, .int x2)]) : W p G.1 e (mm_rm 1) s m args below meth c H locs 0 0 (MQ below (mm_Q G mm_NT (some (.int rv)) f' (GG f')) args s 0 0 (mm_A G)) (F0 m 44 ls []) := by
  obtain ⟨hx, hb, hml, hr, hown, hts, hlocks⟩ := id C0
  rw [S_X7_weather_44] at h
  refine lv_aload_n hx hb dX7_weather_44 rfl (lv_at hl 0 rfl) ?_
  refine mm_get hx hb hts hown hR 20 0 12 vl_20 (v := .ref (ra G 22 0)) rfl rfl iX7 (by decide) lk_156 rfl dX7_weather_45 ?_
  refine lv_iload_n hx hb dX7_weather_48 rfl (lv_at hl 1 rfl) ?_
  obtain ⟨z12, h⟩ := mm_if h
  refine mm_ild hx hb hR 22 0 vl_22 (L := 48) rfl (okI_in z12) dX7_weather_49 ?_
  refine lv_istore_n (lv' := [(3, .int (f 22 0 x1.toNatClampNeg)), (0, .ref (ra G 20 0)), (1, .int x1), (2, .int x2)]) hx hb dX7_weather_50 rfl hl (by decide) rfl (fun ls hl => ?_)
  refine lv_aload_n hx hb dX7_weather_51 rfl (lv_at hl 1 rfl) ?_
  refine mm_get hx hb hts hown hR 20 0 12 vl_20 (v := .ref (ra G 22 0)) rfl rfl iX7 (by decide) lk_156 rfl dX7_weather_52 ?_
  refine lv_iload_n hx hb dX7_weather_55 rfl (lv_at hl 2 rfl) ?_
  refine lv_iload_n hx hb dX7_weather_56 rfl (lv_at hl 3 rfl) ?_
  obtain ⟨f13, ef13, h⟩ := mm_lt h
  refine mm_ist hx hb hR 22 0 (by decide) vl_22 (L := 48) (j := x1) (x := x2) (fun _ => rfl) (okI_in z12) dX7_weather_57 (fun H locs hR => ?_)
  rw [← ef13] at hR
  refine lv_iload_n hx hb dX7_weather_58 rfl (lv_at hl 0 rfl) ?_
  cases h
  exact mm_iret C0 hR dX7_weather_59
def S_X7_weather (f : F3) (x1 : Int32) (x2 : Int32) : Option (Int32 × F3) := mm_b2 (S_X7_in f x1 0 47) fun r2 f1 => if r2 = 0 then (mm_b2 (S_X7_nought f1 (-3)) fun r11 f10 => some (r11, f10)) else (if x2 = (-9999) then (S_X7_weather_44 f1 x1 x2) else (mm_b2 (S_X7_in f1 x2 (-600) 300) fun r6 f5 => if r6 = 0 then (mm_b2 (S_X7_nought f5 (-7)) fun r9 f8 => some (r9, f8)) else (S_X7_weather_44 f5 x1 x2)))
set_option maxHeartbeats 4000000 in
set_option maxRecDepth 100000 in
theorem T_X7_weather (G : mmG) {f f' : F3} {rv : Int32} {x1 : Int32} {x2 : Int32} (h : S_X7_weather f x1 x2 = some (rv, f')) : mmM G yX7_weather cX7_weather 4 (some .int) 1 [.ref (ra G 20 0), .int x1, .int x2] f (some (.int rv)) f' := by
  refine mm_start (by decide +kernel) (Nat.le_of_ble_eq_true rfl) ?_
  intro p e s m args below meth c ls C0 hR hl
  obtain ⟨hx, hb, hml, hr, hown, hts, hlocks⟩ := id C0
  have hl : lv_has ls 4 [(0, .ref (ra G 20 0)), (1, .int x1), (2, .int x2)] := hl
  rw [S_X7_weather] at h
  refine lv_iload_n hx hb dX7_weather_0 rfl (lv_at hl 1 rfl) ?_
  refine lv_iconst (v := 0) hx hb dX7_weather_1 (by decide) ?_
  refine lv_bipush (v := 47) hx hb dX7_weather_2 (by decide) ?_
  obtain ⟨r2, f1, ef1, h⟩ := mm_b2e h
  refine mm_callS (v := some (.int r2)) (f1 := f1) (d0 := 0) (rest := []) [.int x1, .int 0, .int 47] C0 rfl hR (T_X7_in G ef1) ws_X7_in lk_144 hd_X7_in ⟨by decide, by decide⟩ hl.1 rfl (Nat.le_of_ble_eq_true rfl) dX7_weather_4 (fun H locs hR => ?_)
  refine W.eq (g2 := F0 m 7 ls (.int r2 :: [])) rfl ?_
  refine lv_if_ne (tgt := 17) hx hb dX7_weather_7 (by decide) (fun c3 => ?_) (fun c3 => ?_)
  · rw [if_neg c3] at h
    refine lv_iload_n hx hb dX7_weather_17 rfl (lv_at hl 2 rfl) ?_
    refine lv_sipush (v := (-9999)) hx hb dX7_weather_18 (by decide) ?_
    refine lv_icmp_eq (tgt := 44) hx hb dX7_weather_21 (by decide) (fun c4 => ?_) (fun c4 => ?_)
    · rw [if_pos c4] at h
      exact L_X7_weather_44 C0 h _ _ _ hR (lv_sub hl [0, 1, 2] rfl)
    · rw [if_neg c4] at h
      refine lv_iload_n hx hb dX7_weather_24 rfl (lv_at hl 2 rfl) ?_
      refine lv_sipush (v := (-600)) hx hb dX7_weather_25 (by decide) ?_
      refine lv_sipush (v := 300) hx hb dX7_weather_28 (by decide) ?_
      obtain ⟨r6, f5, ef5, h⟩ := mm_b2e h
      refine mm_callS (v := some (.int r6)) (f1 := f5) (d0 := 0) (rest := []) [.int x2, .int (-600), .int 300] C0 rfl hR (T_X7_in G ef5) ws_X7_in lk_144 hd_X7_in ⟨by decide, by decide⟩ hl.1 rfl (Nat.le_of_ble_eq_true rfl) dX7_weather_31 (fun H locs hR => ?_)
      refine W.eq (g2 := F0 m 34 ls (.int r6 :: [])) rfl ?_
      refine lv_if_ne (tgt := 44) hx hb dX7_weather_34 (by decide) (fun c7 => ?_) (fun c7 => ?_)
      · rw [if_neg c7] at h
        exact L_X7_weather_44 C0 h _ _ _ hR (lv_sub hl [0, 1, 2] rfl)
      · rw [if_pos c7] at h
        refine lv_aload_n hx hb dX7_weather_37 rfl (lv_at hl 0 rfl) ?_
        refine lv_bipush (v := (-7)) hx hb dX7_weather_38 (by decide) ?_
        obtain ⟨r9, f8, ef8, h⟩ := mm_b2e h
        refine mm_callV (v := some (.int r9)) (f1 := f8) (d0 := 0) (rest := []) [.int (-7)] C0 rfl hR 20 0 (T_X7_nought G ef8) ws_X7_nought lk_196 hd_X7_nought ⟨by decide, by decide⟩ vl_20 rfl rfl rfl hl.1 rfl (Nat.le_of_ble_eq_true rfl) dX7_weather_40 (fun H locs hR => ?_)
        refine W.eq (g2 := F0 m 43 ls (.int r9 :: [])) rfl ?_
        cases h
        exact mm_iret C0 hR dX7_weather_43
  · rw [if_pos c3] at h
    refine lv_aload_n hx hb dX7_weather_10 rfl (lv_at hl 0 rfl) ?_
    refine lv_bipush (v := (-3)) hx hb dX7_weather_11 (by decide) ?_
    obtain ⟨r11, f10, ef10, h⟩ := mm_b2e h
    refine mm_callV (v := some (.int r11)) (f1 := f10) (d0 := 0) (rest := []) [.int (-3)] C0 rfl hR 20 0 (T_X7_nought G ef10) ws_X7_nought lk_196 hd_X7_nought ⟨by decide, by decide⟩ vl_20 rfl rfl rfl hl.1 rfl (Nat.le_of_ble_eq_true rfl) dX7_weather_13 (fun H locs hR => ?_)
    refine W.eq (g2 := F0 m 16 ls (.int r11 :: [])) rfl ?_
    cases h
    exact mm_iret C0 hR dX7_weather_16
def S_X7_why_25 (f : F3)  : Option (Int32 × F3) := mm_b2 (S_X7_refuse f (-3)) fun r10 f9 => some (r10, f9)
set_option maxHeartbeats 4000000 in
set_option maxRecDepth 100000 in
theorem L_X7_why_25 {G : mmG} {p : Program} {e : Env} {s : State} {m : MethodId} {args : Array Value} {below : List Frame} {meth : Method} {c : Code} {f' : F3} {rv : Int32} (C0 : mmC yX7_why cX7_why 3 (some .int) p s m args meth c) {f : F3} (h : S_X7_why_25 f = some (rv, f')) (H : Heap) (locs : List Loc) (ls : Array Slot) (hR : mm_R G mm_NT f (GG f) s H locs) (hl : lv_has ls 3 [(0, .ref (ra G 20 0))]) : W p G.1 e (mm_rm 5) s m args below meth c H locs 0 0 (MQ below (mm_Q G mm_NT (some (.int rv)) f' (GG f')) args s 0 0 (mm_A G)) (F0 m 25 ls []) := by
  obtain ⟨hx, hb, hml, hr, hown, hts, hlocks⟩ := id C0
  rw [S_X7_why_25] at h
  refine lv_aload_n hx hb dX7_why_25 rfl (lv_at hl 0 rfl) ?_
  refine lv_bipush (v := (-3)) hx hb dX7_why_26 (by decide) ?_
  obtain ⟨r10, f9, ef9, h⟩ := mm_b2e h
  refine mm_callV (v := some (.int r10)) (f1 := f9) (d0 := 0) (rest := []) [.int (-3)] C0 rfl hR 20 0 (T_X7_refuse G ef9) ws_X7_refuse lk_147 hd_X7_refuse ⟨by decide, by decide⟩ vl_20 rfl rfl rfl hl.1 rfl (Nat.le_of_ble_eq_true rfl) dX7_why_28 (fun H locs hR => ?_)
  refine W.eq (g2 := F0 m 31 ls (.int r10 :: [])) rfl ?_
  cases h
  exact mm_iret C0 hR dX7_why_31
def S_X7_why (f : F3) (x1 : Int32) (x2 : Int32) : Option (Int32 × F3) := mm_b2 (S_X7_isLoad f x1) fun r2 f1 => if r2 = 0 then (S_X7_why_25 f1 ) else (mm_b2 (S_X7_isCell f1 x2) fun r5 f4 => if r5 = 0 then (S_X7_why_25 f4 ) else (mm_b2 (S_X7_whyNot f4 x1 x2) fun r8 f7 => some (r8, f7)))
set_option maxHeartbeats 4000000 in
set_option maxRecDepth 100000 in
theorem T_X7_why (G : mmG) {f f' : F3} {rv : Int32} {x1 : Int32} {x2 : Int32} (h : S_X7_why f x1 x2 = some (rv, f')) : mmM G yX7_why cX7_why 3 (some .int) 5 [.ref (ra G 20 0), .int x1, .int x2] f (some (.int rv)) f' := by
  refine mm_start (by decide +kernel) (Nat.le_of_ble_eq_true rfl) ?_
  intro p e s m args below meth c ls C0 hR hl
  obtain ⟨hx, hb, hml, hr, hown, hts, hlocks⟩ := id C0
  have hl : lv_has ls 3 [(0, .ref (ra G 20 0)), (1, .int x1), (2, .int x2)] := hl
  rw [S_X7_why] at h
  refine lv_aload_n hx hb dX7_why_0 rfl (lv_at hl 0 rfl) ?_
  refine lv_iload_n hx hb dX7_why_1 rfl (lv_at hl 1 rfl) ?_
  obtain ⟨r2, f1, ef1, h⟩ := mm_b2e h
  refine mm_callV (v := some (.int r2)) (f1 := f1) (d0 := 1) (rest := []) [.int x1] C0 rfl hR 20 0 (T_X7_isLoad G ef1) ws_X7_isLoad lk_198 hd_X7_isLoad ⟨by decide, by decide⟩ vl_20 rfl rfl rfl hl.1 rfl (Nat.le_of_ble_eq_true rfl) dX7_why_2 (fun H locs hR => ?_)
  refine W.eq (g2 := F0 m 5 ls (.int r2 :: [])) rfl ?_
  refine lv_if_eq (tgt := 25) hx hb dX7_why_5 (by decide) (fun c3 => ?_) (fun c3 => ?_)
  · rw [if_pos c3] at h
    exact L_X7_why_25 C0 h _ _ _ hR (lv_sub hl [0] rfl)
  · rw [if_neg c3] at h
    refine lv_aload_n hx hb dX7_why_8 rfl (lv_at hl 0 rfl) ?_
    refine lv_iload_n hx hb dX7_why_9 rfl (lv_at hl 2 rfl) ?_
    obtain ⟨r5, f4, ef4, h⟩ := mm_b2e h
    refine mm_callV (v := some (.int r5)) (f1 := f4) (d0 := 1) (rest := []) [.int x2] C0 rfl hR 20 0 (T_X7_isCell G ef4) ws_X7_isCell lk_146 hd_X7_isCell ⟨by decide, by decide⟩ vl_20 rfl rfl rfl hl.1 rfl (Nat.le_of_ble_eq_true rfl) dX7_why_10 (fun H locs hR => ?_)
    refine W.eq (g2 := F0 m 13 ls (.int r5 :: [])) rfl ?_
    refine lv_if_eq (tgt := 25) hx hb dX7_why_13 (by decide) (fun c6 => ?_) (fun c6 => ?_)
    · rw [if_pos c6] at h
      exact L_X7_why_25 C0 h _ _ _ hR (lv_sub hl [0] rfl)
    · rw [if_neg c6] at h
      refine lv_aload_n hx hb dX7_why_16 rfl (lv_at hl 0 rfl) ?_
      refine lv_iload_n hx hb dX7_why_17 rfl (lv_at hl 1 rfl) ?_
      refine lv_iload_n hx hb dX7_why_18 rfl (lv_at hl 2 rfl) ?_
      obtain ⟨r8, f7, ef7, h⟩ := mm_b2e h
      refine mm_callV (v := some (.int r8)) (f1 := f7) (d0 := 4) (rest := []) [.int x1, .int x2] C0 rfl hR 20 0 (T_X7_whyNot G ef7) ws_X7_whyNot lk_170 hd_X7_whyNot ⟨by decide, by decide⟩ vl_20 rfl rfl rfl hl.1 rfl (Nat.le_of_ble_eq_true rfl) dX7_why_19 (fun H locs hR => ?_)
      refine W.eq (g2 := F0 m 22 ls (.int r8 :: [])) rfl ?_
      refine lv_goto (tgt := 31) hx hb dX7_why_22 (by decide) ?_
      cases h
      exact mm_iret C0 hR dX7_why_31
def S_X7_wipe (f : F3)  : Option (Int32 × F3) := mm_let (up f 20 0 27 0) fun f1 => some (f 20 0 27, f1)
set_option maxHeartbeats 4000000 in
set_option maxRecDepth 100000 in
theorem T_X7_wipe (G : mmG) {f f' : F3} {rv : Int32} (h : S_X7_wipe f = some (rv, f')) : mmM G yX7_wipe cX7_wipe 2 (some .int) 0 [.ref (ra G 20 0)] f (some (.int rv)) f' := by
  refine mm_start (by decide +kernel) (Nat.le_of_ble_eq_true rfl) ?_
  intro p e s m args below meth c ls C0 hR hl
  obtain ⟨hx, hb, hml, hr, hown, hts, hlocks⟩ := id C0
  have hl : lv_has ls 2 [(0, .ref (ra G 20 0))] := hl
  rw [S_X7_wipe] at h
  refine lv_aload_n hx hb dX7_wipe_0 rfl (lv_at hl 0 rfl) ?_
  refine mm_get hx hb hts hown hR 20 0 27 vl_20 (v := .int (f 20 0 27)) rfl rfl iX7 (by decide) lk_180 rfl dX7_wipe_1 ?_
  refine lv_istore_n (lv' := [(1, .int (f 20 0 27)), (0, .ref (ra G 20 0))]) hx hb dX7_wipe_4 rfl hl (by decide) rfl (fun ls hl => ?_)
  refine lv_aload_n hx hb dX7_wipe_5 rfl (lv_at hl 1 rfl) ?_
  refine lv_iconst (v := 0) hx hb dX7_wipe_6 (by decide) ?_
  obtain ⟨f1, ef1, h⟩ := mm_lt h
  refine mm_put hx hb hts hown hR 20 0 27 (by decide) vl_20 (x := 0) rfl rfl iX7 tyX7 tyX7_ok nmX7 (by decide) lk_180 rfl rfl rfl (Nat.le_of_ble_eq_true rfl) rfl dX7_wipe_7 (fun H locs hR => ?_)
  rw [← ef1] at hR
  refine lv_iload_n hx hb dX7_wipe_10 rfl (lv_at hl 0 rfl) ?_
  cases h
  exact mm_iret C0 hR dX7_wipe_11
