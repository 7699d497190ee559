def S_X6_tear_16 : Nat → F3 → Int32 → Option (Int32 × F3)
  | 0, _, _ => none
  | n + 1, f, x1 => if 48 ≤ x1 then (some (1, f)) else (if okI x1 48 then (mm_let (up f 11 0 x1.toNatClampNeg 0) fun f5 => S_X6_tear_16 n f5 (x1 + 1)) else none)
set_option maxHeartbeats 4000000 in
set_option maxRecDepth 100000 in
theorem L_X6_tear_16 {G : mmG} {p : Program} {e : Env} {s : State} {m : MethodId} {args : Array Value} {below : List Frame} {meth : Method} {c : Code} {f' : F3} {rv : Int32} (C0 : mmC yX6_tear cX6_tear 2 (some .int) p s m args meth c) : ∀ (n : Nat) {f : F3} {x1 : Int32} , S_X6_tear_16 n f x1 = some (rv, f') → ∀ (H : Heap) (locs : List Loc) (ls : Array Slot), mm_R G mm_NT f (GG f) s H locs → lv_has ls 2 [(0, .ref (ra G 0 0)), (1, .int x1)] → W p G.1 e (mm_rm 0) s m args below meth c H locs 0 0 (MQ below (mm_Q G mm_NT (some (.int rv)) f' (GG f')) args s 0 0 (mm_A G)) (F0 m 16 ls []) := by
  obtain ⟨hx, hb, hml, hr, hown, hts, hlocks⟩ := id C0
  intro n
  induction n with
  | zero =>
    intro f x1  h H locs ls hR hl
    cases h
  | succ n ih =>
    intro f x1  h H locs ls hR hl
    rw [S_X6_tear_16] at h
    refine lv_iload_n hx hb dX6_tear_16 rfl (lv_at hl 1 rfl) ?_
    refine lv_bipush (v := 48) hx hb dX6_tear_17 (by decide) ?_
    refine lv_icmp_ge (tgt := 35) hx hb dX6_tear_19 (by decide) (fun c3 => ?_) (fun c3 => ?_)
    · rw [if_pos c3] at h
      refine lv_iconst (v := 1) hx hb dX6_tear_35 (by decide) ?_
      obtain ⟨rfl, rfl⟩ := mm_pr h
      exact mm_iret C0 hR dX6_tear_36
    · rw [if_neg c3] at h
      refine lv_aload_n hx hb dX6_tear_22 rfl (lv_at hl 0 rfl) ?_
      refine mm_get hx hb hts hown hR 0 0 7 vl_0 (v := .ref (ra G 11 0)) rfl rfl iX6 (by decide) lk_80 rfl dX6_tear_23 ?_
      refine lv_iload_n hx hb dX6_tear_26 rfl (lv_at hl 1 rfl) ?_
      refine lv_iconst (v := 0) hx hb dX6_tear_27 (by decide) ?_
      obtain ⟨z4, h⟩ := mm_if h
      obtain ⟨f5, ef5, h⟩ := mm_lt h
      refine mm_ist hx hb hR 11 0 (by decide) vl_11 (L := 48) (j := x1) (x := 0) (fun _ => rfl) (okI_in z4) dX6_tear_28 (fun H locs hR => ?_)
      rw [← ef5] at hR
      refine lv_iinc (v := x1 + 1) (lv' := [(1, .int (x1 + 1)), (0, .ref (ra G 0 0))]) hx hb dX6_tear_29 hl (k := 1) rfl rfl (by decide) rfl (fun ls hl => ?_)
      refine lv_goto (tgt := 16) hx hb dX6_tear_32 (by decide) ?_
      exact ih  h _ _ _ hR (lv_sub hl [1, 0] rfl)
def S_X6_tear (f : F3)  : Option (Int32 × F3) := if (f 0 0 11) = 0 then (some (0, f)) else (mm_let (up f 0 0 11 0) fun f2 => S_X6_tear_16 FU f2 0)
set_option maxHeartbeats 4000000 in
set_option maxRecDepth 100000 in
theorem T_X6_tear (G : mmG) {f f' : F3} {rv : Int32} (h : S_X6_tear f = some (rv, f')) : mmM G yX6_tear cX6_tear 2 (some .int) 0 [.ref (ra G 0 0)] f (some (.int rv)) f' := by
  refine mm_start (by decide +kernel) (Nat.le_of_ble_eq_true rfl) ?_
  intro p e s m args below meth c ls C0 hR hl
  obtain ⟨hx, hb, hml, hr, hown, hts, hlocks⟩ := id C0
  have hl : lv_has ls 2 [(0, .ref (ra G 0 0))] := hl
  rw [S_X6_tear] at h
  refine lv_aload_n hx hb dX6_tear_0 rfl (lv_at hl 0 rfl) ?_
  refine mm_get hx hb hts hown hR 0 0 11 vl_0 (v := .int (f 0 0 11)) rfl rfl iX6 (by decide) lk_79 rfl dX6_tear_1 ?_
  refine lv_if_ne (tgt := 9) hx hb dX6_tear_4 (by decide) (fun c1 => ?_) (fun c1 => ?_)
  · rw [if_neg c1] at h
    refine lv_aload_n hx hb dX6_tear_9 rfl (lv_at hl 0 rfl) ?_
    refine lv_iconst (v := 0) hx hb dX6_tear_10 (by decide) ?_
    obtain ⟨f2, ef2, h⟩ := mm_lt h
    refine mm_put hx hb hts hown hR 0 0 11 (by decide) vl_0 (x := 0) rfl rfl iX6 tyX6 tyX6_ok nmX6 (by decide) lk_79 rfl rfl rfl (Nat.le_of_ble_eq_true rfl) rfl dX6_tear_11 (fun H locs hR => ?_)
    rw [← ef2] at hR
    refine lv_iconst (v := 0) hx hb dX6_tear_14 (by decide) ?_
    refine lv_istore_n (lv' := [(1, .int 0), (0, .ref (ra G 0 0))]) hx hb dX6_tear_15 rfl hl (by decide) rfl (fun ls hl => ?_)
    exact L_X6_tear_16 C0 _ h _ _ _ hR (lv_sub hl [1, 0] rfl)
  · rw [if_pos c1] at h
    refine lv_iconst (v := 0) hx hb dX6_tear_7 (by decide) ?_
    obtain ⟨rfl, rfl⟩ := mm_pr h
    exact mm_iret C0 hR dX6_tear_8
def S_X6_tell (f : F3) (x1 : Int32) (x2 : Int32) : Option (Int32 × F3) := mm_b2 (S_X6_isWithin f x1 0 47) fun r2 f1 => if r2 = 0 then (mm_b2 (S_X6_refuse f1 (-3)) fun r13 f12 => some (r13, f12)) else (mm_b2 (S_X6_isWithin f1 x2 (-9999) 9999) fun r5 f4 => if r5 = 0 then (mm_b2 (S_X6_refuse f4 (-7)) fun r11 f10 => some (r11, f10)) else (mm_let (up f4 0 0 11 1) fun f7 => if okI x1 48 then (mm_let (up f7 11 0 x1.toNatClampNeg x2) fun f9 => some (1, f9)) else none))
set_option maxHeartbeats 4000000 in
set_option maxRecDepth 100000 in
theorem T_X6_tell (G : mmG) {f f' : F3} {rv : Int32} {x1 : Int32} {x2 : Int32} (h : S_X6_tell f x1 x2 = some (rv, f')) : mmM G yX6_tell cX6_tell 3 (some .int) 2 [.ref (ra G 0 0), .int x1, .int x2] f (some (.int rv)) f' := by
  refine mm_start (by decide +kernel) (Nat.le_of_ble_eq_true rfl) ?_
  intro p e s m args below meth c ls C0 hR hl
  obtain ⟨hx, hb, hml, hr, hown, hts, hlocks⟩ := id C0
  have hl : lv_has ls 3 [(0, .ref (ra G 0 0)), (1, .int x1), (2, .int x2)] := hl
  rw [S_X6_tell] at h
  refine lv_iload_n hx hb dX6_tell_0 rfl (lv_at hl 1 rfl) ?_
  refine lv_iconst (v := 0) hx hb dX6_tell_1 (by decide) ?_
  refine lv_bipush (v := 47) hx hb dX6_tell_2 (by decide) ?_
  obtain ⟨r2, f1, ef1, h⟩ := mm_b2e h
  refine mm_callS (v := some (.int r2)) (f1 := f1) (d0 := 0) (rest := []) [.int x1, .int 0, .int 47] C0 rfl hR (T_X6_isWithin G ef1) ws_X6_isWithin lk_65 hd_X6_isWithin ⟨by decide, by decide⟩ hl.1 rfl (Nat.le_of_ble_eq_true rfl) dX6_tell_4 (fun H locs hR => ?_)
  refine W.eq (g2 := F0 m 7 ls (.int r2 :: [])) rfl ?_
  refine lv_if_ne (tgt := 17) hx hb dX6_tell_7 (by decide) (fun c3 => ?_) (fun c3 => ?_)
  · rw [if_neg c3] at h
    refine lv_iload_n hx hb dX6_tell_17 rfl (lv_at hl 2 rfl) ?_
    refine lv_sipush (v := (-9999)) hx hb dX6_tell_18 (by decide) ?_
    refine lv_sipush (v := 9999) hx hb dX6_tell_21 (by decide) ?_
    obtain ⟨r5, f4, ef4, h⟩ := mm_b2e h
    refine mm_callS (v := some (.int r5)) (f1 := f4) (d0 := 0) (rest := []) [.int x2, .int (-9999), .int 9999] C0 rfl hR (T_X6_isWithin G ef4) ws_X6_isWithin lk_65 hd_X6_isWithin ⟨by decide, by decide⟩ hl.1 rfl (Nat.le_of_ble_eq_true rfl) dX6_tell_24 (fun H locs hR => ?_)
    refine W.eq (g2 := F0 m 27 ls (.int r5 :: [])) rfl ?_
    refine lv_if_ne (tgt := 37) hx hb dX6_tell_27 (by decide) (fun c6 => ?_) (fun c6 => ?_)
    · rw [if_neg c6] at h
      refine lv_aload_n hx hb dX6_tell_37 rfl (lv_at hl 0 rfl) ?_
      refine lv_iconst (v := 1) hx hb dX6_tell_38 (by decide) ?_
      obtain ⟨f7, ef7, h⟩ := mm_lt h
      refine mm_put hx hb hts hown hR 0 0 11 (by decide) vl_0 (x := 1) rfl rfl iX6 tyX6 tyX6_ok nmX6 (by decide) lk_79 rfl rfl rfl (Nat.le_of_ble_eq_true rfl) rfl dX6_tell_39 (fun H locs hR => ?_)
      rw [← ef7] at hR
      refine lv_aload_n hx hb dX6_tell_42 rfl (lv_at hl 0 rfl) ?_
      refine mm_get hx hb hts hown hR 0 0 7 vl_0 (v := .ref (ra G 11 0)) rfl rfl iX6 (by decide) lk_80 rfl dX6_tell_43 ?_
      refine lv_iload_n hx hb dX6_tell_46 rfl (lv_at hl 1 rfl) ?_
      refine lv_iload_n hx hb dX6_tell_47 rfl (lv_at hl 2 rfl) ?_
      obtain ⟨z8, h⟩ := mm_if h
      obtain ⟨f9, ef9, h⟩ := mm_lt h
      refine mm_ist hx hb hR 11 0 (by decide) vl_11 (L := 48) (j := x1) (x := x2) (fun _ => rfl) (okI_in z8) dX6_tell_48 (fun H locs hR => ?_)
      rw [← ef9] at hR
      refine lv_iconst (v := 1) hx hb dX6_tell_49 (by decide) ?_
      obtain ⟨rfl, rfl⟩ := mm_pr h
      exact mm_iret C0 hR dX6_tell_50
    · rw [if_pos c6] at h
      refine lv_aload_n hx hb dX6_tell_30 rfl (lv_at hl 0 rfl) ?_
      refine lv_bipush (v := (-7)) hx hb dX6_tell_31 (by decide) ?_
      obtain ⟨r11, f10, ef10, h⟩ := mm_b2e h
      refine mm_callV (v := some (.int r11)) (f1 := f10) (d0 := 1) (rest := []) [.int (-7)] C0 rfl hR 0 0 (T_X6_refuse G ef10) ws_X6_refuse lk_70 hd_X6_refuse ⟨by decide, by decide⟩ vl_0 rfl rfl rfl hl.1 rfl (Nat.le_of_ble_eq_true rfl) dX6_tell_33 (fun H locs hR => ?_)
      refine W.eq (g2 := F0 m 36 ls (.int r11 :: [])) rfl ?_
      obtain ⟨rfl, rfl⟩ := mm_pr h
      exact mm_iret C0 hR dX6_tell_36
  · rw [if_pos c3] at h
    refine lv_aload_n hx hb dX6_tell_10 rfl (lv_at hl 0 rfl) ?_
    refine lv_bipush (v := (-3)) hx hb dX6_tell_11 (by decide) ?_
    obtain ⟨r13, f12, ef12, h⟩ := mm_b2e h
    refine mm_callV (v := some (.int r13)) (f1 := f12) (d0 := 1) (rest := []) [.int (-3)] C0 rfl hR 0 0 (T_X6_refuse G ef12) ws_X6_refuse lk_70 hd_X6_refuse ⟨by decide, by decide⟩ vl_0 rfl rfl rfl hl.1 rfl (Nat.le_of_ble_eq_true rfl) dX6_tell_13 (fun H locs hR => ?_)
    refine W.eq (g2 := F0 m 16 ls (.int r13 :: [])) rfl ?_
    obtain ⟨rfl, rfl⟩ := mm_pr h
    exact mm_iret C0 hR dX6_tell_16
def S_X6_thaw_37 : Nat → F3 → Int32 → Int32 → Int32 → Int32 → Option (Int32 × F3)
  | 0, _, _, _, _, _ => none
  | n + 1, f, x1, x2, x3, x4 => if (f 0 0 12) ≤ x4 then (some (x3, f)) else (if okI x4 10 then (mm_b2 (S_X6_hoursHeldUp f x4.toNatClampNeg x1 x2 x3) fun r12 f11 => S_X6_thaw_37 n f11 x1 x2 r12 (x4 + 1)) else none)
set_option maxHeartbeats 4000000 in
set_option maxRecDepth 100000 in
theorem L_X6_thaw_37 {G : mmG} {p : Program} {e : Env} {s : State} {m : MethodId} {args : Array Value} {below : List Frame} {meth : Method} {c : Code} {f' : F3} {rv : Int32} (C0 : mmC yX6_thaw cX6_thaw 5 (some .int) p s m args meth c) : ∀ (n : Nat) {f : F3} {x1 : Int32} {x2 : Int32} {x3 : Int32} {x4 : Int32} , S_X6_thaw_37 n f x1 x2 x3 x4 = some (rv, f') → ∀ (H : Heap) (locs : List Loc) (ls : Array Slot), mm_R G mm_NT f (GG f) s H locs → lv_has ls 5 [(0, .ref (ra G 0 0)), (1, .int x1), (2, .int x2), (3, .int x3), (4, .int x4)] → W p G.1 e (mm_rm 4) s m args below meth c H locs 0 0 (MQ below (mm_Q G mm_NT (some (.int rv)) f' (GG f')) args s 0 0 (mm_A G)) (F0 m 37 ls []) := by
  obtain ⟨hx, hb, hml, hr, hown, hts, hlocks⟩ := id C0
  intro n
  induction n with
  | zero =>
    intro f x1 x2 x3 x4  h H locs ls hR hl
    cases h
  | succ n ih =>
    intro f x1 x2 x3 x4  h H locs ls hR hl
    rw [S_X6_thaw_37] at h
    refine lv_iload hx hb dX6_thaw_37 (lv_at hl 4 rfl) ?_
    refine lv_aload_n hx hb dX6_thaw_39 rfl (lv_at hl 0 rfl) ?_
    refine mm_get hx hb hts hown hR 0 0 12 vl_0 (v := .int (f 0 0 12)) rfl rfl iX6 (by decide) lk_64 rfl dX6_thaw_40 ?_
    refine lv_icmp_ge (tgt := 67) hx hb dX6_thaw_43 (by decide) (fun c9 => ?_) (fun c9 => ?_)
    · rw [if_pos c9] at h
      refine lv_iload_n hx hb dX6_thaw_67 rfl (lv_at hl 3 rfl) ?_
      obtain ⟨rfl, rfl⟩ := mm_pr h
      exact mm_iret C0 hR dX6_thaw_68
    · rw [if_neg c9] at h
      refine lv_aload_n hx hb dX6_thaw_46 rfl (lv_at hl 0 rfl) ?_
      refine lv_aload_n hx hb dX6_thaw_47 rfl (lv_at hl 0 rfl) ?_
      refine mm_get hx hb hts hown hR 0 0 0 vl_0 (v := .ref (ra G 7 0)) rfl rfl iX6 (by decide) lk_68 rfl dX6_thaw_48 ?_
      refine lv_iload hx hb dX6_thaw_51 (lv_at hl 4 rfl) ?_
      obtain ⟨z10, h⟩ := mm_if h
      refine mm_ald hx hb hR 7 0 2 vl_7 (L := 10) (C := "IceRoad$Cell") (r2 := 1) (i2 := x4.toNatClampNeg) rfl rfl (okI_in z10) rfl (by decide) dX6_thaw_53 ?_
      refine lv_iload_n hx hb dX6_thaw_54 rfl (lv_at hl 1 rfl) ?_
      refine lv_iload_n hx hb dX6_thaw_55 rfl (lv_at hl 2 rfl) ?_
      refine lv_iload_n hx hb dX6_thaw_56 rfl (lv_at hl 3 rfl) ?_
      obtain ⟨r12, f11, ef11, h⟩ := mm_b2e h
      refine mm_callV (v := some (.int r12)) (f1 := f11) (d0 := 3) (rest := []) [.ref (ra G 1 x4.toNatClampNeg), .int x1, .int x2, .int x3] C0 rfl hR 0 0 (T_X6_hoursHeldUp G (Nat.lt_trans (okI_lt z10) (by decide)) ef11) ws_X6_hoursHeldUp lk_139 hd_X6_hoursHeldUp ⟨by decide, by decide⟩ vl_0 rfl rfl rfl hl.1 rfl (Nat.le_of_ble_eq_true rfl) dX6_thaw_57 (fun H locs hR => ?_)
      refine W.eq (g2 := F0 m 60 ls (.int r12 :: [])) rfl ?_
      refine lv_istore_n (lv' := [(3, .int r12), (0, .ref (ra G 0 0)), (1, .int x1), (2, .int x2), (4, .int x4)]) hx hb dX6_thaw_60 rfl hl (by decide) rfl (fun ls hl => ?_)
      refine lv_iinc (v := x4 + 1) (lv' := [(4, .int (x4 + 1)), (3, .int r12), (0, .ref (ra G 0 0)), (1, .int x1), (2, .int x2)]) hx hb dX6_thaw_61 hl (k := 4) rfl rfl (by decide) rfl (fun ls hl => ?_)
      refine lv_goto (tgt := 37) hx hb dX6_thaw_64 (by decide) ?_
      exact ih  h _ _ _ hR (lv_sub hl [2, 3, 4, 1, 0] rfl)
def S_X6_thaw_23 (f : F3)  : Option (Int32 × F3) := mm_b2 (S_X6_refuse f (-7)) fun r8 f7 => some (r8, f7)
set_option maxHeartbeats 4000000 in
set_option maxRecDepth 100000 in
theorem L_X6_thaw_23 {G : mmG} {p : Program} {e : Env} {s : State} {m : MethodId} {args : Array Value} {below : List Frame} {meth : Method} {c : Code} {f' : F3} {rv : Int32} (C0 : mmC yX6_thaw cX6_thaw 5 (some .int) p s m args meth c) {f : F3} (h : S_X6_thaw_23 f = some (rv, f')) (H : Heap) (locs : List Loc) (ls : Array Slot) (hR : mm_R G mm_NT f (GG f) s H locs) (hl : lv_has ls 5 [(0, .ref (ra G 0 0))]) : W p G.1 e (mm_rm 4) s m args below meth c H locs 0 0 (MQ below (mm_Q G mm_NT (some (.int rv)) f' (GG f')) args s 0 0 (mm_A G)) (F0 m 23 ls []) := by
  obtain ⟨hx, hb, hml, hr, hown, hts, hlocks⟩ := id C0
  rw [S_X6_thaw_23] at h
  refine lv_aload_n hx hb dX6_thaw_23 rfl (lv_at hl 0 rfl) ?_
  refine lv_bipush (v := (-7)) hx hb dX6_thaw_24 (by decide) ?_
  obtain ⟨r8, f7, ef7, h⟩ := mm_b2e h
  refine mm_callV (v := some (.int r8)) (f1 := f7) (d0 := 1) (rest := []) [.int (-7)] C0 rfl hR 0 0 (T_X6_refuse G ef7) ws_X6_refuse lk_70 hd_X6_refuse ⟨by decide, by decide⟩ vl_0 rfl rfl rfl hl.1 rfl (Nat.le_of_ble_eq_true rfl) dX6_thaw_26 (fun H locs hR => ?_)
  refine W.eq (g2 := F0 m 29 ls (.int r8 :: [])) rfl ?_
  obtain ⟨rfl, rfl⟩ := mm_pr h
  exact mm_iret C0 hR dX6_thaw_29
def S_X6_thaw (f : F3) (x1 : Int32) (x2 : Int32) : Option (Int32 × F3) := mm_b2 (S_X6_isWithin f x1 1 99) fun r2 f1 => if r2 = 0 then (S_X6_thaw_23 f1 ) else (mm_b2 (S_X6_isWithin f1 x2 (-600) 300) fun r5 f4 => if r5 = 0 then (S_X6_thaw_23 f4 ) else (S_X6_thaw_37 FU f4 x1 x2 500 0))
set_option maxHeartbeats 4000000 in
set_option maxRecDepth 100000 in
theorem T_X6_thaw (G : mmG) {f f' : F3} {rv : Int32} {x1 : Int32} {x2 : Int32} (h : S_X6_thaw f x1 x2 = some (rv, f')) : mmM G yX6_thaw cX6_thaw 5 (some .int) 4 [.ref (ra G 0 0), .int x1, .int x2] f (some (.int rv)) f' := by
  refine mm_start (by decide +kernel) (Nat.le_of_ble_eq_true rfl) ?_
  intro p e s m args below meth c ls C0 hR hl
  obtain ⟨hx, hb, hml, hr, hown, hts, hlocks⟩ := id C0
  have hl : lv_has ls 5 [(0, .ref (ra G 0 0)), (1, .int x1), (2, .int x2)] := hl
  rw [S_X6_thaw] at h
  refine lv_iload_n hx hb dX6_thaw_0 rfl (lv_at hl 1 rfl) ?_
  refine lv_iconst (v := 1) hx hb dX6_thaw_1 (by decide) ?_
  refine lv_bipush (v := 99) hx hb dX6_thaw_2 (by decide) ?_
  obtain ⟨r2, f1, ef1, h⟩ := mm_b2e h
  refine mm_callS (v := some (.int r2)) (f1 := f1) (d0 := 0) (rest := []) [.int x1, .int 1, .int 99] C0 rfl hR (T_X6_isWithin G ef1) ws_X6_isWithin lk_65 hd_X6_isWithin ⟨by decide, by decide⟩ hl.1 rfl (Nat.le_of_ble_eq_true rfl) dX6_thaw_4 (fun H locs hR => ?_)
  refine W.eq (g2 := F0 m 7 ls (.int r2 :: [])) rfl ?_
  refine lv_if_eq (tgt := 23) hx hb dX6_thaw_7 (by decide) (fun c3 => ?_) (fun c3 => ?_)
  · rw [if_pos c3] at h
    exact L_X6_thaw_23 C0 h _ _ _ hR (lv_sub hl [0] rfl)
  · rw [if_neg c3] at h
    refine lv_iload_n hx hb dX6_thaw_10 rfl (lv_at hl 2 rfl) ?_
    refine lv_sipush (v := (-600)) hx hb dX6_thaw_11 (by decide) ?_
    refine lv_sipush (v := 300) hx hb dX6_thaw_14 (by decide) ?_
    obtain ⟨r5, f4, ef4, h⟩ := mm_b2e h
    refine mm_callS (v := some (.int r5)) (f1 := f4) (d0 := 0) (rest := []) [.int x2, .int (-600), .int 300] C0 rfl hR (T_X6_isWithin G ef4) ws_X6_isWithin lk_65 hd_X6_isWithin ⟨by decide, by decide⟩ hl.1 rfl (Nat.le_of_ble_eq_true rfl) dX6_thaw_17 (fun H locs hR => ?_)
    refine W.eq (g2 := F0 m 20 ls (.int r5 :: [])) rfl ?_
    refine lv_if_ne (tgt := 30) hx hb dX6_thaw_20 (by decide) (fun c6 => ?_) (fun c6 => ?_)
    · rw [if_neg c6] at h
      refine lv_sipush (v := 500) hx hb dX6_thaw_30 (by decide) ?_
      refine lv_istore_n (lv' := [(3, .int 500), (0, .ref (ra G 0 0)), (1, .int x1), (2, .int x2)]) hx hb dX6_thaw_33 rfl hl (by decide) rfl (fun ls hl => ?_)
      refine lv_iconst (v := 0) hx hb dX6_thaw_34 (by decide) ?_
      refine lv_istore (lv' := [(4, .int 0), (3, .int 500), (0, .ref (ra G 0 0)), (1, .int x1), (2, .int x2)]) hx hb dX6_thaw_35 hl (by decide) rfl (fun ls hl => ?_)
      exact L_X6_thaw_37 C0 _ h _ _ _ hR (lv_sub hl [2, 3, 4, 1, 0] rfl)
    · rw [if_pos c6] at h
      exact L_X6_thaw_23 C0 h _ _ _ hR (lv_sub hl [0] rfl)
def S_X6_thick (f : F3) (x1 : Int32) (x2 : Int32) : Option (Int32 × F3) := mm_b2 (S_X6_isCell f x1) fun r2 f1 => if r2 = 0 then (mm_b2 (S_X6_refuse f1 (-3)) fun r15 f14 => some (r15, f14)) else (if okI x1 10 then (if (f1 1 x1.toNatClampNeg 0) = 4 then (mm_b2 (S_X6_refuse f1 (-5)) fun r13 f12 => some (r13, f12)) else (mm_b2 (S_X6_isWithin f1 x2 0 3000) fun r7 f6 => if r7 = 0 then (mm_b2 (S_X6_refuse f6 (-7)) fun r11 f10 => some (r11, f10)) else (mm_let (up f6 1 x1.toNatClampNeg 1 x2) fun f9 => some (f6 1 x1.toNatClampNeg 1, f9)))) else none)
set_option maxHeartbeats 4000000 in
set_option maxRecDepth 100000 in
theorem T_X6_thick (G : mmG) {f f' : F3} {rv : Int32} {x1 : Int32} {x2 : Int32} (h : S_X6_thick f x1 x2 = some (rv, f')) : mmM G yX6_thick cX6_thick 5 (some .int) 2 [.ref (ra G 0 0), .int x1, .int x2] f (some (.int rv)) f' := by
  refine mm_start (by decide +kernel) (Nat.le_of_ble_eq_true rfl) ?_
  intro p e s m args below meth c ls C0 hR hl
  obtain ⟨hx, hb, hml, hr, hown, hts, hlocks⟩ := id C0
  have hl : lv_has ls 5 [(0, .ref (ra G 0 0)), (1, .int x1), (2, .int x2)] := hl
  rw [S_X6_thick] at h
  refine lv_aload_n hx hb dX6_thick_0 rfl (lv_at hl 0 rfl) ?_
  refine lv_iload_n hx hb dX6_thick_1 rfl (lv_at hl 1 rfl) ?_
  obtain ⟨r2, f1, ef1, h⟩ := mm_b2e h
  refine mm_callV (v := some (.int r2)) (f1 := f1) (d0 := 0) (rest := []) [.int x1] C0 rfl hR 0 0 (T_X6_isCell G ef1) ws_X6_isCell lk_67 hd_X6_isCell ⟨by decide, by decide⟩ vl_0 rfl rfl rfl hl.1 rfl (Nat.le_of_ble_eq_true rfl) dX6_thick_2 (fun H locs hR => ?_)
  refine W.eq (g2 := F0 m 5 ls (.int r2 :: [])) rfl ?_
  refine lv_if_ne (tgt := 15) hx hb dX6_thick_5 (by decide) (fun c3 => ?_) (fun c3 => ?_)
  · rw [if_neg c3] at h
    refine lv_aload_n hx hb dX6_thick_15 rfl (lv_at hl 0 rfl) ?_
    refine mm_get hx hb hts hown hR 0 0 0 vl_0 (v := .ref (ra G 7 0)) rfl rfl iX6 (by decide) lk_68 rfl dX6_thick_16 ?_
    refine lv_iload_n hx hb dX6_thick_19 rfl (lv_at hl 1 rfl) ?_
    obtain ⟨z4, h⟩ := mm_if h
    refine mm_ald hx hb hR 7 0 2 vl_7 (L := 10) (C := "IceRoad$Cell") (r2 := 1) (i2 := x1.toNatClampNeg) rfl rfl (okI_in z4) rfl (by decide) dX6_thick_20 ?_
    refine lv_astore_n (lv' := [(3, .ref (ra G 1 x1.toNatClampNeg)), (0, .ref (ra G 0 0)), (1, .int x1), (2, .int x2)]) hx hb dX6_thick_21 rfl hl (by decide) rfl (fun ls hl => ?_)
    refine lv_aload_n hx hb dX6_thick_22 rfl (lv_at hl 0 rfl) ?_
    refine mm_get hx hb hts hown hR 1 x1.toNatClampNeg 0 (mm_vld 1 (by decide) x1.toNatClampNeg (Nat.lt_trans (okI_lt z4) (by decide))) (v := .int (f1 1 x1.toNatClampNeg 0)) rfl rfl iX0 (by decide) lk_72 rfl dX6_thick_23 ?_
    refine lv_iconst (v := 4) hx hb dX6_thick_26 (by decide) ?_
    refine lv_icmp_ne (tgt := 37) hx hb dX6_thick_27 (by decide) (fun c5 => ?_) (fun c5 => ?_)
    · rw [if_neg c5] at h
      refine lv_iload_n hx hb dX6_thick_37 rfl (lv_at hl 3 rfl) ?_
      refine lv_iconst (v := 0) hx hb dX6_thick_38 (by decide) ?_
      refine lv_sipush (v := 3000) hx hb dX6_thick_39 (by decide) ?_
      obtain ⟨r7, f6, ef6, h⟩ := mm_b2e h
      refine mm_callS (v := some (.int r7)) (f1 := f6) (d0 := 0) (rest := []) [.int x2, .int 0, .int 3000] C0 rfl hR (T_X6_isWithin G ef6) ws_X6_isWithin lk_65 hd_X6_isWithin ⟨by decide, by decide⟩ hl.1 rfl (Nat.le_of_ble_eq_true rfl) dX6_thick_42 (fun H locs hR => ?_)
      refine W.eq (g2 := F0 m 45 ls (.int r7 :: [])) rfl ?_
      refine lv_if_ne (tgt := 55) hx hb dX6_thick_45 (by decide) (fun c8 => ?_) (fun c8 => ?_)
      · rw [if_neg c8] at h
        refine lv_aload_n hx hb dX6_thick_55 rfl (lv_at hl 0 rfl) ?_
        refine mm_get hx hb hts hown hR 1 x1.toNatClampNeg 1 (mm_vld 1 (by decide) x1.toNatClampNeg (Nat.lt_trans (okI_lt z4) (by decide))) (v := .int (f6 1 x1.toNatClampNeg 1)) rfl rfl iX0 (by decide) lk_77 rfl dX6_thick_56 ?_
        refine lv_istore (lv' := [(4, .int (f6 1 x1.toNatClampNeg 1)), (3, .ref (ra G 1 x1.toNatClampNeg)), (0, .ref (ra G 0 0)), (1, .int x1), (2, .int x2)]) hx hb dX6_thick_59 hl (by decide) rfl (fun ls hl => ?_)
        refine lv_aload_n hx hb dX6_thick_61 rfl (lv_at hl 1 rfl) ?_
        refine lv_iload_n hx hb dX6_thick_62 rfl (lv_at hl 4 rfl) ?_
        obtain ⟨f9, ef9, h⟩ := mm_lt h
        refine mm_put hx hb hts hown hR 1 x1.toNatClampNeg 1 (by decide) (mm_vld 1 (by decide) x1.toNatClampNeg (Nat.lt_trans (okI_lt z4) (by decide))) (x := x2) rfl rfl iX0 tyX0 tyX0_ok nmX0 (by decide) lk_77 rfl rfl rfl (Nat.le_of_ble_eq_true rfl) rfl dX6_thick_63 (fun H locs hR => ?_)
        rw [← ef9] at hR
        refine lv_iload hx hb dX6_thick_66 (lv_at hl 0 rfl) ?_
        obtain ⟨rfl, rfl⟩ := mm_pr h
        exact mm_iret C0 hR dX6_thick_68
      · rw [if_pos c8] at h
        refine lv_aload_n hx hb dX6_thick_48 rfl (lv_at hl 1 rfl) ?_
        refine lv_bipush (v := (-7)) hx hb dX6_thick_49 (by decide) ?_
        obtain ⟨r11, f10, ef10, h⟩ := mm_b2e h
        refine mm_callV (v := some (.int r11)) (f1 := f10) (d0 := 1) (rest := []) [.int (-7)] C0 rfl hR 0 0 (T_X6_refuse G ef10) ws_X6_refuse lk_70 hd_X6_refuse ⟨by decide, by decide⟩ vl_0 rfl rfl rfl hl.1 rfl (Nat.le_of_ble_eq_true rfl) dX6_thick_51 (fun H locs hR => ?_)
        refine W.eq (g2 := F0 m 54 ls (.int r11 :: [])) rfl ?_
        obtain ⟨rfl, rfl⟩ := mm_pr h
        exact mm_iret C0 hR dX6_thick_54
    · rw [if_pos c5] at h
      refine lv_aload_n hx hb dX6_thick_30 rfl (lv_at hl 1 rfl) ?_
      refine lv_bipush (v := (-5)) hx hb dX6_thick_31 (by decide) ?_
      obtain ⟨r13, f12, ef12, h⟩ := mm_b2e h
      refine mm_callV (v := some (.int r13)) (f1 := f12) (d0 := 1) (rest := []) [.int (-5)] C0 rfl hR 0 0 (T_X6_refuse G ef12) ws_X6_refuse lk_70 hd_X6_refuse ⟨by decide, by decide⟩ vl_0 rfl rfl rfl hl.1 rfl (Nat.le_of_ble_eq_true rfl) dX6_thick_33 (fun H locs hR => ?_)
      refine W.eq (g2 := F0 m 36 ls (.int r13 :: [])) rfl ?_
      obtain ⟨rfl, rfl⟩ := mm_pr h
      exact mm_iret C0 hR dX6_thick_36
  · rw [if_pos c3] at h
    refine lv_aload_n hx hb dX6_thick_8 rfl (lv_at hl 0 rfl) ?_
    refine lv_bipush (v := (-3)) hx hb dX6_thick_9 (by decide) ?_
    obtain ⟨r15, f14, ef14, h⟩ := mm_b2e h
    refine mm_callV (v := some (.int r15)) (f1 := f14) (d0 := 1) (rest := []) [.int (-3)] C0 rfl hR 0 0 (T_X6_refuse G ef14) ws_X6_refuse lk_70 hd_X6_refuse ⟨by decide, by decide⟩ vl_0 rfl rfl rfl hl.1 rfl (Nat.le_of_ble_eq_true rfl) dX6_thick_11 (fun H locs hR => ?_)
    refine W.eq (g2 := F0 m 14 ls (.int r15 :: [])) rfl ?_
    obtain ⟨rfl, rfl⟩ := mm_pr h
    exact mm_iret C0 hR dX6_thick_14
def S_X6_turn (f : F3) (x1 : Int32) : Option (Int32 × F3) := mm_b2 (S_X6_isLoad f x1) fun r2 f1 => if r2 = 0 then (mm_b2 (S_X6_refuse f1 (-3)) fun r12 f11 => some (r12, f11)) else (if okI x1 24 then (if (f1 2 x1.toNatClampNeg 3) = 0 then (mm_let (up f1 2 x1.toNatClampNeg 3 4) fun f6 => mm_b2 (S_X6_loadsIn f6 0) fun r8 f7 => some (r8, f7)) else (mm_b2 (S_X6_refuse f1 (-7)) fun r10 f9 => some (r10, f9))) else none)
set_option maxHeartbeats 4000000 in
set_option maxRecDepth 100000 in
theorem T_X6_turn (G : mmG) {f f' : F3} {rv : Int32} {x1 : Int32} (h : S_X6_turn f x1 = some (rv, f')) : mmM G yX6_turn cX6_turn 2 (some .int) 2 [.ref (ra G 0 0), .int x1] f (some (.int rv)) f' := by
  refine mm_start (by decide +kernel) (Nat.le_of_ble_eq_true rfl) ?_
  intro p e s m args below meth c ls C0 hR hl
  obtain ⟨hx, hb, hml, hr, hown, hts, hlocks⟩ := id C0
  have hl : lv_has ls 2 [(0, .ref (ra G 0 0)), (1, .int x1)] := hl
  rw [S_X6_turn] at h
  refine lv_aload_n hx hb dX6_turn_0 rfl (lv_at hl 0 rfl) ?_
  refine lv_iload_n hx hb dX6_turn_1 rfl (lv_at hl 1 rfl) ?_
  obtain ⟨r2, f1, ef1, h⟩ := mm_b2e h
  refine mm_callV (v := some (.int r2)) (f1 := f1) (d0 := 0) (rest := []) [.int x1] C0 rfl hR 0 0 (T_X6_isLoad G ef1) ws_X6_isLoad lk_124 hd_X6_isLoad ⟨by decide, by decide⟩ vl_0 rfl rfl rfl hl.1 rfl (Nat.le_of_ble_eq_true rfl) dX6_turn_2 (fun H locs hR => ?_)
  refine W.eq (g2 := F0 m 5 ls (.int r2 :: [])) rfl ?_
  refine lv_if_ne (tgt := 15) hx hb dX6_turn_5 (by decide) (fun c3 => ?_) (fun c3 => ?_)
  · rw [if_neg c3] at h
    refine lv_aload_n hx hb dX6_turn_15 rfl (lv_at hl 0 rfl) ?_
    refine mm_get hx hb hts hown hR 0 0 1 vl_0 (v := .ref (ra G 8 0)) rfl rfl iX6 (by decide) lk_61 rfl dX6_turn_16 ?_
    refine lv_iload_n hx hb dX6_turn_19 rfl (lv_at hl 1 rfl) ?_
    obtain ⟨z4, h⟩ := mm_if h
    refine mm_ald hx hb hR 8 0 3 vl_8 (L := 24) (C := "IceRoad$Load") (r2 := 2) (i2 := x1.toNatClampNeg) rfl rfl (okI_in z4) rfl (by decide) dX6_turn_20 ?_
    refine mm_get hx hb hts hown hR 2 x1.toNatClampNeg 3 (mm_vld 2 (by decide) x1.toNatClampNeg (okI_lt z4)) (v := .int (f1 2 x1.toNatClampNeg 3)) rfl rfl iX1 (by decide) lk_62 rfl dX6_turn_21 ?_
    refine lv_if_eq (tgt := 34) hx hb dX6_turn_24 (by decide) (fun c5 => ?_) (fun c5 => ?_)
    · rw [if_pos c5] at h
      refine lv_aload_n hx hb dX6_turn_34 rfl (lv_at hl 0 rfl) ?_
      refine mm_get hx hb hts hown hR 0 0 1 vl_0 (v := .ref (ra G 8 0)) rfl rfl iX6 (by decide) lk_61 rfl dX6_turn_35 ?_
      refine lv_iload_n hx hb dX6_turn_38 rfl (lv_at hl 1 rfl) ?_
      refine mm_ald hx hb hR 8 0 3 vl_8 (L := 24) (C := "IceRoad$Load") (r2 := 2) (i2 := x1.toNatClampNeg) rfl rfl (okI_in z4) rfl (by decide) dX6_turn_39 ?_
      refine lv_iconst (v := 4) hx hb dX6_turn_40 (by decide) ?_
      obtain ⟨f6, ef6, h⟩ := mm_lt h
      refine mm_put hx hb hts hown hR 2 x1.toNatClampNeg 3 (by decide) (mm_vld 2 (by decide) x1.toNatClampNeg (okI_lt z4)) (x := 4) rfl rfl iX1 tyX1 tyX1_ok nmX1 (by decide) lk_62 rfl rfl rfl (Nat.le_of_ble_eq_true rfl) rfl dX6_turn_41 (fun H locs hR => ?_)
      rw [← ef6] at hR
      refine lv_aload_n hx hb dX6_turn_44 rfl (lv_at hl 0 rfl) ?_
      refine lv_iconst (v := 0) hx hb dX6_turn_45 (by decide) ?_
      obtain ⟨r8, f7, ef7, h⟩ := mm_b2e h
      refine mm_callV (v := some (.int r8)) (f1 := f7) (d0 := 0) (rest := []) [.int 0] C0 rfl hR 0 0 (T_X6_loadsIn G ef7) ws_X6_loadsIn lk_113 hd_X6_loadsIn ⟨by decide, by decide⟩ vl_0 rfl rfl rfl hl.1 rfl (Nat.le_of_ble_eq_true rfl) dX6_turn_46 (fun H locs hR => ?_)
      refine W.eq (g2 := F0 m 49 ls (.int r8 :: [])) rfl ?_
      obtain ⟨rfl, rfl⟩ := mm_pr h
      exact mm_iret C0 hR dX6_turn_49
    · rw [if_neg c5] at h
      refine lv_aload_n hx hb dX6_turn_27 rfl (lv_at hl 0 rfl) ?_
      refine lv_bipush (v := (-7)) hx hb dX6_turn_28 (by decide) ?_
      obtain ⟨r10, f9, ef9, h⟩ := mm_b2e h
      refine mm_callV (v := some (.int r10)) (f1 := f9) (d0 := 1) (rest := []) [.int (-7)] C0 rfl hR 0 0 (T_X6_refuse G ef9) ws_X6_refuse lk_70 hd_X6_refuse ⟨by decide, by decide⟩ vl_0 rfl rfl rfl hl.1 rfl (Nat.le_of_ble_eq_true rfl) dX6_turn_30 (fun H locs hR => ?_)
      refine W.eq (g2 := F0 m 33 ls (.int r10 :: [])) rfl ?_
      obtain ⟨rfl, rfl⟩ := mm_pr h
      exact mm_iret C0 hR dX6_turn_33
  · rw [if_pos c3] at h
    refine lv_aload_n hx hb dX6_turn_8 rfl (lv_at hl 0 rfl) ?_
    refine lv_bipush (v := (-3)) hx hb dX6_turn_9 (by decide) ?_
    obtain ⟨r12, f11, ef11, h⟩ := mm_b2e h
    refine mm_callV (v := some (.int r12)) (f1 := f11) (d0 := 1) (rest := []) [.int (-3)] C0 rfl hR 0 0 (T_X6_refuse G ef11) ws_X6_refuse lk_70 hd_X6_refuse ⟨by decide, by decide⟩ vl_0 rfl rfl rfl hl.1 rfl (Nat.le_of_ble_eq_true rfl) dX6_turn_11 (fun H locs hR => ?_)
    refine W.eq (g2 := F0 m 14 ls (.int r12 :: [])) rfl ?_
    obtain ⟨rfl, rfl⟩ := mm_pr h
    exact mm_iret C0 hR dX6_turn_14
def S_X6_weather_48 (f : F3) (x1 : Int32) (x2 : Int32) : Option (Int32 × F3) := if okI x1 48 then (mm_let (up f 14 0 x1.toNatClampNeg x2) fun f13 => some (f 14 0 x1.toNatClampNeg, f13)) else none
set_option maxHeartbeats 4000000 in
set_option maxRecDepth 100000 in
theorem L_X6_weather_48 {G : mmG} {p : Program} {e : Env} {s : State} {m : MethodId} {args : Array Value} {below : List Frame} {meth : Method} {c : Code} {f' : F3} {rv : Int32} (C0 : mmC yX6_weather cX6_weather 4 (some .int) p s m args meth c) {f : F3} {x1 : Int32} {x2 : Int32} (h : S_X6_weather_48 f x1 x2 = some (rv, f')) (H : Heap) (locs : List Loc) (ls : Array Slot) (hR : mm_R G mm_NT f (GG f) s H locs) (hl : lv_has ls 4 [(0, .ref (ra G 0 0)), (1, .int x1), (2, .int x2)]) : W p G.1 e (mm_rm 2) s m args below meth c H locs 0 0 (MQ below (mm_Q G mm_NT (some (.int rv)) f' (GG f')) args s 0 0 (mm_A G)) (F0 m 48 ls []) := by
  obtain ⟨hx, hb, hml, hr, hown, hts, hlocks⟩ := id C0
  rw [S_X6_weather_48] at h
  refine lv_aload_n hx hb dX6_weather_48 rfl (lv_at hl 0 rfl) ?_
  refine mm_get hx hb hts hown hR 0 0 4 vl_0 (v := .ref (ra G 6 0)) rfl rfl iX6 (by decide) lk_81 rfl dX6_weather_49 ?_
  refine mm_get hx hb hts hown hR 6 0 0 vl_6 (v := .ref (ra G 14 0)) rfl rfl iX5 (by decide) lk_82 rfl dX6_weather_52 ?_
  refine lv_iload_n hx hb dX6_weather_55 rfl (lv_at hl 1 rfl) ?_
  obtain ⟨z12, h⟩ := mm_if h
  refine mm_ild hx hb hR 14 0 vl_14 (L := 48) rfl (okI_in z12) dX6_weather_56 ?_
  refine lv_istore_n (lv' := [(3, .int (f 14 0 x1.toNatClampNeg)), (0, .ref (ra G 0 0)), (1, .int x1), (2, .int x2)]) hx hb dX6_weather_57 rfl hl (by decide) rfl (fun ls hl => ?_)
  refine lv_aload_n hx hb dX6_weather_58 rfl (lv_at hl 1 rfl) ?_
  refine mm_get hx hb hts hown hR 0 0 4 vl_0 (v := .ref (ra G 6 0)) rfl rfl iX6 (by decide) lk_81 rfl dX6_weather_59 ?_
  refine mm_get hx hb hts hown hR 6 0 0 vl_6 (v := .ref (ra G 14 0)) rfl rfl iX5 (by decide) lk_82 rfl dX6_weather_62 ?_
  refine lv_iload_n hx hb dX6_weather_65 rfl (lv_at hl 2 rfl) ?_
  refine lv_iload_n hx hb dX6_weather_66 rfl (lv_at hl 3 rfl) ?_
  obtain ⟨f13, ef13, h⟩ := mm_lt h
  refine mm_ist hx hb hR 14 0 (by decide) vl_14 (L := 48) (j := x1) (x := x2) (fun _ => rfl) (okI_in z12) dX6_weather_67 (fun H locs hR => ?_)
  rw [← ef13] at hR
  refine lv_iload_n hx hb dX6_weather_68 rfl (lv_at hl 0 rfl) ?_
  obtain ⟨rfl, rfl⟩ := mm_pr h
  exact mm_iret C0 hR dX6_weather_69
def S_X6_weather (f : F3) (x1 : Int32) (x2 : Int32) : Option (Int32 × F3) := mm_b2 (S_X6_isWithin f x1 0 47) fun r2 f1 => if r2 = 0 then (mm_b2 (S_X6_refuse f1 (-3)) fun r11 f10 => some (0, f10)) else (if x2 = (-9999) then (S_X6_weather_48 f1 x1 x2) else (mm_b2 (S_X6_isWithin f1 x2 (-600) 300) fun r6 f5 => if r6 = 0 then (mm_b2 (S_X6_refuse f5 (-7)) fun r9 f8 => some (0, f8)) else (S_X6_weather_48 f5 x1 x2)))
set_option maxHeartbeats 4000000 in
set_option maxRecDepth 100000 in
theorem T_X6_weather (G : mmG) {f f' : F3} {rv : Int32} {x1 : Int32} {x2 : Int32} (h : S_X6_weather f x1 x2 = some (rv, f')) : mmM G yX6_weather cX6_weather 4 (some .int) 2 [.ref (ra G 0 0), .int x1, .int x2] f (some (.int rv)) f' := by
  refine mm_start (by decide +kernel) (Nat.le_of_ble_eq_true rfl) ?_
  intro p e s m args below meth c ls C0 hR hl
  obtain ⟨hx, hb, hml, hr, hown, hts, hlocks⟩ := id C0
  have hl : lv_has ls 4 [(0, .ref (ra G 0 0)), (1, .int x1), (2, .int x2)] := hl
  rw [S_X6_weather] at h
  refine lv_iload_n hx hb dX6_weather_0 rfl (lv_at hl 1 rfl) ?_
  refine lv_iconst (v := 0) hx hb dX6_weather_1 (by decide) ?_
  refine lv_bipush (v := 47) hx hb dX6_weather_2 (by decide) ?_
  obtain ⟨r2, f1, ef1, h⟩ := mm_b2e h
  refine mm_callS (v := some (.int r2)) (f1 := f1) (d0 := 0) (rest := []) [.int x1, .int 0, .int 47] C0 rfl hR (T_X6_isWithin G ef1) ws_X6_isWithin lk_65 hd_X6_isWithin ⟨by decide, by decide⟩ hl.1 rfl (Nat.le_of_ble_eq_true rfl) dX6_weather_4 (fun H locs hR => ?_)
  refine W.eq (g2 := F0 m 7 ls (.int r2 :: [])) rfl ?_
  refine lv_if_ne (tgt := 19) hx hb dX6_weather_7 (by decide) (fun c3 => ?_) (fun c3 => ?_)
  · rw [if_neg c3] at h
    refine lv_iload_n hx hb dX6_weather_19 rfl (lv_at hl 2 rfl) ?_
    refine lv_sipush (v := (-9999)) hx hb dX6_weather_20 (by decide) ?_
    refine lv_icmp_eq (tgt := 48) hx hb dX6_weather_23 (by decide) (fun c4 => ?_) (fun c4 => ?_)
    · rw [if_pos c4] at h
      exact L_X6_weather_48 C0 h _ _ _ hR (lv_sub hl [0, 1, 2] rfl)
    · rw [if_neg c4] at h
      refine lv_iload_n hx hb dX6_weather_26 rfl (lv_at hl 2 rfl) ?_
      refine lv_sipush (v := (-600)) hx hb dX6_weather_27 (by decide) ?_
      refine lv_sipush (v := 300) hx hb dX6_weather_30 (by decide) ?_
      obtain ⟨r6, f5, ef5, h⟩ := mm_b2e h
      refine mm_callS (v := some (.int r6)) (f1 := f5) (d0 := 0) (rest := []) [.int x2, .int (-600), .int 300] C0 rfl hR (T_X6_isWithin G ef5) ws_X6_isWithin lk_65 hd_X6_isWithin ⟨by decide, by decide⟩ hl.1 rfl (Nat.le_of_ble_eq_true rfl) dX6_weather_33 (fun H locs hR => ?_)
      refine W.eq (g2 := F0 m 36 ls (.int r6 :: [])) rfl ?_
      refine lv_if_ne (tgt := 48) hx hb dX6_weather_36 (by decide) (fun c7 => ?_) (fun c7 => ?_)
      · rw [if_neg c7] at h
        exact L_X6_weather_48 C0 h _ _ _ hR (lv_sub hl [0, 1, 2] rfl)
      · rw [if_pos c7] at h
        refine lv_aload_n hx hb dX6_weather_39 rfl (lv_at hl 0 rfl) ?_
        refine lv_bipush (v := (-7)) hx hb dX6_weather_40 (by decide) ?_
        obtain ⟨r9, f8, ef8, h⟩ := mm_b2e h
        refine mm_callV (v := some (.int r9)) (f1 := f8) (d0 := 1) (rest := []) [.int (-7)] C0 rfl hR 0 0 (T_X6_refuse G ef8) ws_X6_refuse lk_70 hd_X6_refuse ⟨by decide, by decide⟩ vl_0 rfl rfl rfl hl.1 rfl (Nat.le_of_ble_eq_true rfl) dX6_weather_42 (fun H locs hR => ?_)
        refine W.eq (g2 := F0 m 45 ls (.int r9 :: [])) rfl ?_
        refine lv_pop hx hb dX6_weather_45 rfl ?_
        refine lv_iconst (v := 0) hx hb dX6_weather_46 (by decide) ?_
        obtain ⟨rfl, rfl⟩ := mm_pr h
        exact mm_iret C0 hR dX6_weather_47
  · rw [if_pos c3] at h
    refine lv_aload_n hx hb dX6_weather_10 rfl (lv_at hl 0 rfl) ?_
    refine lv_bipush (v := (-3)) hx hb dX6_weather_11 (by decide) ?_
    obtain ⟨r11, f10, ef10, h⟩ := mm_b2e h
    refine mm_callV (v := some (.int r11)) (f1 := f10) (d0 := 1) (rest := []) [.int (-3)] C0 rfl hR 0 0 (T_X6_refuse G ef10) ws_X6_refuse lk_70 hd_X6_refuse ⟨by decide, by decide⟩ vl_0 rfl rfl rfl hl.1 rfl (Nat.le_of_ble_eq_true rfl) dX6_weather_13 (fun H locs hR => ?_)
    refine W.eq (g2 := F0 m 16 ls (.int r11 :: [])) rfl ?_
    refine lv_pop hx hb dX6_weather_16 rfl ?_
    refine lv_iconst (v := 0) hx hb dX6_weather_17 (by decide) ?_
    obtain ⟨rfl, rfl⟩ := mm_pr h
    exact mm_iret C0 hR dX6_weather_18
def S_X6_why_16 (f : F3)  : Option (Int32 × F3) := mm_b2 (S_X6_refuse f (-3)) fun r11 f10 => some (r11, f10)
set_option maxHeartbeats 4000000 in
set_option maxRecDepth 100000 in
theorem L_X6_why_16 {G : mmG} {p : Program} {e : Env} {s : State} {m : MethodId} {args : Array Value} {below : List Frame} {meth : Method} {c : Code} {f' : F3} {rv : Int32} (C0 : mmC yX6_why cX6_why 3 (some .int) p s m args meth c) {f : F3} (h : S_X6_why_16 f = some (rv, f')) (H : Heap) (locs : List Loc) (ls : Array Slot) (hR : mm_R G mm_NT f (GG f) s H locs) (hl : lv_has ls 3 [(0, .ref (ra G 0 0))]) : W p G.1 e (mm_rm 4) s m args below meth c H locs 0 0 (MQ below (mm_Q G mm_NT (some (.int rv)) f' (GG f')) args s 0 0 (mm_A G)) (F0 m 16 ls []) := by
  obtain ⟨hx, hb, hml, hr, hown, hts, hlocks⟩ := id C0
  rw [S_X6_why_16] at h
  refine lv_aload_n hx hb dX6_why_16 rfl (lv_at hl 0 rfl) ?_
  refine lv_bipush (v := (-3)) hx hb dX6_why_17 (by decide) ?_
  obtain ⟨r11, f10, ef10, h⟩ := mm_b2e h
  refine mm_callV (v := some (.int r11)) (f1 := f10) (d0 := 1) (rest := []) [.int (-3)] C0 rfl hR 0 0 (T_X6_refuse G ef10) ws_X6_refuse lk_70 hd_X6_refuse ⟨by decide, by decide⟩ vl_0 rfl rfl rfl hl.1 rfl (Nat.le_of_ble_eq_true rfl) dX6_why_19 (fun H locs hR => ?_)
  refine W.eq (g2 := F0 m 22 ls (.int r11 :: [])) rfl ?_
  obtain ⟨rfl, rfl⟩ := mm_pr h
  exact mm_iret C0 hR dX6_why_22
def S_X6_why (f : F3) (x1 : Int32) (x2 : Int32) : Option (Int32 × F3) := mm_b2 (S_X6_isLoad f x1) fun r2 f1 => if r2 = 0 then (S_X6_why_16 f1 ) else (mm_b2 (S_X6_isCell f1 x2) fun r5 f4 => if r5 = 0 then (S_X6_why_16 f4 ) else (if okI x1 24 then (mm_b2 (S_X6_reasonAgainst f4 x1.toNatClampNeg x2) fun r9 f8 => some (r9, f8)) else none))
set_option maxHeartbeats 4000000 in
set_option maxRecDepth 100000 in
theorem T_X6_why (G : mmG) {f f' : F3} {rv : Int32} {x1 : Int32} {x2 : Int32} (h : S_X6_why f x1 x2 = some (rv, f')) : mmM G yX6_why cX6_why 3 (some .int) 4 [.ref (ra G 0 0), .int x1, .int x2] f (some (.int rv)) f' := by
  refine mm_start (by decide +kernel) (Nat.le_of_ble_eq_true rfl) ?_
  intro p e s m args below meth c ls C0 hR hl
  obtain ⟨hx, hb, hml, hr, hown, hts, hlocks⟩ := id C0
  have hl : lv_has ls 3 [(0, .ref (ra G 0 0)), (1, .int x1), (2, .int x2)] := hl
  rw [S_X6_why] at h
  refine lv_aload_n hx hb dX6_why_0 rfl (lv_at hl 0 rfl) ?_
  refine lv_iload_n hx hb dX6_why_1 rfl (lv_at hl 1 rfl) ?_
  obtain ⟨r2, f1, ef1, h⟩ := mm_b2e h
  refine mm_callV (v := some (.int r2)) (f1 := f1) (d0 := 0) (rest := []) [.int x1] C0 rfl hR 0 0 (T_X6_isLoad G ef1) ws_X6_isLoad lk_124 hd_X6_isLoad ⟨by decide, by decide⟩ vl_0 rfl rfl rfl hl.1 rfl (Nat.le_of_ble_eq_true rfl) dX6_why_2 (fun H locs hR => ?_)
  refine W.eq (g2 := F0 m 5 ls (.int r2 :: [])) rfl ?_
  refine lv_if_eq (tgt := 16) hx hb dX6_why_5 (by decide) (fun c3 => ?_) (fun c3 => ?_)
  · rw [if_pos c3] at h
    exact L_X6_why_16 C0 h _ _ _ hR (lv_sub hl [0] rfl)
  · rw [if_neg c3] at h
    refine lv_aload_n hx hb dX6_why_8 rfl (lv_at hl 0 rfl) ?_
    refine lv_iload_n hx hb dX6_why_9 rfl (lv_at hl 2 rfl) ?_
    obtain ⟨r5, f4, ef4, h⟩ := mm_b2e h
    refine mm_callV (v := some (.int r5)) (f1 := f4) (d0 := 0) (rest := []) [.int x2] C0 rfl hR 0 0 (T_X6_isCell G ef4) ws_X6_isCell lk_67 hd_X6_isCell ⟨by decide, by decide⟩ vl_0 rfl rfl rfl hl.1 rfl (Nat.le_of_ble_eq_true rfl) dX6_why_10 (fun H locs hR => ?_)
    refine W.eq (g2 := F0 m 13 ls (.int r5 :: [])) rfl ?_
    refine lv_if_ne (tgt := 23) hx hb dX6_why_13 (by decide) (fun c6 => ?_) (fun c6 => ?_)
    · rw [if_neg c6] at h
      refine lv_aload_n hx hb dX6_why_23 rfl (lv_at hl 0 rfl) ?_
      refine lv_aload_n hx hb dX6_why_24 rfl (lv_at hl 0 rfl) ?_
      refine mm_get hx hb hts hown hR 0 0 1 vl_0 (v := .ref (ra G 8 0)) rfl rfl iX6 (by decide) lk_61 rfl dX6_why_25 ?_
      refine lv_iload_n hx hb dX6_why_28 rfl (lv_at hl 1 rfl) ?_
      obtain ⟨z7, h⟩ := mm_if h
      refine mm_ald hx hb hR 8 0 3 vl_8 (L := 24) (C := "IceRoad$Load") (r2 := 2) (i2 := x1.toNatClampNeg) rfl rfl (okI_in z7) rfl (by decide) dX6_why_29 ?_
      refine lv_iload_n hx hb dX6_why_30 rfl (lv_at hl 2 rfl) ?_
      obtain ⟨r9, f8, ef8, h⟩ := mm_b2e h
      refine mm_callV (v := some (.int r9)) (f1 := f8) (d0 := 3) (rest := []) [.ref (ra G 2 x1.toNatClampNeg), .int x2] C0 rfl hR 0 0 (T_X6_reasonAgainst G (okI_lt z7) ef8) ws_X6_reasonAgainst lk_104 hd_X6_reasonAgainst ⟨by decide, by decide⟩ vl_0 rfl rfl rfl hl.1 rfl (Nat.le_of_ble_eq_true rfl) dX6_why_31 (fun H locs hR => ?_)
      refine W.eq (g2 := F0 m 34 ls (.int r9 :: [])) rfl ?_
      obtain ⟨rfl, rfl⟩ := mm_pr h
      exact mm_iret C0 hR dX6_why_34
    · rw [if_pos c6] at h
      exact L_X6_why_16 C0 h _ _ _ hR (lv_sub hl [0] rfl)
def S_X6_wipe (f : F3)  : Option (Int32 × F3) := mm_let (up f 5 0 1 0) fun f1 => some (f 5 0 1, f1)
set_option maxHeartbeats 4000000 in
set_option maxRecDepth 100000 in
theorem T_X6_wipe (G : mmG) {f f' : F3} {rv : Int32} (h : S_X6_wipe f = some (rv, f')) : mmM G yX6_wipe cX6_wipe 2 (some .int) 0 [.ref (ra G 0 0)] f (some (.int rv)) f' := by
  refine mm_start (by decide +kernel) (Nat.le_of_ble_eq_true rfl) ?_
  intro p e s m args below meth c ls C0 hR hl
  obtain ⟨hx, hb, hml, hr, hown, hts, hlocks⟩ := id C0
  have hl : lv_has ls 2 [(0, .ref (ra G 0 0))] := hl
  rw [S_X6_wipe] at h
  refine lv_aload_n hx hb dX6_wipe_0 rfl (lv_at hl 0 rfl) ?_
  refine mm_get hx hb hts hown hR 0 0 6 vl_0 (v := .ref (ra G 5 0)) rfl rfl iX6 (by decide) lk_111 rfl dX6_wipe_1 ?_
  refine mm_get hx hb hts hown hR 5 0 1 vl_5 (v := .int (f 5 0 1)) rfl rfl iX4 (by decide) lk_112 rfl dX6_wipe_4 ?_
  refine lv_istore_n (lv' := [(1, .int (f 5 0 1)), (0, .ref (ra G 0 0))]) hx hb dX6_wipe_7 rfl hl (by decide) rfl (fun ls hl => ?_)
  refine lv_aload_n hx hb dX6_wipe_8 rfl (lv_at hl 1 rfl) ?_
  refine mm_get hx hb hts hown hR 0 0 6 vl_0 (v := .ref (ra G 5 0)) rfl rfl iX6 (by decide) lk_111 rfl dX6_wipe_9 ?_
  refine lv_iconst (v := 0) hx hb dX6_wipe_12 (by decide) ?_
  obtain ⟨f1, ef1, h⟩ := mm_lt h
  refine mm_put hx hb hts hown hR 5 0 1 (by decide) vl_5 (x := 0) rfl rfl iX4 tyX4 tyX4_ok nmX4 (by decide) lk_112 rfl rfl rfl (Nat.le_of_ble_eq_true rfl) rfl dX6_wipe_13 (fun H locs hR => ?_)
  rw [← ef1] at hR
  refine lv_iload_n hx hb dX6_wipe_16 rfl (lv_at hl 0 rfl) ?_
  obtain ⟨rfl, rfl⟩ := mm_pr h
  exact mm_iret C0 hR dX6_wipe_17
