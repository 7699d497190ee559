def S_X3_takeSign (f : F3) (x1 : Int32) : Option (Int32 × F3) := mm_b2 (S_X4_at f (f 4 0 1)) fun r2 f1 => if r2 = x1 then (mm_let (up f1 4 0 1 ((f1 4 0 1) + 1)) fun f4 => some (1, f4)) else (some (0, f1))
set_option maxHeartbeats 4000000 in
set_option maxRecDepth 100000 in
theorem T_X3_takeSign (G : mmG) {f f' : F3} {rv : Int32} {x1 : Int32} (h : S_X3_takeSign f x1 = some (rv, f')) : mmM G yX3_takeSign cX3_takeSign 2 (some .boolean) 1 [.ref (ra G 4 0), .int x1] f (some (.int rv)) f' := by
  refine mm_start (by decide +kernel) (Nat.le_of_ble_eq_true rfl) ?_
  intro p e s m args below meth c ls C0 hR hl
  obtain ⟨hx, hb, hml, hr, hown, hts, hlocks⟩ := id C0
  have hl : lv_has ls 2 [(0, .ref (ra G 4 0)), (1, .int x1)] := hl
  rw [S_X3_takeSign] at h
  refine lv_aload_n hx hb dX3_takeSign_0 rfl (lv_at hl 0 rfl) ?_
  refine mm_get hx hb hts hown hR 4 0 0 vl_4 (v := .ref (ra G 5 0)) rfl rfl iX3 (by decide) lk_33 rfl dX3_takeSign_1 ?_
  refine lv_aload_n hx hb dX3_takeSign_4 rfl (lv_at hl 0 rfl) ?_
  refine mm_get hx hb hts hown hR 4 0 1 vl_4 (v := .int (f 4 0 1)) rfl rfl iX3 (by decide) lk_32 rfl dX3_takeSign_5 ?_
  obtain ⟨r2, f1, ef1, h⟩ := mm_b2e h
  refine mm_callV (v := some (.int r2)) (f1 := f1) (d0 := 0) (rest := []) [.int (f 4 0 1)] C0 rfl hR 5 0 (T_X4_at G ef1) ws_X4_at lk_38 hd_X4_at ⟨by decide, by decide⟩ vl_5 rfl rfl rfl hl.1 rfl (Nat.le_of_ble_eq_true rfl) dX3_takeSign_8 (fun H locs hR => ?_)
  refine W.eq (g2 := F0 m 11 ls (.int r2 :: [])) rfl ?_
  refine lv_iload_n hx hb dX3_takeSign_11 rfl (lv_at hl 1 rfl) ?_
  refine lv_icmp_eq (tgt := 17) hx hb dX3_takeSign_12 (by decide) (fun c3 => ?_) (fun c3 => ?_)
  · rw [if_pos c3] at h
    refine lv_aload_n hx hb dX3_takeSign_17 rfl (lv_at hl 0 rfl) ?_
    refine lv_dup hx hb dX3_takeSign_18 rfl ?_
    refine mm_get hx hb hts hown hR 4 0 1 vl_4 (v := .int (f1 4 0 1)) rfl rfl iX3 (by decide) lk_32 rfl dX3_takeSign_19 ?_
    refine lv_iconst (v := 1) hx hb dX3_takeSign_22 (by decide) ?_
    refine lv_iadd hx hb dX3_takeSign_23 ?_
    obtain ⟨f4, ef4, h⟩ := mm_lt h
    refine mm_put hx hb hts hown hR 4 0 1 (by decide) vl_4 (x := (f1 4 0 1) + 1) rfl rfl iX3 tyX3 tyX3_ok nmX3 (by decide) lk_32 rfl rfl rfl (Nat.le_of_ble_eq_true rfl) rfl dX3_takeSign_24 (fun H locs hR => ?_)
    rw [← ef4] at hR
    refine lv_iconst (v := 1) hx hb dX3_takeSign_27 (by decide) ?_
    obtain ⟨rfl, rfl⟩ := mm_pr h
    exact mm_zret C0 rfl hR dX3_takeSign_28
  · rw [if_neg c3] at h
    refine lv_iconst (v := 0) hx hb dX3_takeSign_15 (by decide) ?_
    obtain ⟨rfl, rfl⟩ := mm_pr h
    exact mm_zret C0 rfl hR dX3_takeSign_16
def S_X3_takeTest_125 (f : F3) (t0 : Nat) (s1 : Int32) (s2 : Int32) (i1 : Nat) : Option (Int32 × F3) := if okI s1 3 then (mm_let (up f 18 t0 s1.toNatClampNeg s2) fun f22 => mm_let (up f22 3 i1 5 ((f22 3 i1 5) + 1)) fun f23 => some (1, f23)) else none
set_option maxHeartbeats 4000000 in
set_option maxRecDepth 100000 in
theorem L_X3_takeTest_125 {G : mmG} {p : Program} {e : Env} {s : State} {m : MethodId} {args : Array Value} {below : List Frame} {meth : Method} {c : Code} {f' : F3} {rv : Int32} (C0 : mmC yX3_takeTest cX3_takeTest 6 (some .boolean) p s m args meth c) {f : F3} {t0 : Nat} {s1 : Int32} {s2 : Int32} {i1 : Nat} (ht0 : t0 < mm_cnt 18) (hi1 : i1 < mm_cnt 3) (h : S_X3_takeTest_125 f t0 s1 s2 i1 = some (rv, f')) (H : Heap) (locs : List Loc) (ls : Array Slot) (hR : mm_R G mm_NT f (GG f) s H locs) (hl : lv_has ls 6 [(1, .ref (ra G 3 i1))]) : W p G.1 e (mm_rm 6) s m args below meth c H locs 0 0 (MQ below (mm_Q G mm_NT (some (.int rv)) f' (GG f')) args s 0 0 (mm_A G)) (F0 m 125 ls [.int s2, .int s1, .ref (ra G 18 t0)]) := by
  obtain ⟨hx, hb, hml, hr, hown, hts, hlocks⟩ := id C0
  rw [S_X3_takeTest_125] at h
  obtain ⟨z21, h⟩ := mm_if h
  obtain ⟨f22, ef22, h⟩ := mm_lt h
  refine mm_ist hx hb hR 18 t0 (by decide) (mm_vld 18 (by decide) t0 ht0) (L := 3) (j := s1) (x := s2) (fun _ => rfl) (okI_in z21) dX3_takeTest_125 (fun H locs hR => ?_)
  rw [← ef22] at hR
  refine lv_aload_n hx hb dX3_takeTest_126 rfl (lv_at hl 0 rfl) ?_
  refine lv_dup hx hb dX3_takeTest_127 rfl ?_
  refine mm_get hx hb hts hown hR 3 i1 5 (mm_vld 3 (by decide) i1 hi1) (v := .int (f22 3 i1 5)) rfl rfl iX2 (by decide) lk_41 rfl dX3_takeTest_128 ?_
  refine lv_iconst (v := 1) hx hb dX3_takeTest_131 (by decide) ?_
  refine lv_iadd hx hb dX3_takeTest_132 ?_
  obtain ⟨f23, ef23, h⟩ := mm_lt h
  refine mm_put hx hb hts hown hR 3 i1 5 (by decide) (mm_vld 3 (by decide) i1 hi1) (x := (f22 3 i1 5) + 1) rfl rfl iX2 tyX2 tyX2_ok nmX2 (by decide) lk_41 rfl rfl rfl (Nat.le_of_ble_eq_true rfl) rfl dX3_takeTest_133 (fun H locs hR => ?_)
  rw [← ef23] at hR
  refine lv_iconst (v := 1) hx hb dX3_takeTest_136 (by decide) ?_
  obtain ⟨rfl, rfl⟩ := mm_pr h
  exact mm_zret C0 rfl hR dX3_takeTest_137
def S_X3_takeTest_44 (f : F3) (i1 : Nat) (x2 : Int32) (x3 : Int32) : Option (Int32 × F3) := mm_let (up f 4 0 1 ((f 4 0 1) + 1)) fun f9 => mm_b2 (S_X3_takeSign f9 45) fun r11 f10 => mm_b2 (S_X3_takeNumber f10) fun r13 f12 => if r13 = (-1) then (some (0, f12)) else (if (f12 3 i1 5) < 3 then (if okI (f12 3 i1 5) 3 then (mm_let (up f12 16 i1 (f12 3 i1 5).toNatClampNeg x2) fun f17 => if okI (f17 3 i1 5) 3 then (mm_let (up f17 17 i1 (f17 3 i1 5).toNatClampNeg x3) fun f19 => if r11 = 0 then (S_X3_takeTest_125 f19 i1 (f19 3 i1 5) r13 i1) else (S_X3_takeTest_125 f19 i1 (f19 3 i1 5) (-r13) i1)) else none) else none) else (some (0, f12)))
set_option maxHeartbeats 4000000 in
set_option maxRecDepth 100000 in
theorem L_X3_takeTest_44 {G : mmG} {p : Program} {e : Env} {s : State} {m : MethodId} {args : Array Value} {below : List Frame} {meth : Method} {c : Code} {f' : F3} {rv : Int32} (C0 : mmC yX3_takeTest cX3_takeTest 6 (some .boolean) p s m args meth c) {f : F3} {i1 : Nat} {x2 : Int32} {x3 : Int32} (hi1 : i1 < mm_cnt 3) (h : S_X3_takeTest_44 f i1 x2 x3 = some (rv, f')) (H : Heap) (locs : List Loc) (ls : Array Slot) (hR : mm_R G mm_NT f (GG f) s H locs) (hl : lv_has ls 6 [(0, .ref (ra G 4 0)), (1, .ref (ra G 3 i1)), (2, .int x2), (3, .int x3)]) : W p G.1 e (mm_rm 6) s m args below meth c H locs 0 0 (MQ below (mm_Q G mm_NT (some (.int rv)) f' (GG f')) args s 0 0 (mm_A G)) (F0 m 44 ls []) := by
  obtain ⟨hx, hb, hml, hr, hown, hts, hlocks⟩ := id C0
  rw [S_X3_takeTest_44] at h
  refine lv_aload_n hx hb dX3_takeTest_44 rfl (lv_at hl 0 rfl) ?_
  refine lv_dup hx hb dX3_takeTest_45 rfl ?_
  refine mm_get hx hb hts hown hR 4 0 1 vl_4 (v := .int (f 4 0 1)) rfl rfl iX3 (by decide) lk_32 rfl dX3_takeTest_46 ?_
  refine lv_iconst (v := 1) hx hb dX3_takeTest_49 (by decide) ?_
  refine lv_iadd hx hb dX3_takeTest_50 ?_
  obtain ⟨f9, ef9, h⟩ := mm_lt h
  refine mm_put hx hb hts hown hR 4 0 1 (by decide) vl_4 (x := (f 4 0 1) + 1) rfl rfl iX3 tyX3 tyX3_ok nmX3 (by decide) lk_32 rfl rfl rfl (Nat.le_of_ble_eq_true rfl) rfl dX3_takeTest_51 (fun H locs hR => ?_)
  rw [← ef9] at hR
  refine lv_aload_n hx hb dX3_takeTest_54 rfl (lv_at hl 0 rfl) ?_
  refine lv_bipush (v := 45) hx hb dX3_takeTest_55 (by decide) ?_
  obtain ⟨r11, f10, ef10, h⟩ := mm_b2e h
  refine mm_callV (v := some (.int r11)) (f1 := f10) (d0 := 1) (rest := []) [.int 45] C0 rfl hR 4 0 (T_X3_takeSign G ef10) ws_X3_takeSign lk_44 hd_X3_takeSign ⟨by decide, by decide⟩ vl_4 rfl rfl rfl hl.1 rfl (Nat.le_of_ble_eq_true rfl) dX3_takeTest_57 (fun H locs hR => ?_)
  refine W.eq (g2 := F0 m 60 ls (.int r11 :: [])) rfl ?_
  refine lv_istore (lv' := [(4, .int r11), (0, .ref (ra G 4 0)), (1, .ref (ra G 3 i1)), (2, .int x2), (3, .int x3)]) hx hb dX3_takeTest_60 hl (by decide) rfl (fun ls hl => ?_)
  refine lv_aload_n hx hb dX3_takeTest_62 rfl (lv_at hl 1 rfl) ?_
  obtain ⟨r13, f12, ef12, h⟩ := mm_b2e h
  refine mm_callV (v := some (.int r13)) (f1 := f12) (d0 := 1) (rest := []) [] C0 rfl hR 4 0 (T_X3_takeNumber G ef12) ws_X3_takeNumber lk_45 hd_X3_takeNumber ⟨by decide, by decide⟩ vl_4 rfl rfl rfl hl.1 rfl (Nat.le_of_ble_eq_true rfl) dX3_takeTest_63 (fun H locs hR => ?_)
  refine W.eq (g2 := F0 m 66 ls (.int r13 :: [])) rfl ?_
  refine lv_istore (lv' := [(5, .int r13), (4, .int r11), (0, .ref (ra G 4 0)), (1, .ref (ra G 3 i1)), (2, .int x2), (3, .int x3)]) hx hb dX3_takeTest_66 hl (by decide) rfl (fun ls hl => ?_)
  refine lv_iload hx hb dX3_takeTest_68 (lv_at hl 0 rfl) ?_
  refine lv_iconst (v := (-1)) hx hb dX3_takeTest_70 (by decide) ?_
  refine lv_icmp_eq (tgt := 82) hx hb dX3_takeTest_71 (by decide) (fun c14 => ?_) (fun c14 => ?_)
  · rw [if_pos c14] at h
    refine lv_iconst (v := 0) hx hb dX3_takeTest_82 (by decide) ?_
    obtain ⟨rfl, rfl⟩ := mm_pr h
    exact mm_zret C0 rfl hR dX3_takeTest_83
  · rw [if_neg c14] at h
    refine lv_aload_n hx hb dX3_takeTest_74 rfl (lv_at hl 3 rfl) ?_
    refine mm_get hx hb hts hown hR 3 i1 5 (mm_vld 3 (by decide) i1 hi1) (v := .int (f12 3 i1 5)) rfl rfl iX2 (by decide) lk_41 rfl dX3_takeTest_75 ?_
    refine lv_iconst (v := 3) hx hb dX3_takeTest_78 (by decide) ?_
    refine lv_icmp_lt (tgt := 84) hx hb dX3_takeTest_79 (by decide) (fun c15 => ?_) (fun c15 => ?_)
    · rw [if_pos c15] at h
      refine lv_aload_n hx hb dX3_takeTest_84 rfl (lv_at hl 3 rfl) ?_
      refine mm_get hx hb hts hown hR 3 i1 6 (mm_vld 3 (by decide) i1 hi1) (v := .ref (ra G 16 i1)) rfl rfl iX2 (by decide) lk_46 rfl dX3_takeTest_85 ?_
      refine lv_aload_n hx hb dX3_takeTest_88 rfl (lv_at hl 3 rfl) ?_
      refine mm_get hx hb hts hown hR 3 i1 5 (mm_vld 3 (by decide) i1 hi1) (v := .int (f12 3 i1 5)) rfl rfl iX2 (by decide) lk_41 rfl dX3_takeTest_89 ?_
      refine lv_iload_n hx hb dX3_takeTest_92 rfl (lv_at hl 4 rfl) ?_
      obtain ⟨z16, h⟩ := mm_if h
      obtain ⟨f17, ef17, h⟩ := mm_lt h
      refine mm_ist hx hb hR 16 i1 (by decide) (mm_vld 16 (by decide) i1 hi1) (L := 3) (j := f12 3 i1 5) (x := x2) (fun _ => rfl) (okI_in z16) dX3_takeTest_93 (fun H locs hR => ?_)
      rw [← ef17] at hR
      refine lv_aload_n hx hb dX3_takeTest_94 rfl (lv_at hl 3 rfl) ?_
      refine mm_get hx hb hts hown hR 3 i1 7 (mm_vld 3 (by decide) i1 hi1) (v := .ref (ra G 17 i1)) rfl rfl iX2 (by decide) lk_47 rfl dX3_takeTest_95 ?_
      refine lv_aload_n hx hb dX3_takeTest_98 rfl (lv_at hl 3 rfl) ?_
      refine mm_get hx hb hts hown hR 3 i1 5 (mm_vld 3 (by decide) i1 hi1) (v := .int (f17 3 i1 5)) rfl rfl iX2 (by decide) lk_41 rfl dX3_takeTest_99 ?_
      refine lv_iload_n hx hb dX3_takeTest_102 rfl (lv_at hl 5 rfl) ?_
      obtain ⟨z18, h⟩ := mm_if h
      obtain ⟨f19, ef19, h⟩ := mm_lt h
      refine mm_ist hx hb hR 17 i1 (by decide) (mm_vld 17 (by decide) i1 hi1) (L := 3) (j := f17 3 i1 5) (x := x3) (fun _ => rfl) (okI_in z18) dX3_takeTest_103 (fun H locs hR => ?_)
      rw [← ef19] at hR
      refine lv_aload_n hx hb dX3_takeTest_104 rfl (lv_at hl 3 rfl) ?_
      refine mm_get hx hb hts hown hR 3 i1 8 (mm_vld 3 (by decide) i1 hi1) (v := .ref (ra G 18 i1)) rfl rfl iX2 (by decide) lk_48 rfl dX3_takeTest_105 ?_
      refine lv_aload_n hx hb dX3_takeTest_108 rfl (lv_at hl 3 rfl) ?_
      refine mm_get hx hb hts hown hR 3 i1 5 (mm_vld 3 (by decide) i1 hi1) (v := .int (f19 3 i1 5)) rfl rfl iX2 (by decide) lk_41 rfl dX3_takeTest_109 ?_
      refine lv_iload hx hb dX3_takeTest_112 (lv_at hl 1 rfl) ?_
      refine lv_if_eq (tgt := 123) hx hb dX3_takeTest_114 (by decide) (fun c20 => ?_) (fun c20 => ?_)
      · rw [if_pos c20] at h
        refine lv_iload hx hb dX3_takeTest_123 (lv_at hl 0 rfl) ?_
        exact L_X3_takeTest_125 C0 hi1 hi1 h _ _ _ hR (lv_sub hl [3] rfl)
      · rw [if_neg c20] at h
        refine lv_iload hx hb dX3_takeTest_117 (lv_at hl 0 rfl) ?_
        refine lv_ineg hx hb dX3_takeTest_119 ?_
        refine lv_goto (tgt := 125) hx hb dX3_takeTest_120 (by decide) ?_
        exact L_X3_takeTest_125 C0 hi1 hi1 h _ _ _ hR (lv_sub hl [3] rfl)
    · rw [if_neg c15] at h
      refine lv_iconst (v := 0) hx hb dX3_takeTest_82 (by decide) ?_
      obtain ⟨rfl, rfl⟩ := mm_pr h
      exact mm_zret C0 rfl hR dX3_takeTest_83
def S_X3_takeTest (f : F3) (i1 : Nat) : Option (Int32 × F3) := mm_b2 (S_X3_takeField f) fun r2 f1 => if r2 = (-1) then (some (0, f1)) else (mm_b2 (S_X4_at f1 (f1 4 0 1)) fun r5 f4 => if r5 = 61 then (S_X3_takeTest_44 f4 i1 r2 r5) else (if r5 = 60 then (S_X3_takeTest_44 f4 i1 r2 r5) else (if r5 = 62 then (S_X3_takeTest_44 f4 i1 r2 r5) else (some (0, f4)))))
set_option maxHeartbeats 4000000 in
set_option maxRecDepth 100000 in
theorem T_X3_takeTest (G : mmG) {f f' : F3} {rv : Int32} {i1 : Nat} (hi1 : i1 < mm_cnt 3) (h : S_X3_takeTest f i1 = some (rv, f')) : mmM G yX3_takeTest cX3_takeTest 6 (some .boolean) 6 [.ref (ra G 4 0), .ref (ra G 3 i1)] f (some (.int rv)) f' := by
  refine mm_start (by decide +kernel) (Nat.le_of_ble_eq_true rfl) ?_
  intro p e s m args below meth c ls C0 hR hl
  obtain ⟨hx, hb, hml, hr, hown, hts, hlocks⟩ := id C0
  have hl : lv_has ls 6 [(0, .ref (ra G 4 0)), (1, .ref (ra G 3 i1))] := hl
  rw [S_X3_takeTest] at h
  refine lv_aload_n hx hb dX3_takeTest_0 rfl (lv_at hl 0 rfl) ?_
  obtain ⟨r2, f1, ef1, h⟩ := mm_b2e h
  refine mm_callV (v := some (.int r2)) (f1 := f1) (d0 := 5) (rest := []) [] C0 rfl hR 4 0 (T_X3_takeField G ef1) ws_X3_takeField lk_43 hd_X3_takeField ⟨by decide, by decide⟩ vl_4 rfl rfl rfl hl.1 rfl (Nat.le_of_ble_eq_true rfl) dX3_takeTest_1 (fun H locs hR => ?_)
  refine W.eq (g2 := F0 m 4 ls (.int r2 :: [])) rfl ?_
  refine lv_istore_n (lv' := [(2, .int r2), (0, .ref (ra G 4 0)), (1, .ref (ra G 3 i1))]) hx hb dX3_takeTest_4 rfl hl (by decide) rfl (fun ls hl => ?_)
  refine lv_iload_n hx hb dX3_takeTest_5 rfl (lv_at hl 0 rfl) ?_
  refine lv_iconst (v := (-1)) hx hb dX3_takeTest_6 (by decide) ?_
  refine lv_icmp_ne (tgt := 12) hx hb dX3_takeTest_7 (by decide) (fun c3 => ?_) (fun c3 => ?_)
  · rw [if_neg c3] at h
    refine lv_aload_n hx hb dX3_takeTest_12 rfl (lv_at hl 1 rfl) ?_
    refine mm_get hx hb hts hown hR 4 0 0 vl_4 (v := .ref (ra G 5 0)) rfl rfl iX3 (by decide) lk_33 rfl dX3_takeTest_13 ?_
    refine lv_aload_n hx hb dX3_takeTest_16 rfl (lv_at hl 1 rfl) ?_
    refine mm_get hx hb hts hown hR 4 0 1 vl_4 (v := .int (f1 4 0 1)) rfl rfl iX3 (by decide) lk_32 rfl dX3_takeTest_17 ?_
    obtain ⟨r5, f4, ef4, h⟩ := mm_b2e h
    refine mm_callV (v := some (.int r5)) (f1 := f4) (d0 := 0) (rest := []) [.int (f1 4 0 1)] C0 rfl hR 5 0 (T_X4_at G ef4) ws_X4_at lk_38 hd_X4_at ⟨by decide, by decide⟩ vl_5 rfl rfl rfl hl.1 rfl (Nat.le_of_ble_eq_true rfl) dX3_takeTest_20 (fun H locs hR => ?_)
    refine W.eq (g2 := F0 m 23 ls (.int r5 :: [])) rfl ?_
    refine lv_istore_n (lv' := [(3, .int r5), (2, .int r2), (0, .ref (ra G 4 0)), (1, .ref (ra G 3 i1))]) hx hb dX3_takeTest_23 rfl hl (by decide) rfl (fun ls hl => ?_)
    refine lv_iload_n hx hb dX3_takeTest_24 rfl (lv_at hl 0 rfl) ?_
    refine lv_bipush (v := 61) hx hb dX3_takeTest_25 (by decide) ?_
    refine lv_icmp_eq (tgt := 44) hx hb dX3_takeTest_27 (by decide) (fun c6 => ?_) (fun c6 => ?_)
    · rw [if_pos c6] at h
      exact L_X3_takeTest_44 C0 hi1 h _ _ _ hR (lv_sub hl [2, 3, 1, 0] rfl)
    · rw [if_neg c6] at h
      refine lv_iload_n hx hb dX3_takeTest_30 rfl (lv_at hl 0 rfl) ?_
      refine lv_bipush (v := 60) hx hb dX3_takeTest_31 (by decide) ?_
      refine lv_icmp_eq (tgt := 44) hx hb dX3_takeTest_33 (by decide) (fun c7 => ?_) (fun c7 => ?_)
      · rw [if_pos c7] at h
        exact L_X3_takeTest_44 C0 hi1 h _ _ _ hR (lv_sub hl [2, 3, 1, 0] rfl)
      · rw [if_neg c7] at h
        refine lv_iload_n hx hb dX3_takeTest_36 rfl (lv_at hl 0 rfl) ?_
        refine lv_bipush (v := 62) hx hb dX3_takeTest_37 (by decide) ?_
        refine lv_icmp_eq (tgt := 44) hx hb dX3_takeTest_39 (by decide) (fun c8 => ?_) (fun c8 => ?_)
        · rw [if_pos c8] at h
          exact L_X3_takeTest_44 C0 hi1 h _ _ _ hR (lv_sub hl [2, 3, 1, 0] rfl)
        · rw [if_neg c8] at h
          refine lv_iconst (v := 0) hx hb dX3_takeTest_42 (by decide) ?_
          obtain ⟨rfl, rfl⟩ := mm_pr h
          exact mm_zret C0 rfl hR dX3_takeTest_43
  · rw [if_pos c3] at h
    refine lv_iconst (v := 0) hx hb dX3_takeTest_10 (by decide) ?_
    obtain ⟨rfl, rfl⟩ := mm_pr h
    exact mm_zret C0 rfl hR dX3_takeTest_11
def S_X3_takeTests_75 (f : F3)  : Option (Int32 × F3) := mm_b2 (S_X3_isAtEnd f) fun r24 f23 => if okB r24 then (some (r24, f23)) else none
set_option maxHeartbeats 4000000 in
set_option maxRecDepth 100000 in
theorem L_X3_takeTests_75 {G : mmG} {p : Program} {e : Env} {s : State} {m : MethodId} {args : Array Value} {below : List Frame} {meth : Method} {c : Code} {f' : F3} {rv : Int32} (C0 : mmC yX3_takeTests cX3_takeTests 3 (some .boolean) p s m args meth c) {f : F3} (h : S_X3_takeTests_75 f = some (rv, f')) (H : Heap) (locs : List Loc) (ls : Array Slot) (hR : mm_R G mm_NT f (GG f) s H locs) (hl : lv_has ls 3 [(0, .ref (ra G 4 0))]) : W p G.1 e (mm_rm 7) s m args below meth c H locs 0 0 (MQ below (mm_Q G mm_NT (some (.int rv)) f' (GG f')) args s 0 0 (mm_A G)) (F0 m 75 ls []) := by
  obtain ⟨hx, hb, hml, hr, hown, hts, hlocks⟩ := id C0
  rw [S_X3_takeTests_75] at h
  refine lv_aload_n hx hb dX3_takeTests_75 rfl (lv_at hl 0 rfl) ?_
  obtain ⟨r24, f23, ef23, h⟩ := mm_b2e h
  refine mm_callV (v := some (.int r24)) (f1 := f23) (d0 := 0) (rest := []) [] C0 rfl hR 4 0 (T_X3_isAtEnd G ef23) ws_X3_isAtEnd lk_50 hd_X3_isAtEnd ⟨by decide, by decide⟩ vl_4 rfl rfl rfl hl.1 rfl (Nat.le_of_ble_eq_true rfl) dX3_takeTests_76 (fun H locs hR => ?_)
  refine W.eq (g2 := F0 m 79 ls (.int r24 :: [])) rfl ?_
  obtain ⟨z25, h⟩ := mm_if h
  obtain ⟨rfl, rfl⟩ := mm_pr h
  exact mm_zret C0 (okB_n z25) hR dX3_takeTests_79
def S_X3_takeTests_21 : Nat → F3 → Nat → Int32 → Option (Int32 × F3)
  | 0, _, _, _ => none
  | n + 1, f, i1, x2 => if 3 ≤ x2 then (S_X3_takeTests_75 f ) else (mm_b2 (S_X3_isAtEnd f) fun r9 f8 => if r9 = 0 then (mm_b2 (S_X3_takeSign f8 32) fun r12 f11 => if r12 = 0 then (some (0, f11)) else (mm_b2 (S_X3_takeJoint f11 i1) fun r15 f14 => if r15 = 0 then (some (0, f14)) else (mm_b2 (S_X3_takeSign f14 32) fun r18 f17 => if r18 = 0 then (some (0, f17)) else (mm_b2 (S_X3_takeTest f17 i1) fun r21 f20 => if r21 = 0 then (some (0, f20)) else (S_X3_takeTests_21 n f20 i1 (x2 + 1)))))) else (S_X3_takeTests_75 f8 ))
set_option maxHeartbeats 4000000 in
set_option maxRecDepth 100000 in
theorem L_X3_takeTests_21 {G : mmG} {p : Program} {e : Env} {s : State} {m : MethodId} {args : Array Value} {below : List Frame} {meth : Method} {c : Code} {f' : F3} {rv : Int32} (C0 : mmC yX3_takeTests cX3_takeTests 3 (some .boolean) p s m args meth c) : ∀ (n : Nat) {f : F3} {i1 : Nat} {x2 : Int32} (hi1 : i1 < mm_cnt 3), S_X3_takeTests_21 n f i1 x2 = some (rv, f') → ∀ (H : Heap) (locs : List Loc) (ls : Array Slot), mm_R G mm_NT f (GG f) s H locs → lv_has ls 3 [(0, .ref (ra G 4 0)), (1, .ref (ra G 3 i1)), (2, .int x2)] → W p G.1 e (mm_rm 7) s m args below meth c H locs 0 0 (MQ below (mm_Q G mm_NT (some (.int rv)) f' (GG f')) args s 0 0 (mm_A G)) (F0 m 21 ls []) := by
  obtain ⟨hx, hb, hml, hr, hown, hts, hlocks⟩ := id C0
  intro n
  induction n with
  | zero =>
    intro f i1 x2 hi1 h H locs ls hR hl
    cases h
  | succ n ih =>
    intro f i1 x2 hi1 h H locs ls hR hl
    rw [S_X3_takeTests_21] at h
    refine lv_iload_n hx hb dX3_takeTests_21 rfl (lv_at hl 2 rfl) ?_
    refine lv_iconst (v := 3) hx hb dX3_takeTests_22 (by decide) ?_
    refine lv_icmp_ge (tgt := 75) hx hb dX3_takeTests_23 (by decide) (fun c7 => ?_) (fun c7 => ?_)
    · rw [if_pos c7] at h
      exact L_X3_takeTests_75 C0 h _ _ _ hR (lv_sub hl [0] rfl)
    · rw [if_neg c7] at h
      refine lv_aload_n hx hb dX3_takeTests_26 rfl (lv_at hl 0 rfl) ?_
      obtain ⟨r9, f8, ef8, h⟩ := mm_b2e h
      refine mm_callV (v := some (.int r9)) (f1 := f8) (d0 := 0) (rest := []) [] C0 rfl hR 4 0 (T_X3_isAtEnd G ef8) ws_X3_isAtEnd lk_50 hd_X3_isAtEnd ⟨by decide, by decide⟩ vl_4 rfl rfl rfl hl.1 rfl (Nat.le_of_ble_eq_true rfl) dX3_takeTests_27 (fun H locs hR => ?_)
      refine W.eq (g2 := F0 m 30 ls (.int r9 :: [])) rfl ?_
      refine lv_if_ne (tgt := 75) hx hb dX3_takeTests_30 (by decide) (fun c10 => ?_) (fun c10 => ?_)
      · rw [if_neg c10] at h
        exact L_X3_takeTests_75 C0 h _ _ _ hR (lv_sub hl [0] rfl)
      · rw [if_pos c10] at h
        refine lv_aload_n hx hb dX3_takeTests_33 rfl (lv_at hl 0 rfl) ?_
        refine lv_bipush (v := 32) hx hb dX3_takeTests_34 (by decide) ?_
        obtain ⟨r12, f11, ef11, h⟩ := mm_b2e h
        refine mm_callV (v := some (.int r12)) (f1 := f11) (d0 := 1) (rest := []) [.int 32] C0 rfl hR 4 0 (T_X3_takeSign G ef11) ws_X3_takeSign lk_44 hd_X3_takeSign ⟨by decide, by decide⟩ vl_4 rfl rfl rfl hl.1 rfl (Nat.le_of_ble_eq_true rfl) dX3_takeTests_36 (fun H locs hR => ?_)
        refine W.eq (g2 := F0 m 39 ls (.int r12 :: [])) rfl ?_
        refine lv_if_eq (tgt := 67) hx hb dX3_takeTests_39 (by decide) (fun c13 => ?_) (fun c13 => ?_)
        · rw [if_pos c13] at h
          refine lv_iconst (v := 0) hx hb dX3_takeTests_67 (by decide) ?_
          obtain ⟨rfl, rfl⟩ := mm_pr h
          exact mm_zret C0 rfl hR dX3_takeTests_68
        · rw [if_neg c13] at h
          refine lv_aload_n hx hb dX3_takeTests_42 rfl (lv_at hl 0 rfl) ?_
          refine lv_aload_n hx hb dX3_takeTests_43 rfl (lv_at hl 1 rfl) ?_
          obtain ⟨r15, f14, ef14, h⟩ := mm_b2e h
          refine mm_callV (v := some (.int r15)) (f1 := f14) (d0 := 5) (rest := []) [.ref (ra G 3 i1)] C0 rfl hR 4 0 (T_X3_takeJoint G hi1 ef14) ws_X3_takeJoint lk_51 hd_X3_takeJoint ⟨by decide, by decide⟩ vl_4 rfl rfl rfl hl.1 rfl (Nat.le_of_ble_eq_true rfl) dX3_takeTests_44 (fun H locs hR => ?_)
          refine W.eq (g2 := F0 m 47 ls (.int r15 :: [])) rfl ?_
          refine lv_if_eq (tgt := 67) hx hb dX3_takeTests_47 (by decide) (fun c16 => ?_) (fun c16 => ?_)
          · rw [if_pos c16] at h
            refine lv_iconst (v := 0) hx hb dX3_takeTests_67 (by decide) ?_
            obtain ⟨rfl, rfl⟩ := mm_pr h
            exact mm_zret C0 rfl hR dX3_takeTests_68
          · rw [if_neg c16] at h
            refine lv_aload_n hx hb dX3_takeTests_50 rfl (lv_at hl 0 rfl) ?_
            refine lv_bipush (v := 32) hx hb dX3_takeTests_51 (by decide) ?_
            obtain ⟨r18, f17, ef17, h⟩ := mm_b2e h
            refine mm_callV (v := some (.int r18)) (f1 := f17) (d0 := 1) (rest := []) [.int 32] C0 rfl hR 4 0 (T_X3_takeSign G ef17) ws_X3_takeSign lk_44 hd_X3_takeSign ⟨by decide, by decide⟩ vl_4 rfl rfl rfl hl.1 rfl (Nat.le_of_ble_eq_true rfl) dX3_takeTests_53 (fun H locs hR => ?_)
            refine W.eq (g2 := F0 m 56 ls (.int r18 :: [])) rfl ?_
            refine lv_if_eq (tgt := 67) hx hb dX3_takeTests_56 (by decide) (fun c19 => ?_) (fun c19 => ?_)
            · rw [if_pos c19] at h
              refine lv_iconst (v := 0) hx hb dX3_takeTests_67 (by decide) ?_
              obtain ⟨rfl, rfl⟩ := mm_pr h
              exact mm_zret C0 rfl hR dX3_takeTests_68
            · rw [if_neg c19] at h
              refine lv_aload_n hx hb dX3_takeTests_59 rfl (lv_at hl 0 rfl) ?_
              refine lv_aload_n hx hb dX3_takeTests_60 rfl (lv_at hl 1 rfl) ?_
              obtain ⟨r21, f20, ef20, h⟩ := mm_b2e h
              refine mm_callV (v := some (.int r21)) (f1 := f20) (d0 := 6) (rest := []) [.ref (ra G 3 i1)] C0 rfl hR 4 0 (T_X3_takeTest G hi1 ef20) ws_X3_takeTest lk_49 hd_X3_takeTest ⟨by decide, by decide⟩ vl_4 rfl rfl rfl hl.1 rfl (Nat.le_of_ble_eq_true rfl) dX3_takeTests_61 (fun H locs hR => ?_)
              refine W.eq (g2 := F0 m 64 ls (.int r21 :: [])) rfl ?_
              refine lv_if_ne (tgt := 69) hx hb dX3_takeTests_64 (by decide) (fun c22 => ?_) (fun c22 => ?_)
              · rw [if_neg c22] at h
                refine lv_iinc (v := x2 + 1) (lv' := [(2, .int (x2 + 1)), (0, .ref (ra G 4 0)), (1, .ref (ra G 3 i1))]) hx hb dX3_takeTests_69 hl (k := 2) rfl rfl (by decide) rfl (fun ls hl => ?_)
                refine lv_goto (tgt := 21) hx hb dX3_takeTests_72 (by decide) ?_
                exact ih hi1 h _ _ _ hR (lv_sub hl [1, 2, 0] rfl)
              · rw [if_pos c22] at h
                refine lv_iconst (v := 0) hx hb dX3_takeTests_67 (by decide) ?_
                obtain ⟨rfl, rfl⟩ := mm_pr h
                exact mm_zret C0 rfl hR dX3_takeTests_68
def S_X3_takeTests (f : F3) (i1 : Nat) : Option (Int32 × F3) := mm_b2 (S_X3_takeWord f 3) fun r2 f1 => if r2 = 0 then (some (0, f1)) else (mm_b2 (S_X3_takeTest f1 i1) fun r5 f4 => if r5 = 0 then (some (0, f4)) else (S_X3_takeTests_21 FU f4 i1 1))
set_option maxHeartbeats 4000000 in
set_option maxRecDepth 100000 in
theorem T_X3_takeTests (G : mmG) {f f' : F3} {rv : Int32} {i1 : Nat} (hi1 : i1 < mm_cnt 3) (h : S_X3_takeTests f i1 = some (rv, f')) : mmM G yX3_takeTests cX3_takeTests 3 (some .boolean) 7 [.ref (ra G 4 0), .ref (ra G 3 i1)] f (some (.int rv)) f' := by
  refine mm_start (by decide +kernel) (Nat.le_of_ble_eq_true rfl) ?_
  intro p e s m args below meth c ls C0 hR hl
  obtain ⟨hx, hb, hml, hr, hown, hts, hlocks⟩ := id C0
  have hl : lv_has ls 3 [(0, .ref (ra G 4 0)), (1, .ref (ra G 3 i1))] := hl
  rw [S_X3_takeTests] at h
  refine lv_aload_n hx hb dX3_takeTests_0 rfl (lv_at hl 0 rfl) ?_
  refine va_ldcS hx hb hown (hR.2.2.2.2.1 3 (by decide)) dX3_takeTests_1 ?_
  obtain ⟨r2, f1, ef1, h⟩ := mm_b2e h
  refine mm_callV (v := some (.int r2)) (f1 := f1) (d0 := 4) (rest := []) [.ref (G.2.2.2.2.1 3)] C0 rfl hR 4 0 (T_X3_takeWord G (by decide) ef1) ws_X3_takeWord lk_40 hd_X3_takeWord ⟨by decide, by decide⟩ vl_4 rfl rfl rfl hl.1 rfl (Nat.le_of_ble_eq_true rfl) dX3_takeTests_3 (fun H locs hR => ?_)
  refine W.eq (g2 := F0 m 6 ls (.int r2 :: [])) rfl ?_
  refine lv_if_eq (tgt := 17) hx hb dX3_takeTests_6 (by decide) (fun c3 => ?_) (fun c3 => ?_)
  · rw [if_pos c3] at h
    refine lv_iconst (v := 0) hx hb dX3_takeTests_17 (by decide) ?_
    obtain ⟨rfl, rfl⟩ := mm_pr h
    exact mm_zret C0 rfl hR dX3_takeTests_18
  · rw [if_neg c3] at h
    refine lv_aload_n hx hb dX3_takeTests_9 rfl (lv_at hl 0 rfl) ?_
    refine lv_aload_n hx hb dX3_takeTests_10 rfl (lv_at hl 1 rfl) ?_
    obtain ⟨r5, f4, ef4, h⟩ := mm_b2e h
    refine mm_callV (v := some (.int r5)) (f1 := f4) (d0 := 6) (rest := []) [.ref (ra G 3 i1)] C0 rfl hR 4 0 (T_X3_takeTest G hi1 ef4) ws_X3_takeTest lk_49 hd_X3_takeTest ⟨by decide, by decide⟩ vl_4 rfl rfl rfl hl.1 rfl (Nat.le_of_ble_eq_true rfl) dX3_takeTests_11 (fun H locs hR => ?_)
    refine W.eq (g2 := F0 m 14 ls (.int r5 :: [])) rfl ?_
    refine lv_if_ne (tgt := 19) hx hb dX3_takeTests_14 (by decide) (fun c6 => ?_) (fun c6 => ?_)
    · rw [if_neg c6] at h
      refine lv_iconst (v := 1) hx hb dX3_takeTests_19 (by decide) ?_
      refine lv_istore_n (lv' := [(2, .int 1), (0, .ref (ra G 4 0)), (1, .ref (ra G 3 i1))]) hx hb dX3_takeTests_20 rfl hl (by decide) rfl (fun ls hl => ?_)
      exact L_X3_takeTests_21 C0 _ hi1 h _ _ _ hR (lv_sub hl [1, 2, 0] rfl)
    · rw [if_pos c6] at h
      refine lv_iconst (v := 0) hx hb dX3_takeTests_17 (by decide) ?_
      obtain ⟨rfl, rfl⟩ := mm_pr h
      exact mm_zret C0 rfl hR dX3_takeTests_18
def S_X3_takeRule_75 (f : F3)  : Option (Int32 × F3) := some (1, f)
set_option maxHeartbeats 4000000 in
set_option maxRecDepth 100000 in
theorem L_X3_takeRule_75 {G : mmG} {p : Program} {e : Env} {s : State} {m : MethodId} {args : Array Value} {below : List Frame} {meth : Method} {c : Code} {f' : F3} {rv : Int32} (C0 : mmC yX3_takeRule cX3_takeRule 2 (some .boolean) p s m args meth c) {f : F3} (h : S_X3_takeRule_75 f = some (rv, f')) (H : Heap) (locs : List Loc) (ls : Array Slot) (hR : mm_R G mm_NT f (GG f) s H locs) (hl : lv_has ls 2 []) : W p G.1 e (mm_rm 8) s m args below meth c H locs 0 0 (MQ below (mm_Q G mm_NT (some (.int rv)) f' (GG f')) args s 0 0 (mm_A G)) (F0 m 75 ls []) := by
  obtain ⟨hx, hb, hml, hr, hown, hts, hlocks⟩ := id C0
  rw [S_X3_takeRule_75] at h
  refine lv_iconst (v := 1) hx hb dX3_takeRule_75 (by decide) ?_
  refine lv_goto (tgt := 80) hx hb dX3_takeRule_76 (by decide) ?_
  obtain ⟨rfl, rfl⟩ := mm_pr h
  exact mm_zret C0 rfl hR dX3_takeRule_80
def S_X3_takeRule (f : F3) (i1 : Nat) : Option (Int32 × F3) := mm_let (up f 4 0 1 0) fun f1 => mm_let (up f1 3 i1 4 0) fun f2 => mm_let (up f2 3 i1 5 0) fun f3 => mm_b2 (S_X3_takeKey f3) fun r5 f4 => mm_let (up f4 3 i1 0 r5) fun f6 => if (f6 3 i1 0) = (-1) then (some (0, f6)) else (mm_b2 (S_X3_takeSign f6 32) fun r9 f8 => if r9 = 0 then (some (0, f8)) else (mm_b2 (S_X3_takeNumber f8) fun r12 f11 => mm_let (up f11 3 i1 1 r12) fun f13 => if (f13 3 i1 1) = (-1) then (some (0, f13)) else (mm_b2 (S_X3_isAtEnd f13) fun r16 f15 => if r16 = 0 then (mm_b2 (S_X3_takeTests f15 i1) fun r19 f18 => if r19 = 0 then (some (0, f18)) else (S_X3_takeRule_75 f18 )) else (S_X3_takeRule_75 f15 ))))
set_option maxHeartbeats 4000000 in
set_option maxRecDepth 100000 in
theorem T_X3_takeRule (G : mmG) {f f' : F3} {rv : Int32} {i1 : Nat} (hi1 : i1 < mm_cnt 3) (h : S_X3_takeRule f i1 = some (rv, f')) : mmM G yX3_takeRule cX3_takeRule 2 (some .boolean) 8 [.ref (ra G 4 0), .ref (ra G 3 i1)] f (some (.int rv)) f' := by
  refine mm_start (by decide +kernel) (Nat.le_of_ble_eq_true rfl) ?_
  intro p e s m args below meth c ls C0 hR hl
  obtain ⟨hx, hb, hml, hr, hown, hts, hlocks⟩ := id C0
  have hl : lv_has ls 2 [(0, .ref (ra G 4 0)), (1, .ref (ra G 3 i1))] := hl
  rw [S_X3_takeRule] at h
  refine lv_aload_n hx hb dX3_takeRule_0 rfl (lv_at hl 0 rfl) ?_
  refine lv_iconst (v := 0) hx hb dX3_takeRule_1 (by decide) ?_
  obtain ⟨f1, ef1, h⟩ := mm_lt h
  refine mm_put hx hb hts hown hR 4 0 1 (by decide) vl_4 (x := 0) rfl rfl iX3 tyX3 tyX3_ok nmX3 (by decide) lk_32 rfl rfl rfl (Nat.le_of_ble_eq_true rfl) rfl dX3_takeRule_2 (fun H locs hR => ?_)
  rw [← ef1] at hR
  refine lv_aload_n hx hb dX3_takeRule_5 rfl (lv_at hl 1 rfl) ?_
  refine lv_iconst (v := 0) hx hb dX3_takeRule_6 (by decide) ?_
  obtain ⟨f2, ef2, h⟩ := mm_lt h
  refine mm_put hx hb hts hown hR 3 i1 4 (by decide) (mm_vld 3 (by decide) i1 hi1) (x := 0) rfl rfl iX2 tyX2 tyX2_ok nmX2 (by decide) lk_42 rfl rfl rfl (Nat.le_of_ble_eq_true rfl) rfl dX3_takeRule_7 (fun H locs hR => ?_)
  rw [← ef2] at hR
  refine lv_aload_n hx hb dX3_takeRule_10 rfl (lv_at hl 1 rfl) ?_
  refine lv_iconst (v := 0) hx hb dX3_takeRule_11 (by decide) ?_
  obtain ⟨f3, ef3, h⟩ := mm_lt h
  refine mm_put hx hb hts hown hR 3 i1 5 (by decide) (mm_vld 3 (by decide) i1 hi1) (x := 0) rfl rfl iX2 tyX2 tyX2_ok nmX2 (by decide) lk_41 rfl rfl rfl (Nat.le_of_ble_eq_true rfl) rfl dX3_takeRule_12 (fun H locs hR => ?_)
  rw [← ef3] at hR
  refine lv_aload_n hx hb dX3_takeRule_15 rfl (lv_at hl 1 rfl) ?_
  refine lv_aload_n hx hb dX3_takeRule_16 rfl (lv_at hl 0 rfl) ?_
  obtain ⟨r5, f4, ef4, h⟩ := mm_b2e h
  refine mm_callV (v := some (.int r5)) (f1 := f4) (d0 := 5) (rest := [.ref (ra G 3 i1)]) [] C0 rfl hR 4 0 (T_X3_takeKey G ef4) ws_X3_takeKey lk_52 hd_X3_takeKey ⟨by decide, by decide⟩ vl_4 rfl rfl rfl hl.1 rfl (Nat.le_of_ble_eq_true rfl) dX3_takeRule_17 (fun H locs hR => ?_)
  refine W.eq (g2 := F0 m 20 ls (.int r5 :: .ref (ra G 3 i1) :: [])) rfl ?_
  obtain ⟨f6, ef6, h⟩ := mm_lt h
  refine mm_put hx hb hts hown hR 3 i1 0 (by decide) (mm_vld 3 (by decide) i1 hi1) (x := r5) rfl rfl iX2 tyX2 tyX2_ok nmX2 (by decide) lk_53 rfl rfl rfl (Nat.le_of_ble_eq_true rfl) rfl dX3_takeRule_20 (fun H locs hR => ?_)
  rw [← ef6] at hR
  refine lv_aload_n hx hb dX3_takeRule_23 rfl (lv_at hl 1 rfl) ?_
  refine mm_get hx hb hts hown hR 3 i1 0 (mm_vld 3 (by decide) i1 hi1) (v := .int (f6 3 i1 0)) rfl rfl iX2 (by decide) lk_53 rfl dX3_takeRule_24 ?_
  refine lv_iconst (v := (-1)) hx hb dX3_takeRule_27 (by decide) ?_
  refine lv_icmp_eq (tgt := 40) hx hb dX3_takeRule_28 (by decide) (fun c7 => ?_) (fun c7 => ?_)
  · rw [if_pos c7] at h
    refine lv_iconst (v := 0) hx hb dX3_takeRule_40 (by decide) ?_
    obtain ⟨rfl, rfl⟩ := mm_pr h
    exact mm_zret C0 rfl hR dX3_takeRule_41
  · rw [if_neg c7] at h
    refine lv_aload_n hx hb dX3_takeRule_31 rfl (lv_at hl 0 rfl) ?_
    refine lv_bipush (v := 32) hx hb dX3_takeRule_32 (by decide) ?_
    obtain ⟨r9, f8, ef8, h⟩ := mm_b2e h
    refine mm_callV (v := some (.int r9)) (f1 := f8) (d0 := 1) (rest := []) [.int 32] C0 rfl hR 4 0 (T_X3_takeSign G ef8) ws_X3_takeSign lk_44 hd_X3_takeSign ⟨by decide, by decide⟩ vl_4 rfl rfl rfl hl.1 rfl (Nat.le_of_ble_eq_true rfl) dX3_takeRule_34 (fun H locs hR => ?_)
    refine W.eq (g2 := F0 m 37 ls (.int r9 :: [])) rfl ?_
    refine lv_if_ne (tgt := 42) hx hb dX3_takeRule_37 (by decide) (fun c10 => ?_) (fun c10 => ?_)
    · rw [if_neg c10] at h
      refine lv_aload_n hx hb dX3_takeRule_42 rfl (lv_at hl 1 rfl) ?_
      refine lv_aload_n hx hb dX3_takeRule_43 rfl (lv_at hl 0 rfl) ?_
      obtain ⟨r12, f11, ef11, h⟩ := mm_b2e h
      refine mm_callV (v := some (.int r12)) (f1 := f11) (d0 := 1) (rest := [.ref (ra G 3 i1)]) [] C0 rfl hR 4 0 (T_X3_takeNumber G ef11) ws_X3_takeNumber lk_45 hd_X3_takeNumber ⟨by decide, by decide⟩ vl_4 rfl rfl rfl hl.1 rfl (Nat.le_of_ble_eq_true rfl) dX3_takeRule_44 (fun H locs hR => ?_)
      refine W.eq (g2 := F0 m 47 ls (.int r12 :: .ref (ra G 3 i1) :: [])) rfl ?_
      obtain ⟨f13, ef13, h⟩ := mm_lt h
      refine mm_put hx hb hts hown hR 3 i1 1 (by decide) (mm_vld 3 (by decide) i1 hi1) (x := r12) rfl rfl iX2 tyX2 tyX2_ok nmX2 (by decide) lk_54 rfl rfl rfl (Nat.le_of_ble_eq_true rfl) rfl dX3_takeRule_47 (fun H locs hR => ?_)
      rw [← ef13] at hR
      refine lv_aload_n hx hb dX3_takeRule_50 rfl (lv_at hl 1 rfl) ?_
      refine mm_get hx hb hts hown hR 3 i1 1 (mm_vld 3 (by decide) i1 hi1) (v := .int (f13 3 i1 1)) rfl rfl iX2 (by decide) lk_54 rfl dX3_takeRule_51 ?_
      refine lv_iconst (v := (-1)) hx hb dX3_takeRule_54 (by decide) ?_
      refine lv_icmp_ne (tgt := 60) hx hb dX3_takeRule_55 (by decide) (fun c14 => ?_) (fun c14 => ?_)
      · rw [if_neg c14] at h
        refine lv_aload_n hx hb dX3_takeRule_60 rfl (lv_at hl 0 rfl) ?_
        obtain ⟨r16, f15, ef15, h⟩ := mm_b2e h
        refine mm_callV (v := some (.int r16)) (f1 := f15) (d0 := 0) (rest := []) [] C0 rfl hR 4 0 (T_X3_isAtEnd G ef15) ws_X3_isAtEnd lk_50 hd_X3_isAtEnd ⟨by decide, by decide⟩ vl_4 rfl rfl rfl hl.1 rfl (Nat.le_of_ble_eq_true rfl) dX3_takeRule_61 (fun H locs hR => ?_)
        refine W.eq (g2 := F0 m 64 ls (.int r16 :: [])) rfl ?_
        refine lv_if_ne (tgt := 75) hx hb dX3_takeRule_64 (by decide) (fun c17 => ?_) (fun c17 => ?_)
        · rw [if_neg c17] at h
          exact L_X3_takeRule_75 C0 h _ _ _ hR (lv_sub hl [] rfl)
        · rw [if_pos c17] at h
          refine lv_aload_n hx hb dX3_takeRule_67 rfl (lv_at hl 0 rfl) ?_
          refine lv_aload_n hx hb dX3_takeRule_68 rfl (lv_at hl 1 rfl) ?_
          obtain ⟨r19, f18, ef18, h⟩ := mm_b2e h
          refine mm_callV (v := some (.int r19)) (f1 := f18) (d0 := 7) (rest := []) [.ref (ra G 3 i1)] C0 rfl hR 4 0 (T_X3_takeTests G hi1 ef18) ws_X3_takeTests lk_55 hd_X3_takeTests ⟨by decide, by decide⟩ vl_4 rfl rfl rfl hl.1 rfl (Nat.le_of_ble_eq_true rfl) dX3_takeRule_69 (fun H locs hR => ?_)
          refine W.eq (g2 := F0 m 72 ls (.int r19 :: [])) rfl ?_
          refine lv_if_eq (tgt := 79) hx hb dX3_takeRule_72 (by decide) (fun c20 => ?_) (fun c20 => ?_)
          · rw [if_pos c20] at h
            refine lv_iconst (v := 0) hx hb dX3_takeRule_79 (by decide) ?_
            obtain ⟨rfl, rfl⟩ := mm_pr h
            exact mm_zret C0 rfl hR dX3_takeRule_80
          · rw [if_neg c20] at h
            exact L_X3_takeRule_75 C0 h _ _ _ hR (lv_sub hl [] rfl)
      · rw [if_pos c14] at h
        refine lv_iconst (v := 0) hx hb dX3_takeRule_58 (by decide) ?_
        obtain ⟨rfl, rfl⟩ := mm_pr h
        exact mm_zret C0 rfl hR dX3_takeRule_59
    · rw [if_pos c10] at h
      refine lv_iconst (v := 0) hx hb dX3_takeRule_40 (by decide) ?_
      obtain ⟨rfl, rfl⟩ := mm_pr h
      exact mm_zret C0 rfl hR dX3_takeRule_41
def S_X4_put (f : F3) (x1 : Int32) : Option F3 := if 80 ≤ (f 5 0 1) then (some f) else (if okI (f 5 0 1) 80 then (mm_let (up f 15 0 (f 5 0 1).toNatClampNeg x1) fun f3 => mm_let (up f3 5 0 1 ((f3 5 0 1) + 1)) fun f4 => some f4) else none)
set_option maxHeartbeats 4000000 in
set_option maxRecDepth 100000 in
theorem T_X4_put (G : mmG) {f f' : F3} {x1 : Int32} (h : S_X4_put f x1 = some f') : mmM G yX4_put cX4_put 2 none 0 [.ref (ra G 5 0), .int x1] f none f' := by
  refine mm_start (by decide +kernel) (Nat.le_of_ble_eq_true rfl) ?_
  intro p e s m args below meth c ls C0 hR hl
  obtain ⟨hx, hb, hml, hr, hown, hts, hlocks⟩ := id C0
  have hl : lv_has ls 2 [(0, .ref (ra G 5 0)), (1, .int x1)] := hl
  rw [S_X4_put] at h
  refine lv_aload_n hx hb dX4_put_0 rfl (lv_at hl 0 rfl) ?_
  refine mm_get hx hb hts hown hR 5 0 1 vl_5 (v := .int (f 5 0 1)) rfl rfl iX4 (by decide) lk_35 rfl dX4_put_1 ?_
  refine lv_bipush (v := 80) hx hb dX4_put_4 (by decide) ?_
  refine lv_icmp_ge (tgt := 29) hx hb dX4_put_6 (by decide) (fun c1 => ?_) (fun c1 => ?_)
  · rw [if_pos c1] at h
    obtain rfl := mm_p1 h
    exact mm_vret C0 hR dX4_put_29
  · rw [if_neg c1] at h
    refine lv_aload_n hx hb dX4_put_9 rfl (lv_at hl 0 rfl) ?_
    refine mm_get hx hb hts hown hR 5 0 0 vl_5 (v := .ref (ra G 15 0)) rfl rfl iX4 (by decide) lk_36 rfl dX4_put_10 ?_
    refine lv_aload_n hx hb dX4_put_13 rfl (lv_at hl 0 rfl) ?_
    refine mm_get hx hb hts hown hR 5 0 1 vl_5 (v := .int (f 5 0 1)) rfl rfl iX4 (by decide) lk_35 rfl dX4_put_14 ?_
    refine lv_iload_n hx hb dX4_put_17 rfl (lv_at hl 1 rfl) ?_
    obtain ⟨z2, h⟩ := mm_if h
    obtain ⟨f3, ef3, h⟩ := mm_lt h
    refine mm_ist hx hb hR 15 0 (by decide) vl_15 (L := 80) (j := f 5 0 1) (x := x1) (fun _ => rfl) (okI_in z2) dX4_put_18 (fun H locs hR => ?_)
    rw [← ef3] at hR
    refine lv_aload_n hx hb dX4_put_19 rfl (lv_at hl 0 rfl) ?_
    refine lv_dup hx hb dX4_put_20 rfl ?_
    refine mm_get hx hb hts hown hR 5 0 1 vl_5 (v := .int (f3 5 0 1)) rfl rfl iX4 (by decide) lk_35 rfl dX4_put_21 ?_
    refine lv_iconst (v := 1) hx hb dX4_put_24 (by decide) ?_
    refine lv_iadd hx hb dX4_put_25 ?_
    obtain ⟨f4, ef4, h⟩ := mm_lt h
    refine mm_put hx hb hts hown hR 5 0 1 (by decide) vl_5 (x := (f3 5 0 1) + 1) rfl rfl iX4 tyX4 tyX4_ok nmX4 (by decide) lk_35 rfl rfl rfl (Nat.le_of_ble_eq_true rfl) rfl dX4_put_26 (fun H locs hR => ?_)
    rw [← ef4] at hR
    obtain rfl := mm_p1 h
    exact mm_vret C0 hR dX4_put_29
def S_X5_nearest_5 : Nat → F3 → Int32 → Int32 → Int32 → Option (Int32 × F3)
  | 0, _, _, _, _ => none
  | n + 1, f, x2, x3, x4 => if 48 ≤ x4 then (some ((-9999), f)) else (if okI ((x3 + x2) - (x3 + x2) / 48 * 48) 48 then (if (f 14 0 ((x3 + x2) - (x3 + x2) / 48 * 48).toNatClampNeg) = (-9999) then (S_X5_nearest_5 n f x2 ((x3 + x2) - (x3 + x2) / 48 * 48) (x4 + 1)) else (some (f 14 0 ((x3 + x2) - (x3 + x2) / 48 * 48).toNatClampNeg, f))) else none)
set_option maxHeartbeats 4000000 in
set_option maxRecDepth 100000 in
theorem L_X5_nearest_5 {G : mmG} {p : Program} {e : Env} {s : State} {m : MethodId} {args : Array Value} {below : List Frame} {meth : Method} {c : Code} {f' : F3} {rv : Int32} (C0 : mmC yX5_nearest cX5_nearest 5 (some .int) p s m args meth c) : ∀ (n : Nat) {f : F3} {x2 : Int32} {x3 : Int32} {x4 : Int32} , S_X5_nearest_5 n f x2 x3 x4 = some (rv, f') → ∀ (H : Heap) (locs : List Loc) (ls : Array Slot), mm_R G mm_NT f (GG f) s H locs → lv_has ls 5 [(0, .ref (ra G 6 0)), (2, .int x2), (3, .int x3), (4, .int x4)] → W p G.1 e (mm_rm 0) s m args below meth c H locs 0 0 (MQ below (mm_Q G mm_NT (some (.int rv)) f' (GG f')) args s 0 0 (mm_A G)) (F0 m 5 ls []) := by
  obtain ⟨hx, hb, hml, hr, hown, hts, hlocks⟩ := id C0
  intro n
  induction n with
  | zero =>
    intro f x2 x3 x4  h H locs ls hR hl
    cases h
  | succ n ih =>
    intro f x2 x3 x4  h H locs ls hR hl
    rw [S_X5_nearest_5] at h
    refine lv_iload hx hb dX5_nearest_5 (lv_at hl 3 rfl) ?_
    refine lv_bipush (v := 48) hx hb dX5_nearest_7 (by decide) ?_
    refine lv_icmp_ge (tgt := 44) hx hb dX5_nearest_9 (by decide) (fun c1 => ?_) (fun c1 => ?_)
    · rw [if_pos c1] at h
      refine lv_sipush (v := (-9999)) hx hb dX5_nearest_44 (by decide) ?_
      obtain ⟨rfl, rfl⟩ := mm_pr h
      exact mm_iret C0 hR dX5_nearest_47
    · rw [if_neg c1] at h
      refine lv_iload_n hx hb dX5_nearest_12 rfl (lv_at hl 2 rfl) ?_
      refine lv_iload_n hx hb dX5_nearest_13 rfl (lv_at hl 1 rfl) ?_
      refine lv_iadd hx hb dX5_nearest_14 ?_
      refine lv_bipush (v := 48) hx hb dX5_nearest_15 (by decide) ?_
      refine lv_irem hx hb dX5_nearest_17 (by decide) ?_
      refine lv_istore_n (lv' := [(3, .int ((x3 + x2) - (x3 + x2) / 48 * 48)), (0, .ref (ra G 6 0)), (2, .int x2), (4, .int x4)]) hx hb dX5_nearest_18 rfl hl (by decide) rfl (fun ls hl => ?_)
      refine lv_aload_n hx hb dX5_nearest_19 rfl (lv_at hl 1 rfl) ?_
      refine mm_get hx hb hts hown hR 6 0 0 vl_6 (v := .ref (ra G 14 0)) rfl rfl iX5 (by decide) lk_56 rfl dX5_nearest_20 ?_
      refine lv_iload_n hx hb dX5_nearest_23 rfl (lv_at hl 0 rfl) ?_
      obtain ⟨z2, h⟩ := mm_if h
      refine mm_ild hx hb hR 14 0 vl_14 (L := 48) rfl (okI_in z2) dX5_nearest_24 ?_
      refine lv_sipush (v := (-9999)) hx hb dX5_nearest_25 (by decide) ?_
      refine lv_icmp_eq (tgt := 38) hx hb dX5_nearest_28 (by decide) (fun c3 => ?_) (fun c3 => ?_)
      · rw [if_pos c3] at h
        refine lv_iinc (v := x4 + 1) (lv' := [(4, .int (x4 + 1)), (3, .int ((x3 + x2) - (x3 + x2) / 48 * 48)), (0, .ref (ra G 6 0)), (2, .int x2)]) hx hb dX5_nearest_38 hl (k := 3) rfl rfl (by decide) rfl (fun ls hl => ?_)
        refine lv_goto (tgt := 5) hx hb dX5_nearest_41 (by decide) ?_
        exact ih  h _ _ _ hR (lv_sub hl [2, 3, 1, 0] rfl)
      · rw [if_neg c3] at h
        refine lv_aload_n hx hb dX5_nearest_31 rfl (lv_at hl 1 rfl) ?_
        refine mm_get hx hb hts hown hR 6 0 0 vl_6 (v := .ref (ra G 14 0)) rfl rfl iX5 (by decide) lk_56 rfl dX5_nearest_32 ?_
        refine lv_iload_n hx hb dX5_nearest_35 rfl (lv_at hl 0 rfl) ?_
        refine mm_ild hx hb hR 14 0 vl_14 (L := 48) rfl (okI_in z2) dX5_nearest_36 ?_
        obtain ⟨rfl, rfl⟩ := mm_pr h
        exact mm_iret C0 hR dX5_nearest_37
def S_X5_nearest (f : F3) (x1 : Int32) (x2 : Int32) : Option (Int32 × F3) := S_X5_nearest_5 FU f x2 x1 1
set_option maxHeartbeats 4000000 in
set_option maxRecDepth 100000 in
theorem T_X5_nearest (G : mmG) {f f' : F3} {rv : Int32} {x1 : Int32} {x2 : Int32} (h : S_X5_nearest f x1 x2 = some (rv, f')) : mmM G yX5_nearest cX5_nearest 5 (some .int) 0 [.ref (ra G 6 0), .int x1, .int x2] f (some (.int rv)) f' := by
  refine mm_start (by decide +kernel) (Nat.le_of_ble_eq_true rfl) ?_
  intro p e s m args below meth c ls C0 hR hl
  obtain ⟨hx, hb, hml, hr, hown, hts, hlocks⟩ := id C0
  have hl : lv_has ls 5 [(0, .ref (ra G 6 0)), (1, .int x1), (2, .int x2)] := hl
  rw [S_X5_nearest] at h
  refine lv_iload_n hx hb dX5_nearest_0 rfl (lv_at hl 1 rfl) ?_
  refine lv_istore_n (lv' := [(3, .int x1), (0, .ref (ra G 6 0)), (1, .int x1), (2, .int x2)]) hx hb dX5_nearest_1 rfl hl (by decide) rfl (fun ls hl => ?_)
  refine lv_iconst (v := 1) hx hb dX5_nearest_2 (by decide) ?_
  refine lv_istore (lv' := [(4, .int 1), (3, .int x1), (0, .ref (ra G 6 0)), (1, .int x1), (2, .int x2)]) hx hb dX5_nearest_3 hl (by decide) rfl (fun ls hl => ?_)
  exact L_X5_nearest_5 C0 _ h _ _ _ hR (lv_sub hl [2, 4, 1, 0] rfl)
def S_X5_heatOf (f : F3) (x1 : Int32) : Option (Int32 × F3) := mm_b2 (S_J9_floorMod_7cf53 f x1 48) fun r2 f1 => if okI r2 48 then (if (f1 14 0 r2.toNatClampNeg) = (-9999) then (mm_b2 (S_X5_nearest f1 r2 47) fun r6 f5 => mm_b2 (S_X5_nearest f5 r2 1) fun r8 f7 => if (if r6 < r8 then r8 else r6) = (-9999) then (some ((-100), f7)) else (some ((if r6 < r8 then r8 else r6), f7))) else (some (f1 14 0 r2.toNatClampNeg, f1))) else none
set_option maxHeartbeats 4000000 in
set_option maxRecDepth 100000 in
theorem T_X5_heatOf (G : mmG) {f f' : F3} {rv : Int32} {x1 : Int32} (h : S_X5_heatOf f x1 = some (rv, f')) : mmM G yX5_heatOf cX5_heatOf 6 (some .int) 1 [.ref (ra G 6 0), .int x1] f (some (.int rv)) f' := by
  refine mm_start (by decide +kernel) (Nat.le_of_ble_eq_true rfl) ?_
  intro p e s m args below meth c ls C0 hR hl
  obtain ⟨hx, hb, hml, hr, hown, hts, hlocks⟩ := id C0
  have hl : lv_has ls 6 [(0, .ref (ra G 6 0)), (1, .int x1)] := hl
  rw [S_X5_heatOf] at h
  refine lv_iload_n hx hb dX5_heatOf_0 rfl (lv_at hl 1 rfl) ?_
  refine lv_bipush (v := 48) hx hb dX5_heatOf_1 (by decide) ?_
  obtain ⟨r2, f1, ef1, h⟩ := mm_b2e h
  refine mm_callS (v := some (.int r2)) (f1 := f1) (d0 := 0) (rest := []) [.int x1, .int 48] C0 rfl hR (T_J9_floorMod_7cf53 G ef1) ws_J9_floorMod_7cf53 lk_57 hd_J9_floorMod_7cf53 ⟨by decide, by decide⟩ hl.1 rfl (Nat.le_of_ble_eq_true rfl) dX5_heatOf_3 (fun H locs hR => ?_)
  refine W.eq (g2 := F0 m 6 ls (.int r2 :: [])) rfl ?_
  refine lv_istore_n (lv' := [(2, .int r2), (0, .ref (ra G 6 0)), (1, .int x1)]) hx hb dX5_heatOf_6 rfl hl (by decide) rfl (fun ls hl => ?_)
  refine lv_aload_n hx hb dX5_heatOf_7 rfl (lv_at hl 1 rfl) ?_
  refine mm_get hx hb hts hown hR 6 0 0 vl_6 (v := .ref (ra G 14 0)) rfl rfl iX5 (by decide) lk_56 rfl dX5_heatOf_8 ?_
  refine lv_iload_n hx hb dX5_heatOf_11 rfl (lv_at hl 0 rfl) ?_
  obtain ⟨z3, h⟩ := mm_if h
  refine mm_ild hx hb hR 14 0 vl_14 (L := 48) rfl (okI_in z3) dX5_heatOf_12 ?_
  refine lv_sipush (v := (-9999)) hx hb dX5_heatOf_13 (by decide) ?_
  refine lv_icmp_eq (tgt := 26) hx hb dX5_heatOf_16 (by decide) (fun c4 => ?_) (fun c4 => ?_)
  · rw [if_pos c4] at h
    refine lv_aload_n hx hb dX5_heatOf_26 rfl (lv_at hl 1 rfl) ?_
    refine lv_iload_n hx hb dX5_heatOf_27 rfl (lv_at hl 0 rfl) ?_
    refine lv_bipush (v := 47) hx hb dX5_heatOf_28 (by decide) ?_
    obtain ⟨r6, f5, ef5, h⟩ := mm_b2e h
    refine mm_callV (v := some (.int r6)) (f1 := f5) (d0 := 0) (rest := []) [.int r2, .int 47] C0 rfl hR 6 0 (T_X5_nearest G ef5) ws_X5_nearest lk_58 hd_X5_nearest ⟨by decide, by decide⟩ vl_6 rfl rfl rfl hl.1 rfl (Nat.le_of_ble_eq_true rfl) dX5_heatOf_30 (fun H locs hR => ?_)
    refine W.eq (g2 := F0 m 33 ls (.int r6 :: [])) rfl ?_
    refine lv_istore_n (lv' := [(3, .int r6), (2, .int r2), (0, .ref (ra G 6 0)), (1, .int x1)]) hx hb dX5_heatOf_33 rfl hl (by decide) rfl (fun ls hl => ?_)
    refine lv_aload_n hx hb dX5_heatOf_34 rfl (lv_at hl 2 rfl) ?_
    refine lv_iload_n hx hb dX5_heatOf_35 rfl (lv_at hl 1 rfl) ?_
    refine lv_iconst (v := 1) hx hb dX5_heatOf_36 (by decide) ?_
    obtain ⟨r8, f7, ef7, h⟩ := mm_b2e h
    refine mm_callV (v := some (.int r8)) (f1 := f7) (d0 := 0) (rest := []) [.int r2, .int 1] C0 rfl hR 6 0 (T_X5_nearest G ef7) ws_X5_nearest lk_58 hd_X5_nearest ⟨by decide, by decide⟩ vl_6 rfl rfl rfl hl.1 rfl (Nat.le_of_ble_eq_true rfl) dX5_heatOf_37 (fun H locs hR => ?_)
    refine W.eq (g2 := F0 m 40 ls (.int r8 :: [])) rfl ?_
    refine lv_istore (lv' := [(4, .int r8), (3, .int r6), (2, .int r2), (0, .ref (ra G 6 0)), (1, .int x1)]) hx hb dX5_heatOf_40 hl (by decide) rfl (fun ls hl => ?_)
    refine lv_iload_n hx hb dX5_heatOf_42 rfl (lv_at hl 1 rfl) ?_
    refine lv_iload hx hb dX5_heatOf_43 (lv_at hl 0 rfl) ?_
    refine va_mmax hx hb (hml.trans hl.1.symm) hown (hts _ lk_59) (hts _ lk_12) (hts _ lk_13) (hts _ lk_14) (by decide) (Nat.le_of_ble_eq_true rfl) (by decide) (by decide) dX5_heatOf_45 ?_
    refine lv_istore (lv' := [(5, .int (if r6 < r8 then r8 else r6)), (4, .int r8), (3, .int r6), (2, .int r2), (0, .ref (ra G 6 0)), (1, .int x1)]) hx hb dX5_heatOf_48 hl (by decide) rfl (fun ls hl => ?_)
    refine lv_iload hx hb dX5_heatOf_50 (lv_at hl 0 rfl) ?_
    refine lv_sipush (v := (-9999)) hx hb dX5_heatOf_52 (by decide) ?_
    refine lv_icmp_ne (tgt := 63) hx hb dX5_heatOf_55 (by decide) (fun c9 => ?_) (fun c9 => ?_)
    · rw [if_neg c9] at h
      refine lv_iload hx hb dX5_heatOf_63 (lv_at hl 0 rfl) ?_
      obtain ⟨rfl, rfl⟩ := mm_pr h
      exact mm_iret C0 hR dX5_heatOf_65
    · rw [if_pos c9] at h
      refine lv_bipush (v := (-100)) hx hb dX5_heatOf_58 (by decide) ?_
      refine lv_goto (tgt := 65) hx hb dX5_heatOf_60 (by decide) ?_
      obtain ⟨rfl, rfl⟩ := mm_pr h
      exact mm_iret C0 hR dX5_heatOf_65
  · rw [if_neg c4] at h
    refine lv_aload_n hx hb dX5_heatOf_19 rfl (lv_at hl 1 rfl) ?_
    refine mm_get hx hb hts hown hR 6 0 0 vl_6 (v := .ref (ra G 14 0)) rfl rfl iX5 (by decide) lk_56 rfl dX5_heatOf_20 ?_
    refine lv_iload_n hx hb dX5_heatOf_23 rfl (lv_at hl 0 rfl) ?_
    refine mm_ild hx hb hR 14 0 vl_14 (L := 48) rfl (okI_in z3) dX5_heatOf_24 ?_
    obtain ⟨rfl, rfl⟩ := mm_pr h
    exact mm_iret C0 hR dX5_heatOf_25
def S_X6_agePlaces_38 (k2 : F3 → Int32 → Option F3) (f : F3) (x1 : Int32) : Option F3 := k2 f (x1 + 1)
set_option maxHeartbeats 4000000 in
set_option maxRecDepth 100000 in
theorem L_X6_agePlaces_38 {G : mmG} {p : Program} {e : Env} {s : State} {m : MethodId} {args : Array Value} {below : List Frame} {meth : Method} {c : Code} {f' : F3} (C0 : mmC yX6_agePlaces cX6_agePlaces 2 none p s m args meth c) {k2 : F3 → Int32 → Option F3} (hk2 : ∀ (f : F3) (x1 : Int32), k2 f x1 = some f' → ∀ (H : Heap) (locs : List Loc) (ls : Array Slot), mm_R G mm_NT f (GG f) s H locs → lv_has ls 2 [(0, .ref (ra G 0 0)), (1, .int x1)] → W p G.1 e (mm_rm 0) s m args below meth c H locs 0 0 (MQ below (mm_Q G mm_NT none f' (GG f')) args s 0 0 (mm_A G)) (F0 m 2 ls [])) {f : F3} {x1 : Int32} (h : S_X6_agePlaces_38 k2 f x1 = some f') (H : Heap) (locs : List Loc) (ls : Array Slot) (hR : mm_R G mm_NT f (GG f) s H locs) (hl : lv_has ls 2 [(0, .ref (ra G 0 0)), (1, .int x1)]) : W p G.1 e (mm_rm 0) s m args below meth c H locs 0 0 (MQ below (mm_Q G mm_NT none f' (GG f')) args s 0 0 (mm_A G)) (F0 m 38 ls []) := by
  obtain ⟨hx, hb, hml, hr, hown, hts, hlocks⟩ := id C0
  rw [S_X6_agePlaces_38] at h
  refine lv_iinc (v := x1 + 1) (lv' := [(1, .int (x1 + 1)), (0, .ref (ra G 0 0))]) hx hb dX6_agePlaces_38 hl (k := 1) rfl rfl (by decide) rfl (fun ls hl => ?_)
  refine lv_goto (tgt := 2) hx hb dX6_agePlaces_41 (by decide) ?_
  exact hk2 _ (x1 + 1)  h _ _ _ hR (lv_sub hl [1, 0] rfl)
def S_X6_agePlaces_2 : Nat → F3 → Int32 → Option F3
  | 0, _, _ => none
  | n + 1, f, x1 => if (f 0 0 13) ≤ x1 then (some f) else (if okI x1 24 then (if (f 2 x1.toNatClampNeg 3) = 1 then (mm_let (up f 2 x1.toNatClampNeg 5 ((f 2 x1.toNatClampNeg 5) + 1)) fun f4 => S_X6_agePlaces_38 (fun f9 x1_ => S_X6_agePlaces_2 n f9 x1_) f4 x1) else (S_X6_agePlaces_38 (fun f9 x1_ => S_X6_agePlaces_2 n f9 x1_) f x1)) else none)
set_option maxHeartbeats 4000000 in
set_option maxRecDepth 100000 in
theorem L_X6_agePlaces_2 {G : mmG} {p : Program} {e : Env} {s : State} {m : MethodId} {args : Array Value} {below : List Frame} {meth : Method} {c : Code} {f' : F3} (C0 : mmC yX6_agePlaces cX6_agePlaces 2 none p s m args meth c) : ∀ (n : Nat) {f : F3} {x1 : Int32} , S_X6_agePlaces_2 n f x1 = some f' → ∀ (H : Heap) (locs : List Loc) (ls : Array Slot), mm_R G mm_NT f (GG f) s H locs → lv_has ls 2 [(0, .ref (ra G 0 0)), (1, .int x1)] → W p G.1 e (mm_rm 0) s m args below meth c H locs 0 0 (MQ below (mm_Q G mm_NT none f' (GG f')) args s 0 0 (mm_A G)) (F0 m 2 ls []) := by
  obtain ⟨hx, hb, hml, hr, hown, hts, hlocks⟩ := id C0
  intro n
  induction n with
  | zero =>
    intro f x1  h H locs ls hR hl
    cases h
  | succ n ih =>
    intro f x1  h H locs ls hR hl
    rw [S_X6_agePlaces_2] at h
    refine lv_iload_n hx hb dX6_agePlaces_2 rfl (lv_at hl 1 rfl) ?_
    refine lv_aload_n hx hb dX6_agePlaces_3 rfl (lv_at hl 0 rfl) ?_
    refine mm_get hx hb hts hown hR 0 0 13 vl_0 (v := .int (f 0 0 13)) rfl rfl iX6 (by decide) lk_60 rfl dX6_agePlaces_4 ?_
    refine lv_icmp_ge (tgt := 44) hx hb dX6_agePlaces_7 (by decide) (fun c1 => ?_) (fun c1 => ?_)
    · rw [if_pos c1] at h
      obtain rfl := mm_p1 h
      exact mm_vret C0 hR dX6_agePlaces_44
    · rw [if_neg c1] at h
      refine lv_aload_n hx hb dX6_agePlaces_10 rfl (lv_at hl 0 rfl) ?_
      refine mm_get hx hb hts hown hR 0 0 1 vl_0 (v := .ref (ra G 8 0)) rfl rfl iX6 (by decide) lk_61 rfl dX6_agePlaces_11 ?_
      refine lv_iload_n hx hb dX6_agePlaces_14 rfl (lv_at hl 1 rfl) ?_
      obtain ⟨z2, h⟩ := mm_if h
      refine mm_ald hx hb hR 8 0 3 vl_8 (L := 24) (C := "IceRoad$Load") (r2 := 2) (i2 := x1.toNatClampNeg) rfl rfl (okI_in z2) rfl (by decide) dX6_agePlaces_15 ?_
      refine mm_get hx hb hts hown hR 2 x1.toNatClampNeg 3 (mm_vld 2 (by decide) x1.toNatClampNeg (okI_lt z2)) (v := .int (f 2 x1.toNatClampNeg 3)) rfl rfl iX1 (by decide) lk_62 rfl dX6_agePlaces_16 ?_
      refine lv_iconst (v := 1) hx hb dX6_agePlaces_19 (by decide) ?_
      refine lv_icmp_ne (tgt := 38) hx hb dX6_agePlaces_20 (by decide) (fun c3 => ?_) (fun c3 => ?_)
      · rw [if_neg c3] at h
        exact L_X6_agePlaces_38 C0 (fun _ _ h9 H9 locs9 ls9 hR9 hl9 => ih h9 _ _ _ hR9 hl9) h _ _ _ hR (lv_sub hl [0, 1] rfl)
      · rw [if_pos c3] at h
        refine lv_aload_n hx hb dX6_agePlaces_23 rfl (lv_at hl 0 rfl) ?_
        refine mm_get hx hb hts hown hR 0 0 1 vl_0 (v := .ref (ra G 8 0)) rfl rfl iX6 (by decide) lk_61 rfl dX6_agePlaces_24 ?_
        refine lv_iload_n hx hb dX6_agePlaces_27 rfl (lv_at hl 1 rfl) ?_
        refine mm_ald hx hb hR 8 0 3 vl_8 (L := 24) (C := "IceRoad$Load") (r2 := 2) (i2 := x1.toNatClampNeg) rfl rfl (okI_in z2) rfl (by decide) dX6_agePlaces_28 ?_
        refine lv_dup hx hb dX6_agePlaces_29 rfl ?_
        refine mm_get hx hb hts hown hR 2 x1.toNatClampNeg 5 (mm_vld 2 (by decide) x1.toNatClampNeg (okI_lt z2)) (v := .int (f 2 x1.toNatClampNeg 5)) rfl rfl iX1 (by decide) lk_63 rfl dX6_agePlaces_30 ?_
        refine lv_iconst (v := 1) hx hb dX6_agePlaces_33 (by decide) ?_
        refine lv_iadd hx hb dX6_agePlaces_34 ?_
        obtain ⟨f4, ef4, h⟩ := mm_lt h
        refine mm_put hx hb hts hown hR 2 x1.toNatClampNeg 5 (by decide) (mm_vld 2 (by decide) x1.toNatClampNeg (okI_lt z2)) (x := (f 2 x1.toNatClampNeg 5) + 1) rfl rfl iX1 tyX1 tyX1_ok nmX1 (by decide) lk_63 rfl rfl rfl (Nat.le_of_ble_eq_true rfl) rfl dX6_agePlaces_35 (fun H locs hR => ?_)
        rw [← ef4] at hR
        exact L_X6_agePlaces_38 C0 (fun _ _ h9 H9 locs9 ls9 hR9 hl9 => ih h9 _ _ _ hR9 hl9) h _ _ _ hR (lv_sub hl [0, 1] rfl)
def S_X6_agePlaces (f : F3)  : Option F3 := S_X6_agePlaces_2 FU f 0
set_option maxHeartbeats 4000000 in
set_option maxRecDepth 100000 in
theorem T_X6_agePlaces (G : mmG) {f f' : F3} (h : S_X6_agePlaces f = some f') : mmM G yX6_agePlaces cX6_agePlaces 2 none 0 [.ref (ra G 0 0)] f none f' := by
  refine mm_start (by decide +kernel) (Nat.le_of_ble_eq_true rfl) ?_
  intro p e s m args below meth c ls C0 hR hl
  obtain ⟨hx, hb, hml, hr, hown, hts, hlocks⟩ := id C0
  have hl : lv_has ls 2 [(0, .ref (ra G 0 0))] := hl
  rw [S_X6_agePlaces] at h
  refine lv_iconst (v := 0) hx hb dX6_agePlaces_0 (by decide) ?_
  refine lv_istore_n (lv' := [(1, .int 0), (0, .ref (ra G 0 0))]) hx hb dX6_agePlaces_1 rfl hl (by decide) rfl (fun ls hl => ?_)
  exact L_X6_agePlaces_2 C0 _ h _ _ _ hR (lv_sub hl [1, 0] rfl)
def S_X6_isCell (f : F3) (x1 : Int32) : Option (Int32 × F3) := if x1 < 0 then (some (0, f)) else (if (f 0 0 12) ≤ x1 then (some (0, f)) else (some (1, f)))
set_option maxHeartbeats 4000000 in
set_option maxRecDepth 100000 in
theorem T_X6_isCell (G : mmG) {f f' : F3} {rv : Int32} {x1 : Int32} (h : S_X6_isCell f x1 = some (rv, f')) : mmM G yX6_isCell cX6_isCell 2 (some .boolean) 0 [.ref (ra G 0 0), .int x1] f (some (.int rv)) f' := by
  refine mm_start (by decide +kernel) (Nat.le_of_ble_eq_true rfl) ?_
  intro p e s m args below meth c ls C0 hR hl
  obtain ⟨hx, hb, hml, hr, hown, hts, hlocks⟩ := id C0
  have hl : lv_has ls 2 [(0, .ref (ra G 0 0)), (1, .int x1)] := hl
  rw [S_X6_isCell] at h
  refine lv_iload_n hx hb dX6_isCell_0 rfl (lv_at hl 1 rfl) ?_
  refine lv_if_lt (tgt := 16) hx hb dX6_isCell_1 (by decide) (fun c1 => ?_) (fun c1 => ?_)
  · rw [if_pos c1] at h
    refine lv_iconst (v := 0) hx hb dX6_isCell_16 (by decide) ?_
    obtain ⟨rfl, rfl⟩ := mm_pr h
    exact mm_zret C0 rfl hR dX6_isCell_17
  · rw [if_neg c1] at h
    refine lv_iload_n hx hb dX6_isCell_4 rfl (lv_at hl 1 rfl) ?_
    refine lv_aload_n hx hb dX6_isCell_5 rfl (lv_at hl 0 rfl) ?_
    refine mm_get hx hb hts hown hR 0 0 12 vl_0 (v := .int (f 0 0 12)) rfl rfl iX6 (by decide) lk_64 rfl dX6_isCell_6 ?_
    refine lv_icmp_ge (tgt := 16) hx hb dX6_isCell_9 (by decide) (fun c2 => ?_) (fun c2 => ?_)
    · rw [if_pos c2] at h
      refine lv_iconst (v := 0) hx hb dX6_isCell_16 (by decide) ?_
      obtain ⟨rfl, rfl⟩ := mm_pr h
      exact mm_zret C0 rfl hR dX6_isCell_17
    · rw [if_neg c2] at h
      refine lv_iconst (v := 1) hx hb dX6_isCell_12 (by decide) ?_
      refine lv_goto (tgt := 17) hx hb dX6_isCell_13 (by decide) ?_
      obtain ⟨rfl, rfl⟩ := mm_pr h
      exact mm_zret C0 rfl hR dX6_isCell_17
def S_X6_isWithin (f : F3) (x0 : Int32) (x1 : Int32) (x2 : Int32) : Option (Int32 × F3) := if x0 < x1 then (some (0, f)) else (if x2 < x0 then (some (0, f)) else (some (1, f)))
set_option maxHeartbeats 4000000 in
set_option maxRecDepth 100000 in
theorem T_X6_isWithin (G : mmG) {f f' : F3} {rv : Int32} {x0 : Int32} {x1 : Int32} {x2 : Int32} (h : S_X6_isWithin f x0 x1 x2 = some (rv, f')) : mmM G yX6_isWithin cX6_isWithin 3 (some .boolean) 0 [.int x0, .int x1, .int x2] f (some (.int rv)) f' := by
  refine mm_start (by decide +kernel) (Nat.le_of_ble_eq_true rfl) ?_
  intro p e s m args below meth c ls C0 hR hl
  obtain ⟨hx, hb, hml, hr, hown, hts, hlocks⟩ := id C0
  have hl : lv_has ls 3 [(0, .int x0), (1, .int x1), (2, .int x2)] := hl
  rw [S_X6_isWithin] at h
  refine lv_iload_n hx hb dX6_isWithin_0 rfl (lv_at hl 0 rfl) ?_
  refine lv_iload_n hx hb dX6_isWithin_1 rfl (lv_at hl 1 rfl) ?_
  refine lv_icmp_lt (tgt := 14) hx hb dX6_isWithin_2 (by decide) (fun c1 => ?_) (fun c1 => ?_)
  · rw [if_pos c1] at h
    refine lv_iconst (v := 0) hx hb dX6_isWithin_14 (by decide) ?_
    obtain ⟨rfl, rfl⟩ := mm_pr h
    exact mm_zret C0 rfl hR dX6_isWithin_15
  · rw [if_neg c1] at h
    refine lv_iload_n hx hb dX6_isWithin_5 rfl (lv_at hl 0 rfl) ?_
    refine lv_iload_n hx hb dX6_isWithin_6 rfl (lv_at hl 2 rfl) ?_
    refine lv_icmp_gt (tgt := 14) hx hb dX6_isWithin_7 (by decide) (fun c2 => ?_) (fun c2 => ?_)
    · rw [if_pos c2] at h
      refine lv_iconst (v := 0) hx hb dX6_isWithin_14 (by decide) ?_
      obtain ⟨rfl, rfl⟩ := mm_pr h
      exact mm_zret C0 rfl hR dX6_isWithin_15
    · rw [if_neg c2] at h
      refine lv_iconst (v := 1) hx hb dX6_isWithin_10 (by decide) ?_
      refine lv_goto (tgt := 15) hx hb dX6_isWithin_11 (by decide) ?_
      obtain ⟨rfl, rfl⟩ := mm_pr h
      exact mm_zret C0 rfl hR dX6_isWithin_15
def S_X6_refuse (f : F3) (x1 : Int32) : Option (Int32 × F3) := mm_b2 (S_X6_isWithin f x1 (-8) (-2)) fun r2 f1 => if r2 = 0 then (some (x1, f1)) else (if okI ((-2) - x1) 7 then (mm_let (up f1 12 0 ((-2) - x1).toNatClampNeg ((f1 12 0 ((-2) - x1).toNatClampNeg) + 1)) fun f5 => some (x1, f5)) else none)
set_option maxHeartbeats 4000000 in
set_option maxRecDepth 100000 in
theorem T_X6_refuse (G : mmG) {f f' : F3} {rv : Int32} {x1 : Int32} (h : S_X6_refuse f x1 = some (rv, f')) : mmM G yX6_refuse cX6_refuse 2 (some .int) 1 [.ref (ra G 0 0), .int x1] f (some (.int rv)) f' := by
  refine mm_start (by decide +kernel) (Nat.le_of_ble_eq_true rfl) ?_
  intro p e s m args below meth c ls C0 hR hl
  obtain ⟨hx, hb, hml, hr, hown, hts, hlocks⟩ := id C0
  have hl : lv_has ls 2 [(0, .ref (ra G 0 0)), (1, .int x1)] := hl
  rw [S_X6_refuse] at h
  refine lv_iload_n hx hb dX6_refuse_0 rfl (lv_at hl 1 rfl) ?_
  refine lv_bipush (v := (-8)) hx hb dX6_refuse_1 (by decide) ?_
  refine lv_bipush (v := (-2)) hx hb dX6_refuse_3 (by decide) ?_
  obtain ⟨r2, f1, ef1, h⟩ := mm_b2e h
  refine mm_callS (v := some (.int r2)) (f1 := f1) (d0 := 0) (rest := []) [.int x1, .int (-8), .int (-2)] C0 rfl hR (T_X6_isWithin G ef1) ws_X6_isWithin lk_65 hd_X6_isWithin ⟨by decide, by decide⟩ hl.1 rfl (Nat.le_of_ble_eq_true rfl) dX6_refuse_5 (fun H locs hR => ?_)
  refine W.eq (g2 := F0 m 8 ls (.int r2 :: [])) rfl ?_
  refine lv_if_eq (tgt := 24) hx hb dX6_refuse_8 (by decide) (fun c3 => ?_) (fun c3 => ?_)
  · rw [if_pos c3] at h
    refine lv_iload_n hx hb dX6_refuse_24 rfl (lv_at hl 1 rfl) ?_
    obtain ⟨rfl, rfl⟩ := mm_pr h
    exact mm_iret C0 hR dX6_refuse_25
  · rw [if_neg c3] at h
    refine lv_aload_n hx hb dX6_refuse_11 rfl (lv_at hl 0 rfl) ?_
    refine mm_get hx hb hts hown hR 0 0 8 vl_0 (v := .ref (ra G 12 0)) rfl rfl iX6 (by decide) lk_66 rfl dX6_refuse_12 ?_
    refine lv_bipush (v := (-2)) hx hb dX6_refuse_15 (by decide) ?_
    refine lv_iload_n hx hb dX6_refuse_17 rfl (lv_at hl 1 rfl) ?_
    refine lv_isub hx hb dX6_refuse_18 ?_
    refine lv_dup2_11 hx hb dX6_refuse_19 rfl rfl ?_
    obtain ⟨z4, h⟩ := mm_if h
    refine mm_ild hx hb hR 12 0 vl_12 (L := 7) rfl (okI_in z4) dX6_refuse_20 ?_
    refine lv_iconst (v := 1) hx hb dX6_refuse_21 (by decide) ?_
    refine lv_iadd hx hb dX6_refuse_22 ?_
    obtain ⟨f5, ef5, h⟩ := mm_lt h
    refine mm_ist hx hb hR 12 0 (by decide) vl_12 (L := 7) (j := (-2) - x1) (x := (f1 12 0 ((-2) - x1).toNatClampNeg) + 1) (fun _ => rfl) (okI_in z4) dX6_refuse_23 (fun H locs hR => ?_)
    rw [← ef5] at hR
    refine lv_iload_n hx hb dX6_refuse_24 rfl (lv_at hl 1 rfl) ?_
    obtain ⟨rfl, rfl⟩ := mm_pr h
    exact mm_iret C0 hR dX6_refuse_25
def S_X6_bears (f : F3) (x1 : Int32) (x2 : Int32) : Option (Int32 × F3) := mm_b2 (S_X6_isCell f x1) fun r2 f1 => if r2 = 0 then (mm_b2 (S_X6_refuse f1 (-3)) fun r14 f13 => some (r14, f13)) else (mm_b2 (S_X6_isWithin f1 x2 1 99) fun r5 f4 => if r5 = 0 then (mm_b2 (S_X6_refuse f4 (-7)) fun r12 f11 => some (r12, f11)) else (if okI x1 10 then (mm_b2 (S_X0_holdsUp f4 x1.toNatClampNeg x2) fun r9 f8 => if r9 = 0 then (some (0, f8)) else (some (1, f8))) else none))
set_option maxHeartbeats 4000000 in
set_option maxRecDepth 100000 in
theorem T_X6_bears (G : mmG) {f f' : F3} {rv : Int32} {x1 : Int32} {x2 : Int32} (h : S_X6_bears f x1 x2 = some (rv, f')) : mmM G yX6_bears cX6_bears 3 (some .int) 2 [.ref (ra G 0 0), .int x1, .int x2] f (some (.int rv)) f' := by
  refine mm_start (by decide +kernel) (Nat.le_of_ble_eq_true rfl) ?_
  intro p e s m args below meth c ls C0 hR hl
  obtain ⟨hx, hb, hml, hr, hown, hts, hlocks⟩ := id C0
  have hl : lv_has ls 3 [(0, .ref (ra G 0 0)), (1, .int x1), (2, .int x2)] := hl
  rw [S_X6_bears] at h
  refine lv_aload_n hx hb dX6_bears_0 rfl (lv_at hl 0 rfl) ?_
  refine lv_iload_n hx hb dX6_bears_1 rfl (lv_at hl 1 rfl) ?_
  obtain ⟨r2, f1, ef1, h⟩ := mm_b2e h
  refine mm_callV (v := some (.int r2)) (f1 := f1) (d0 := 0) (rest := []) [.int x1] C0 rfl hR 0 0 (T_X6_isCell G ef1) ws_X6_isCell lk_67 hd_X6_isCell ⟨by decide, by decide⟩ vl_0 rfl rfl rfl hl.1 rfl (Nat.le_of_ble_eq_true rfl) dX6_bears_2 (fun H locs hR => ?_)
  refine W.eq (g2 := F0 m 5 ls (.int r2 :: [])) rfl ?_
  refine lv_if_ne (tgt := 15) hx hb dX6_bears_5 (by decide) (fun c3 => ?_) (fun c3 => ?_)
  · rw [if_neg c3] at h
    refine lv_iload_n hx hb dX6_bears_15 rfl (lv_at hl 2 rfl) ?_
    refine lv_iconst (v := 1) hx hb dX6_bears_16 (by decide) ?_
    refine lv_bipush (v := 99) hx hb dX6_bears_17 (by decide) ?_
    obtain ⟨r5, f4, ef4, h⟩ := mm_b2e h
    refine mm_callS (v := some (.int r5)) (f1 := f4) (d0 := 0) (rest := []) [.int x2, .int 1, .int 99] C0 rfl hR (T_X6_isWithin G ef4) ws_X6_isWithin lk_65 hd_X6_isWithin ⟨by decide, by decide⟩ hl.1 rfl (Nat.le_of_ble_eq_true rfl) dX6_bears_19 (fun H locs hR => ?_)
    refine W.eq (g2 := F0 m 22 ls (.int r5 :: [])) rfl ?_
    refine lv_if_ne (tgt := 32) hx hb dX6_bears_22 (by decide) (fun c6 => ?_) (fun c6 => ?_)
    · rw [if_neg c6] at h
      refine lv_aload_n hx hb dX6_bears_32 rfl (lv_at hl 0 rfl) ?_
      refine mm_get hx hb hts hown hR 0 0 0 vl_0 (v := .ref (ra G 7 0)) rfl rfl iX6 (by decide) lk_68 rfl dX6_bears_33 ?_
      refine lv_iload_n hx hb dX6_bears_36 rfl (lv_at hl 1 rfl) ?_
      obtain ⟨z7, h⟩ := mm_if h
      refine mm_ald hx hb hR 7 0 2 vl_7 (L := 10) (C := "IceRoad$Cell") (r2 := 1) (i2 := x1.toNatClampNeg) rfl rfl (okI_in z7) rfl (by decide) dX6_bears_37 ?_
      refine lv_iload_n hx hb dX6_bears_38 rfl (lv_at hl 2 rfl) ?_
      obtain ⟨r9, f8, ef8, h⟩ := mm_b2e h
      refine mm_callV (v := some (.int r9)) (f1 := f8) (d0 := 0) (rest := []) [.int x2] C0 rfl hR 1 x1.toNatClampNeg (T_X0_holdsUp G (Nat.lt_trans (okI_lt z7) (by decide)) ef8) ws_X0_holdsUp lk_69 hd_X0_holdsUp ⟨by decide, by decide⟩ (mm_vld 1 (by decide) x1.toNatClampNeg (Nat.lt_trans (okI_lt z7) (by decide))) rfl rfl rfl hl.1 rfl (Nat.le_of_ble_eq_true rfl) dX6_bears_39 (fun H locs hR => ?_)
      refine W.eq (g2 := F0 m 42 ls (.int r9 :: [])) rfl ?_
      refine lv_if_eq (tgt := 49) hx hb dX6_bears_42 (by decide) (fun c10 => ?_) (fun c10 => ?_)
      · rw [if_pos c10] at h
        refine lv_iconst (v := 0) hx hb dX6_bears_49 (by decide) ?_
        obtain ⟨rfl, rfl⟩ := mm_pr h
        exact mm_iret C0 hR dX6_bears_50
      · rw [if_neg c10] at h
        refine lv_iconst (v := 1) hx hb dX6_bears_45 (by decide) ?_
        refine lv_goto (tgt := 50) hx hb dX6_bears_46 (by decide) ?_
        obtain ⟨rfl, rfl⟩ := mm_pr h
        exact mm_iret C0 hR dX6_bears_50
    · rw [if_pos c6] at h
      refine lv_aload_n hx hb dX6_bears_25 rfl (lv_at hl 0 rfl) ?_
      refine lv_bipush (v := (-7)) hx hb dX6_bears_26 (by decide) ?_
      obtain ⟨r12, f11, ef11, h⟩ := mm_b2e h
      refine mm_callV (v := some (.int r12)) (f1 := f11) (d0 := 1) (rest := []) [.int (-7)] C0 rfl hR 0 0 (T_X6_refuse G ef11) ws_X6_refuse lk_70 hd_X6_refuse ⟨by decide, by decide⟩ vl_0 rfl rfl rfl hl.1 rfl (Nat.le_of_ble_eq_true rfl) dX6_bears_28 (fun H locs hR => ?_)
      refine W.eq (g2 := F0 m 31 ls (.int r12 :: [])) rfl ?_
      obtain ⟨rfl, rfl⟩ := mm_pr h
      exact mm_iret C0 hR dX6_bears_31
  · rw [if_pos c3] at h
    refine lv_aload_n hx hb dX6_bears_8 rfl (lv_at hl 0 rfl) ?_
    refine lv_bipush (v := (-3)) hx hb dX6_bears_9 (by decide) ?_
    obtain ⟨r14, f13, ef13, h⟩ := mm_b2e h
    refine mm_callV (v := some (.int r14)) (f1 := f13) (d0 := 1) (rest := []) [.int (-3)] C0 rfl hR 0 0 (T_X6_refuse G ef13) ws_X6_refuse lk_70 hd_X6_refuse ⟨by decide, by decide⟩ vl_0 rfl rfl rfl hl.1 rfl (Nat.le_of_ble_eq_true rfl) dX6_bears_11 (fun H locs hR => ?_)
    refine W.eq (g2 := F0 m 14 ls (.int r14 :: [])) rfl ?_
    obtain ⟨rfl, rfl⟩ := mm_pr h
    exact mm_iret C0 hR dX6_bears_14
def S_X6_loadsOn_44 (k4 : F3 → Int32 → Int32 → Int32 → Option (Int32 × F3)) (f : F3) (s0 : Int32) (s1 : Int32) (x1 : Int32) (x3 : Int32) : Option (Int32 × F3) := k4 f x1 (s0 + s1) (x3 + 1)
set_option maxHeartbeats 4000000 in
set_option maxRecDepth 100000 in
theorem L_X6_loadsOn_44 {G : mmG} {p : Program} {e : Env} {s : State} {m : MethodId} {args : Array Value} {below : List Frame} {meth : Method} {c : Code} {f' : F3} {rv : Int32} (C0 : mmC yX6_loadsOn cX6_loadsOn 4 (some .int) p s m args meth c) {k4 : F3 → Int32 → Int32 → Int32 → Option (Int32 × F3)} (hk4 : ∀ (f : F3) (x1 : Int32) (x2 : Int32) (x3 : Int32), k4 f x1 x2 x3 = some (rv, f') → ∀ (H : Heap) (locs : List Loc) (ls : Array Slot), mm_R G mm_NT f (GG f) s H locs → lv_has ls 4 [(0, .ref (ra G 0 0)), (1, .int x1), (2, .int x2), (3, .int x3)] → W p G.1 e (mm_rm 0) s m args below meth c H locs 0 0 (MQ below (mm_Q G mm_NT (some (.int rv)) f' (GG f')) args s 0 0 (mm_A G)) (F0 m 4 ls [])) {f : F3} {s0 : Int32} {s1 : Int32} {x1 : Int32} {x3 : Int32} (h : S_X6_loadsOn_44 k4 f s0 s1 x1 x3 = some (rv, f')) (H : Heap) (locs : List Loc) (ls : Array Slot) (hR : mm_R G mm_NT f (GG f) s H locs) (hl : lv_has ls 4 [(0, .ref (ra G 0 0)), (1, .int x1), (3, .int x3)]) : W p G.1 e (mm_rm 0) s m args below meth c H locs 0 0 (MQ below (mm_Q G mm_NT (some (.int rv)) f' (GG f')) args s 0 0 (mm_A G)) (F0 m 44 ls [.int s1, .int s0]) := by
  obtain ⟨hx, hb, hml, hr, hown, hts, hlocks⟩ := id C0
  rw [S_X6_loadsOn_44] at h
  refine lv_iadd hx hb dX6_loadsOn_44 ?_
  refine lv_istore_n (lv' := [(2, .int (s0 + s1)), (0, .ref (ra G 0 0)), (1, .int x1), (3, .int x3)]) hx hb dX6_loadsOn_45 rfl hl (by decide) rfl (fun ls hl => ?_)
  refine lv_iinc (v := x3 + 1) (lv' := [(3, .int (x3 + 1)), (2, .int (s0 + s1)), (0, .ref (ra G 0 0)), (1, .int x1)]) hx hb dX6_loadsOn_46 hl (k := 3) rfl rfl (by decide) rfl (fun ls hl => ?_)
  refine lv_goto (tgt := 4) hx hb dX6_loadsOn_49 (by decide) ?_
  exact hk4 _ x1 (s0 + s1) (x3 + 1)  h _ _ _ hR (lv_sub hl [2, 3, 1, 0] rfl)
def S_X6_loadsOn_43 (k4 : F3 → Int32 → Int32 → Int32 → Option (Int32 × F3)) (f : F3) (s0 : Int32) (x1 : Int32) (x3 : Int32) : Option (Int32 × F3) := S_X6_loadsOn_44 k4 f s0 0 x1 x3
set_option maxHeartbeats 4000000 in
set_option maxRecDepth 100000 in
theorem L_X6_loadsOn_43 {G : mmG} {p : Program} {e : Env} {s : State} {m : MethodId} {args : Array Value} {below : List Frame} {meth : Method} {c : Code} {f' : F3} {rv : Int32} (C0 : mmC yX6_loadsOn cX6_loadsOn 4 (some .int) p s m args meth c) {k4 : F3 → Int32 → Int32 → Int32 → Option (Int32 × F3)} (hk4 : ∀ (f : F3) (x1 : Int32) (x2 : Int32) (x3 : Int32), k4 f x1 x2 x3 = some (rv, f') → ∀ (H : Heap) (locs : List Loc) (ls : Array Slot), mm_R G mm_NT f (GG f) s H locs → lv_has ls 4 [(0, .ref (ra G 0 0)), (1, .int x1), (2, .int x2), (3, .int x3)] → W p G.1 e (mm_rm 0) s m args below meth c H locs 0 0 (MQ below (mm_Q G mm_NT (some (.int rv)) f' (GG f')) args s 0 0 (mm_A G)) (F0 m 4 ls [])) {f : F3} {s0 : Int32} {x1 : Int32} {x3 : Int32} (h : S_X6_loadsOn_43 k4 f s0 x1 x3 = some (rv, f')) (H : Heap) (locs : List Loc) (ls : Array Slot) (hR : mm_R G mm_NT f (GG f) s H locs) (hl : lv_has ls 4 [(0, .ref (ra G 0 0)), (1, .int x1), (3, .int x3)]) : W p G.1 e (mm_rm 0) s m args below meth c H locs 0 0 (MQ below (mm_Q G mm_NT (some (.int rv)) f' (GG f')) args s 0 0 (mm_A G)) (F0 m 43 ls [.int s0]) := by
  obtain ⟨hx, hb, hml, hr, hown, hts, hlocks⟩ := id C0
  rw [S_X6_loadsOn_43] at h
  refine lv_iconst (v := 0) hx hb dX6_loadsOn_43 (by decide) ?_
  exact L_X6_loadsOn_44 C0 hk4 h _ _ _ hR (lv_sub hl [0, 1, 2] rfl)
def S_X6_loadsOn_4 : Nat → F3 → Int32 → Int32 → Int32 → Option (Int32 × F3)
  | 0, _, _, _, _ => none
  | n + 1, f, x1, x2, x3 => if (f 0 0 13) ≤ x3 then (some (x2, f)) else (if okI x3 24 then (if (f 2 x3.toNatClampNeg 3) = 1 then (if (f 2 x3.toNatClampNeg 4) = x1 then (S_X6_loadsOn_44 (fun f9 x1_ x2_ x3_ => S_X6_loadsOn_4 n f9 x1_ x2_ x3_) f x2 1 x1 x3) else (S_X6_loadsOn_43 (fun f9 x1_ x2_ x3_ => S_X6_loadsOn_4 n f9 x1_ x2_ x3_) f x2 x1 x3)) else (S_X6_loadsOn_43 (fun f9 x1_ x2_ x3_ => S_X6_loadsOn_4 n f9 x1_ x2_ x3_) f x2 x1 x3)) else none)
set_option maxHeartbeats 4000000 in
set_option maxRecDepth 100000 in
theorem L_X6_loadsOn_4 {G : mmG} {p : Program} {e : Env} {s : State} {m : MethodId} {args : Array Value} {below : List Frame} {meth : Method} {c : Code} {f' : F3} {rv : Int32} (C0 : mmC yX6_loadsOn cX6_loadsOn 4 (some .int) p s m args meth c) : ∀ (n : Nat) {f : F3} {x1 : Int32} {x2 : Int32} {x3 : Int32} , S_X6_loadsOn_4 n f x1 x2 x3 = some (rv, f') → ∀ (H : Heap) (locs : List Loc) (ls : Array Slot), mm_R G mm_NT f (GG f) s H locs → lv_has ls 4 [(0, .ref (ra G 0 0)), (1, .int x1), (2, .int x2), (3, .int x3)] → W p G.1 e (mm_rm 0) s m args below meth c H locs 0 0 (MQ below (mm_Q G mm_NT (some (.int rv)) f' (GG f')) args s 0 0 (mm_A G)) (F0 m 4 ls []) := by
  obtain ⟨hx, hb, hml, hr, hown, hts, hlocks⟩ := id C0
  intro n
  induction n with
  | zero =>
    intro f x1 x2 x3  h H locs ls hR hl
    cases h
  | succ n ih =>
    intro f x1 x2 x3  h H locs ls hR hl
    rw [S_X6_loadsOn_4] at h
    refine lv_iload_n hx hb dX6_loadsOn_4 rfl (lv_at hl 3 rfl) ?_
    refine lv_aload_n hx hb dX6_loadsOn_5 rfl (lv_at hl 0 rfl) ?_
    refine mm_get hx hb hts hown hR 0 0 13 vl_0 (v := .int (f 0 0 13)) rfl rfl iX6 (by decide) lk_60 rfl dX6_loadsOn_6 ?_
    refine lv_icmp_ge (tgt := 52) hx hb dX6_loadsOn_9 (by decide) (fun c1 => ?_) (fun c1 => ?_)
    · rw [if_pos c1] at h
      refine lv_iload_n hx hb dX6_loadsOn_52 rfl (lv_at hl 2 rfl) ?_
      obtain ⟨rfl, rfl⟩ := mm_pr h
      exact mm_iret C0 hR dX6_loadsOn_53
    · rw [if_neg c1] at h
      refine lv_iload_n hx hb dX6_loadsOn_12 rfl (lv_at hl 2 rfl) ?_
      refine lv_aload_n hx hb dX6_loadsOn_13 rfl (lv_at hl 0 rfl) ?_
      refine mm_get hx hb hts hown hR 0 0 1 vl_0 (v := .ref (ra G 8 0)) rfl rfl iX6 (by decide) lk_61 rfl dX6_loadsOn_14 ?_
      refine lv_iload_n hx hb dX6_loadsOn_17 rfl (lv_at hl 3 rfl) ?_
      obtain ⟨z2, h⟩ := mm_if h
      refine mm_ald hx hb hR 8 0 3 vl_8 (L := 24) (C := "IceRoad$Load") (r2 := 2) (i2 := x3.toNatClampNeg) rfl rfl (okI_in z2) rfl (by decide) dX6_loadsOn_18 ?_
      refine mm_get hx hb hts hown hR 2 x3.toNatClampNeg 3 (mm_vld 2 (by decide) x3.toNatClampNeg (okI_lt z2)) (v := .int (f 2 x3.toNatClampNeg 3)) rfl rfl iX1 (by decide) lk_62 rfl dX6_loadsOn_19 ?_
      refine lv_iconst (v := 1) hx hb dX6_loadsOn_22 (by decide) ?_
      refine lv_icmp_ne (tgt := 43) hx hb dX6_loadsOn_23 (by decide) (fun c3 => ?_) (fun c3 => ?_)
      · rw [if_neg c3] at h
        exact L_X6_loadsOn_43 C0 (fun _ _ _ _ h9 H9 locs9 ls9 hR9 hl9 => ih h9 _ _ _ hR9 hl9) h _ _ _ hR (lv_sub hl [0, 1, 3] rfl)
      · rw [if_pos c3] at h
        refine lv_aload_n hx hb dX6_loadsOn_26 rfl (lv_at hl 0 rfl) ?_
        refine mm_get hx hb hts hown hR 0 0 1 vl_0 (v := .ref (ra G 8 0)) rfl rfl iX6 (by decide) lk_61 rfl dX6_loadsOn_27 ?_
        refine lv_iload_n hx hb dX6_loadsOn_30 rfl (lv_at hl 3 rfl) ?_
        refine mm_ald hx hb hR 8 0 3 vl_8 (L := 24) (C := "IceRoad$Load") (r2 := 2) (i2 := x3.toNatClampNeg) rfl rfl (okI_in z2) rfl (by decide) dX6_loadsOn_31 ?_
        refine mm_get hx hb hts hown hR 2 x3.toNatClampNeg 4 (mm_vld 2 (by decide) x3.toNatClampNeg (okI_lt z2)) (v := .int (f 2 x3.toNatClampNeg 4)) rfl rfl iX1 (by decide) lk_71 rfl dX6_loadsOn_32 ?_
        refine lv_iload_n hx hb dX6_loadsOn_35 rfl (lv_at hl 1 rfl) ?_
        refine lv_icmp_ne (tgt := 43) hx hb dX6_loadsOn_36 (by decide) (fun c4 => ?_) (fun c4 => ?_)
        · rw [if_neg c4] at h
          exact L_X6_loadsOn_43 C0 (fun _ _ _ _ h9 H9 locs9 ls9 hR9 hl9 => ih h9 _ _ _ hR9 hl9) h _ _ _ hR (lv_sub hl [0, 1, 3] rfl)
        · rw [if_pos c4] at h
          refine lv_iconst (v := 1) hx hb dX6_loadsOn_39 (by decide) ?_
          refine lv_goto (tgt := 44) hx hb dX6_loadsOn_40 (by decide) ?_
          exact L_X6_loadsOn_44 C0 (fun _ _ _ _ h9 H9 locs9 ls9 hR9 hl9 => ih h9 _ _ _ hR9 hl9) h _ _ _ hR (lv_sub hl [0, 1, 3] rfl)
def S_X6_loadsOn (f : F3) (x1 : Int32) : Option (Int32 × F3) := S_X6_loadsOn_4 FU f x1 0 0
set_option maxHeartbeats 4000000 in
set_option maxRecDepth 100000 in
theorem T_X6_loadsOn (G : mmG) {f f' : F3} {rv : Int32} {x1 : Int32} (h : S_X6_loadsOn f x1 = some (rv, f')) : mmM G yX6_loadsOn cX6_loadsOn 4 (some .int) 0 [.ref (ra G 0 0), .int x1] f (some (.int rv)) f' := by
  refine mm_start (by decide +kernel) (Nat.le_of_ble_eq_true rfl) ?_
  intro p e s m args below meth c ls C0 hR hl
  obtain ⟨hx, hb, hml, hr, hown, hts, hlocks⟩ := id C0
  have hl : lv_has ls 4 [(0, .ref (ra G 0 0)), (1, .int x1)] := hl
  rw [S_X6_loadsOn] at h
  refine lv_iconst (v := 0) hx hb dX6_loadsOn_0 (by decide) ?_
  refine lv_istore_n (lv' := [(2, .int 0), (0, .ref (ra G 0 0)), (1, .int x1)]) hx hb dX6_loadsOn_1 rfl hl (by decide) rfl (fun ls hl => ?_)
  refine lv_iconst (v := 0) hx hb dX6_loadsOn_2 (by decide) ?_
  refine lv_istore_n (lv' := [(3, .int 0), (2, .int 0), (0, .ref (ra G 0 0)), (1, .int x1)]) hx hb dX6_loadsOn_3 rfl hl (by decide) rfl (fun ls hl => ?_)
  exact L_X6_loadsOn_4 C0 _ h _ _ _ hR (lv_sub hl [2, 3, 1, 0] rfl)
def S_X6_bypass (f : F3) (x1 : Int32) : Option (Int32 × F3) := mm_b2 (S_X6_isCell f x1) fun r2 f1 => if r2 = 0 then (mm_b2 (S_X6_refuse f1 (-3)) fun r18 f17 => some (r18, f17)) else (if okI x1 10 then (if (f1 1 x1.toNatClampNeg 0) = 3 then (mm_b2 (S_X6_loadsOn f1 x1) fun r7 f6 => if r7 ≤ 0 then (Option.bind (S_X0_become f6 x1.toNatClampNeg 1) fun f9 => mm_let (up f9 1 x1.toNatClampNeg 2 0) fun f10 => mm_let (up f10 1 x1.toNatClampNeg 5 0) fun f11 => mm_let (up f11 1 x1.toNatClampNeg 1 ((f11 1 x1.toNatClampNeg 1) / 2)) fun f12 => some (f12 1 x1.toNatClampNeg 1, f12)) else (mm_b2 (S_X6_refuse f6 (-7)) fun r14 f13 => some (r14, f13))) else (mm_b2 (S_X6_refuse f1 (-5)) fun r16 f15 => some (r16, f15))) else none)
set_option maxHeartbeats 4000000 in
set_option maxRecDepth 100000 in
theorem T_X6_bypass (G : mmG) {f f' : F3} {rv : Int32} {x1 : Int32} (h : S_X6_bypass f x1 = some (rv, f')) : mmM G yX6_bypass cX6_bypass 3 (some .int) 2 [.ref (ra G 0 0), .int x1] f (some (.int rv)) f' := by
  refine mm_start (by decide +kernel) (Nat.le_of_ble_eq_true rfl) ?_
  intro p e s m args below meth c ls C0 hR hl
  obtain ⟨hx, hb, hml, hr, hown, hts, hlocks⟩ := id C0
  have hl : lv_has ls 3 [(0, .ref (ra G 0 0)), (1, .int x1)] := hl
  rw [S_X6_bypass] at h
  refine lv_aload_n hx hb dX6_bypass_0 rfl (lv_at hl 0 rfl) ?_
  refine lv_iload_n hx hb dX6_bypass_1 rfl (lv_at hl 1 rfl) ?_
  obtain ⟨r2, f1, ef1, h⟩ := mm_b2e h
  refine mm_callV (v := some (.int r2)) (f1 := f1) (d0 := 0) (rest := []) [.int x1] C0 rfl hR 0 0 (T_X6_isCell G ef1) ws_X6_isCell lk_67 hd_X6_isCell ⟨by decide, by decide⟩ vl_0 rfl rfl rfl hl.1 rfl (Nat.le_of_ble_eq_true rfl) dX6_bypass_2 (fun H locs hR => ?_)
  refine W.eq (g2 := F0 m 5 ls (.int r2 :: [])) rfl ?_
  refine lv_if_ne (tgt := 15) hx hb dX6_bypass_5 (by decide) (fun c3 => ?_) (fun c3 => ?_)
  · rw [if_neg c3] at h
    refine lv_aload_n hx hb dX6_bypass_15 rfl (lv_at hl 0 rfl) ?_
    refine mm_get hx hb hts hown hR 0 0 0 vl_0 (v := .ref (ra G 7 0)) rfl rfl iX6 (by decide) lk_68 rfl dX6_bypass_16 ?_
    refine lv_iload_n hx hb dX6_bypass_19 rfl (lv_at hl 1 rfl) ?_
    obtain ⟨z4, h⟩ := mm_if h
    refine mm_ald hx hb hR 7 0 2 vl_7 (L := 10) (C := "IceRoad$Cell") (r2 := 1) (i2 := x1.toNatClampNeg) rfl rfl (okI_in z4) rfl (by decide) dX6_bypass_20 ?_
    refine lv_astore_n (lv' := [(2, .ref (ra G 1 x1.toNatClampNeg)), (0, .ref (ra G 0 0)), (1, .int x1)]) hx hb dX6_bypass_21 rfl hl (by decide) rfl (fun ls hl => ?_)
    refine lv_aload_n hx hb dX6_bypass_22 rfl (lv_at hl 0 rfl) ?_
    refine mm_get hx hb hts hown hR 1 x1.toNatClampNeg 0 (mm_vld 1 (by decide) x1.toNatClampNeg (Nat.lt_trans (okI_lt z4) (by decide))) (v := .int (f1 1 x1.toNatClampNeg 0)) rfl rfl iX0 (by decide) lk_72 rfl dX6_bypass_23 ?_
    refine lv_iconst (v := 3) hx hb dX6_bypass_26 (by decide) ?_
    refine lv_icmp_eq (tgt := 37) hx hb dX6_bypass_27 (by decide) (fun c5 => ?_) (fun c5 => ?_)
    · rw [if_pos c5] at h
      refine lv_aload_n hx hb dX6_bypass_37 rfl (lv_at hl 1 rfl) ?_
      refine lv_iload_n hx hb dX6_bypass_38 rfl (lv_at hl 2 rfl) ?_
      obtain ⟨r7, f6, ef6, h⟩ := mm_b2e h
      refine mm_callV (v := some (.int r7)) (f1 := f6) (d0 := 0) (rest := []) [.int x1] C0 rfl hR 0 0 (T_X6_loadsOn G ef6) ws_X6_loadsOn lk_73 hd_X6_loadsOn ⟨by decide, by decide⟩ vl_0 rfl rfl rfl hl.1 rfl (Nat.le_of_ble_eq_true rfl) dX6_bypass_39 (fun H locs hR => ?_)
      refine W.eq (g2 := F0 m 42 ls (.int r7 :: [])) rfl ?_
      refine lv_if_le (tgt := 52) hx hb dX6_bypass_42 (by decide) (fun c8 => ?_) (fun c8 => ?_)
      · rw [if_pos c8] at h
        refine lv_aload_n hx hb dX6_bypass_52 rfl (lv_at hl 0 rfl) ?_
        refine lv_iconst (v := 1) hx hb dX6_bypass_53 (by decide) ?_
        obtain ⟨f9, ef9, h⟩ := mm_bind h
        refine mm_callV (v := none) (f1 := f9) (d0 := 0) (rest := []) [.int 1] C0 rfl hR 1 x1.toNatClampNeg (T_X0_become G (Nat.lt_trans (okI_lt z4) (by decide)) ef9) ws_X0_become lk_74 hd_X0_become ⟨by decide, by decide⟩ (mm_vld 1 (by decide) x1.toNatClampNeg (Nat.lt_trans (okI_lt z4) (by decide))) rfl rfl rfl hl.1 rfl (Nat.le_of_ble_eq_true rfl) dX6_bypass_54 (fun H locs hR => ?_)
        refine W.eq (g2 := F0 m 57 ls ([])) rfl ?_
        refine lv_aload_n hx hb dX6_bypass_57 rfl (lv_at hl 0 rfl) ?_
        refine lv_iconst (v := 0) hx hb dX6_bypass_58 (by decide) ?_
        obtain ⟨f10, ef10, h⟩ := mm_lt h
        refine mm_put hx hb hts hown hR 1 x1.toNatClampNeg 2 (by decide) (mm_vld 1 (by decide) x1.toNatClampNeg (Nat.lt_trans (okI_lt z4) (by decide))) (x := 0) rfl rfl iX0 tyX0 tyX0_ok nmX0 (by decide) lk_75 rfl rfl rfl (Nat.le_of_ble_eq_true rfl) rfl dX6_bypass_59 (fun H locs hR => ?_)
        rw [← ef10] at hR
        refine lv_aload_n hx hb dX6_bypass_62 rfl (lv_at hl 0 rfl) ?_
        refine lv_iconst (v := 0) hx hb dX6_bypass_63 (by decide) ?_
        obtain ⟨f11, ef11, h⟩ := mm_lt h
        refine mm_put hx hb hts hown hR 1 x1.toNatClampNeg 5 (by decide) (mm_vld 1 (by decide) x1.toNatClampNeg (Nat.lt_trans (okI_lt z4) (by decide))) (x := 0) rfl rfl iX0 tyX0 tyX0_ok nmX0 (by decide) lk_76 rfl rfl rfl (Nat.le_of_ble_eq_true rfl) rfl dX6_bypass_64 (fun H locs hR => ?_)
        rw [← ef11] at hR
        refine lv_aload_n hx hb dX6_bypass_67 rfl (lv_at hl 0 rfl) ?_
        refine lv_aload_n hx hb dX6_bypass_68 rfl (lv_at hl 0 rfl) ?_
        refine mm_get hx hb hts hown hR 1 x1.toNatClampNeg 1 (mm_vld 1 (by decide) x1.toNatClampNeg (Nat.lt_trans (okI_lt z4) (by decide))) (v := .int (f11 1 x1.toNatClampNeg 1)) rfl rfl iX0 (by decide) lk_77 rfl dX6_bypass_69 ?_
        refine lv_iconst (v := 2) hx hb dX6_bypass_72 (by decide) ?_
        refine lv_idiv hx hb dX6_bypass_73 (by decide) ?_
        obtain ⟨f12, ef12, h⟩ := mm_lt h
        refine mm_put hx hb hts hown hR 1 x1.toNatClampNeg 1 (by decide) (mm_vld 1 (by decide) x1.toNatClampNeg (Nat.lt_trans (okI_lt z4) (by decide))) (x := (f11 1 x1.toNatClampNeg 1) / 2) rfl rfl iX0 tyX0 tyX0_ok nmX0 (by decide) lk_77 rfl rfl rfl (Nat.le_of_ble_eq_true rfl) rfl dX6_bypass_74 (fun H locs hR => ?_)
        rw [← ef12] at hR
        refine lv_aload_n hx hb dX6_bypass_77 rfl (lv_at hl 0 rfl) ?_
        refine mm_get hx hb hts hown hR 1 x1.toNatClampNeg 1 (mm_vld 1 (by decide) x1.toNatClampNeg (Nat.lt_trans (okI_lt z4) (by decide))) (v := .int (f12 1 x1.toNatClampNeg 1)) rfl rfl iX0 (by decide) lk_77 rfl dX6_bypass_78 ?_
        obtain ⟨rfl, rfl⟩ := mm_pr h
        exact mm_iret C0 hR dX6_bypass_81
      · rw [if_neg c8] at h
        refine lv_aload_n hx hb dX6_bypass_45 rfl (lv_at hl 1 rfl) ?_
        refine lv_bipush (v := (-7)) hx hb dX6_bypass_46 (by decide) ?_
        obtain ⟨r14, f13, ef13, h⟩ := mm_b2e h
        refine mm_callV (v := some (.int r14)) (f1 := f13) (d0 := 1) (rest := []) [.int (-7)] C0 rfl hR 0 0 (T_X6_refuse G ef13) ws_X6_refuse lk_70 hd_X6_refuse ⟨by decide, by decide⟩ vl_0 rfl rfl rfl hl.1 rfl (Nat.le_of_ble_eq_true rfl) dX6_bypass_48 (fun H locs hR => ?_)
        refine W.eq (g2 := F0 m 51 ls (.int r14 :: [])) rfl ?_
        obtain ⟨rfl, rfl⟩ := mm_pr h
        exact mm_iret C0 hR dX6_bypass_51
    · rw [if_neg c5] at h
      refine lv_aload_n hx hb dX6_bypass_30 rfl (lv_at hl 1 rfl) ?_
      refine lv_bipush (v := (-5)) hx hb dX6_bypass_31 (by decide) ?_
      obtain ⟨r16, f15, ef15, h⟩ := mm_b2e h
      refine mm_callV (v := some (.int r16)) (f1 := f15) (d0 := 1) (rest := []) [.int (-5)] C0 rfl hR 0 0 (T_X6_refuse G ef15) ws_X6_refuse lk_70 hd_X6_refuse ⟨by decide, by decide⟩ vl_0 rfl rfl rfl hl.1 rfl (Nat.le_of_ble_eq_true rfl) dX6_bypass_33 (fun H locs hR => ?_)
      refine W.eq (g2 := F0 m 36 ls (.int r16 :: [])) rfl ?_
      obtain ⟨rfl, rfl⟩ := mm_pr h
      exact mm_iret C0 hR dX6_bypass_36
  · rw [if_pos c3] at h
    refine lv_aload_n hx hb dX6_bypass_8 rfl (lv_at hl 0 rfl) ?_
    refine lv_bipush (v := (-3)) hx hb dX6_bypass_9 (by decide) ?_
    obtain ⟨r18, f17, ef17, h⟩ := mm_b2e h
    refine mm_callV (v := some (.int r18)) (f1 := f17) (d0 := 1) (rest := []) [.int (-3)] C0 rfl hR 0 0 (T_X6_refuse G ef17) ws_X6_refuse lk_70 hd_X6_refuse ⟨by decide, by decide⟩ vl_0 rfl rfl rfl hl.1 rfl (Nat.le_of_ble_eq_true rfl) dX6_bypass_11 (fun H locs hR => ?_)
    refine W.eq (g2 := F0 m 14 ls (.int r18 :: [])) rfl ?_
    obtain ⟨rfl, rfl⟩ := mm_pr h
    exact mm_iret C0 hR dX6_bypass_14
def S_X6_cell_69 (f : F3) (t0 : Nat) (s1 : Int32) (s2 : Int32) (s3 : Int32) : Option (Int32 × F3) := Option.bind (S_X0_lay f t0 s1 s2 s3) fun f15 => mm_let (up f15 0 0 12 ((f15 0 0 12) + 1)) fun f16 => some ((f16 0 0 12) - 1, f16)
set_option maxHeartbeats 4000000 in
set_option maxRecDepth 100000 in
theorem L_X6_cell_69 {G : mmG} {p : Program} {e : Env} {s : State} {m : MethodId} {args : Array Value} {below : List Frame} {meth : Method} {c : Code} {f' : F3} {rv : Int32} (C0 : mmC yX6_cell cX6_cell 4 (some .int) p s m args meth c) {f : F3} {t0 : Nat} {s1 : Int32} {s2 : Int32} {s3 : Int32} (ht0 : t0 < mm_cnt 1) (h : S_X6_cell_69 f t0 s1 s2 s3 = some (rv, f')) (H : Heap) (locs : List Loc) (ls : Array Slot) (hR : mm_R G mm_NT f (GG f) s H locs) (hl : lv_has ls 4 [(0, .ref (ra G 0 0))]) : W p G.1 e (mm_rm 2) s m args below meth c H locs 0 0 (MQ below (mm_Q G mm_NT (some (.int rv)) f' (GG f')) args s 0 0 (mm_A G)) (F0 m 69 ls [.int s3, .int s2, .int s1, .ref (ra G 1 t0)]) := by
  obtain ⟨hx, hb, hml, hr, hown, hts, hlocks⟩ := id C0
  rw [S_X6_cell_69] at h
  obtain ⟨f15, ef15, h⟩ := mm_bind h
  refine mm_callV (v := none) (f1 := f15) (d0 := 0) (rest := []) [.int s1, .int s2, .int s3] C0 rfl hR 1 t0 (T_X0_lay G ht0 ef15) ws_X0_lay lk_78 hd_X0_lay ⟨by decide, by decide⟩ (mm_vld 1 (by decide) t0 ht0) rfl rfl rfl hl.1 rfl (Nat.le_of_ble_eq_true rfl) dX6_cell_69 (fun H locs hR => ?_)
  refine W.eq (g2 := F0 m 72 ls ([])) rfl ?_
  refine lv_aload_n hx hb dX6_cell_72 rfl (lv_at hl 0 rfl) ?_
  refine lv_dup hx hb dX6_cell_73 rfl ?_
  refine mm_get hx hb hts hown hR 0 0 12 vl_0 (v := .int (f15 0 0 12)) rfl rfl iX6 (by decide) lk_64 rfl dX6_cell_74 ?_
  refine lv_iconst (v := 1) hx hb dX6_cell_77 (by decide) ?_
  refine lv_iadd hx hb dX6_cell_78 ?_
  obtain ⟨f16, ef16, h⟩ := mm_lt h
  refine mm_put hx hb hts hown hR 0 0 12 (by decide) vl_0 (x := (f15 0 0 12) + 1) rfl rfl iX6 tyX6 tyX6_ok nmX6 (by decide) lk_64 rfl rfl rfl (Nat.le_of_ble_eq_true rfl) rfl dX6_cell_79 (fun H locs hR => ?_)
  rw [← ef16] at hR
  refine lv_aload_n hx hb dX6_cell_82 rfl (lv_at hl 0 rfl) ?_
  refine mm_get hx hb hts hown hR 0 0 12 vl_0 (v := .int (f16 0 0 12)) rfl rfl iX6 (by decide) lk_64 rfl dX6_cell_83 ?_
  refine lv_iconst (v := 1) hx hb dX6_cell_86 (by decide) ?_
  refine lv_isub hx hb dX6_cell_87 ?_
  obtain ⟨rfl, rfl⟩ := mm_pr h
  exact mm_iret C0 hR dX6_cell_88
def S_X6_cell_26 (f : F3)  : Option (Int32 × F3) := mm_b2 (S_X6_refuse f (-7)) fun r14 f13 => some (r14, f13)
set_option maxHeartbeats 4000000 in
set_option maxRecDepth 100000 in
theorem L_X6_cell_26 {G : mmG} {p : Program} {e : Env} {s : State} {m : MethodId} {args : Array Value} {below : List Frame} {meth : Method} {c : Code} {f' : F3} {rv : Int32} (C0 : mmC yX6_cell cX6_cell 4 (some .int) p s m args meth c) {f : F3} (h : S_X6_cell_26 f = some (rv, f')) (H : Heap) (locs : List Loc) (ls : Array Slot) (hR : mm_R G mm_NT f (GG f) s H locs) (hl : lv_has ls 4 [(0, .ref (ra G 0 0))]) : W p G.1 e (mm_rm 2) s m args below meth c H locs 0 0 (MQ below (mm_Q G mm_NT (some (.int rv)) f' (GG f')) args s 0 0 (mm_A G)) (F0 m 26 ls []) := by
  obtain ⟨hx, hb, hml, hr, hown, hts, hlocks⟩ := id C0
  rw [S_X6_cell_26] at h
  refine lv_aload_n hx hb dX6_cell_26 rfl (lv_at hl 0 rfl) ?_
  refine lv_bipush (v := (-7)) hx hb dX6_cell_27 (by decide) ?_
  obtain ⟨r14, f13, ef13, h⟩ := mm_b2e h
  refine mm_callV (v := some (.int r14)) (f1 := f13) (d0 := 1) (rest := []) [.int (-7)] C0 rfl hR 0 0 (T_X6_refuse G ef13) ws_X6_refuse lk_70 hd_X6_refuse ⟨by decide, by decide⟩ vl_0 rfl rfl rfl hl.1 rfl (Nat.le_of_ble_eq_true rfl) dX6_cell_29 (fun H locs hR => ?_)
  refine W.eq (g2 := F0 m 32 ls (.int r14 :: [])) rfl ?_
  obtain ⟨rfl, rfl⟩ := mm_pr h
  exact mm_iret C0 hR dX6_cell_32
def S_X6_cell (f : F3) (x1 : Int32) (x2 : Int32) (x3 : Int32) : Option (Int32 × F3) := mm_b2 (S_X6_isWithin f x1 1 60) fun r2 f1 => if r2 = 0 then (S_X6_cell_26 f1 ) else (mm_b2 (S_X6_isWithin f1 x2 1 4) fun r5 f4 => if r5 = 0 then (S_X6_cell_26 f4 ) else (if (f4 0 0 13) ≤ 0 then (if (f4 0 0 12) < 10 then (if okI (f4 0 0 12) 10 then (if x3 = 0 then (S_X6_cell_69 f4 ((f4 0 0 12).toNatClampNeg) x1 x2 0) else (S_X6_cell_69 f4 ((f4 0 0 12).toNatClampNeg) x1 x2 4)) else none) else (mm_b2 (S_X6_refuse f4 (-8)) fun r12 f11 => some (r12, f11))) else (S_X6_cell_26 f4 )))
set_option maxHeartbeats 4000000 in
set_option maxRecDepth 100000 in
theorem T_X6_cell (G : mmG) {f f' : F3} {rv : Int32} {x1 : Int32} {x2 : Int32} {x3 : Int32} (h : S_X6_cell f x1 x2 x3 = some (rv, f')) : mmM G yX6_cell cX6_cell 4 (some .int) 2 [.ref (ra G 0 0), .int x1, .int x2, .int x3] f (some (.int rv)) f' := by
  refine mm_start (by decide +kernel) (Nat.le_of_ble_eq_true rfl) ?_
  intro p e s m args below meth c ls C0 hR hl
  obtain ⟨hx, hb, hml, hr, hown, hts, hlocks⟩ := id C0
  have hl : lv_has ls 4 [(0, .ref (ra G 0 0)), (1, .int x1), (2, .int x2), (3, .int x3)] := hl
  rw [S_X6_cell] at h
  refine lv_iload_n hx hb dX6_cell_0 rfl (lv_at hl 1 rfl) ?_
  refine lv_iconst (v := 1) hx hb dX6_cell_1 (by decide) ?_
  refine lv_bipush (v := 60) hx hb dX6_cell_2 (by decide) ?_
  obtain ⟨r2, f1, ef1, h⟩ := mm_b2e h
  refine mm_callS (v := some (.int r2)) (f1 := f1) (d0 := 0) (rest := []) [.int x1, .int 1, .int 60] C0 rfl hR (T_X6_isWithin G ef1) ws_X6_isWithin lk_65 hd_X6_isWithin ⟨by decide, by decide⟩ hl.1 rfl (Nat.le_of_ble_eq_true rfl) dX6_cell_4 (fun H locs hR => ?_)
  refine W.eq (g2 := F0 m 7 ls (.int r2 :: [])) rfl ?_
  refine lv_if_eq (tgt := 26) hx hb dX6_cell_7 (by decide) (fun c3 => ?_) (fun c3 => ?_)
  · rw [if_pos c3] at h
    exact L_X6_cell_26 C0 h _ _ _ hR (lv_sub hl [0] rfl)
  · rw [if_neg c3] at h
    refine lv_iload_n hx hb dX6_cell_10 rfl (lv_at hl 2 rfl) ?_
    refine lv_iconst (v := 1) hx hb dX6_cell_11 (by decide) ?_
    refine lv_iconst (v := 4) hx hb dX6_cell_12 (by decide) ?_
    obtain ⟨r5, f4, ef4, h⟩ := mm_b2e h
    refine mm_callS (v := some (.int r5)) (f1 := f4) (d0 := 0) (rest := []) [.int x2, .int 1, .int 4] C0 rfl hR (T_X6_isWithin G ef4) ws_X6_isWithin lk_65 hd_X6_isWithin ⟨by decide, by decide⟩ hl.1 rfl (Nat.le_of_ble_eq_true rfl) dX6_cell_13 (fun H locs hR => ?_)
    refine W.eq (g2 := F0 m 16 ls (.int r5 :: [])) rfl ?_
    refine lv_if_eq (tgt := 26) hx hb dX6_cell_16 (by decide) (fun c6 => ?_) (fun c6 => ?_)
    · rw [if_pos c6] at h
      exact L_X6_cell_26 C0 h _ _ _ hR (lv_sub hl [0] rfl)
    · rw [if_neg c6] at h
      refine lv_aload_n hx hb dX6_cell_19 rfl (lv_at hl 0 rfl) ?_
      refine mm_get hx hb hts hown hR 0 0 13 vl_0 (v := .int (f4 0 0 13)) rfl rfl iX6 (by decide) lk_60 rfl dX6_cell_20 ?_
      refine lv_if_le (tgt := 33) hx hb dX6_cell_23 (by decide) (fun c7 => ?_) (fun c7 => ?_)
      · rw [if_pos c7] at h
        refine lv_aload_n hx hb dX6_cell_33 rfl (lv_at hl 0 rfl) ?_
        refine mm_get hx hb hts hown hR 0 0 12 vl_0 (v := .int (f4 0 0 12)) rfl rfl iX6 (by decide) lk_64 rfl dX6_cell_34 ?_
        refine lv_bipush (v := 10) hx hb dX6_cell_37 (by decide) ?_
        refine lv_icmp_lt (tgt := 49) hx hb dX6_cell_39 (by decide) (fun c8 => ?_) (fun c8 => ?_)
        · rw [if_pos c8] at h
          refine lv_aload_n hx hb dX6_cell_49 rfl (lv_at hl 0 rfl) ?_
          refine mm_get hx hb hts hown hR 0 0 0 vl_0 (v := .ref (ra G 7 0)) rfl rfl iX6 (by decide) lk_68 rfl dX6_cell_50 ?_
          refine lv_aload_n hx hb dX6_cell_53 rfl (lv_at hl 0 rfl) ?_
          refine mm_get hx hb hts hown hR 0 0 12 vl_0 (v := .int (f4 0 0 12)) rfl rfl iX6 (by decide) lk_64 rfl dX6_cell_54 ?_
          obtain ⟨z9, h⟩ := mm_if h
          refine mm_ald hx hb hR 7 0 2 vl_7 (L := 10) (C := "IceRoad$Cell") (r2 := 1) (i2 := (f4 0 0 12).toNatClampNeg) rfl rfl (okI_in z9) rfl (by decide) dX6_cell_57 ?_
          refine lv_iload_n hx hb dX6_cell_58 rfl (lv_at hl 1 rfl) ?_
          refine lv_iload_n hx hb dX6_cell_59 rfl (lv_at hl 2 rfl) ?_
          refine lv_iload_n hx hb dX6_cell_60 rfl (lv_at hl 3 rfl) ?_
          refine lv_if_eq (tgt := 68) hx hb dX6_cell_61 (by decide) (fun c10 => ?_) (fun c10 => ?_)
          · rw [if_pos c10] at h
            refine lv_iconst (v := 0) hx hb dX6_cell_68 (by decide) ?_
            exact L_X6_cell_69 C0 (Nat.lt_trans (okI_lt z9) (by decide)) h _ _ _ hR (lv_sub hl [0] rfl)
          · rw [if_neg c10] at h
            refine lv_iconst (v := 4) hx hb dX6_cell_64 (by decide) ?_
            refine lv_goto (tgt := 69) hx hb dX6_cell_65 (by decide) ?_
            exact L_X6_cell_69 C0 (Nat.lt_trans (okI_lt z9) (by decide)) h _ _ _ hR (lv_sub hl [0] rfl)
        · rw [if_neg c8] at h
          refine lv_aload_n hx hb dX6_cell_42 rfl (lv_at hl 0 rfl) ?_
          refine lv_bipush (v := (-8)) hx hb dX6_cell_43 (by decide) ?_
          obtain ⟨r12, f11, ef11, h⟩ := mm_b2e h
          refine mm_callV (v := some (.int r12)) (f1 := f11) (d0 := 1) (rest := []) [.int (-8)] C0 rfl hR 0 0 (T_X6_refuse G ef11) ws_X6_refuse lk_70 hd_X6_refuse ⟨by decide, by decide⟩ vl_0 rfl rfl rfl hl.1 rfl (Nat.le_of_ble_eq_true rfl) dX6_cell_45 (fun H locs hR => ?_)
          refine W.eq (g2 := F0 m 48 ls (.int r12 :: [])) rfl ?_
          obtain ⟨rfl, rfl⟩ := mm_pr h
          exact mm_iret C0 hR dX6_cell_48
      · rw [if_neg c7] at h
        exact L_X6_cell_26 C0 h _ _ _ hR (lv_sub hl [0] rfl)
def S_X6_cold_75 (k18 : F3 → Int32 → Int32 → Option (Int32 × F3)) (f : F3) (s0 : Int32) (s1 : Int32) (x2 : Int32) : Option (Int32 × F3) := k18 f (s0 + s1) (x2 + 1)
set_option maxHeartbeats 4000000 in
set_option maxRecDepth 100000 in
theorem L_X6_cold_75 {G : mmG} {p : Program} {e : Env} {s : State} {m : MethodId} {args : Array Value} {below : List Frame} {meth : Method} {c : Code} {f' : F3} {rv : Int32} (C0 : mmC yX6_cold cX6_cold 4 (some .int) p s m args meth c) {k18 : F3 → Int32 → Int32 → Option (Int32 × F3)} (hk18 : ∀ (f : F3) (x1 : Int32) (x2 : Int32), k18 f x1 x2 = some (rv, f') → ∀ (H : Heap) (locs : List Loc) (ls : Array Slot), mm_R G mm_NT f (GG f) s H locs → lv_has ls 4 [(0, .ref (ra G 0 0)), (1, .int x1), (2, .int x2)] → W p G.1 e (mm_rm 2) s m args below meth c H locs 0 0 (MQ below (mm_Q G mm_NT (some (.int rv)) f' (GG f')) args s 0 0 (mm_A G)) (F0 m 18 ls [])) {f : F3} {s0 : Int32} {s1 : Int32} {x2 : Int32} (h : S_X6_cold_75 k18 f s0 s1 x2 = some (rv, f')) (H : Heap) (locs : List Loc) (ls : Array Slot) (hR : mm_R G mm_NT f (GG f) s H locs) (hl : lv_has ls 4 [(0, .ref (ra G 0 0)), (2, .int x2)]) : W p G.1 e (mm_rm 2) s m args below meth c H locs 0 0 (MQ below (mm_Q G mm_NT (some (.int rv)) f' (GG f')) args s 0 0 (mm_A G)) (F0 m 75 ls [.int s1, .int s0]) := by
  obtain ⟨hx, hb, hml, hr, hown, hts, hlocks⟩ := id C0
  rw [S_X6_cold_75] at h
  refine lv_iadd hx hb dX6_cold_75 ?_
  refine lv_istore_n (lv' := [(1, .int (s0 + s1)), (0, .ref (ra G 0 0)), (2, .int x2)]) hx hb dX6_cold_76 rfl hl (by decide) rfl (fun ls hl => ?_)
  refine lv_iinc (v := x2 + 1) (lv' := [(2, .int (x2 + 1)), (1, .int (s0 + s1)), (0, .ref (ra G 0 0))]) hx hb dX6_cold_77 hl (k := 2) rfl rfl (by decide) rfl (fun ls hl => ?_)
  refine lv_goto (tgt := 18) hx hb dX6_cold_80 (by decide) ?_
  exact hk18 _ (s0 + s1) (x2 + 1)  h _ _ _ hR (lv_sub hl [2, 1, 0] rfl)
def S_X6_cold_64 (k18 : F3 → Int32 → Int32 → Option (Int32 × F3)) (f : F3) (s1 : Int32) (s2 : Int32) (x1 : Int32) (x2 : Int32) (x3 : Int32) : Option (Int32 × F3) := if okI s1 48 then (mm_let (up f 14 0 s1.toNatClampNeg s2) fun f10 => if x3 = 0 then (S_X6_cold_75 k18 f10 x1 0 x2) else (S_X6_cold_75 k18 f10 x1 1 x2)) else none
set_option maxHeartbeats 4000000 in
set_option maxRecDepth 100000 in
theorem L_X6_cold_64 {G : mmG} {p : Program} {e : Env} {s : State} {m : MethodId} {args : Array Value} {below : List Frame} {meth : Method} {c : Code} {f' : F3} {rv : Int32} (C0 : mmC yX6_cold cX6_cold 4 (some .int) p s m args meth c) {k18 : F3 → Int32 → Int32 → Option (Int32 × F3)} (hk18 : ∀ (f : F3) (x1 : Int32) (x2 : Int32), k18 f x1 x2 = some (rv, f') → ∀ (H : Heap) (locs : List Loc) (ls : Array Slot), mm_R G mm_NT f (GG f) s H locs → lv_has ls 4 [(0, .ref (ra G 0 0)), (1, .int x1), (2, .int x2)] → W p G.1 e (mm_rm 2) s m args below meth c H locs 0 0 (MQ below (mm_Q G mm_NT (some (.int rv)) f' (GG f')) args s 0 0 (mm_A G)) (F0 m 18 ls [])) {f : F3} {s1 : Int32} {s2 : Int32} {x1 : Int32} {x2 : Int32} {x3 : Int32} (h : S_X6_cold_64 k18 f s1 s2 x1 x2 x3 = some (rv, f')) (H : Heap) (locs : List Loc) (ls : Array Slot) (hR : mm_R G mm_NT f (GG f) s H locs) (hl : lv_has ls 4 [(0, .ref (ra G 0 0)), (1, .int x1), (2, .int x2), (3, .int x3)]) : W p G.1 e (mm_rm 2) s m args below meth c H locs 0 0 (MQ below (mm_Q G mm_NT (some (.int rv)) f' (GG f')) args s 0 0 (mm_A G)) (F0 m 64 ls [.int s2, .int s1, .ref (ra G 14 0)]) := by
  obtain ⟨hx, hb, hml, hr, hown, hts, hlocks⟩ := id C0
  rw [S_X6_cold_64] at h
  obtain ⟨z9, h⟩ := mm_if h
  obtain ⟨f10, ef10, h⟩ := mm_lt h
  refine mm_ist hx hb hR 14 0 (by decide) vl_14 (L := 48) (j := s1) (x := s2) (fun _ => rfl) (okI_in z9) dX6_cold_64 (fun H locs hR => ?_)
  rw [← ef10] at hR
  refine lv_iload_n hx hb dX6_cold_65 rfl (lv_at hl 1 rfl) ?_
  refine lv_iload_n hx hb dX6_cold_66 rfl (lv_at hl 3 rfl) ?_
  refine lv_if_eq (tgt := 74) hx hb dX6_cold_67 (by decide) (fun c11 => ?_) (fun c11 => ?_)
  · rw [if_pos c11] at h
    refine lv_iconst (v := 0) hx hb dX6_cold_74 (by decide) ?_
    exact L_X6_cold_75 C0 hk18 h _ _ _ hR (lv_sub hl [0, 2] rfl)
  · rw [if_neg c11] at h
    refine lv_iconst (v := 1) hx hb dX6_cold_70 (by decide) ?_
    refine lv_goto (tgt := 75) hx hb dX6_cold_71 (by decide) ?_
    exact L_X6_cold_75 C0 hk18 h _ _ _ hR (lv_sub hl [0, 2] rfl)
def S_X6_cold_18 : Nat → F3 → Int32 → Int32 → Option (Int32 × F3)
  | 0, _, _, _ => none
  | n + 1, f, x1, x2 => if 48 ≤ x2 then (some (x1, f)) else (if okI x2 48 then (mm_b2 (S_X6_isWithin f (f 11 0 x2.toNatClampNeg) (-600) 300) fun r7 f6 => if r7 = 0 then (S_X6_cold_64 (fun f9 x1_ x2_ => S_X6_cold_18 n f9 x1_ x2_) f6 x2 (-9999) x1 x2 r7) else (S_X6_cold_64 (fun f9 x1_ x2_ => S_X6_cold_18 n f9 x1_ x2_) f6 x2 (f6 11 0 x2.toNatClampNeg) x1 x2 r7)) else none)
set_option maxHeartbeats 4000000 in
set_option maxRecDepth 100000 in
theorem L_X6_cold_18 {G : mmG} {p : Program} {e : Env} {s : State} {m : MethodId} {args : Array Value} {below : List Frame} {meth : Method} {c : Code} {f' : F3} {rv : Int32} (C0 : mmC yX6_cold cX6_cold 4 (some .int) p s m args meth c) : ∀ (n : Nat) {f : F3} {x1 : Int32} {x2 : Int32} , S_X6_cold_18 n f x1 x2 = some (rv, f') → ∀ (H : Heap) (locs : List Loc) (ls : Array Slot), mm_R G mm_NT f (GG f) s H locs → lv_has ls 4 [(0, .ref (ra G 0 0)), (1, .int x1), (2, .int x2)] → W p G.1 e (mm_rm 2) s m args below meth c H locs 0 0 (MQ below (mm_Q G mm_NT (some (.int rv)) f' (GG f')) args s 0 0 (mm_A G)) (F0 m 18 ls []) := by
  obtain ⟨hx, hb, hml, hr, hown, hts, hlocks⟩ := id C0
  intro n
  induction n with
  | zero =>
    intro f x1 x2  h H locs ls hR hl
    cases h
  | succ n ih =>
    intro f x1 x2  h H locs ls hR hl
    rw [S_X6_cold_18] at h
    refine lv_iload_n hx hb dX6_cold_18 rfl (lv_at hl 2 rfl) ?_
    refine lv_bipush (v := 48) hx hb dX6_cold_19 (by decide) ?_
    refine lv_icmp_ge (tgt := 83) hx hb dX6_cold_21 (by decide) (fun c4 => ?_) (fun c4 => ?_)
    · rw [if_pos c4] at h
      refine lv_iload_n hx hb dX6_cold_83 rfl (lv_at hl 1 rfl) ?_
      obtain ⟨rfl, rfl⟩ := mm_pr h
      exact mm_iret C0 hR dX6_cold_84
    · rw [if_neg c4] at h
      refine lv_aload_n hx hb dX6_cold_24 rfl (lv_at hl 0 rfl) ?_
      refine mm_get hx hb hts hown hR 0 0 7 vl_0 (v := .ref (ra G 11 0)) rfl rfl iX6 (by decide) lk_80 rfl dX6_cold_25 ?_
      refine lv_iload_n hx hb dX6_cold_28 rfl (lv_at hl 2 rfl) ?_
      obtain ⟨z5, h⟩ := mm_if h
      refine mm_ild hx hb hR 11 0 vl_11 (L := 48) rfl (okI_in z5) dX6_cold_29 ?_
      refine lv_sipush (v := (-600)) hx hb dX6_cold_30 (by decide) ?_
      refine lv_sipush (v := 300) hx hb dX6_cold_33 (by decide) ?_
      obtain ⟨r7, f6, ef6, h⟩ := mm_b2e h
      refine mm_callS (v := some (.int r7)) (f1 := f6) (d0 := 0) (rest := []) [.int (f 11 0 x2.toNatClampNeg), .int (-600), .int 300] C0 rfl hR (T_X6_isWithin G ef6) ws_X6_isWithin lk_65 hd_X6_isWithin ⟨by decide, by decide⟩ hl.1 rfl (Nat.le_of_ble_eq_true rfl) dX6_cold_36 (fun H locs hR => ?_)
      refine W.eq (g2 := F0 m 39 ls (.int r7 :: [])) rfl ?_
      refine lv_istore_n (lv' := [(3, .int r7), (0, .ref (ra G 0 0)), (1, .int x1), (2, .int x2)]) hx hb dX6_cold_39 rfl hl (by decide) rfl (fun ls hl => ?_)
      refine lv_aload_n hx hb dX6_cold_40 rfl (lv_at hl 1 rfl) ?_
      refine mm_get hx hb hts hown hR 0 0 4 vl_0 (v := .ref (ra G 6 0)) rfl rfl iX6 (by decide) lk_81 rfl dX6_cold_41 ?_
      refine mm_get hx hb hts hown hR 6 0 0 vl_6 (v := .ref (ra G 14 0)) rfl rfl iX5 (by decide) lk_82 rfl dX6_cold_44 ?_
      refine lv_iload_n hx hb dX6_cold_47 rfl (lv_at hl 3 rfl) ?_
      refine lv_iload_n hx hb dX6_cold_48 rfl (lv_at hl 0 rfl) ?_
      refine lv_if_eq (tgt := 61) hx hb dX6_cold_49 (by decide) (fun c8 => ?_) (fun c8 => ?_)
      · rw [if_pos c8] at h
        refine lv_sipush (v := (-9999)) hx hb dX6_cold_61 (by decide) ?_
        exact L_X6_cold_64 C0 (fun _ _ _ h9 H9 locs9 ls9 hR9 hl9 => ih h9 _ _ _ hR9 hl9) h _ _ _ hR (lv_sub hl [1, 2, 3, 0] rfl)
      · rw [if_neg c8] at h
        refine lv_aload_n hx hb dX6_cold_52 rfl (lv_at hl 1 rfl) ?_
        refine mm_get hx hb hts hown hR 0 0 7 vl_0 (v := .ref (ra G 11 0)) rfl rfl iX6 (by decide) lk_80 rfl dX6_cold_53 ?_
        refine lv_iload_n hx hb dX6_cold_56 rfl (lv_at hl 3 rfl) ?_
        refine mm_ild hx hb hR 11 0 vl_11 (L := 48) rfl (okI_in z5) dX6_cold_57 ?_
        refine lv_goto (tgt := 64) hx hb dX6_cold_58 (by decide) ?_
        exact L_X6_cold_64 C0 (fun _ _ _ h9 H9 locs9 ls9 hR9 hl9 => ih h9 _ _ _ hR9 hl9) h _ _ _ hR (lv_sub hl [1, 2, 3, 0] rfl)
def S_X6_cold (f : F3)  : Option (Int32 × F3) := if (f 0 0 11) = 0 then (mm_b2 (S_X6_refuse f (-2)) fun r3 f2 => some (r3, f2)) else (S_X6_cold_18 FU f 0 0)
set_option maxHeartbeats 4000000 in
set_option maxRecDepth 100000 in
theorem T_X6_cold (G : mmG) {f f' : F3} {rv : Int32} (h : S_X6_cold f = some (rv, f')) : mmM G yX6_cold cX6_cold 4 (some .int) 2 [.ref (ra G 0 0)] f (some (.int rv)) f' := by
  refine mm_start (by decide +kernel) (Nat.le_of_ble_eq_true rfl) ?_
  intro p e s m args below meth c ls C0 hR hl
  obtain ⟨hx, hb, hml, hr, hown, hts, hlocks⟩ := id C0
  have hl : lv_has ls 4 [(0, .ref (ra G 0 0))] := hl
  rw [S_X6_cold] at h
  refine lv_aload_n hx hb dX6_cold_0 rfl (lv_at hl 0 rfl) ?_
  refine mm_get hx hb hts hown hR 0 0 11 vl_0 (v := .int (f 0 0 11)) rfl rfl iX6 (by decide) lk_79 rfl dX6_cold_1 ?_
  refine lv_if_ne (tgt := 14) hx hb dX6_cold_4 (by decide) (fun c1 => ?_) (fun c1 => ?_)
  · rw [if_neg c1] at h
    refine lv_iconst (v := 0) hx hb dX6_cold_14 (by decide) ?_
    refine lv_istore_n (lv' := [(1, .int 0), (0, .ref (ra G 0 0))]) hx hb dX6_cold_15 rfl hl (by decide) rfl (fun ls hl => ?_)
    refine lv_iconst (v := 0) hx hb dX6_cold_16 (by decide) ?_
    refine lv_istore_n (lv' := [(2, .int 0), (1, .int 0), (0, .ref (ra G 0 0))]) hx hb dX6_cold_17 rfl hl (by decide) rfl (fun ls hl => ?_)
    exact L_X6_cold_18 C0 _ h _ _ _ hR (lv_sub hl [2, 1, 0] rfl)
  · rw [if_pos c1] at h
    refine lv_aload_n hx hb dX6_cold_7 rfl (lv_at hl 0 rfl) ?_
    refine lv_bipush (v := (-2)) hx hb dX6_cold_8 (by decide) ?_
    obtain ⟨r3, f2, ef2, h⟩ := mm_b2e h
    refine mm_callV (v := some (.int r3)) (f1 := f2) (d0 := 1) (rest := []) [.int (-2)] C0 rfl hR 0 0 (T_X6_refuse G ef2) ws_X6_refuse lk_70 hd_X6_refuse ⟨by decide, by decide⟩ vl_0 rfl rfl rfl hl.1 rfl (Nat.le_of_ble_eq_true rfl) dX6_cold_10 (fun H locs hR => ?_)
    refine W.eq (g2 := F0 m 13 ls (.int r3 :: [])) rfl ?_
    obtain ⟨rfl, rfl⟩ := mm_pr h
    exact mm_iret C0 hR dX6_cold_13
def S_X6_isBarred_77 (k23 : F3 → Nat → Int32 → Int32 → Int32 → Option (Int32 × F3)) (f : F3) (i1 : Nat) (x2 : Int32) (x3 : Int32) (x4 : Int32) : Option (Int32 × F3) := k23 f i1 x2 x3 (x4 + 1)
set_option maxHeartbeats 4000000 in
set_option maxRecDepth 100000 in
theorem L_X6_isBarred_77 {G : mmG} {p : Program} {e : Env} {s : State} {m : MethodId} {args : Array Value} {below : List Frame} {meth : Method} {c : Code} {f' : F3} {rv : Int32} (C0 : mmC yX6_isBarred cX6_isBarred 6 (some .boolean) p s m args meth c) {k23 : F3 → Nat → Int32 → Int32 → Int32 → Option (Int32 × F3)} (hk23 : ∀ (f : F3) (i1 : Nat) (x2 : Int32) (x3 : Int32) (x4 : Int32), i1 < mm_cnt 2 → k23 f i1 x2 x3 x4 = some (rv, f') → ∀ (H : Heap) (locs : List Loc) (ls : Array Slot), mm_R G mm_NT f (GG f) s H locs → lv_has ls 6 [(0, .ref (ra G 0 0)), (1, .ref (ra G 2 i1)), (2, .int x2), (3, .int x3), (4, .int x4)] → W p G.1 e (mm_rm 0) s m args below meth c H locs 0 0 (MQ below (mm_Q G mm_NT (some (.int rv)) f' (GG f')) args s 0 0 (mm_A G)) (F0 m 23 ls [])) {f : F3} {i1 : Nat} {x2 : Int32} {x3 : Int32} {x4 : Int32} (hi1 : i1 < mm_cnt 2) (h : S_X6_isBarred_77 k23 f i1 x2 x3 x4 = some (rv, f')) (H : Heap) (locs : List Loc) (ls : Array Slot) (hR : mm_R G mm_NT f (GG f) s H locs) (hl : lv_has ls 6 [(0, .ref (ra G 0 0)), (1, .ref (ra G 2 i1)), (2, .int x2), (3, .int x3), (4, .int x4)]) : W p G.1 e (mm_rm 0) s m args below meth c H locs 0 0 (MQ below (mm_Q G mm_NT (some (.int rv)) f' (GG f')) args s 0 0 (mm_A G)) (F0 m 77 ls []) := by
  obtain ⟨hx, hb, hml, hr, hown, hts, hlocks⟩ := id C0
  rw [S_X6_isBarred_77] at h
  refine lv_iinc (v := x4 + 1) (lv' := [(4, .int (x4 + 1)), (0, .ref (ra G 0 0)), (1, .ref (ra G 2 i1)), (2, .int x2), (3, .int x3)]) hx hb dX6_isBarred_77 hl (k := 4) rfl rfl (by decide) rfl (fun ls hl => ?_)
  refine lv_goto (tgt := 23) hx hb dX6_isBarred_80 (by decide) ?_
  exact hk23 _ i1 x2 x3 (x4 + 1) hi1 h _ _ _ hR (lv_sub hl [1, 2, 3, 4, 0] rfl)
def S_X6_isBarred_23 : Nat → F3 → Nat → Int32 → Int32 → Int32 → Option (Int32 × F3)
  | 0, _, _, _, _, _ => none
  | n + 1, f, i1, x2, x3, x4 => if (f 0 0 13) ≤ x4 then (some (0, f)) else (if okI x4 24 then (if (f 2 x4.toNatClampNeg 3) = 1 then (if (f 2 x4.toNatClampNeg 4) = x2 then (if x3 = 0 then (if (f 2 x4.toNatClampNeg 2) = (f 2 i1 2) then (some (1, f)) else (S_X6_isBarred_77 (fun f9 i1_ x2_ x3_ x4_ => S_X6_isBarred_23 n f9 i1_ x2_ x3_ x4_) f i1 x2 x3 x4)) else (some (1, f))) else (S_X6_isBarred_77 (fun f9 i1_ x2_ x3_ x4_ => S_X6_isBarred_23 n f9 i1_ x2_ x3_ x4_) f i1 x2 x3 x4)) else (S_X6_isBarred_77 (fun f9 i1_ x2_ x3_ x4_ => S_X6_isBarred_23 n f9 i1_ x2_ x3_ x4_) f i1 x2 x3 x4)) else none)
set_option maxHeartbeats 4000000 in
set_option maxRecDepth 100000 in
theorem L_X6_isBarred_23 {G : mmG} {p : Program} {e : Env} {s : State} {m : MethodId} {args : Array Value} {below : List Frame} {meth : Method} {c : Code} {f' : F3} {rv : Int32} (C0 : mmC yX6_isBarred cX6_isBarred 6 (some .boolean) p s m args meth c) : ∀ (n : Nat) {f : F3} {i1 : Nat} {x2 : Int32} {x3 : Int32} {x4 : Int32} (hi1 : i1 < mm_cnt 2), S_X6_isBarred_23 n f i1 x2 x3 x4 = some (rv, f') → ∀ (H : Heap) (locs : List Loc) (ls : Array Slot), mm_R G mm_NT f (GG f) s H locs → lv_has ls 6 [(0, .ref (ra G 0 0)), (1, .ref (ra G 2 i1)), (2, .int x2), (3, .int x3), (4, .int x4)] → W p G.1 e (mm_rm 0) s m args below meth c H locs 0 0 (MQ below (mm_Q G mm_NT (some (.int rv)) f' (GG f')) args s 0 0 (mm_A G)) (F0 m 23 ls []) := by
  obtain ⟨hx, hb, hml, hr, hown, hts, hlocks⟩ := id C0
  intro n
  induction n with
  | zero =>
    intro f i1 x2 x3 x4 hi1 h H locs ls hR hl
    cases h
  | succ n ih =>
    intro f i1 x2 x3 x4 hi1 h H locs ls hR hl
    rw [S_X6_isBarred_23] at h
    refine lv_iload hx hb dX6_isBarred_23 (lv_at hl 4 rfl) ?_
    refine lv_aload_n hx hb dX6_isBarred_25 rfl (lv_at hl 0 rfl) ?_
    refine mm_get hx hb hts hown hR 0 0 13 vl_0 (v := .int (f 0 0 13)) rfl rfl iX6 (by decide) lk_60 rfl dX6_isBarred_26 ?_
    refine lv_icmp_ge (tgt := 83) hx hb dX6_isBarred_29 (by decide) (fun c3 => ?_) (fun c3 => ?_)
    · rw [if_pos c3] at h
      refine lv_iconst (v := 0) hx hb dX6_isBarred_83 (by decide) ?_
      obtain ⟨rfl, rfl⟩ := mm_pr h
      exact mm_zret C0 rfl hR dX6_isBarred_84
    · rw [if_neg c3] at h
      refine lv_aload_n hx hb dX6_isBarred_32 rfl (lv_at hl 0 rfl) ?_
      refine mm_get hx hb hts hown hR 0 0 1 vl_0 (v := .ref (ra G 8 0)) rfl rfl iX6 (by decide) lk_61 rfl dX6_isBarred_33 ?_
      refine lv_iload hx hb dX6_isBarred_36 (lv_at hl 4 rfl) ?_
      obtain ⟨z4, h⟩ := mm_if h
      refine mm_ald hx hb hR 8 0 3 vl_8 (L := 24) (C := "IceRoad$Load") (r2 := 2) (i2 := x4.toNatClampNeg) rfl rfl (okI_in z4) rfl (by decide) dX6_isBarred_38 ?_
      refine lv_astore (lv' := [(5, .ref (ra G 2 x4.toNatClampNeg)), (0, .ref (ra G 0 0)), (1, .ref (ra G 2 i1)), (2, .int x2), (3, .int x3), (4, .int x4)]) hx hb dX6_isBarred_39 hl (by decide) rfl (fun ls hl => ?_)
      refine lv_aload hx hb dX6_isBarred_41 (lv_at hl 0 rfl) ?_
      refine mm_get hx hb hts hown hR 2 x4.toNatClampNeg 3 (mm_vld 2 (by decide) x4.toNatClampNeg (okI_lt z4)) (v := .int (f 2 x4.toNatClampNeg 3)) rfl rfl iX1 (by decide) lk_62 rfl dX6_isBarred_43 ?_
      refine lv_iconst (v := 1) hx hb dX6_isBarred_46 (by decide) ?_
      refine lv_icmp_ne (tgt := 77) hx hb dX6_isBarred_47 (by decide) (fun c5 => ?_) (fun c5 => ?_)
      · rw [if_neg c5] at h
        exact L_X6_isBarred_77 C0 (fun _ _ _ _ _ hi1_ h9 H9 locs9 ls9 hR9 hl9 => ih hi1_ h9 _ _ _ hR9 hl9) hi1 h _ _ _ hR (lv_sub hl [1, 2, 3, 4, 5] rfl)
      · rw [if_pos c5] at h
        refine lv_aload hx hb dX6_isBarred_50 (lv_at hl 0 rfl) ?_
        refine mm_get hx hb hts hown hR 2 x4.toNatClampNeg 4 (mm_vld 2 (by decide) x4.toNatClampNeg (okI_lt z4)) (v := .int (f 2 x4.toNatClampNeg 4)) rfl rfl iX1 (by decide) lk_71 rfl dX6_isBarred_52 ?_
        refine lv_iload_n hx hb dX6_isBarred_55 rfl (lv_at hl 3 rfl) ?_
        refine lv_icmp_ne (tgt := 77) hx hb dX6_isBarred_56 (by decide) (fun c6 => ?_) (fun c6 => ?_)
        · rw [if_neg c6] at h
          exact L_X6_isBarred_77 C0 (fun _ _ _ _ _ hi1_ h9 H9 locs9 ls9 hR9 hl9 => ih hi1_ h9 _ _ _ hR9 hl9) hi1 h _ _ _ hR (lv_sub hl [1, 2, 3, 4, 5] rfl)
        · rw [if_pos c6] at h
          refine lv_iload_n hx hb dX6_isBarred_59 rfl (lv_at hl 4 rfl) ?_
          refine lv_if_ne (tgt := 75) hx hb dX6_isBarred_60 (by decide) (fun c7 => ?_) (fun c7 => ?_)
          · rw [if_neg c7] at h
            refine lv_iconst (v := 1) hx hb dX6_isBarred_75 (by decide) ?_
            obtain ⟨rfl, rfl⟩ := mm_pr h
            exact mm_zret C0 rfl hR dX6_isBarred_76
          · rw [if_pos c7] at h
            refine lv_aload hx hb dX6_isBarred_63 (lv_at hl 0 rfl) ?_
            refine mm_get hx hb hts hown hR 2 x4.toNatClampNeg 2 (mm_vld 2 (by decide) x4.toNatClampNeg (okI_lt z4)) (v := .int (f 2 x4.toNatClampNeg 2)) rfl rfl iX1 (by decide) lk_84 rfl dX6_isBarred_65 ?_
            refine lv_aload_n hx hb dX6_isBarred_68 rfl (lv_at hl 2 rfl) ?_
            refine mm_get hx hb hts hown hR 2 i1 2 (mm_vld 2 (by decide) i1 hi1) (v := .int (f 2 i1 2)) rfl rfl iX1 (by decide) lk_84 rfl dX6_isBarred_69 ?_
            refine lv_icmp_ne (tgt := 77) hx hb dX6_isBarred_72 (by decide) (fun c8 => ?_) (fun c8 => ?_)
            · rw [if_neg c8] at h
              exact L_X6_isBarred_77 C0 (fun _ _ _ _ _ hi1_ h9 H9 locs9 ls9 hR9 hl9 => ih hi1_ h9 _ _ _ hR9 hl9) hi1 h _ _ _ hR (lv_sub hl [1, 2, 3, 4, 5] rfl)
            · rw [if_pos c8] at h
              refine lv_iconst (v := 1) hx hb dX6_isBarred_75 (by decide) ?_
              obtain ⟨rfl, rfl⟩ := mm_pr h
              exact mm_zret C0 rfl hR dX6_isBarred_76
def S_X6_isBarred_19 (f : F3) (s0 : Int32) (i1 : Nat) (x2 : Int32) : Option (Int32 × F3) := S_X6_isBarred_23 FU f i1 x2 s0 0
set_option maxHeartbeats 4000000 in
set_option maxRecDepth 100000 in
theorem L_X6_isBarred_19 {G : mmG} {p : Program} {e : Env} {s : State} {m : MethodId} {args : Array Value} {below : List Frame} {meth : Method} {c : Code} {f' : F3} {rv : Int32} (C0 : mmC yX6_isBarred cX6_isBarred 6 (some .boolean) p s m args meth c) {f : F3} {s0 : Int32} {i1 : Nat} {x2 : Int32} (hi1 : i1 < mm_cnt 2) (h : S_X6_isBarred_19 f s0 i1 x2 = some (rv, f')) (H : Heap) (locs : List Loc) (ls : Array Slot) (hR : mm_R G mm_NT f (GG f) s H locs) (hl : lv_has ls 6 [(0, .ref (ra G 0 0)), (1, .ref (ra G 2 i1)), (2, .int x2)]) : W p G.1 e (mm_rm 0) s m args below meth c H locs 0 0 (MQ below (mm_Q G mm_NT (some (.int rv)) f' (GG f')) args s 0 0 (mm_A G)) (F0 m 19 ls [.int s0]) := by
  obtain ⟨hx, hb, hml, hr, hown, hts, hlocks⟩ := id C0
  rw [S_X6_isBarred_19] at h
  refine lv_istore_n (lv' := [(3, .int s0), (0, .ref (ra G 0 0)), (1, .ref (ra G 2 i1)), (2, .int x2)]) hx hb dX6_isBarred_19 rfl hl (by decide) rfl (fun ls hl => ?_)
  refine lv_iconst (v := 0) hx hb dX6_isBarred_20 (by decide) ?_
  refine lv_istore (lv' := [(4, .int 0), (3, .int s0), (0, .ref (ra G 0 0)), (1, .ref (ra G 2 i1)), (2, .int x2)]) hx hb dX6_isBarred_21 hl (by decide) rfl (fun ls hl => ?_)
  exact L_X6_isBarred_23 C0 _ hi1 h _ _ _ hR (lv_sub hl [2, 3, 4, 1, 0] rfl)
def S_X6_isBarred (f : F3) (i1 : Nat) (x2 : Int32) : Option (Int32 × F3) := if okI x2 10 then (if 10 ≤ (f 1 x2.toNatClampNeg 3) then (S_X6_isBarred_19 f 0 i1 x2) else (S_X6_isBarred_19 f 1 i1 x2)) else none
set_option maxHeartbeats 4000000 in
set_option maxRecDepth 100000 in
theorem T_X6_isBarred (G : mmG) {f f' : F3} {rv : Int32} {i1 : Nat} {x2 : Int32} (hi1 : i1 < mm_cnt 2) (h : S_X6_isBarred f i1 x2 = some (rv, f')) : mmM G yX6_isBarred cX6_isBarred 6 (some .boolean) 0 [.ref (ra G 0 0), .ref (ra G 2 i1), .int x2] f (some (.int rv)) f' := by
  refine mm_start (by decide +kernel) (Nat.le_of_ble_eq_true rfl) ?_
  intro p e s m args below meth c ls C0 hR hl
  obtain ⟨hx, hb, hml, hr, hown, hts, hlocks⟩ := id C0
  have hl : lv_has ls 6 [(0, .ref (ra G 0 0)), (1, .ref (ra G 2 i1)), (2, .int x2)] := hl
  rw [S_X6_isBarred] at h
  refine lv_aload_n hx hb dX6_isBarred_0 rfl (lv_at hl 0 rfl) ?_
  refine mm_get hx hb hts hown hR 0 0 0 vl_0 (v := .ref (ra G 7 0)) rfl rfl iX6 (by decide) lk_68 rfl dX6_isBarred_1 ?_
  refine lv_iload_n hx hb dX6_isBarred_4 rfl (lv_at hl 2 rfl) ?_
  obtain ⟨z1, h⟩ := mm_if h
  refine mm_ald hx hb hR 7 0 2 vl_7 (L := 10) (C := "IceRoad$Cell") (r2 := 1) (i2 := x2.toNatClampNeg) rfl rfl (okI_in z1) rfl (by decide) dX6_isBarred_5 ?_
  refine mm_get hx hb hts hown hR 1 x2.toNatClampNeg 3 (mm_vld 1 (by decide) x2.toNatClampNeg (Nat.lt_trans (okI_lt z1) (by decide))) (v := .int (f 1 x2.toNatClampNeg 3)) rfl rfl iX0 (by decide) lk_83 rfl dX6_isBarred_6 ?_
  refine lv_bipush (v := 10) hx hb dX6_isBarred_9 (by decide) ?_
  refine lv_icmp_ge (tgt := 18) hx hb dX6_isBarred_11 (by decide) (fun c2 => ?_) (fun c2 => ?_)
  · rw [if_pos c2] at h
    refine lv_iconst (v := 0) hx hb dX6_isBarred_18 (by decide) ?_
    exact L_X6_isBarred_19 C0 hi1 h _ _ _ hR (lv_sub hl [0, 1, 2] rfl)
  · rw [if_neg c2] at h
    refine lv_iconst (v := 1) hx hb dX6_isBarred_14 (by decide) ?_
    refine lv_goto (tgt := 19) hx hb dX6_isBarred_15 (by decide) ?_
    exact L_X6_isBarred_19 C0 hi1 h _ _ _ hR (lv_sub hl [0, 1, 2] rfl)
