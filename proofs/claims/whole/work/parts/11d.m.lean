def S_X7_may_16 (f : F3)  : Option (Int32 × F3) := mm_b2 (S_X7_refuse f (-3)) fun r11 f10 => some (r11, f10)
set_option maxHeartbeats 4000000 in
set_option maxRecDepth 100000 in
theorem L_X7_may_16 {G : mmG} {p : Program} {e : Env} {s : State} {m : MethodId} {args : Array Value} {below : List Frame} {meth : Method} {c : Code} {f' : F3} {rv : Int32} (C0 : mmC yX7_may cX7_may 3 (some .int) p s m args meth c) {f : F3} (h : S_X7_may_16 f = some (rv, f')) (H : Heap) (locs : List Loc) (ls : Array Slot) (hR : mm_R G mm_NT f (GG f) s H locs) (hl : lv_has ls 3 [(0, .ref (ra G 20 0))]) : W p G.1 e (mm_rm 5) s m args below meth c H locs 0 0 (MQ below (mm_Q G mm_NT (some (.int rv)) f' (GG f')) args s 0 0 (mm_A G)) (F0 m 16 ls []) := by
  obtain ⟨hx, hb, hml, hr, hown, hts, hlocks⟩ := id C0
  rw [S_X7_may_16] at h
  refine lv_aload_n hx hb dX7_may_16 rfl (lv_at hl 0 rfl) ?_
  refine lv_bipush (v := (-3)) hx hb dX7_may_17 (by decide) ?_
  obtain ⟨r11, f10, ef10, h⟩ := mm_b2e h
  refine mm_callV (v := some (.int r11)) (f1 := f10) (d0 := 0) (rest := []) [.int (-3)] C0 rfl hR 20 0 (T_X7_refuse G ef10) ws_X7_refuse lk_147 hd_X7_refuse ⟨by decide, by decide⟩ vl_20 rfl rfl rfl hl.1 rfl (Nat.le_of_ble_eq_true rfl) dX7_may_19 (fun H locs hR => ?_)
  refine W.eq (g2 := F0 m 22 ls (.int r11 :: [])) rfl ?_
  obtain ⟨rfl, rfl⟩ := mm_pr h
  exact mm_iret C0 hR dX7_may_22
def S_X7_may (f : F3) (x1 : Int32) (x2 : Int32) : Option (Int32 × F3) := mm_b2 (S_X7_isLoad f x1) fun r2 f1 => if r2 = 0 then (S_X7_may_16 f1 ) else (mm_b2 (S_X7_isCell f1 x2) fun r5 f4 => if r5 = 0 then (S_X7_may_16 f4 ) else (mm_b2 (S_X7_whyNot f4 x1 x2) fun r8 f7 => if r8 = 0 then (some (1, f7)) else (some (0, f7))))
set_option maxHeartbeats 4000000 in
set_option maxRecDepth 100000 in
theorem T_X7_may (G : mmG) {f f' : F3} {rv : Int32} {x1 : Int32} {x2 : Int32} (h : S_X7_may f x1 x2 = some (rv, f')) : mmM G yX7_may cX7_may 3 (some .int) 5 [.ref (ra G 20 0), .int x1, .int x2] f (some (.int rv)) f' := by
  refine mm_start (by decide +kernel) (Nat.le_of_ble_eq_true rfl) ?_
  intro p e s m args below meth c ls C0 hR hl
  obtain ⟨hx, hb, hml, hr, hown, hts, hlocks⟩ := id C0
  have hl : lv_has ls 3 [(0, .ref (ra G 20 0)), (1, .int x1), (2, .int x2)] := hl
  rw [S_X7_may] at h
  refine lv_aload_n hx hb dX7_may_0 rfl (lv_at hl 0 rfl) ?_
  refine lv_iload_n hx hb dX7_may_1 rfl (lv_at hl 1 rfl) ?_
  obtain ⟨r2, f1, ef1, h⟩ := mm_b2e h
  refine mm_callV (v := some (.int r2)) (f1 := f1) (d0 := 1) (rest := []) [.int x1] C0 rfl hR 20 0 (T_X7_isLoad G ef1) ws_X7_isLoad lk_198 hd_X7_isLoad ⟨by decide, by decide⟩ vl_20 rfl rfl rfl hl.1 rfl (Nat.le_of_ble_eq_true rfl) dX7_may_2 (fun H locs hR => ?_)
  refine W.eq (g2 := F0 m 5 ls (.int r2 :: [])) rfl ?_
  refine lv_if_eq (tgt := 16) hx hb dX7_may_5 (by decide) (fun c3 => ?_) (fun c3 => ?_)
  · rw [if_pos c3] at h
    exact L_X7_may_16 C0 h _ _ _ hR (lv_sub hl [0] rfl)
  · rw [if_neg c3] at h
    refine lv_aload_n hx hb dX7_may_8 rfl (lv_at hl 0 rfl) ?_
    refine lv_iload_n hx hb dX7_may_9 rfl (lv_at hl 2 rfl) ?_
    obtain ⟨r5, f4, ef4, h⟩ := mm_b2e h
    refine mm_callV (v := some (.int r5)) (f1 := f4) (d0 := 1) (rest := []) [.int x2] C0 rfl hR 20 0 (T_X7_isCell G ef4) ws_X7_isCell lk_146 hd_X7_isCell ⟨by decide, by decide⟩ vl_20 rfl rfl rfl hl.1 rfl (Nat.le_of_ble_eq_true rfl) dX7_may_10 (fun H locs hR => ?_)
    refine W.eq (g2 := F0 m 13 ls (.int r5 :: [])) rfl ?_
    refine lv_if_ne (tgt := 23) hx hb dX7_may_13 (by decide) (fun c6 => ?_) (fun c6 => ?_)
    · rw [if_neg c6] at h
      refine lv_aload_n hx hb dX7_may_23 rfl (lv_at hl 0 rfl) ?_
      refine lv_iload_n hx hb dX7_may_24 rfl (lv_at hl 1 rfl) ?_
      refine lv_iload_n hx hb dX7_may_25 rfl (lv_at hl 2 rfl) ?_
      obtain ⟨r8, f7, ef7, h⟩ := mm_b2e h
      refine mm_callV (v := some (.int r8)) (f1 := f7) (d0 := 4) (rest := []) [.int x1, .int x2] C0 rfl hR 20 0 (T_X7_whyNot G ef7) ws_X7_whyNot lk_170 hd_X7_whyNot ⟨by decide, by decide⟩ vl_20 rfl rfl rfl hl.1 rfl (Nat.le_of_ble_eq_true rfl) dX7_may_26 (fun H locs hR => ?_)
      refine W.eq (g2 := F0 m 29 ls (.int r8 :: [])) rfl ?_
      refine lv_if_ne (tgt := 36) hx hb dX7_may_29 (by decide) (fun c9 => ?_) (fun c9 => ?_)
      · rw [if_neg c9] at h
        refine lv_iconst (v := 0) hx hb dX7_may_36 (by decide) ?_
        obtain ⟨rfl, rfl⟩ := mm_pr h
        exact mm_iret C0 hR dX7_may_37
      · rw [if_pos c9] at h
        refine lv_iconst (v := 1) hx hb dX7_may_32 (by decide) ?_
        refine lv_goto (tgt := 37) hx hb dX7_may_33 (by decide) ?_
        obtain ⟨rfl, rfl⟩ := mm_pr h
        exact mm_iret C0 hR dX7_may_37
    · rw [if_pos c6] at h
      exact L_X7_may_16 C0 h _ _ _ hR (lv_sub hl [0] rfl)
def S_X7_of (f : F3) (x1 : Int32) (x2 : Int32) : Option (Int32 × F3) := mm_b2 (S_X7_isLoad f x1) fun r2 f1 => if r2 = 0 then (mm_b2 (S_X7_refuse f1 (-3)) fun r24 f23 => some (r24, f23)) else (if x2 = 0 then (if okI x1 24 then (some (f1 40 0 x1.toNatClampNeg, f1)) else none) else if x2 = 1 then (if okI x1 24 then (some (f1 41 0 x1.toNatClampNeg, f1)) else none) else if x2 = 2 then (if okI x1 24 then (some (f1 42 0 x1.toNatClampNeg, f1)) else none) else if x2 = 3 then (if okI x1 24 then (some (f1 43 0 x1.toNatClampNeg, f1)) else none) else if x2 = 4 then (if okI x1 24 then (if (f1 43 0 x1.toNatClampNeg) = 1 then (some (f1 44 0 x1.toNatClampNeg, f1)) else (some ((-1), f1))) else none) else if x2 = 5 then (if okI x1 24 then (if (f1 43 0 x1.toNatClampNeg) = 1 then (some (f1 45 0 x1.toNatClampNeg, f1)) else (some ((-1), f1))) else none) else if x2 = 6 then (if okI x1 24 then (some (f1 46 0 x1.toNatClampNeg, f1)) else none) else (mm_b2 (S_X7_refuse f1 (-7)) fun r22 f21 => some (r22, f21)))
set_option maxHeartbeats 4000000 in
set_option maxRecDepth 100000 in
theorem T_X7_of (G : mmG) {f f' : F3} {rv : Int32} {x1 : Int32} {x2 : Int32} (h : S_X7_of f x1 x2 = some (rv, f')) : mmM G yX7_of cX7_of 3 (some .int) 2 [.ref (ra G 20 0), .int x1, .int x2] f (some (.int rv)) f' := by
  refine mm_start (by decide +kernel) (Nat.le_of_ble_eq_true rfl) ?_
  intro p e s m args below meth c ls C0 hR hl
  obtain ⟨hx, hb, hml, hr, hown, hts, hlocks⟩ := id C0
  have hl : lv_has ls 3 [(0, .ref (ra G 20 0)), (1, .int x1), (2, .int x2)] := hl
  rw [S_X7_of] at h
  refine lv_aload_n hx hb dX7_of_0 rfl (lv_at hl 0 rfl) ?_
  refine lv_iload_n hx hb dX7_of_1 rfl (lv_at hl 1 rfl) ?_
  obtain ⟨r2, f1, ef1, h⟩ := mm_b2e h
  refine mm_callV (v := some (.int r2)) (f1 := f1) (d0 := 1) (rest := []) [.int x1] C0 rfl hR 20 0 (T_X7_isLoad G ef1) ws_X7_isLoad lk_198 hd_X7_isLoad ⟨by decide, by decide⟩ vl_20 rfl rfl rfl hl.1 rfl (Nat.le_of_ble_eq_true rfl) dX7_of_2 (fun H locs hR => ?_)
  refine W.eq (g2 := F0 m 5 ls (.int r2 :: [])) rfl ?_
  refine lv_if_ne (tgt := 15) hx hb dX7_of_5 (by decide) (fun c3 => ?_) (fun c3 => ?_)
  · rw [if_neg c3] at h
    refine lv_iload_n hx hb dX7_of_15 rfl (lv_at hl 2 rfl) ?_
    refine lv_topi (fun w4 ew4 => ?_)
    by_cases c5 : w4 = 0
    · rw [if_pos (ew4.symm.trans c5)] at h
      rw [c5]
      refine lv_tableIn (off := 44) (tgt := 60) hx hb dX7_of_16 (by decide) (by decide) (by decide +kernel) (by decide) ?_
      refine lv_aload_n hx hb dX7_of_60 rfl (lv_at hl 0 rfl) ?_
      refine mm_get hx hb hts hown hR 20 0 14 vl_20 (v := .ref (ra G 40 0)) rfl rfl iX7 (by decide) lk_160 rfl dX7_of_61 ?_
      refine lv_iload_n hx hb dX7_of_64 rfl (lv_at hl 1 rfl) ?_
      obtain ⟨z6, h⟩ := mm_if h
      refine mm_ild hx hb hR 40 0 vl_40 (L := 24) rfl (okI_in z6) dX7_of_65 ?_
      obtain ⟨rfl, rfl⟩ := mm_pr h
      exact mm_iret C0 hR dX7_of_66
    rw [if_neg (fun q => c5 (ew4.trans q))] at h
    by_cases c7 : w4 = 1
    · rw [if_pos (ew4.symm.trans c7)] at h
      rw [c7]
      refine lv_tableIn (off := 51) (tgt := 67) hx hb dX7_of_16 (by decide) (by decide) (by decide +kernel) (by decide) ?_
      refine lv_aload_n hx hb dX7_of_67 rfl (lv_at hl 0 rfl) ?_
      refine mm_get hx hb hts hown hR 20 0 15 vl_20 (v := .ref (ra G 41 0)) rfl rfl iX7 (by decide) lk_159 rfl dX7_of_68 ?_
      refine lv_iload_n hx hb dX7_of_71 rfl (lv_at hl 1 rfl) ?_
      obtain ⟨z8, h⟩ := mm_if h
      refine mm_ild hx hb hR 41 0 vl_41 (L := 24) rfl (okI_in z8) dX7_of_72 ?_
      obtain ⟨rfl, rfl⟩ := mm_pr h
      exact mm_iret C0 hR dX7_of_73
    rw [if_neg (fun q => c7 (ew4.trans q))] at h
    by_cases c9 : w4 = 2
    · rw [if_pos (ew4.symm.trans c9)] at h
      rw [c9]
      refine lv_tableIn (off := 58) (tgt := 74) hx hb dX7_of_16 (by decide) (by decide) (by decide +kernel) (by decide) ?_
      refine lv_aload_n hx hb dX7_of_74 rfl (lv_at hl 0 rfl) ?_
      refine mm_get hx hb hts hown hR 20 0 16 vl_20 (v := .ref (ra G 42 0)) rfl rfl iX7 (by decide) lk_169 rfl dX7_of_75 ?_
      refine lv_iload_n hx hb dX7_of_78 rfl (lv_at hl 1 rfl) ?_
      obtain ⟨z10, h⟩ := mm_if h
      refine mm_ild hx hb hR 42 0 vl_42 (L := 24) rfl (okI_in z10) dX7_of_79 ?_
      obtain ⟨rfl, rfl⟩ := mm_pr h
      exact mm_iret C0 hR dX7_of_80
    rw [if_neg (fun q => c9 (ew4.trans q))] at h
    by_cases c11 : w4 = 3
    · rw [if_pos (ew4.symm.trans c11)] at h
      rw [c11]
      refine lv_tableIn (off := 65) (tgt := 81) hx hb dX7_of_16 (by decide) (by decide) (by decide +kernel) (by decide) ?_
      refine lv_aload_n hx hb dX7_of_81 rfl (lv_at hl 0 rfl) ?_
      refine mm_get hx hb hts hown hR 20 0 17 vl_20 (v := .ref (ra G 43 0)) rfl rfl iX7 (by decide) lk_150 rfl dX7_of_82 ?_
      refine lv_iload_n hx hb dX7_of_85 rfl (lv_at hl 1 rfl) ?_
      obtain ⟨z12, h⟩ := mm_if h
      refine mm_ild hx hb hR 43 0 vl_43 (L := 24) rfl (okI_in z12) dX7_of_86 ?_
      obtain ⟨rfl, rfl⟩ := mm_pr h
      exact mm_iret C0 hR dX7_of_87
    rw [if_neg (fun q => c11 (ew4.trans q))] at h
    by_cases c13 : w4 = 4
    · rw [if_pos (ew4.symm.trans c13)] at h
      rw [c13]
      refine lv_tableIn (off := 72) (tgt := 88) hx hb dX7_of_16 (by decide) (by decide) (by decide +kernel) (by decide) ?_
      refine lv_aload_n hx hb dX7_of_88 rfl (lv_at hl 0 rfl) ?_
      refine mm_get hx hb hts hown hR 20 0 17 vl_20 (v := .ref (ra G 43 0)) rfl rfl iX7 (by decide) lk_150 rfl dX7_of_89 ?_
      refine lv_iload_n hx hb dX7_of_92 rfl (lv_at hl 1 rfl) ?_
      obtain ⟨z14, h⟩ := mm_if h
      refine mm_ild hx hb hR 43 0 vl_43 (L := 24) rfl (okI_in z14) dX7_of_93 ?_
      refine lv_iconst (v := 1) hx hb dX7_of_94 (by decide) ?_
      refine lv_icmp_ne (tgt := 107) hx hb dX7_of_95 (by decide) (fun c15 => ?_) (fun c15 => ?_)
      · rw [if_neg c15] at h
        refine lv_iconst (v := (-1)) hx hb dX7_of_107 (by decide) ?_
        obtain ⟨rfl, rfl⟩ := mm_pr h
        exact mm_iret C0 hR dX7_of_108
      · rw [if_pos c15] at h
        refine lv_aload_n hx hb dX7_of_98 rfl (lv_at hl 0 rfl) ?_
        refine mm_get hx hb hts hown hR 20 0 18 vl_20 (v := .ref (ra G 44 0)) rfl rfl iX7 (by decide) lk_151 rfl dX7_of_99 ?_
        refine lv_iload_n hx hb dX7_of_102 rfl (lv_at hl 1 rfl) ?_
        refine mm_ild hx hb hR 44 0 vl_44 (L := 24) rfl (okI_in z14) dX7_of_103 ?_
        refine lv_goto (tgt := 108) hx hb dX7_of_104 (by decide) ?_
        obtain ⟨rfl, rfl⟩ := mm_pr h
        exact mm_iret C0 hR dX7_of_108
    rw [if_neg (fun q => c13 (ew4.trans q))] at h
    by_cases c16 : w4 = 5
    · rw [if_pos (ew4.symm.trans c16)] at h
      rw [c16]
      refine lv_tableIn (off := 93) (tgt := 109) hx hb dX7_of_16 (by decide) (by decide) (by decide +kernel) (by decide) ?_
      refine lv_aload_n hx hb dX7_of_109 rfl (lv_at hl 0 rfl) ?_
      refine mm_get hx hb hts hown hR 20 0 17 vl_20 (v := .ref (ra G 43 0)) rfl rfl iX7 (by decide) lk_150 rfl dX7_of_110 ?_
      refine lv_iload_n hx hb dX7_of_113 rfl (lv_at hl 1 rfl) ?_
      obtain ⟨z17, h⟩ := mm_if h
      refine mm_ild hx hb hR 43 0 vl_43 (L := 24) rfl (okI_in z17) dX7_of_114 ?_
      refine lv_iconst (v := 1) hx hb dX7_of_115 (by decide) ?_
      refine lv_icmp_ne (tgt := 128) hx hb dX7_of_116 (by decide) (fun c18 => ?_) (fun c18 => ?_)
      · rw [if_neg c18] at h
        refine lv_iconst (v := (-1)) hx hb dX7_of_128 (by decide) ?_
        obtain ⟨rfl, rfl⟩ := mm_pr h
        exact mm_iret C0 hR dX7_of_129
      · rw [if_pos c18] at h
        refine lv_aload_n hx hb dX7_of_119 rfl (lv_at hl 0 rfl) ?_
        refine mm_get hx hb hts hown hR 20 0 19 vl_20 (v := .ref (ra G 45 0)) rfl rfl iX7 (by decide) lk_176 rfl dX7_of_120 ?_
        refine lv_iload_n hx hb dX7_of_123 rfl (lv_at hl 1 rfl) ?_
        refine mm_ild hx hb hR 45 0 vl_45 (L := 24) rfl (okI_in z17) dX7_of_124 ?_
        refine lv_goto (tgt := 129) hx hb dX7_of_125 (by decide) ?_
        obtain ⟨rfl, rfl⟩ := mm_pr h
        exact mm_iret C0 hR dX7_of_129
    rw [if_neg (fun q => c16 (ew4.trans q))] at h
    by_cases c19 : w4 = 6
    · rw [if_pos (ew4.symm.trans c19)] at h
      rw [c19]
      refine lv_tableIn (off := 114) (tgt := 130) hx hb dX7_of_16 (by decide) (by decide) (by decide +kernel) (by decide) ?_
      refine lv_aload_n hx hb dX7_of_130 rfl (lv_at hl 0 rfl) ?_
      refine mm_get hx hb hts hown hR 20 0 20 vl_20 (v := .ref (ra G 46 0)) rfl rfl iX7 (by decide) lk_178 rfl dX7_of_131 ?_
      refine lv_iload_n hx hb dX7_of_134 rfl (lv_at hl 1 rfl) ?_
      obtain ⟨z20, h⟩ := mm_if h
      refine mm_ild hx hb hR 46 0 vl_46 (L := 24) rfl (okI_in z20) dX7_of_135 ?_
      obtain ⟨rfl, rfl⟩ := mm_pr h
      exact mm_iret C0 hR dX7_of_136
    rw [if_neg (fun q => c19 (ew4.trans q))] at h
    have tc5 := lv_neT (a := 0) c5 (by decide)
    have tc7 := lv_neT (a := 1) c7 (by decide)
    have tc9 := lv_neT (a := 2) c9 (by decide)
    have tc11 := lv_neT (a := 3) c11 (by decide)
    have tc13 := lv_neT (a := 4) c13 (by decide)
    have tc16 := lv_neT (a := 5) c16 (by decide)
    have tc19 := lv_neT (a := 6) c19 (by decide)
    refine lv_tableOut (tgt := 137) hx hb dX7_of_16 (by omega) (by decide) ?_
    refine lv_aload_n hx hb dX7_of_137 rfl (lv_at hl 0 rfl) ?_
    refine lv_bipush (v := (-7)) hx hb dX7_of_138 (by decide) ?_
    obtain ⟨r22, f21, ef21, h⟩ := mm_b2e h
    refine mm_callV (v := some (.int r22)) (f1 := f21) (d0 := 0) (rest := []) [.int (-7)] C0 rfl hR 20 0 (T_X7_refuse G ef21) ws_X7_refuse lk_147 hd_X7_refuse ⟨by decide, by decide⟩ vl_20 rfl rfl rfl hl.1 rfl (Nat.le_of_ble_eq_true rfl) dX7_of_140 (fun H locs hR => ?_)
    refine W.eq (g2 := F0 m 143 ls (.int r22 :: [])) rfl ?_
    obtain ⟨rfl, rfl⟩ := mm_pr h
    exact mm_iret C0 hR dX7_of_143
  · rw [if_pos c3] at h
    refine lv_aload_n hx hb dX7_of_8 rfl (lv_at hl 0 rfl) ?_
    refine lv_bipush (v := (-3)) hx hb dX7_of_9 (by decide) ?_
    obtain ⟨r24, f23, ef23, h⟩ := mm_b2e h
    refine mm_callV (v := some (.int r24)) (f1 := f23) (d0 := 0) (rest := []) [.int (-3)] C0 rfl hR 20 0 (T_X7_refuse G ef23) ws_X7_refuse lk_147 hd_X7_refuse ⟨by decide, by decide⟩ vl_20 rfl rfl rfl hl.1 rfl (Nat.le_of_ble_eq_true rfl) dX7_of_11 (fun H locs hR => ?_)
    refine W.eq (g2 := F0 m 14 ls (.int r24 :: [])) rfl ?_
    obtain ⟨rfl, rfl⟩ := mm_pr h
    exact mm_iret C0 hR dX7_of_14
def S_X7_read (f : F3) (x1 : Int32) : Option (Int32 × F3) := mm_b2 (S_X7_isCell f x1) fun r2 f1 => if r2 = 0 then (mm_b2 (S_X7_refuse f1 (-3)) fun r10 f9 => some (r10, f9)) else (if okI x1 10 then (if (f1 30 0 x1.toNatClampNeg) = 4 then (mm_b2 (S_X7_refuse f1 (-5)) fun r8 f7 => some (r8, f7)) else (mm_let (up f1 37 0 x1.toNatClampNeg (f1 31 0 x1.toNatClampNeg)) fun f6 => some (f6 37 0 x1.toNatClampNeg, f6))) else none)
set_option maxHeartbeats 4000000 in
set_option maxRecDepth 100000 in
theorem T_X7_read (G : mmG) {f f' : F3} {rv : Int32} {x1 : Int32} (h : S_X7_read f x1 = some (rv, f')) : mmM G yX7_read cX7_read 2 (some .int) 2 [.ref (ra G 20 0), .int x1] f (some (.int rv)) f' := by
  refine mm_start (by decide +kernel) (Nat.le_of_ble_eq_true rfl) ?_
  intro p e s m args below meth c ls C0 hR hl
  obtain ⟨hx, hb, hml, hr, hown, hts, hlocks⟩ := id C0
  have hl : lv_has ls 2 [(0, .ref (ra G 20 0)), (1, .int x1)] := hl
  rw [S_X7_read] at h
  refine lv_aload_n hx hb dX7_read_0 rfl (lv_at hl 0 rfl) ?_
  refine lv_iload_n hx hb dX7_read_1 rfl (lv_at hl 1 rfl) ?_
  obtain ⟨r2, f1, ef1, h⟩ := mm_b2e h
  refine mm_callV (v := some (.int r2)) (f1 := f1) (d0 := 1) (rest := []) [.int x1] C0 rfl hR 20 0 (T_X7_isCell G ef1) ws_X7_isCell lk_146 hd_X7_isCell ⟨by decide, by decide⟩ vl_20 rfl rfl rfl hl.1 rfl (Nat.le_of_ble_eq_true rfl) dX7_read_2 (fun H locs hR => ?_)
  refine W.eq (g2 := F0 m 5 ls (.int r2 :: [])) rfl ?_
  refine lv_if_ne (tgt := 15) hx hb dX7_read_5 (by decide) (fun c3 => ?_) (fun c3 => ?_)
  · rw [if_neg c3] at h
    refine lv_aload_n hx hb dX7_read_15 rfl (lv_at hl 0 rfl) ?_
    refine mm_get hx hb hts hown hR 20 0 3 vl_20 (v := .ref (ra G 30 0)) rfl rfl iX7 (by decide) lk_140 rfl dX7_read_16 ?_
    refine lv_iload_n hx hb dX7_read_19 rfl (lv_at hl 1 rfl) ?_
    obtain ⟨z4, h⟩ := mm_if h
    refine mm_ild hx hb hR 30 0 vl_30 (L := 10) rfl (okI_in z4) dX7_read_20 ?_
    refine lv_iconst (v := 4) hx hb dX7_read_21 (by decide) ?_
    refine lv_icmp_ne (tgt := 32) hx hb dX7_read_22 (by decide) (fun c5 => ?_) (fun c5 => ?_)
    · rw [if_neg c5] at h
      refine lv_aload_n hx hb dX7_read_32 rfl (lv_at hl 0 rfl) ?_
      refine mm_get hx hb hts hown hR 20 0 10 vl_20 (v := .ref (ra G 37 0)) rfl rfl iX7 (by decide) lk_148 rfl dX7_read_33 ?_
      refine lv_iload_n hx hb dX7_read_36 rfl (lv_at hl 1 rfl) ?_
      refine lv_aload_n hx hb dX7_read_37 rfl (lv_at hl 0 rfl) ?_
      refine mm_get hx hb hts hown hR 20 0 4 vl_20 (v := .ref (ra G 31 0)) rfl rfl iX7 (by decide) lk_141 rfl dX7_read_38 ?_
      refine lv_iload_n hx hb dX7_read_41 rfl (lv_at hl 1 rfl) ?_
      refine mm_ild hx hb hR 31 0 vl_31 (L := 10) rfl (okI_in z4) dX7_read_42 ?_
      obtain ⟨f6, ef6, h⟩ := mm_lt h
      refine mm_ist hx hb hR 37 0 (by decide) vl_37 (L := 10) (j := x1) (x := f1 31 0 x1.toNatClampNeg) (fun _ => rfl) (okI_in z4) dX7_read_43 (fun H locs hR => ?_)
      rw [← ef6] at hR
      refine lv_aload_n hx hb dX7_read_44 rfl (lv_at hl 0 rfl) ?_
      refine mm_get hx hb hts hown hR 20 0 10 vl_20 (v := .ref (ra G 37 0)) rfl rfl iX7 (by decide) lk_148 rfl dX7_read_45 ?_
      refine lv_iload_n hx hb dX7_read_48 rfl (lv_at hl 1 rfl) ?_
      refine mm_ild hx hb hR 37 0 vl_37 (L := 10) rfl (okI_in z4) dX7_read_49 ?_
      obtain ⟨rfl, rfl⟩ := mm_pr h
      exact mm_iret C0 hR dX7_read_50
    · rw [if_pos c5] at h
      refine lv_aload_n hx hb dX7_read_25 rfl (lv_at hl 0 rfl) ?_
      refine lv_bipush (v := (-5)) hx hb dX7_read_26 (by decide) ?_
      obtain ⟨r8, f7, ef7, h⟩ := mm_b2e h
      refine mm_callV (v := some (.int r8)) (f1 := f7) (d0 := 0) (rest := []) [.int (-5)] C0 rfl hR 20 0 (T_X7_refuse G ef7) ws_X7_refuse lk_147 hd_X7_refuse ⟨by decide, by decide⟩ vl_20 rfl rfl rfl hl.1 rfl (Nat.le_of_ble_eq_true rfl) dX7_read_28 (fun H locs hR => ?_)
      refine W.eq (g2 := F0 m 31 ls (.int r8 :: [])) rfl ?_
      obtain ⟨rfl, rfl⟩ := mm_pr h
      exact mm_iret C0 hR dX7_read_31
  · rw [if_pos c3] at h
    refine lv_aload_n hx hb dX7_read_8 rfl (lv_at hl 0 rfl) ?_
    refine lv_bipush (v := (-3)) hx hb dX7_read_9 (by decide) ?_
    obtain ⟨r10, f9, ef9, h⟩ := mm_b2e h
    refine mm_callV (v := some (.int r10)) (f1 := f9) (d0 := 0) (rest := []) [.int (-3)] C0 rfl hR 20 0 (T_X7_refuse G ef9) ws_X7_refuse lk_147 hd_X7_refuse ⟨by decide, by decide⟩ vl_20 rfl rfl rfl hl.1 rfl (Nat.le_of_ble_eq_true rfl) dX7_read_11 (fun H locs hR => ?_)
    refine W.eq (g2 := F0 m 14 ls (.int r10 :: [])) rfl ?_
    obtain ⟨rfl, rfl⟩ := mm_pr h
    exact mm_iret C0 hR dX7_read_14
def S_X7_test_141 (f : F3) (s1 : Int32) (s2 : Int32) : Option F3 := if okI s1 150 then (mm_let (up f 23 0 s1.toNatClampNeg s2) fun f25 => some f25) else none
set_option maxHeartbeats 4000000 in
set_option maxRecDepth 100000 in
theorem L_X7_test_141 {G : mmG} {p : Program} {e : Env} {s : State} {m : MethodId} {args : Array Value} {below : List Frame} {meth : Method} {c : Code} {f' : F3} (C0 : mmC yX7_test cX7_test 4 none p s m args meth c) {f : F3} {s1 : Int32} {s2 : Int32} (h : S_X7_test_141 f s1 s2 = some f') (H : Heap) (locs : List Loc) (ls : Array Slot) (hR : mm_R G mm_NT f (GG f) s H locs) (hl : lv_has ls 4 []) : W p G.1 e (mm_rm 4) s m args below meth c H locs 0 0 (MQ below (mm_Q G mm_NT none f' (GG f')) args s 0 0 (mm_A G)) (F0 m 141 ls [.int s2, .int s1, .ref (ra G 23 0)]) := by
  obtain ⟨hx, hb, hml, hr, hown, hts, hlocks⟩ := id C0
  rw [S_X7_test_141] at h
  obtain ⟨z24, h⟩ := mm_if h
  obtain ⟨f25, ef25, h⟩ := mm_lt h
  refine mm_ist hx hb hR 23 0 (by decide) vl_23 (L := 150) (j := s1) (x := s2) (fun _ => rfl) (okI_in z24) dX7_test_141 (fun H locs hR => ?_)
  rw [← ef25] at hR
  obtain rfl := mm_p1 h
  exact mm_vret C0 hR dX7_test_142
def S_X7_test_105 (f : F3) (x1 : Int32) (x2 : Int32) (x3 : Int32) : Option F3 := Option.bind (S_X7_digits f) fun f20 => if okI (x1 + 1) 150 then (mm_let (up f20 23 0 (x1 + 1).toNatClampNeg x2) fun f22 => if x3 = 0 then (S_X7_test_141 f22 (x1 + 2) (f22 20 0 30)) else (S_X7_test_141 f22 (x1 + 2) (-(f22 20 0 30)))) else none
set_option maxHeartbeats 4000000 in
set_option maxRecDepth 100000 in
theorem L_X7_test_105 {G : mmG} {p : Program} {e : Env} {s : State} {m : MethodId} {args : Array Value} {below : List Frame} {meth : Method} {c : Code} {f' : F3} (C0 : mmC yX7_test cX7_test 4 none p s m args meth c) {f : F3} {x1 : Int32} {x2 : Int32} {x3 : Int32} (h : S_X7_test_105 f x1 x2 x3 = some f') (H : Heap) (locs : List Loc) (ls : Array Slot) (hR : mm_R G mm_NT f (GG f) s H locs) (hl : lv_has ls 4 [(0, .ref (ra G 20 0)), (1, .int x1), (2, .int x2), (3, .int x3)]) : W p G.1 e (mm_rm 4) s m args below meth c H locs 0 0 (MQ below (mm_Q G mm_NT none f' (GG f')) args s 0 0 (mm_A G)) (F0 m 105 ls []) := by
  obtain ⟨hx, hb, hml, hr, hown, hts, hlocks⟩ := id C0
  rw [S_X7_test_105] at h
  refine lv_aload_n hx hb dX7_test_105 rfl (lv_at hl 0 rfl) ?_
  obtain ⟨f20, ef20, h⟩ := mm_bind h
  refine mm_callV (v := none) (f1 := f20) (d0 := 1) (rest := []) [] C0 rfl hR 20 0 (T_X7_digits G ef20) ws_X7_digits lk_200 hd_X7_digits ⟨by decide, by decide⟩ vl_20 rfl rfl rfl hl.1 rfl (Nat.le_of_ble_eq_true rfl) dX7_test_106 (fun H locs hR => ?_)
  refine W.eq (g2 := F0 m 109 ls ([])) rfl ?_
  refine lv_aload_n hx hb dX7_test_109 rfl (lv_at hl 0 rfl) ?_
  refine mm_get hx hb hts hown hR 20 0 22 vl_20 (v := .ref (ra G 23 0)) rfl rfl iX7 (by decide) lk_161 rfl dX7_test_110 ?_
  refine lv_iload_n hx hb dX7_test_113 rfl (lv_at hl 1 rfl) ?_
  refine lv_iconst (v := 1) hx hb dX7_test_114 (by decide) ?_
  refine lv_iadd hx hb dX7_test_115 ?_
  refine lv_iload_n hx hb dX7_test_116 rfl (lv_at hl 2 rfl) ?_
  obtain ⟨z21, h⟩ := mm_if h
  obtain ⟨f22, ef22, h⟩ := mm_lt h
  refine mm_ist hx hb hR 23 0 (by decide) vl_23 (L := 150) (j := x1 + 1) (x := x2) (fun _ => rfl) (okI_in z21) dX7_test_117 (fun H locs hR => ?_)
  rw [← ef22] at hR
  refine lv_aload_n hx hb dX7_test_118 rfl (lv_at hl 0 rfl) ?_
  refine mm_get hx hb hts hown hR 20 0 22 vl_20 (v := .ref (ra G 23 0)) rfl rfl iX7 (by decide) lk_161 rfl dX7_test_119 ?_
  refine lv_iload_n hx hb dX7_test_122 rfl (lv_at hl 1 rfl) ?_
  refine lv_iconst (v := 2) hx hb dX7_test_123 (by decide) ?_
  refine lv_iadd hx hb dX7_test_124 ?_
  refine lv_iload_n hx hb dX7_test_125 rfl (lv_at hl 3 rfl) ?_
  refine lv_if_eq (tgt := 137) hx hb dX7_test_126 (by decide) (fun c23 => ?_) (fun c23 => ?_)
  · rw [if_pos c23] at h
    refine lv_aload_n hx hb dX7_test_137 rfl (lv_at hl 0 rfl) ?_
    refine mm_get hx hb hts hown hR 20 0 30 vl_20 (v := .int (f22 20 0 30)) rfl rfl iX7 (by decide) lk_185 rfl dX7_test_138 ?_
    exact L_X7_test_141 C0 h _ _ _ hR (lv_sub hl [] rfl)
  · rw [if_neg c23] at h
    refine lv_aload_n hx hb dX7_test_129 rfl (lv_at hl 0 rfl) ?_
    refine mm_get hx hb hts hown hR 20 0 30 vl_20 (v := .int (f22 20 0 30)) rfl rfl iX7 (by decide) lk_185 rfl dX7_test_130 ?_
    refine lv_ineg hx hb dX7_test_133 ?_
    refine lv_goto (tgt := 141) hx hb dX7_test_134 (by decide) ?_
    exact L_X7_test_141 C0 h _ _ _ hR (lv_sub hl [] rfl)
def S_X7_test_90 (f : F3) (s0 : Int32) (x1 : Int32) (x2 : Int32) : Option F3 := if s0 = 0 then (S_X7_test_105 f x1 x2 s0) else (mm_let (up f 20 0 28 ((f 20 0 28) + 1)) fun f19 => S_X7_test_105 f19 x1 x2 s0)
set_option maxHeartbeats 4000000 in
set_option maxRecDepth 100000 in
theorem L_X7_test_90 {G : mmG} {p : Program} {e : Env} {s : State} {m : MethodId} {args : Array Value} {below : List Frame} {meth : Method} {c : Code} {f' : F3} (C0 : mmC yX7_test cX7_test 4 none p s m args meth c) {f : F3} {s0 : Int32} {x1 : Int32} {x2 : Int32} (h : S_X7_test_90 f s0 x1 x2 = some f') (H : Heap) (locs : List Loc) (ls : Array Slot) (hR : mm_R G mm_NT f (GG f) s H locs) (hl : lv_has ls 4 [(0, .ref (ra G 20 0)), (1, .int x1), (2, .int x2)]) : W p G.1 e (mm_rm 4) s m args below meth c H locs 0 0 (MQ below (mm_Q G mm_NT none f' (GG f')) args s 0 0 (mm_A G)) (F0 m 90 ls [.int s0]) := by
  obtain ⟨hx, hb, hml, hr, hown, hts, hlocks⟩ := id C0
  rw [S_X7_test_90] at h
  refine lv_istore_n (lv' := [(3, .int s0), (0, .ref (ra G 20 0)), (1, .int x1), (2, .int x2)]) hx hb dX7_test_90 rfl hl (by decide) rfl (fun ls hl => ?_)
  refine lv_iload_n hx hb dX7_test_91 rfl (lv_at hl 0 rfl) ?_
  refine lv_if_eq (tgt := 105) hx hb dX7_test_92 (by decide) (fun c18 => ?_) (fun c18 => ?_)
  · rw [if_pos c18] at h
    exact L_X7_test_105 C0 h _ _ _ hR (lv_sub hl [1, 2, 3, 0] rfl)
  · rw [if_neg c18] at h
    refine lv_aload_n hx hb dX7_test_95 rfl (lv_at hl 1 rfl) ?_
    refine lv_dup hx hb dX7_test_96 rfl ?_
    refine mm_get hx hb hts hown hR 20 0 28 vl_20 (v := .int (f 20 0 28)) rfl rfl iX7 (by decide) lk_183 rfl dX7_test_97 ?_
    refine lv_iconst (v := 1) hx hb dX7_test_100 (by decide) ?_
    refine lv_iadd hx hb dX7_test_101 ?_
    obtain ⟨f19, ef19, h⟩ := mm_lt h
    refine mm_put hx hb hts hown hR 20 0 28 (by decide) vl_20 (x := (f 20 0 28) + 1) rfl rfl iX7 tyX7 tyX7_ok nmX7 (by decide) lk_183 rfl rfl rfl (Nat.le_of_ble_eq_true rfl) rfl dX7_test_102 (fun H locs hR => ?_)
    rw [← ef19] at hR
    exact L_X7_test_105 C0 h _ _ _ hR (lv_sub hl [1, 2, 3, 0] rfl)
def S_X7_test_89 (f : F3) (x1 : Int32) (x2 : Int32) : Option F3 := S_X7_test_90 f 0 x1 x2
set_option maxHeartbeats 4000000 in
set_option maxRecDepth 100000 in
theorem L_X7_test_89 {G : mmG} {p : Program} {e : Env} {s : State} {m : MethodId} {args : Array Value} {below : List Frame} {meth : Method} {c : Code} {f' : F3} (C0 : mmC yX7_test cX7_test 4 none p s m args meth c) {f : F3} {x1 : Int32} {x2 : Int32} (h : S_X7_test_89 f x1 x2 = some f') (H : Heap) (locs : List Loc) (ls : Array Slot) (hR : mm_R G mm_NT f (GG f) s H locs) (hl : lv_has ls 4 [(0, .ref (ra G 20 0)), (1, .int x1), (2, .int x2)]) : W p G.1 e (mm_rm 4) s m args below meth c H locs 0 0 (MQ below (mm_Q G mm_NT none f' (GG f')) args s 0 0 (mm_A G)) (F0 m 89 ls []) := by
  obtain ⟨hx, hb, hml, hr, hown, hts, hlocks⟩ := id C0
  rw [S_X7_test_89] at h
  refine lv_iconst (v := 0) hx hb dX7_test_89 (by decide) ?_
  exact L_X7_test_90 C0 h _ _ _ hR (lv_sub hl [0, 1, 2] rfl)
def S_X7_test_69 (f : F3) (x1 : Int32) (x2 : Int32) : Option F3 := if (f 20 0 29) = 0 then (mm_b2 (S_X7_here f) fun r16 f15 => if r16 = 45 then (S_X7_test_90 f15 1 x1 x2) else (S_X7_test_89 f15 x1 x2)) else (S_X7_test_89 f x1 x2)
set_option maxHeartbeats 4000000 in
set_option maxRecDepth 100000 in
theorem L_X7_test_69 {G : mmG} {p : Program} {e : Env} {s : State} {m : MethodId} {args : Array Value} {below : List Frame} {meth : Method} {c : Code} {f' : F3} (C0 : mmC yX7_test cX7_test 4 none p s m args meth c) {f : F3} {x1 : Int32} {x2 : Int32} (h : S_X7_test_69 f x1 x2 = some f') (H : Heap) (locs : List Loc) (ls : Array Slot) (hR : mm_R G mm_NT f (GG f) s H locs) (hl : lv_has ls 4 [(0, .ref (ra G 20 0)), (1, .int x1), (2, .int x2)]) : W p G.1 e (mm_rm 4) s m args below meth c H locs 0 0 (MQ below (mm_Q G mm_NT none f' (GG f')) args s 0 0 (mm_A G)) (F0 m 69 ls []) := by
  obtain ⟨hx, hb, hml, hr, hown, hts, hlocks⟩ := id C0
  rw [S_X7_test_69] at h
  refine lv_aload_n hx hb dX7_test_69 rfl (lv_at hl 0 rfl) ?_
  refine mm_get hx hb hts hown hR 20 0 29 vl_20 (v := .int (f 20 0 29)) rfl rfl iX7 (by decide) lk_186 rfl dX7_test_70 ?_
  refine lv_if_ne (tgt := 89) hx hb dX7_test_73 (by decide) (fun c14 => ?_) (fun c14 => ?_)
  · rw [if_neg c14] at h
    exact L_X7_test_89 C0 h _ _ _ hR (lv_sub hl [0, 1, 2] rfl)
  · rw [if_pos c14] at h
    refine lv_aload_n hx hb dX7_test_76 rfl (lv_at hl 0 rfl) ?_
    obtain ⟨r16, f15, ef15, h⟩ := mm_b2e h
    refine mm_callV (v := some (.int r16)) (f1 := f15) (d0 := 0) (rest := []) [] C0 rfl hR 20 0 (T_X7_here G ef15) ws_X7_here lk_187 hd_X7_here ⟨by decide, by decide⟩ vl_20 rfl rfl rfl hl.1 rfl (Nat.le_of_ble_eq_true rfl) dX7_test_77 (fun H locs hR => ?_)
    refine W.eq (g2 := F0 m 80 ls (.int r16 :: [])) rfl ?_
    refine lv_bipush (v := 45) hx hb dX7_test_80 (by decide) ?_
    refine lv_icmp_ne (tgt := 89) hx hb dX7_test_82 (by decide) (fun c17 => ?_) (fun c17 => ?_)
    · rw [if_neg c17] at h
      exact L_X7_test_89 C0 h _ _ _ hR (lv_sub hl [0, 1, 2] rfl)
    · rw [if_pos c17] at h
      refine lv_iconst (v := 1) hx hb dX7_test_85 (by decide) ?_
      refine lv_goto (tgt := 90) hx hb dX7_test_86 (by decide) ?_
      exact L_X7_test_90 C0 h _ _ _ hR (lv_sub hl [0, 1, 2] rfl)
def S_X7_test_64 (f : F3) (x1 : Int32) (x2 : Int32) : Option F3 := mm_let (up f 20 0 29 1) fun f12 => S_X7_test_69 f12 x1 x2
set_option maxHeartbeats 4000000 in
set_option maxRecDepth 100000 in
theorem L_X7_test_64 {G : mmG} {p : Program} {e : Env} {s : State} {m : MethodId} {args : Array Value} {below : List Frame} {meth : Method} {c : Code} {f' : F3} (C0 : mmC yX7_test cX7_test 4 none p s m args meth c) {f : F3} {x1 : Int32} {x2 : Int32} (h : S_X7_test_64 f x1 x2 = some f') (H : Heap) (locs : List Loc) (ls : Array Slot) (hR : mm_R G mm_NT f (GG f) s H locs) (hl : lv_has ls 4 [(0, .ref (ra G 20 0)), (1, .int x1), (2, .int x2)]) : W p G.1 e (mm_rm 4) s m args below meth c H locs 0 0 (MQ below (mm_Q G mm_NT none f' (GG f')) args s 0 0 (mm_A G)) (F0 m 64 ls []) := by
  obtain ⟨hx, hb, hml, hr, hown, hts, hlocks⟩ := id C0
  rw [S_X7_test_64] at h
  refine lv_aload_n hx hb dX7_test_64 rfl (lv_at hl 0 rfl) ?_
  refine lv_iconst (v := 1) hx hb dX7_test_65 (by decide) ?_
  obtain ⟨f12, ef12, h⟩ := mm_lt h
  refine mm_put hx hb hts hown hR 20 0 29 (by decide) vl_20 (x := 1) rfl rfl iX7 tyX7 tyX7_ok nmX7 (by decide) lk_186 rfl rfl rfl (Nat.le_of_ble_eq_true rfl) rfl dX7_test_66 (fun H locs hR => ?_)
  rw [← ef12] at hR
  exact L_X7_test_69 C0 h _ _ _ hR (lv_sub hl [0, 1, 2] rfl)
def S_X7_test_51 (f : F3) (x1 : Int32) (x2 : Int32) : Option F3 := mm_let (up f 20 0 28 ((f 20 0 28) + 1)) fun f13 => S_X7_test_69 f13 x1 x2
set_option maxHeartbeats 4000000 in
set_option maxRecDepth 100000 in
theorem L_X7_test_51 {G : mmG} {p : Program} {e : Env} {s : State} {m : MethodId} {args : Array Value} {below : List Frame} {meth : Method} {c : Code} {f' : F3} (C0 : mmC yX7_test cX7_test 4 none p s m args meth c) {f : F3} {x1 : Int32} {x2 : Int32} (h : S_X7_test_51 f x1 x2 = some f') (H : Heap) (locs : List Loc) (ls : Array Slot) (hR : mm_R G mm_NT f (GG f) s H locs) (hl : lv_has ls 4 [(0, .ref (ra G 20 0)), (1, .int x1), (2, .int x2)]) : W p G.1 e (mm_rm 4) s m args below meth c H locs 0 0 (MQ below (mm_Q G mm_NT none f' (GG f')) args s 0 0 (mm_A G)) (F0 m 51 ls []) := by
  obtain ⟨hx, hb, hml, hr, hown, hts, hlocks⟩ := id C0
  rw [S_X7_test_51] at h
  refine lv_aload_n hx hb dX7_test_51 rfl (lv_at hl 0 rfl) ?_
  refine lv_dup hx hb dX7_test_52 rfl ?_
  refine mm_get hx hb hts hown hR 20 0 28 vl_20 (v := .int (f 20 0 28)) rfl rfl iX7 (by decide) lk_183 rfl dX7_test_53 ?_
  refine lv_iconst (v := 1) hx hb dX7_test_56 (by decide) ?_
  refine lv_iadd hx hb dX7_test_57 ?_
  obtain ⟨f13, ef13, h⟩ := mm_lt h
  refine mm_put hx hb hts hown hR 20 0 28 (by decide) vl_20 (x := (f 20 0 28) + 1) rfl rfl iX7 tyX7 tyX7_ok nmX7 (by decide) lk_183 rfl rfl rfl (Nat.le_of_ble_eq_true rfl) rfl dX7_test_58 (fun H locs hR => ?_)
  rw [← ef13] at hR
  refine lv_goto (tgt := 69) hx hb dX7_test_61 (by decide) ?_
  exact L_X7_test_69 C0 h _ _ _ hR (lv_sub hl [0, 1, 2] rfl)
def S_X7_test_20 (f : F3) (s1 : Int32) (s2 : Int32) (x1 : Int32) : Option F3 := if okI s1 150 then (mm_let (up f 23 0 s1.toNatClampNeg s2) fun f5 => mm_b2 (S_X7_here f5) fun r7 f6 => if (f6 20 0 29) = 0 then (if r7 = 61 then (S_X7_test_51 f6 x1 r7) else (if r7 = 60 then (S_X7_test_51 f6 x1 r7) else (if r7 = 62 then (S_X7_test_51 f6 x1 r7) else (S_X7_test_64 f6 x1 r7)))) else (S_X7_test_64 f6 x1 r7)) else none
set_option maxHeartbeats 4000000 in
set_option maxRecDepth 100000 in
theorem L_X7_test_20 {G : mmG} {p : Program} {e : Env} {s : State} {m : MethodId} {args : Array Value} {below : List Frame} {meth : Method} {c : Code} {f' : F3} (C0 : mmC yX7_test cX7_test 4 none p s m args meth c) {f : F3} {s1 : Int32} {s2 : Int32} {x1 : Int32} (h : S_X7_test_20 f s1 s2 x1 = some f') (H : Heap) (locs : List Loc) (ls : Array Slot) (hR : mm_R G mm_NT f (GG f) s H locs) (hl : lv_has ls 4 [(0, .ref (ra G 20 0)), (1, .int x1)]) : W p G.1 e (mm_rm 4) s m args below meth c H locs 0 0 (MQ below (mm_Q G mm_NT none f' (GG f')) args s 0 0 (mm_A G)) (F0 m 20 ls [.int s2, .int s1, .ref (ra G 23 0)]) := by
  obtain ⟨hx, hb, hml, hr, hown, hts, hlocks⟩ := id C0
  rw [S_X7_test_20] at h
  obtain ⟨z4, h⟩ := mm_if h
  obtain ⟨f5, ef5, h⟩ := mm_lt h
  refine mm_ist hx hb hR 23 0 (by decide) vl_23 (L := 150) (j := s1) (x := s2) (fun _ => rfl) (okI_in z4) dX7_test_20 (fun H locs hR => ?_)
  rw [← ef5] at hR
  refine lv_aload_n hx hb dX7_test_21 rfl (lv_at hl 0 rfl) ?_
  obtain ⟨r7, f6, ef6, h⟩ := mm_b2e h
  refine mm_callV (v := some (.int r7)) (f1 := f6) (d0 := 0) (rest := []) [] C0 rfl hR 20 0 (T_X7_here G ef6) ws_X7_here lk_187 hd_X7_here ⟨by decide, by decide⟩ vl_20 rfl rfl rfl hl.1 rfl (Nat.le_of_ble_eq_true rfl) dX7_test_22 (fun H locs hR => ?_)
  refine W.eq (g2 := F0 m 25 ls (.int r7 :: [])) rfl ?_
  refine lv_istore_n (lv' := [(2, .int r7), (0, .ref (ra G 20 0)), (1, .int x1)]) hx hb dX7_test_25 rfl hl (by decide) rfl (fun ls hl => ?_)
  refine lv_aload_n hx hb dX7_test_26 rfl (lv_at hl 1 rfl) ?_
  refine mm_get hx hb hts hown hR 20 0 29 vl_20 (v := .int (f6 20 0 29)) rfl rfl iX7 (by decide) lk_186 rfl dX7_test_27 ?_
  refine lv_if_ne (tgt := 64) hx hb dX7_test_30 (by decide) (fun c8 => ?_) (fun c8 => ?_)
  · rw [if_neg c8] at h
    exact L_X7_test_64 C0 h _ _ _ hR (lv_sub hl [1, 2, 0] rfl)
  · rw [if_pos c8] at h
    refine lv_iload_n hx hb dX7_test_33 rfl (lv_at hl 0 rfl) ?_
    refine lv_bipush (v := 61) hx hb dX7_test_34 (by decide) ?_
    refine lv_icmp_eq (tgt := 51) hx hb dX7_test_36 (by decide) (fun c9 => ?_) (fun c9 => ?_)
    · rw [if_pos c9] at h
      exact L_X7_test_51 C0 h _ _ _ hR (lv_sub hl [1, 2, 0] rfl)
    · rw [if_neg c9] at h
      refine lv_iload_n hx hb dX7_test_39 rfl (lv_at hl 0 rfl) ?_
      refine lv_bipush (v := 60) hx hb dX7_test_40 (by decide) ?_
      refine lv_icmp_eq (tgt := 51) hx hb dX7_test_42 (by decide) (fun c10 => ?_) (fun c10 => ?_)
      · rw [if_pos c10] at h
        exact L_X7_test_51 C0 h _ _ _ hR (lv_sub hl [1, 2, 0] rfl)
      · rw [if_neg c10] at h
        refine lv_iload_n hx hb dX7_test_45 rfl (lv_at hl 0 rfl) ?_
        refine lv_bipush (v := 62) hx hb dX7_test_46 (by decide) ?_
        refine lv_icmp_ne (tgt := 64) hx hb dX7_test_48 (by decide) (fun c11 => ?_) (fun c11 => ?_)
        · rw [if_neg c11] at h
          exact L_X7_test_64 C0 h _ _ _ hR (lv_sub hl [1, 2, 0] rfl)
        · rw [if_pos c11] at h
          exact L_X7_test_51 C0 h _ _ _ hR (lv_sub hl [1, 2, 0] rfl)
def S_X7_test (f : F3) (x1 : Int32) : Option F3 := if (f 20 0 29) = 0 then (mm_b2 (S_X7_fieldRead f) fun r3 f2 => S_X7_test_20 f2 x1 r3 x1) else (S_X7_test_20 f x1 0 x1)
set_option maxHeartbeats 4000000 in
set_option maxRecDepth 100000 in
theorem T_X7_test (G : mmG) {f f' : F3} {x1 : Int32} (h : S_X7_test f x1 = some f') : mmM G yX7_test cX7_test 4 none 4 [.ref (ra G 20 0), .int x1] f none f' := by
  refine mm_start (by decide +kernel) (Nat.le_of_ble_eq_true rfl) ?_
  intro p e s m args below meth c ls C0 hR hl
  obtain ⟨hx, hb, hml, hr, hown, hts, hlocks⟩ := id C0
  have hl : lv_has ls 4 [(0, .ref (ra G 20 0)), (1, .int x1)] := hl
  rw [S_X7_test] at h
  refine lv_aload_n hx hb dX7_test_0 rfl (lv_at hl 0 rfl) ?_
  refine mm_get hx hb hts hown hR 20 0 22 vl_20 (v := .ref (ra G 23 0)) rfl rfl iX7 (by decide) lk_161 rfl dX7_test_1 ?_
  refine lv_iload_n hx hb dX7_test_4 rfl (lv_at hl 1 rfl) ?_
  refine lv_aload_n hx hb dX7_test_5 rfl (lv_at hl 0 rfl) ?_
  refine mm_get hx hb hts hown hR 20 0 29 vl_20 (v := .int (f 20 0 29)) rfl rfl iX7 (by decide) lk_186 rfl dX7_test_6 ?_
  refine lv_if_eq (tgt := 16) hx hb dX7_test_9 (by decide) (fun c1 => ?_) (fun c1 => ?_)
  · rw [if_pos c1] at h
    refine lv_aload_n hx hb dX7_test_16 rfl (lv_at hl 0 rfl) ?_
    obtain ⟨r3, f2, ef2, h⟩ := mm_b2e h
    refine mm_callV (v := some (.int r3)) (f1 := f2) (d0 := 3) (rest := [.int x1, .ref (ra G 23 0)]) [] C0 rfl hR 20 0 (T_X7_fieldRead G ef2) ws_X7_fieldRead lk_199 hd_X7_fieldRead ⟨by decide, by decide⟩ vl_20 rfl rfl rfl hl.1 rfl (Nat.le_of_ble_eq_true rfl) dX7_test_17 (fun H locs hR => ?_)
    refine W.eq (g2 := F0 m 20 ls (.int r3 :: .int x1 :: .ref (ra G 23 0) :: [])) rfl ?_
    exact L_X7_test_20 C0 h _ _ _ hR (lv_sub hl [0, 1] rfl)
  · rw [if_neg c1] at h
    refine lv_iconst (v := 0) hx hb dX7_test_12 (by decide) ?_
    refine lv_goto (tgt := 20) hx hb dX7_test_13 (by decide) ?_
    exact L_X7_test_20 C0 h _ _ _ hR (lv_sub hl [0, 1] rfl)
def S_X7_reads_203 (k70 : F3 → Int32 → Option F3) (f : F3) (x1 : Int32) (x2 : Int32) : Option F3 := Option.bind (S_X7_eats f 32) fun f36 => Option.bind (S_X7_test f36 ((x1 + 6) + (3 * x2))) fun f37 => if okI (x1 + 4) 150 then (mm_let (up f37 23 0 (x1 + 4).toNatClampNeg ((f37 23 0 (x1 + 4).toNatClampNeg) + 1)) fun f39 => k70 f39 x1) else none
set_option maxHeartbeats 4000000 in
set_option maxRecDepth 100000 in
theorem L_X7_reads_203 {G : mmG} {p : Program} {e : Env} {s : State} {m : MethodId} {args : Array Value} {below : List Frame} {meth : Method} {c : Code} {f' : F3} (C0 : mmC yX7_reads cX7_reads 3 none p s m args meth c) {k70 : F3 → Int32 → Option F3} (hk70 : ∀ (f : F3) (x1 : Int32), k70 f x1 = some f' → ∀ (H : Heap) (locs : List Loc) (ls : Array Slot), mm_R G mm_NT f (GG f) s H locs → lv_has ls 3 [(0, .ref (ra G 20 0)), (1, .int x1)] → W p G.1 e (mm_rm 5) s m args below meth c H locs 0 0 (MQ below (mm_Q G mm_NT none f' (GG f')) args s 0 0 (mm_A G)) (F0 m 70 ls [])) {f : F3} {x1 : Int32} {x2 : Int32} (h : S_X7_reads_203 k70 f x1 x2 = some f') (H : Heap) (locs : List Loc) (ls : Array Slot) (hR : mm_R G mm_NT f (GG f) s H locs) (hl : lv_has ls 3 [(0, .ref (ra G 20 0)), (1, .int x1), (2, .int x2)]) : W p G.1 e (mm_rm 5) s m args below meth c H locs 0 0 (MQ below (mm_Q G mm_NT none f' (GG f')) args s 0 0 (mm_A G)) (F0 m 203 ls []) := by
  obtain ⟨hx, hb, hml, hr, hown, hts, hlocks⟩ := id C0
  rw [S_X7_reads_203] at h
  refine lv_aload_n hx hb dX7_reads_203 rfl (lv_at hl 0 rfl) ?_
  refine lv_bipush (v := 32) hx hb dX7_reads_204 (by decide) ?_
  obtain ⟨f36, ef36, h⟩ := mm_bind h
  refine mm_callV (v := none) (f1 := f36) (d0 := 1) (rest := []) [.int 32] C0 rfl hR 20 0 (T_X7_eats G ef36) ws_X7_eats lk_188 hd_X7_eats ⟨by decide, by decide⟩ vl_20 rfl rfl rfl hl.1 rfl (Nat.le_of_ble_eq_true rfl) dX7_reads_206 (fun H locs hR => ?_)
  refine W.eq (g2 := F0 m 209 ls ([])) rfl ?_
  refine lv_aload_n hx hb dX7_reads_209 rfl (lv_at hl 0 rfl) ?_
  refine lv_iload_n hx hb dX7_reads_210 rfl (lv_at hl 1 rfl) ?_
  refine lv_bipush (v := 6) hx hb dX7_reads_211 (by decide) ?_
  refine lv_iadd hx hb dX7_reads_213 ?_
  refine lv_iconst (v := 3) hx hb dX7_reads_214 (by decide) ?_
  refine lv_iload_n hx hb dX7_reads_215 rfl (lv_at hl 2 rfl) ?_
  refine lv_imul hx hb dX7_reads_216 ?_
  refine lv_iadd hx hb dX7_reads_217 ?_
  obtain ⟨f37, ef37, h⟩ := mm_bind h
  refine mm_callV (v := none) (f1 := f37) (d0 := 4) (rest := []) [.int ((x1 + 6) + (3 * x2))] C0 rfl hR 20 0 (T_X7_test G ef37) ws_X7_test lk_202 hd_X7_test ⟨by decide, by decide⟩ vl_20 rfl rfl rfl hl.1 rfl (Nat.le_of_ble_eq_true rfl) dX7_reads_218 (fun H locs hR => ?_)
  refine W.eq (g2 := F0 m 221 ls ([])) rfl ?_
  refine lv_aload_n hx hb dX7_reads_221 rfl (lv_at hl 0 rfl) ?_
  refine mm_get hx hb hts hown hR 20 0 22 vl_20 (v := .ref (ra G 23 0)) rfl rfl iX7 (by decide) lk_161 rfl dX7_reads_222 ?_
  refine lv_iload_n hx hb dX7_reads_225 rfl (lv_at hl 1 rfl) ?_
  refine lv_iconst (v := 4) hx hb dX7_reads_226 (by decide) ?_
  refine lv_iadd hx hb dX7_reads_227 ?_
  refine lv_dup2_11 hx hb dX7_reads_228 rfl rfl ?_
  obtain ⟨z38, h⟩ := mm_if h
  refine mm_ild hx hb hR 23 0 vl_23 (L := 150) rfl (okI_in z38) dX7_reads_229 ?_
  refine lv_iconst (v := 1) hx hb dX7_reads_230 (by decide) ?_
  refine lv_iadd hx hb dX7_reads_231 ?_
  obtain ⟨f39, ef39, h⟩ := mm_lt h
  refine mm_ist hx hb hR 23 0 (by decide) vl_23 (L := 150) (j := x1 + 4) (x := (f37 23 0 (x1 + 4).toNatClampNeg) + 1) (fun _ => rfl) (okI_in z38) dX7_reads_232 (fun H locs hR => ?_)
  rw [← ef39] at hR
  refine lv_goto (tgt := 70) hx hb dX7_reads_233 (by decide) ?_
  exact hk70 _ x1  h _ _ _ hR (lv_sub hl [0, 1] rfl)
def S_X7_reads_193 (k70 : F3 → Int32 → Option F3) (f : F3) (x1 : Int32) (x2 : Int32) : Option F3 := Option.bind (S_X7_eats3 f 97 110 100) fun f31 => S_X7_reads_203 k70 f31 x1 x2
set_option maxHeartbeats 4000000 in
set_option maxRecDepth 100000 in
theorem L_X7_reads_193 {G : mmG} {p : Program} {e : Env} {s : State} {m : MethodId} {args : Array Value} {below : List Frame} {meth : Method} {c : Code} {f' : F3} (C0 : mmC yX7_reads cX7_reads 3 none p s m args meth c) {k70 : F3 → Int32 → Option F3} (hk70 : ∀ (f : F3) (x1 : Int32), k70 f x1 = some f' → ∀ (H : Heap) (locs : List Loc) (ls : Array Slot), mm_R G mm_NT f (GG f) s H locs → lv_has ls 3 [(0, .ref (ra G 20 0)), (1, .int x1)] → W p G.1 e (mm_rm 5) s m args below meth c H locs 0 0 (MQ below (mm_Q G mm_NT none f' (GG f')) args s 0 0 (mm_A G)) (F0 m 70 ls [])) {f : F3} {x1 : Int32} {x2 : Int32} (h : S_X7_reads_193 k70 f x1 x2 = some f') (H : Heap) (locs : List Loc) (ls : Array Slot) (hR : mm_R G mm_NT f (GG f) s H locs) (hl : lv_has ls 3 [(0, .ref (ra G 20 0)), (1, .int x1), (2, .int x2)]) : W p G.1 e (mm_rm 5) s m args below meth c H locs 0 0 (MQ below (mm_Q G mm_NT none f' (GG f')) args s 0 0 (mm_A G)) (F0 m 193 ls []) := by
  obtain ⟨hx, hb, hml, hr, hown, hts, hlocks⟩ := id C0
  rw [S_X7_reads_193] at h
  refine lv_aload_n hx hb dX7_reads_193 rfl (lv_at hl 0 rfl) ?_
  refine lv_bipush (v := 97) hx hb dX7_reads_194 (by decide) ?_
  refine lv_bipush (v := 110) hx hb dX7_reads_196 (by decide) ?_
  refine lv_bipush (v := 100) hx hb dX7_reads_198 (by decide) ?_
  obtain ⟨f31, ef31, h⟩ := mm_bind h
  refine mm_callV (v := none) (f1 := f31) (d0 := 2) (rest := []) [.int 97, .int 110, .int 100] C0 rfl hR 20 0 (T_X7_eats3 G ef31) ws_X7_eats3 lk_189 hd_X7_eats3 ⟨by decide, by decide⟩ vl_20 rfl rfl rfl hl.1 rfl (Nat.le_of_ble_eq_true rfl) dX7_reads_200 (fun H locs hR => ?_)
  refine W.eq (g2 := F0 m 203 ls ([])) rfl ?_
  exact L_X7_reads_203 C0 hk70 h _ _ _ hR (lv_sub hl [0, 1, 2] rfl)
def S_X7_reads_169 (k70 : F3 → Int32 → Option F3) (f : F3) (x1 : Int32) (x2 : Int32) : Option F3 := if okI (x1 + 5) 150 then (mm_let (up f 23 0 (x1 + 5).toNatClampNeg 1) fun f33 => Option.bind (S_X7_eats f33 111) fun f34 => Option.bind (S_X7_eats f34 114) fun f35 => S_X7_reads_203 k70 f35 x1 x2) else none
set_option maxHeartbeats 4000000 in
set_option maxRecDepth 100000 in
theorem L_X7_reads_169 {G : mmG} {p : Program} {e : Env} {s : State} {m : MethodId} {args : Array Value} {below : List Frame} {meth : Method} {c : Code} {f' : F3} (C0 : mmC yX7_reads cX7_reads 3 none p s m args meth c) {k70 : F3 → Int32 → Option F3} (hk70 : ∀ (f : F3) (x1 : Int32), k70 f x1 = some f' → ∀ (H : Heap) (locs : List Loc) (ls : Array Slot), mm_R G mm_NT f (GG f) s H locs → lv_has ls 3 [(0, .ref (ra G 20 0)), (1, .int x1)] → W p G.1 e (mm_rm 5) s m args below meth c H locs 0 0 (MQ below (mm_Q G mm_NT none f' (GG f')) args s 0 0 (mm_A G)) (F0 m 70 ls [])) {f : F3} {x1 : Int32} {x2 : Int32} (h : S_X7_reads_169 k70 f x1 x2 = some f') (H : Heap) (locs : List Loc) (ls : Array Slot) (hR : mm_R G mm_NT f (GG f) s H locs) (hl : lv_has ls 3 [(0, .ref (ra G 20 0)), (1, .int x1), (2, .int x2)]) : W p G.1 e (mm_rm 5) s m args below meth c H locs 0 0 (MQ below (mm_Q G mm_NT none f' (GG f')) args s 0 0 (mm_A G)) (F0 m 169 ls []) := by
  obtain ⟨hx, hb, hml, hr, hown, hts, hlocks⟩ := id C0
  rw [S_X7_reads_169] at h
  refine lv_aload_n hx hb dX7_reads_169 rfl (lv_at hl 0 rfl) ?_
  refine mm_get hx hb hts hown hR 20 0 22 vl_20 (v := .ref (ra G 23 0)) rfl rfl iX7 (by decide) lk_161 rfl dX7_reads_170 ?_
  refine lv_iload_n hx hb dX7_reads_173 rfl (lv_at hl 1 rfl) ?_
  refine lv_iconst (v := 5) hx hb dX7_reads_174 (by decide) ?_
  refine lv_iadd hx hb dX7_reads_175 ?_
  refine lv_iconst (v := 1) hx hb dX7_reads_176 (by decide) ?_
  obtain ⟨z32, h⟩ := mm_if h
  obtain ⟨f33, ef33, h⟩ := mm_lt h
  refine mm_ist hx hb hR 23 0 (by decide) vl_23 (L := 150) (j := x1 + 5) (x := 1) (fun _ => rfl) (okI_in z32) dX7_reads_177 (fun H locs hR => ?_)
  rw [← ef33] at hR
  refine lv_aload_n hx hb dX7_reads_178 rfl (lv_at hl 0 rfl) ?_
  refine lv_bipush (v := 111) hx hb dX7_reads_179 (by decide) ?_
  obtain ⟨f34, ef34, h⟩ := mm_bind h
  refine mm_callV (v := none) (f1 := f34) (d0 := 1) (rest := []) [.int 111] C0 rfl hR 20 0 (T_X7_eats G ef34) ws_X7_eats lk_188 hd_X7_eats ⟨by decide, by decide⟩ vl_20 rfl rfl rfl hl.1 rfl (Nat.le_of_ble_eq_true rfl) dX7_reads_181 (fun H locs hR => ?_)
  refine W.eq (g2 := F0 m 184 ls ([])) rfl ?_
  refine lv_aload_n hx hb dX7_reads_184 rfl (lv_at hl 0 rfl) ?_
  refine lv_bipush (v := 114) hx hb dX7_reads_185 (by decide) ?_
  obtain ⟨f35, ef35, h⟩ := mm_bind h
  refine mm_callV (v := none) (f1 := f35) (d0 := 1) (rest := []) [.int 114] C0 rfl hR 20 0 (T_X7_eats G ef35) ws_X7_eats lk_188 hd_X7_eats ⟨by decide, by decide⟩ vl_20 rfl rfl rfl hl.1 rfl (Nat.le_of_ble_eq_true rfl) dX7_reads_187 (fun H locs hR => ?_)
  refine W.eq (g2 := F0 m 190 ls ([])) rfl ?_
  refine lv_goto (tgt := 203) hx hb dX7_reads_190 (by decide) ?_
  exact L_X7_reads_203 C0 hk70 h _ _ _ hR (lv_sub hl [0, 1, 2] rfl)
def S_X7_reads_70 : Nat → F3 → Int32 → Option F3
  | 0, _, _ => none
  | n + 1, f, x1 => if (f 20 0 29) = 0 then (if (f 20 0 27) ≤ (f 20 0 28) then (some f) else (if okI (x1 + 4) 150 then (if (f 23 0 (x1 + 4).toNatClampNeg) = 3 then (mm_let (up f 20 0 29 1) fun f30 => some f30) else (Option.bind (S_X7_eats f 32) fun f19 => if (f 23 0 (x1 + 4).toNatClampNeg) = 0 then (Option.bind (S_X7_eats f19 105) fun f28 => Option.bind (S_X7_eats f28 102) fun f29 => S_X7_reads_203 (fun f9 x1_ => S_X7_reads_70 n f9 x1_) f29 x1 (f 23 0 (x1 + 4).toNatClampNeg)) else (if (f19 20 0 29) = 0 then (if (f 23 0 (x1 + 4).toNatClampNeg) = 1 then (mm_b2 (S_X7_here f19) fun r26 f25 => if r26 = 111 then (S_X7_reads_169 (fun f9 x1_ => S_X7_reads_70 n f9 x1_) f25 x1 (f 23 0 (x1 + 4).toNatClampNeg)) else (S_X7_reads_193 (fun f9 x1_ => S_X7_reads_70 n f9 x1_) f25 x1 (f 23 0 (x1 + 4).toNatClampNeg))) else (if okI (x1 + 5) 150 then (if (f19 23 0 (x1 + 5).toNatClampNeg) = 1 then (S_X7_reads_169 (fun f9 x1_ => S_X7_reads_70 n f9 x1_) f19 x1 (f 23 0 (x1 + 4).toNatClampNeg)) else (S_X7_reads_193 (fun f9 x1_ => S_X7_reads_70 n f9 x1_) f19 x1 (f 23 0 (x1 + 4).toNatClampNeg))) else none)) else (S_X7_reads_193 (fun f9 x1_ => S_X7_reads_70 n f9 x1_) f19 x1 (f 23 0 (x1 + 4).toNatClampNeg))))) else none)) else (some f)
set_option maxHeartbeats 4000000 in
set_option maxRecDepth 100000 in
theorem L_X7_reads_70 {G : mmG} {p : Program} {e : Env} {s : State} {m : MethodId} {args : Array Value} {below : List Frame} {meth : Method} {c : Code} {f' : F3} (C0 : mmC yX7_reads cX7_reads 3 none p s m args meth c) : ∀ (n : Nat) {f : F3} {x1 : Int32} , S_X7_reads_70 n f x1 = some f' → ∀ (H : Heap) (locs : List Loc) (ls : Array Slot), mm_R G mm_NT f (GG f) s H locs → lv_has ls 3 [(0, .ref (ra G 20 0)), (1, .int x1)] → W p G.1 e (mm_rm 5) s m args below meth c H locs 0 0 (MQ below (mm_Q G mm_NT none f' (GG f')) args s 0 0 (mm_A G)) (F0 m 70 ls []) := by
  obtain ⟨hx, hb, hml, hr, hown, hts, hlocks⟩ := id C0
  intro n
  induction n with
  | zero =>
    intro f x1  h H locs ls hR hl
    cases h
  | succ n ih =>
    intro f x1  h H locs ls hR hl
    rw [S_X7_reads_70] at h
    refine lv_aload_n hx hb dX7_reads_70 rfl (lv_at hl 0 rfl) ?_
    refine mm_get hx hb hts hown hR 20 0 29 vl_20 (v := .int (f 20 0 29)) rfl rfl iX7 (by decide) lk_186 rfl dX7_reads_71 ?_
    refine lv_if_ne (tgt := 236) hx hb dX7_reads_74 (by decide) (fun c15 => ?_) (fun c15 => ?_)
    · rw [if_neg c15] at h
      obtain rfl := mm_p1 h
      exact mm_vret C0 hR dX7_reads_236
    · rw [if_pos c15] at h
      refine lv_aload_n hx hb dX7_reads_77 rfl (lv_at hl 0 rfl) ?_
      refine mm_get hx hb hts hown hR 20 0 28 vl_20 (v := .int (f 20 0 28)) rfl rfl iX7 (by decide) lk_183 rfl dX7_reads_78 ?_
      refine lv_aload_n hx hb dX7_reads_81 rfl (lv_at hl 0 rfl) ?_
      refine mm_get hx hb hts hown hR 20 0 27 vl_20 (v := .int (f 20 0 27)) rfl rfl iX7 (by decide) lk_180 rfl dX7_reads_82 ?_
      refine lv_icmp_ge (tgt := 236) hx hb dX7_reads_85 (by decide) (fun c16 => ?_) (fun c16 => ?_)
      · rw [if_pos c16] at h
        obtain rfl := mm_p1 h
        exact mm_vret C0 hR dX7_reads_236
      · rw [if_neg c16] at h
        refine lv_aload_n hx hb dX7_reads_88 rfl (lv_at hl 0 rfl) ?_
        refine mm_get hx hb hts hown hR 20 0 22 vl_20 (v := .ref (ra G 23 0)) rfl rfl iX7 (by decide) lk_161 rfl dX7_reads_89 ?_
        refine lv_iload_n hx hb dX7_reads_92 rfl (lv_at hl 1 rfl) ?_
        refine lv_iconst (v := 4) hx hb dX7_reads_93 (by decide) ?_
        refine lv_iadd hx hb dX7_reads_94 ?_
        obtain ⟨z17, h⟩ := mm_if h
        refine mm_ild hx hb hR 23 0 vl_23 (L := 150) rfl (okI_in z17) dX7_reads_95 ?_
        refine lv_istore_n (lv' := [(2, .int (f 23 0 (x1 + 4).toNatClampNeg)), (0, .ref (ra G 20 0)), (1, .int x1)]) hx hb dX7_reads_96 rfl hl (by decide) rfl (fun ls hl => ?_)
        refine lv_iload_n hx hb dX7_reads_97 rfl (lv_at hl 0 rfl) ?_
        refine lv_iconst (v := 3) hx hb dX7_reads_98 (by decide) ?_
        refine lv_icmp_ne (tgt := 108) hx hb dX7_reads_99 (by decide) (fun c18 => ?_) (fun c18 => ?_)
        · rw [if_neg c18] at h
          refine lv_aload_n hx hb dX7_reads_108 rfl (lv_at hl 1 rfl) ?_
          refine lv_bipush (v := 32) hx hb dX7_reads_109 (by decide) ?_
          obtain ⟨f19, ef19, h⟩ := mm_bind h
          refine mm_callV (v := none) (f1 := f19) (d0 := 1) (rest := []) [.int 32] C0 rfl hR 20 0 (T_X7_eats G ef19) ws_X7_eats lk_188 hd_X7_eats ⟨by decide, by decide⟩ vl_20 rfl rfl rfl hl.1 rfl (Nat.le_of_ble_eq_true rfl) dX7_reads_111 (fun H locs hR => ?_)
          refine W.eq (g2 := F0 m 114 ls ([])) rfl ?_
          refine lv_iload_n hx hb dX7_reads_114 rfl (lv_at hl 0 rfl) ?_
          refine lv_if_ne (tgt := 133) hx hb dX7_reads_115 (by decide) (fun c20 => ?_) (fun c20 => ?_)
          · rw [if_neg c20] at h
            refine lv_aload_n hx hb dX7_reads_133 rfl (lv_at hl 1 rfl) ?_
            refine mm_get hx hb hts hown hR 20 0 29 vl_20 (v := .int (f19 20 0 29)) rfl rfl iX7 (by decide) lk_186 rfl dX7_reads_134 ?_
            refine lv_if_ne (tgt := 193) hx hb dX7_reads_137 (by decide) (fun c21 => ?_) (fun c21 => ?_)
            · rw [if_neg c21] at h
              exact L_X7_reads_193 C0 (fun _ _ h9 H9 locs9 ls9 hR9 hl9 => ih h9 _ _ _ hR9 hl9) h _ _ _ hR (lv_sub hl [1, 2, 0] rfl)
            · rw [if_pos c21] at h
              refine lv_iload_n hx hb dX7_reads_140 rfl (lv_at hl 0 rfl) ?_
              refine lv_iconst (v := 1) hx hb dX7_reads_141 (by decide) ?_
              refine lv_icmp_ne (tgt := 157) hx hb dX7_reads_142 (by decide) (fun c22 => ?_) (fun c22 => ?_)
              · rw [if_neg c22] at h
                refine lv_aload_n hx hb dX7_reads_157 rfl (lv_at hl 1 rfl) ?_
                refine mm_get hx hb hts hown hR 20 0 22 vl_20 (v := .ref (ra G 23 0)) rfl rfl iX7 (by decide) lk_161 rfl dX7_reads_158 ?_
                refine lv_iload_n hx hb dX7_reads_161 rfl (lv_at hl 2 rfl) ?_
                refine lv_iconst (v := 5) hx hb dX7_reads_162 (by decide) ?_
                refine lv_iadd hx hb dX7_reads_163 ?_
                obtain ⟨z23, h⟩ := mm_if h
                refine mm_ild hx hb hR 23 0 vl_23 (L := 150) rfl (okI_in z23) dX7_reads_164 ?_
                refine lv_iconst (v := 1) hx hb dX7_reads_165 (by decide) ?_
                refine lv_icmp_ne (tgt := 193) hx hb dX7_reads_166 (by decide) (fun c24 => ?_) (fun c24 => ?_)
                · rw [if_neg c24] at h
                  exact L_X7_reads_193 C0 (fun _ _ h9 H9 locs9 ls9 hR9 hl9 => ih h9 _ _ _ hR9 hl9) h _ _ _ hR (lv_sub hl [1, 2, 0] rfl)
                · rw [if_pos c24] at h
                  exact L_X7_reads_169 C0 (fun _ _ h9 H9 locs9 ls9 hR9 hl9 => ih h9 _ _ _ hR9 hl9) h _ _ _ hR (lv_sub hl [1, 2, 0] rfl)
              · rw [if_pos c22] at h
                refine lv_aload_n hx hb dX7_reads_145 rfl (lv_at hl 1 rfl) ?_
                obtain ⟨r26, f25, ef25, h⟩ := mm_b2e h
                refine mm_callV (v := some (.int r26)) (f1 := f25) (d0 := 0) (rest := []) [] C0 rfl hR 20 0 (T_X7_here G ef25) ws_X7_here lk_187 hd_X7_here ⟨by decide, by decide⟩ vl_20 rfl rfl rfl hl.1 rfl (Nat.le_of_ble_eq_true rfl) dX7_reads_146 (fun H locs hR => ?_)
                refine W.eq (g2 := F0 m 149 ls (.int r26 :: [])) rfl ?_
                refine lv_bipush (v := 111) hx hb dX7_reads_149 (by decide) ?_
                refine lv_icmp_ne (tgt := 193) hx hb dX7_reads_151 (by decide) (fun c27 => ?_) (fun c27 => ?_)
                · rw [if_neg c27] at h
                  exact L_X7_reads_193 C0 (fun _ _ h9 H9 locs9 ls9 hR9 hl9 => ih h9 _ _ _ hR9 hl9) h _ _ _ hR (lv_sub hl [1, 2, 0] rfl)
                · rw [if_pos c27] at h
                  refine lv_goto (tgt := 169) hx hb dX7_reads_154 (by decide) ?_
                  exact L_X7_reads_169 C0 (fun _ _ h9 H9 locs9 ls9 hR9 hl9 => ih h9 _ _ _ hR9 hl9) h _ _ _ hR (lv_sub hl [1, 2, 0] rfl)
          · rw [if_pos c20] at h
            refine lv_aload_n hx hb dX7_reads_118 rfl (lv_at hl 1 rfl) ?_
            refine lv_bipush (v := 105) hx hb dX7_reads_119 (by decide) ?_
            obtain ⟨f28, ef28, h⟩ := mm_bind h
            refine mm_callV (v := none) (f1 := f28) (d0 := 1) (rest := []) [.int 105] C0 rfl hR 20 0 (T_X7_eats G ef28) ws_X7_eats lk_188 hd_X7_eats ⟨by decide, by decide⟩ vl_20 rfl rfl rfl hl.1 rfl (Nat.le_of_ble_eq_true rfl) dX7_reads_121 (fun H locs hR => ?_)
            refine W.eq (g2 := F0 m 124 ls ([])) rfl ?_
            refine lv_aload_n hx hb dX7_reads_124 rfl (lv_at hl 1 rfl) ?_
            refine lv_bipush (v := 102) hx hb dX7_reads_125 (by decide) ?_
            obtain ⟨f29, ef29, h⟩ := mm_bind h
            refine mm_callV (v := none) (f1 := f29) (d0 := 1) (rest := []) [.int 102] C0 rfl hR 20 0 (T_X7_eats G ef29) ws_X7_eats lk_188 hd_X7_eats ⟨by decide, by decide⟩ vl_20 rfl rfl rfl hl.1 rfl (Nat.le_of_ble_eq_true rfl) dX7_reads_127 (fun H locs hR => ?_)
            refine W.eq (g2 := F0 m 130 ls ([])) rfl ?_
            refine lv_goto (tgt := 203) hx hb dX7_reads_130 (by decide) ?_
            exact L_X7_reads_203 C0 (fun _ _ h9 H9 locs9 ls9 hR9 hl9 => ih h9 _ _ _ hR9 hl9) h _ _ _ hR (lv_sub hl [1, 2, 0] rfl)
        · rw [if_pos c18] at h
          refine lv_aload_n hx hb dX7_reads_102 rfl (lv_at hl 1 rfl) ?_
          refine lv_iconst (v := 1) hx hb dX7_reads_103 (by decide) ?_
          obtain ⟨f30, ef30, h⟩ := mm_lt h
          refine mm_put hx hb hts hown hR 20 0 29 (by decide) vl_20 (x := 1) rfl rfl iX7 tyX7 tyX7_ok nmX7 (by decide) lk_186 rfl rfl rfl (Nat.le_of_ble_eq_true rfl) rfl dX7_reads_104 (fun H locs hR => ?_)
          rw [← ef30] at hR
          obtain rfl := mm_p1 h
          exact mm_vret C0 hR dX7_reads_107
def S_X7_reads (f : F3)  : Option F3 := mm_let (up f 20 0 28 0) fun f1 => mm_let (up f1 20 0 29 0) fun f2 => mm_b2 (S_X7_key f2) fun r4 f3 => if okI ((15 * (f 20 0 21)) + 2) 150 then (mm_let (up f3 23 0 ((15 * (f 20 0 21)) + 2).toNatClampNeg r4) fun f6 => Option.bind (S_X7_eats f6 32) fun f7 => Option.bind (S_X7_digits f7) fun f8 => if okI ((15 * (f 20 0 21)) + 3) 150 then (mm_let (up f8 23 0 ((15 * (f 20 0 21)) + 3).toNatClampNeg (f8 20 0 30)) fun f10 => if okI ((15 * (f 20 0 21)) + 4) 150 then (mm_let (up f10 23 0 ((15 * (f 20 0 21)) + 4).toNatClampNeg 0) fun f12 => if okI ((15 * (f 20 0 21)) + 5) 150 then (mm_let (up f12 23 0 ((15 * (f 20 0 21)) + 5).toNatClampNeg 0) fun f14 => S_X7_reads_70 FU f14 (15 * (f 20 0 21))) else none) else none) else none) else none
set_option maxHeartbeats 4000000 in
set_option maxRecDepth 100000 in
theorem T_X7_reads (G : mmG) {f f' : F3} (h : S_X7_reads f = some f') : mmM G yX7_reads cX7_reads 3 none 5 [.ref (ra G 20 0)] f none f' := by
  refine mm_start (by decide +kernel) (Nat.le_of_ble_eq_true rfl) ?_
  intro p e s m args below meth c ls C0 hR hl
  obtain ⟨hx, hb, hml, hr, hown, hts, hlocks⟩ := id C0
  have hl : lv_has ls 3 [(0, .ref (ra G 20 0))] := hl
  rw [S_X7_reads] at h
  refine lv_bipush (v := 15) hx hb dX7_reads_0 (by decide) ?_
  refine lv_aload_n hx hb dX7_reads_2 rfl (lv_at hl 0 rfl) ?_
  refine mm_get hx hb hts hown hR 20 0 21 vl_20 (v := .int (f 20 0 21)) rfl rfl iX7 (by decide) lk_163 rfl dX7_reads_3 ?_
  refine lv_imul hx hb dX7_reads_6 ?_
  refine lv_istore_n (lv' := [(1, .int (15 * (f 20 0 21))), (0, .ref (ra G 20 0))]) hx hb dX7_reads_7 rfl hl (by decide) rfl (fun ls hl => ?_)
  refine lv_aload_n hx hb dX7_reads_8 rfl (lv_at hl 1 rfl) ?_
  refine lv_iconst (v := 0) hx hb dX7_reads_9 (by decide) ?_
  obtain ⟨f1, ef1, h⟩ := mm_lt h
  refine mm_put hx hb hts hown hR 20 0 28 (by decide) vl_20 (x := 0) rfl rfl iX7 tyX7 tyX7_ok nmX7 (by decide) lk_183 rfl rfl rfl (Nat.le_of_ble_eq_true rfl) rfl dX7_reads_10 (fun H locs hR => ?_)
  rw [← ef1] at hR
  refine lv_aload_n hx hb dX7_reads_13 rfl (lv_at hl 1 rfl) ?_
  refine lv_iconst (v := 0) hx hb dX7_reads_14 (by decide) ?_
  obtain ⟨f2, ef2, h⟩ := mm_lt h
  refine mm_put hx hb hts hown hR 20 0 29 (by decide) vl_20 (x := 0) rfl rfl iX7 tyX7 tyX7_ok nmX7 (by decide) lk_186 rfl rfl rfl (Nat.le_of_ble_eq_true rfl) rfl dX7_reads_15 (fun H locs hR => ?_)
  rw [← ef2] at hR
  refine lv_aload_n hx hb dX7_reads_18 rfl (lv_at hl 1 rfl) ?_
  refine mm_get hx hb hts hown hR 20 0 22 vl_20 (v := .ref (ra G 23 0)) rfl rfl iX7 (by decide) lk_161 rfl dX7_reads_19 ?_
  refine lv_iload_n hx hb dX7_reads_22 rfl (lv_at hl 0 rfl) ?_
  refine lv_iconst (v := 2) hx hb dX7_reads_23 (by decide) ?_
  refine lv_iadd hx hb dX7_reads_24 ?_
  refine lv_aload_n hx hb dX7_reads_25 rfl (lv_at hl 1 rfl) ?_
  obtain ⟨r4, f3, ef3, h⟩ := mm_b2e h
  refine mm_callV (v := some (.int r4)) (f1 := f3) (d0 := 3) (rest := [.int ((15 * (f 20 0 21)) + 2), .ref (ra G 23 0)]) [] C0 rfl hR 20 0 (T_X7_key G ef3) ws_X7_key lk_201 hd_X7_key ⟨by decide, by decide⟩ vl_20 rfl rfl rfl hl.1 rfl (Nat.le_of_ble_eq_true rfl) dX7_reads_26 (fun H locs hR => ?_)
  refine W.eq (g2 := F0 m 29 ls (.int r4 :: .int ((15 * (f 20 0 21)) + 2) :: .ref (ra G 23 0) :: [])) rfl ?_
  obtain ⟨z5, h⟩ := mm_if h
  obtain ⟨f6, ef6, h⟩ := mm_lt h
  refine mm_ist hx hb hR 23 0 (by decide) vl_23 (L := 150) (j := (15 * (f 20 0 21)) + 2) (x := r4) (fun _ => rfl) (okI_in z5) dX7_reads_29 (fun H locs hR => ?_)
  rw [← ef6] at hR
  refine lv_aload_n hx hb dX7_reads_30 rfl (lv_at hl 1 rfl) ?_
  refine lv_bipush (v := 32) hx hb dX7_reads_31 (by decide) ?_
  obtain ⟨f7, ef7, h⟩ := mm_bind h
  refine mm_callV (v := none) (f1 := f7) (d0 := 1) (rest := []) [.int 32] C0 rfl hR 20 0 (T_X7_eats G ef7) ws_X7_eats lk_188 hd_X7_eats ⟨by decide, by decide⟩ vl_20 rfl rfl rfl hl.1 rfl (Nat.le_of_ble_eq_true rfl) dX7_reads_33 (fun H locs hR => ?_)
  refine W.eq (g2 := F0 m 36 ls ([])) rfl ?_
  refine lv_aload_n hx hb dX7_reads_36 rfl (lv_at hl 1 rfl) ?_
  obtain ⟨f8, ef8, h⟩ := mm_bind h
  refine mm_callV (v := none) (f1 := f8) (d0 := 1) (rest := []) [] C0 rfl hR 20 0 (T_X7_digits G ef8) ws_X7_digits lk_200 hd_X7_digits ⟨by decide, by decide⟩ vl_20 rfl rfl rfl hl.1 rfl (Nat.le_of_ble_eq_true rfl) dX7_reads_37 (fun H locs hR => ?_)
  refine W.eq (g2 := F0 m 40 ls ([])) rfl ?_
  refine lv_aload_n hx hb dX7_reads_40 rfl (lv_at hl 1 rfl) ?_
  refine mm_get hx hb hts hown hR 20 0 22 vl_20 (v := .ref (ra G 23 0)) rfl rfl iX7 (by decide) lk_161 rfl dX7_reads_41 ?_
  refine lv_iload_n hx hb dX7_reads_44 rfl (lv_at hl 0 rfl) ?_
  refine lv_iconst (v := 3) hx hb dX7_reads_45 (by decide) ?_
  refine lv_iadd hx hb dX7_reads_46 ?_
  refine lv_aload_n hx hb dX7_reads_47 rfl (lv_at hl 1 rfl) ?_
  refine mm_get hx hb hts hown hR 20 0 30 vl_20 (v := .int (f8 20 0 30)) rfl rfl iX7 (by decide) lk_185 rfl dX7_reads_48 ?_
  obtain ⟨z9, h⟩ := mm_if h
  obtain ⟨f10, ef10, h⟩ := mm_lt h
  refine mm_ist hx hb hR 23 0 (by decide) vl_23 (L := 150) (j := (15 * (f 20 0 21)) + 3) (x := f8 20 0 30) (fun _ => rfl) (okI_in z9) dX7_reads_51 (fun H locs hR => ?_)
  rw [← ef10] at hR
  refine lv_aload_n hx hb dX7_reads_52 rfl (lv_at hl 1 rfl) ?_
  refine mm_get hx hb hts hown hR 20 0 22 vl_20 (v := .ref (ra G 23 0)) rfl rfl iX7 (by decide) lk_161 rfl dX7_reads_53 ?_
  refine lv_iload_n hx hb dX7_reads_56 rfl (lv_at hl 0 rfl) ?_
  refine lv_iconst (v := 4) hx hb dX7_reads_57 (by decide) ?_
  refine lv_iadd hx hb dX7_reads_58 ?_
  refine lv_iconst (v := 0) hx hb dX7_reads_59 (by decide) ?_
  obtain ⟨z11, h⟩ := mm_if h
  obtain ⟨f12, ef12, h⟩ := mm_lt h
  refine mm_ist hx hb hR 23 0 (by decide) vl_23 (L := 150) (j := (15 * (f 20 0 21)) + 4) (x := 0) (fun _ => rfl) (okI_in z11) dX7_reads_60 (fun H locs hR => ?_)
  rw [← ef12] at hR
  refine lv_aload_n hx hb dX7_reads_61 rfl (lv_at hl 1 rfl) ?_
  refine mm_get hx hb hts hown hR 20 0 22 vl_20 (v := .ref (ra G 23 0)) rfl rfl iX7 (by decide) lk_161 rfl dX7_reads_62 ?_
  refine lv_iload_n hx hb dX7_reads_65 rfl (lv_at hl 0 rfl) ?_
  refine lv_iconst (v := 5) hx hb dX7_reads_66 (by decide) ?_
  refine lv_iadd hx hb dX7_reads_67 ?_
  refine lv_iconst (v := 0) hx hb dX7_reads_68 (by decide) ?_
  obtain ⟨z13, h⟩ := mm_if h
  obtain ⟨f14, ef14, h⟩ := mm_lt h
  refine mm_ist hx hb hR 23 0 (by decide) vl_23 (L := 150) (j := (15 * (f 20 0 21)) + 5) (x := 0) (fun _ => rfl) (okI_in z13) dX7_reads_69 (fun H locs hR => ?_)
  rw [← ef14] at hR
  exact L_X7_reads_70 C0 _ h _ _ _ hR (lv_sub hl [1, 0] rfl)
def S_X7_row (f : F3) (x1 : Int32) : Option (Int32 × F3) := if (f 20 0 31) = 0 then (mm_b2 (S_X7_nought f (-2)) fun r9 f8 => some (r9, f8)) else (mm_b2 (S_X7_in f x1 0 47) fun r3 f2 => if r3 = 0 then (mm_b2 (S_X7_nought f2 (-3)) fun r6 f5 => some (r6, f5)) else (if okI x1 48 then (some (f2 27 0 x1.toNatClampNeg, f2)) else none))
set_option maxHeartbeats 4000000 in
set_option maxRecDepth 100000 in
theorem T_X7_row (G : mmG) {f f' : F3} {rv : Int32} {x1 : Int32} (h : S_X7_row f x1 = some (rv, f')) : mmM G yX7_row cX7_row 2 (some .int) 1 [.ref (ra G 20 0), .int x1] f (some (.int rv)) f' := by
  refine mm_start (by decide +kernel) (Nat.le_of_ble_eq_true rfl) ?_
  intro p e s m args below meth c ls C0 hR hl
  obtain ⟨hx, hb, hml, hr, hown, hts, hlocks⟩ := id C0
  have hl : lv_has ls 2 [(0, .ref (ra G 20 0)), (1, .int x1)] := hl
  rw [S_X7_row] at h
  refine lv_aload_n hx hb dX7_row_0 rfl (lv_at hl 0 rfl) ?_
  refine mm_get hx hb hts hown hR 20 0 31 vl_20 (v := .int (f 20 0 31)) rfl rfl iX7 (by decide) lk_173 rfl dX7_row_1 ?_
  refine lv_if_ne (tgt := 14) hx hb dX7_row_4 (by decide) (fun c1 => ?_) (fun c1 => ?_)
  · rw [if_neg c1] at h
    refine lv_iload_n hx hb dX7_row_14 rfl (lv_at hl 1 rfl) ?_
    refine lv_iconst (v := 0) hx hb dX7_row_15 (by decide) ?_
    refine lv_bipush (v := 47) hx hb dX7_row_16 (by decide) ?_
    obtain ⟨r3, f2, ef2, h⟩ := mm_b2e h
    refine mm_callS (v := some (.int r3)) (f1 := f2) (d0 := 0) (rest := []) [.int x1, .int 0, .int 47] C0 rfl hR (T_X7_in G ef2) ws_X7_in lk_144 hd_X7_in ⟨by decide, by decide⟩ hl.1 rfl (Nat.le_of_ble_eq_true rfl) dX7_row_18 (fun H locs hR => ?_)
    refine W.eq (g2 := F0 m 21 ls (.int r3 :: [])) rfl ?_
    refine lv_if_eq (tgt := 33) hx hb dX7_row_21 (by decide) (fun c4 => ?_) (fun c4 => ?_)
    · rw [if_pos c4] at h
      refine lv_aload_n hx hb dX7_row_33 rfl (lv_at hl 0 rfl) ?_
      refine lv_bipush (v := (-3)) hx hb dX7_row_34 (by decide) ?_
      obtain ⟨r6, f5, ef5, h⟩ := mm_b2e h
      refine mm_callV (v := some (.int r6)) (f1 := f5) (d0 := 0) (rest := []) [.int (-3)] C0 rfl hR 20 0 (T_X7_nought G ef5) ws_X7_nought lk_196 hd_X7_nought ⟨by decide, by decide⟩ vl_20 rfl rfl rfl hl.1 rfl (Nat.le_of_ble_eq_true rfl) dX7_row_36 (fun H locs hR => ?_)
      refine W.eq (g2 := F0 m 39 ls (.int r6 :: [])) rfl ?_
      obtain ⟨rfl, rfl⟩ := mm_pr h
      exact mm_iret C0 hR dX7_row_39
    · rw [if_neg c4] at h
      refine lv_aload_n hx hb dX7_row_24 rfl (lv_at hl 0 rfl) ?_
      refine mm_get hx hb hts hown hR 20 0 32 vl_20 (v := .ref (ra G 27 0)) rfl rfl iX7 (by decide) lk_174 rfl dX7_row_25 ?_
      refine lv_iload_n hx hb dX7_row_28 rfl (lv_at hl 1 rfl) ?_
      obtain ⟨z7, h⟩ := mm_if h
      refine mm_ild hx hb hR 27 0 vl_27 (L := 48) rfl (okI_in z7) dX7_row_29 ?_
      refine lv_goto (tgt := 39) hx hb dX7_row_30 (by decide) ?_
      obtain ⟨rfl, rfl⟩ := mm_pr h
      exact mm_iret C0 hR dX7_row_39
  · rw [if_pos c1] at h
    refine lv_aload_n hx hb dX7_row_7 rfl (lv_at hl 0 rfl) ?_
    refine lv_bipush (v := (-2)) hx hb dX7_row_8 (by decide) ?_
    obtain ⟨r9, f8, ef8, h⟩ := mm_b2e h
    refine mm_callV (v := some (.int r9)) (f1 := f8) (d0 := 0) (rest := []) [.int (-2)] C0 rfl hR 20 0 (T_X7_nought G ef8) ws_X7_nought lk_196 hd_X7_nought ⟨by decide, by decide⟩ vl_20 rfl rfl rfl hl.1 rfl (Nat.le_of_ble_eq_true rfl) dX7_row_10 (fun H locs hR => ?_)
    refine W.eq (g2 := F0 m 13 ls (.int r9 :: [])) rfl ?_
    obtain ⟨rfl, rfl⟩ := mm_pr h
    exact mm_iret C0 hR dX7_row_13
def S_X7_rule_25 (f : F3)  : Option (Int32 × F3) := mm_b2 (S_X7_refuse f (-7)) fun r20 f19 => some (r20, f19)
set_option maxHeartbeats 4000000 in
set_option maxRecDepth 100000 in
theorem L_X7_rule_25 {G : mmG} {p : Program} {e : Env} {s : State} {m : MethodId} {args : Array Value} {below : List Frame} {meth : Method} {c : Code} {f' : F3} {rv : Int32} (C0 : mmC yX7_rule cX7_rule 3 (some .int) p s m args meth c) {f : F3} (h : S_X7_rule_25 f = some (rv, f')) (H : Heap) (locs : List Loc) (ls : Array Slot) (hR : mm_R G mm_NT f (GG f) s H locs) (hl : lv_has ls 3 [(0, .ref (ra G 20 0))]) : W p G.1 e (mm_rm 6) s m args below meth c H locs 0 0 (MQ below (mm_Q G mm_NT (some (.int rv)) f' (GG f')) args s 0 0 (mm_A G)) (F0 m 25 ls []) := by
  obtain ⟨hx, hb, hml, hr, hown, hts, hlocks⟩ := id C0
  rw [S_X7_rule_25] at h
  refine lv_aload_n hx hb dX7_rule_25 rfl (lv_at hl 0 rfl) ?_
  refine lv_bipush (v := (-7)) hx hb dX7_rule_26 (by decide) ?_
  obtain ⟨r20, f19, ef19, h⟩ := mm_b2e h
  refine mm_callV (v := some (.int r20)) (f1 := f19) (d0 := 0) (rest := []) [.int (-7)] C0 rfl hR 20 0 (T_X7_refuse G ef19) ws_X7_refuse lk_147 hd_X7_refuse ⟨by decide, by decide⟩ vl_20 rfl rfl rfl hl.1 rfl (Nat.le_of_ble_eq_true rfl) dX7_rule_28 (fun H locs hR => ?_)
  refine W.eq (g2 := F0 m 31 ls (.int r20 :: [])) rfl ?_
  obtain ⟨rfl, rfl⟩ := mm_pr h
  exact mm_iret C0 hR dX7_rule_31
def S_X7_rule (f : F3) (x1 : Int32) (x2 : Int32) : Option (Int32 × F3) := mm_b2 (S_X7_in f x1 0 100000) fun r2 f1 => if r2 = 0 then (S_X7_rule_25 f1 ) else (mm_b2 (S_X7_in f1 x2 0 100000) fun r5 f4 => if r5 = 0 then (S_X7_rule_25 f4 ) else (if x1 < x2 then (if (f4 20 0 21) = 10 then (mm_b2 (S_X7_refuse f4 (-8)) fun r18 f17 => some (r18, f17)) else (Option.bind (S_X7_reads f4) fun f9 => if (f9 20 0 29) = 0 then (if okI (15 * (f9 20 0 21)) 150 then (mm_let (up f9 23 0 (15 * (f9 20 0 21)).toNatClampNeg x1) fun f12 => if okI ((15 * (f12 20 0 21)) + 1) 150 then (mm_let (up f12 23 0 ((15 * (f12 20 0 21)) + 1).toNatClampNeg x2) fun f14 => mm_let (up f14 20 0 27 0) fun f15 => mm_let (up f15 20 0 21 ((f15 20 0 21) + 1)) fun f16 => some ((f16 20 0 21) - 1, f16)) else none) else none) else (some ((-10) - (f9 20 0 28), f9)))) else (S_X7_rule_25 f4 )))
set_option maxHeartbeats 4000000 in
set_option maxRecDepth 100000 in
theorem T_X7_rule (G : mmG) {f f' : F3} {rv : Int32} {x1 : Int32} {x2 : Int32} (h : S_X7_rule f x1 x2 = some (rv, f')) : mmM G yX7_rule cX7_rule 3 (some .int) 6 [.ref (ra G 20 0), .int x1, .int x2] f (some (.int rv)) f' := by
  refine mm_start (by decide +kernel) (Nat.le_of_ble_eq_true rfl) ?_
  intro p e s m args below meth c ls C0 hR hl
  obtain ⟨hx, hb, hml, hr, hown, hts, hlocks⟩ := id C0
  have hl : lv_has ls 3 [(0, .ref (ra G 20 0)), (1, .int x1), (2, .int x2)] := hl
  rw [S_X7_rule] at h
  refine lv_iload_n hx hb dX7_rule_0 rfl (lv_at hl 1 rfl) ?_
  refine lv_iconst (v := 0) hx hb dX7_rule_1 (by decide) ?_
  refine lv_ldc (v := 100000) hx hb hown (hts _ lk_203) dX7_rule_2 ?_
  obtain ⟨r2, f1, ef1, h⟩ := mm_b2e h
  refine mm_callS (v := some (.int r2)) (f1 := f1) (d0 := 0) (rest := []) [.int x1, .int 0, .int 100000] C0 rfl hR (T_X7_in G ef1) ws_X7_in lk_144 hd_X7_in ⟨by decide, by decide⟩ hl.1 rfl (Nat.le_of_ble_eq_true rfl) dX7_rule_4 (fun H locs hR => ?_)
  refine W.eq (g2 := F0 m 7 ls (.int r2 :: [])) rfl ?_
  refine lv_if_eq (tgt := 25) hx hb dX7_rule_7 (by decide) (fun c3 => ?_) (fun c3 => ?_)
  · rw [if_pos c3] at h
    exact L_X7_rule_25 C0 h _ _ _ hR (lv_sub hl [0] rfl)
  · rw [if_neg c3] at h
    refine lv_iload_n hx hb dX7_rule_10 rfl (lv_at hl 2 rfl) ?_
    refine lv_iconst (v := 0) hx hb dX7_rule_11 (by decide) ?_
    refine lv_ldc (v := 100000) hx hb hown (hts _ lk_203) dX7_rule_12 ?_
    obtain ⟨r5, f4, ef4, h⟩ := mm_b2e h
    refine mm_callS (v := some (.int r5)) (f1 := f4) (d0 := 0) (rest := []) [.int x2, .int 0, .int 100000] C0 rfl hR (T_X7_in G ef4) ws_X7_in lk_144 hd_X7_in ⟨by decide, by decide⟩ hl.1 rfl (Nat.le_of_ble_eq_true rfl) dX7_rule_14 (fun H locs hR => ?_)
    refine W.eq (g2 := F0 m 17 ls (.int r5 :: [])) rfl ?_
    refine lv_if_eq (tgt := 25) hx hb dX7_rule_17 (by decide) (fun c6 => ?_) (fun c6 => ?_)
    · rw [if_pos c6] at h
      exact L_X7_rule_25 C0 h _ _ _ hR (lv_sub hl [0] rfl)
    · rw [if_neg c6] at h
      refine lv_iload_n hx hb dX7_rule_20 rfl (lv_at hl 1 rfl) ?_
      refine lv_iload_n hx hb dX7_rule_21 rfl (lv_at hl 2 rfl) ?_
      refine lv_icmp_lt (tgt := 32) hx hb dX7_rule_22 (by decide) (fun c7 => ?_) (fun c7 => ?_)
      · rw [if_pos c7] at h
        refine lv_aload_n hx hb dX7_rule_32 rfl (lv_at hl 0 rfl) ?_
        refine mm_get hx hb hts hown hR 20 0 21 vl_20 (v := .int (f4 20 0 21)) rfl rfl iX7 (by decide) lk_163 rfl dX7_rule_33 ?_
        refine lv_bipush (v := 10) hx hb dX7_rule_36 (by decide) ?_
        refine lv_icmp_ne (tgt := 48) hx hb dX7_rule_38 (by decide) (fun c8 => ?_) (fun c8 => ?_)
        · rw [if_neg c8] at h
          refine lv_aload_n hx hb dX7_rule_48 rfl (lv_at hl 0 rfl) ?_
          obtain ⟨f9, ef9, h⟩ := mm_bind h
          refine mm_callV (v := none) (f1 := f9) (d0 := 5) (rest := []) [] C0 rfl hR 20 0 (T_X7_reads G ef9) ws_X7_reads lk_204 hd_X7_reads ⟨by decide, by decide⟩ vl_20 rfl rfl rfl hl.1 rfl (Nat.le_of_ble_eq_true rfl) dX7_rule_49 (fun H locs hR => ?_)
          refine W.eq (g2 := F0 m 52 ls ([])) rfl ?_
          refine lv_aload_n hx hb dX7_rule_52 rfl (lv_at hl 0 rfl) ?_
          refine mm_get hx hb hts hown hR 20 0 29 vl_20 (v := .int (f9 20 0 29)) rfl rfl iX7 (by decide) lk_186 rfl dX7_rule_53 ?_
          refine lv_if_eq (tgt := 67) hx hb dX7_rule_56 (by decide) (fun c10 => ?_) (fun c10 => ?_)
          · rw [if_pos c10] at h
            refine lv_aload_n hx hb dX7_rule_67 rfl (lv_at hl 0 rfl) ?_
            refine mm_get hx hb hts hown hR 20 0 22 vl_20 (v := .ref (ra G 23 0)) rfl rfl iX7 (by decide) lk_161 rfl dX7_rule_68 ?_
            refine lv_bipush (v := 15) hx hb dX7_rule_71 (by decide) ?_
            refine lv_aload_n hx hb dX7_rule_73 rfl (lv_at hl 0 rfl) ?_
            refine mm_get hx hb hts hown hR 20 0 21 vl_20 (v := .int (f9 20 0 21)) rfl rfl iX7 (by decide) lk_163 rfl dX7_rule_74 ?_
            refine lv_imul hx hb dX7_rule_77 ?_
            refine lv_iload_n hx hb dX7_rule_78 rfl (lv_at hl 1 rfl) ?_
            obtain ⟨z11, h⟩ := mm_if h
            obtain ⟨f12, ef12, h⟩ := mm_lt h
            refine mm_ist hx hb hR 23 0 (by decide) vl_23 (L := 150) (j := 15 * (f9 20 0 21)) (x := x1) (fun _ => rfl) (okI_in z11) dX7_rule_79 (fun H locs hR => ?_)
            rw [← ef12] at hR
            refine lv_aload_n hx hb dX7_rule_80 rfl (lv_at hl 0 rfl) ?_
            refine mm_get hx hb hts hown hR 20 0 22 vl_20 (v := .ref (ra G 23 0)) rfl rfl iX7 (by decide) lk_161 rfl dX7_rule_81 ?_
            refine lv_bipush (v := 15) hx hb dX7_rule_84 (by decide) ?_
            refine lv_aload_n hx hb dX7_rule_86 rfl (lv_at hl 0 rfl) ?_
            refine mm_get hx hb hts hown hR 20 0 21 vl_20 (v := .int (f12 20 0 21)) rfl rfl iX7 (by decide) lk_163 rfl dX7_rule_87 ?_
            refine lv_imul hx hb dX7_rule_90 ?_
            refine lv_iconst (v := 1) hx hb dX7_rule_91 (by decide) ?_
            refine lv_iadd hx hb dX7_rule_92 ?_
            refine lv_iload_n hx hb dX7_rule_93 rfl (lv_at hl 2 rfl) ?_
            obtain ⟨z13, h⟩ := mm_if h
            obtain ⟨f14, ef14, h⟩ := mm_lt h
            refine mm_ist hx hb hR 23 0 (by decide) vl_23 (L := 150) (j := (15 * (f12 20 0 21)) + 1) (x := x2) (fun _ => rfl) (okI_in z13) dX7_rule_94 (fun H locs hR => ?_)
            rw [← ef14] at hR
            refine lv_aload_n hx hb dX7_rule_95 rfl (lv_at hl 0 rfl) ?_
            refine lv_iconst (v := 0) hx hb dX7_rule_96 (by decide) ?_
            obtain ⟨f15, ef15, h⟩ := mm_lt h
            refine mm_put hx hb hts hown hR 20 0 27 (by decide) vl_20 (x := 0) rfl rfl iX7 tyX7 tyX7_ok nmX7 (by decide) lk_180 rfl rfl rfl (Nat.le_of_ble_eq_true rfl) rfl dX7_rule_97 (fun H locs hR => ?_)
            rw [← ef15] at hR
            refine lv_aload_n hx hb dX7_rule_100 rfl (lv_at hl 0 rfl) ?_
            refine lv_dup hx hb dX7_rule_101 rfl ?_
            refine mm_get hx hb hts hown hR 20 0 21 vl_20 (v := .int (f15 20 0 21)) rfl rfl iX7 (by decide) lk_163 rfl dX7_rule_102 ?_
            refine lv_iconst (v := 1) hx hb dX7_rule_105 (by decide) ?_
            refine lv_iadd hx hb dX7_rule_106 ?_
            obtain ⟨f16, ef16, h⟩ := mm_lt h
            refine mm_put hx hb hts hown hR 20 0 21 (by decide) vl_20 (x := (f15 20 0 21) + 1) rfl rfl iX7 tyX7 tyX7_ok nmX7 (by decide) lk_163 rfl rfl rfl (Nat.le_of_ble_eq_true rfl) rfl dX7_rule_107 (fun H locs hR => ?_)
            rw [← ef16] at hR
            refine lv_aload_n hx hb dX7_rule_110 rfl (lv_at hl 0 rfl) ?_
            refine mm_get hx hb hts hown hR 20 0 21 vl_20 (v := .int (f16 20 0 21)) rfl rfl iX7 (by decide) lk_163 rfl dX7_rule_111 ?_
            refine lv_iconst (v := 1) hx hb dX7_rule_114 (by decide) ?_
            refine lv_isub hx hb dX7_rule_115 ?_
            obtain ⟨rfl, rfl⟩ := mm_pr h
            exact mm_iret C0 hR dX7_rule_116
          · rw [if_neg c10] at h
            refine lv_bipush (v := (-10)) hx hb dX7_rule_59 (by decide) ?_
            refine lv_aload_n hx hb dX7_rule_61 rfl (lv_at hl 0 rfl) ?_
            refine mm_get hx hb hts hown hR 20 0 28 vl_20 (v := .int (f9 20 0 28)) rfl rfl iX7 (by decide) lk_183 rfl dX7_rule_62 ?_
            refine lv_isub hx hb dX7_rule_65 ?_
            obtain ⟨rfl, rfl⟩ := mm_pr h
            exact mm_iret C0 hR dX7_rule_66
        · rw [if_pos c8] at h
          refine lv_aload_n hx hb dX7_rule_41 rfl (lv_at hl 0 rfl) ?_
          refine lv_bipush (v := (-8)) hx hb dX7_rule_42 (by decide) ?_
          obtain ⟨r18, f17, ef17, h⟩ := mm_b2e h
          refine mm_callV (v := some (.int r18)) (f1 := f17) (d0 := 0) (rest := []) [.int (-8)] C0 rfl hR 20 0 (T_X7_refuse G ef17) ws_X7_refuse lk_147 hd_X7_refuse ⟨by decide, by decide⟩ vl_20 rfl rfl rfl hl.1 rfl (Nat.le_of_ble_eq_true rfl) dX7_rule_44 (fun H locs hR => ?_)
          refine W.eq (g2 := F0 m 47 ls (.int r18 :: [])) rfl ?_
          obtain ⟨rfl, rfl⟩ := mm_pr h
          exact mm_iret C0 hR dX7_rule_47
      · rw [if_neg c7] at h
        exact L_X7_rule_25 C0 h _ _ _ hR (lv_sub hl [0] rfl)
def S_X7_run_37 : Nat → F3 → Int32 → Int32 → Int32 → Option (Int32 × F3)
  | 0, _, _, _, _ => none
  | n + 1, f, x1, x2, x3 => if x1 ≤ x3 then (mm_b2 (S_X7_many f 2) fun r13 f12 => some (r13 - x2, f12)) else (Option.bind (S_X7_goesBy f) fun f14 => S_X7_run_37 n f14 x1 x2 (x3 + 1))
set_option maxHeartbeats 4000000 in
set_option maxRecDepth 100000 in
theorem L_X7_run_37 {G : mmG} {p : Program} {e : Env} {s : State} {m : MethodId} {args : Array Value} {below : List Frame} {meth : Method} {c : Code} {f' : F3} {rv : Int32} (C0 : mmC yX7_run cX7_run 4 (some .int) p s m args meth c) : ∀ (n : Nat) {f : F3} {x1 : Int32} {x2 : Int32} {x3 : Int32} , S_X7_run_37 n f x1 x2 x3 = some (rv, f') → ∀ (H : Heap) (locs : List Loc) (ls : Array Slot), mm_R G mm_NT f (GG f) s H locs → lv_has ls 4 [(0, .ref (ra G 20 0)), (1, .int x1), (2, .int x2), (3, .int x3)] → W p G.1 e (mm_rm 8) s m args below meth c H locs 0 0 (MQ below (mm_Q G mm_NT (some (.int rv)) f' (GG f')) args s 0 0 (mm_A G)) (F0 m 37 ls []) := by
  obtain ⟨hx, hb, hml, hr, hown, hts, hlocks⟩ := id C0
  intro n
  induction n with
  | zero =>
    intro f x1 x2 x3  h H locs ls hR hl
    cases h
  | succ n ih =>
    intro f x1 x2 x3  h H locs ls hR hl
    rw [S_X7_run_37] at h
    refine lv_iload_n hx hb dX7_run_37 rfl (lv_at hl 3 rfl) ?_
    refine lv_iload_n hx hb dX7_run_38 rfl (lv_at hl 1 rfl) ?_
    refine lv_icmp_ge (tgt := 52) hx hb dX7_run_39 (by decide) (fun c11 => ?_) (fun c11 => ?_)
    · rw [if_pos c11] at h
      refine lv_aload_n hx hb dX7_run_52 rfl (lv_at hl 0 rfl) ?_
      refine lv_iconst (v := 2) hx hb dX7_run_53 (by decide) ?_
      obtain ⟨r13, f12, ef12, h⟩ := mm_b2e h
      refine mm_callV (v := some (.int r13)) (f1 := f12) (d0 := 0) (rest := []) [.int 2] C0 rfl hR 20 0 (T_X7_many G ef12) ws_X7_many lk_182 hd_X7_many ⟨by decide, by decide⟩ vl_20 rfl rfl rfl hl.1 rfl (Nat.le_of_ble_eq_true rfl) dX7_run_54 (fun H locs hR => ?_)
      refine W.eq (g2 := F0 m 57 ls (.int r13 :: [])) rfl ?_
      refine lv_iload_n hx hb dX7_run_57 rfl (lv_at hl 2 rfl) ?_
      refine lv_isub hx hb dX7_run_58 ?_
      obtain ⟨rfl, rfl⟩ := mm_pr h
      exact mm_iret C0 hR dX7_run_59
    · rw [if_neg c11] at h
      refine lv_aload_n hx hb dX7_run_42 rfl (lv_at hl 0 rfl) ?_
      obtain ⟨f14, ef14, h⟩ := mm_bind h
      refine mm_callV (v := none) (f1 := f14) (d0 := 7) (rest := []) [] C0 rfl hR 20 0 (T_X7_goesBy G ef14) ws_X7_goesBy lk_205 hd_X7_goesBy ⟨by decide, by decide⟩ vl_20 rfl rfl rfl hl.1 rfl (Nat.le_of_ble_eq_true rfl) dX7_run_43 (fun H locs hR => ?_)
      refine W.eq (g2 := F0 m 46 ls ([])) rfl ?_
      refine lv_iinc (v := x3 + 1) (lv' := [(3, .int (x3 + 1)), (0, .ref (ra G 20 0)), (1, .int x1), (2, .int x2)]) hx hb dX7_run_46 hl (k := 3) rfl rfl (by decide) rfl (fun ls hl => ?_)
      refine lv_goto (tgt := 37) hx hb dX7_run_49 (by decide) ?_
      exact ih  h _ _ _ hR (lv_sub hl [1, 2, 3, 0] rfl)
def S_X7_run (f : F3) (x1 : Int32) : Option (Int32 × F3) := if 0 ≤ x1 then (mm_b2 (S_X7_in f x1 1 200) fun r3 f2 => if r3 = 0 then (mm_b2 (S_X7_refuse f2 (-7)) fun r8 f7 => some (r8, f7)) else (mm_b2 (S_X7_many f2 2) fun r6 f5 => S_X7_run_37 FU f5 x1 r6 0)) else (mm_b2 (S_X7_refuse f (-4)) fun r10 f9 => some (r10, f9))
set_option maxHeartbeats 4000000 in
set_option maxRecDepth 100000 in
theorem T_X7_run (G : mmG) {f f' : F3} {rv : Int32} {x1 : Int32} (h : S_X7_run f x1 = some (rv, f')) : mmM G yX7_run cX7_run 4 (some .int) 8 [.ref (ra G 20 0), .int x1] f (some (.int rv)) f' := by
  refine mm_start (by decide +kernel) (Nat.le_of_ble_eq_true rfl) ?_
  intro p e s m args below meth c ls C0 hR hl
  obtain ⟨hx, hb, hml, hr, hown, hts, hlocks⟩ := id C0
  have hl : lv_has ls 4 [(0, .ref (ra G 20 0)), (1, .int x1)] := hl
  rw [S_X7_run] at h
  refine lv_iload_n hx hb dX7_run_0 rfl (lv_at hl 1 rfl) ?_
  refine lv_if_ge (tgt := 11) hx hb dX7_run_1 (by decide) (fun c1 => ?_) (fun c1 => ?_)
  · rw [if_pos c1] at h
    refine lv_iload_n hx hb dX7_run_11 rfl (lv_at hl 1 rfl) ?_
    refine lv_iconst (v := 1) hx hb dX7_run_12 (by decide) ?_
    refine lv_sipush (v := 200) hx hb dX7_run_13 (by decide) ?_
    obtain ⟨r3, f2, ef2, h⟩ := mm_b2e h
    refine mm_callS (v := some (.int r3)) (f1 := f2) (d0 := 0) (rest := []) [.int x1, .int 1, .int 200] C0 rfl hR (T_X7_in G ef2) ws_X7_in lk_144 hd_X7_in ⟨by decide, by decide⟩ hl.1 rfl (Nat.le_of_ble_eq_true rfl) dX7_run_16 (fun H locs hR => ?_)
    refine W.eq (g2 := F0 m 19 ls (.int r3 :: [])) rfl ?_
    refine lv_if_ne (tgt := 29) hx hb dX7_run_19 (by decide) (fun c4 => ?_) (fun c4 => ?_)
    · rw [if_neg c4] at h
      refine lv_aload_n hx hb dX7_run_29 rfl (lv_at hl 0 rfl) ?_
      refine lv_iconst (v := 2) hx hb dX7_run_30 (by decide) ?_
      obtain ⟨r6, f5, ef5, h⟩ := mm_b2e h
      refine mm_callV (v := some (.int r6)) (f1 := f5) (d0 := 0) (rest := []) [.int 2] C0 rfl hR 20 0 (T_X7_many G ef5) ws_X7_many lk_182 hd_X7_many ⟨by decide, by decide⟩ vl_20 rfl rfl rfl hl.1 rfl (Nat.le_of_ble_eq_true rfl) dX7_run_31 (fun H locs hR => ?_)
      refine W.eq (g2 := F0 m 34 ls (.int r6 :: [])) rfl ?_
      refine lv_istore_n (lv' := [(2, .int r6), (0, .ref (ra G 20 0)), (1, .int x1)]) hx hb dX7_run_34 rfl hl (by decide) rfl (fun ls hl => ?_)
      refine lv_iconst (v := 0) hx hb dX7_run_35 (by decide) ?_
      refine lv_istore_n (lv' := [(3, .int 0), (2, .int r6), (0, .ref (ra G 20 0)), (1, .int x1)]) hx hb dX7_run_36 rfl hl (by decide) rfl (fun ls hl => ?_)
      exact L_X7_run_37 C0 _ h _ _ _ hR (lv_sub hl [2, 3, 1, 0] rfl)
    · rw [if_pos c4] at h
      refine lv_aload_n hx hb dX7_run_22 rfl (lv_at hl 0 rfl) ?_
      refine lv_bipush (v := (-7)) hx hb dX7_run_23 (by decide) ?_
      obtain ⟨r8, f7, ef7, h⟩ := mm_b2e h
      refine mm_callV (v := some (.int r8)) (f1 := f7) (d0 := 0) (rest := []) [.int (-7)] C0 rfl hR 20 0 (T_X7_refuse G ef7) ws_X7_refuse lk_147 hd_X7_refuse ⟨by decide, by decide⟩ vl_20 rfl rfl rfl hl.1 rfl (Nat.le_of_ble_eq_true rfl) dX7_run_25 (fun H locs hR => ?_)
      refine W.eq (g2 := F0 m 28 ls (.int r8 :: [])) rfl ?_
      obtain ⟨rfl, rfl⟩ := mm_pr h
      exact mm_iret C0 hR dX7_run_28
  · rw [if_neg c1] at h
    refine lv_aload_n hx hb dX7_run_4 rfl (lv_at hl 0 rfl) ?_
    refine lv_bipush (v := (-4)) hx hb dX7_run_5 (by decide) ?_
    obtain ⟨r10, f9, ef9, h⟩ := mm_b2e h
    refine mm_callV (v := some (.int r10)) (f1 := f9) (d0 := 0) (rest := []) [.int (-4)] C0 rfl hR 20 0 (T_X7_refuse G ef9) ws_X7_refuse lk_147 hd_X7_refuse ⟨by decide, by decide⟩ vl_20 rfl rfl rfl hl.1 rfl (Nat.le_of_ble_eq_true rfl) dX7_run_7 (fun H locs hR => ?_)
    refine W.eq (g2 := F0 m 10 ls (.int r10 :: [])) rfl ?_
    obtain ⟨rfl, rfl⟩ := mm_pr h
    exact mm_iret C0 hR dX7_run_10
def S_X7_said_16 (f : F3)  : Option (Int32 × F3) := mm_b2 (S_X7_refuse f (-3)) fun r15 f14 => some (r15, f14)
set_option maxHeartbeats 4000000 in
set_option maxRecDepth 100000 in
theorem L_X7_said_16 {G : mmG} {p : Program} {e : Env} {s : State} {m : MethodId} {args : Array Value} {below : List Frame} {meth : Method} {c : Code} {f' : F3} {rv : Int32} (C0 : mmC yX7_said cX7_said 4 (some .int) p s m args meth c) {f : F3} (h : S_X7_said_16 f = some (rv, f')) (H : Heap) (locs : List Loc) (ls : Array Slot) (hR : mm_R G mm_NT f (GG f) s H locs) (hl : lv_has ls 4 [(0, .ref (ra G 20 0))]) : W p G.1 e (mm_rm 4) s m args below meth c H locs 0 0 (MQ below (mm_Q G mm_NT (some (.int rv)) f' (GG f')) args s 0 0 (mm_A G)) (F0 m 16 ls []) := by
  obtain ⟨hx, hb, hml, hr, hown, hts, hlocks⟩ := id C0
  rw [S_X7_said_16] at h
  refine lv_aload_n hx hb dX7_said_16 rfl (lv_at hl 0 rfl) ?_
  refine lv_bipush (v := (-3)) hx hb dX7_said_17 (by decide) ?_
  obtain ⟨r15, f14, ef14, h⟩ := mm_b2e h
  refine mm_callV (v := some (.int r15)) (f1 := f14) (d0 := 0) (rest := []) [.int (-3)] C0 rfl hR 20 0 (T_X7_refuse G ef14) ws_X7_refuse lk_147 hd_X7_refuse ⟨by decide, by decide⟩ vl_20 rfl rfl rfl hl.1 rfl (Nat.le_of_ble_eq_true rfl) dX7_said_19 (fun H locs hR => ?_)
  refine W.eq (g2 := F0 m 22 ls (.int r15 :: [])) rfl ?_
  obtain ⟨rfl, rfl⟩ := mm_pr h
  exact mm_iret C0 hR dX7_said_22
def S_X7_said (f : F3) (x1 : Int32) (x2 : Int32) (x3 : Int32) : Option (Int32 × F3) := mm_b2 (S_X7_isLoad f x1) fun r2 f1 => if r2 = 0 then (S_X7_said_16 f1 ) else (mm_b2 (S_X7_isCell f1 x2) fun r5 f4 => if r5 = 0 then (S_X7_said_16 f4 ) else (mm_b2 (S_X7_in f4 x3 0 2) fun r8 f7 => if r8 = 0 then (mm_b2 (S_X7_refuse f7 (-7)) fun r11 f10 => some (r11, f10)) else (mm_b2 (S_X7_saidOf f7 x1 x2 x3) fun r13 f12 => some (r13, f12))))
set_option maxHeartbeats 4000000 in
set_option maxRecDepth 100000 in
theorem T_X7_said (G : mmG) {f f' : F3} {rv : Int32} {x1 : Int32} {x2 : Int32} {x3 : Int32} (h : S_X7_said f x1 x2 x3 = some (rv, f')) : mmM G yX7_said cX7_said 4 (some .int) 4 [.ref (ra G 20 0), .int x1, .int x2, .int x3] f (some (.int rv)) f' := by
  refine mm_start (by decide +kernel) (Nat.le_of_ble_eq_true rfl) ?_
  intro p e s m args below meth c ls C0 hR hl
  obtain ⟨hx, hb, hml, hr, hown, hts, hlocks⟩ := id C0
  have hl : lv_has ls 4 [(0, .ref (ra G 20 0)), (1, .int x1), (2, .int x2), (3, .int x3)] := hl
  rw [S_X7_said] at h
  refine lv_aload_n hx hb dX7_said_0 rfl (lv_at hl 0 rfl) ?_
  refine lv_iload_n hx hb dX7_said_1 rfl (lv_at hl 1 rfl) ?_
  obtain ⟨r2, f1, ef1, h⟩ := mm_b2e h
  refine mm_callV (v := some (.int r2)) (f1 := f1) (d0 := 1) (rest := []) [.int x1] C0 rfl hR 20 0 (T_X7_isLoad G ef1) ws_X7_isLoad lk_198 hd_X7_isLoad ⟨by decide, by decide⟩ vl_20 rfl rfl rfl hl.1 rfl (Nat.le_of_ble_eq_true rfl) dX7_said_2 (fun H locs hR => ?_)
  refine W.eq (g2 := F0 m 5 ls (.int r2 :: [])) rfl ?_
  refine lv_if_eq (tgt := 16) hx hb dX7_said_5 (by decide) (fun c3 => ?_) (fun c3 => ?_)
  · rw [if_pos c3] at h
    exact L_X7_said_16 C0 h _ _ _ hR (lv_sub hl [0] rfl)
  · rw [if_neg c3] at h
    refine lv_aload_n hx hb dX7_said_8 rfl (lv_at hl 0 rfl) ?_
    refine lv_iload_n hx hb dX7_said_9 rfl (lv_at hl 2 rfl) ?_
    obtain ⟨r5, f4, ef4, h⟩ := mm_b2e h
    refine mm_callV (v := some (.int r5)) (f1 := f4) (d0 := 1) (rest := []) [.int x2] C0 rfl hR 20 0 (T_X7_isCell G ef4) ws_X7_isCell lk_146 hd_X7_isCell ⟨by decide, by decide⟩ vl_20 rfl rfl rfl hl.1 rfl (Nat.le_of_ble_eq_true rfl) dX7_said_10 (fun H locs hR => ?_)
    refine W.eq (g2 := F0 m 13 ls (.int r5 :: [])) rfl ?_
    refine lv_if_ne (tgt := 23) hx hb dX7_said_13 (by decide) (fun c6 => ?_) (fun c6 => ?_)
    · rw [if_neg c6] at h
      refine lv_iload_n hx hb dX7_said_23 rfl (lv_at hl 3 rfl) ?_
      refine lv_iconst (v := 0) hx hb dX7_said_24 (by decide) ?_
      refine lv_iconst (v := 2) hx hb dX7_said_25 (by decide) ?_
      obtain ⟨r8, f7, ef7, h⟩ := mm_b2e h
      refine mm_callS (v := some (.int r8)) (f1 := f7) (d0 := 0) (rest := []) [.int x3, .int 0, .int 2] C0 rfl hR (T_X7_in G ef7) ws_X7_in lk_144 hd_X7_in ⟨by decide, by decide⟩ hl.1 rfl (Nat.le_of_ble_eq_true rfl) dX7_said_26 (fun H locs hR => ?_)
      refine W.eq (g2 := F0 m 29 ls (.int r8 :: [])) rfl ?_
      refine lv_if_eq (tgt := 42) hx hb dX7_said_29 (by decide) (fun c9 => ?_) (fun c9 => ?_)
      · rw [if_pos c9] at h
        refine lv_aload_n hx hb dX7_said_42 rfl (lv_at hl 0 rfl) ?_
        refine lv_bipush (v := (-7)) hx hb dX7_said_43 (by decide) ?_
        obtain ⟨r11, f10, ef10, h⟩ := mm_b2e h
        refine mm_callV (v := some (.int r11)) (f1 := f10) (d0 := 0) (rest := []) [.int (-7)] C0 rfl hR 20 0 (T_X7_refuse G ef10) ws_X7_refuse lk_147 hd_X7_refuse ⟨by decide, by decide⟩ vl_20 rfl rfl rfl hl.1 rfl (Nat.le_of_ble_eq_true rfl) dX7_said_45 (fun H locs hR => ?_)
        refine W.eq (g2 := F0 m 48 ls (.int r11 :: [])) rfl ?_
        obtain ⟨rfl, rfl⟩ := mm_pr h
        exact mm_iret C0 hR dX7_said_48
      · rw [if_neg c9] at h
        refine lv_aload_n hx hb dX7_said_32 rfl (lv_at hl 0 rfl) ?_
        refine lv_iload_n hx hb dX7_said_33 rfl (lv_at hl 1 rfl) ?_
        refine lv_iload_n hx hb dX7_said_34 rfl (lv_at hl 2 rfl) ?_
        refine lv_iload_n hx hb dX7_said_35 rfl (lv_at hl 3 rfl) ?_
        obtain ⟨r13, f12, ef12, h⟩ := mm_b2e h
        refine mm_callV (v := some (.int r13)) (f1 := f12) (d0 := 3) (rest := []) [.int x1, .int x2, .int x3] C0 rfl hR 20 0 (T_X7_saidOf G ef12) ws_X7_saidOf lk_166 hd_X7_saidOf ⟨by decide, by decide⟩ vl_20 rfl rfl rfl hl.1 rfl (Nat.le_of_ble_eq_true rfl) dX7_said_36 (fun H locs hR => ?_)
        refine W.eq (g2 := F0 m 39 ls (.int r13 :: [])) rfl ?_
        refine lv_goto (tgt := 48) hx hb dX7_said_39 (by decide) ?_
        obtain ⟨rfl, rfl⟩ := mm_pr h
        exact mm_iret C0 hR dX7_said_48
    · rw [if_pos c6] at h
      exact L_X7_said_16 C0 h _ _ _ hR (lv_sub hl [0] rfl)
def S_X7_snow_102 (k21 : F3 → Int32 → Int32 → Int32 → Option (Int32 × F3)) (f : F3) (x1 : Int32) (x2 : Int32) (x3 : Int32) : Option (Int32 × F3) := k21 f x1 x2 (x3 + 1)
set_option maxHeartbeats 4000000 in
set_option maxRecDepth 100000 in
theorem L_X7_snow_102 {G : mmG} {p : Program} {e : Env} {s : State} {m : MethodId} {args : Array Value} {below : List Frame} {meth : Method} {c : Code} {f' : F3} {rv : Int32} (C0 : mmC yX7_snow cX7_snow 4 (some .int) p s m args meth c) {k21 : F3 → Int32 → Int32 → Int32 → Option (Int32 × F3)} (hk21 : ∀ (f : F3) (x1 : Int32) (x2 : Int32) (x3 : Int32), k21 f x1 x2 x3 = some (rv, f') → ∀ (H : Heap) (locs : List Loc) (ls : Array Slot), mm_R G mm_NT f (GG f) s H locs → lv_has ls 4 [(0, .ref (ra G 20 0)), (1, .int x1), (2, .int x2), (3, .int x3)] → W p G.1 e (mm_rm 1) s m args below meth c H locs 0 0 (MQ below (mm_Q G mm_NT (some (.int rv)) f' (GG f')) args s 0 0 (mm_A G)) (F0 m 21 ls [])) {f : F3} {x1 : Int32} {x2 : Int32} {x3 : Int32} (h : S_X7_snow_102 k21 f x1 x2 x3 = some (rv, f')) (H : Heap) (locs : List Loc) (ls : Array Slot) (hR : mm_R G mm_NT f (GG f) s H locs) (hl : lv_has ls 4 [(0, .ref (ra G 20 0)), (1, .int x1), (2, .int x2), (3, .int x3)]) : W p G.1 e (mm_rm 1) s m args below meth c H locs 0 0 (MQ below (mm_Q G mm_NT (some (.int rv)) f' (GG f')) args s 0 0 (mm_A G)) (F0 m 102 ls []) := by
  obtain ⟨hx, hb, hml, hr, hown, hts, hlocks⟩ := id C0
  rw [S_X7_snow_102] at h
  refine lv_iinc (v := x3 + 1) (lv' := [(3, .int (x3 + 1)), (0, .ref (ra G 20 0)), (1, .int x1), (2, .int x2)]) hx hb dX7_snow_102 hl (k := 3) rfl rfl (by decide) rfl (fun ls hl => ?_)
  refine lv_goto (tgt := 21) hx hb dX7_snow_105 (by decide) ?_
  exact hk21 _ x1 x2 (x3 + 1)  h _ _ _ hR (lv_sub hl [1, 2, 3, 0] rfl)
def S_X7_snow_93 (k21 : F3 → Int32 → Int32 → Int32 → Option (Int32 × F3)) (f : F3) (x1 : Int32) (x2 : Int32) (x3 : Int32) : Option (Int32 × F3) := Option.bind (S_X7_becomes f x3 0) fun f15 => S_X7_snow_102 k21 f15 x1 (x2 + 1) x3
set_option maxHeartbeats 4000000 in
set_option maxRecDepth 100000 in
theorem L_X7_snow_93 {G : mmG} {p : Program} {e : Env} {s : State} {m : MethodId} {args : Array Value} {below : List Frame} {meth : Method} {c : Code} {f' : F3} {rv : Int32} (C0 : mmC yX7_snow cX7_snow 4 (some .int) p s m args meth c) {k21 : F3 → Int32 → Int32 → Int32 → Option (Int32 × F3)} (hk21 : ∀ (f : F3) (x1 : Int32) (x2 : Int32) (x3 : Int32), k21 f x1 x2 x3 = some (rv, f') → ∀ (H : Heap) (locs : List Loc) (ls : Array Slot), mm_R G mm_NT f (GG f) s H locs → lv_has ls 4 [(0, .ref (ra G 20 0)), (1, .int x1), (2, .int x2), (3, .int x3)] → W p G.1 e (mm_rm 1) s m args below meth c H locs 0 0 (MQ below (mm_Q G mm_NT (some (.int rv)) f' (GG f')) args s 0 0 (mm_A G)) (F0 m 21 ls [])) {f : F3} {x1 : Int32} {x2 : Int32} {x3 : Int32} (h : S_X7_snow_93 k21 f x1 x2 x3 = some (rv, f')) (H : Heap) (locs : List Loc) (ls : Array Slot) (hR : mm_R G mm_NT f (GG f) s H locs) (hl : lv_has ls 4 [(0, .ref (ra G 20 0)), (1, .int x1), (2, .int x2), (3, .int x3)]) : W p G.1 e (mm_rm 1) s m args below meth c H locs 0 0 (MQ below (mm_Q G mm_NT (some (.int rv)) f' (GG f')) args s 0 0 (mm_A G)) (F0 m 93 ls []) := by
  obtain ⟨hx, hb, hml, hr, hown, hts, hlocks⟩ := id C0
  rw [S_X7_snow_93] at h
  refine lv_aload_n hx hb dX7_snow_93 rfl (lv_at hl 0 rfl) ?_
  refine lv_iload_n hx hb dX7_snow_94 rfl (lv_at hl 3 rfl) ?_
  refine lv_iconst (v := 0) hx hb dX7_snow_95 (by decide) ?_
  obtain ⟨f15, ef15, h⟩ := mm_bind h
  refine mm_callV (v := none) (f1 := f15) (d0 := 0) (rest := []) [.int x3, .int 0] C0 rfl hR 20 0 (T_X7_becomes G ef15) ws_X7_becomes lk_153 hd_X7_becomes ⟨by decide, by decide⟩ vl_20 rfl rfl rfl hl.1 rfl (Nat.le_of_ble_eq_true rfl) dX7_snow_96 (fun H locs hR => ?_)
  refine W.eq (g2 := F0 m 99 ls ([])) rfl ?_
  refine lv_iinc (v := x2 + 1) (lv' := [(2, .int (x2 + 1)), (0, .ref (ra G 20 0)), (1, .int x1), (3, .int x3)]) hx hb dX7_snow_99 hl (k := 2) rfl rfl (by decide) rfl (fun ls hl => ?_)
  exact L_X7_snow_102 C0 hk21 h _ _ _ hR (lv_sub hl [1, 2, 0, 3] rfl)
def S_X7_snow_72 (k21 : F3 → Int32 → Int32 → Int32 → Option (Int32 × F3)) (f : F3) (s1 : Int32) (s2 : Int32) (x1 : Int32) (x2 : Int32) (x3 : Int32) : Option (Int32 × F3) := if okI s1 10 then (mm_let (up f 32 0 s1.toNatClampNeg s2) fun f11 => if okI x3 10 then (if (f11 30 0 x3.toNatClampNeg) = 1 then (S_X7_snow_93 k21 f11 x1 x2 x3) else (if (f11 30 0 x3.toNatClampNeg) = 2 then (S_X7_snow_93 k21 f11 x1 x2 x3) else (S_X7_snow_102 k21 f11 x1 x2 x3))) else none) else none
set_option maxHeartbeats 4000000 in
set_option maxRecDepth 100000 in
theorem L_X7_snow_72 {G : mmG} {p : Program} {e : Env} {s : State} {m : MethodId} {args : Array Value} {below : List Frame} {meth : Method} {c : Code} {f' : F3} {rv : Int32} (C0 : mmC yX7_snow cX7_snow 4 (some .int) p s m args meth c) {k21 : F3 → Int32 → Int32 → Int32 → Option (Int32 × F3)} (hk21 : ∀ (f : F3) (x1 : Int32) (x2 : Int32) (x3 : Int32), k21 f x1 x2 x3 = some (rv, f') → ∀ (H : Heap) (locs : List Loc) (ls : Array Slot), mm_R G mm_NT f (GG f) s H locs → lv_has ls 4 [(0, .ref (ra G 20 0)), (1, .int x1), (2, .int x2), (3, .int x3)] → W p G.1 e (mm_rm 1) s m args below meth c H locs 0 0 (MQ below (mm_Q G mm_NT (some (.int rv)) f' (GG f')) args s 0 0 (mm_A G)) (F0 m 21 ls [])) {f : F3} {s1 : Int32} {s2 : Int32} {x1 : Int32} {x2 : Int32} {x3 : Int32} (h : S_X7_snow_72 k21 f s1 s2 x1 x2 x3 = some (rv, f')) (H : Heap) (locs : List Loc) (ls : Array Slot) (hR : mm_R G mm_NT f (GG f) s H locs) (hl : lv_has ls 4 [(0, .ref (ra G 20 0)), (1, .int x1), (2, .int x2), (3, .int x3)]) : W p G.1 e (mm_rm 1) s m args below meth c H locs 0 0 (MQ below (mm_Q G mm_NT (some (.int rv)) f' (GG f')) args s 0 0 (mm_A G)) (F0 m 72 ls [.int s2, .int s1, .ref (ra G 32 0)]) := by
  obtain ⟨hx, hb, hml, hr, hown, hts, hlocks⟩ := id C0
  rw [S_X7_snow_72] at h
  obtain ⟨z10, h⟩ := mm_if h
  obtain ⟨f11, ef11, h⟩ := mm_lt h
  refine mm_ist hx hb hR 32 0 (by decide) vl_32 (L := 10) (j := s1) (x := s2) (fun _ => rfl) (okI_in z10) dX7_snow_72 (fun H locs hR => ?_)
  rw [← ef11] at hR
  refine lv_aload_n hx hb dX7_snow_73 rfl (lv_at hl 0 rfl) ?_
  refine mm_get hx hb hts hown hR 20 0 3 vl_20 (v := .ref (ra G 30 0)) rfl rfl iX7 (by decide) lk_140 rfl dX7_snow_74 ?_
  refine lv_iload_n hx hb dX7_snow_77 rfl (lv_at hl 3 rfl) ?_
  obtain ⟨z12, h⟩ := mm_if h
  refine mm_ild hx hb hR 30 0 vl_30 (L := 10) rfl (okI_in z12) dX7_snow_78 ?_
  refine lv_iconst (v := 1) hx hb dX7_snow_79 (by decide) ?_
  refine lv_icmp_eq (tgt := 93) hx hb dX7_snow_80 (by decide) (fun c13 => ?_) (fun c13 => ?_)
  · rw [if_pos c13] at h
    exact L_X7_snow_93 C0 hk21 h _ _ _ hR (lv_sub hl [0, 1, 2, 3] rfl)
  · rw [if_neg c13] at h
    refine lv_aload_n hx hb dX7_snow_83 rfl (lv_at hl 0 rfl) ?_
    refine mm_get hx hb hts hown hR 20 0 3 vl_20 (v := .ref (ra G 30 0)) rfl rfl iX7 (by decide) lk_140 rfl dX7_snow_84 ?_
    refine lv_iload_n hx hb dX7_snow_87 rfl (lv_at hl 3 rfl) ?_
    refine mm_ild hx hb hR 30 0 vl_30 (L := 10) rfl (okI_in z12) dX7_snow_88 ?_
    refine lv_iconst (v := 2) hx hb dX7_snow_89 (by decide) ?_
    refine lv_icmp_ne (tgt := 102) hx hb dX7_snow_90 (by decide) (fun c14 => ?_) (fun c14 => ?_)
    · rw [if_neg c14] at h
      exact L_X7_snow_102 C0 hk21 h _ _ _ hR (lv_sub hl [0, 1, 2, 3] rfl)
    · rw [if_pos c14] at h
      exact L_X7_snow_93 C0 hk21 h _ _ _ hR (lv_sub hl [0, 1, 2, 3] rfl)
def S_X7_snow_21 : Nat → F3 → Int32 → Int32 → Int32 → Option (Int32 × F3)
  | 0, _, _, _, _ => none
  | n + 1, f, x1, x2, x3 => if (f 20 0 2) ≤ x3 then (some (x2, f)) else (if okI x3 10 then (if (f 30 0 x3.toNatClampNeg) = 4 then (S_X7_snow_102 (fun f9 x1_ x2_ x3_ => S_X7_snow_21 n f9 x1_ x2_ x3_) f x1 x2 x3) else (if ((f 32 0 x3.toNatClampNeg) + x1) ≤ 200 then (S_X7_snow_72 (fun f9 x1_ x2_ x3_ => S_X7_snow_21 n f9 x1_ x2_ x3_) f x3 ((f 32 0 x3.toNatClampNeg) + x1) x1 x2 x3) else (S_X7_snow_72 (fun f9 x1_ x2_ x3_ => S_X7_snow_21 n f9 x1_ x2_ x3_) f x3 200 x1 x2 x3))) else none)
set_option maxHeartbeats 4000000 in
set_option maxRecDepth 100000 in
theorem L_X7_snow_21 {G : mmG} {p : Program} {e : Env} {s : State} {m : MethodId} {args : Array Value} {below : List Frame} {meth : Method} {c : Code} {f' : F3} {rv : Int32} (C0 : mmC yX7_snow cX7_snow 4 (some .int) p s m args meth c) : ∀ (n : Nat) {f : F3} {x1 : Int32} {x2 : Int32} {x3 : Int32} , S_X7_snow_21 n f x1 x2 x3 = some (rv, f') → ∀ (H : Heap) (locs : List Loc) (ls : Array Slot), mm_R G mm_NT f (GG f) s H locs → lv_has ls 4 [(0, .ref (ra G 20 0)), (1, .int x1), (2, .int x2), (3, .int x3)] → W p G.1 e (mm_rm 1) s m args below meth c H locs 0 0 (MQ below (mm_Q G mm_NT (some (.int rv)) f' (GG f')) args s 0 0 (mm_A G)) (F0 m 21 ls []) := by
  obtain ⟨hx, hb, hml, hr, hown, hts, hlocks⟩ := id C0
  intro n
  induction n with
  | zero =>
    intro f x1 x2 x3  h H locs ls hR hl
    cases h
  | succ n ih =>
    intro f x1 x2 x3  h H locs ls hR hl
    rw [S_X7_snow_21] at h
    refine lv_iload_n hx hb dX7_snow_21 rfl (lv_at hl 3 rfl) ?_
    refine lv_aload_n hx hb dX7_snow_22 rfl (lv_at hl 0 rfl) ?_
    refine mm_get hx hb hts hown hR 20 0 2 vl_20 (v := .int (f 20 0 2)) rfl rfl iX7 (by decide) lk_142 rfl dX7_snow_23 ?_
    refine lv_icmp_ge (tgt := 108) hx hb dX7_snow_26 (by decide) (fun c6 => ?_) (fun c6 => ?_)
    · rw [if_pos c6] at h
      refine lv_iload_n hx hb dX7_snow_108 rfl (lv_at hl 2 rfl) ?_
      obtain ⟨rfl, rfl⟩ := mm_pr h
      exact mm_iret C0 hR dX7_snow_109
    · rw [if_neg c6] at h
      refine lv_aload_n hx hb dX7_snow_29 rfl (lv_at hl 0 rfl) ?_
      refine mm_get hx hb hts hown hR 20 0 3 vl_20 (v := .ref (ra G 30 0)) rfl rfl iX7 (by decide) lk_140 rfl dX7_snow_30 ?_
      refine lv_iload_n hx hb dX7_snow_33 rfl (lv_at hl 3 rfl) ?_
      obtain ⟨z7, h⟩ := mm_if h
      refine mm_ild hx hb hR 30 0 vl_30 (L := 10) rfl (okI_in z7) dX7_snow_34 ?_
      refine lv_iconst (v := 4) hx hb dX7_snow_35 (by decide) ?_
      refine lv_icmp_eq (tgt := 102) hx hb dX7_snow_36 (by decide) (fun c8 => ?_) (fun c8 => ?_)
      · rw [if_pos c8] at h
        exact L_X7_snow_102 C0 (fun _ _ _ _ h9 H9 locs9 ls9 hR9 hl9 => ih h9 _ _ _ hR9 hl9) h _ _ _ hR (lv_sub hl [0, 1, 2, 3] rfl)
      · rw [if_neg c8] at h
        refine lv_aload_n hx hb dX7_snow_39 rfl (lv_at hl 0 rfl) ?_
        refine mm_get hx hb hts hown hR 20 0 5 vl_20 (v := .ref (ra G 32 0)) rfl rfl iX7 (by decide) lk_154 rfl dX7_snow_40 ?_
        refine lv_iload_n hx hb dX7_snow_43 rfl (lv_at hl 3 rfl) ?_
        refine lv_aload_n hx hb dX7_snow_44 rfl (lv_at hl 0 rfl) ?_
        refine mm_get hx hb hts hown hR 20 0 5 vl_20 (v := .ref (ra G 32 0)) rfl rfl iX7 (by decide) lk_154 rfl dX7_snow_45 ?_
        refine lv_iload_n hx hb dX7_snow_48 rfl (lv_at hl 3 rfl) ?_
        refine mm_ild hx hb hR 32 0 vl_32 (L := 10) rfl (okI_in z7) dX7_snow_49 ?_
        refine lv_iload_n hx hb dX7_snow_50 rfl (lv_at hl 1 rfl) ?_
        refine lv_iadd hx hb dX7_snow_51 ?_
        refine lv_sipush (v := 200) hx hb dX7_snow_52 (by decide) ?_
        refine lv_icmp_le (tgt := 64) hx hb dX7_snow_55 (by decide) (fun c9 => ?_) (fun c9 => ?_)
        · rw [if_pos c9] at h
          refine lv_aload_n hx hb dX7_snow_64 rfl (lv_at hl 0 rfl) ?_
          refine mm_get hx hb hts hown hR 20 0 5 vl_20 (v := .ref (ra G 32 0)) rfl rfl iX7 (by decide) lk_154 rfl dX7_snow_65 ?_
          refine lv_iload_n hx hb dX7_snow_68 rfl (lv_at hl 3 rfl) ?_
          refine mm_ild hx hb hR 32 0 vl_32 (L := 10) rfl (okI_in z7) dX7_snow_69 ?_
          refine lv_iload_n hx hb dX7_snow_70 rfl (lv_at hl 1 rfl) ?_
          refine lv_iadd hx hb dX7_snow_71 ?_
          exact L_X7_snow_72 C0 (fun _ _ _ _ h9 H9 locs9 ls9 hR9 hl9 => ih h9 _ _ _ hR9 hl9) h _ _ _ hR (lv_sub hl [0, 1, 2, 3] rfl)
        · rw [if_neg c9] at h
          refine lv_sipush (v := 200) hx hb dX7_snow_58 (by decide) ?_
          refine lv_goto (tgt := 72) hx hb dX7_snow_61 (by decide) ?_
          exact L_X7_snow_72 C0 (fun _ _ _ _ h9 H9 locs9 ls9 hR9 hl9 => ih h9 _ _ _ hR9 hl9) h _ _ _ hR (lv_sub hl [0, 1, 2, 3] rfl)
def S_X7_snow (f : F3) (x1 : Int32) : Option (Int32 × F3) := mm_b2 (S_X7_in f x1 1 100) fun r2 f1 => if r2 = 0 then (mm_b2 (S_X7_refuse f1 (-7)) fun r5 f4 => some (r5, f4)) else (S_X7_snow_21 FU f1 x1 0 0)
set_option maxHeartbeats 4000000 in
set_option maxRecDepth 100000 in
theorem T_X7_snow (G : mmG) {f f' : F3} {rv : Int32} {x1 : Int32} (h : S_X7_snow f x1 = some (rv, f')) : mmM G yX7_snow cX7_snow 4 (some .int) 1 [.ref (ra G 20 0), .int x1] f (some (.int rv)) f' := by
  refine mm_start (by decide +kernel) (Nat.le_of_ble_eq_true rfl) ?_
  intro p e s m args below meth c ls C0 hR hl
  obtain ⟨hx, hb, hml, hr, hown, hts, hlocks⟩ := id C0
  have hl : lv_has ls 4 [(0, .ref (ra G 20 0)), (1, .int x1)] := hl
  rw [S_X7_snow] at h
  refine lv_iload_n hx hb dX7_snow_0 rfl (lv_at hl 1 rfl) ?_
  refine lv_iconst (v := 1) hx hb dX7_snow_1 (by decide) ?_
  refine lv_bipush (v := 100) hx hb dX7_snow_2 (by decide) ?_
  obtain ⟨r2, f1, ef1, h⟩ := mm_b2e h
  refine mm_callS (v := some (.int r2)) (f1 := f1) (d0 := 0) (rest := []) [.int x1, .int 1, .int 100] C0 rfl hR (T_X7_in G ef1) ws_X7_in lk_144 hd_X7_in ⟨by decide, by decide⟩ hl.1 rfl (Nat.le_of_ble_eq_true rfl) dX7_snow_4 (fun H locs hR => ?_)
  refine W.eq (g2 := F0 m 7 ls (.int r2 :: [])) rfl ?_
  refine lv_if_ne (tgt := 17) hx hb dX7_snow_7 (by decide) (fun c3 => ?_) (fun c3 => ?_)
  · rw [if_neg c3] at h
    refine lv_iconst (v := 0) hx hb dX7_snow_17 (by decide) ?_
    refine lv_istore_n (lv' := [(2, .int 0), (0, .ref (ra G 20 0)), (1, .int x1)]) hx hb dX7_snow_18 rfl hl (by decide) rfl (fun ls hl => ?_)
    refine lv_iconst (v := 0) hx hb dX7_snow_19 (by decide) ?_
    refine lv_istore_n (lv' := [(3, .int 0), (2, .int 0), (0, .ref (ra G 20 0)), (1, .int x1)]) hx hb dX7_snow_20 rfl hl (by decide) rfl (fun ls hl => ?_)
    exact L_X7_snow_21 C0 _ h _ _ _ hR (lv_sub hl [2, 3, 1, 0] rfl)
  · rw [if_pos c3] at h
    refine lv_aload_n hx hb dX7_snow_10 rfl (lv_at hl 0 rfl) ?_
    refine lv_bipush (v := (-7)) hx hb dX7_snow_11 (by decide) ?_
    obtain ⟨r5, f4, ef4, h⟩ := mm_b2e h
    refine mm_callV (v := some (.int r5)) (f1 := f4) (d0 := 0) (rest := []) [.int (-7)] C0 rfl hR 20 0 (T_X7_refuse G ef4) ws_X7_refuse lk_147 hd_X7_refuse ⟨by decide, by decide⟩ vl_20 rfl rfl rfl hl.1 rfl (Nat.le_of_ble_eq_true rfl) dX7_snow_13 (fun H locs hR => ?_)
    refine W.eq (g2 := F0 m 16 ls (.int r5 :: [])) rfl ?_
    obtain ⟨rfl, rfl⟩ := mm_pr h
    exact mm_iret C0 hR dX7_snow_16
def S_X7_status (f : F3) (x1 : Int32) : Option (Int32 × F3) := mm_b2 (S_X7_in f x1 (-8) (-2)) fun r2 f1 => if r2 = 0 then (mm_b2 (S_X7_refuse f1 (-7)) fun r5 f4 => some (r5, f4)) else (if okI (-x1) 9 then (some (f1 21 0 (-x1).toNatClampNeg, f1)) else none)
set_option maxHeartbeats 4000000 in
set_option maxRecDepth 100000 in
theorem T_X7_status (G : mmG) {f f' : F3} {rv : Int32} {x1 : Int32} (h : S_X7_status f x1 = some (rv, f')) : mmM G yX7_status cX7_status 2 (some .int) 1 [.ref (ra G 20 0), .int x1] f (some (.int rv)) f' := by
  refine mm_start (by decide +kernel) (Nat.le_of_ble_eq_true rfl) ?_
  intro p e s m args below meth c ls C0 hR hl
  obtain ⟨hx, hb, hml, hr, hown, hts, hlocks⟩ := id C0
  have hl : lv_has ls 2 [(0, .ref (ra G 20 0)), (1, .int x1)] := hl
  rw [S_X7_status] at h
  refine lv_iload_n hx hb dX7_status_0 rfl (lv_at hl 1 rfl) ?_
  refine lv_bipush (v := (-8)) hx hb dX7_status_1 (by decide) ?_
  refine lv_bipush (v := (-2)) hx hb dX7_status_3 (by decide) ?_
  obtain ⟨r2, f1, ef1, h⟩ := mm_b2e h
  refine mm_callS (v := some (.int r2)) (f1 := f1) (d0 := 0) (rest := []) [.int x1, .int (-8), .int (-2)] C0 rfl hR (T_X7_in G ef1) ws_X7_in lk_144 hd_X7_in ⟨by decide, by decide⟩ hl.1 rfl (Nat.le_of_ble_eq_true rfl) dX7_status_5 (fun H locs hR => ?_)
  refine W.eq (g2 := F0 m 8 ls (.int r2 :: [])) rfl ?_
  refine lv_if_eq (tgt := 21) hx hb dX7_status_8 (by decide) (fun c3 => ?_) (fun c3 => ?_)
  · rw [if_pos c3] at h
    refine lv_aload_n hx hb dX7_status_21 rfl (lv_at hl 0 rfl) ?_
    refine lv_bipush (v := (-7)) hx hb dX7_status_22 (by decide) ?_
    obtain ⟨r5, f4, ef4, h⟩ := mm_b2e h
    refine mm_callV (v := some (.int r5)) (f1 := f4) (d0 := 0) (rest := []) [.int (-7)] C0 rfl hR 20 0 (T_X7_refuse G ef4) ws_X7_refuse lk_147 hd_X7_refuse ⟨by decide, by decide⟩ vl_20 rfl rfl rfl hl.1 rfl (Nat.le_of_ble_eq_true rfl) dX7_status_24 (fun H locs hR => ?_)
    refine W.eq (g2 := F0 m 27 ls (.int r5 :: [])) rfl ?_
    obtain ⟨rfl, rfl⟩ := mm_pr h
    exact mm_iret C0 hR dX7_status_27
  · rw [if_neg c3] at h
    refine lv_aload_n hx hb dX7_status_11 rfl (lv_at hl 0 rfl) ?_
    refine mm_get hx hb hts hown hR 20 0 0 vl_20 (v := .ref (ra G 21 0)) rfl rfl iX7 (by decide) lk_145 rfl dX7_status_12 ?_
    refine lv_iload_n hx hb dX7_status_15 rfl (lv_at hl 1 rfl) ?_
    refine lv_ineg hx hb dX7_status_16 ?_
    obtain ⟨z6, h⟩ := mm_if h
    refine mm_ild hx hb hR 21 0 vl_21 (L := 9) rfl (okI_in z6) dX7_status_17 ?_
    refine lv_goto (tgt := 27) hx hb dX7_status_18 (by decide) ?_
    obtain ⟨rfl, rfl⟩ := mm_pr h
    exact mm_iret C0 hR dX7_status_27
def S_X7_sweep_41 (f : F3) (x1 : Int32) : Option (Int32 × F3) := Option.bind (S_X7_becomes f x1 1) fun f11 => if okI x1 10 then (mm_let (up f11 32 0 x1.toNatClampNeg 0) fun f13 => some (1, f13)) else none
set_option maxHeartbeats 4000000 in
set_option maxRecDepth 100000 in
theorem L_X7_sweep_41 {G : mmG} {p : Program} {e : Env} {s : State} {m : MethodId} {args : Array Value} {below : List Frame} {meth : Method} {c : Code} {f' : F3} {rv : Int32} (C0 : mmC yX7_sweep cX7_sweep 2 (some .int) p s m args meth c) {f : F3} {x1 : Int32} (h : S_X7_sweep_41 f x1 = some (rv, f')) (H : Heap) (locs : List Loc) (ls : Array Slot) (hR : mm_R G mm_NT f (GG f) s H locs) (hl : lv_has ls 2 [(0, .ref (ra G 20 0)), (1, .int x1)]) : W p G.1 e (mm_rm 2) s m args below meth c H locs 0 0 (MQ below (mm_Q G mm_NT (some (.int rv)) f' (GG f')) args s 0 0 (mm_A G)) (F0 m 41 ls []) := by
  obtain ⟨hx, hb, hml, hr, hown, hts, hlocks⟩ := id C0
  rw [S_X7_sweep_41] at h
  refine lv_aload_n hx hb dX7_sweep_41 rfl (lv_at hl 0 rfl) ?_
  refine lv_iload_n hx hb dX7_sweep_42 rfl (lv_at hl 1 rfl) ?_
  refine lv_iconst (v := 1) hx hb dX7_sweep_43 (by decide) ?_
  obtain ⟨f11, ef11, h⟩ := mm_bind h
  refine mm_callV (v := none) (f1 := f11) (d0 := 0) (rest := []) [.int x1, .int 1] C0 rfl hR 20 0 (T_X7_becomes G ef11) ws_X7_becomes lk_153 hd_X7_becomes ⟨by decide, by decide⟩ vl_20 rfl rfl rfl hl.1 rfl (Nat.le_of_ble_eq_true rfl) dX7_sweep_44 (fun H locs hR => ?_)
  refine W.eq (g2 := F0 m 47 ls ([])) rfl ?_
  refine lv_aload_n hx hb dX7_sweep_47 rfl (lv_at hl 0 rfl) ?_
  refine mm_get hx hb hts hown hR 20 0 5 vl_20 (v := .ref (ra G 32 0)) rfl rfl iX7 (by decide) lk_154 rfl dX7_sweep_48 ?_
  refine lv_iload_n hx hb dX7_sweep_51 rfl (lv_at hl 1 rfl) ?_
  refine lv_iconst (v := 0) hx hb dX7_sweep_52 (by decide) ?_
  obtain ⟨z12, h⟩ := mm_if h
  obtain ⟨f13, ef13, h⟩ := mm_lt h
  refine mm_ist hx hb hR 32 0 (by decide) vl_32 (L := 10) (j := x1) (x := 0) (fun _ => rfl) (okI_in z12) dX7_sweep_53 (fun H locs hR => ?_)
  rw [← ef13] at hR
  refine lv_iconst (v := 1) hx hb dX7_sweep_54 (by decide) ?_
  obtain ⟨rfl, rfl⟩ := mm_pr h
  exact mm_iret C0 hR dX7_sweep_55
def S_X7_sweep (f : F3) (x1 : Int32) : Option (Int32 × F3) := mm_b2 (S_X7_isCell f x1) fun r2 f1 => if r2 = 0 then (mm_b2 (S_X7_refuse f1 (-3)) fun r10 f9 => some (r10, f9)) else (if okI x1 10 then (if (f1 30 0 x1.toNatClampNeg) = 0 then (S_X7_sweep_41 f1 x1) else (if (f1 30 0 x1.toNatClampNeg) = 1 then (S_X7_sweep_41 f1 x1) else (mm_b2 (S_X7_refuse f1 (-5)) fun r8 f7 => some (r8, f7)))) else none)
set_option maxHeartbeats 4000000 in
set_option maxRecDepth 100000 in
theorem T_X7_sweep (G : mmG) {f f' : F3} {rv : Int32} {x1 : Int32} (h : S_X7_sweep f x1 = some (rv, f')) : mmM G yX7_sweep cX7_sweep 2 (some .int) 2 [.ref (ra G 20 0), .int x1] f (some (.int rv)) f' := by
  refine mm_start (by decide +kernel) (Nat.le_of_ble_eq_true rfl) ?_
  intro p e s m args below meth c ls C0 hR hl
  obtain ⟨hx, hb, hml, hr, hown, hts, hlocks⟩ := id C0
  have hl : lv_has ls 2 [(0, .ref (ra G 20 0)), (1, .int x1)] := hl
  rw [S_X7_sweep] at h
  refine lv_aload_n hx hb dX7_sweep_0 rfl (lv_at hl 0 rfl) ?_
  refine lv_iload_n hx hb dX7_sweep_1 rfl (lv_at hl 1 rfl) ?_
  obtain ⟨r2, f1, ef1, h⟩ := mm_b2e h
  refine mm_callV (v := some (.int r2)) (f1 := f1) (d0 := 1) (rest := []) [.int x1] C0 rfl hR 20 0 (T_X7_isCell G ef1) ws_X7_isCell lk_146 hd_X7_isCell ⟨by decide, by decide⟩ vl_20 rfl rfl rfl hl.1 rfl (Nat.le_of_ble_eq_true rfl) dX7_sweep_2 (fun H locs hR => ?_)
  refine W.eq (g2 := F0 m 5 ls (.int r2 :: [])) rfl ?_
  refine lv_if_ne (tgt := 15) hx hb dX7_sweep_5 (by decide) (fun c3 => ?_) (fun c3 => ?_)
  · rw [if_neg c3] at h
    refine lv_aload_n hx hb dX7_sweep_15 rfl (lv_at hl 0 rfl) ?_
    refine mm_get hx hb hts hown hR 20 0 3 vl_20 (v := .ref (ra G 30 0)) rfl rfl iX7 (by decide) lk_140 rfl dX7_sweep_16 ?_
    refine lv_iload_n hx hb dX7_sweep_19 rfl (lv_at hl 1 rfl) ?_
    obtain ⟨z4, h⟩ := mm_if h
    refine mm_ild hx hb hR 30 0 vl_30 (L := 10) rfl (okI_in z4) dX7_sweep_20 ?_
    refine lv_if_eq (tgt := 41) hx hb dX7_sweep_21 (by decide) (fun c5 => ?_) (fun c5 => ?_)
    · rw [if_pos c5] at h
      exact L_X7_sweep_41 C0 h _ _ _ hR (lv_sub hl [0, 1] rfl)
    · rw [if_neg c5] at h
      refine lv_aload_n hx hb dX7_sweep_24 rfl (lv_at hl 0 rfl) ?_
      refine mm_get hx hb hts hown hR 20 0 3 vl_20 (v := .ref (ra G 30 0)) rfl rfl iX7 (by decide) lk_140 rfl dX7_sweep_25 ?_
      refine lv_iload_n hx hb dX7_sweep_28 rfl (lv_at hl 1 rfl) ?_
      refine mm_ild hx hb hR 30 0 vl_30 (L := 10) rfl (okI_in z4) dX7_sweep_29 ?_
      refine lv_iconst (v := 1) hx hb dX7_sweep_30 (by decide) ?_
      refine lv_icmp_eq (tgt := 41) hx hb dX7_sweep_31 (by decide) (fun c6 => ?_) (fun c6 => ?_)
      · rw [if_pos c6] at h
        exact L_X7_sweep_41 C0 h _ _ _ hR (lv_sub hl [0, 1] rfl)
      · rw [if_neg c6] at h
        refine lv_aload_n hx hb dX7_sweep_34 rfl (lv_at hl 0 rfl) ?_
        refine lv_bipush (v := (-5)) hx hb dX7_sweep_35 (by decide) ?_
        obtain ⟨r8, f7, ef7, h⟩ := mm_b2e h
        refine mm_callV (v := some (.int r8)) (f1 := f7) (d0 := 0) (rest := []) [.int (-5)] C0 rfl hR 20 0 (T_X7_refuse G ef7) ws_X7_refuse lk_147 hd_X7_refuse ⟨by decide, by decide⟩ vl_20 rfl rfl rfl hl.1 rfl (Nat.le_of_ble_eq_true rfl) dX7_sweep_37 (fun H locs hR => ?_)
        refine W.eq (g2 := F0 m 40 ls (.int r8 :: [])) rfl ?_
        obtain ⟨rfl, rfl⟩ := mm_pr h
        exact mm_iret C0 hR dX7_sweep_40
  · rw [if_pos c3] at h
    refine lv_aload_n hx hb dX7_sweep_8 rfl (lv_at hl 0 rfl) ?_
    refine lv_bipush (v := (-3)) hx hb dX7_sweep_9 (by decide) ?_
    obtain ⟨r10, f9, ef9, h⟩ := mm_b2e h
    refine mm_callV (v := some (.int r10)) (f1 := f9) (d0 := 0) (rest := []) [.int (-3)] C0 rfl hR 20 0 (T_X7_refuse G ef9) ws_X7_refuse lk_147 hd_X7_refuse ⟨by decide, by decide⟩ vl_20 rfl rfl rfl hl.1 rfl (Nat.le_of_ble_eq_true rfl) dX7_sweep_11 (fun H locs hR => ?_)
    refine W.eq (g2 := F0 m 14 ls (.int r10 :: [])) rfl ?_
    obtain ⟨rfl, rfl⟩ := mm_pr h
    exact mm_iret C0 hR dX7_sweep_14
