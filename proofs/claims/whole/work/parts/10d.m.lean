def S_X6_mostOf_62 (f : F3) (x3 : Int32) (x4 : Int32) : Option (Int32 × F3) := some ((if x3 < x4 then x4 else x3), f)
set_option maxHeartbeats 4000000 in
set_option maxRecDepth 100000 in
theorem L_X6_mostOf_62 {G : mmG} {p : Program} {e : Env} {s : State} {m : MethodId} {args : Array Value} {below : List Frame} {meth : Method} {c : Code} {f' : F3} {rv : Int32} (C0 : mmC yX6_mostOf cX6_mostOf 5 (some .int) p s m args meth c) {f : F3} {x3 : Int32} {x4 : Int32} (h : S_X6_mostOf_62 f x3 x4 = some (rv, f')) (H : Heap) (locs : List Loc) (ls : Array Slot) (hR : mm_R G mm_NT f (GG f) s H locs) (hl : lv_has ls 5 [(3, .int x3), (4, .int x4)]) : W p G.1 e (mm_rm 2) s m args below meth c H locs 0 0 (MQ below (mm_Q G mm_NT (some (.int rv)) f' (GG f')) args s 0 0 (mm_A G)) (F0 m 62 ls []) := by
  obtain ⟨hx, hb, hml, hr, hown, hts, hlocks⟩ := id C0
  rw [S_X6_mostOf_62] at h
  refine lv_iload_n hx hb dX6_mostOf_62 rfl (lv_at hl 0 rfl) ?_
  refine lv_iload hx hb dX6_mostOf_63 (lv_at hl 1 rfl) ?_
  refine va_mmax hx hb (hml.trans hl.1.symm) hown (hts _ lk_98) (hts _ lk_12) (hts _ lk_13) (hts _ lk_14) (by decide) (Nat.le_of_ble_eq_true rfl) (by decide) (by decide) dX6_mostOf_65 ?_
  obtain ⟨rfl, rfl⟩ := mm_pr h
  exact mm_iret C0 hR dX6_mostOf_68
def S_X6_mostOf (f : F3) (x1 : Int32) : Option (Int32 × F3) := if okI x1 10 then (if (f 1 x1.toNatClampNeg 0) = 4 then (some (3000, f)) else (if (f 1 x1.toNatClampNeg 7) = (-1) then (mm_b2 (S_X6_nearestKnown f x1 (-1)) fun r5 f4 => mm_b2 (S_X6_nearestKnown f4 x1 1) fun r7 f6 => if r5 = (-1) then (if r7 = (-1) then (some (3000, f6)) else (S_X6_mostOf_62 f6 r5 r7)) else (S_X6_mostOf_62 f6 r5 r7)) else (some (f 1 x1.toNatClampNeg 7, f)))) else none
set_option maxHeartbeats 4000000 in
set_option maxRecDepth 100000 in
theorem T_X6_mostOf (G : mmG) {f f' : F3} {rv : Int32} {x1 : Int32} (h : S_X6_mostOf f x1 = some (rv, f')) : mmM G yX6_mostOf cX6_mostOf 5 (some .int) 2 [.ref (ra G 0 0), .int x1] f (some (.int rv)) f' := by
  refine mm_start (by decide +kernel) (Nat.le_of_ble_eq_true rfl) ?_
  intro p e s m args below meth c ls C0 hR hl
  obtain ⟨hx, hb, hml, hr, hown, hts, hlocks⟩ := id C0
  have hl : lv_has ls 5 [(0, .ref (ra G 0 0)), (1, .int x1)] := hl
  rw [S_X6_mostOf] at h
  refine lv_aload_n hx hb dX6_mostOf_0 rfl (lv_at hl 0 rfl) ?_
  refine mm_get hx hb hts hown hR 0 0 0 vl_0 (v := .ref (ra G 7 0)) rfl rfl iX6 (by decide) lk_68 rfl dX6_mostOf_1 ?_
  refine lv_iload_n hx hb dX6_mostOf_4 rfl (lv_at hl 1 rfl) ?_
  obtain ⟨z1, h⟩ := mm_if h
  refine mm_ald hx hb hR 7 0 2 vl_7 (L := 10) (C := "IceRoad$Cell") (r2 := 1) (i2 := x1.toNatClampNeg) rfl rfl (okI_in z1) rfl (by decide) dX6_mostOf_5 ?_
  refine lv_astore_n (lv' := [(2, .ref (ra G 1 x1.toNatClampNeg)), (0, .ref (ra G 0 0)), (1, .int x1)]) hx hb dX6_mostOf_6 rfl hl (by decide) rfl (fun ls hl => ?_)
  refine lv_aload_n hx hb dX6_mostOf_7 rfl (lv_at hl 0 rfl) ?_
  refine mm_get hx hb hts hown hR 1 x1.toNatClampNeg 0 (mm_vld 1 (by decide) x1.toNatClampNeg (Nat.lt_trans (okI_lt z1) (by decide))) (v := .int (f 1 x1.toNatClampNeg 0)) rfl rfl iX0 (by decide) lk_72 rfl dX6_mostOf_8 ?_
  refine lv_iconst (v := 4) hx hb dX6_mostOf_11 (by decide) ?_
  refine lv_icmp_ne (tgt := 19) hx hb dX6_mostOf_12 (by decide) (fun c2 => ?_) (fun c2 => ?_)
  · rw [if_neg c2] at h
    refine lv_aload_n hx hb dX6_mostOf_19 rfl (lv_at hl 0 rfl) ?_
    refine mm_get hx hb hts hown hR 1 x1.toNatClampNeg 7 (mm_vld 1 (by decide) x1.toNatClampNeg (Nat.lt_trans (okI_lt z1) (by decide))) (v := .int (f 1 x1.toNatClampNeg 7)) rfl rfl iX0 (by decide) lk_95 rfl dX6_mostOf_20 ?_
    refine lv_iconst (v := (-1)) hx hb dX6_mostOf_23 (by decide) ?_
    refine lv_icmp_eq (tgt := 32) hx hb dX6_mostOf_24 (by decide) (fun c3 => ?_) (fun c3 => ?_)
    · rw [if_pos c3] at h
      refine lv_aload_n hx hb dX6_mostOf_32 rfl (lv_at hl 1 rfl) ?_
      refine lv_iload_n hx hb dX6_mostOf_33 rfl (lv_at hl 2 rfl) ?_
      refine lv_iconst (v := (-1)) hx hb dX6_mostOf_34 (by decide) ?_
      obtain ⟨r5, f4, ef4, h⟩ := mm_b2e h
      refine mm_callV (v := some (.int r5)) (f1 := f4) (d0 := 1) (rest := []) [.int x1, .int (-1)] C0 rfl hR 0 0 (T_X6_nearestKnown G ef4) ws_X6_nearestKnown lk_96 hd_X6_nearestKnown ⟨by decide, by decide⟩ vl_0 rfl rfl rfl hl.1 rfl (Nat.le_of_ble_eq_true rfl) dX6_mostOf_35 (fun H locs hR => ?_)
      refine W.eq (g2 := F0 m 38 ls (.int r5 :: [])) rfl ?_
      refine lv_istore_n (lv' := [(3, .int r5), (2, .ref (ra G 1 x1.toNatClampNeg)), (0, .ref (ra G 0 0)), (1, .int x1)]) hx hb dX6_mostOf_38 rfl hl (by decide) rfl (fun ls hl => ?_)
      refine lv_aload_n hx hb dX6_mostOf_39 rfl (lv_at hl 2 rfl) ?_
      refine lv_iload_n hx hb dX6_mostOf_40 rfl (lv_at hl 3 rfl) ?_
      refine lv_iconst (v := 1) hx hb dX6_mostOf_41 (by decide) ?_
      obtain ⟨r7, f6, ef6, h⟩ := mm_b2e h
      refine mm_callV (v := some (.int r7)) (f1 := f6) (d0 := 1) (rest := []) [.int x1, .int 1] C0 rfl hR 0 0 (T_X6_nearestKnown G ef6) ws_X6_nearestKnown lk_96 hd_X6_nearestKnown ⟨by decide, by decide⟩ vl_0 rfl rfl rfl hl.1 rfl (Nat.le_of_ble_eq_true rfl) dX6_mostOf_42 (fun H locs hR => ?_)
      refine W.eq (g2 := F0 m 45 ls (.int r7 :: [])) rfl ?_
      refine lv_istore (lv' := [(4, .int r7), (3, .int r5), (2, .ref (ra G 1 x1.toNatClampNeg)), (0, .ref (ra G 0 0)), (1, .int x1)]) hx hb dX6_mostOf_45 hl (by decide) rfl (fun ls hl => ?_)
      refine lv_iload_n hx hb dX6_mostOf_47 rfl (lv_at hl 1 rfl) ?_
      refine lv_iconst (v := (-1)) hx hb dX6_mostOf_48 (by decide) ?_
      refine lv_icmp_ne (tgt := 62) hx hb dX6_mostOf_49 (by decide) (fun c8 => ?_) (fun c8 => ?_)
      · rw [if_neg c8] at h
        exact L_X6_mostOf_62 C0 h _ _ _ hR (lv_sub hl [1, 0] rfl)
      · rw [if_pos c8] at h
        refine lv_iload hx hb dX6_mostOf_52 (lv_at hl 0 rfl) ?_
        refine lv_iconst (v := (-1)) hx hb dX6_mostOf_54 (by decide) ?_
        refine lv_icmp_ne (tgt := 62) hx hb dX6_mostOf_55 (by decide) (fun c9 => ?_) (fun c9 => ?_)
        · rw [if_neg c9] at h
          exact L_X6_mostOf_62 C0 h _ _ _ hR (lv_sub hl [1, 0] rfl)
        · rw [if_pos c9] at h
          refine lv_sipush (v := 3000) hx hb dX6_mostOf_58 (by decide) ?_
          obtain ⟨rfl, rfl⟩ := mm_pr h
          exact mm_iret C0 hR dX6_mostOf_61
    · rw [if_neg c3] at h
      refine lv_aload_n hx hb dX6_mostOf_27 rfl (lv_at hl 0 rfl) ?_
      refine mm_get hx hb hts hown hR 1 x1.toNatClampNeg 7 (mm_vld 1 (by decide) x1.toNatClampNeg (Nat.lt_trans (okI_lt z1) (by decide))) (v := .int (f 1 x1.toNatClampNeg 7)) rfl rfl iX0 (by decide) lk_95 rfl dX6_mostOf_28 ?_
      obtain ⟨rfl, rfl⟩ := mm_pr h
      exact mm_iret C0 hR dX6_mostOf_31
  · rw [if_pos c2] at h
    refine lv_sipush (v := 3000) hx hb dX6_mostOf_15 (by decide) ?_
    obtain ⟨rfl, rfl⟩ := mm_pr h
    exact mm_iret C0 hR dX6_mostOf_18
def S_X6_look (f : F3) (x1 : Int32) (x2 : Int32) : Option (Int32 × F3) := mm_b2 (S_X6_isCell f x1) fun r2 f1 => if r2 = 0 then (mm_b2 (S_X6_refuse f1 (-3)) fun r26 f25 => some (r26, f25)) else (if okI x1 10 then (if x2 = 0 then (some (f1 1 x1.toNatClampNeg 0, f1)) else if x2 = 1 then (some (f1 1 x1.toNatClampNeg 1, f1)) else if x2 = 2 then (some (f1 1 x1.toNatClampNeg 2, f1)) else if x2 = 3 then (some (f1 1 x1.toNatClampNeg 3, f1)) else if x2 = 4 then (some (f1 1 x1.toNatClampNeg 4, f1)) else if x2 = 5 then (some (f1 1 x1.toNatClampNeg 5, f1)) else if x2 = 6 then (if (f1 1 x1.toNatClampNeg 0) = 3 then (some (f1 1 x1.toNatClampNeg 6, f1)) else (some ((-1), f1))) else if x2 = 7 then (mm_b2 (S_X6_leastOf f1 x1) fun r16 f15 => some (r16, f15)) else if x2 = 8 then (mm_b2 (S_X6_mostOf f1 x1) fun r19 f18 => some (r19, f18)) else if x2 = 9 then (mm_b2 (S_X6_loadsOn f1 x1) fun r22 f21 => some (r22, f21)) else (mm_b2 (S_X6_refuse f1 (-7)) fun r24 f23 => some (r24, f23))) else none)
set_option maxHeartbeats 4000000 in
set_option maxRecDepth 100000 in
theorem T_X6_look (G : mmG) {f f' : F3} {rv : Int32} {x1 : Int32} {x2 : Int32} (h : S_X6_look f x1 x2 = some (rv, f')) : mmM G yX6_look cX6_look 4 (some .int) 3 [.ref (ra G 0 0), .int x1, .int x2] f (some (.int rv)) f' := by
  refine mm_start (by decide +kernel) (Nat.le_of_ble_eq_true rfl) ?_
  intro p e s m args below meth c ls C0 hR hl
  obtain ⟨hx, hb, hml, hr, hown, hts, hlocks⟩ := id C0
  have hl : lv_has ls 4 [(0, .ref (ra G 0 0)), (1, .int x1), (2, .int x2)] := hl
  rw [S_X6_look] at h
  refine lv_aload_n hx hb dX6_look_0 rfl (lv_at hl 0 rfl) ?_
  refine lv_iload_n hx hb dX6_look_1 rfl (lv_at hl 1 rfl) ?_
  obtain ⟨r2, f1, ef1, h⟩ := mm_b2e h
  refine mm_callV (v := some (.int r2)) (f1 := f1) (d0 := 0) (rest := []) [.int x1] C0 rfl hR 0 0 (T_X6_isCell G ef1) ws_X6_isCell lk_67 hd_X6_isCell ⟨by decide, by decide⟩ vl_0 rfl rfl rfl hl.1 rfl (Nat.le_of_ble_eq_true rfl) dX6_look_2 (fun H locs hR => ?_)
  refine W.eq (g2 := F0 m 5 ls (.int r2 :: [])) rfl ?_
  refine lv_if_ne (tgt := 15) hx hb dX6_look_5 (by decide) (fun c3 => ?_) (fun c3 => ?_)
  · rw [if_neg c3] at h
    refine lv_aload_n hx hb dX6_look_15 rfl (lv_at hl 0 rfl) ?_
    refine mm_get hx hb hts hown hR 0 0 0 vl_0 (v := .ref (ra G 7 0)) rfl rfl iX6 (by decide) lk_68 rfl dX6_look_16 ?_
    refine lv_iload_n hx hb dX6_look_19 rfl (lv_at hl 1 rfl) ?_
    obtain ⟨z4, h⟩ := mm_if h
    refine mm_ald hx hb hR 7 0 2 vl_7 (L := 10) (C := "IceRoad$Cell") (r2 := 1) (i2 := x1.toNatClampNeg) rfl rfl (okI_in z4) rfl (by decide) dX6_look_20 ?_
    refine lv_astore_n (lv' := [(3, .ref (ra G 1 x1.toNatClampNeg)), (0, .ref (ra G 0 0)), (1, .int x1), (2, .int x2)]) hx hb dX6_look_21 rfl hl (by decide) rfl (fun ls hl => ?_)
    refine lv_iload_n hx hb dX6_look_22 rfl (lv_at hl 3 rfl) ?_
    refine lv_topi (fun w5 ew5 => ?_)
    by_cases c6 : w5 = 0
    · rw [if_pos (ew5.symm.trans c6)] at h
      rw [c6]
      refine lv_tableIn (off := 53) (tgt := 76) hx hb dX6_look_23 (by decide) (by decide) (by decide +kernel) (by decide) ?_
      refine lv_aload_n hx hb dX6_look_76 rfl (lv_at hl 0 rfl) ?_
      refine mm_get hx hb hts hown hR 1 x1.toNatClampNeg 0 (mm_vld 1 (by decide) x1.toNatClampNeg (Nat.lt_trans (okI_lt z4) (by decide))) (v := .int (f1 1 x1.toNatClampNeg 0)) rfl rfl iX0 (by decide) lk_72 rfl dX6_look_77 ?_
      obtain ⟨rfl, rfl⟩ := mm_pr h
      exact mm_iret C0 hR dX6_look_80
    rw [if_neg (fun q => c6 (ew5.trans q))] at h
    by_cases c7 : w5 = 1
    · rw [if_pos (ew5.symm.trans c7)] at h
      rw [c7]
      refine lv_tableIn (off := 58) (tgt := 81) hx hb dX6_look_23 (by decide) (by decide) (by decide +kernel) (by decide) ?_
      refine lv_aload_n hx hb dX6_look_81 rfl (lv_at hl 0 rfl) ?_
      refine mm_get hx hb hts hown hR 1 x1.toNatClampNeg 1 (mm_vld 1 (by decide) x1.toNatClampNeg (Nat.lt_trans (okI_lt z4) (by decide))) (v := .int (f1 1 x1.toNatClampNeg 1)) rfl rfl iX0 (by decide) lk_77 rfl dX6_look_82 ?_
      obtain ⟨rfl, rfl⟩ := mm_pr h
      exact mm_iret C0 hR dX6_look_85
    rw [if_neg (fun q => c7 (ew5.trans q))] at h
    by_cases c8 : w5 = 2
    · rw [if_pos (ew5.symm.trans c8)] at h
      rw [c8]
      refine lv_tableIn (off := 63) (tgt := 86) hx hb dX6_look_23 (by decide) (by decide) (by decide +kernel) (by decide) ?_
      refine lv_aload_n hx hb dX6_look_86 rfl (lv_at hl 0 rfl) ?_
      refine mm_get hx hb hts hown hR 1 x1.toNatClampNeg 2 (mm_vld 1 (by decide) x1.toNatClampNeg (Nat.lt_trans (okI_lt z4) (by decide))) (v := .int (f1 1 x1.toNatClampNeg 2)) rfl rfl iX0 (by decide) lk_75 rfl dX6_look_87 ?_
      obtain ⟨rfl, rfl⟩ := mm_pr h
      exact mm_iret C0 hR dX6_look_90
    rw [if_neg (fun q => c8 (ew5.trans q))] at h
    by_cases c9 : w5 = 3
    · rw [if_pos (ew5.symm.trans c9)] at h
      rw [c9]
      refine lv_tableIn (off := 68) (tgt := 91) hx hb dX6_look_23 (by decide) (by decide) (by decide +kernel) (by decide) ?_
      refine lv_aload_n hx hb dX6_look_91 rfl (lv_at hl 0 rfl) ?_
      refine mm_get hx hb hts hown hR 1 x1.toNatClampNeg 3 (mm_vld 1 (by decide) x1.toNatClampNeg (Nat.lt_trans (okI_lt z4) (by decide))) (v := .int (f1 1 x1.toNatClampNeg 3)) rfl rfl iX0 (by decide) lk_83 rfl dX6_look_92 ?_
      obtain ⟨rfl, rfl⟩ := mm_pr h
      exact mm_iret C0 hR dX6_look_95
    rw [if_neg (fun q => c9 (ew5.trans q))] at h
    by_cases c10 : w5 = 4
    · rw [if_pos (ew5.symm.trans c10)] at h
      rw [c10]
      refine lv_tableIn (off := 73) (tgt := 96) hx hb dX6_look_23 (by decide) (by decide) (by decide +kernel) (by decide) ?_
      refine lv_aload_n hx hb dX6_look_96 rfl (lv_at hl 0 rfl) ?_
      refine mm_get hx hb hts hown hR 1 x1.toNatClampNeg 4 (mm_vld 1 (by decide) x1.toNatClampNeg (Nat.lt_trans (okI_lt z4) (by decide))) (v := .int (f1 1 x1.toNatClampNeg 4)) rfl rfl iX0 (by decide) lk_121 rfl dX6_look_97 ?_
      obtain ⟨rfl, rfl⟩ := mm_pr h
      exact mm_iret C0 hR dX6_look_100
    rw [if_neg (fun q => c10 (ew5.trans q))] at h
    by_cases c11 : w5 = 5
    · rw [if_pos (ew5.symm.trans c11)] at h
      rw [c11]
      refine lv_tableIn (off := 78) (tgt := 101) hx hb dX6_look_23 (by decide) (by decide) (by decide +kernel) (by decide) ?_
      refine lv_aload_n hx hb dX6_look_101 rfl (lv_at hl 0 rfl) ?_
      refine mm_get hx hb hts hown hR 1 x1.toNatClampNeg 5 (mm_vld 1 (by decide) x1.toNatClampNeg (Nat.lt_trans (okI_lt z4) (by decide))) (v := .int (f1 1 x1.toNatClampNeg 5)) rfl rfl iX0 (by decide) lk_76 rfl dX6_look_102 ?_
      obtain ⟨rfl, rfl⟩ := mm_pr h
      exact mm_iret C0 hR dX6_look_105
    rw [if_neg (fun q => c11 (ew5.trans q))] at h
    by_cases c12 : w5 = 6
    · rw [if_pos (ew5.symm.trans c12)] at h
      rw [c12]
      refine lv_tableIn (off := 83) (tgt := 106) hx hb dX6_look_23 (by decide) (by decide) (by decide +kernel) (by decide) ?_
      refine lv_aload_n hx hb dX6_look_106 rfl (lv_at hl 0 rfl) ?_
      refine mm_get hx hb hts hown hR 1 x1.toNatClampNeg 0 (mm_vld 1 (by decide) x1.toNatClampNeg (Nat.lt_trans (okI_lt z4) (by decide))) (v := .int (f1 1 x1.toNatClampNeg 0)) rfl rfl iX0 (by decide) lk_72 rfl dX6_look_107 ?_
      refine lv_iconst (v := 3) hx hb dX6_look_110 (by decide) ?_
      refine lv_icmp_ne (tgt := 121) hx hb dX6_look_111 (by decide) (fun c13 => ?_) (fun c13 => ?_)
      · rw [if_neg c13] at h
        refine lv_iconst (v := (-1)) hx hb dX6_look_121 (by decide) ?_
        obtain ⟨rfl, rfl⟩ := mm_pr h
        exact mm_iret C0 hR dX6_look_122
      · rw [if_pos c13] at h
        refine lv_aload_n hx hb dX6_look_114 rfl (lv_at hl 0 rfl) ?_
        refine mm_get hx hb hts hown hR 1 x1.toNatClampNeg 6 (mm_vld 1 (by decide) x1.toNatClampNeg (Nat.lt_trans (okI_lt z4) (by decide))) (v := .int (f1 1 x1.toNatClampNeg 6)) rfl rfl iX0 (by decide) lk_122 rfl dX6_look_115 ?_
        refine lv_goto (tgt := 122) hx hb dX6_look_118 (by decide) ?_
        obtain ⟨rfl, rfl⟩ := mm_pr h
        exact mm_iret C0 hR dX6_look_122
    rw [if_neg (fun q => c12 (ew5.trans q))] at h
    by_cases c14 : w5 = 7
    · rw [if_pos (ew5.symm.trans c14)] at h
      rw [c14]
      refine lv_tableIn (off := 100) (tgt := 123) hx hb dX6_look_23 (by decide) (by decide) (by decide +kernel) (by decide) ?_
      refine lv_aload_n hx hb dX6_look_123 rfl (lv_at hl 1 rfl) ?_
      refine lv_iload_n hx hb dX6_look_124 rfl (lv_at hl 2 rfl) ?_
      obtain ⟨r16, f15, ef15, h⟩ := mm_b2e h
      refine mm_callV (v := some (.int r16)) (f1 := f15) (d0 := 2) (rest := []) [.int x1] C0 rfl hR 0 0 (T_X6_leastOf G ef15) ws_X6_leastOf lk_101 hd_X6_leastOf ⟨by decide, by decide⟩ vl_0 rfl rfl rfl hl.1 rfl (Nat.le_of_ble_eq_true rfl) dX6_look_125 (fun H locs hR => ?_)
      refine W.eq (g2 := F0 m 128 ls (.int r16 :: [])) rfl ?_
      obtain ⟨rfl, rfl⟩ := mm_pr h
      exact mm_iret C0 hR dX6_look_128
    rw [if_neg (fun q => c14 (ew5.trans q))] at h
    by_cases c17 : w5 = 8
    · rw [if_pos (ew5.symm.trans c17)] at h
      rw [c17]
      refine lv_tableIn (off := 106) (tgt := 129) hx hb dX6_look_23 (by decide) (by decide) (by decide +kernel) (by decide) ?_
      refine lv_aload_n hx hb dX6_look_129 rfl (lv_at hl 1 rfl) ?_
      refine lv_iload_n hx hb dX6_look_130 rfl (lv_at hl 2 rfl) ?_
      obtain ⟨r19, f18, ef18, h⟩ := mm_b2e h
      refine mm_callV (v := some (.int r19)) (f1 := f18) (d0 := 2) (rest := []) [.int x1] C0 rfl hR 0 0 (T_X6_mostOf G ef18) ws_X6_mostOf lk_123 hd_X6_mostOf ⟨by decide, by decide⟩ vl_0 rfl rfl rfl hl.1 rfl (Nat.le_of_ble_eq_true rfl) dX6_look_131 (fun H locs hR => ?_)
      refine W.eq (g2 := F0 m 134 ls (.int r19 :: [])) rfl ?_
      obtain ⟨rfl, rfl⟩ := mm_pr h
      exact mm_iret C0 hR dX6_look_134
    rw [if_neg (fun q => c17 (ew5.trans q))] at h
    by_cases c20 : w5 = 9
    · rw [if_pos (ew5.symm.trans c20)] at h
      rw [c20]
      refine lv_tableIn (off := 112) (tgt := 135) hx hb dX6_look_23 (by decide) (by decide) (by decide +kernel) (by decide) ?_
      refine lv_aload_n hx hb dX6_look_135 rfl (lv_at hl 1 rfl) ?_
      refine lv_iload_n hx hb dX6_look_136 rfl (lv_at hl 2 rfl) ?_
      obtain ⟨r22, f21, ef21, h⟩ := mm_b2e h
      refine mm_callV (v := some (.int r22)) (f1 := f21) (d0 := 0) (rest := []) [.int x1] C0 rfl hR 0 0 (T_X6_loadsOn G ef21) ws_X6_loadsOn lk_73 hd_X6_loadsOn ⟨by decide, by decide⟩ vl_0 rfl rfl rfl hl.1 rfl (Nat.le_of_ble_eq_true rfl) dX6_look_137 (fun H locs hR => ?_)
      refine W.eq (g2 := F0 m 140 ls (.int r22 :: [])) rfl ?_
      obtain ⟨rfl, rfl⟩ := mm_pr h
      exact mm_iret C0 hR dX6_look_140
    rw [if_neg (fun q => c20 (ew5.trans q))] at h
    have tc6 := lv_neT (a := 0) c6 (by decide)
    have tc7 := lv_neT (a := 1) c7 (by decide)
    have tc8 := lv_neT (a := 2) c8 (by decide)
    have tc9 := lv_neT (a := 3) c9 (by decide)
    have tc10 := lv_neT (a := 4) c10 (by decide)
    have tc11 := lv_neT (a := 5) c11 (by decide)
    have tc12 := lv_neT (a := 6) c12 (by decide)
    have tc14 := lv_neT (a := 7) c14 (by decide)
    have tc17 := lv_neT (a := 8) c17 (by decide)
    have tc20 := lv_neT (a := 9) c20 (by decide)
    refine lv_tableOut (tgt := 141) hx hb dX6_look_23 (by omega) (by decide) ?_
    refine lv_aload_n hx hb dX6_look_141 rfl (lv_at hl 1 rfl) ?_
    refine lv_bipush (v := (-7)) hx hb dX6_look_142 (by decide) ?_
    obtain ⟨r24, f23, ef23, h⟩ := mm_b2e h
    refine mm_callV (v := some (.int r24)) (f1 := f23) (d0 := 1) (rest := []) [.int (-7)] C0 rfl hR 0 0 (T_X6_refuse G ef23) ws_X6_refuse lk_70 hd_X6_refuse ⟨by decide, by decide⟩ vl_0 rfl rfl rfl hl.1 rfl (Nat.le_of_ble_eq_true rfl) dX6_look_144 (fun H locs hR => ?_)
    refine W.eq (g2 := F0 m 147 ls (.int r24 :: [])) rfl ?_
    obtain ⟨rfl, rfl⟩ := mm_pr h
    exact mm_iret C0 hR dX6_look_147
  · rw [if_pos c3] at h
    refine lv_aload_n hx hb dX6_look_8 rfl (lv_at hl 0 rfl) ?_
    refine lv_bipush (v := (-3)) hx hb dX6_look_9 (by decide) ?_
    obtain ⟨r26, f25, ef25, h⟩ := mm_b2e h
    refine mm_callV (v := some (.int r26)) (f1 := f25) (d0 := 1) (rest := []) [.int (-3)] C0 rfl hR 0 0 (T_X6_refuse G ef25) ws_X6_refuse lk_70 hd_X6_refuse ⟨by decide, by decide⟩ vl_0 rfl rfl rfl hl.1 rfl (Nat.le_of_ble_eq_true rfl) dX6_look_11 (fun H locs hR => ?_)
    refine W.eq (g2 := F0 m 14 ls (.int r26 :: [])) rfl ?_
    obtain ⟨rfl, rfl⟩ := mm_pr h
    exact mm_iret C0 hR dX6_look_14
def S_X6_may_16 (f : F3)  : Option (Int32 × F3) := mm_b2 (S_X6_refuse f (-3)) fun r12 f11 => some (r12, f11)
set_option maxHeartbeats 4000000 in
set_option maxRecDepth 100000 in
theorem L_X6_may_16 {G : mmG} {p : Program} {e : Env} {s : State} {m : MethodId} {args : Array Value} {below : List Frame} {meth : Method} {c : Code} {f' : F3} {rv : Int32} (C0 : mmC yX6_may cX6_may 3 (some .int) p s m args meth c) {f : F3} (h : S_X6_may_16 f = some (rv, f')) (H : Heap) (locs : List Loc) (ls : Array Slot) (hR : mm_R G mm_NT f (GG f) s H locs) (hl : lv_has ls 3 [(0, .ref (ra G 0 0))]) : W p G.1 e (mm_rm 4) s m args below meth c H locs 0 0 (MQ below (mm_Q G mm_NT (some (.int rv)) f' (GG f')) args s 0 0 (mm_A G)) (F0 m 16 ls []) := by
  obtain ⟨hx, hb, hml, hr, hown, hts, hlocks⟩ := id C0
  rw [S_X6_may_16] at h
  refine lv_aload_n hx hb dX6_may_16 rfl (lv_at hl 0 rfl) ?_
  refine lv_bipush (v := (-3)) hx hb dX6_may_17 (by decide) ?_
  obtain ⟨r12, f11, ef11, h⟩ := mm_b2e h
  refine mm_callV (v := some (.int r12)) (f1 := f11) (d0 := 1) (rest := []) [.int (-3)] C0 rfl hR 0 0 (T_X6_refuse G ef11) ws_X6_refuse lk_70 hd_X6_refuse ⟨by decide, by decide⟩ vl_0 rfl rfl rfl hl.1 rfl (Nat.le_of_ble_eq_true rfl) dX6_may_19 (fun H locs hR => ?_)
  refine W.eq (g2 := F0 m 22 ls (.int r12 :: [])) rfl ?_
  obtain ⟨rfl, rfl⟩ := mm_pr h
  exact mm_iret C0 hR dX6_may_22
def S_X6_may (f : F3) (x1 : Int32) (x2 : Int32) : Option (Int32 × F3) := mm_b2 (S_X6_isLoad f x1) fun r2 f1 => if r2 = 0 then (S_X6_may_16 f1 ) else (mm_b2 (S_X6_isCell f1 x2) fun r5 f4 => if r5 = 0 then (S_X6_may_16 f4 ) else (if okI x1 24 then (mm_b2 (S_X6_reasonAgainst f4 x1.toNatClampNeg x2) fun r9 f8 => if r9 = 0 then (some (1, f8)) else (some (0, f8))) else none))
set_option maxHeartbeats 4000000 in
set_option maxRecDepth 100000 in
theorem T_X6_may (G : mmG) {f f' : F3} {rv : Int32} {x1 : Int32} {x2 : Int32} (h : S_X6_may f x1 x2 = some (rv, f')) : mmM G yX6_may cX6_may 3 (some .int) 4 [.ref (ra G 0 0), .int x1, .int x2] f (some (.int rv)) f' := by
  refine mm_start (by decide +kernel) (Nat.le_of_ble_eq_true rfl) ?_
  intro p e s m args below meth c ls C0 hR hl
  obtain ⟨hx, hb, hml, hr, hown, hts, hlocks⟩ := id C0
  have hl : lv_has ls 3 [(0, .ref (ra G 0 0)), (1, .int x1), (2, .int x2)] := hl
  rw [S_X6_may] at h
  refine lv_aload_n hx hb dX6_may_0 rfl (lv_at hl 0 rfl) ?_
  refine lv_iload_n hx hb dX6_may_1 rfl (lv_at hl 1 rfl) ?_
  obtain ⟨r2, f1, ef1, h⟩ := mm_b2e h
  refine mm_callV (v := some (.int r2)) (f1 := f1) (d0 := 0) (rest := []) [.int x1] C0 rfl hR 0 0 (T_X6_isLoad G ef1) ws_X6_isLoad lk_124 hd_X6_isLoad ⟨by decide, by decide⟩ vl_0 rfl rfl rfl hl.1 rfl (Nat.le_of_ble_eq_true rfl) dX6_may_2 (fun H locs hR => ?_)
  refine W.eq (g2 := F0 m 5 ls (.int r2 :: [])) rfl ?_
  refine lv_if_eq (tgt := 16) hx hb dX6_may_5 (by decide) (fun c3 => ?_) (fun c3 => ?_)
  · rw [if_pos c3] at h
    exact L_X6_may_16 C0 h _ _ _ hR (lv_sub hl [0] rfl)
  · rw [if_neg c3] at h
    refine lv_aload_n hx hb dX6_may_8 rfl (lv_at hl 0 rfl) ?_
    refine lv_iload_n hx hb dX6_may_9 rfl (lv_at hl 2 rfl) ?_
    obtain ⟨r5, f4, ef4, h⟩ := mm_b2e h
    refine mm_callV (v := some (.int r5)) (f1 := f4) (d0 := 0) (rest := []) [.int x2] C0 rfl hR 0 0 (T_X6_isCell G ef4) ws_X6_isCell lk_67 hd_X6_isCell ⟨by decide, by decide⟩ vl_0 rfl rfl rfl hl.1 rfl (Nat.le_of_ble_eq_true rfl) dX6_may_10 (fun H locs hR => ?_)
    refine W.eq (g2 := F0 m 13 ls (.int r5 :: [])) rfl ?_
    refine lv_if_ne (tgt := 23) hx hb dX6_may_13 (by decide) (fun c6 => ?_) (fun c6 => ?_)
    · rw [if_neg c6] at h
      refine lv_aload_n hx hb dX6_may_23 rfl (lv_at hl 0 rfl) ?_
      refine lv_aload_n hx hb dX6_may_24 rfl (lv_at hl 0 rfl) ?_
      refine mm_get hx hb hts hown hR 0 0 1 vl_0 (v := .ref (ra G 8 0)) rfl rfl iX6 (by decide) lk_61 rfl dX6_may_25 ?_
      refine lv_iload_n hx hb dX6_may_28 rfl (lv_at hl 1 rfl) ?_
      obtain ⟨z7, h⟩ := mm_if h
      refine mm_ald hx hb hR 8 0 3 vl_8 (L := 24) (C := "IceRoad$Load") (r2 := 2) (i2 := x1.toNatClampNeg) rfl rfl (okI_in z7) rfl (by decide) dX6_may_29 ?_
      refine lv_iload_n hx hb dX6_may_30 rfl (lv_at hl 2 rfl) ?_
      obtain ⟨r9, f8, ef8, h⟩ := mm_b2e h
      refine mm_callV (v := some (.int r9)) (f1 := f8) (d0 := 3) (rest := []) [.ref (ra G 2 x1.toNatClampNeg), .int x2] C0 rfl hR 0 0 (T_X6_reasonAgainst G (okI_lt z7) ef8) ws_X6_reasonAgainst lk_104 hd_X6_reasonAgainst ⟨by decide, by decide⟩ vl_0 rfl rfl rfl hl.1 rfl (Nat.le_of_ble_eq_true rfl) dX6_may_31 (fun H locs hR => ?_)
      refine W.eq (g2 := F0 m 34 ls (.int r9 :: [])) rfl ?_
      refine lv_if_ne (tgt := 41) hx hb dX6_may_34 (by decide) (fun c10 => ?_) (fun c10 => ?_)
      · rw [if_neg c10] at h
        refine lv_iconst (v := 0) hx hb dX6_may_41 (by decide) ?_
        obtain ⟨rfl, rfl⟩ := mm_pr h
        exact mm_iret C0 hR dX6_may_42
      · rw [if_pos c10] at h
        refine lv_iconst (v := 1) hx hb dX6_may_37 (by decide) ?_
        refine lv_goto (tgt := 42) hx hb dX6_may_38 (by decide) ?_
        obtain ⟨rfl, rfl⟩ := mm_pr h
        exact mm_iret C0 hR dX6_may_42
    · rw [if_pos c6] at h
      exact L_X6_may_16 C0 h _ _ _ hR (lv_sub hl [0] rfl)
def S_X6_moveLoadsOnCells_109 (k2 : F3 → Int32 → Option F3) (f : F3) (x1 : Int32) : Option F3 := k2 f (x1 + 1)
set_option maxHeartbeats 4000000 in
set_option maxRecDepth 100000 in
theorem L_X6_moveLoadsOnCells_109 {G : mmG} {p : Program} {e : Env} {s : State} {m : MethodId} {args : Array Value} {below : List Frame} {meth : Method} {c : Code} {f' : F3} (C0 : mmC yX6_moveLoadsOnCells cX6_moveLoadsOnCells 3 none p s m args meth c) {k2 : F3 → Int32 → Option F3} (hk2 : ∀ (f : F3) (x1 : Int32), k2 f x1 = some f' → ∀ (H : Heap) (locs : List Loc) (ls : Array Slot), mm_R G mm_NT f (GG f) s H locs → lv_has ls 3 [(0, .ref (ra G 0 0)), (1, .int x1)] → W p G.1 e (mm_rm 5) s m args below meth c H locs 0 0 (MQ below (mm_Q G mm_NT none f' (GG f')) args s 0 0 (mm_A G)) (F0 m 2 ls [])) {f : F3} {x1 : Int32} (h : S_X6_moveLoadsOnCells_109 k2 f x1 = some f') (H : Heap) (locs : List Loc) (ls : Array Slot) (hR : mm_R G mm_NT f (GG f) s H locs) (hl : lv_has ls 3 [(0, .ref (ra G 0 0)), (1, .int x1)]) : W p G.1 e (mm_rm 5) s m args below meth c H locs 0 0 (MQ below (mm_Q G mm_NT none f' (GG f')) args s 0 0 (mm_A G)) (F0 m 109 ls []) := by
  obtain ⟨hx, hb, hml, hr, hown, hts, hlocks⟩ := id C0
  rw [S_X6_moveLoadsOnCells_109] at h
  refine lv_iinc (v := x1 + 1) (lv' := [(1, .int (x1 + 1)), (0, .ref (ra G 0 0))]) hx hb dX6_moveLoadsOnCells_109 hl (k := 1) rfl rfl (by decide) rfl (fun ls hl => ?_)
  refine lv_goto (tgt := 2) hx hb dX6_moveLoadsOnCells_112 (by decide) ?_
  exact hk2 _ (x1 + 1)  h _ _ _ hR (lv_sub hl [1, 0] rfl)
def S_X6_moveLoadsOnCells_106 (k2 : F3 → Int32 → Option F3) (f : F3) (t1 : Nat) (s2 : Int32) (x1 : Int32) : Option F3 := Option.bind (S_X6_comeIfItCan f t1 s2) fun f15 => S_X6_moveLoadsOnCells_109 k2 f15 x1
set_option maxHeartbeats 4000000 in
set_option maxRecDepth 100000 in
theorem L_X6_moveLoadsOnCells_106 {G : mmG} {p : Program} {e : Env} {s : State} {m : MethodId} {args : Array Value} {below : List Frame} {meth : Method} {c : Code} {f' : F3} (C0 : mmC yX6_moveLoadsOnCells cX6_moveLoadsOnCells 3 none p s m args meth c) {k2 : F3 → Int32 → Option F3} (hk2 : ∀ (f : F3) (x1 : Int32), k2 f x1 = some f' → ∀ (H : Heap) (locs : List Loc) (ls : Array Slot), mm_R G mm_NT f (GG f) s H locs → lv_has ls 3 [(0, .ref (ra G 0 0)), (1, .int x1)] → W p G.1 e (mm_rm 5) s m args below meth c H locs 0 0 (MQ below (mm_Q G mm_NT none f' (GG f')) args s 0 0 (mm_A G)) (F0 m 2 ls [])) {f : F3} {t1 : Nat} {s2 : Int32} {x1 : Int32} (ht1 : t1 < mm_cnt 2) (h : S_X6_moveLoadsOnCells_106 k2 f t1 s2 x1 = some f') (H : Heap) (locs : List Loc) (ls : Array Slot) (hR : mm_R G mm_NT f (GG f) s H locs) (hl : lv_has ls 3 [(0, .ref (ra G 0 0)), (1, .int x1)]) : W p G.1 e (mm_rm 5) s m args below meth c H locs 0 0 (MQ below (mm_Q G mm_NT none f' (GG f')) args s 0 0 (mm_A G)) (F0 m 106 ls [.int s2, .ref (ra G 2 t1), .ref (ra G 0 0)]) := by
  obtain ⟨hx, hb, hml, hr, hown, hts, hlocks⟩ := id C0
  rw [S_X6_moveLoadsOnCells_106] at h
  obtain ⟨f15, ef15, h⟩ := mm_bind h
  refine mm_callV (v := none) (f1 := f15) (d0 := 4) (rest := []) [.ref (ra G 2 t1), .int s2] C0 rfl hR 0 0 (T_X6_comeIfItCan G ht1 ef15) ws_X6_comeIfItCan lk_126 hd_X6_comeIfItCan ⟨by decide, by decide⟩ vl_0 rfl rfl rfl hl.1 rfl (Nat.le_of_ble_eq_true rfl) dX6_moveLoadsOnCells_106 (fun H locs hR => ?_)
  refine W.eq (g2 := F0 m 109 ls ([])) rfl ?_
  exact L_X6_moveLoadsOnCells_109 C0 hk2 h _ _ _ hR (lv_sub hl [0, 1] rfl)
def S_X6_moveLoadsOnCells_2 : Nat → F3 → Int32 → Option F3
  | 0, _, _ => none
  | n + 1, f, x1 => if (f 0 0 13) ≤ x1 then (some f) else (if okI x1 24 then (if (f 9 0 x1.toNatClampNeg).toNatClampNeg < 24 then (if (f 2 ((f 9 0 x1.toNatClampNeg).toNatClampNeg) 3) = 1 then (mm_b2 (S_X6_isCell f (f 2 ((f 9 0 x1.toNatClampNeg).toNatClampNeg) 4)) fun r6 f5 => if r6 = 0 then (S_X6_moveLoadsOnCells_109 (fun f9 x1_ => S_X6_moveLoadsOnCells_2 n f9 x1_) f5 x1) else (if okI (f5 2 ((f 9 0 x1.toNatClampNeg).toNatClampNeg) 4) 10 then (if (f5 2 ((f 9 0 x1.toNatClampNeg).toNatClampNeg) 5) < (f5 1 ((f5 2 ((f 9 0 x1.toNatClampNeg).toNatClampNeg) 4).toNatClampNeg) 4) then (S_X6_moveLoadsOnCells_109 (fun f9 x1_ => S_X6_moveLoadsOnCells_2 n f9 x1_) f5 x1) else (mm_b2 (S_X6_lastPlace f5 (f5 2 ((f 9 0 x1.toNatClampNeg).toNatClampNeg) 2)) fun r11 f10 => if (f5 2 ((f 9 0 x1.toNatClampNeg).toNatClampNeg) 4) = r11 then (Option.bind (S_X1_end f10 ((f 9 0 x1.toNatClampNeg).toNatClampNeg) 2 (f10 0 0 15)) fun f14 => S_X6_moveLoadsOnCells_109 (fun f9 x1_ => S_X6_moveLoadsOnCells_2 n f9 x1_) f14 x1) else (if (f10 2 ((f 9 0 x1.toNatClampNeg).toNatClampNeg) 2) = 0 then (S_X6_moveLoadsOnCells_106 (fun f9 x1_ => S_X6_moveLoadsOnCells_2 n f9 x1_) f10 ((f 9 0 x1.toNatClampNeg).toNatClampNeg) ((f10 2 ((f 9 0 x1.toNatClampNeg).toNatClampNeg) 4) + 1) x1) else (S_X6_moveLoadsOnCells_106 (fun f9 x1_ => S_X6_moveLoadsOnCells_2 n f9 x1_) f10 ((f 9 0 x1.toNatClampNeg).toNatClampNeg) ((f10 2 ((f 9 0 x1.toNatClampNeg).toNatClampNeg) 4) - 1) x1)))) else none)) else (S_X6_moveLoadsOnCells_109 (fun f9 x1_ => S_X6_moveLoadsOnCells_2 n f9 x1_) f x1)) else none) else none)
set_option maxHeartbeats 4000000 in
set_option maxRecDepth 100000 in
theorem L_X6_moveLoadsOnCells_2 {G : mmG} {p : Program} {e : Env} {s : State} {m : MethodId} {args : Array Value} {below : List Frame} {meth : Method} {c : Code} {f' : F3} (C0 : mmC yX6_moveLoadsOnCells cX6_moveLoadsOnCells 3 none p s m args meth c) : ∀ (n : Nat) {f : F3} {x1 : Int32} , S_X6_moveLoadsOnCells_2 n f x1 = some f' → ∀ (H : Heap) (locs : List Loc) (ls : Array Slot), mm_R G mm_NT f (GG f) s H locs → lv_has ls 3 [(0, .ref (ra G 0 0)), (1, .int x1)] → W p G.1 e (mm_rm 5) s m args below meth c H locs 0 0 (MQ below (mm_Q G mm_NT none f' (GG f')) args s 0 0 (mm_A G)) (F0 m 2 ls []) := by
  obtain ⟨hx, hb, hml, hr, hown, hts, hlocks⟩ := id C0
  intro n
  induction n with
  | zero =>
    intro f x1  h H locs ls hR hl
    cases h
  | succ n ih =>
    intro f x1  h H locs ls hR hl
    rw [S_X6_moveLoadsOnCells_2] at h
    refine lv_iload_n hx hb dX6_moveLoadsOnCells_2 rfl (lv_at hl 1 rfl) ?_
    refine lv_aload_n hx hb dX6_moveLoadsOnCells_3 rfl (lv_at hl 0 rfl) ?_
    refine mm_get hx hb hts hown hR 0 0 13 vl_0 (v := .int (f 0 0 13)) rfl rfl iX6 (by decide) lk_60 rfl dX6_moveLoadsOnCells_4 ?_
    refine lv_icmp_ge (tgt := 115) hx hb dX6_moveLoadsOnCells_7 (by decide) (fun c1 => ?_) (fun c1 => ?_)
    · rw [if_pos c1] at h
      obtain rfl := mm_p1 h
      exact mm_vret C0 hR dX6_moveLoadsOnCells_115
    · rw [if_neg c1] at h
      refine lv_aload_n hx hb dX6_moveLoadsOnCells_10 rfl (lv_at hl 0 rfl) ?_
      refine mm_get hx hb hts hown hR 0 0 2 vl_0 (v := .ref (ra G 9 0)) rfl rfl iX6 (by decide) lk_119 rfl dX6_moveLoadsOnCells_11 ?_
      refine lv_iload_n hx hb dX6_moveLoadsOnCells_14 rfl (lv_at hl 1 rfl) ?_
      obtain ⟨z2, h⟩ := mm_if h
      obtain ⟨z3, h⟩ := mm_if h
      refine mm_ald hx hb hR 9 0 3 vl_9 (L := 24) (C := "IceRoad$Load") (r2 := 2) (i2 := (f 9 0 x1.toNatClampNeg).toNatClampNeg) rfl rfl (okI_in z2) rfl (by decide) dX6_moveLoadsOnCells_15 ?_
      refine lv_astore_n (lv' := [(2, .ref (ra G 2 ((f 9 0 x1.toNatClampNeg).toNatClampNeg))), (0, .ref (ra G 0 0)), (1, .int x1)]) hx hb dX6_moveLoadsOnCells_16 rfl hl (by decide) rfl (fun ls hl => ?_)
      refine lv_aload_n hx hb dX6_moveLoadsOnCells_17 rfl (lv_at hl 0 rfl) ?_
      refine mm_get hx hb hts hown hR 2 ((f 9 0 x1.toNatClampNeg).toNatClampNeg) 3 (mm_vld 2 (by decide) ((f 9 0 x1.toNatClampNeg).toNatClampNeg) z3) (v := .int (f 2 ((f 9 0 x1.toNatClampNeg).toNatClampNeg) 3)) rfl rfl iX1 (by decide) lk_62 rfl dX6_moveLoadsOnCells_18 ?_
      refine lv_iconst (v := 1) hx hb dX6_moveLoadsOnCells_21 (by decide) ?_
      refine lv_icmp_ne (tgt := 109) hx hb dX6_moveLoadsOnCells_22 (by decide) (fun c4 => ?_) (fun c4 => ?_)
      · rw [if_neg c4] at h
        exact L_X6_moveLoadsOnCells_109 C0 (fun _ _ h9 H9 locs9 ls9 hR9 hl9 => ih h9 _ _ _ hR9 hl9) h _ _ _ hR (lv_sub hl [1, 2] rfl)
      · rw [if_pos c4] at h
        refine lv_aload_n hx hb dX6_moveLoadsOnCells_25 rfl (lv_at hl 1 rfl) ?_
        refine lv_aload_n hx hb dX6_moveLoadsOnCells_26 rfl (lv_at hl 0 rfl) ?_
        refine mm_get hx hb hts hown hR 2 ((f 9 0 x1.toNatClampNeg).toNatClampNeg) 4 (mm_vld 2 (by decide) ((f 9 0 x1.toNatClampNeg).toNatClampNeg) z3) (v := .int (f 2 ((f 9 0 x1.toNatClampNeg).toNatClampNeg) 4)) rfl rfl iX1 (by decide) lk_71 rfl dX6_moveLoadsOnCells_27 ?_
        obtain ⟨r6, f5, ef5, h⟩ := mm_b2e h
        refine mm_callV (v := some (.int r6)) (f1 := f5) (d0 := 0) (rest := []) [.int (f 2 ((f 9 0 x1.toNatClampNeg).toNatClampNeg) 4)] C0 rfl hR 0 0 (T_X6_isCell G ef5) ws_X6_isCell lk_67 hd_X6_isCell ⟨by decide, by decide⟩ vl_0 rfl rfl rfl hl.1 rfl (Nat.le_of_ble_eq_true rfl) dX6_moveLoadsOnCells_30 (fun H locs hR => ?_)
        refine W.eq (g2 := F0 m 33 ls (.int r6 :: [])) rfl ?_
        refine lv_if_eq (tgt := 109) hx hb dX6_moveLoadsOnCells_33 (by decide) (fun c7 => ?_) (fun c7 => ?_)
        · rw [if_pos c7] at h
          exact L_X6_moveLoadsOnCells_109 C0 (fun _ _ h9 H9 locs9 ls9 hR9 hl9 => ih h9 _ _ _ hR9 hl9) h _ _ _ hR (lv_sub hl [1, 2] rfl)
        · rw [if_neg c7] at h
          refine lv_aload_n hx hb dX6_moveLoadsOnCells_36 rfl (lv_at hl 0 rfl) ?_
          refine mm_get hx hb hts hown hR 2 ((f 9 0 x1.toNatClampNeg).toNatClampNeg) 5 (mm_vld 2 (by decide) ((f 9 0 x1.toNatClampNeg).toNatClampNeg) z3) (v := .int (f5 2 ((f 9 0 x1.toNatClampNeg).toNatClampNeg) 5)) rfl rfl iX1 (by decide) lk_63 rfl dX6_moveLoadsOnCells_37 ?_
          refine lv_aload_n hx hb dX6_moveLoadsOnCells_40 rfl (lv_at hl 1 rfl) ?_
          refine mm_get hx hb hts hown hR 0 0 0 vl_0 (v := .ref (ra G 7 0)) rfl rfl iX6 (by decide) lk_68 rfl dX6_moveLoadsOnCells_41 ?_
          refine lv_aload_n hx hb dX6_moveLoadsOnCells_44 rfl (lv_at hl 0 rfl) ?_
          refine mm_get hx hb hts hown hR 2 ((f 9 0 x1.toNatClampNeg).toNatClampNeg) 4 (mm_vld 2 (by decide) ((f 9 0 x1.toNatClampNeg).toNatClampNeg) z3) (v := .int (f5 2 ((f 9 0 x1.toNatClampNeg).toNatClampNeg) 4)) rfl rfl iX1 (by decide) lk_71 rfl dX6_moveLoadsOnCells_45 ?_
          obtain ⟨z8, h⟩ := mm_if h
          refine mm_ald hx hb hR 7 0 2 vl_7 (L := 10) (C := "IceRoad$Cell") (r2 := 1) (i2 := (f5 2 ((f 9 0 x1.toNatClampNeg).toNatClampNeg) 4).toNatClampNeg) rfl rfl (okI_in z8) rfl (by decide) dX6_moveLoadsOnCells_48 ?_
          refine mm_get hx hb hts hown hR 1 ((f5 2 ((f 9 0 x1.toNatClampNeg).toNatClampNeg) 4).toNatClampNeg) 4 (mm_vld 1 (by decide) ((f5 2 ((f 9 0 x1.toNatClampNeg).toNatClampNeg) 4).toNatClampNeg) (Nat.lt_trans (okI_lt z8) (by decide))) (v := .int (f5 1 ((f5 2 ((f 9 0 x1.toNatClampNeg).toNatClampNeg) 4).toNatClampNeg) 4)) rfl rfl iX0 (by decide) lk_121 rfl dX6_moveLoadsOnCells_49 ?_
          refine lv_icmp_lt (tgt := 109) hx hb dX6_moveLoadsOnCells_52 (by decide) (fun c9 => ?_) (fun c9 => ?_)
          · rw [if_pos c9] at h
            exact L_X6_moveLoadsOnCells_109 C0 (fun _ _ h9 H9 locs9 ls9 hR9 hl9 => ih h9 _ _ _ hR9 hl9) h _ _ _ hR (lv_sub hl [1, 2] rfl)
          · rw [if_neg c9] at h
            refine lv_aload_n hx hb dX6_moveLoadsOnCells_55 rfl (lv_at hl 0 rfl) ?_
            refine mm_get hx hb hts hown hR 2 ((f 9 0 x1.toNatClampNeg).toNatClampNeg) 4 (mm_vld 2 (by decide) ((f 9 0 x1.toNatClampNeg).toNatClampNeg) z3) (v := .int (f5 2 ((f 9 0 x1.toNatClampNeg).toNatClampNeg) 4)) rfl rfl iX1 (by decide) lk_71 rfl dX6_moveLoadsOnCells_56 ?_
            refine lv_aload_n hx hb dX6_moveLoadsOnCells_59 rfl (lv_at hl 1 rfl) ?_
            refine lv_aload_n hx hb dX6_moveLoadsOnCells_60 rfl (lv_at hl 0 rfl) ?_
            refine mm_get hx hb hts hown hR 2 ((f 9 0 x1.toNatClampNeg).toNatClampNeg) 2 (mm_vld 2 (by decide) ((f 9 0 x1.toNatClampNeg).toNatClampNeg) z3) (v := .int (f5 2 ((f 9 0 x1.toNatClampNeg).toNatClampNeg) 2)) rfl rfl iX1 (by decide) lk_84 rfl dX6_moveLoadsOnCells_61 ?_
            obtain ⟨r11, f10, ef10, h⟩ := mm_b2e h
            refine mm_callV (v := some (.int r11)) (f1 := f10) (d0 := 0) (rest := [.int (f5 2 ((f 9 0 x1.toNatClampNeg).toNatClampNeg) 4)]) [.int (f5 2 ((f 9 0 x1.toNatClampNeg).toNatClampNeg) 2)] C0 rfl hR 0 0 (T_X6_lastPlace G ef10) ws_X6_lastPlace lk_125 hd_X6_lastPlace ⟨by decide, by decide⟩ vl_0 rfl rfl rfl hl.1 rfl (Nat.le_of_ble_eq_true rfl) dX6_moveLoadsOnCells_64 (fun H locs hR => ?_)
            refine W.eq (g2 := F0 m 67 ls (.int r11 :: .int (f5 2 ((f 9 0 x1.toNatClampNeg).toNatClampNeg) 4) :: [])) rfl ?_
            refine lv_icmp_ne (tgt := 82) hx hb dX6_moveLoadsOnCells_67 (by decide) (fun c12 => ?_) (fun c12 => ?_)
            · rw [if_neg c12] at h
              refine lv_aload_n hx hb dX6_moveLoadsOnCells_82 rfl (lv_at hl 1 rfl) ?_
              refine lv_aload_n hx hb dX6_moveLoadsOnCells_83 rfl (lv_at hl 0 rfl) ?_
              refine lv_aload_n hx hb dX6_moveLoadsOnCells_84 rfl (lv_at hl 0 rfl) ?_
              refine mm_get hx hb hts hown hR 2 ((f 9 0 x1.toNatClampNeg).toNatClampNeg) 2 (mm_vld 2 (by decide) ((f 9 0 x1.toNatClampNeg).toNatClampNeg) z3) (v := .int (f10 2 ((f 9 0 x1.toNatClampNeg).toNatClampNeg) 2)) rfl rfl iX1 (by decide) lk_84 rfl dX6_moveLoadsOnCells_85 ?_
              refine lv_if_ne (tgt := 100) hx hb dX6_moveLoadsOnCells_88 (by decide) (fun c13 => ?_) (fun c13 => ?_)
              · rw [if_neg c13] at h
                refine lv_aload_n hx hb dX6_moveLoadsOnCells_100 rfl (lv_at hl 0 rfl) ?_
                refine mm_get hx hb hts hown hR 2 ((f 9 0 x1.toNatClampNeg).toNatClampNeg) 4 (mm_vld 2 (by decide) ((f 9 0 x1.toNatClampNeg).toNatClampNeg) z3) (v := .int (f10 2 ((f 9 0 x1.toNatClampNeg).toNatClampNeg) 4)) rfl rfl iX1 (by decide) lk_71 rfl dX6_moveLoadsOnCells_101 ?_
                refine lv_iconst (v := 1) hx hb dX6_moveLoadsOnCells_104 (by decide) ?_
                refine lv_isub hx hb dX6_moveLoadsOnCells_105 ?_
                exact L_X6_moveLoadsOnCells_106 C0 (fun _ _ h9 H9 locs9 ls9 hR9 hl9 => ih h9 _ _ _ hR9 hl9) z3 h _ _ _ hR (lv_sub hl [1, 2] rfl)
              · rw [if_pos c13] at h
                refine lv_aload_n hx hb dX6_moveLoadsOnCells_91 rfl (lv_at hl 0 rfl) ?_
                refine mm_get hx hb hts hown hR 2 ((f 9 0 x1.toNatClampNeg).toNatClampNeg) 4 (mm_vld 2 (by decide) ((f 9 0 x1.toNatClampNeg).toNatClampNeg) z3) (v := .int (f10 2 ((f 9 0 x1.toNatClampNeg).toNatClampNeg) 4)) rfl rfl iX1 (by decide) lk_71 rfl dX6_moveLoadsOnCells_92 ?_
                refine lv_iconst (v := 1) hx hb dX6_moveLoadsOnCells_95 (by decide) ?_
                refine lv_iadd hx hb dX6_moveLoadsOnCells_96 ?_
                refine lv_goto (tgt := 106) hx hb dX6_moveLoadsOnCells_97 (by decide) ?_
                exact L_X6_moveLoadsOnCells_106 C0 (fun _ _ h9 H9 locs9 ls9 hR9 hl9 => ih h9 _ _ _ hR9 hl9) z3 h _ _ _ hR (lv_sub hl [1, 2] rfl)
            · rw [if_pos c12] at h
              refine lv_aload_n hx hb dX6_moveLoadsOnCells_70 rfl (lv_at hl 0 rfl) ?_
              refine lv_iconst (v := 2) hx hb dX6_moveLoadsOnCells_71 (by decide) ?_
              refine lv_aload_n hx hb dX6_moveLoadsOnCells_72 rfl (lv_at hl 1 rfl) ?_
              refine mm_get hx hb hts hown hR 0 0 15 vl_0 (v := .int (f10 0 0 15)) rfl rfl iX6 (by decide) lk_88 rfl dX6_moveLoadsOnCells_73 ?_
              obtain ⟨f14, ef14, h⟩ := mm_bind h
              refine mm_callV (v := none) (f1 := f14) (d0 := 0) (rest := []) [.int 2, .int (f10 0 0 15)] C0 rfl hR 2 ((f 9 0 x1.toNatClampNeg).toNatClampNeg) (T_X1_end G z3 ef14) ws_X1_end lk_106 hd_X1_end ⟨by decide, by decide⟩ (mm_vld 2 (by decide) ((f 9 0 x1.toNatClampNeg).toNatClampNeg) z3) rfl rfl rfl hl.1 rfl (Nat.le_of_ble_eq_true rfl) dX6_moveLoadsOnCells_76 (fun H locs hR => ?_)
              refine W.eq (g2 := F0 m 79 ls ([])) rfl ?_
              refine lv_goto (tgt := 109) hx hb dX6_moveLoadsOnCells_79 (by decide) ?_
              exact L_X6_moveLoadsOnCells_109 C0 (fun _ _ h9 H9 locs9 ls9 hR9 hl9 => ih h9 _ _ _ hR9 hl9) h _ _ _ hR (lv_sub hl [1, 2] rfl)
def S_X6_moveLoadsOnCells (f : F3)  : Option F3 := S_X6_moveLoadsOnCells_2 FU f 0
set_option maxHeartbeats 4000000 in
set_option maxRecDepth 100000 in
theorem T_X6_moveLoadsOnCells (G : mmG) {f f' : F3} (h : S_X6_moveLoadsOnCells f = some f') : mmM G yX6_moveLoadsOnCells cX6_moveLoadsOnCells 3 none 5 [.ref (ra G 0 0)] f none f' := by
  refine mm_start (by decide +kernel) (Nat.le_of_ble_eq_true rfl) ?_
  intro p e s m args below meth c ls C0 hR hl
  obtain ⟨hx, hb, hml, hr, hown, hts, hlocks⟩ := id C0
  have hl : lv_has ls 3 [(0, .ref (ra G 0 0))] := hl
  rw [S_X6_moveLoadsOnCells] at h
  refine lv_iconst (v := 0) hx hb dX6_moveLoadsOnCells_0 (by decide) ?_
  refine lv_istore_n (lv' := [(1, .int 0), (0, .ref (ra G 0 0))]) hx hb dX6_moveLoadsOnCells_1 rfl hl (by decide) rfl (fun ls hl => ?_)
  exact L_X6_moveLoadsOnCells_2 C0 _ h _ _ _ hR (lv_sub hl [1, 0] rfl)
def S_X6_moveWaitingLoads_46 (k2 : F3 → Int32 → Option F3) (f : F3) (x1 : Int32) : Option F3 := k2 f (x1 + 1)
set_option maxHeartbeats 4000000 in
set_option maxRecDepth 100000 in
theorem L_X6_moveWaitingLoads_46 {G : mmG} {p : Program} {e : Env} {s : State} {m : MethodId} {args : Array Value} {below : List Frame} {meth : Method} {c : Code} {f' : F3} (C0 : mmC yX6_moveWaitingLoads cX6_moveWaitingLoads 3 none p s m args meth c) {k2 : F3 → Int32 → Option F3} (hk2 : ∀ (f : F3) (x1 : Int32), k2 f x1 = some f' → ∀ (H : Heap) (locs : List Loc) (ls : Array Slot), mm_R G mm_NT f (GG f) s H locs → lv_has ls 3 [(0, .ref (ra G 0 0)), (1, .int x1)] → W p G.1 e (mm_rm 5) s m args below meth c H locs 0 0 (MQ below (mm_Q G mm_NT none f' (GG f')) args s 0 0 (mm_A G)) (F0 m 2 ls [])) {f : F3} {x1 : Int32} (h : S_X6_moveWaitingLoads_46 k2 f x1 = some f') (H : Heap) (locs : List Loc) (ls : Array Slot) (hR : mm_R G mm_NT f (GG f) s H locs) (hl : lv_has ls 3 [(0, .ref (ra G 0 0)), (1, .int x1)]) : W p G.1 e (mm_rm 5) s m args below meth c H locs 0 0 (MQ below (mm_Q G mm_NT none f' (GG f')) args s 0 0 (mm_A G)) (F0 m 46 ls []) := by
  obtain ⟨hx, hb, hml, hr, hown, hts, hlocks⟩ := id C0
  rw [S_X6_moveWaitingLoads_46] at h
  refine lv_iinc (v := x1 + 1) (lv' := [(1, .int (x1 + 1)), (0, .ref (ra G 0 0))]) hx hb dX6_moveWaitingLoads_46 hl (k := 1) rfl rfl (by decide) rfl (fun ls hl => ?_)
  refine lv_goto (tgt := 2) hx hb dX6_moveWaitingLoads_49 (by decide) ?_
  exact hk2 _ (x1 + 1)  h _ _ _ hR (lv_sub hl [1, 0] rfl)
def S_X6_moveWaitingLoads_43 (k2 : F3 → Int32 → Option F3) (f : F3) (t1 : Nat) (s2 : Int32) (x1 : Int32) : Option F3 := Option.bind (S_X6_comeIfItCan f t1 s2) fun f6 => S_X6_moveWaitingLoads_46 k2 f6 x1
set_option maxHeartbeats 4000000 in
set_option maxRecDepth 100000 in
theorem L_X6_moveWaitingLoads_43 {G : mmG} {p : Program} {e : Env} {s : State} {m : MethodId} {args : Array Value} {below : List Frame} {meth : Method} {c : Code} {f' : F3} (C0 : mmC yX6_moveWaitingLoads cX6_moveWaitingLoads 3 none p s m args meth c) {k2 : F3 → Int32 → Option F3} (hk2 : ∀ (f : F3) (x1 : Int32), k2 f x1 = some f' → ∀ (H : Heap) (locs : List Loc) (ls : Array Slot), mm_R G mm_NT f (GG f) s H locs → lv_has ls 3 [(0, .ref (ra G 0 0)), (1, .int x1)] → W p G.1 e (mm_rm 5) s m args below meth c H locs 0 0 (MQ below (mm_Q G mm_NT none f' (GG f')) args s 0 0 (mm_A G)) (F0 m 2 ls [])) {f : F3} {t1 : Nat} {s2 : Int32} {x1 : Int32} (ht1 : t1 < mm_cnt 2) (h : S_X6_moveWaitingLoads_43 k2 f t1 s2 x1 = some f') (H : Heap) (locs : List Loc) (ls : Array Slot) (hR : mm_R G mm_NT f (GG f) s H locs) (hl : lv_has ls 3 [(0, .ref (ra G 0 0)), (1, .int x1)]) : W p G.1 e (mm_rm 5) s m args below meth c H locs 0 0 (MQ below (mm_Q G mm_NT none f' (GG f')) args s 0 0 (mm_A G)) (F0 m 43 ls [.int s2, .ref (ra G 2 t1), .ref (ra G 0 0)]) := by
  obtain ⟨hx, hb, hml, hr, hown, hts, hlocks⟩ := id C0
  rw [S_X6_moveWaitingLoads_43] at h
  obtain ⟨f6, ef6, h⟩ := mm_bind h
  refine mm_callV (v := none) (f1 := f6) (d0 := 4) (rest := []) [.ref (ra G 2 t1), .int s2] C0 rfl hR 0 0 (T_X6_comeIfItCan G ht1 ef6) ws_X6_comeIfItCan lk_126 hd_X6_comeIfItCan ⟨by decide, by decide⟩ vl_0 rfl rfl rfl hl.1 rfl (Nat.le_of_ble_eq_true rfl) dX6_moveWaitingLoads_43 (fun H locs hR => ?_)
  refine W.eq (g2 := F0 m 46 ls ([])) rfl ?_
  exact L_X6_moveWaitingLoads_46 C0 hk2 h _ _ _ hR (lv_sub hl [0, 1] rfl)
def S_X6_moveWaitingLoads_2 : Nat → F3 → Int32 → Option F3
  | 0, _, _ => none
  | n + 1, f, x1 => if (f 0 0 13) ≤ x1 then (some f) else (if okI x1 24 then (if (f 9 0 x1.toNatClampNeg).toNatClampNeg < 24 then (if (f 2 ((f 9 0 x1.toNatClampNeg).toNatClampNeg) 3) = 0 then (if (f 2 ((f 9 0 x1.toNatClampNeg).toNatClampNeg) 2) = 0 then (S_X6_moveWaitingLoads_43 (fun f9 x1_ => S_X6_moveWaitingLoads_2 n f9 x1_) f ((f 9 0 x1.toNatClampNeg).toNatClampNeg) 0 x1) else (S_X6_moveWaitingLoads_43 (fun f9 x1_ => S_X6_moveWaitingLoads_2 n f9 x1_) f ((f 9 0 x1.toNatClampNeg).toNatClampNeg) ((f 0 0 12) - 1) x1)) else (S_X6_moveWaitingLoads_46 (fun f9 x1_ => S_X6_moveWaitingLoads_2 n f9 x1_) f x1)) else none) else none)
set_option maxHeartbeats 4000000 in
set_option maxRecDepth 100000 in
theorem L_X6_moveWaitingLoads_2 {G : mmG} {p : Program} {e : Env} {s : State} {m : MethodId} {args : Array Value} {below : List Frame} {meth : Method} {c : Code} {f' : F3} (C0 : mmC yX6_moveWaitingLoads cX6_moveWaitingLoads 3 none p s m args meth c) : ∀ (n : Nat) {f : F3} {x1 : Int32} , S_X6_moveWaitingLoads_2 n f x1 = some f' → ∀ (H : Heap) (locs : List Loc) (ls : Array Slot), mm_R G mm_NT f (GG f) s H locs → lv_has ls 3 [(0, .ref (ra G 0 0)), (1, .int x1)] → W p G.1 e (mm_rm 5) s m args below meth c H locs 0 0 (MQ below (mm_Q G mm_NT none f' (GG f')) args s 0 0 (mm_A G)) (F0 m 2 ls []) := by
  obtain ⟨hx, hb, hml, hr, hown, hts, hlocks⟩ := id C0
  intro n
  induction n with
  | zero =>
    intro f x1  h H locs ls hR hl
    cases h
  | succ n ih =>
    intro f x1  h H locs ls hR hl
    rw [S_X6_moveWaitingLoads_2] at h
    refine lv_iload_n hx hb dX6_moveWaitingLoads_2 rfl (lv_at hl 1 rfl) ?_
    refine lv_aload_n hx hb dX6_moveWaitingLoads_3 rfl (lv_at hl 0 rfl) ?_
    refine mm_get hx hb hts hown hR 0 0 13 vl_0 (v := .int (f 0 0 13)) rfl rfl iX6 (by decide) lk_60 rfl dX6_moveWaitingLoads_4 ?_
    refine lv_icmp_ge (tgt := 52) hx hb dX6_moveWaitingLoads_7 (by decide) (fun c1 => ?_) (fun c1 => ?_)
    · rw [if_pos c1] at h
      obtain rfl := mm_p1 h
      exact mm_vret C0 hR dX6_moveWaitingLoads_52
    · rw [if_neg c1] at h
      refine lv_aload_n hx hb dX6_moveWaitingLoads_10 rfl (lv_at hl 0 rfl) ?_
      refine mm_get hx hb hts hown hR 0 0 2 vl_0 (v := .ref (ra G 9 0)) rfl rfl iX6 (by decide) lk_119 rfl dX6_moveWaitingLoads_11 ?_
      refine lv_iload_n hx hb dX6_moveWaitingLoads_14 rfl (lv_at hl 1 rfl) ?_
      obtain ⟨z2, h⟩ := mm_if h
      obtain ⟨z3, h⟩ := mm_if h
      refine mm_ald hx hb hR 9 0 3 vl_9 (L := 24) (C := "IceRoad$Load") (r2 := 2) (i2 := (f 9 0 x1.toNatClampNeg).toNatClampNeg) rfl rfl (okI_in z2) rfl (by decide) dX6_moveWaitingLoads_15 ?_
      refine lv_astore_n (lv' := [(2, .ref (ra G 2 ((f 9 0 x1.toNatClampNeg).toNatClampNeg))), (0, .ref (ra G 0 0)), (1, .int x1)]) hx hb dX6_moveWaitingLoads_16 rfl hl (by decide) rfl (fun ls hl => ?_)
      refine lv_aload_n hx hb dX6_moveWaitingLoads_17 rfl (lv_at hl 0 rfl) ?_
      refine mm_get hx hb hts hown hR 2 ((f 9 0 x1.toNatClampNeg).toNatClampNeg) 3 (mm_vld 2 (by decide) ((f 9 0 x1.toNatClampNeg).toNatClampNeg) z3) (v := .int (f 2 ((f 9 0 x1.toNatClampNeg).toNatClampNeg) 3)) rfl rfl iX1 (by decide) lk_62 rfl dX6_moveWaitingLoads_18 ?_
      refine lv_if_ne (tgt := 46) hx hb dX6_moveWaitingLoads_21 (by decide) (fun c4 => ?_) (fun c4 => ?_)
      · rw [if_neg c4] at h
        exact L_X6_moveWaitingLoads_46 C0 (fun _ _ h9 H9 locs9 ls9 hR9 hl9 => ih h9 _ _ _ hR9 hl9) h _ _ _ hR (lv_sub hl [1, 2] rfl)
      · rw [if_pos c4] at h
        refine lv_aload_n hx hb dX6_moveWaitingLoads_24 rfl (lv_at hl 1 rfl) ?_
        refine lv_aload_n hx hb dX6_moveWaitingLoads_25 rfl (lv_at hl 0 rfl) ?_
        refine lv_aload_n hx hb dX6_moveWaitingLoads_26 rfl (lv_at hl 0 rfl) ?_
        refine mm_get hx hb hts hown hR 2 ((f 9 0 x1.toNatClampNeg).toNatClampNeg) 2 (mm_vld 2 (by decide) ((f 9 0 x1.toNatClampNeg).toNatClampNeg) z3) (v := .int (f 2 ((f 9 0 x1.toNatClampNeg).toNatClampNeg) 2)) rfl rfl iX1 (by decide) lk_84 rfl dX6_moveWaitingLoads_27 ?_
        refine lv_if_ne (tgt := 37) hx hb dX6_moveWaitingLoads_30 (by decide) (fun c5 => ?_) (fun c5 => ?_)
        · rw [if_neg c5] at h
          refine lv_aload_n hx hb dX6_moveWaitingLoads_37 rfl (lv_at hl 1 rfl) ?_
          refine mm_get hx hb hts hown hR 0 0 12 vl_0 (v := .int (f 0 0 12)) rfl rfl iX6 (by decide) lk_64 rfl dX6_moveWaitingLoads_38 ?_
          refine lv_iconst (v := 1) hx hb dX6_moveWaitingLoads_41 (by decide) ?_
          refine lv_isub hx hb dX6_moveWaitingLoads_42 ?_
          exact L_X6_moveWaitingLoads_43 C0 (fun _ _ h9 H9 locs9 ls9 hR9 hl9 => ih h9 _ _ _ hR9 hl9) z3 h _ _ _ hR (lv_sub hl [1, 2] rfl)
        · rw [if_pos c5] at h
          refine lv_iconst (v := 0) hx hb dX6_moveWaitingLoads_33 (by decide) ?_
          refine lv_goto (tgt := 43) hx hb dX6_moveWaitingLoads_34 (by decide) ?_
          exact L_X6_moveWaitingLoads_43 C0 (fun _ _ h9 H9 locs9 ls9 hR9 hl9 => ih h9 _ _ _ hR9 hl9) z3 h _ _ _ hR (lv_sub hl [1, 2] rfl)
def S_X6_moveWaitingLoads (f : F3)  : Option F3 := S_X6_moveWaitingLoads_2 FU f 0
set_option maxHeartbeats 4000000 in
set_option maxRecDepth 100000 in
theorem T_X6_moveWaitingLoads (G : mmG) {f f' : F3} (h : S_X6_moveWaitingLoads f = some f') : mmM G yX6_moveWaitingLoads cX6_moveWaitingLoads 3 none 5 [.ref (ra G 0 0)] f none f' := by
  refine mm_start (by decide +kernel) (Nat.le_of_ble_eq_true rfl) ?_
  intro p e s m args below meth c ls C0 hR hl
  obtain ⟨hx, hb, hml, hr, hown, hts, hlocks⟩ := id C0
  have hl : lv_has ls 3 [(0, .ref (ra G 0 0))] := hl
  rw [S_X6_moveWaitingLoads] at h
  refine lv_iconst (v := 0) hx hb dX6_moveWaitingLoads_0 (by decide) ?_
  refine lv_istore_n (lv' := [(1, .int 0), (0, .ref (ra G 0 0))]) hx hb dX6_moveWaitingLoads_1 rfl hl (by decide) rfl (fun ls hl => ?_)
  exact L_X6_moveWaitingLoads_2 C0 _ h _ _ _ hR (lv_sub hl [1, 0] rfl)
def S_X6_of (f : F3) (x1 : Int32) (x2 : Int32) : Option (Int32 × F3) := mm_b2 (S_X6_isLoad f x1) fun r2 f1 => if r2 = 0 then (mm_b2 (S_X6_refuse f1 (-3)) fun r16 f15 => some (r16, f15)) else (if okI x1 24 then (if x2 = 0 then (some (f1 2 x1.toNatClampNeg 0, f1)) else if x2 = 1 then (some (f1 2 x1.toNatClampNeg 1, f1)) else if x2 = 2 then (some (f1 2 x1.toNatClampNeg 2, f1)) else if x2 = 3 then (some (f1 2 x1.toNatClampNeg 3, f1)) else if x2 = 4 then (some (f1 2 x1.toNatClampNeg 4, f1)) else if x2 = 5 then (some (f1 2 x1.toNatClampNeg 5, f1)) else if x2 = 6 then (some (f1 2 x1.toNatClampNeg 6, f1)) else (mm_b2 (S_X6_refuse f1 (-7)) fun r14 f13 => some (r14, f13))) else none)
set_option maxHeartbeats 4000000 in
set_option maxRecDepth 100000 in
theorem T_X6_of (G : mmG) {f f' : F3} {rv : Int32} {x1 : Int32} {x2 : Int32} (h : S_X6_of f x1 x2 = some (rv, f')) : mmM G yX6_of cX6_of 4 (some .int) 2 [.ref (ra G 0 0), .int x1, .int x2] f (some (.int rv)) f' := by
  refine mm_start (by decide +kernel) (Nat.le_of_ble_eq_true rfl) ?_
  intro p e s m args below meth c ls C0 hR hl
  obtain ⟨hx, hb, hml, hr, hown, hts, hlocks⟩ := id C0
  have hl : lv_has ls 4 [(0, .ref (ra G 0 0)), (1, .int x1), (2, .int x2)] := hl
  rw [S_X6_of] at h
  refine lv_aload_n hx hb dX6_of_0 rfl (lv_at hl 0 rfl) ?_
  refine lv_iload_n hx hb dX6_of_1 rfl (lv_at hl 1 rfl) ?_
  obtain ⟨r2, f1, ef1, h⟩ := mm_b2e h
  refine mm_callV (v := some (.int r2)) (f1 := f1) (d0 := 0) (rest := []) [.int x1] C0 rfl hR 0 0 (T_X6_isLoad G ef1) ws_X6_isLoad lk_124 hd_X6_isLoad ⟨by decide, by decide⟩ vl_0 rfl rfl rfl hl.1 rfl (Nat.le_of_ble_eq_true rfl) dX6_of_2 (fun H locs hR => ?_)
  refine W.eq (g2 := F0 m 5 ls (.int r2 :: [])) rfl ?_
  refine lv_if_ne (tgt := 15) hx hb dX6_of_5 (by decide) (fun c3 => ?_) (fun c3 => ?_)
  · rw [if_neg c3] at h
    refine lv_aload_n hx hb dX6_of_15 rfl (lv_at hl 0 rfl) ?_
    refine mm_get hx hb hts hown hR 0 0 1 vl_0 (v := .ref (ra G 8 0)) rfl rfl iX6 (by decide) lk_61 rfl dX6_of_16 ?_
    refine lv_iload_n hx hb dX6_of_19 rfl (lv_at hl 1 rfl) ?_
    obtain ⟨z4, h⟩ := mm_if h
    refine mm_ald hx hb hR 8 0 3 vl_8 (L := 24) (C := "IceRoad$Load") (r2 := 2) (i2 := x1.toNatClampNeg) rfl rfl (okI_in z4) rfl (by decide) dX6_of_20 ?_
    refine lv_astore_n (lv' := [(3, .ref (ra G 2 x1.toNatClampNeg)), (0, .ref (ra G 0 0)), (1, .int x1), (2, .int x2)]) hx hb dX6_of_21 rfl hl (by decide) rfl (fun ls hl => ?_)
    refine lv_iload_n hx hb dX6_of_22 rfl (lv_at hl 3 rfl) ?_
    refine lv_topi (fun w5 ew5 => ?_)
    by_cases c6 : w5 = 0
    · rw [if_pos (ew5.symm.trans c6)] at h
      rw [c6]
      refine lv_tableIn (off := 41) (tgt := 64) hx hb dX6_of_23 (by decide) (by decide) (by decide +kernel) (by decide) ?_
      refine lv_aload_n hx hb dX6_of_64 rfl (lv_at hl 0 rfl) ?_
      refine mm_get hx hb hts hown hR 2 x1.toNatClampNeg 0 (mm_vld 2 (by decide) x1.toNatClampNeg (okI_lt z4)) (v := .int (f1 2 x1.toNatClampNeg 0)) rfl rfl iX1 (by decide) lk_86 rfl dX6_of_65 ?_
      obtain ⟨rfl, rfl⟩ := mm_pr h
      exact mm_iret C0 hR dX6_of_68
    rw [if_neg (fun q => c6 (ew5.trans q))] at h
    by_cases c7 : w5 = 1
    · rw [if_pos (ew5.symm.trans c7)] at h
      rw [c7]
      refine lv_tableIn (off := 46) (tgt := 69) hx hb dX6_of_23 (by decide) (by decide) (by decide +kernel) (by decide) ?_
      refine lv_aload_n hx hb dX6_of_69 rfl (lv_at hl 0 rfl) ?_
      refine mm_get hx hb hts hown hR 2 x1.toNatClampNeg 1 (mm_vld 2 (by decide) x1.toNatClampNeg (okI_lt z4)) (v := .int (f1 2 x1.toNatClampNeg 1)) rfl rfl iX1 (by decide) lk_87 rfl dX6_of_70 ?_
      obtain ⟨rfl, rfl⟩ := mm_pr h
      exact mm_iret C0 hR dX6_of_73
    rw [if_neg (fun q => c7 (ew5.trans q))] at h
    by_cases c8 : w5 = 2
    · rw [if_pos (ew5.symm.trans c8)] at h
      rw [c8]
      refine lv_tableIn (off := 51) (tgt := 74) hx hb dX6_of_23 (by decide) (by decide) (by decide +kernel) (by decide) ?_
      refine lv_aload_n hx hb dX6_of_74 rfl (lv_at hl 0 rfl) ?_
      refine mm_get hx hb hts hown hR 2 x1.toNatClampNeg 2 (mm_vld 2 (by decide) x1.toNatClampNeg (okI_lt z4)) (v := .int (f1 2 x1.toNatClampNeg 2)) rfl rfl iX1 (by decide) lk_84 rfl dX6_of_75 ?_
      obtain ⟨rfl, rfl⟩ := mm_pr h
      exact mm_iret C0 hR dX6_of_78
    rw [if_neg (fun q => c8 (ew5.trans q))] at h
    by_cases c9 : w5 = 3
    · rw [if_pos (ew5.symm.trans c9)] at h
      rw [c9]
      refine lv_tableIn (off := 56) (tgt := 79) hx hb dX6_of_23 (by decide) (by decide) (by decide +kernel) (by decide) ?_
      refine lv_aload_n hx hb dX6_of_79 rfl (lv_at hl 0 rfl) ?_
      refine mm_get hx hb hts hown hR 2 x1.toNatClampNeg 3 (mm_vld 2 (by decide) x1.toNatClampNeg (okI_lt z4)) (v := .int (f1 2 x1.toNatClampNeg 3)) rfl rfl iX1 (by decide) lk_62 rfl dX6_of_80 ?_
      obtain ⟨rfl, rfl⟩ := mm_pr h
      exact mm_iret C0 hR dX6_of_83
    rw [if_neg (fun q => c9 (ew5.trans q))] at h
    by_cases c10 : w5 = 4
    · rw [if_pos (ew5.symm.trans c10)] at h
      rw [c10]
      refine lv_tableIn (off := 61) (tgt := 84) hx hb dX6_of_23 (by decide) (by decide) (by decide +kernel) (by decide) ?_
      refine lv_aload_n hx hb dX6_of_84 rfl (lv_at hl 0 rfl) ?_
      refine mm_get hx hb hts hown hR 2 x1.toNatClampNeg 4 (mm_vld 2 (by decide) x1.toNatClampNeg (okI_lt z4)) (v := .int (f1 2 x1.toNatClampNeg 4)) rfl rfl iX1 (by decide) lk_71 rfl dX6_of_85 ?_
      obtain ⟨rfl, rfl⟩ := mm_pr h
      exact mm_iret C0 hR dX6_of_88
    rw [if_neg (fun q => c10 (ew5.trans q))] at h
    by_cases c11 : w5 = 5
    · rw [if_pos (ew5.symm.trans c11)] at h
      rw [c11]
      refine lv_tableIn (off := 66) (tgt := 89) hx hb dX6_of_23 (by decide) (by decide) (by decide +kernel) (by decide) ?_
      refine lv_aload_n hx hb dX6_of_89 rfl (lv_at hl 0 rfl) ?_
      refine mm_get hx hb hts hown hR 2 x1.toNatClampNeg 5 (mm_vld 2 (by decide) x1.toNatClampNeg (okI_lt z4)) (v := .int (f1 2 x1.toNatClampNeg 5)) rfl rfl iX1 (by decide) lk_63 rfl dX6_of_90 ?_
      obtain ⟨rfl, rfl⟩ := mm_pr h
      exact mm_iret C0 hR dX6_of_93
    rw [if_neg (fun q => c11 (ew5.trans q))] at h
    by_cases c12 : w5 = 6
    · rw [if_pos (ew5.symm.trans c12)] at h
      rw [c12]
      refine lv_tableIn (off := 71) (tgt := 94) hx hb dX6_of_23 (by decide) (by decide) (by decide +kernel) (by decide) ?_
      refine lv_aload_n hx hb dX6_of_94 rfl (lv_at hl 0 rfl) ?_
      refine mm_get hx hb hts hown hR 2 x1.toNatClampNeg 6 (mm_vld 2 (by decide) x1.toNatClampNeg (okI_lt z4)) (v := .int (f1 2 x1.toNatClampNeg 6)) rfl rfl iX1 (by decide) lk_127 rfl dX6_of_95 ?_
      obtain ⟨rfl, rfl⟩ := mm_pr h
      exact mm_iret C0 hR dX6_of_98
    rw [if_neg (fun q => c12 (ew5.trans q))] at h
    have tc6 := lv_neT (a := 0) c6 (by decide)
    have tc7 := lv_neT (a := 1) c7 (by decide)
    have tc8 := lv_neT (a := 2) c8 (by decide)
    have tc9 := lv_neT (a := 3) c9 (by decide)
    have tc10 := lv_neT (a := 4) c10 (by decide)
    have tc11 := lv_neT (a := 5) c11 (by decide)
    have tc12 := lv_neT (a := 6) c12 (by decide)
    refine lv_tableOut (tgt := 99) hx hb dX6_of_23 (by omega) (by decide) ?_
    refine lv_aload_n hx hb dX6_of_99 rfl (lv_at hl 1 rfl) ?_
    refine lv_bipush (v := (-7)) hx hb dX6_of_100 (by decide) ?_
    obtain ⟨r14, f13, ef13, h⟩ := mm_b2e h
    refine mm_callV (v := some (.int r14)) (f1 := f13) (d0 := 1) (rest := []) [.int (-7)] C0 rfl hR 0 0 (T_X6_refuse G ef13) ws_X6_refuse lk_70 hd_X6_refuse ⟨by decide, by decide⟩ vl_0 rfl rfl rfl hl.1 rfl (Nat.le_of_ble_eq_true rfl) dX6_of_102 (fun H locs hR => ?_)
    refine W.eq (g2 := F0 m 105 ls (.int r14 :: [])) rfl ?_
    obtain ⟨rfl, rfl⟩ := mm_pr h
    exact mm_iret C0 hR dX6_of_105
  · rw [if_pos c3] at h
    refine lv_aload_n hx hb dX6_of_8 rfl (lv_at hl 0 rfl) ?_
    refine lv_bipush (v := (-3)) hx hb dX6_of_9 (by decide) ?_
    obtain ⟨r16, f15, ef15, h⟩ := mm_b2e h
    refine mm_callV (v := some (.int r16)) (f1 := f15) (d0 := 1) (rest := []) [.int (-3)] C0 rfl hR 0 0 (T_X6_refuse G ef15) ws_X6_refuse lk_70 hd_X6_refuse ⟨by decide, by decide⟩ vl_0 rfl rfl rfl hl.1 rfl (Nat.le_of_ble_eq_true rfl) dX6_of_11 (fun H locs hR => ?_)
    refine W.eq (g2 := F0 m 14 ls (.int r16 :: [])) rfl ?_
    obtain ⟨rfl, rfl⟩ := mm_pr h
    exact mm_iret C0 hR dX6_of_14
def S_X6_read (f : F3) (x1 : Int32) : Option (Int32 × F3) := mm_b2 (S_X6_isCell f x1) fun r2 f1 => if r2 = 0 then (mm_b2 (S_X6_refuse f1 (-3)) fun r10 f9 => some (r10, f9)) else (if okI x1 10 then (if (f1 1 x1.toNatClampNeg 0) = 4 then (mm_b2 (S_X6_refuse f1 (-5)) fun r8 f7 => some (r8, f7)) else (mm_let (up f1 1 x1.toNatClampNeg 7 (f1 1 x1.toNatClampNeg 1)) fun f6 => some (f6 1 x1.toNatClampNeg 1, f6))) else none)
set_option maxHeartbeats 4000000 in
set_option maxRecDepth 100000 in
theorem T_X6_read (G : mmG) {f f' : F3} {rv : Int32} {x1 : Int32} (h : S_X6_read f x1 = some (rv, f')) : mmM G yX6_read cX6_read 3 (some .int) 2 [.ref (ra G 0 0), .int x1] f (some (.int rv)) f' := by
  refine mm_start (by decide +kernel) (Nat.le_of_ble_eq_true rfl) ?_
  intro p e s m args below meth c ls C0 hR hl
  obtain ⟨hx, hb, hml, hr, hown, hts, hlocks⟩ := id C0
  have hl : lv_has ls 3 [(0, .ref (ra G 0 0)), (1, .int x1)] := hl
  rw [S_X6_read] at h
  refine lv_aload_n hx hb dX6_read_0 rfl (lv_at hl 0 rfl) ?_
  refine lv_iload_n hx hb dX6_read_1 rfl (lv_at hl 1 rfl) ?_
  obtain ⟨r2, f1, ef1, h⟩ := mm_b2e h
  refine mm_callV (v := some (.int r2)) (f1 := f1) (d0 := 0) (rest := []) [.int x1] C0 rfl hR 0 0 (T_X6_isCell G ef1) ws_X6_isCell lk_67 hd_X6_isCell ⟨by decide, by decide⟩ vl_0 rfl rfl rfl hl.1 rfl (Nat.le_of_ble_eq_true rfl) dX6_read_2 (fun H locs hR => ?_)
  refine W.eq (g2 := F0 m 5 ls (.int r2 :: [])) rfl ?_
  refine lv_if_ne (tgt := 15) hx hb dX6_read_5 (by decide) (fun c3 => ?_) (fun c3 => ?_)
  · rw [if_neg c3] at h
    refine lv_aload_n hx hb dX6_read_15 rfl (lv_at hl 0 rfl) ?_
    refine mm_get hx hb hts hown hR 0 0 0 vl_0 (v := .ref (ra G 7 0)) rfl rfl iX6 (by decide) lk_68 rfl dX6_read_16 ?_
    refine lv_iload_n hx hb dX6_read_19 rfl (lv_at hl 1 rfl) ?_
    obtain ⟨z4, h⟩ := mm_if h
    refine mm_ald hx hb hR 7 0 2 vl_7 (L := 10) (C := "IceRoad$Cell") (r2 := 1) (i2 := x1.toNatClampNeg) rfl rfl (okI_in z4) rfl (by decide) dX6_read_20 ?_
    refine lv_astore_n (lv' := [(2, .ref (ra G 1 x1.toNatClampNeg)), (0, .ref (ra G 0 0)), (1, .int x1)]) hx hb dX6_read_21 rfl hl (by decide) rfl (fun ls hl => ?_)
    refine lv_aload_n hx hb dX6_read_22 rfl (lv_at hl 0 rfl) ?_
    refine mm_get hx hb hts hown hR 1 x1.toNatClampNeg 0 (mm_vld 1 (by decide) x1.toNatClampNeg (Nat.lt_trans (okI_lt z4) (by decide))) (v := .int (f1 1 x1.toNatClampNeg 0)) rfl rfl iX0 (by decide) lk_72 rfl dX6_read_23 ?_
    refine lv_iconst (v := 4) hx hb dX6_read_26 (by decide) ?_
    refine lv_icmp_ne (tgt := 37) hx hb dX6_read_27 (by decide) (fun c5 => ?_) (fun c5 => ?_)
    · rw [if_neg c5] at h
      refine lv_aload_n hx hb dX6_read_37 rfl (lv_at hl 0 rfl) ?_
      refine lv_aload_n hx hb dX6_read_38 rfl (lv_at hl 0 rfl) ?_
      refine mm_get hx hb hts hown hR 1 x1.toNatClampNeg 1 (mm_vld 1 (by decide) x1.toNatClampNeg (Nat.lt_trans (okI_lt z4) (by decide))) (v := .int (f1 1 x1.toNatClampNeg 1)) rfl rfl iX0 (by decide) lk_77 rfl dX6_read_39 ?_
      obtain ⟨f6, ef6, h⟩ := mm_lt h
      refine mm_put hx hb hts hown hR 1 x1.toNatClampNeg 7 (by decide) (mm_vld 1 (by decide) x1.toNatClampNeg (Nat.lt_trans (okI_lt z4) (by decide))) (x := f1 1 x1.toNatClampNeg 1) rfl rfl iX0 tyX0 tyX0_ok nmX0 (by decide) lk_95 rfl rfl rfl (Nat.le_of_ble_eq_true rfl) rfl dX6_read_42 (fun H locs hR => ?_)
      rw [← ef6] at hR
      refine lv_aload_n hx hb dX6_read_45 rfl (lv_at hl 0 rfl) ?_
      refine mm_get hx hb hts hown hR 1 x1.toNatClampNeg 1 (mm_vld 1 (by decide) x1.toNatClampNeg (Nat.lt_trans (okI_lt z4) (by decide))) (v := .int (f6 1 x1.toNatClampNeg 1)) rfl rfl iX0 (by decide) lk_77 rfl dX6_read_46 ?_
      obtain ⟨rfl, rfl⟩ := mm_pr h
      exact mm_iret C0 hR dX6_read_49
    · rw [if_pos c5] at h
      refine lv_aload_n hx hb dX6_read_30 rfl (lv_at hl 1 rfl) ?_
      refine lv_bipush (v := (-5)) hx hb dX6_read_31 (by decide) ?_
      obtain ⟨r8, f7, ef7, h⟩ := mm_b2e h
      refine mm_callV (v := some (.int r8)) (f1 := f7) (d0 := 1) (rest := []) [.int (-5)] C0 rfl hR 0 0 (T_X6_refuse G ef7) ws_X6_refuse lk_70 hd_X6_refuse ⟨by decide, by decide⟩ vl_0 rfl rfl rfl hl.1 rfl (Nat.le_of_ble_eq_true rfl) dX6_read_33 (fun H locs hR => ?_)
      refine W.eq (g2 := F0 m 36 ls (.int r8 :: [])) rfl ?_
      obtain ⟨rfl, rfl⟩ := mm_pr h
      exact mm_iret C0 hR dX6_read_36
  · rw [if_pos c3] at h
    refine lv_aload_n hx hb dX6_read_8 rfl (lv_at hl 0 rfl) ?_
    refine lv_bipush (v := (-3)) hx hb dX6_read_9 (by decide) ?_
    obtain ⟨r10, f9, ef9, h⟩ := mm_b2e h
    refine mm_callV (v := some (.int r10)) (f1 := f9) (d0 := 1) (rest := []) [.int (-3)] C0 rfl hR 0 0 (T_X6_refuse G ef9) ws_X6_refuse lk_70 hd_X6_refuse ⟨by decide, by decide⟩ vl_0 rfl rfl rfl hl.1 rfl (Nat.le_of_ble_eq_true rfl) dX6_read_11 (fun H locs hR => ?_)
    refine W.eq (g2 := F0 m 14 ls (.int r10 :: [])) rfl ?_
    obtain ⟨rfl, rfl⟩ := mm_pr h
    exact mm_iret C0 hR dX6_read_14
def S_X6_row (f : F3) (x1 : Int32) : Option (Int32 × F3) := if (f 0 0 11) = 0 then (mm_b2 (S_X6_refuse f (-2)) fun r9 f8 => some (0, f8)) else (mm_b2 (S_X6_isWithin f x1 0 47) fun r3 f2 => if r3 = 0 then (mm_b2 (S_X6_refuse f2 (-3)) fun r7 f6 => some (0, f6)) else (if okI x1 48 then (some (f2 11 0 x1.toNatClampNeg, f2)) else none))
set_option maxHeartbeats 4000000 in
set_option maxRecDepth 100000 in
theorem T_X6_row (G : mmG) {f f' : F3} {rv : Int32} {x1 : Int32} (h : S_X6_row f x1 = some (rv, f')) : mmM G yX6_row cX6_row 2 (some .int) 2 [.ref (ra G 0 0), .int x1] f (some (.int rv)) f' := by
  refine mm_start (by decide +kernel) (Nat.le_of_ble_eq_true rfl) ?_
  intro p e s m args below meth c ls C0 hR hl
  obtain ⟨hx, hb, hml, hr, hown, hts, hlocks⟩ := id C0
  have hl : lv_has ls 2 [(0, .ref (ra G 0 0)), (1, .int x1)] := hl
  rw [S_X6_row] at h
  refine lv_aload_n hx hb dX6_row_0 rfl (lv_at hl 0 rfl) ?_
  refine mm_get hx hb hts hown hR 0 0 11 vl_0 (v := .int (f 0 0 11)) rfl rfl iX6 (by decide) lk_79 rfl dX6_row_1 ?_
  refine lv_if_ne (tgt := 16) hx hb dX6_row_4 (by decide) (fun c1 => ?_) (fun c1 => ?_)
  · rw [if_neg c1] at h
    refine lv_iload_n hx hb dX6_row_16 rfl (lv_at hl 1 rfl) ?_
    refine lv_iconst (v := 0) hx hb dX6_row_17 (by decide) ?_
    refine lv_bipush (v := 47) hx hb dX6_row_18 (by decide) ?_
    obtain ⟨r3, f2, ef2, h⟩ := mm_b2e h
    refine mm_callS (v := some (.int r3)) (f1 := f2) (d0 := 0) (rest := []) [.int x1, .int 0, .int 47] C0 rfl hR (T_X6_isWithin G ef2) ws_X6_isWithin lk_65 hd_X6_isWithin ⟨by decide, by decide⟩ hl.1 rfl (Nat.le_of_ble_eq_true rfl) dX6_row_20 (fun H locs hR => ?_)
    refine W.eq (g2 := F0 m 23 ls (.int r3 :: [])) rfl ?_
    refine lv_if_ne (tgt := 35) hx hb dX6_row_23 (by decide) (fun c4 => ?_) (fun c4 => ?_)
    · rw [if_neg c4] at h
      refine lv_aload_n hx hb dX6_row_35 rfl (lv_at hl 0 rfl) ?_
      refine mm_get hx hb hts hown hR 0 0 7 vl_0 (v := .ref (ra G 11 0)) rfl rfl iX6 (by decide) lk_80 rfl dX6_row_36 ?_
      refine lv_iload_n hx hb dX6_row_39 rfl (lv_at hl 1 rfl) ?_
      obtain ⟨z5, h⟩ := mm_if h
      refine mm_ild hx hb hR 11 0 vl_11 (L := 48) rfl (okI_in z5) dX6_row_40 ?_
      obtain ⟨rfl, rfl⟩ := mm_pr h
      exact mm_iret C0 hR dX6_row_41
    · rw [if_pos c4] at h
      refine lv_aload_n hx hb dX6_row_26 rfl (lv_at hl 0 rfl) ?_
      refine lv_bipush (v := (-3)) hx hb dX6_row_27 (by decide) ?_
      obtain ⟨r7, f6, ef6, h⟩ := mm_b2e h
      refine mm_callV (v := some (.int r7)) (f1 := f6) (d0 := 1) (rest := []) [.int (-3)] C0 rfl hR 0 0 (T_X6_refuse G ef6) ws_X6_refuse lk_70 hd_X6_refuse ⟨by decide, by decide⟩ vl_0 rfl rfl rfl hl.1 rfl (Nat.le_of_ble_eq_true rfl) dX6_row_29 (fun H locs hR => ?_)
      refine W.eq (g2 := F0 m 32 ls (.int r7 :: [])) rfl ?_
      refine lv_pop hx hb dX6_row_32 rfl ?_
      refine lv_iconst (v := 0) hx hb dX6_row_33 (by decide) ?_
      obtain ⟨rfl, rfl⟩ := mm_pr h
      exact mm_iret C0 hR dX6_row_34
  · rw [if_pos c1] at h
    refine lv_aload_n hx hb dX6_row_7 rfl (lv_at hl 0 rfl) ?_
    refine lv_bipush (v := (-2)) hx hb dX6_row_8 (by decide) ?_
    obtain ⟨r9, f8, ef8, h⟩ := mm_b2e h
    refine mm_callV (v := some (.int r9)) (f1 := f8) (d0 := 1) (rest := []) [.int (-2)] C0 rfl hR 0 0 (T_X6_refuse G ef8) ws_X6_refuse lk_70 hd_X6_refuse ⟨by decide, by decide⟩ vl_0 rfl rfl rfl hl.1 rfl (Nat.le_of_ble_eq_true rfl) dX6_row_10 (fun H locs hR => ?_)
    refine W.eq (g2 := F0 m 13 ls (.int r9 :: [])) rfl ?_
    refine lv_pop hx hb dX6_row_13 rfl ?_
    refine lv_iconst (v := 0) hx hb dX6_row_14 (by decide) ?_
    obtain ⟨rfl, rfl⟩ := mm_pr h
    exact mm_iret C0 hR dX6_row_15
def S_X6_rule_25 (f : F3)  : Option (Int32 × F3) := mm_b2 (S_X6_refuse f (-7)) fun r20 f19 => some (r20, f19)
set_option maxHeartbeats 4000000 in
set_option maxRecDepth 100000 in
theorem L_X6_rule_25 {G : mmG} {p : Program} {e : Env} {s : State} {m : MethodId} {args : Array Value} {below : List Frame} {meth : Method} {c : Code} {f' : F3} {rv : Int32} (C0 : mmC yX6_rule cX6_rule 4 (some .int) p s m args meth c) {f : F3} (h : S_X6_rule_25 f = some (rv, f')) (H : Heap) (locs : List Loc) (ls : Array Slot) (hR : mm_R G mm_NT f (GG f) s H locs) (hl : lv_has ls 4 [(0, .ref (ra G 0 0))]) : W p G.1 e (mm_rm 9) s m args below meth c H locs 0 0 (MQ below (mm_Q G mm_NT (some (.int rv)) f' (GG f')) args s 0 0 (mm_A G)) (F0 m 25 ls []) := by
  obtain ⟨hx, hb, hml, hr, hown, hts, hlocks⟩ := id C0
  rw [S_X6_rule_25] at h
  refine lv_aload_n hx hb dX6_rule_25 rfl (lv_at hl 0 rfl) ?_
  refine lv_bipush (v := (-7)) hx hb dX6_rule_26 (by decide) ?_
  obtain ⟨r20, f19, ef19, h⟩ := mm_b2e h
  refine mm_callV (v := some (.int r20)) (f1 := f19) (d0 := 1) (rest := []) [.int (-7)] C0 rfl hR 0 0 (T_X6_refuse G ef19) ws_X6_refuse lk_70 hd_X6_refuse ⟨by decide, by decide⟩ vl_0 rfl rfl rfl hl.1 rfl (Nat.le_of_ble_eq_true rfl) dX6_rule_28 (fun H locs hR => ?_)
  refine W.eq (g2 := F0 m 31 ls (.int r20 :: [])) rfl ?_
  obtain ⟨rfl, rfl⟩ := mm_pr h
  exact mm_iret C0 hR dX6_rule_31
def S_X6_rule (f : F3) (x1 : Int32) (x2 : Int32) : Option (Int32 × F3) := mm_b2 (S_X6_isWithin f x1 0 100000) fun r2 f1 => if r2 = 0 then (S_X6_rule_25 f1 ) else (mm_b2 (S_X6_isWithin f1 x2 0 100000) fun r5 f4 => if r5 = 0 then (S_X6_rule_25 f4 ) else (if x1 < x2 then (if (f4 0 0 14) < 10 then (if okI (f4 0 0 14) 10 then (mm_b2 (S_X3_takeRule f4 ((f4 0 0 14).toNatClampNeg)) fun r11 f10 => if r11 = 0 then (some ((-10) - (f10 4 0 1), f10)) else (mm_let (up f10 3 ((f4 0 0 14).toNatClampNeg) 2 x1) fun f13 => mm_let (up f13 3 ((f4 0 0 14).toNatClampNeg) 3 x2) fun f14 => mm_let (up f14 5 0 1 0) fun f15 => mm_let (up f15 0 0 14 ((f15 0 0 14) + 1)) fun f16 => some ((f16 0 0 14) - 1, f16))) else none) else (mm_b2 (S_X6_refuse f4 (-8)) fun r18 f17 => some (r18, f17))) else (S_X6_rule_25 f4 )))
set_option maxHeartbeats 4000000 in
set_option maxRecDepth 100000 in
theorem T_X6_rule (G : mmG) {f f' : F3} {rv : Int32} {x1 : Int32} {x2 : Int32} (h : S_X6_rule f x1 x2 = some (rv, f')) : mmM G yX6_rule cX6_rule 4 (some .int) 9 [.ref (ra G 0 0), .int x1, .int x2] f (some (.int rv)) f' := by
  refine mm_start (by decide +kernel) (Nat.le_of_ble_eq_true rfl) ?_
  intro p e s m args below meth c ls C0 hR hl
  obtain ⟨hx, hb, hml, hr, hown, hts, hlocks⟩ := id C0
  have hl : lv_has ls 4 [(0, .ref (ra G 0 0)), (1, .int x1), (2, .int x2)] := hl
  rw [S_X6_rule] at h
  refine lv_iload_n hx hb dX6_rule_0 rfl (lv_at hl 1 rfl) ?_
  refine lv_iconst (v := 0) hx hb dX6_rule_1 (by decide) ?_
  refine lv_ldc (v := 100000) hx hb hown (hts _ lk_128) dX6_rule_2 ?_
  obtain ⟨r2, f1, ef1, h⟩ := mm_b2e h
  refine mm_callS (v := some (.int r2)) (f1 := f1) (d0 := 0) (rest := []) [.int x1, .int 0, .int 100000] C0 rfl hR (T_X6_isWithin G ef1) ws_X6_isWithin lk_65 hd_X6_isWithin ⟨by decide, by decide⟩ hl.1 rfl (Nat.le_of_ble_eq_true rfl) dX6_rule_4 (fun H locs hR => ?_)
  refine W.eq (g2 := F0 m 7 ls (.int r2 :: [])) rfl ?_
  refine lv_if_eq (tgt := 25) hx hb dX6_rule_7 (by decide) (fun c3 => ?_) (fun c3 => ?_)
  · rw [if_pos c3] at h
    exact L_X6_rule_25 C0 h _ _ _ hR (lv_sub hl [0] rfl)
  · rw [if_neg c3] at h
    refine lv_iload_n hx hb dX6_rule_10 rfl (lv_at hl 2 rfl) ?_
    refine lv_iconst (v := 0) hx hb dX6_rule_11 (by decide) ?_
    refine lv_ldc (v := 100000) hx hb hown (hts _ lk_128) dX6_rule_12 ?_
    obtain ⟨r5, f4, ef4, h⟩ := mm_b2e h
    refine mm_callS (v := some (.int r5)) (f1 := f4) (d0 := 0) (rest := []) [.int x2, .int 0, .int 100000] C0 rfl hR (T_X6_isWithin G ef4) ws_X6_isWithin lk_65 hd_X6_isWithin ⟨by decide, by decide⟩ hl.1 rfl (Nat.le_of_ble_eq_true rfl) dX6_rule_14 (fun H locs hR => ?_)
    refine W.eq (g2 := F0 m 17 ls (.int r5 :: [])) rfl ?_
    refine lv_if_eq (tgt := 25) hx hb dX6_rule_17 (by decide) (fun c6 => ?_) (fun c6 => ?_)
    · rw [if_pos c6] at h
      exact L_X6_rule_25 C0 h _ _ _ hR (lv_sub hl [0] rfl)
    · rw [if_neg c6] at h
      refine lv_iload_n hx hb dX6_rule_20 rfl (lv_at hl 1 rfl) ?_
      refine lv_iload_n hx hb dX6_rule_21 rfl (lv_at hl 2 rfl) ?_
      refine lv_icmp_lt (tgt := 32) hx hb dX6_rule_22 (by decide) (fun c7 => ?_) (fun c7 => ?_)
      · rw [if_pos c7] at h
        refine lv_aload_n hx hb dX6_rule_32 rfl (lv_at hl 0 rfl) ?_
        refine mm_get hx hb hts hown hR 0 0 14 vl_0 (v := .int (f4 0 0 14)) rfl rfl iX6 (by decide) lk_90 rfl dX6_rule_33 ?_
        refine lv_bipush (v := 10) hx hb dX6_rule_36 (by decide) ?_
        refine lv_icmp_lt (tgt := 48) hx hb dX6_rule_38 (by decide) (fun c8 => ?_) (fun c8 => ?_)
        · rw [if_pos c8] at h
          refine lv_aload_n hx hb dX6_rule_48 rfl (lv_at hl 0 rfl) ?_
          refine mm_get hx hb hts hown hR 0 0 3 vl_0 (v := .ref (ra G 10 0)) rfl rfl iX6 (by decide) lk_91 rfl dX6_rule_49 ?_
          refine lv_aload_n hx hb dX6_rule_52 rfl (lv_at hl 0 rfl) ?_
          refine mm_get hx hb hts hown hR 0 0 14 vl_0 (v := .int (f4 0 0 14)) rfl rfl iX6 (by decide) lk_90 rfl dX6_rule_53 ?_
          obtain ⟨z9, h⟩ := mm_if h
          refine mm_ald hx hb hR 10 0 4 vl_10 (L := 10) (C := "IceRoad$Rule") (r2 := 3) (i2 := (f4 0 0 14).toNatClampNeg) rfl rfl (okI_in z9) rfl (by decide) dX6_rule_56 ?_
          refine lv_astore_n (lv' := [(3, .ref (ra G 3 ((f4 0 0 14).toNatClampNeg))), (0, .ref (ra G 0 0)), (1, .int x1), (2, .int x2)]) hx hb dX6_rule_57 rfl hl (by decide) rfl (fun ls hl => ?_)
          refine lv_aload_n hx hb dX6_rule_58 rfl (lv_at hl 1 rfl) ?_
          refine mm_get hx hb hts hown hR 0 0 5 vl_0 (v := .ref (ra G 4 0)) rfl rfl iX6 (by decide) lk_129 rfl dX6_rule_59 ?_
          refine lv_aload_n hx hb dX6_rule_62 rfl (lv_at hl 0 rfl) ?_
          obtain ⟨r11, f10, ef10, h⟩ := mm_b2e h
          refine mm_callV (v := some (.int r11)) (f1 := f10) (d0 := 8) (rest := []) [.ref (ra G 3 ((f4 0 0 14).toNatClampNeg))] C0 rfl hR 4 0 (T_X3_takeRule G (okI_lt z9) ef10) ws_X3_takeRule lk_130 hd_X3_takeRule ⟨by decide, by decide⟩ vl_4 rfl rfl rfl hl.1 rfl (Nat.le_of_ble_eq_true rfl) dX6_rule_63 (fun H locs hR => ?_)
          refine W.eq (g2 := F0 m 66 ls (.int r11 :: [])) rfl ?_
          refine lv_if_ne (tgt := 80) hx hb dX6_rule_66 (by decide) (fun c12 => ?_) (fun c12 => ?_)
          · rw [if_neg c12] at h
            refine lv_aload_n hx hb dX6_rule_80 rfl (lv_at hl 0 rfl) ?_
            refine lv_iload_n hx hb dX6_rule_81 rfl (lv_at hl 2 rfl) ?_
            obtain ⟨f13, ef13, h⟩ := mm_lt h
            refine mm_put hx hb hts hown hR 3 ((f4 0 0 14).toNatClampNeg) 2 (by decide) (mm_vld 3 (by decide) ((f4 0 0 14).toNatClampNeg) (okI_lt z9)) (x := x1) rfl rfl iX2 tyX2 tyX2_ok nmX2 (by decide) lk_131 rfl rfl rfl (Nat.le_of_ble_eq_true rfl) rfl dX6_rule_82 (fun H locs hR => ?_)
            rw [← ef13] at hR
            refine lv_aload_n hx hb dX6_rule_85 rfl (lv_at hl 0 rfl) ?_
            refine lv_iload_n hx hb dX6_rule_86 rfl (lv_at hl 3 rfl) ?_
            obtain ⟨f14, ef14, h⟩ := mm_lt h
            refine mm_put hx hb hts hown hR 3 ((f4 0 0 14).toNatClampNeg) 3 (by decide) (mm_vld 3 (by decide) ((f4 0 0 14).toNatClampNeg) (okI_lt z9)) (x := x2) rfl rfl iX2 tyX2 tyX2_ok nmX2 (by decide) lk_132 rfl rfl rfl (Nat.le_of_ble_eq_true rfl) rfl dX6_rule_87 (fun H locs hR => ?_)
            rw [← ef14] at hR
            refine lv_aload_n hx hb dX6_rule_90 rfl (lv_at hl 1 rfl) ?_
            refine mm_get hx hb hts hown hR 0 0 6 vl_0 (v := .ref (ra G 5 0)) rfl rfl iX6 (by decide) lk_111 rfl dX6_rule_91 ?_
            refine lv_iconst (v := 0) hx hb dX6_rule_94 (by decide) ?_
            obtain ⟨f15, ef15, h⟩ := mm_lt h
            refine mm_put hx hb hts hown hR 5 0 1 (by decide) vl_5 (x := 0) rfl rfl iX4 tyX4 tyX4_ok nmX4 (by decide) lk_112 rfl rfl rfl (Nat.le_of_ble_eq_true rfl) rfl dX6_rule_95 (fun H locs hR => ?_)
            rw [← ef15] at hR
            refine lv_aload_n hx hb dX6_rule_98 rfl (lv_at hl 1 rfl) ?_
            refine lv_dup hx hb dX6_rule_99 rfl ?_
            refine mm_get hx hb hts hown hR 0 0 14 vl_0 (v := .int (f15 0 0 14)) rfl rfl iX6 (by decide) lk_90 rfl dX6_rule_100 ?_
            refine lv_iconst (v := 1) hx hb dX6_rule_103 (by decide) ?_
            refine lv_iadd hx hb dX6_rule_104 ?_
            obtain ⟨f16, ef16, h⟩ := mm_lt h
            refine mm_put hx hb hts hown hR 0 0 14 (by decide) vl_0 (x := (f15 0 0 14) + 1) rfl rfl iX6 tyX6 tyX6_ok nmX6 (by decide) lk_90 rfl rfl rfl (Nat.le_of_ble_eq_true rfl) rfl dX6_rule_105 (fun H locs hR => ?_)
            rw [← ef16] at hR
            refine lv_aload_n hx hb dX6_rule_108 rfl (lv_at hl 1 rfl) ?_
            refine mm_get hx hb hts hown hR 0 0 14 vl_0 (v := .int (f16 0 0 14)) rfl rfl iX6 (by decide) lk_90 rfl dX6_rule_109 ?_
            refine lv_iconst (v := 1) hx hb dX6_rule_112 (by decide) ?_
            refine lv_isub hx hb dX6_rule_113 ?_
            obtain ⟨rfl, rfl⟩ := mm_pr h
            exact mm_iret C0 hR dX6_rule_114
          · rw [if_pos c12] at h
            refine lv_bipush (v := (-10)) hx hb dX6_rule_69 (by decide) ?_
            refine lv_aload_n hx hb dX6_rule_71 rfl (lv_at hl 1 rfl) ?_
            refine mm_get hx hb hts hown hR 0 0 5 vl_0 (v := .ref (ra G 4 0)) rfl rfl iX6 (by decide) lk_129 rfl dX6_rule_72 ?_
            refine mm_get hx hb hts hown hR 4 0 1 vl_4 (v := .int (f10 4 0 1)) rfl rfl iX3 (by decide) lk_133 rfl dX6_rule_75 ?_
            refine lv_isub hx hb dX6_rule_78 ?_
            obtain ⟨rfl, rfl⟩ := mm_pr h
            exact mm_iret C0 hR dX6_rule_79
        · rw [if_neg c8] at h
          refine lv_aload_n hx hb dX6_rule_41 rfl (lv_at hl 0 rfl) ?_
          refine lv_bipush (v := (-8)) hx hb dX6_rule_42 (by decide) ?_
          obtain ⟨r18, f17, ef17, h⟩ := mm_b2e h
          refine mm_callV (v := some (.int r18)) (f1 := f17) (d0 := 1) (rest := []) [.int (-8)] C0 rfl hR 0 0 (T_X6_refuse G ef17) ws_X6_refuse lk_70 hd_X6_refuse ⟨by decide, by decide⟩ vl_0 rfl rfl rfl hl.1 rfl (Nat.le_of_ble_eq_true rfl) dX6_rule_44 (fun H locs hR => ?_)
          refine W.eq (g2 := F0 m 47 ls (.int r18 :: [])) rfl ?_
          obtain ⟨rfl, rfl⟩ := mm_pr h
          exact mm_iret C0 hR dX6_rule_47
      · rw [if_neg c7] at h
        exact L_X6_rule_25 C0 h _ _ _ hR (lv_sub hl [0] rfl)
def S_X6_weatherCells_14 : Nat → F3 → Int32 → Int32 → Option F3
  | 0, _, _, _ => none
  | n + 1, f, x1, x2 => if (f 0 0 12) ≤ x2 then (some f) else (if okI x2 10 then (Option.bind (S_X0_passHour f x2.toNatClampNeg x1) fun f5 => S_X6_weatherCells_14 n f5 x1 (x2 + 1)) else none)
set_option maxHeartbeats 4000000 in
set_option maxRecDepth 100000 in
theorem L_X6_weatherCells_14 {G : mmG} {p : Program} {e : Env} {s : State} {m : MethodId} {args : Array Value} {below : List Frame} {meth : Method} {c : Code} {f' : F3} (C0 : mmC yX6_weatherCells cX6_weatherCells 3 none p s m args meth c) : ∀ (n : Nat) {f : F3} {x1 : Int32} {x2 : Int32} , S_X6_weatherCells_14 n f x1 x2 = some f' → ∀ (H : Heap) (locs : List Loc) (ls : Array Slot), mm_R G mm_NT f (GG f) s H locs → lv_has ls 3 [(0, .ref (ra G 0 0)), (1, .int x1), (2, .int x2)] → W p G.1 e (mm_rm 3) s m args below meth c H locs 0 0 (MQ below (mm_Q G mm_NT none f' (GG f')) args s 0 0 (mm_A G)) (F0 m 14 ls []) := by
  obtain ⟨hx, hb, hml, hr, hown, hts, hlocks⟩ := id C0
  intro n
  induction n with
  | zero =>
    intro f x1 x2  h H locs ls hR hl
    cases h
  | succ n ih =>
    intro f x1 x2  h H locs ls hR hl
    rw [S_X6_weatherCells_14] at h
    refine lv_iload_n hx hb dX6_weatherCells_14 rfl (lv_at hl 2 rfl) ?_
    refine lv_aload_n hx hb dX6_weatherCells_15 rfl (lv_at hl 0 rfl) ?_
    refine mm_get hx hb hts hown hR 0 0 12 vl_0 (v := .int (f 0 0 12)) rfl rfl iX6 (by decide) lk_64 rfl dX6_weatherCells_16 ?_
    refine lv_icmp_ge (tgt := 38) hx hb dX6_weatherCells_19 (by decide) (fun c3 => ?_) (fun c3 => ?_)
    · rw [if_pos c3] at h
      obtain rfl := mm_p1 h
      exact mm_vret C0 hR dX6_weatherCells_38
    · rw [if_neg c3] at h
      refine lv_aload_n hx hb dX6_weatherCells_22 rfl (lv_at hl 0 rfl) ?_
      refine mm_get hx hb hts hown hR 0 0 0 vl_0 (v := .ref (ra G 7 0)) rfl rfl iX6 (by decide) lk_68 rfl dX6_weatherCells_23 ?_
      refine lv_iload_n hx hb dX6_weatherCells_26 rfl (lv_at hl 2 rfl) ?_
      obtain ⟨z4, h⟩ := mm_if h
      refine mm_ald hx hb hR 7 0 2 vl_7 (L := 10) (C := "IceRoad$Cell") (r2 := 1) (i2 := x2.toNatClampNeg) rfl rfl (okI_in z4) rfl (by decide) dX6_weatherCells_27 ?_
      refine lv_iload_n hx hb dX6_weatherCells_28 rfl (lv_at hl 1 rfl) ?_
      obtain ⟨f5, ef5, h⟩ := mm_bind h
      refine mm_callV (v := none) (f1 := f5) (d0 := 2) (rest := []) [.int x1] C0 rfl hR 1 x2.toNatClampNeg (T_X0_passHour G (Nat.lt_trans (okI_lt z4) (by decide)) ef5) ws_X0_passHour lk_118 hd_X0_passHour ⟨by decide, by decide⟩ (mm_vld 1 (by decide) x2.toNatClampNeg (Nat.lt_trans (okI_lt z4) (by decide))) rfl rfl rfl hl.1 rfl (Nat.le_of_ble_eq_true rfl) dX6_weatherCells_29 (fun H locs hR => ?_)
      refine W.eq (g2 := F0 m 32 ls ([])) rfl ?_
      refine lv_iinc (v := x2 + 1) (lv' := [(2, .int (x2 + 1)), (0, .ref (ra G 0 0)), (1, .int x1)]) hx hb dX6_weatherCells_32 hl (k := 2) rfl rfl (by decide) rfl (fun ls hl => ?_)
      refine lv_goto (tgt := 14) hx hb dX6_weatherCells_35 (by decide) ?_
      exact ih  h _ _ _ hR (lv_sub hl [1, 2, 0] rfl)
def S_X6_weatherCells (f : F3)  : Option F3 := mm_b2 (S_X5_heatOf f (f 0 0 15)) fun r2 f1 => S_X6_weatherCells_14 FU f1 r2 0
set_option maxHeartbeats 4000000 in
set_option maxRecDepth 100000 in
theorem T_X6_weatherCells (G : mmG) {f f' : F3} (h : S_X6_weatherCells f = some f') : mmM G yX6_weatherCells cX6_weatherCells 3 none 3 [.ref (ra G 0 0)] f none f' := by
  refine mm_start (by decide +kernel) (Nat.le_of_ble_eq_true rfl) ?_
  intro p e s m args below meth c ls C0 hR hl
  obtain ⟨hx, hb, hml, hr, hown, hts, hlocks⟩ := id C0
  have hl : lv_has ls 3 [(0, .ref (ra G 0 0))] := hl
  rw [S_X6_weatherCells] at h
  refine lv_aload_n hx hb dX6_weatherCells_0 rfl (lv_at hl 0 rfl) ?_
  refine mm_get hx hb hts hown hR 0 0 4 vl_0 (v := .ref (ra G 6 0)) rfl rfl iX6 (by decide) lk_81 rfl dX6_weatherCells_1 ?_
  refine lv_aload_n hx hb dX6_weatherCells_4 rfl (lv_at hl 0 rfl) ?_
  refine mm_get hx hb hts hown hR 0 0 15 vl_0 (v := .int (f 0 0 15)) rfl rfl iX6 (by decide) lk_88 rfl dX6_weatherCells_5 ?_
  obtain ⟨r2, f1, ef1, h⟩ := mm_b2e h
  refine mm_callV (v := some (.int r2)) (f1 := f1) (d0 := 1) (rest := []) [.int (f 0 0 15)] C0 rfl hR 6 0 (T_X5_heatOf G ef1) ws_X5_heatOf lk_89 hd_X5_heatOf ⟨by decide, by decide⟩ vl_6 rfl rfl rfl hl.1 rfl (Nat.le_of_ble_eq_true rfl) dX6_weatherCells_8 (fun H locs hR => ?_)
  refine W.eq (g2 := F0 m 11 ls (.int r2 :: [])) rfl ?_
  refine lv_istore_n (lv' := [(1, .int r2), (0, .ref (ra G 0 0))]) hx hb dX6_weatherCells_11 rfl hl (by decide) rfl (fun ls hl => ?_)
  refine lv_iconst (v := 0) hx hb dX6_weatherCells_12 (by decide) ?_
  refine lv_istore_n (lv' := [(2, .int 0), (1, .int r2), (0, .ref (ra G 0 0))]) hx hb dX6_weatherCells_13 rfl hl (by decide) rfl (fun ls hl => ?_)
  exact L_X6_weatherCells_14 C0 _ h _ _ _ hR (lv_sub hl [2, 1, 0] rfl)
def S_X6_run_37 : Nat → F3 → Int32 → Int32 → Int32 → Option (Int32 × F3)
  | 0, _, _, _, _ => none
  | n + 1, f, x1, x2, x3 => if x1 ≤ x3 then (mm_b2 (S_X6_loadsIn f 2) fun r13 f12 => some (r13 - x2, f12)) else (Option.bind (S_X6_weatherCells f) fun f14 => Option.bind (S_X6_agePlaces f14) fun f15 => Option.bind (S_X6_moveLoadsOnCells f15) fun f16 => Option.bind (S_X6_moveWaitingLoads f16) fun f17 => mm_let (up f17 0 0 15 ((f17 0 0 15) + 1)) fun f18 => S_X6_run_37 n f18 x1 x2 (x3 + 1))
set_option maxHeartbeats 4000000 in
set_option maxRecDepth 100000 in
theorem L_X6_run_37 {G : mmG} {p : Program} {e : Env} {s : State} {m : MethodId} {args : Array Value} {below : List Frame} {meth : Method} {c : Code} {f' : F3} {rv : Int32} (C0 : mmC yX6_run cX6_run 4 (some .int) p s m args meth c) : ∀ (n : Nat) {f : F3} {x1 : Int32} {x2 : Int32} {x3 : Int32} , S_X6_run_37 n f x1 x2 x3 = some (rv, f') → ∀ (H : Heap) (locs : List Loc) (ls : Array Slot), mm_R G mm_NT f (GG f) s H locs → lv_has ls 4 [(0, .ref (ra G 0 0)), (1, .int x1), (2, .int x2), (3, .int x3)] → W p G.1 e (mm_rm 6) s m args below meth c H locs 0 0 (MQ below (mm_Q G mm_NT (some (.int rv)) f' (GG f')) args s 0 0 (mm_A G)) (F0 m 37 ls []) := by
  obtain ⟨hx, hb, hml, hr, hown, hts, hlocks⟩ := id C0
  intro n
  induction n with
  | zero =>
    intro f x1 x2 x3  h H locs ls hR hl
    cases h
  | succ n ih =>
    intro f x1 x2 x3  h H locs ls hR hl
    rw [S_X6_run_37] at h
    refine lv_iload_n hx hb dX6_run_37 rfl (lv_at hl 3 rfl) ?_
    refine lv_iload_n hx hb dX6_run_38 rfl (lv_at hl 1 rfl) ?_
    refine lv_icmp_ge (tgt := 74) hx hb dX6_run_39 (by decide) (fun c11 => ?_) (fun c11 => ?_)
    · rw [if_pos c11] at h
      refine lv_aload_n hx hb dX6_run_74 rfl (lv_at hl 0 rfl) ?_
      refine lv_iconst (v := 2) hx hb dX6_run_75 (by decide) ?_
      obtain ⟨r13, f12, ef12, h⟩ := mm_b2e h
      refine mm_callV (v := some (.int r13)) (f1 := f12) (d0 := 0) (rest := []) [.int 2] C0 rfl hR 0 0 (T_X6_loadsIn G ef12) ws_X6_loadsIn lk_113 hd_X6_loadsIn ⟨by decide, by decide⟩ vl_0 rfl rfl rfl hl.1 rfl (Nat.le_of_ble_eq_true rfl) dX6_run_76 (fun H locs hR => ?_)
      refine W.eq (g2 := F0 m 79 ls (.int r13 :: [])) rfl ?_
      refine lv_iload_n hx hb dX6_run_79 rfl (lv_at hl 2 rfl) ?_
      refine lv_isub hx hb dX6_run_80 ?_
      obtain ⟨rfl, rfl⟩ := mm_pr h
      exact mm_iret C0 hR dX6_run_81
    · rw [if_neg c11] at h
      refine lv_aload_n hx hb dX6_run_42 rfl (lv_at hl 0 rfl) ?_
      obtain ⟨f14, ef14, h⟩ := mm_bind h
      refine mm_callV (v := none) (f1 := f14) (d0 := 3) (rest := []) [] C0 rfl hR 0 0 (T_X6_weatherCells G ef14) ws_X6_weatherCells lk_134 hd_X6_weatherCells ⟨by decide, by decide⟩ vl_0 rfl rfl rfl hl.1 rfl (Nat.le_of_ble_eq_true rfl) dX6_run_43 (fun H locs hR => ?_)
      refine W.eq (g2 := F0 m 46 ls ([])) rfl ?_
      refine lv_aload_n hx hb dX6_run_46 rfl (lv_at hl 0 rfl) ?_
      obtain ⟨f15, ef15, h⟩ := mm_bind h
      refine mm_callV (v := none) (f1 := f15) (d0 := 0) (rest := []) [] C0 rfl hR 0 0 (T_X6_agePlaces G ef15) ws_X6_agePlaces lk_135 hd_X6_agePlaces ⟨by decide, by decide⟩ vl_0 rfl rfl rfl hl.1 rfl (Nat.le_of_ble_eq_true rfl) dX6_run_47 (fun H locs hR => ?_)
      refine W.eq (g2 := F0 m 50 ls ([])) rfl ?_
      refine lv_aload_n hx hb dX6_run_50 rfl (lv_at hl 0 rfl) ?_
      obtain ⟨f16, ef16, h⟩ := mm_bind h
      refine mm_callV (v := none) (f1 := f16) (d0 := 5) (rest := []) [] C0 rfl hR 0 0 (T_X6_moveLoadsOnCells G ef16) ws_X6_moveLoadsOnCells lk_136 hd_X6_moveLoadsOnCells ⟨by decide, by decide⟩ vl_0 rfl rfl rfl hl.1 rfl (Nat.le_of_ble_eq_true rfl) dX6_run_51 (fun H locs hR => ?_)
      refine W.eq (g2 := F0 m 54 ls ([])) rfl ?_
      refine lv_aload_n hx hb dX6_run_54 rfl (lv_at hl 0 rfl) ?_
      obtain ⟨f17, ef17, h⟩ := mm_bind h
      refine mm_callV (v := none) (f1 := f17) (d0 := 5) (rest := []) [] C0 rfl hR 0 0 (T_X6_moveWaitingLoads G ef17) ws_X6_moveWaitingLoads lk_137 hd_X6_moveWaitingLoads ⟨by decide, by decide⟩ vl_0 rfl rfl rfl hl.1 rfl (Nat.le_of_ble_eq_true rfl) dX6_run_55 (fun H locs hR => ?_)
      refine W.eq (g2 := F0 m 58 ls ([])) rfl ?_
      refine lv_aload_n hx hb dX6_run_58 rfl (lv_at hl 0 rfl) ?_
      refine lv_dup hx hb dX6_run_59 rfl ?_
      refine mm_get hx hb hts hown hR 0 0 15 vl_0 (v := .int (f17 0 0 15)) rfl rfl iX6 (by decide) lk_88 rfl dX6_run_60 ?_
      refine lv_iconst (v := 1) hx hb dX6_run_63 (by decide) ?_
      refine lv_iadd hx hb dX6_run_64 ?_
      obtain ⟨f18, ef18, h⟩ := mm_lt h
      refine mm_put hx hb hts hown hR 0 0 15 (by decide) vl_0 (x := (f17 0 0 15) + 1) rfl rfl iX6 tyX6 tyX6_ok nmX6 (by decide) lk_88 rfl rfl rfl (Nat.le_of_ble_eq_true rfl) rfl dX6_run_65 (fun H locs hR => ?_)
      rw [← ef18] at hR
      refine lv_iinc (v := x3 + 1) (lv' := [(3, .int (x3 + 1)), (0, .ref (ra G 0 0)), (1, .int x1), (2, .int x2)]) hx hb dX6_run_68 hl (k := 3) rfl rfl (by decide) rfl (fun ls hl => ?_)
      refine lv_goto (tgt := 37) hx hb dX6_run_71 (by decide) ?_
      exact ih  h _ _ _ hR (lv_sub hl [1, 2, 3, 0] rfl)
def S_X6_run (f : F3) (x1 : Int32) : Option (Int32 × F3) := if 0 ≤ x1 then (mm_b2 (S_X6_isWithin f x1 1 200) fun r3 f2 => if r3 = 0 then (mm_b2 (S_X6_refuse f2 (-7)) fun r8 f7 => some (r8, f7)) else (mm_b2 (S_X6_loadsIn f2 2) fun r6 f5 => S_X6_run_37 FU f5 x1 r6 0)) else (mm_b2 (S_X6_refuse f (-4)) fun r10 f9 => some (r10, f9))
set_option maxHeartbeats 4000000 in
set_option maxRecDepth 100000 in
theorem T_X6_run (G : mmG) {f f' : F3} {rv : Int32} {x1 : Int32} (h : S_X6_run f x1 = some (rv, f')) : mmM G yX6_run cX6_run 4 (some .int) 6 [.ref (ra G 0 0), .int x1] f (some (.int rv)) f' := by
  refine mm_start (by decide +kernel) (Nat.le_of_ble_eq_true rfl) ?_
  intro p e s m args below meth c ls C0 hR hl
  obtain ⟨hx, hb, hml, hr, hown, hts, hlocks⟩ := id C0
  have hl : lv_has ls 4 [(0, .ref (ra G 0 0)), (1, .int x1)] := hl
  rw [S_X6_run] at h
  refine lv_iload_n hx hb dX6_run_0 rfl (lv_at hl 1 rfl) ?_
  refine lv_if_ge (tgt := 11) hx hb dX6_run_1 (by decide) (fun c1 => ?_) (fun c1 => ?_)
  · rw [if_pos c1] at h
    refine lv_iload_n hx hb dX6_run_11 rfl (lv_at hl 1 rfl) ?_
    refine lv_iconst (v := 1) hx hb dX6_run_12 (by decide) ?_
    refine lv_sipush (v := 200) hx hb dX6_run_13 (by decide) ?_
    obtain ⟨r3, f2, ef2, h⟩ := mm_b2e h
    refine mm_callS (v := some (.int r3)) (f1 := f2) (d0 := 0) (rest := []) [.int x1, .int 1, .int 200] C0 rfl hR (T_X6_isWithin G ef2) ws_X6_isWithin lk_65 hd_X6_isWithin ⟨by decide, by decide⟩ hl.1 rfl (Nat.le_of_ble_eq_true rfl) dX6_run_16 (fun H locs hR => ?_)
    refine W.eq (g2 := F0 m 19 ls (.int r3 :: [])) rfl ?_
    refine lv_if_ne (tgt := 29) hx hb dX6_run_19 (by decide) (fun c4 => ?_) (fun c4 => ?_)
    · rw [if_neg c4] at h
      refine lv_aload_n hx hb dX6_run_29 rfl (lv_at hl 0 rfl) ?_
      refine lv_iconst (v := 2) hx hb dX6_run_30 (by decide) ?_
      obtain ⟨r6, f5, ef5, h⟩ := mm_b2e h
      refine mm_callV (v := some (.int r6)) (f1 := f5) (d0 := 0) (rest := []) [.int 2] C0 rfl hR 0 0 (T_X6_loadsIn G ef5) ws_X6_loadsIn lk_113 hd_X6_loadsIn ⟨by decide, by decide⟩ vl_0 rfl rfl rfl hl.1 rfl (Nat.le_of_ble_eq_true rfl) dX6_run_31 (fun H locs hR => ?_)
      refine W.eq (g2 := F0 m 34 ls (.int r6 :: [])) rfl ?_
      refine lv_istore_n (lv' := [(2, .int r6), (0, .ref (ra G 0 0)), (1, .int x1)]) hx hb dX6_run_34 rfl hl (by decide) rfl (fun ls hl => ?_)
      refine lv_iconst (v := 0) hx hb dX6_run_35 (by decide) ?_
      refine lv_istore_n (lv' := [(3, .int 0), (2, .int r6), (0, .ref (ra G 0 0)), (1, .int x1)]) hx hb dX6_run_36 rfl hl (by decide) rfl (fun ls hl => ?_)
      exact L_X6_run_37 C0 _ h _ _ _ hR (lv_sub hl [2, 3, 1, 0] rfl)
    · rw [if_pos c4] at h
      refine lv_aload_n hx hb dX6_run_22 rfl (lv_at hl 0 rfl) ?_
      refine lv_bipush (v := (-7)) hx hb dX6_run_23 (by decide) ?_
      obtain ⟨r8, f7, ef7, h⟩ := mm_b2e h
      refine mm_callV (v := some (.int r8)) (f1 := f7) (d0 := 1) (rest := []) [.int (-7)] C0 rfl hR 0 0 (T_X6_refuse G ef7) ws_X6_refuse lk_70 hd_X6_refuse ⟨by decide, by decide⟩ vl_0 rfl rfl rfl hl.1 rfl (Nat.le_of_ble_eq_true rfl) dX6_run_25 (fun H locs hR => ?_)
      refine W.eq (g2 := F0 m 28 ls (.int r8 :: [])) rfl ?_
      obtain ⟨rfl, rfl⟩ := mm_pr h
      exact mm_iret C0 hR dX6_run_28
  · rw [if_neg c1] at h
    refine lv_aload_n hx hb dX6_run_4 rfl (lv_at hl 0 rfl) ?_
    refine lv_bipush (v := (-4)) hx hb dX6_run_5 (by decide) ?_
    obtain ⟨r10, f9, ef9, h⟩ := mm_b2e h
    refine mm_callV (v := some (.int r10)) (f1 := f9) (d0 := 1) (rest := []) [.int (-4)] C0 rfl hR 0 0 (T_X6_refuse G ef9) ws_X6_refuse lk_70 hd_X6_refuse ⟨by decide, by decide⟩ vl_0 rfl rfl rfl hl.1 rfl (Nat.le_of_ble_eq_true rfl) dX6_run_7 (fun H locs hR => ?_)
    refine W.eq (g2 := F0 m 10 ls (.int r10 :: [])) rfl ?_
    obtain ⟨rfl, rfl⟩ := mm_pr h
    exact mm_iret C0 hR dX6_run_10
def S_X6_said_16 (f : F3)  : Option (Int32 × F3) := mm_b2 (S_X6_refuse f (-3)) fun r17 f16 => some (r17, f16)
set_option maxHeartbeats 4000000 in
set_option maxRecDepth 100000 in
theorem L_X6_said_16 {G : mmG} {p : Program} {e : Env} {s : State} {m : MethodId} {args : Array Value} {below : List Frame} {meth : Method} {c : Code} {f' : F3} {rv : Int32} (C0 : mmC yX6_said cX6_said 4 (some .int) p s m args meth c) {f : F3} (h : S_X6_said_16 f = some (rv, f')) (H : Heap) (locs : List Loc) (ls : Array Slot) (hR : mm_R G mm_NT f (GG f) s H locs) (hl : lv_has ls 4 [(0, .ref (ra G 0 0))]) : W p G.1 e (mm_rm 3) s m args below meth c H locs 0 0 (MQ below (mm_Q G mm_NT (some (.int rv)) f' (GG f')) args s 0 0 (mm_A G)) (F0 m 16 ls []) := by
  obtain ⟨hx, hb, hml, hr, hown, hts, hlocks⟩ := id C0
  rw [S_X6_said_16] at h
  refine lv_aload_n hx hb dX6_said_16 rfl (lv_at hl 0 rfl) ?_
  refine lv_bipush (v := (-3)) hx hb dX6_said_17 (by decide) ?_
  obtain ⟨r17, f16, ef16, h⟩ := mm_b2e h
  refine mm_callV (v := some (.int r17)) (f1 := f16) (d0 := 1) (rest := []) [.int (-3)] C0 rfl hR 0 0 (T_X6_refuse G ef16) ws_X6_refuse lk_70 hd_X6_refuse ⟨by decide, by decide⟩ vl_0 rfl rfl rfl hl.1 rfl (Nat.le_of_ble_eq_true rfl) dX6_said_19 (fun H locs hR => ?_)
  refine W.eq (g2 := F0 m 22 ls (.int r17 :: [])) rfl ?_
  obtain ⟨rfl, rfl⟩ := mm_pr h
  exact mm_iret C0 hR dX6_said_22
def S_X6_said (f : F3) (x1 : Int32) (x2 : Int32) (x3 : Int32) : Option (Int32 × F3) := mm_b2 (S_X6_isLoad f x1) fun r2 f1 => if r2 = 0 then (S_X6_said_16 f1 ) else (mm_b2 (S_X6_isCell f1 x2) fun r5 f4 => if r5 = 0 then (S_X6_said_16 f4 ) else (mm_b2 (S_X6_isWithin f4 x3 0 2) fun r8 f7 => if r8 = 0 then (mm_b2 (S_X6_refuse f7 (-7)) fun r15 f14 => some (r15, f14)) else (if okI x1 24 then (Option.bind (S_X6_gatherFacts f7 x1.toNatClampNeg x2) fun f11 => mm_b2 (S_X6_numberFor f11 x3) fun r13 f12 => some (r13, f12)) else none)))
set_option maxHeartbeats 4000000 in
set_option maxRecDepth 100000 in
theorem T_X6_said (G : mmG) {f f' : F3} {rv : Int32} {x1 : Int32} {x2 : Int32} {x3 : Int32} (h : S_X6_said f x1 x2 x3 = some (rv, f')) : mmM G yX6_said cX6_said 4 (some .int) 3 [.ref (ra G 0 0), .int x1, .int x2, .int x3] f (some (.int rv)) f' := by
  refine mm_start (by decide +kernel) (Nat.le_of_ble_eq_true rfl) ?_
  intro p e s m args below meth c ls C0 hR hl
  obtain ⟨hx, hb, hml, hr, hown, hts, hlocks⟩ := id C0
  have hl : lv_has ls 4 [(0, .ref (ra G 0 0)), (1, .int x1), (2, .int x2), (3, .int x3)] := hl
  rw [S_X6_said] at h
  refine lv_aload_n hx hb dX6_said_0 rfl (lv_at hl 0 rfl) ?_
  refine lv_iload_n hx hb dX6_said_1 rfl (lv_at hl 1 rfl) ?_
  obtain ⟨r2, f1, ef1, h⟩ := mm_b2e h
  refine mm_callV (v := some (.int r2)) (f1 := f1) (d0 := 0) (rest := []) [.int x1] C0 rfl hR 0 0 (T_X6_isLoad G ef1) ws_X6_isLoad lk_124 hd_X6_isLoad ⟨by decide, by decide⟩ vl_0 rfl rfl rfl hl.1 rfl (Nat.le_of_ble_eq_true rfl) dX6_said_2 (fun H locs hR => ?_)
  refine W.eq (g2 := F0 m 5 ls (.int r2 :: [])) rfl ?_
  refine lv_if_eq (tgt := 16) hx hb dX6_said_5 (by decide) (fun c3 => ?_) (fun c3 => ?_)
  · rw [if_pos c3] at h
    exact L_X6_said_16 C0 h _ _ _ hR (lv_sub hl [0] rfl)
  · rw [if_neg c3] at h
    refine lv_aload_n hx hb dX6_said_8 rfl (lv_at hl 0 rfl) ?_
    refine lv_iload_n hx hb dX6_said_9 rfl (lv_at hl 2 rfl) ?_
    obtain ⟨r5, f4, ef4, h⟩ := mm_b2e h
    refine mm_callV (v := some (.int r5)) (f1 := f4) (d0 := 0) (rest := []) [.int x2] C0 rfl hR 0 0 (T_X6_isCell G ef4) ws_X6_isCell lk_67 hd_X6_isCell ⟨by decide, by decide⟩ vl_0 rfl rfl rfl hl.1 rfl (Nat.le_of_ble_eq_true rfl) dX6_said_10 (fun H locs hR => ?_)
    refine W.eq (g2 := F0 m 13 ls (.int r5 :: [])) rfl ?_
    refine lv_if_ne (tgt := 23) hx hb dX6_said_13 (by decide) (fun c6 => ?_) (fun c6 => ?_)
    · rw [if_neg c6] at h
      refine lv_iload_n hx hb dX6_said_23 rfl (lv_at hl 3 rfl) ?_
      refine lv_iconst (v := 0) hx hb dX6_said_24 (by decide) ?_
      refine lv_iconst (v := 2) hx hb dX6_said_25 (by decide) ?_
      obtain ⟨r8, f7, ef7, h⟩ := mm_b2e h
      refine mm_callS (v := some (.int r8)) (f1 := f7) (d0 := 0) (rest := []) [.int x3, .int 0, .int 2] C0 rfl hR (T_X6_isWithin G ef7) ws_X6_isWithin lk_65 hd_X6_isWithin ⟨by decide, by decide⟩ hl.1 rfl (Nat.le_of_ble_eq_true rfl) dX6_said_26 (fun H locs hR => ?_)
      refine W.eq (g2 := F0 m 29 ls (.int r8 :: [])) rfl ?_
      refine lv_if_ne (tgt := 39) hx hb dX6_said_29 (by decide) (fun c9 => ?_) (fun c9 => ?_)
      · rw [if_neg c9] at h
        refine lv_aload_n hx hb dX6_said_39 rfl (lv_at hl 0 rfl) ?_
        refine lv_aload_n hx hb dX6_said_40 rfl (lv_at hl 0 rfl) ?_
        refine mm_get hx hb hts hown hR 0 0 1 vl_0 (v := .ref (ra G 8 0)) rfl rfl iX6 (by decide) lk_61 rfl dX6_said_41 ?_
        refine lv_iload_n hx hb dX6_said_44 rfl (lv_at hl 1 rfl) ?_
        obtain ⟨z10, h⟩ := mm_if h
        refine mm_ald hx hb hR 8 0 3 vl_8 (L := 24) (C := "IceRoad$Load") (r2 := 2) (i2 := x1.toNatClampNeg) rfl rfl (okI_in z10) rfl (by decide) dX6_said_45 ?_
        refine lv_iload_n hx hb dX6_said_46 rfl (lv_at hl 2 rfl) ?_
        obtain ⟨f11, ef11, h⟩ := mm_bind h
        refine mm_callV (v := none) (f1 := f11) (d0 := 2) (rest := []) [.ref (ra G 2 x1.toNatClampNeg), .int x2] C0 rfl hR 0 0 (T_X6_gatherFacts G (okI_lt z10) ef11) ws_X6_gatherFacts lk_99 hd_X6_gatherFacts ⟨by decide, by decide⟩ vl_0 rfl rfl rfl hl.1 rfl (Nat.le_of_ble_eq_true rfl) dX6_said_47 (fun H locs hR => ?_)
        refine W.eq (g2 := F0 m 50 ls ([])) rfl ?_
        refine lv_aload_n hx hb dX6_said_50 rfl (lv_at hl 0 rfl) ?_
        refine lv_iload_n hx hb dX6_said_51 rfl (lv_at hl 3 rfl) ?_
        obtain ⟨r13, f12, ef12, h⟩ := mm_b2e h
        refine mm_callV (v := some (.int r13)) (f1 := f12) (d0 := 1) (rest := []) [.int x3] C0 rfl hR 0 0 (T_X6_numberFor G ef12) ws_X6_numberFor lk_100 hd_X6_numberFor ⟨by decide, by decide⟩ vl_0 rfl rfl rfl hl.1 rfl (Nat.le_of_ble_eq_true rfl) dX6_said_52 (fun H locs hR => ?_)
        refine W.eq (g2 := F0 m 55 ls (.int r13 :: [])) rfl ?_
        obtain ⟨rfl, rfl⟩ := mm_pr h
        exact mm_iret C0 hR dX6_said_55
      · rw [if_pos c9] at h
        refine lv_aload_n hx hb dX6_said_32 rfl (lv_at hl 0 rfl) ?_
        refine lv_bipush (v := (-7)) hx hb dX6_said_33 (by decide) ?_
        obtain ⟨r15, f14, ef14, h⟩ := mm_b2e h
        refine mm_callV (v := some (.int r15)) (f1 := f14) (d0 := 1) (rest := []) [.int (-7)] C0 rfl hR 0 0 (T_X6_refuse G ef14) ws_X6_refuse lk_70 hd_X6_refuse ⟨by decide, by decide⟩ vl_0 rfl rfl rfl hl.1 rfl (Nat.le_of_ble_eq_true rfl) dX6_said_35 (fun H locs hR => ?_)
        refine W.eq (g2 := F0 m 38 ls (.int r15 :: [])) rfl ?_
        obtain ⟨rfl, rfl⟩ := mm_pr h
        exact mm_iret C0 hR dX6_said_38
    · rw [if_pos c6] at h
      exact L_X6_said_16 C0 h _ _ _ hR (lv_sub hl [0] rfl)
def S_X6_snow_48 (k21 : F3 → Int32 → Int32 → Int32 → Option (Int32 × F3)) (f : F3) (s0 : Int32) (s1 : Int32) (x1 : Int32) (x3 : Int32) : Option (Int32 × F3) := k21 f x1 (s0 + s1) (x3 + 1)
set_option maxHeartbeats 4000000 in
set_option maxRecDepth 100000 in
theorem L_X6_snow_48 {G : mmG} {p : Program} {e : Env} {s : State} {m : MethodId} {args : Array Value} {below : List Frame} {meth : Method} {c : Code} {f' : F3} {rv : Int32} (C0 : mmC yX6_snow cX6_snow 4 (some .int) p s m args meth c) {k21 : F3 → Int32 → Int32 → Int32 → Option (Int32 × F3)} (hk21 : ∀ (f : F3) (x1 : Int32) (x2 : Int32) (x3 : Int32), k21 f x1 x2 x3 = some (rv, f') → ∀ (H : Heap) (locs : List Loc) (ls : Array Slot), mm_R G mm_NT f (GG f) s H locs → lv_has ls 4 [(0, .ref (ra G 0 0)), (1, .int x1), (2, .int x2), (3, .int x3)] → W p G.1 e (mm_rm 2) s m args below meth c H locs 0 0 (MQ below (mm_Q G mm_NT (some (.int rv)) f' (GG f')) args s 0 0 (mm_A G)) (F0 m 21 ls [])) {f : F3} {s0 : Int32} {s1 : Int32} {x1 : Int32} {x3 : Int32} (h : S_X6_snow_48 k21 f s0 s1 x1 x3 = some (rv, f')) (H : Heap) (locs : List Loc) (ls : Array Slot) (hR : mm_R G mm_NT f (GG f) s H locs) (hl : lv_has ls 4 [(0, .ref (ra G 0 0)), (1, .int x1), (3, .int x3)]) : W p G.1 e (mm_rm 2) s m args below meth c H locs 0 0 (MQ below (mm_Q G mm_NT (some (.int rv)) f' (GG f')) args s 0 0 (mm_A G)) (F0 m 48 ls [.int s1, .int s0]) := by
  obtain ⟨hx, hb, hml, hr, hown, hts, hlocks⟩ := id C0
  rw [S_X6_snow_48] at h
  refine lv_iadd hx hb dX6_snow_48 ?_
  refine lv_istore_n (lv' := [(2, .int (s0 + s1)), (0, .ref (ra G 0 0)), (1, .int x1), (3, .int x3)]) hx hb dX6_snow_49 rfl hl (by decide) rfl (fun ls hl => ?_)
  refine lv_iinc (v := x3 + 1) (lv' := [(3, .int (x3 + 1)), (2, .int (s0 + s1)), (0, .ref (ra G 0 0)), (1, .int x1)]) hx hb dX6_snow_50 hl (k := 3) rfl rfl (by decide) rfl (fun ls hl => ?_)
  refine lv_goto (tgt := 21) hx hb dX6_snow_53 (by decide) ?_
  exact hk21 _ x1 (s0 + s1) (x3 + 1)  h _ _ _ hR (lv_sub hl [2, 3, 1, 0] rfl)
def S_X6_snow_21 : Nat → F3 → Int32 → Int32 → Int32 → Option (Int32 × F3)
  | 0, _, _, _, _ => none
  | n + 1, f, x1, x2, x3 => if (f 0 0 12) ≤ x3 then (some (x2, f)) else (if okI x3 10 then (mm_b2 (S_X0_takeSnow f x3.toNatClampNeg x1) fun r9 f8 => if r9 = 0 then (S_X6_snow_48 (fun f9 x1_ x2_ x3_ => S_X6_snow_21 n f9 x1_ x2_ x3_) f8 x2 0 x1 x3) else (S_X6_snow_48 (fun f9 x1_ x2_ x3_ => S_X6_snow_21 n f9 x1_ x2_ x3_) f8 x2 1 x1 x3)) else none)
set_option maxHeartbeats 4000000 in
set_option maxRecDepth 100000 in
theorem L_X6_snow_21 {G : mmG} {p : Program} {e : Env} {s : State} {m : MethodId} {args : Array Value} {below : List Frame} {meth : Method} {c : Code} {f' : F3} {rv : Int32} (C0 : mmC yX6_snow cX6_snow 4 (some .int) p s m args meth c) : ∀ (n : Nat) {f : F3} {x1 : Int32} {x2 : Int32} {x3 : Int32} , S_X6_snow_21 n f x1 x2 x3 = some (rv, f') → ∀ (H : Heap) (locs : List Loc) (ls : Array Slot), mm_R G mm_NT f (GG f) s H locs → lv_has ls 4 [(0, .ref (ra G 0 0)), (1, .int x1), (2, .int x2), (3, .int x3)] → W p G.1 e (mm_rm 2) s m args below meth c H locs 0 0 (MQ below (mm_Q G mm_NT (some (.int rv)) f' (GG f')) args s 0 0 (mm_A G)) (F0 m 21 ls []) := by
  obtain ⟨hx, hb, hml, hr, hown, hts, hlocks⟩ := id C0
  intro n
  induction n with
  | zero =>
    intro f x1 x2 x3  h H locs ls hR hl
    cases h
  | succ n ih =>
    intro f x1 x2 x3  h H locs ls hR hl
    rw [S_X6_snow_21] at h
    refine lv_iload_n hx hb dX6_snow_21 rfl (lv_at hl 3 rfl) ?_
    refine lv_aload_n hx hb dX6_snow_22 rfl (lv_at hl 0 rfl) ?_
    refine mm_get hx hb hts hown hR 0 0 12 vl_0 (v := .int (f 0 0 12)) rfl rfl iX6 (by decide) lk_64 rfl dX6_snow_23 ?_
    refine lv_icmp_ge (tgt := 56) hx hb dX6_snow_26 (by decide) (fun c6 => ?_) (fun c6 => ?_)
    · rw [if_pos c6] at h
      refine lv_iload_n hx hb dX6_snow_56 rfl (lv_at hl 2 rfl) ?_
      obtain ⟨rfl, rfl⟩ := mm_pr h
      exact mm_iret C0 hR dX6_snow_57
    · rw [if_neg c6] at h
      refine lv_iload_n hx hb dX6_snow_29 rfl (lv_at hl 2 rfl) ?_
      refine lv_aload_n hx hb dX6_snow_30 rfl (lv_at hl 0 rfl) ?_
      refine mm_get hx hb hts hown hR 0 0 0 vl_0 (v := .ref (ra G 7 0)) rfl rfl iX6 (by decide) lk_68 rfl dX6_snow_31 ?_
      refine lv_iload_n hx hb dX6_snow_34 rfl (lv_at hl 3 rfl) ?_
      obtain ⟨z7, h⟩ := mm_if h
      refine mm_ald hx hb hR 7 0 2 vl_7 (L := 10) (C := "IceRoad$Cell") (r2 := 1) (i2 := x3.toNatClampNeg) rfl rfl (okI_in z7) rfl (by decide) dX6_snow_35 ?_
      refine lv_iload_n hx hb dX6_snow_36 rfl (lv_at hl 1 rfl) ?_
      obtain ⟨r9, f8, ef8, h⟩ := mm_b2e h
      refine mm_callV (v := some (.int r9)) (f1 := f8) (d0 := 1) (rest := [.int x2]) [.int x1] C0 rfl hR 1 x3.toNatClampNeg (T_X0_takeSnow G (Nat.lt_trans (okI_lt z7) (by decide)) ef8) ws_X0_takeSnow lk_138 hd_X0_takeSnow ⟨by decide, by decide⟩ (mm_vld 1 (by decide) x3.toNatClampNeg (Nat.lt_trans (okI_lt z7) (by decide))) rfl rfl rfl hl.1 rfl (Nat.le_of_ble_eq_true rfl) dX6_snow_37 (fun H locs hR => ?_)
      refine W.eq (g2 := F0 m 40 ls (.int r9 :: .int x2 :: [])) rfl ?_
      refine lv_if_eq (tgt := 47) hx hb dX6_snow_40 (by decide) (fun c10 => ?_) (fun c10 => ?_)
      · rw [if_pos c10] at h
        refine lv_iconst (v := 0) hx hb dX6_snow_47 (by decide) ?_
        exact L_X6_snow_48 C0 (fun _ _ _ _ h9 H9 locs9 ls9 hR9 hl9 => ih h9 _ _ _ hR9 hl9) h _ _ _ hR (lv_sub hl [0, 1, 3] rfl)
      · rw [if_neg c10] at h
        refine lv_iconst (v := 1) hx hb dX6_snow_43 (by decide) ?_
        refine lv_goto (tgt := 48) hx hb dX6_snow_44 (by decide) ?_
        exact L_X6_snow_48 C0 (fun _ _ _ _ h9 H9 locs9 ls9 hR9 hl9 => ih h9 _ _ _ hR9 hl9) h _ _ _ hR (lv_sub hl [0, 1, 3] rfl)
def S_X6_snow (f : F3) (x1 : Int32) : Option (Int32 × F3) := mm_b2 (S_X6_isWithin f x1 1 100) fun r2 f1 => if r2 = 0 then (mm_b2 (S_X6_refuse f1 (-7)) fun r5 f4 => some (r5, f4)) else (S_X6_snow_21 FU f1 x1 0 0)
set_option maxHeartbeats 4000000 in
set_option maxRecDepth 100000 in
theorem T_X6_snow (G : mmG) {f f' : F3} {rv : Int32} {x1 : Int32} (h : S_X6_snow f x1 = some (rv, f')) : mmM G yX6_snow cX6_snow 4 (some .int) 2 [.ref (ra G 0 0), .int x1] f (some (.int rv)) f' := by
  refine mm_start (by decide +kernel) (Nat.le_of_ble_eq_true rfl) ?_
  intro p e s m args below meth c ls C0 hR hl
  obtain ⟨hx, hb, hml, hr, hown, hts, hlocks⟩ := id C0
  have hl : lv_has ls 4 [(0, .ref (ra G 0 0)), (1, .int x1)] := hl
  rw [S_X6_snow] at h
  refine lv_iload_n hx hb dX6_snow_0 rfl (lv_at hl 1 rfl) ?_
  refine lv_iconst (v := 1) hx hb dX6_snow_1 (by decide) ?_
  refine lv_bipush (v := 100) hx hb dX6_snow_2 (by decide) ?_
  obtain ⟨r2, f1, ef1, h⟩ := mm_b2e h
  refine mm_callS (v := some (.int r2)) (f1 := f1) (d0 := 0) (rest := []) [.int x1, .int 1, .int 100] C0 rfl hR (T_X6_isWithin G ef1) ws_X6_isWithin lk_65 hd_X6_isWithin ⟨by decide, by decide⟩ hl.1 rfl (Nat.le_of_ble_eq_true rfl) dX6_snow_4 (fun H locs hR => ?_)
  refine W.eq (g2 := F0 m 7 ls (.int r2 :: [])) rfl ?_
  refine lv_if_ne (tgt := 17) hx hb dX6_snow_7 (by decide) (fun c3 => ?_) (fun c3 => ?_)
  · rw [if_neg c3] at h
    refine lv_iconst (v := 0) hx hb dX6_snow_17 (by decide) ?_
    refine lv_istore_n (lv' := [(2, .int 0), (0, .ref (ra G 0 0)), (1, .int x1)]) hx hb dX6_snow_18 rfl hl (by decide) rfl (fun ls hl => ?_)
    refine lv_iconst (v := 0) hx hb dX6_snow_19 (by decide) ?_
    refine lv_istore_n (lv' := [(3, .int 0), (2, .int 0), (0, .ref (ra G 0 0)), (1, .int x1)]) hx hb dX6_snow_20 rfl hl (by decide) rfl (fun ls hl => ?_)
    exact L_X6_snow_21 C0 _ h _ _ _ hR (lv_sub hl [2, 3, 1, 0] rfl)
  · rw [if_pos c3] at h
    refine lv_aload_n hx hb dX6_snow_10 rfl (lv_at hl 0 rfl) ?_
    refine lv_bipush (v := (-7)) hx hb dX6_snow_11 (by decide) ?_
    obtain ⟨r5, f4, ef4, h⟩ := mm_b2e h
    refine mm_callV (v := some (.int r5)) (f1 := f4) (d0 := 1) (rest := []) [.int (-7)] C0 rfl hR 0 0 (T_X6_refuse G ef4) ws_X6_refuse lk_70 hd_X6_refuse ⟨by decide, by decide⟩ vl_0 rfl rfl rfl hl.1 rfl (Nat.le_of_ble_eq_true rfl) dX6_snow_13 (fun H locs hR => ?_)
    refine W.eq (g2 := F0 m 16 ls (.int r5 :: [])) rfl ?_
    obtain ⟨rfl, rfl⟩ := mm_pr h
    exact mm_iret C0 hR dX6_snow_16
def S_X6_status (f : F3) (x1 : Int32) : Option (Int32 × F3) := mm_b2 (S_X6_isWithin f x1 (-8) (-2)) fun r2 f1 => if r2 = 0 then (mm_b2 (S_X6_refuse f1 (-7)) fun r6 f5 => some (r6, f5)) else (if okI ((-2) - x1) 7 then (some (f1 12 0 ((-2) - x1).toNatClampNeg, f1)) else none)
set_option maxHeartbeats 4000000 in
set_option maxRecDepth 100000 in
theorem T_X6_status (G : mmG) {f f' : F3} {rv : Int32} {x1 : Int32} (h : S_X6_status f x1 = some (rv, f')) : mmM G yX6_status cX6_status 2 (some .int) 2 [.ref (ra G 0 0), .int x1] f (some (.int rv)) f' := by
  refine mm_start (by decide +kernel) (Nat.le_of_ble_eq_true rfl) ?_
  intro p e s m args below meth c ls C0 hR hl
  obtain ⟨hx, hb, hml, hr, hown, hts, hlocks⟩ := id C0
  have hl : lv_has ls 2 [(0, .ref (ra G 0 0)), (1, .int x1)] := hl
  rw [S_X6_status] at h
  refine lv_iload_n hx hb dX6_status_0 rfl (lv_at hl 1 rfl) ?_
  refine lv_bipush (v := (-8)) hx hb dX6_status_1 (by decide) ?_
  refine lv_bipush (v := (-2)) hx hb dX6_status_3 (by decide) ?_
  obtain ⟨r2, f1, ef1, h⟩ := mm_b2e h
  refine mm_callS (v := some (.int r2)) (f1 := f1) (d0 := 0) (rest := []) [.int x1, .int (-8), .int (-2)] C0 rfl hR (T_X6_isWithin G ef1) ws_X6_isWithin lk_65 hd_X6_isWithin ⟨by decide, by decide⟩ hl.1 rfl (Nat.le_of_ble_eq_true rfl) dX6_status_5 (fun H locs hR => ?_)
  refine W.eq (g2 := F0 m 8 ls (.int r2 :: [])) rfl ?_
  refine lv_if_ne (tgt := 18) hx hb dX6_status_8 (by decide) (fun c3 => ?_) (fun c3 => ?_)
  · rw [if_neg c3] at h
    refine lv_aload_n hx hb dX6_status_18 rfl (lv_at hl 0 rfl) ?_
    refine mm_get hx hb hts hown hR 0 0 8 vl_0 (v := .ref (ra G 12 0)) rfl rfl iX6 (by decide) lk_66 rfl dX6_status_19 ?_
    refine lv_bipush (v := (-2)) hx hb dX6_status_22 (by decide) ?_
    refine lv_iload_n hx hb dX6_status_24 rfl (lv_at hl 1 rfl) ?_
    refine lv_isub hx hb dX6_status_25 ?_
    obtain ⟨z4, h⟩ := mm_if h
    refine mm_ild hx hb hR 12 0 vl_12 (L := 7) rfl (okI_in z4) dX6_status_26 ?_
    obtain ⟨rfl, rfl⟩ := mm_pr h
    exact mm_iret C0 hR dX6_status_27
  · rw [if_pos c3] at h
    refine lv_aload_n hx hb dX6_status_11 rfl (lv_at hl 0 rfl) ?_
    refine lv_bipush (v := (-7)) hx hb dX6_status_12 (by decide) ?_
    obtain ⟨r6, f5, ef5, h⟩ := mm_b2e h
    refine mm_callV (v := some (.int r6)) (f1 := f5) (d0 := 1) (rest := []) [.int (-7)] C0 rfl hR 0 0 (T_X6_refuse G ef5) ws_X6_refuse lk_70 hd_X6_refuse ⟨by decide, by decide⟩ vl_0 rfl rfl rfl hl.1 rfl (Nat.le_of_ble_eq_true rfl) dX6_status_14 (fun H locs hR => ?_)
    refine W.eq (g2 := F0 m 17 ls (.int r6 :: [])) rfl ?_
    obtain ⟨rfl, rfl⟩ := mm_pr h
    exact mm_iret C0 hR dX6_status_17
def S_X6_sweep_44 (f : F3) (i2 : Nat) : Option (Int32 × F3) := Option.bind (S_X0_become f i2 1) fun f11 => mm_let (up f11 1 i2 2 0) fun f12 => some (1, f12)
set_option maxHeartbeats 4000000 in
set_option maxRecDepth 100000 in
theorem L_X6_sweep_44 {G : mmG} {p : Program} {e : Env} {s : State} {m : MethodId} {args : Array Value} {below : List Frame} {meth : Method} {c : Code} {f' : F3} {rv : Int32} (C0 : mmC yX6_sweep cX6_sweep 3 (some .int) p s m args meth c) {f : F3} {i2 : Nat} (hi2 : i2 < mm_cnt 1) (h : S_X6_sweep_44 f i2 = some (rv, f')) (H : Heap) (locs : List Loc) (ls : Array Slot) (hR : mm_R G mm_NT f (GG f) s H locs) (hl : lv_has ls 3 [(2, .ref (ra G 1 i2))]) : W p G.1 e (mm_rm 2) s m args below meth c H locs 0 0 (MQ below (mm_Q G mm_NT (some (.int rv)) f' (GG f')) args s 0 0 (mm_A G)) (F0 m 44 ls []) := by
  obtain ⟨hx, hb, hml, hr, hown, hts, hlocks⟩ := id C0
  rw [S_X6_sweep_44] at h
  refine lv_aload_n hx hb dX6_sweep_44 rfl (lv_at hl 0 rfl) ?_
  refine lv_iconst (v := 1) hx hb dX6_sweep_45 (by decide) ?_
  obtain ⟨f11, ef11, h⟩ := mm_bind h
  refine mm_callV (v := none) (f1 := f11) (d0 := 0) (rest := []) [.int 1] C0 rfl hR 1 i2 (T_X0_become G hi2 ef11) ws_X0_become lk_74 hd_X0_become ⟨by decide, by decide⟩ (mm_vld 1 (by decide) i2 hi2) rfl rfl rfl hl.1 rfl (Nat.le_of_ble_eq_true rfl) dX6_sweep_46 (fun H locs hR => ?_)
  refine W.eq (g2 := F0 m 49 ls ([])) rfl ?_
  refine lv_aload_n hx hb dX6_sweep_49 rfl (lv_at hl 0 rfl) ?_
  refine lv_iconst (v := 0) hx hb dX6_sweep_50 (by decide) ?_
  obtain ⟨f12, ef12, h⟩ := mm_lt h
  refine mm_put hx hb hts hown hR 1 i2 2 (by decide) (mm_vld 1 (by decide) i2 hi2) (x := 0) rfl rfl iX0 tyX0 tyX0_ok nmX0 (by decide) lk_75 rfl rfl rfl (Nat.le_of_ble_eq_true rfl) rfl dX6_sweep_51 (fun H locs hR => ?_)
  rw [← ef12] at hR
  refine lv_iconst (v := 1) hx hb dX6_sweep_54 (by decide) ?_
  obtain ⟨rfl, rfl⟩ := mm_pr h
  exact mm_iret C0 hR dX6_sweep_55
def S_X6_sweep (f : F3) (x1 : Int32) : Option (Int32 × F3) := mm_b2 (S_X6_isCell f x1) fun r2 f1 => if r2 = 0 then (mm_b2 (S_X6_refuse f1 (-3)) fun r10 f9 => some (r10, f9)) else (if okI x1 10 then (if (f1 1 x1.toNatClampNeg 0) = 0 then (S_X6_sweep_44 f1 x1.toNatClampNeg) else (if (f1 1 x1.toNatClampNeg 0) = 1 then (S_X6_sweep_44 f1 x1.toNatClampNeg) else (mm_b2 (S_X6_refuse f1 (-5)) fun r8 f7 => some (r8, f7)))) else none)
set_option maxHeartbeats 4000000 in
set_option maxRecDepth 100000 in
theorem T_X6_sweep (G : mmG) {f f' : F3} {rv : Int32} {x1 : Int32} (h : S_X6_sweep f x1 = some (rv, f')) : mmM G yX6_sweep cX6_sweep 3 (some .int) 2 [.ref (ra G 0 0), .int x1] f (some (.int rv)) f' := by
  refine mm_start (by decide +kernel) (Nat.le_of_ble_eq_true rfl) ?_
  intro p e s m args below meth c ls C0 hR hl
  obtain ⟨hx, hb, hml, hr, hown, hts, hlocks⟩ := id C0
  have hl : lv_has ls 3 [(0, .ref (ra G 0 0)), (1, .int x1)] := hl
  rw [S_X6_sweep] at h
  refine lv_aload_n hx hb dX6_sweep_0 rfl (lv_at hl 0 rfl) ?_
  refine lv_iload_n hx hb dX6_sweep_1 rfl (lv_at hl 1 rfl) ?_
  obtain ⟨r2, f1, ef1, h⟩ := mm_b2e h
  refine mm_callV (v := some (.int r2)) (f1 := f1) (d0 := 0) (rest := []) [.int x1] C0 rfl hR 0 0 (T_X6_isCell G ef1) ws_X6_isCell lk_67 hd_X6_isCell ⟨by decide, by decide⟩ vl_0 rfl rfl rfl hl.1 rfl (Nat.le_of_ble_eq_true rfl) dX6_sweep_2 (fun H locs hR => ?_)
  refine W.eq (g2 := F0 m 5 ls (.int r2 :: [])) rfl ?_
  refine lv_if_ne (tgt := 15) hx hb dX6_sweep_5 (by decide) (fun c3 => ?_) (fun c3 => ?_)
  · rw [if_neg c3] at h
    refine lv_aload_n hx hb dX6_sweep_15 rfl (lv_at hl 0 rfl) ?_
    refine mm_get hx hb hts hown hR 0 0 0 vl_0 (v := .ref (ra G 7 0)) rfl rfl iX6 (by decide) lk_68 rfl dX6_sweep_16 ?_
    refine lv_iload_n hx hb dX6_sweep_19 rfl (lv_at hl 1 rfl) ?_
    obtain ⟨z4, h⟩ := mm_if h
    refine mm_ald hx hb hR 7 0 2 vl_7 (L := 10) (C := "IceRoad$Cell") (r2 := 1) (i2 := x1.toNatClampNeg) rfl rfl (okI_in z4) rfl (by decide) dX6_sweep_20 ?_
    refine lv_astore_n (lv' := [(2, .ref (ra G 1 x1.toNatClampNeg)), (0, .ref (ra G 0 0)), (1, .int x1)]) hx hb dX6_sweep_21 rfl hl (by decide) rfl (fun ls hl => ?_)
    refine lv_aload_n hx hb dX6_sweep_22 rfl (lv_at hl 0 rfl) ?_
    refine mm_get hx hb hts hown hR 1 x1.toNatClampNeg 0 (mm_vld 1 (by decide) x1.toNatClampNeg (Nat.lt_trans (okI_lt z4) (by decide))) (v := .int (f1 1 x1.toNatClampNeg 0)) rfl rfl iX0 (by decide) lk_72 rfl dX6_sweep_23 ?_
    refine lv_if_eq (tgt := 44) hx hb dX6_sweep_26 (by decide) (fun c5 => ?_) (fun c5 => ?_)
    · rw [if_pos c5] at h
      exact L_X6_sweep_44 C0 (Nat.lt_trans (okI_lt z4) (by decide)) h _ _ _ hR (lv_sub hl [0] rfl)
    · rw [if_neg c5] at h
      refine lv_aload_n hx hb dX6_sweep_29 rfl (lv_at hl 0 rfl) ?_
      refine mm_get hx hb hts hown hR 1 x1.toNatClampNeg 0 (mm_vld 1 (by decide) x1.toNatClampNeg (Nat.lt_trans (okI_lt z4) (by decide))) (v := .int (f1 1 x1.toNatClampNeg 0)) rfl rfl iX0 (by decide) lk_72 rfl dX6_sweep_30 ?_
      refine lv_iconst (v := 1) hx hb dX6_sweep_33 (by decide) ?_
      refine lv_icmp_eq (tgt := 44) hx hb dX6_sweep_34 (by decide) (fun c6 => ?_) (fun c6 => ?_)
      · rw [if_pos c6] at h
        exact L_X6_sweep_44 C0 (Nat.lt_trans (okI_lt z4) (by decide)) h _ _ _ hR (lv_sub hl [0] rfl)
      · rw [if_neg c6] at h
        refine lv_aload_n hx hb dX6_sweep_37 rfl (lv_at hl 1 rfl) ?_
        refine lv_bipush (v := (-5)) hx hb dX6_sweep_38 (by decide) ?_
        obtain ⟨r8, f7, ef7, h⟩ := mm_b2e h
        refine mm_callV (v := some (.int r8)) (f1 := f7) (d0 := 1) (rest := []) [.int (-5)] C0 rfl hR 0 0 (T_X6_refuse G ef7) ws_X6_refuse lk_70 hd_X6_refuse ⟨by decide, by decide⟩ vl_0 rfl rfl rfl hl.1 rfl (Nat.le_of_ble_eq_true rfl) dX6_sweep_40 (fun H locs hR => ?_)
        refine W.eq (g2 := F0 m 43 ls (.int r8 :: [])) rfl ?_
        obtain ⟨rfl, rfl⟩ := mm_pr h
        exact mm_iret C0 hR dX6_sweep_43
  · rw [if_pos c3] at h
    refine lv_aload_n hx hb dX6_sweep_8 rfl (lv_at hl 0 rfl) ?_
    refine lv_bipush (v := (-3)) hx hb dX6_sweep_9 (by decide) ?_
    obtain ⟨r10, f9, ef9, h⟩ := mm_b2e h
    refine mm_callV (v := some (.int r10)) (f1 := f9) (d0 := 1) (rest := []) [.int (-3)] C0 rfl hR 0 0 (T_X6_refuse G ef9) ws_X6_refuse lk_70 hd_X6_refuse ⟨by decide, by decide⟩ vl_0 rfl rfl rfl hl.1 rfl (Nat.le_of_ble_eq_true rfl) dX6_sweep_11 (fun H locs hR => ?_)
    refine W.eq (g2 := F0 m 14 ls (.int r10 :: [])) rfl ?_
    obtain ⟨rfl, rfl⟩ := mm_pr h
    exact mm_iret C0 hR dX6_sweep_14
