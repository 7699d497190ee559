def S_X6_gatherFacts (f : F3) (i1 : Nat) (x2 : Int32) : Option F3 := mm_let (up f 13 0 0 (f 2 i1 0)) fun f1 => mm_let (up f1 13 0 1 (f1 2 i1 1)) fun f2 => mm_let (up f2 13 0 2 x2) fun f3 => mm_b2 (S_X5_heatOf f3 (f3 0 0 15)) fun r5 f4 => mm_let (up f4 13 0 3 r5) fun f6 => if okI x2 10 then (mm_let (up f6 13 0 4 (f6 1 x2.toNatClampNeg 2)) fun f8 => some f8) else none
set_option maxHeartbeats 4000000 in
set_option maxRecDepth 100000 in
theorem T_X6_gatherFacts (G : mmG) {f f' : F3} {i1 : Nat} {x2 : Int32} (hi1 : i1 < mm_cnt 2) (h : S_X6_gatherFacts f i1 x2 = some f') : mmM G yX6_gatherFacts cX6_gatherFacts 3 none 2 [.ref (ra G 0 0), .ref (ra G 2 i1), .int x2] f none f' := by
  refine mm_start (by decide +kernel) (Nat.le_of_ble_eq_true rfl) ?_
  intro p e s m args below meth c ls C0 hR hl
  obtain ⟨hx, hb, hml, hr, hown, hts, hlocks⟩ := id C0
  have hl : lv_has ls 3 [(0, .ref (ra G 0 0)), (1, .ref (ra G 2 i1)), (2, .int x2)] := hl
  rw [S_X6_gatherFacts] at h
  refine lv_aload_n hx hb dX6_gatherFacts_0 rfl (lv_at hl 0 rfl) ?_
  refine mm_get hx hb hts hown hR 0 0 9 vl_0 (v := .ref (ra G 13 0)) rfl rfl iX6 (by decide) lk_85 rfl dX6_gatherFacts_1 ?_
  refine lv_iconst (v := 0) hx hb dX6_gatherFacts_4 (by decide) ?_
  refine lv_aload_n hx hb dX6_gatherFacts_5 rfl (lv_at hl 1 rfl) ?_
  refine mm_get hx hb hts hown hR 2 i1 0 (mm_vld 2 (by decide) i1 hi1) (v := .int (f 2 i1 0)) rfl rfl iX1 (by decide) lk_86 rfl dX6_gatherFacts_6 ?_
  obtain ⟨f1, ef1, h⟩ := mm_lt h
  refine mm_ist hx hb hR 13 0 (by decide) vl_13 (L := 5) (j := 0) (x := f 2 i1 0) (fun _ => rfl) (okI_in (by decide +kernel)) dX6_gatherFacts_9 (fun H locs hR => ?_)
  rw [show ((0 : Int32).toNatClampNeg) = 0 from by decide] at hR
  rw [← ef1] at hR
  refine lv_aload_n hx hb dX6_gatherFacts_10 rfl (lv_at hl 0 rfl) ?_
  refine mm_get hx hb hts hown hR 0 0 9 vl_0 (v := .ref (ra G 13 0)) rfl rfl iX6 (by decide) lk_85 rfl dX6_gatherFacts_11 ?_
  refine lv_iconst (v := 1) hx hb dX6_gatherFacts_14 (by decide) ?_
  refine lv_aload_n hx hb dX6_gatherFacts_15 rfl (lv_at hl 1 rfl) ?_
  refine mm_get hx hb hts hown hR 2 i1 1 (mm_vld 2 (by decide) i1 hi1) (v := .int (f1 2 i1 1)) rfl rfl iX1 (by decide) lk_87 rfl dX6_gatherFacts_16 ?_
  obtain ⟨f2, ef2, h⟩ := mm_lt h
  refine mm_ist hx hb hR 13 0 (by decide) vl_13 (L := 5) (j := 1) (x := f1 2 i1 1) (fun _ => rfl) (okI_in (by decide +kernel)) dX6_gatherFacts_19 (fun H locs hR => ?_)
  rw [show ((1 : Int32).toNatClampNeg) = 1 from by decide] at hR
  rw [← ef2] at hR
  refine lv_aload_n hx hb dX6_gatherFacts_20 rfl (lv_at hl 0 rfl) ?_
  refine mm_get hx hb hts hown hR 0 0 9 vl_0 (v := .ref (ra G 13 0)) rfl rfl iX6 (by decide) lk_85 rfl dX6_gatherFacts_21 ?_
  refine lv_iconst (v := 2) hx hb dX6_gatherFacts_24 (by decide) ?_
  refine lv_iload_n hx hb dX6_gatherFacts_25 rfl (lv_at hl 2 rfl) ?_
  obtain ⟨f3, ef3, h⟩ := mm_lt h
  refine mm_ist hx hb hR 13 0 (by decide) vl_13 (L := 5) (j := 2) (x := x2) (fun _ => rfl) (okI_in (by decide +kernel)) dX6_gatherFacts_26 (fun H locs hR => ?_)
  rw [show ((2 : Int32).toNatClampNeg) = 2 from by decide] at hR
  rw [← ef3] at hR
  refine lv_aload_n hx hb dX6_gatherFacts_27 rfl (lv_at hl 0 rfl) ?_
  refine mm_get hx hb hts hown hR 0 0 9 vl_0 (v := .ref (ra G 13 0)) rfl rfl iX6 (by decide) lk_85 rfl dX6_gatherFacts_28 ?_
  refine lv_iconst (v := 3) hx hb dX6_gatherFacts_31 (by decide) ?_
  refine lv_aload_n hx hb dX6_gatherFacts_32 rfl (lv_at hl 0 rfl) ?_
  refine mm_get hx hb hts hown hR 0 0 4 vl_0 (v := .ref (ra G 6 0)) rfl rfl iX6 (by decide) lk_81 rfl dX6_gatherFacts_33 ?_
  refine lv_aload_n hx hb dX6_gatherFacts_36 rfl (lv_at hl 0 rfl) ?_
  refine mm_get hx hb hts hown hR 0 0 15 vl_0 (v := .int (f3 0 0 15)) rfl rfl iX6 (by decide) lk_88 rfl dX6_gatherFacts_37 ?_
  obtain ⟨r5, f4, ef4, h⟩ := mm_b2e h
  refine mm_callV (v := some (.int r5)) (f1 := f4) (d0 := 1) (rest := [.int 3, .ref (ra G 13 0)]) [.int (f3 0 0 15)] C0 rfl hR 6 0 (T_X5_heatOf G ef4) ws_X5_heatOf lk_89 hd_X5_heatOf ⟨by decide, by decide⟩ vl_6 rfl rfl rfl hl.1 rfl (Nat.le_of_ble_eq_true rfl) dX6_gatherFacts_40 (fun H locs hR => ?_)
  refine W.eq (g2 := F0 m 43 ls (.int r5 :: .int 3 :: .ref (ra G 13 0) :: [])) rfl ?_
  obtain ⟨f6, ef6, h⟩ := mm_lt h
  refine mm_ist hx hb hR 13 0 (by decide) vl_13 (L := 5) (j := 3) (x := r5) (fun _ => rfl) (okI_in (by decide +kernel)) dX6_gatherFacts_43 (fun H locs hR => ?_)
  rw [show ((3 : Int32).toNatClampNeg) = 3 from by decide] at hR
  rw [← ef6] at hR
  refine lv_aload_n hx hb dX6_gatherFacts_44 rfl (lv_at hl 0 rfl) ?_
  refine mm_get hx hb hts hown hR 0 0 9 vl_0 (v := .ref (ra G 13 0)) rfl rfl iX6 (by decide) lk_85 rfl dX6_gatherFacts_45 ?_
  refine lv_iconst (v := 4) hx hb dX6_gatherFacts_48 (by decide) ?_
  refine lv_aload_n hx hb dX6_gatherFacts_49 rfl (lv_at hl 0 rfl) ?_
  refine mm_get hx hb hts hown hR 0 0 0 vl_0 (v := .ref (ra G 7 0)) rfl rfl iX6 (by decide) lk_68 rfl dX6_gatherFacts_50 ?_
  refine lv_iload_n hx hb dX6_gatherFacts_53 rfl (lv_at hl 2 rfl) ?_
  obtain ⟨z7, h⟩ := mm_if h
  refine mm_ald hx hb hR 7 0 2 vl_7 (L := 10) (C := "IceRoad$Cell") (r2 := 1) (i2 := x2.toNatClampNeg) rfl rfl (okI_in z7) rfl (by decide) dX6_gatherFacts_54 ?_
  refine mm_get hx hb hts hown hR 1 x2.toNatClampNeg 2 (mm_vld 1 (by decide) x2.toNatClampNeg (Nat.lt_trans (okI_lt z7) (by decide))) (v := .int (f6 1 x2.toNatClampNeg 2)) rfl rfl iX0 (by decide) lk_75 rfl dX6_gatherFacts_55 ?_
  obtain ⟨f8, ef8, h⟩ := mm_lt h
  refine mm_ist hx hb hR 13 0 (by decide) vl_13 (L := 5) (j := 4) (x := f6 1 x2.toNatClampNeg 2) (fun _ => rfl) (okI_in (by decide +kernel)) dX6_gatherFacts_58 (fun H locs hR => ?_)
  rw [show ((4 : Int32).toNatClampNeg) = 4 from by decide] at hR
  rw [← ef8] at hR
  obtain rfl := mm_p1 h
  exact mm_vret C0 hR dX6_gatherFacts_59
def S_X6_numberFor_54 (k7 : F3 → Int32 → Int32 → Option (Int32 × F3)) (f : F3) (x1 : Int32) (x2 : Int32) : Option (Int32 × F3) := k7 f x1 (x2 + (-1))
set_option maxHeartbeats 4000000 in
set_option maxRecDepth 100000 in
theorem L_X6_numberFor_54 {G : mmG} {p : Program} {e : Env} {s : State} {m : MethodId} {args : Array Value} {below : List Frame} {meth : Method} {c : Code} {f' : F3} {rv : Int32} (C0 : mmC yX6_numberFor cX6_numberFor 3 (some .int) p s m args meth c) {k7 : F3 → Int32 → Int32 → Option (Int32 × F3)} (hk7 : ∀ (f : F3) (x1 : Int32) (x2 : Int32), k7 f x1 x2 = some (rv, f') → ∀ (H : Heap) (locs : List Loc) (ls : Array Slot), mm_R G mm_NT f (GG f) s H locs → lv_has ls 3 [(0, .ref (ra G 0 0)), (1, .int x1), (2, .int x2)] → W p G.1 e (mm_rm 1) s m args below meth c H locs 0 0 (MQ below (mm_Q G mm_NT (some (.int rv)) f' (GG f')) args s 0 0 (mm_A G)) (F0 m 7 ls [])) {f : F3} {x1 : Int32} {x2 : Int32} (h : S_X6_numberFor_54 k7 f x1 x2 = some (rv, f')) (H : Heap) (locs : List Loc) (ls : Array Slot) (hR : mm_R G mm_NT f (GG f) s H locs) (hl : lv_has ls 3 [(0, .ref (ra G 0 0)), (1, .int x1), (2, .int x2)]) : W p G.1 e (mm_rm 1) s m args below meth c H locs 0 0 (MQ below (mm_Q G mm_NT (some (.int rv)) f' (GG f')) args s 0 0 (mm_A G)) (F0 m 54 ls []) := by
  obtain ⟨hx, hb, hml, hr, hown, hts, hlocks⟩ := id C0
  rw [S_X6_numberFor_54] at h
  refine lv_iinc (v := x2 + (-1)) (lv' := [(2, .int (x2 + (-1))), (0, .ref (ra G 0 0)), (1, .int x1)]) hx hb dX6_numberFor_54 hl (k := 2) rfl rfl (by decide) rfl (fun ls hl => ?_)
  refine lv_goto (tgt := 7) hx hb dX6_numberFor_57 (by decide) ?_
  exact hk7 _ x1 (x2 + (-1))  h _ _ _ hR (lv_sub hl [1, 2, 0] rfl)
def S_X6_numberFor_7 : Nat → F3 → Int32 → Int32 → Option (Int32 × F3)
  | 0, _, _, _ => none
  | n + 1, f, x1, x2 => if x2 < 0 then (if x1 = 1 then (some (1, f)) else (some (0, f))) else (if okI x2 10 then (if (f 3 x2.toNatClampNeg 0) = x1 then (mm_b2 (S_X2_applies f x2.toNatClampNeg (f 0 0 15)) fun r6 f5 => if r6 = 0 then (S_X6_numberFor_54 (fun f9 x1_ x2_ => S_X6_numberFor_7 n f9 x1_ x2_) f5 x1 x2) else (some (f5 3 x2.toNatClampNeg 1, f5))) else (S_X6_numberFor_54 (fun f9 x1_ x2_ => S_X6_numberFor_7 n f9 x1_ x2_) f x1 x2)) else none)
set_option maxHeartbeats 4000000 in
set_option maxRecDepth 100000 in
theorem L_X6_numberFor_7 {G : mmG} {p : Program} {e : Env} {s : State} {m : MethodId} {args : Array Value} {below : List Frame} {meth : Method} {c : Code} {f' : F3} {rv : Int32} (C0 : mmC yX6_numberFor cX6_numberFor 3 (some .int) p s m args meth c) : ∀ (n : Nat) {f : F3} {x1 : Int32} {x2 : Int32} , S_X6_numberFor_7 n f x1 x2 = some (rv, f') → ∀ (H : Heap) (locs : List Loc) (ls : Array Slot), mm_R G mm_NT f (GG f) s H locs → lv_has ls 3 [(0, .ref (ra G 0 0)), (1, .int x1), (2, .int x2)] → W p G.1 e (mm_rm 1) s m args below meth c H locs 0 0 (MQ below (mm_Q G mm_NT (some (.int rv)) f' (GG f')) args s 0 0 (mm_A G)) (F0 m 7 ls []) := by
  obtain ⟨hx, hb, hml, hr, hown, hts, hlocks⟩ := id C0
  intro n
  induction n with
  | zero =>
    intro f x1 x2  h H locs ls hR hl
    cases h
  | succ n ih =>
    intro f x1 x2  h H locs ls hR hl
    rw [S_X6_numberFor_7] at h
    refine lv_iload_n hx hb dX6_numberFor_7 rfl (lv_at hl 2 rfl) ?_
    refine lv_if_lt (tgt := 60) hx hb dX6_numberFor_8 (by decide) (fun c1 => ?_) (fun c1 => ?_)
    · rw [if_pos c1] at h
      refine lv_iload_n hx hb dX6_numberFor_60 rfl (lv_at hl 1 rfl) ?_
      refine lv_iconst (v := 1) hx hb dX6_numberFor_61 (by decide) ?_
      refine lv_icmp_ne (tgt := 69) hx hb dX6_numberFor_62 (by decide) (fun c2 => ?_) (fun c2 => ?_)
      · rw [if_neg c2] at h
        refine lv_iconst (v := 0) hx hb dX6_numberFor_69 (by decide) ?_
        obtain ⟨rfl, rfl⟩ := mm_pr h
        exact mm_iret C0 hR dX6_numberFor_70
      · rw [if_pos c2] at h
        refine lv_iconst (v := 1) hx hb dX6_numberFor_65 (by decide) ?_
        refine lv_goto (tgt := 70) hx hb dX6_numberFor_66 (by decide) ?_
        obtain ⟨rfl, rfl⟩ := mm_pr h
        exact mm_iret C0 hR dX6_numberFor_70
    · rw [if_neg c1] at h
      refine lv_aload_n hx hb dX6_numberFor_11 rfl (lv_at hl 0 rfl) ?_
      refine mm_get hx hb hts hown hR 0 0 3 vl_0 (v := .ref (ra G 10 0)) rfl rfl iX6 (by decide) lk_91 rfl dX6_numberFor_12 ?_
      refine lv_iload_n hx hb dX6_numberFor_15 rfl (lv_at hl 2 rfl) ?_
      obtain ⟨z3, h⟩ := mm_if h
      refine mm_ald hx hb hR 10 0 4 vl_10 (L := 10) (C := "IceRoad$Rule") (r2 := 3) (i2 := x2.toNatClampNeg) rfl rfl (okI_in z3) rfl (by decide) dX6_numberFor_16 ?_
      refine mm_get hx hb hts hown hR 3 x2.toNatClampNeg 0 (mm_vld 3 (by decide) x2.toNatClampNeg (okI_lt z3)) (v := .int (f 3 x2.toNatClampNeg 0)) rfl rfl iX2 (by decide) lk_92 rfl dX6_numberFor_17 ?_
      refine lv_iload_n hx hb dX6_numberFor_20 rfl (lv_at hl 1 rfl) ?_
      refine lv_icmp_ne (tgt := 54) hx hb dX6_numberFor_21 (by decide) (fun c4 => ?_) (fun c4 => ?_)
      · rw [if_neg c4] at h
        exact L_X6_numberFor_54 C0 (fun _ _ _ h9 H9 locs9 ls9 hR9 hl9 => ih h9 _ _ _ hR9 hl9) h _ _ _ hR (lv_sub hl [0, 1, 2] rfl)
      · rw [if_pos c4] at h
        refine lv_aload_n hx hb dX6_numberFor_24 rfl (lv_at hl 0 rfl) ?_
        refine mm_get hx hb hts hown hR 0 0 3 vl_0 (v := .ref (ra G 10 0)) rfl rfl iX6 (by decide) lk_91 rfl dX6_numberFor_25 ?_
        refine lv_iload_n hx hb dX6_numberFor_28 rfl (lv_at hl 2 rfl) ?_
        refine mm_ald hx hb hR 10 0 4 vl_10 (L := 10) (C := "IceRoad$Rule") (r2 := 3) (i2 := x2.toNatClampNeg) rfl rfl (okI_in z3) rfl (by decide) dX6_numberFor_29 ?_
        refine lv_aload_n hx hb dX6_numberFor_30 rfl (lv_at hl 0 rfl) ?_
        refine mm_get hx hb hts hown hR 0 0 15 vl_0 (v := .int (f 0 0 15)) rfl rfl iX6 (by decide) lk_88 rfl dX6_numberFor_31 ?_
        refine lv_aload_n hx hb dX6_numberFor_34 rfl (lv_at hl 0 rfl) ?_
        refine mm_get hx hb hts hown hR 0 0 9 vl_0 (v := .ref (ra G 13 0)) rfl rfl iX6 (by decide) lk_85 rfl dX6_numberFor_35 ?_
        obtain ⟨r6, f5, ef5, h⟩ := mm_b2e h
        refine mm_callV (v := some (.int r6)) (f1 := f5) (d0 := 0) (rest := []) [.int (f 0 0 15), .ref (ra G 13 0)] C0 rfl hR 3 x2.toNatClampNeg (T_X2_applies G (okI_lt z3) ef5) ws_X2_applies lk_93 hd_X2_applies ⟨by decide, by decide⟩ (mm_vld 3 (by decide) x2.toNatClampNeg (okI_lt z3)) rfl rfl rfl hl.1 rfl (Nat.le_of_ble_eq_true rfl) dX6_numberFor_38 (fun H locs hR => ?_)
        refine W.eq (g2 := F0 m 41 ls (.int r6 :: [])) rfl ?_
        refine lv_if_eq (tgt := 54) hx hb dX6_numberFor_41 (by decide) (fun c7 => ?_) (fun c7 => ?_)
        · rw [if_pos c7] at h
          exact L_X6_numberFor_54 C0 (fun _ _ _ h9 H9 locs9 ls9 hR9 hl9 => ih h9 _ _ _ hR9 hl9) h _ _ _ hR (lv_sub hl [0, 1, 2] rfl)
        · rw [if_neg c7] at h
          refine lv_aload_n hx hb dX6_numberFor_44 rfl (lv_at hl 0 rfl) ?_
          refine mm_get hx hb hts hown hR 0 0 3 vl_0 (v := .ref (ra G 10 0)) rfl rfl iX6 (by decide) lk_91 rfl dX6_numberFor_45 ?_
          refine lv_iload_n hx hb dX6_numberFor_48 rfl (lv_at hl 2 rfl) ?_
          refine mm_ald hx hb hR 10 0 4 vl_10 (L := 10) (C := "IceRoad$Rule") (r2 := 3) (i2 := x2.toNatClampNeg) rfl rfl (okI_in z3) rfl (by decide) dX6_numberFor_49 ?_
          refine mm_get hx hb hts hown hR 3 x2.toNatClampNeg 1 (mm_vld 3 (by decide) x2.toNatClampNeg (okI_lt z3)) (v := .int (f5 3 x2.toNatClampNeg 1)) rfl rfl iX2 (by decide) lk_94 rfl dX6_numberFor_50 ?_
          obtain ⟨rfl, rfl⟩ := mm_pr h
          exact mm_iret C0 hR dX6_numberFor_53
def S_X6_numberFor (f : F3) (x1 : Int32) : Option (Int32 × F3) := S_X6_numberFor_7 FU f x1 ((f 0 0 14) - 1)
set_option maxHeartbeats 4000000 in
set_option maxRecDepth 100000 in
theorem T_X6_numberFor (G : mmG) {f f' : F3} {rv : Int32} {x1 : Int32} (h : S_X6_numberFor f x1 = some (rv, f')) : mmM G yX6_numberFor cX6_numberFor 3 (some .int) 1 [.ref (ra G 0 0), .int x1] f (some (.int rv)) f' := by
  refine mm_start (by decide +kernel) (Nat.le_of_ble_eq_true rfl) ?_
  intro p e s m args below meth c ls C0 hR hl
  obtain ⟨hx, hb, hml, hr, hown, hts, hlocks⟩ := id C0
  have hl : lv_has ls 3 [(0, .ref (ra G 0 0)), (1, .int x1)] := hl
  rw [S_X6_numberFor] at h
  refine lv_aload_n hx hb dX6_numberFor_0 rfl (lv_at hl 0 rfl) ?_
  refine mm_get hx hb hts hown hR 0 0 14 vl_0 (v := .int (f 0 0 14)) rfl rfl iX6 (by decide) lk_90 rfl dX6_numberFor_1 ?_
  refine lv_iconst (v := 1) hx hb dX6_numberFor_4 (by decide) ?_
  refine lv_isub hx hb dX6_numberFor_5 ?_
  refine lv_istore_n (lv' := [(2, .int ((f 0 0 14) - 1)), (0, .ref (ra G 0 0)), (1, .int x1)]) hx hb dX6_numberFor_6 rfl hl (by decide) rfl (fun ls hl => ?_)
  exact L_X6_numberFor_7 C0 _ h _ _ _ hR (lv_sub hl [1, 2, 0] rfl)
def S_X6_nearestKnown_7 : Nat → F3 → Int32 → Int32 → Int32 → Option (Int32 × F3)
  | 0, _, _, _, _ => none
  | n + 1, f, x2, x3, x4 => if 10 ≤ x4 then (some ((-1), f)) else (mm_b2 (S_X6_isCell f x3) fun r3 f2 => if r3 = 0 then (some ((-1), f2)) else (if okI x3 10 then (if (f2 1 x3.toNatClampNeg 7) = (-1) then (S_X6_nearestKnown_7 n f2 x2 (x3 + x2) (x4 + 1)) else (some (f2 1 x3.toNatClampNeg 7, f2))) else none))
set_option maxHeartbeats 4000000 in
set_option maxRecDepth 100000 in
theorem L_X6_nearestKnown_7 {G : mmG} {p : Program} {e : Env} {s : State} {m : MethodId} {args : Array Value} {below : List Frame} {meth : Method} {c : Code} {f' : F3} {rv : Int32} (C0 : mmC yX6_nearestKnown cX6_nearestKnown 5 (some .int) p s m args meth c) : ∀ (n : Nat) {f : F3} {x2 : Int32} {x3 : Int32} {x4 : Int32} , S_X6_nearestKnown_7 n f x2 x3 x4 = some (rv, f') → ∀ (H : Heap) (locs : List Loc) (ls : Array Slot), mm_R G mm_NT f (GG f) s H locs → lv_has ls 5 [(0, .ref (ra G 0 0)), (2, .int x2), (3, .int x3), (4, .int x4)] → W p G.1 e (mm_rm 1) s m args below meth c H locs 0 0 (MQ below (mm_Q G mm_NT (some (.int rv)) f' (GG f')) args s 0 0 (mm_A G)) (F0 m 7 ls []) := by
  obtain ⟨hx, hb, hml, hr, hown, hts, hlocks⟩ := id C0
  intro n
  induction n with
  | zero =>
    intro f x2 x3 x4  h H locs ls hR hl
    cases h
  | succ n ih =>
    intro f x2 x3 x4  h H locs ls hR hl
    rw [S_X6_nearestKnown_7] at h
    refine lv_iload hx hb dX6_nearestKnown_7 (lv_at hl 3 rfl) ?_
    refine lv_bipush (v := 10) hx hb dX6_nearestKnown_9 (by decide) ?_
    refine lv_icmp_ge (tgt := 55) hx hb dX6_nearestKnown_11 (by decide) (fun c1 => ?_) (fun c1 => ?_)
    · rw [if_pos c1] at h
      refine lv_iconst (v := (-1)) hx hb dX6_nearestKnown_55 (by decide) ?_
      obtain ⟨rfl, rfl⟩ := mm_pr h
      exact mm_iret C0 hR dX6_nearestKnown_56
    · rw [if_neg c1] at h
      refine lv_aload_n hx hb dX6_nearestKnown_14 rfl (lv_at hl 0 rfl) ?_
      refine lv_iload_n hx hb dX6_nearestKnown_15 rfl (lv_at hl 2 rfl) ?_
      obtain ⟨r3, f2, ef2, h⟩ := mm_b2e h
      refine mm_callV (v := some (.int r3)) (f1 := f2) (d0 := 0) (rest := []) [.int x3] C0 rfl hR 0 0 (T_X6_isCell G ef2) ws_X6_isCell lk_67 hd_X6_isCell ⟨by decide, by decide⟩ vl_0 rfl rfl rfl hl.1 rfl (Nat.le_of_ble_eq_true rfl) dX6_nearestKnown_16 (fun H locs hR => ?_)
      refine W.eq (g2 := F0 m 19 ls (.int r3 :: [])) rfl ?_
      refine lv_if_eq (tgt := 55) hx hb dX6_nearestKnown_19 (by decide) (fun c4 => ?_) (fun c4 => ?_)
      · rw [if_pos c4] at h
        refine lv_iconst (v := (-1)) hx hb dX6_nearestKnown_55 (by decide) ?_
        obtain ⟨rfl, rfl⟩ := mm_pr h
        exact mm_iret C0 hR dX6_nearestKnown_56
      · rw [if_neg c4] at h
        refine lv_aload_n hx hb dX6_nearestKnown_22 rfl (lv_at hl 0 rfl) ?_
        refine mm_get hx hb hts hown hR 0 0 0 vl_0 (v := .ref (ra G 7 0)) rfl rfl iX6 (by decide) lk_68 rfl dX6_nearestKnown_23 ?_
        refine lv_iload_n hx hb dX6_nearestKnown_26 rfl (lv_at hl 2 rfl) ?_
        obtain ⟨z5, h⟩ := mm_if h
        refine mm_ald hx hb hR 7 0 2 vl_7 (L := 10) (C := "IceRoad$Cell") (r2 := 1) (i2 := x3.toNatClampNeg) rfl rfl (okI_in z5) rfl (by decide) dX6_nearestKnown_27 ?_
        refine mm_get hx hb hts hown hR 1 x3.toNatClampNeg 7 (mm_vld 1 (by decide) x3.toNatClampNeg (Nat.lt_trans (okI_lt z5) (by decide))) (v := .int (f2 1 x3.toNatClampNeg 7)) rfl rfl iX0 (by decide) lk_95 rfl dX6_nearestKnown_28 ?_
        refine lv_iconst (v := (-1)) hx hb dX6_nearestKnown_31 (by decide) ?_
        refine lv_icmp_eq (tgt := 45) hx hb dX6_nearestKnown_32 (by decide) (fun c6 => ?_) (fun c6 => ?_)
        · rw [if_pos c6] at h
          refine lv_iload_n hx hb dX6_nearestKnown_45 rfl (lv_at hl 2 rfl) ?_
          refine lv_iload_n hx hb dX6_nearestKnown_46 rfl (lv_at hl 1 rfl) ?_
          refine lv_iadd hx hb dX6_nearestKnown_47 ?_
          refine lv_istore_n (lv' := [(3, .int (x3 + x2)), (0, .ref (ra G 0 0)), (2, .int x2), (4, .int x4)]) hx hb dX6_nearestKnown_48 rfl hl (by decide) rfl (fun ls hl => ?_)
          refine lv_iinc (v := x4 + 1) (lv' := [(4, .int (x4 + 1)), (3, .int (x3 + x2)), (0, .ref (ra G 0 0)), (2, .int x2)]) hx hb dX6_nearestKnown_49 hl (k := 3) rfl rfl (by decide) rfl (fun ls hl => ?_)
          refine lv_goto (tgt := 7) hx hb dX6_nearestKnown_52 (by decide) ?_
          exact ih  h _ _ _ hR (lv_sub hl [2, 3, 1, 0] rfl)
        · rw [if_neg c6] at h
          refine lv_aload_n hx hb dX6_nearestKnown_35 rfl (lv_at hl 0 rfl) ?_
          refine mm_get hx hb hts hown hR 0 0 0 vl_0 (v := .ref (ra G 7 0)) rfl rfl iX6 (by decide) lk_68 rfl dX6_nearestKnown_36 ?_
          refine lv_iload_n hx hb dX6_nearestKnown_39 rfl (lv_at hl 2 rfl) ?_
          refine mm_ald hx hb hR 7 0 2 vl_7 (L := 10) (C := "IceRoad$Cell") (r2 := 1) (i2 := x3.toNatClampNeg) rfl rfl (okI_in z5) rfl (by decide) dX6_nearestKnown_40 ?_
          refine mm_get hx hb hts hown hR 1 x3.toNatClampNeg 7 (mm_vld 1 (by decide) x3.toNatClampNeg (Nat.lt_trans (okI_lt z5) (by decide))) (v := .int (f2 1 x3.toNatClampNeg 7)) rfl rfl iX0 (by decide) lk_95 rfl dX6_nearestKnown_41 ?_
          obtain ⟨rfl, rfl⟩ := mm_pr h
          exact mm_iret C0 hR dX6_nearestKnown_44
def S_X6_nearestKnown (f : F3) (x1 : Int32) (x2 : Int32) : Option (Int32 × F3) := S_X6_nearestKnown_7 FU f x2 (x1 + x2) 0
set_option maxHeartbeats 4000000 in
set_option maxRecDepth 100000 in
theorem T_X6_nearestKnown (G : mmG) {f f' : F3} {rv : Int32} {x1 : Int32} {x2 : Int32} (h : S_X6_nearestKnown f x1 x2 = some (rv, f')) : mmM G yX6_nearestKnown cX6_nearestKnown 5 (some .int) 1 [.ref (ra G 0 0), .int x1, .int x2] f (some (.int rv)) f' := by
  refine mm_start (by decide +kernel) (Nat.le_of_ble_eq_true rfl) ?_
  intro p e s m args below meth c ls C0 hR hl
  obtain ⟨hx, hb, hml, hr, hown, hts, hlocks⟩ := id C0
  have hl : lv_has ls 5 [(0, .ref (ra G 0 0)), (1, .int x1), (2, .int x2)] := hl
  rw [S_X6_nearestKnown] at h
  refine lv_iload_n hx hb dX6_nearestKnown_0 rfl (lv_at hl 1 rfl) ?_
  refine lv_iload_n hx hb dX6_nearestKnown_1 rfl (lv_at hl 2 rfl) ?_
  refine lv_iadd hx hb dX6_nearestKnown_2 ?_
  refine lv_istore_n (lv' := [(3, .int (x1 + x2)), (0, .ref (ra G 0 0)), (1, .int x1), (2, .int x2)]) hx hb dX6_nearestKnown_3 rfl hl (by decide) rfl (fun ls hl => ?_)
  refine lv_iconst (v := 0) hx hb dX6_nearestKnown_4 (by decide) ?_
  refine lv_istore (lv' := [(4, .int 0), (3, .int (x1 + x2)), (0, .ref (ra G 0 0)), (1, .int x1), (2, .int x2)]) hx hb dX6_nearestKnown_5 hl (by decide) rfl (fun ls hl => ?_)
  exact L_X6_nearestKnown_7 C0 _ h _ _ _ hR (lv_sub hl [2, 4, 1, 0] rfl)
def S_X6_leastOf_71 (f : F3) (x3 : Int32) (x4 : Int32) : Option (Int32 × F3) := some ((if x3 < x4 then x4 else x3) / 2, f)
set_option maxHeartbeats 4000000 in
set_option maxRecDepth 100000 in
theorem L_X6_leastOf_71 {G : mmG} {p : Program} {e : Env} {s : State} {m : MethodId} {args : Array Value} {below : List Frame} {meth : Method} {c : Code} {f' : F3} {rv : Int32} (C0 : mmC yX6_leastOf cX6_leastOf 5 (some .int) p s m args meth c) {f : F3} {x3 : Int32} {x4 : Int32} (h : S_X6_leastOf_71 f x3 x4 = some (rv, f')) (H : Heap) (locs : List Loc) (ls : Array Slot) (hR : mm_R G mm_NT f (GG f) s H locs) (hl : lv_has ls 5 [(3, .int x3), (4, .int x4)]) : W p G.1 e (mm_rm 2) s m args below meth c H locs 0 0 (MQ below (mm_Q G mm_NT (some (.int rv)) f' (GG f')) args s 0 0 (mm_A G)) (F0 m 71 ls []) := by
  obtain ⟨hx, hb, hml, hr, hown, hts, hlocks⟩ := id C0
  rw [S_X6_leastOf_71] at h
  refine lv_iload_n hx hb dX6_leastOf_71 rfl (lv_at hl 0 rfl) ?_
  refine lv_iload hx hb dX6_leastOf_72 (lv_at hl 1 rfl) ?_
  refine va_mmax hx hb (hml.trans hl.1.symm) hown (hts _ lk_98) (hts _ lk_12) (hts _ lk_13) (hts _ lk_14) (by decide) (Nat.le_of_ble_eq_true rfl) (by decide) (by decide) dX6_leastOf_74 ?_
  refine lv_iconst (v := 2) hx hb dX6_leastOf_77 (by decide) ?_
  refine lv_idiv hx hb dX6_leastOf_78 (by decide) ?_
  obtain ⟨rfl, rfl⟩ := mm_pr h
  exact mm_iret C0 hR dX6_leastOf_79
def S_X6_leastOf_60 (f : F3) (x3 : Int32) (x4 : Int32) : Option (Int32 × F3) := if x3 = (-1) then (S_X6_leastOf_71 f x3 x4) else (if x4 = (-1) then (S_X6_leastOf_71 f x3 x4) else (some ((if x4 < x3 then x4 else x3), f)))
set_option maxHeartbeats 4000000 in
set_option maxRecDepth 100000 in
theorem L_X6_leastOf_60 {G : mmG} {p : Program} {e : Env} {s : State} {m : MethodId} {args : Array Value} {below : List Frame} {meth : Method} {c : Code} {f' : F3} {rv : Int32} (C0 : mmC yX6_leastOf cX6_leastOf 5 (some .int) p s m args meth c) {f : F3} {x3 : Int32} {x4 : Int32} (h : S_X6_leastOf_60 f x3 x4 = some (rv, f')) (H : Heap) (locs : List Loc) (ls : Array Slot) (hR : mm_R G mm_NT f (GG f) s H locs) (hl : lv_has ls 5 [(3, .int x3), (4, .int x4)]) : W p G.1 e (mm_rm 2) s m args below meth c H locs 0 0 (MQ below (mm_Q G mm_NT (some (.int rv)) f' (GG f')) args s 0 0 (mm_A G)) (F0 m 60 ls []) := by
  obtain ⟨hx, hb, hml, hr, hown, hts, hlocks⟩ := id C0
  rw [S_X6_leastOf_60] at h
  refine lv_iload_n hx hb dX6_leastOf_60 rfl (lv_at hl 0 rfl) ?_
  refine lv_iconst (v := (-1)) hx hb dX6_leastOf_61 (by decide) ?_
  refine lv_icmp_eq (tgt := 71) hx hb dX6_leastOf_62 (by decide) (fun c10 => ?_) (fun c10 => ?_)
  · rw [if_pos c10] at h
    exact L_X6_leastOf_71 C0 h _ _ _ hR (lv_sub hl [0, 1] rfl)
  · rw [if_neg c10] at h
    refine lv_iload hx hb dX6_leastOf_65 (lv_at hl 1 rfl) ?_
    refine lv_iconst (v := (-1)) hx hb dX6_leastOf_67 (by decide) ?_
    refine lv_icmp_ne (tgt := 80) hx hb dX6_leastOf_68 (by decide) (fun c11 => ?_) (fun c11 => ?_)
    · rw [if_neg c11] at h
      refine lv_iload_n hx hb dX6_leastOf_80 rfl (lv_at hl 0 rfl) ?_
      refine lv_iload hx hb dX6_leastOf_81 (lv_at hl 1 rfl) ?_
      refine va_mmin hx hb (hml.trans hl.1.symm) hown (hts _ lk_97) (hts _ lk_17) (hts _ lk_13) (hts _ lk_18) (by decide) (Nat.le_of_ble_eq_true rfl) (by decide) (by decide) dX6_leastOf_83 ?_
      obtain ⟨rfl, rfl⟩ := mm_pr h
      exact mm_iret C0 hR dX6_leastOf_86
    · rw [if_pos c11] at h
      exact L_X6_leastOf_71 C0 h _ _ _ hR (lv_sub hl [0, 1] rfl)
def S_X6_leastOf (f : F3) (x1 : Int32) : Option (Int32 × F3) := if okI x1 10 then (if (f 1 x1.toNatClampNeg 0) = 4 then (some (3000, f)) else (if (f 1 x1.toNatClampNeg 7) = (-1) then (mm_b2 (S_X6_nearestKnown f x1 (-1)) fun r5 f4 => mm_b2 (S_X6_nearestKnown f4 x1 1) fun r7 f6 => if r5 = (-1) then (if r7 = (-1) then (some (0, f6)) else (S_X6_leastOf_60 f6 r5 r7)) else (S_X6_leastOf_60 f6 r5 r7)) else (some (f 1 x1.toNatClampNeg 7, f)))) else none
set_option maxHeartbeats 4000000 in
set_option maxRecDepth 100000 in
theorem T_X6_leastOf (G : mmG) {f f' : F3} {rv : Int32} {x1 : Int32} (h : S_X6_leastOf f x1 = some (rv, f')) : mmM G yX6_leastOf cX6_leastOf 5 (some .int) 2 [.ref (ra G 0 0), .int x1] f (some (.int rv)) f' := by
  refine mm_start (by decide +kernel) (Nat.le_of_ble_eq_true rfl) ?_
  intro p e s m args below meth c ls C0 hR hl
  obtain ⟨hx, hb, hml, hr, hown, hts, hlocks⟩ := id C0
  have hl : lv_has ls 5 [(0, .ref (ra G 0 0)), (1, .int x1)] := hl
  rw [S_X6_leastOf] at h
  refine lv_aload_n hx hb dX6_leastOf_0 rfl (lv_at hl 0 rfl) ?_
  refine mm_get hx hb hts hown hR 0 0 0 vl_0 (v := .ref (ra G 7 0)) rfl rfl iX6 (by decide) lk_68 rfl dX6_leastOf_1 ?_
  refine lv_iload_n hx hb dX6_leastOf_4 rfl (lv_at hl 1 rfl) ?_
  obtain ⟨z1, h⟩ := mm_if h
  refine mm_ald hx hb hR 7 0 2 vl_7 (L := 10) (C := "IceRoad$Cell") (r2 := 1) (i2 := x1.toNatClampNeg) rfl rfl (okI_in z1) rfl (by decide) dX6_leastOf_5 ?_
  refine lv_astore_n (lv' := [(2, .ref (ra G 1 x1.toNatClampNeg)), (0, .ref (ra G 0 0)), (1, .int x1)]) hx hb dX6_leastOf_6 rfl hl (by decide) rfl (fun ls hl => ?_)
  refine lv_aload_n hx hb dX6_leastOf_7 rfl (lv_at hl 0 rfl) ?_
  refine mm_get hx hb hts hown hR 1 x1.toNatClampNeg 0 (mm_vld 1 (by decide) x1.toNatClampNeg (Nat.lt_trans (okI_lt z1) (by decide))) (v := .int (f 1 x1.toNatClampNeg 0)) rfl rfl iX0 (by decide) lk_72 rfl dX6_leastOf_8 ?_
  refine lv_iconst (v := 4) hx hb dX6_leastOf_11 (by decide) ?_
  refine lv_icmp_ne (tgt := 19) hx hb dX6_leastOf_12 (by decide) (fun c2 => ?_) (fun c2 => ?_)
  · rw [if_neg c2] at h
    refine lv_aload_n hx hb dX6_leastOf_19 rfl (lv_at hl 0 rfl) ?_
    refine mm_get hx hb hts hown hR 1 x1.toNatClampNeg 7 (mm_vld 1 (by decide) x1.toNatClampNeg (Nat.lt_trans (okI_lt z1) (by decide))) (v := .int (f 1 x1.toNatClampNeg 7)) rfl rfl iX0 (by decide) lk_95 rfl dX6_leastOf_20 ?_
    refine lv_iconst (v := (-1)) hx hb dX6_leastOf_23 (by decide) ?_
    refine lv_icmp_eq (tgt := 32) hx hb dX6_leastOf_24 (by decide) (fun c3 => ?_) (fun c3 => ?_)
    · rw [if_pos c3] at h
      refine lv_aload_n hx hb dX6_leastOf_32 rfl (lv_at hl 1 rfl) ?_
      refine lv_iload_n hx hb dX6_leastOf_33 rfl (lv_at hl 2 rfl) ?_
      refine lv_iconst (v := (-1)) hx hb dX6_leastOf_34 (by decide) ?_
      obtain ⟨r5, f4, ef4, h⟩ := mm_b2e h
      refine mm_callV (v := some (.int r5)) (f1 := f4) (d0 := 1) (rest := []) [.int x1, .int (-1)] C0 rfl hR 0 0 (T_X6_nearestKnown G ef4) ws_X6_nearestKnown lk_96 hd_X6_nearestKnown ⟨by decide, by decide⟩ vl_0 rfl rfl rfl hl.1 rfl (Nat.le_of_ble_eq_true rfl) dX6_leastOf_35 (fun H locs hR => ?_)
      refine W.eq (g2 := F0 m 38 ls (.int r5 :: [])) rfl ?_
      refine lv_istore_n (lv' := [(3, .int r5), (2, .ref (ra G 1 x1.toNatClampNeg)), (0, .ref (ra G 0 0)), (1, .int x1)]) hx hb dX6_leastOf_38 rfl hl (by decide) rfl (fun ls hl => ?_)
      refine lv_aload_n hx hb dX6_leastOf_39 rfl (lv_at hl 2 rfl) ?_
      refine lv_iload_n hx hb dX6_leastOf_40 rfl (lv_at hl 3 rfl) ?_
      refine lv_iconst (v := 1) hx hb dX6_leastOf_41 (by decide) ?_
      obtain ⟨r7, f6, ef6, h⟩ := mm_b2e h
      refine mm_callV (v := some (.int r7)) (f1 := f6) (d0 := 1) (rest := []) [.int x1, .int 1] C0 rfl hR 0 0 (T_X6_nearestKnown G ef6) ws_X6_nearestKnown lk_96 hd_X6_nearestKnown ⟨by decide, by decide⟩ vl_0 rfl rfl rfl hl.1 rfl (Nat.le_of_ble_eq_true rfl) dX6_leastOf_42 (fun H locs hR => ?_)
      refine W.eq (g2 := F0 m 45 ls (.int r7 :: [])) rfl ?_
      refine lv_istore (lv' := [(4, .int r7), (3, .int r5), (2, .ref (ra G 1 x1.toNatClampNeg)), (0, .ref (ra G 0 0)), (1, .int x1)]) hx hb dX6_leastOf_45 hl (by decide) rfl (fun ls hl => ?_)
      refine lv_iload_n hx hb dX6_leastOf_47 rfl (lv_at hl 1 rfl) ?_
      refine lv_iconst (v := (-1)) hx hb dX6_leastOf_48 (by decide) ?_
      refine lv_icmp_ne (tgt := 60) hx hb dX6_leastOf_49 (by decide) (fun c8 => ?_) (fun c8 => ?_)
      · rw [if_neg c8] at h
        exact L_X6_leastOf_60 C0 h _ _ _ hR (lv_sub hl [1, 0] rfl)
      · rw [if_pos c8] at h
        refine lv_iload hx hb dX6_leastOf_52 (lv_at hl 0 rfl) ?_
        refine lv_iconst (v := (-1)) hx hb dX6_leastOf_54 (by decide) ?_
        refine lv_icmp_ne (tgt := 60) hx hb dX6_leastOf_55 (by decide) (fun c9 => ?_) (fun c9 => ?_)
        · rw [if_neg c9] at h
          exact L_X6_leastOf_60 C0 h _ _ _ hR (lv_sub hl [1, 0] rfl)
        · rw [if_pos c9] at h
          refine lv_iconst (v := 0) hx hb dX6_leastOf_58 (by decide) ?_
          obtain ⟨rfl, rfl⟩ := mm_pr h
          exact mm_iret C0 hR dX6_leastOf_59
    · rw [if_neg c3] at h
      refine lv_aload_n hx hb dX6_leastOf_27 rfl (lv_at hl 0 rfl) ?_
      refine mm_get hx hb hts hown hR 1 x1.toNatClampNeg 7 (mm_vld 1 (by decide) x1.toNatClampNeg (Nat.lt_trans (okI_lt z1) (by decide))) (v := .int (f 1 x1.toNatClampNeg 7)) rfl rfl iX0 (by decide) lk_95 rfl dX6_leastOf_28 ?_
      obtain ⟨rfl, rfl⟩ := mm_pr h
      exact mm_iret C0 hR dX6_leastOf_31
  · rw [if_pos c2] at h
    refine lv_sipush (v := 3000) hx hb dX6_leastOf_15 (by decide) ?_
    obtain ⟨rfl, rfl⟩ := mm_pr h
    exact mm_iret C0 hR dX6_leastOf_18
def S_X6_reasonAgainst (f : F3) (i1 : Nat) (x2 : Int32) : Option (Int32 × F3) := Option.bind (S_X6_gatherFacts f i1 x2) fun f1 => mm_b2 (S_X6_numberFor f1 2) fun r3 f2 => if r3 = 0 then (mm_b2 (S_X6_leastOf f2 x2) fun r6 f5 => mm_b2 (S_X6_numberFor f5 0) fun r8 f7 => if r8 ≤ r6 then (if okI x2 10 then (mm_b2 (S_X0_lastCome f7 x2.toNatClampNeg (f7 2 i1 2)) fun r12 f11 => if r12 = (-1) then (some (0, f11)) else (mm_b2 (S_X6_numberFor f11 1) fun r15 f14 => if r15 ≤ ((f11 0 0 15) - r12) then (some (0, f14)) else (some (3, f14)))) else none) else (some (2, f7))) else (some (1, f2))
set_option maxHeartbeats 4000000 in
set_option maxRecDepth 100000 in
theorem T_X6_reasonAgainst (G : mmG) {f f' : F3} {rv : Int32} {i1 : Nat} {x2 : Int32} (hi1 : i1 < mm_cnt 2) (h : S_X6_reasonAgainst f i1 x2 = some (rv, f')) : mmM G yX6_reasonAgainst cX6_reasonAgainst 4 (some .int) 3 [.ref (ra G 0 0), .ref (ra G 2 i1), .int x2] f (some (.int rv)) f' := by
  refine mm_start (by decide +kernel) (Nat.le_of_ble_eq_true rfl) ?_
  intro p e s m args below meth c ls C0 hR hl
  obtain ⟨hx, hb, hml, hr, hown, hts, hlocks⟩ := id C0
  have hl : lv_has ls 4 [(0, .ref (ra G 0 0)), (1, .ref (ra G 2 i1)), (2, .int x2)] := hl
  rw [S_X6_reasonAgainst] at h
  refine lv_aload_n hx hb dX6_reasonAgainst_0 rfl (lv_at hl 0 rfl) ?_
  refine lv_aload_n hx hb dX6_reasonAgainst_1 rfl (lv_at hl 1 rfl) ?_
  refine lv_iload_n hx hb dX6_reasonAgainst_2 rfl (lv_at hl 2 rfl) ?_
  obtain ⟨f1, ef1, h⟩ := mm_bind h
  refine mm_callV (v := none) (f1 := f1) (d0 := 2) (rest := []) [.ref (ra G 2 i1), .int x2] C0 rfl hR 0 0 (T_X6_gatherFacts G hi1 ef1) ws_X6_gatherFacts lk_99 hd_X6_gatherFacts ⟨by decide, by decide⟩ vl_0 rfl rfl rfl hl.1 rfl (Nat.le_of_ble_eq_true rfl) dX6_reasonAgainst_3 (fun H locs hR => ?_)
  refine W.eq (g2 := F0 m 6 ls ([])) rfl ?_
  refine lv_aload_n hx hb dX6_reasonAgainst_6 rfl (lv_at hl 0 rfl) ?_
  refine lv_iconst (v := 2) hx hb dX6_reasonAgainst_7 (by decide) ?_
  obtain ⟨r3, f2, ef2, h⟩ := mm_b2e h
  refine mm_callV (v := some (.int r3)) (f1 := f2) (d0 := 1) (rest := []) [.int 2] C0 rfl hR 0 0 (T_X6_numberFor G ef2) ws_X6_numberFor lk_100 hd_X6_numberFor ⟨by decide, by decide⟩ vl_0 rfl rfl rfl hl.1 rfl (Nat.le_of_ble_eq_true rfl) dX6_reasonAgainst_8 (fun H locs hR => ?_)
  refine W.eq (g2 := F0 m 11 ls (.int r3 :: [])) rfl ?_
  refine lv_if_eq (tgt := 16) hx hb dX6_reasonAgainst_11 (by decide) (fun c4 => ?_) (fun c4 => ?_)
  · rw [if_pos c4] at h
    refine lv_aload_n hx hb dX6_reasonAgainst_16 rfl (lv_at hl 0 rfl) ?_
    refine lv_iload_n hx hb dX6_reasonAgainst_17 rfl (lv_at hl 2 rfl) ?_
    obtain ⟨r6, f5, ef5, h⟩ := mm_b2e h
    refine mm_callV (v := some (.int r6)) (f1 := f5) (d0 := 2) (rest := []) [.int x2] C0 rfl hR 0 0 (T_X6_leastOf G ef5) ws_X6_leastOf lk_101 hd_X6_leastOf ⟨by decide, by decide⟩ vl_0 rfl rfl rfl hl.1 rfl (Nat.le_of_ble_eq_true rfl) dX6_reasonAgainst_18 (fun H locs hR => ?_)
    refine W.eq (g2 := F0 m 21 ls (.int r6 :: [])) rfl ?_
    refine lv_aload_n hx hb dX6_reasonAgainst_21 rfl (lv_at hl 0 rfl) ?_
    refine lv_iconst (v := 0) hx hb dX6_reasonAgainst_22 (by decide) ?_
    obtain ⟨r8, f7, ef7, h⟩ := mm_b2e h
    refine mm_callV (v := some (.int r8)) (f1 := f7) (d0 := 1) (rest := [.int r6]) [.int 0] C0 rfl hR 0 0 (T_X6_numberFor G ef7) ws_X6_numberFor lk_100 hd_X6_numberFor ⟨by decide, by decide⟩ vl_0 rfl rfl rfl hl.1 rfl (Nat.le_of_ble_eq_true rfl) dX6_reasonAgainst_23 (fun H locs hR => ?_)
    refine W.eq (g2 := F0 m 26 ls (.int r8 :: .int r6 :: [])) rfl ?_
    refine lv_icmp_ge (tgt := 31) hx hb dX6_reasonAgainst_26 (by decide) (fun c9 => ?_) (fun c9 => ?_)
    · rw [if_pos c9] at h
      refine lv_aload_n hx hb dX6_reasonAgainst_31 rfl (lv_at hl 0 rfl) ?_
      refine mm_get hx hb hts hown hR 0 0 0 vl_0 (v := .ref (ra G 7 0)) rfl rfl iX6 (by decide) lk_68 rfl dX6_reasonAgainst_32 ?_
      refine lv_iload_n hx hb dX6_reasonAgainst_35 rfl (lv_at hl 2 rfl) ?_
      obtain ⟨z10, h⟩ := mm_if h
      refine mm_ald hx hb hR 7 0 2 vl_7 (L := 10) (C := "IceRoad$Cell") (r2 := 1) (i2 := x2.toNatClampNeg) rfl rfl (okI_in z10) rfl (by decide) dX6_reasonAgainst_36 ?_
      refine lv_aload_n hx hb dX6_reasonAgainst_37 rfl (lv_at hl 1 rfl) ?_
      refine mm_get hx hb hts hown hR 2 i1 2 (mm_vld 2 (by decide) i1 hi1) (v := .int (f7 2 i1 2)) rfl rfl iX1 (by decide) lk_84 rfl dX6_reasonAgainst_38 ?_
      obtain ⟨r12, f11, ef11, h⟩ := mm_b2e h
      refine mm_callV (v := some (.int r12)) (f1 := f11) (d0 := 0) (rest := []) [.int (f7 2 i1 2)] C0 rfl hR 1 x2.toNatClampNeg (T_X0_lastCome G (Nat.lt_trans (okI_lt z10) (by decide)) ef11) ws_X0_lastCome lk_102 hd_X0_lastCome ⟨by decide, by decide⟩ (mm_vld 1 (by decide) x2.toNatClampNeg (Nat.lt_trans (okI_lt z10) (by decide))) rfl rfl rfl hl.1 rfl (Nat.le_of_ble_eq_true rfl) dX6_reasonAgainst_41 (fun H locs hR => ?_)
      refine W.eq (g2 := F0 m 44 ls (.int r12 :: [])) rfl ?_
      refine lv_istore_n (lv' := [(3, .int r12), (0, .ref (ra G 0 0)), (1, .ref (ra G 2 i1)), (2, .int x2)]) hx hb dX6_reasonAgainst_44 rfl hl (by decide) rfl (fun ls hl => ?_)
      refine lv_iload_n hx hb dX6_reasonAgainst_45 rfl (lv_at hl 0 rfl) ?_
      refine lv_iconst (v := (-1)) hx hb dX6_reasonAgainst_46 (by decide) ?_
      refine lv_icmp_eq (tgt := 66) hx hb dX6_reasonAgainst_47 (by decide) (fun c13 => ?_) (fun c13 => ?_)
      · rw [if_pos c13] at h
        refine lv_iconst (v := 0) hx hb dX6_reasonAgainst_66 (by decide) ?_
        obtain ⟨rfl, rfl⟩ := mm_pr h
        exact mm_iret C0 hR dX6_reasonAgainst_67
      · rw [if_neg c13] at h
        refine lv_aload_n hx hb dX6_reasonAgainst_50 rfl (lv_at hl 1 rfl) ?_
        refine mm_get hx hb hts hown hR 0 0 15 vl_0 (v := .int (f11 0 0 15)) rfl rfl iX6 (by decide) lk_88 rfl dX6_reasonAgainst_51 ?_
        refine lv_iload_n hx hb dX6_reasonAgainst_54 rfl (lv_at hl 0 rfl) ?_
        refine lv_isub hx hb dX6_reasonAgainst_55 ?_
        refine lv_aload_n hx hb dX6_reasonAgainst_56 rfl (lv_at hl 1 rfl) ?_
        refine lv_iconst (v := 1) hx hb dX6_reasonAgainst_57 (by decide) ?_
        obtain ⟨r15, f14, ef14, h⟩ := mm_b2e h
        refine mm_callV (v := some (.int r15)) (f1 := f14) (d0 := 1) (rest := [.int ((f11 0 0 15) - r12)]) [.int 1] C0 rfl hR 0 0 (T_X6_numberFor G ef14) ws_X6_numberFor lk_100 hd_X6_numberFor ⟨by decide, by decide⟩ vl_0 rfl rfl rfl hl.1 rfl (Nat.le_of_ble_eq_true rfl) dX6_reasonAgainst_58 (fun H locs hR => ?_)
        refine W.eq (g2 := F0 m 61 ls (.int r15 :: .int ((f11 0 0 15) - r12) :: [])) rfl ?_
        refine lv_icmp_ge (tgt := 66) hx hb dX6_reasonAgainst_61 (by decide) (fun c16 => ?_) (fun c16 => ?_)
        · rw [if_pos c16] at h
          refine lv_iconst (v := 0) hx hb dX6_reasonAgainst_66 (by decide) ?_
          obtain ⟨rfl, rfl⟩ := mm_pr h
          exact mm_iret C0 hR dX6_reasonAgainst_67
        · rw [if_neg c16] at h
          refine lv_iconst (v := 3) hx hb dX6_reasonAgainst_64 (by decide) ?_
          obtain ⟨rfl, rfl⟩ := mm_pr h
          exact mm_iret C0 hR dX6_reasonAgainst_65
    · rw [if_neg c9] at h
      refine lv_iconst (v := 2) hx hb dX6_reasonAgainst_29 (by decide) ?_
      obtain ⟨rfl, rfl⟩ := mm_pr h
      exact mm_iret C0 hR dX6_reasonAgainst_30
  · rw [if_neg c4] at h
    refine lv_iconst (v := 1) hx hb dX6_reasonAgainst_14 (by decide) ?_
    obtain ⟨rfl, rfl⟩ := mm_pr h
    exact mm_iret C0 hR dX6_reasonAgainst_15
def S_X6_comeIfItCan (f : F3) (i1 : Nat) (x2 : Int32) : Option F3 := mm_b2 (S_X6_isCell f x2) fun r2 f1 => if r2 = 0 then (some f1) else (mm_b2 (S_X6_isBarred f1 i1 x2) fun r5 f4 => if r5 = 0 then (mm_b2 (S_X6_reasonAgainst f4 i1 x2) fun r8 f7 => if r8 = 0 then (if okI x2 10 then (Option.bind (S_X0_noteCome f7 x2.toNatClampNeg (f7 2 i1 2) (f7 0 0 15)) fun f11 => mm_b2 (S_X0_holdsUp f11 x2.toNatClampNeg (f11 2 i1 0)) fun r13 f12 => if r13 = 0 then (Option.bind (S_X1_end f12 i1 3 (f12 0 0 15)) fun f15 => Option.bind (S_X0_crack f15 x2.toNatClampNeg) fun f16 => some f16) else (Option.bind (S_X1_enter f12 i1 x2) fun f17 => Option.bind (S_X0_wearDown f17 x2.toNatClampNeg (f17 2 i1 0)) fun f18 => some f18)) else none) else (some f7)) else (some f4))
set_option maxHeartbeats 4000000 in
set_option maxRecDepth 100000 in
theorem T_X6_comeIfItCan (G : mmG) {f f' : F3} {i1 : Nat} {x2 : Int32} (hi1 : i1 < mm_cnt 2) (h : S_X6_comeIfItCan f i1 x2 = some f') : mmM G yX6_comeIfItCan cX6_comeIfItCan 4 none 4 [.ref (ra G 0 0), .ref (ra G 2 i1), .int x2] f none f' := by
  refine mm_start (by decide +kernel) (Nat.le_of_ble_eq_true rfl) ?_
  intro p e s m args below meth c ls C0 hR hl
  obtain ⟨hx, hb, hml, hr, hown, hts, hlocks⟩ := id C0
  have hl : lv_has ls 4 [(0, .ref (ra G 0 0)), (1, .ref (ra G 2 i1)), (2, .int x2)] := hl
  rw [S_X6_comeIfItCan] at h
  refine lv_aload_n hx hb dX6_comeIfItCan_0 rfl (lv_at hl 0 rfl) ?_
  refine lv_iload_n hx hb dX6_comeIfItCan_1 rfl (lv_at hl 2 rfl) ?_
  obtain ⟨r2, f1, ef1, h⟩ := mm_b2e h
  refine mm_callV (v := some (.int r2)) (f1 := f1) (d0 := 0) (rest := []) [.int x2] C0 rfl hR 0 0 (T_X6_isCell G ef1) ws_X6_isCell lk_67 hd_X6_isCell ⟨by decide, by decide⟩ vl_0 rfl rfl rfl hl.1 rfl (Nat.le_of_ble_eq_true rfl) dX6_comeIfItCan_2 (fun H locs hR => ?_)
  refine W.eq (g2 := F0 m 5 ls (.int r2 :: [])) rfl ?_
  refine lv_if_eq (tgt := 26) hx hb dX6_comeIfItCan_5 (by decide) (fun c3 => ?_) (fun c3 => ?_)
  · rw [if_pos c3] at h
    obtain rfl := mm_p1 h
    exact mm_vret C0 hR dX6_comeIfItCan_26
  · rw [if_neg c3] at h
    refine lv_aload_n hx hb dX6_comeIfItCan_8 rfl (lv_at hl 0 rfl) ?_
    refine lv_aload_n hx hb dX6_comeIfItCan_9 rfl (lv_at hl 1 rfl) ?_
    refine lv_iload_n hx hb dX6_comeIfItCan_10 rfl (lv_at hl 2 rfl) ?_
    obtain ⟨r5, f4, ef4, h⟩ := mm_b2e h
    refine mm_callV (v := some (.int r5)) (f1 := f4) (d0 := 0) (rest := []) [.ref (ra G 2 i1), .int x2] C0 rfl hR 0 0 (T_X6_isBarred G hi1 ef4) ws_X6_isBarred lk_103 hd_X6_isBarred ⟨by decide, by decide⟩ vl_0 rfl rfl rfl hl.1 rfl (Nat.le_of_ble_eq_true rfl) dX6_comeIfItCan_11 (fun H locs hR => ?_)
    refine W.eq (g2 := F0 m 14 ls (.int r5 :: [])) rfl ?_
    refine lv_if_ne (tgt := 26) hx hb dX6_comeIfItCan_14 (by decide) (fun c6 => ?_) (fun c6 => ?_)
    · rw [if_neg c6] at h
      obtain rfl := mm_p1 h
      exact mm_vret C0 hR dX6_comeIfItCan_26
    · rw [if_pos c6] at h
      refine lv_aload_n hx hb dX6_comeIfItCan_17 rfl (lv_at hl 0 rfl) ?_
      refine lv_aload_n hx hb dX6_comeIfItCan_18 rfl (lv_at hl 1 rfl) ?_
      refine lv_iload_n hx hb dX6_comeIfItCan_19 rfl (lv_at hl 2 rfl) ?_
      obtain ⟨r8, f7, ef7, h⟩ := mm_b2e h
      refine mm_callV (v := some (.int r8)) (f1 := f7) (d0 := 3) (rest := []) [.ref (ra G 2 i1), .int x2] C0 rfl hR 0 0 (T_X6_reasonAgainst G hi1 ef7) ws_X6_reasonAgainst lk_104 hd_X6_reasonAgainst ⟨by decide, by decide⟩ vl_0 rfl rfl rfl hl.1 rfl (Nat.le_of_ble_eq_true rfl) dX6_comeIfItCan_20 (fun H locs hR => ?_)
      refine W.eq (g2 := F0 m 23 ls (.int r8 :: [])) rfl ?_
      refine lv_if_eq (tgt := 27) hx hb dX6_comeIfItCan_23 (by decide) (fun c9 => ?_) (fun c9 => ?_)
      · rw [if_pos c9] at h
        refine lv_aload_n hx hb dX6_comeIfItCan_27 rfl (lv_at hl 0 rfl) ?_
        refine mm_get hx hb hts hown hR 0 0 0 vl_0 (v := .ref (ra G 7 0)) rfl rfl iX6 (by decide) lk_68 rfl dX6_comeIfItCan_28 ?_
        refine lv_iload_n hx hb dX6_comeIfItCan_31 rfl (lv_at hl 2 rfl) ?_
        obtain ⟨z10, h⟩ := mm_if h
        refine mm_ald hx hb hR 7 0 2 vl_7 (L := 10) (C := "IceRoad$Cell") (r2 := 1) (i2 := x2.toNatClampNeg) rfl rfl (okI_in z10) rfl (by decide) dX6_comeIfItCan_32 ?_
        refine lv_astore_n (lv' := [(3, .ref (ra G 1 x2.toNatClampNeg)), (0, .ref (ra G 0 0)), (1, .ref (ra G 2 i1)), (2, .int x2)]) hx hb dX6_comeIfItCan_33 rfl hl (by decide) rfl (fun ls hl => ?_)
        refine lv_aload_n hx hb dX6_comeIfItCan_34 rfl (lv_at hl 0 rfl) ?_
        refine lv_aload_n hx hb dX6_comeIfItCan_35 rfl (lv_at hl 2 rfl) ?_
        refine mm_get hx hb hts hown hR 2 i1 2 (mm_vld 2 (by decide) i1 hi1) (v := .int (f7 2 i1 2)) rfl rfl iX1 (by decide) lk_84 rfl dX6_comeIfItCan_36 ?_
        refine lv_aload_n hx hb dX6_comeIfItCan_39 rfl (lv_at hl 1 rfl) ?_
        refine mm_get hx hb hts hown hR 0 0 15 vl_0 (v := .int (f7 0 0 15)) rfl rfl iX6 (by decide) lk_88 rfl dX6_comeIfItCan_40 ?_
        obtain ⟨f11, ef11, h⟩ := mm_bind h
        refine mm_callV (v := none) (f1 := f11) (d0 := 0) (rest := []) [.int (f7 2 i1 2), .int (f7 0 0 15)] C0 rfl hR 1 x2.toNatClampNeg (T_X0_noteCome G (Nat.lt_trans (okI_lt z10) (by decide)) ef11) ws_X0_noteCome lk_105 hd_X0_noteCome ⟨by decide, by decide⟩ (mm_vld 1 (by decide) x2.toNatClampNeg (Nat.lt_trans (okI_lt z10) (by decide))) rfl rfl rfl hl.1 rfl (Nat.le_of_ble_eq_true rfl) dX6_comeIfItCan_43 (fun H locs hR => ?_)
        refine W.eq (g2 := F0 m 46 ls ([])) rfl ?_
        refine lv_aload_n hx hb dX6_comeIfItCan_46 rfl (lv_at hl 0 rfl) ?_
        refine lv_aload_n hx hb dX6_comeIfItCan_47 rfl (lv_at hl 2 rfl) ?_
        refine mm_get hx hb hts hown hR 2 i1 0 (mm_vld 2 (by decide) i1 hi1) (v := .int (f11 2 i1 0)) rfl rfl iX1 (by decide) lk_86 rfl dX6_comeIfItCan_48 ?_
        obtain ⟨r13, f12, ef12, h⟩ := mm_b2e h
        refine mm_callV (v := some (.int r13)) (f1 := f12) (d0 := 0) (rest := []) [.int (f11 2 i1 0)] C0 rfl hR 1 x2.toNatClampNeg (T_X0_holdsUp G (Nat.lt_trans (okI_lt z10) (by decide)) ef12) ws_X0_holdsUp lk_69 hd_X0_holdsUp ⟨by decide, by decide⟩ (mm_vld 1 (by decide) x2.toNatClampNeg (Nat.lt_trans (okI_lt z10) (by decide))) rfl rfl rfl hl.1 rfl (Nat.le_of_ble_eq_true rfl) dX6_comeIfItCan_51 (fun H locs hR => ?_)
        refine W.eq (g2 := F0 m 54 ls (.int r13 :: [])) rfl ?_
        refine lv_if_eq (tgt := 73) hx hb dX6_comeIfItCan_54 (by decide) (fun c14 => ?_) (fun c14 => ?_)
        · rw [if_pos c14] at h
          refine lv_aload_n hx hb dX6_comeIfItCan_73 rfl (lv_at hl 2 rfl) ?_
          refine lv_iconst (v := 3) hx hb dX6_comeIfItCan_74 (by decide) ?_
          refine lv_aload_n hx hb dX6_comeIfItCan_75 rfl (lv_at hl 1 rfl) ?_
          refine mm_get hx hb hts hown hR 0 0 15 vl_0 (v := .int (f12 0 0 15)) rfl rfl iX6 (by decide) lk_88 rfl dX6_comeIfItCan_76 ?_
          obtain ⟨f15, ef15, h⟩ := mm_bind h
          refine mm_callV (v := none) (f1 := f15) (d0 := 0) (rest := []) [.int 3, .int (f12 0 0 15)] C0 rfl hR 2 i1 (T_X1_end G hi1 ef15) ws_X1_end lk_106 hd_X1_end ⟨by decide, by decide⟩ (mm_vld 2 (by decide) i1 hi1) rfl rfl rfl hl.1 rfl (Nat.le_of_ble_eq_true rfl) dX6_comeIfItCan_79 (fun H locs hR => ?_)
          refine W.eq (g2 := F0 m 82 ls ([])) rfl ?_
          refine lv_aload_n hx hb dX6_comeIfItCan_82 rfl (lv_at hl 0 rfl) ?_
          obtain ⟨f16, ef16, h⟩ := mm_bind h
          refine mm_callV (v := none) (f1 := f16) (d0 := 1) (rest := []) [] C0 rfl hR 1 x2.toNatClampNeg (T_X0_crack G (Nat.lt_trans (okI_lt z10) (by decide)) ef16) ws_X0_crack lk_107 hd_X0_crack ⟨by decide, by decide⟩ (mm_vld 1 (by decide) x2.toNatClampNeg (Nat.lt_trans (okI_lt z10) (by decide))) rfl rfl rfl hl.1 rfl (Nat.le_of_ble_eq_true rfl) dX6_comeIfItCan_83 (fun H locs hR => ?_)
          refine W.eq (g2 := F0 m 86 ls ([])) rfl ?_
          obtain rfl := mm_p1 h
          exact mm_vret C0 hR dX6_comeIfItCan_86
        · rw [if_neg c14] at h
          refine lv_aload_n hx hb dX6_comeIfItCan_57 rfl (lv_at hl 2 rfl) ?_
          refine lv_iload_n hx hb dX6_comeIfItCan_58 rfl (lv_at hl 3 rfl) ?_
          obtain ⟨f17, ef17, h⟩ := mm_bind h
          refine mm_callV (v := none) (f1 := f17) (d0 := 0) (rest := []) [.int x2] C0 rfl hR 2 i1 (T_X1_enter G hi1 ef17) ws_X1_enter lk_108 hd_X1_enter ⟨by decide, by decide⟩ (mm_vld 2 (by decide) i1 hi1) rfl rfl rfl hl.1 rfl (Nat.le_of_ble_eq_true rfl) dX6_comeIfItCan_59 (fun H locs hR => ?_)
          refine W.eq (g2 := F0 m 62 ls ([])) rfl ?_
          refine lv_aload_n hx hb dX6_comeIfItCan_62 rfl (lv_at hl 0 rfl) ?_
          refine lv_aload_n hx hb dX6_comeIfItCan_63 rfl (lv_at hl 2 rfl) ?_
          refine mm_get hx hb hts hown hR 2 i1 0 (mm_vld 2 (by decide) i1 hi1) (v := .int (f17 2 i1 0)) rfl rfl iX1 (by decide) lk_86 rfl dX6_comeIfItCan_64 ?_
          obtain ⟨f18, ef18, h⟩ := mm_bind h
          refine mm_callV (v := none) (f1 := f18) (d0 := 2) (rest := []) [.int (f17 2 i1 0)] C0 rfl hR 1 x2.toNatClampNeg (T_X0_wearDown G (Nat.lt_trans (okI_lt z10) (by decide)) ef18) ws_X0_wearDown lk_109 hd_X0_wearDown ⟨by decide, by decide⟩ (mm_vld 1 (by decide) x2.toNatClampNeg (Nat.lt_trans (okI_lt z10) (by decide))) rfl rfl rfl hl.1 rfl (Nat.le_of_ble_eq_true rfl) dX6_comeIfItCan_67 (fun H locs hR => ?_)
          refine W.eq (g2 := F0 m 70 ls ([])) rfl ?_
          refine lv_goto (tgt := 86) hx hb dX6_comeIfItCan_70 (by decide) ?_
          obtain rfl := mm_p1 h
          exact mm_vret C0 hR dX6_comeIfItCan_86
      · rw [if_neg c9] at h
        obtain rfl := mm_p1 h
        exact mm_vret C0 hR dX6_comeIfItCan_26
def S_X6_copy_49 (f : F3)  : Option (Int32 × F3) := mm_b2 (S_X6_refuse f (-6)) fun r14 f13 => some (r14, f13)
set_option maxHeartbeats 4000000 in
set_option maxRecDepth 100000 in
theorem L_X6_copy_49 {G : mmG} {p : Program} {e : Env} {s : State} {m : MethodId} {args : Array Value} {below : List Frame} {meth : Method} {c : Code} {f' : F3} {rv : Int32} (C0 : mmC yX6_copy cX6_copy 4 (some .int) p s m args meth c) {f : F3} (h : S_X6_copy_49 f = some (rv, f')) (H : Heap) (locs : List Loc) (ls : Array Slot) (hR : mm_R G mm_NT f (GG f) s H locs) (hl : lv_has ls 4 [(0, .ref (ra G 0 0))]) : W p G.1 e (mm_rm 2) s m args below meth c H locs 0 0 (MQ below (mm_Q G mm_NT (some (.int rv)) f' (GG f')) args s 0 0 (mm_A G)) (F0 m 49 ls []) := by
  obtain ⟨hx, hb, hml, hr, hown, hts, hlocks⟩ := id C0
  rw [S_X6_copy_49] at h
  refine lv_aload_n hx hb dX6_copy_49 rfl (lv_at hl 0 rfl) ?_
  refine lv_bipush (v := (-6)) hx hb dX6_copy_50 (by decide) ?_
  obtain ⟨r14, f13, ef13, h⟩ := mm_b2e h
  refine mm_callV (v := some (.int r14)) (f1 := f13) (d0 := 1) (rest := []) [.int (-6)] C0 rfl hR 0 0 (T_X6_refuse G ef13) ws_X6_refuse lk_70 hd_X6_refuse ⟨by decide, by decide⟩ vl_0 rfl rfl rfl hl.1 rfl (Nat.le_of_ble_eq_true rfl) dX6_copy_52 (fun H locs hR => ?_)
  refine W.eq (g2 := F0 m 55 ls (.int r14 :: [])) rfl ?_
  obtain ⟨rfl, rfl⟩ := mm_pr h
  exact mm_iret C0 hR dX6_copy_55
def S_X6_copy (f : F3) (x1 : Int32) (x2 : Int32) (x3 : Int32) : Option (Int32 × F3) := if (f 0 0 11) = 0 then (mm_b2 (S_X6_refuse f (-2)) fun r12 f11 => some (r12, f11)) else (if 0 ≤ x3 then (if x1 < 0 then (S_X6_copy_49 f ) else (if x2 < 0 then (S_X6_copy_49 f ) else (if (48 - x3) < x1 then (S_X6_copy_49 f ) else (if x2 ≤ (48 - x3) then (if okC x1 x2 x3 then (mm_let (cpy11 f x1 x2 x3) fun f8 => some (x3, f8)) else none) else (S_X6_copy_49 f ))))) else (mm_b2 (S_X6_refuse f (-4)) fun r10 f9 => some (r10, f9)))
set_option maxHeartbeats 4000000 in
set_option maxRecDepth 100000 in
theorem T_X6_copy (G : mmG) {f f' : F3} {rv : Int32} {x1 : Int32} {x2 : Int32} {x3 : Int32} (h : S_X6_copy f x1 x2 x3 = some (rv, f')) : mmM G yX6_copy cX6_copy 4 (some .int) 2 [.ref (ra G 0 0), .int x1, .int x2, .int x3] f (some (.int rv)) f' := by
  refine mm_start (by decide +kernel) (Nat.le_of_ble_eq_true rfl) ?_
  intro p e s m args below meth c ls C0 hR hl
  obtain ⟨hx, hb, hml, hr, hown, hts, hlocks⟩ := id C0
  have hl : lv_has ls 4 [(0, .ref (ra G 0 0)), (1, .int x1), (2, .int x2), (3, .int x3)] := hl
  rw [S_X6_copy] at h
  refine lv_aload_n hx hb dX6_copy_0 rfl (lv_at hl 0 rfl) ?_
  refine mm_get hx hb hts hown hR 0 0 11 vl_0 (v := .int (f 0 0 11)) rfl rfl iX6 (by decide) lk_79 rfl dX6_copy_1 ?_
  refine lv_if_ne (tgt := 14) hx hb dX6_copy_4 (by decide) (fun c1 => ?_) (fun c1 => ?_)
  · rw [if_neg c1] at h
    refine lv_iload_n hx hb dX6_copy_14 rfl (lv_at hl 3 rfl) ?_
    refine lv_if_ge (tgt := 25) hx hb dX6_copy_15 (by decide) (fun c2 => ?_) (fun c2 => ?_)
    · rw [if_pos c2] at h
      refine lv_iload_n hx hb dX6_copy_25 rfl (lv_at hl 1 rfl) ?_
      refine lv_if_lt (tgt := 49) hx hb dX6_copy_26 (by decide) (fun c3 => ?_) (fun c3 => ?_)
      · rw [if_pos c3] at h
        exact L_X6_copy_49 C0 h _ _ _ hR (lv_sub hl [0] rfl)
      · rw [if_neg c3] at h
        refine lv_iload_n hx hb dX6_copy_29 rfl (lv_at hl 2 rfl) ?_
        refine lv_if_lt (tgt := 49) hx hb dX6_copy_30 (by decide) (fun c4 => ?_) (fun c4 => ?_)
        · rw [if_pos c4] at h
          exact L_X6_copy_49 C0 h _ _ _ hR (lv_sub hl [0] rfl)
        · rw [if_neg c4] at h
          refine lv_iload_n hx hb dX6_copy_33 rfl (lv_at hl 1 rfl) ?_
          refine lv_bipush (v := 48) hx hb dX6_copy_34 (by decide) ?_
          refine lv_iload_n hx hb dX6_copy_36 rfl (lv_at hl 3 rfl) ?_
          refine lv_isub hx hb dX6_copy_37 ?_
          refine lv_icmp_gt (tgt := 49) hx hb dX6_copy_38 (by decide) (fun c5 => ?_) (fun c5 => ?_)
          · rw [if_pos c5] at h
            exact L_X6_copy_49 C0 h _ _ _ hR (lv_sub hl [0] rfl)
          · rw [if_neg c5] at h
            refine lv_iload_n hx hb dX6_copy_41 rfl (lv_at hl 2 rfl) ?_
            refine lv_bipush (v := 48) hx hb dX6_copy_42 (by decide) ?_
            refine lv_iload_n hx hb dX6_copy_44 rfl (lv_at hl 3 rfl) ?_
            refine lv_isub hx hb dX6_copy_45 ?_
            refine lv_icmp_le (tgt := 56) hx hb dX6_copy_46 (by decide) (fun c6 => ?_) (fun c6 => ?_)
            · rw [if_pos c6] at h
              refine lv_aload_n hx hb dX6_copy_56 rfl (lv_at hl 0 rfl) ?_
              refine mm_get hx hb hts hown hR 0 0 7 vl_0 (v := .ref (ra G 11 0)) rfl rfl iX6 (by decide) lk_80 rfl dX6_copy_57 ?_
              refine lv_iload_n hx hb dX6_copy_60 rfl (lv_at hl 1 rfl) ?_
              refine lv_aload_n hx hb dX6_copy_61 rfl (lv_at hl 0 rfl) ?_
              refine mm_get hx hb hts hown hR 0 0 7 vl_0 (v := .ref (ra G 11 0)) rfl rfl iX6 (by decide) lk_80 rfl dX6_copy_62 ?_
              refine lv_iload_n hx hb dX6_copy_65 rfl (lv_at hl 2 rfl) ?_
              refine lv_iload_n hx hb dX6_copy_66 rfl (lv_at hl 3 rfl) ?_
              obtain ⟨z7, h⟩ := mm_if h
              obtain ⟨f8, ef8, h⟩ := mm_lt h
              refine mm_copy C0 hR hl.1 (by decide) (Nat.le_of_ble_eq_true rfl) z7 lk_110 dX6_copy_67 (fun H locs hR => ?_)
              rw [← ef8] at hR
              refine lv_iload_n hx hb dX6_copy_70 rfl (lv_at hl 3 rfl) ?_
              obtain ⟨rfl, rfl⟩ := mm_pr h
              exact mm_iret C0 hR dX6_copy_71
            · rw [if_neg c6] at h
              exact L_X6_copy_49 C0 h _ _ _ hR (lv_sub hl [0] rfl)
    · rw [if_neg c2] at h
      refine lv_aload_n hx hb dX6_copy_18 rfl (lv_at hl 0 rfl) ?_
      refine lv_bipush (v := (-4)) hx hb dX6_copy_19 (by decide) ?_
      obtain ⟨r10, f9, ef9, h⟩ := mm_b2e h
      refine mm_callV (v := some (.int r10)) (f1 := f9) (d0 := 1) (rest := []) [.int (-4)] C0 rfl hR 0 0 (T_X6_refuse G ef9) ws_X6_refuse lk_70 hd_X6_refuse ⟨by decide, by decide⟩ vl_0 rfl rfl rfl hl.1 rfl (Nat.le_of_ble_eq_true rfl) dX6_copy_21 (fun H locs hR => ?_)
      refine W.eq (g2 := F0 m 24 ls (.int r10 :: [])) rfl ?_
      obtain ⟨rfl, rfl⟩ := mm_pr h
      exact mm_iret C0 hR dX6_copy_24
  · rw [if_pos c1] at h
    refine lv_aload_n hx hb dX6_copy_7 rfl (lv_at hl 0 rfl) ?_
    refine lv_bipush (v := (-2)) hx hb dX6_copy_8 (by decide) ?_
    obtain ⟨r12, f11, ef11, h⟩ := mm_b2e h
    refine mm_callV (v := some (.int r12)) (f1 := f11) (d0 := 1) (rest := []) [.int (-2)] C0 rfl hR 0 0 (T_X6_refuse G ef11) ws_X6_refuse lk_70 hd_X6_refuse ⟨by decide, by decide⟩ vl_0 rfl rfl rfl hl.1 rfl (Nat.le_of_ble_eq_true rfl) dX6_copy_10 (fun H locs hR => ?_)
    refine W.eq (g2 := F0 m 13 ls (.int r12 :: [])) rfl ?_
    obtain ⟨rfl, rfl⟩ := mm_pr h
    exact mm_iret C0 hR dX6_copy_13
def S_X6_loadsIn_31 (k4 : F3 → Int32 → Int32 → Int32 → Option (Int32 × F3)) (f : F3) (s0 : Int32) (s1 : Int32) (x1 : Int32) (x3 : Int32) : Option (Int32 × F3) := k4 f x1 (s0 + s1) (x3 + 1)
set_option maxHeartbeats 4000000 in
set_option maxRecDepth 100000 in
theorem L_X6_loadsIn_31 {G : mmG} {p : Program} {e : Env} {s : State} {m : MethodId} {args : Array Value} {below : List Frame} {meth : Method} {c : Code} {f' : F3} {rv : Int32} (C0 : mmC yX6_loadsIn cX6_loadsIn 4 (some .int) p s m args meth c) {k4 : F3 → Int32 → Int32 → Int32 → Option (Int32 × F3)} (hk4 : ∀ (f : F3) (x1 : Int32) (x2 : Int32) (x3 : Int32), k4 f x1 x2 x3 = some (rv, f') → ∀ (H : Heap) (locs : List Loc) (ls : Array Slot), mm_R G mm_NT f (GG f) s H locs → lv_has ls 4 [(0, .ref (ra G 0 0)), (1, .int x1), (2, .int x2), (3, .int x3)] → W p G.1 e (mm_rm 0) s m args below meth c H locs 0 0 (MQ below (mm_Q G mm_NT (some (.int rv)) f' (GG f')) args s 0 0 (mm_A G)) (F0 m 4 ls [])) {f : F3} {s0 : Int32} {s1 : Int32} {x1 : Int32} {x3 : Int32} (h : S_X6_loadsIn_31 k4 f s0 s1 x1 x3 = some (rv, f')) (H : Heap) (locs : List Loc) (ls : Array Slot) (hR : mm_R G mm_NT f (GG f) s H locs) (hl : lv_has ls 4 [(0, .ref (ra G 0 0)), (1, .int x1), (3, .int x3)]) : W p G.1 e (mm_rm 0) s m args below meth c H locs 0 0 (MQ below (mm_Q G mm_NT (some (.int rv)) f' (GG f')) args s 0 0 (mm_A G)) (F0 m 31 ls [.int s1, .int s0]) := by
  obtain ⟨hx, hb, hml, hr, hown, hts, hlocks⟩ := id C0
  rw [S_X6_loadsIn_31] at h
  refine lv_iadd hx hb dX6_loadsIn_31 ?_
  refine lv_istore_n (lv' := [(2, .int (s0 + s1)), (0, .ref (ra G 0 0)), (1, .int x1), (3, .int x3)]) hx hb dX6_loadsIn_32 rfl hl (by decide) rfl (fun ls hl => ?_)
  refine lv_iinc (v := x3 + 1) (lv' := [(3, .int (x3 + 1)), (2, .int (s0 + s1)), (0, .ref (ra G 0 0)), (1, .int x1)]) hx hb dX6_loadsIn_33 hl (k := 3) rfl rfl (by decide) rfl (fun ls hl => ?_)
  refine lv_goto (tgt := 4) hx hb dX6_loadsIn_36 (by decide) ?_
  exact hk4 _ x1 (s0 + s1) (x3 + 1)  h _ _ _ hR (lv_sub hl [2, 3, 1, 0] rfl)
def S_X6_loadsIn_4 : Nat → F3 → Int32 → Int32 → Int32 → Option (Int32 × F3)
  | 0, _, _, _, _ => none
  | n + 1, f, x1, x2, x3 => if (f 0 0 13) ≤ x3 then (some (x2, f)) else (if okI x3 24 then (if (f 2 x3.toNatClampNeg 3) = x1 then (S_X6_loadsIn_31 (fun f9 x1_ x2_ x3_ => S_X6_loadsIn_4 n f9 x1_ x2_ x3_) f x2 1 x1 x3) else (S_X6_loadsIn_31 (fun f9 x1_ x2_ x3_ => S_X6_loadsIn_4 n f9 x1_ x2_ x3_) f x2 0 x1 x3)) else none)
set_option maxHeartbeats 4000000 in
set_option maxRecDepth 100000 in
theorem L_X6_loadsIn_4 {G : mmG} {p : Program} {e : Env} {s : State} {m : MethodId} {args : Array Value} {below : List Frame} {meth : Method} {c : Code} {f' : F3} {rv : Int32} (C0 : mmC yX6_loadsIn cX6_loadsIn 4 (some .int) p s m args meth c) : ∀ (n : Nat) {f : F3} {x1 : Int32} {x2 : Int32} {x3 : Int32} , S_X6_loadsIn_4 n f x1 x2 x3 = some (rv, f') → ∀ (H : Heap) (locs : List Loc) (ls : Array Slot), mm_R G mm_NT f (GG f) s H locs → lv_has ls 4 [(0, .ref (ra G 0 0)), (1, .int x1), (2, .int x2), (3, .int x3)] → W p G.1 e (mm_rm 0) s m args below meth c H locs 0 0 (MQ below (mm_Q G mm_NT (some (.int rv)) f' (GG f')) args s 0 0 (mm_A G)) (F0 m 4 ls []) := by
  obtain ⟨hx, hb, hml, hr, hown, hts, hlocks⟩ := id C0
  intro n
  induction n with
  | zero =>
    intro f x1 x2 x3  h H locs ls hR hl
    cases h
  | succ n ih =>
    intro f x1 x2 x3  h H locs ls hR hl
    rw [S_X6_loadsIn_4] at h
    refine lv_iload_n hx hb dX6_loadsIn_4 rfl (lv_at hl 3 rfl) ?_
    refine lv_aload_n hx hb dX6_loadsIn_5 rfl (lv_at hl 0 rfl) ?_
    refine mm_get hx hb hts hown hR 0 0 13 vl_0 (v := .int (f 0 0 13)) rfl rfl iX6 (by decide) lk_60 rfl dX6_loadsIn_6 ?_
    refine lv_icmp_ge (tgt := 39) hx hb dX6_loadsIn_9 (by decide) (fun c1 => ?_) (fun c1 => ?_)
    · rw [if_pos c1] at h
      refine lv_iload_n hx hb dX6_loadsIn_39 rfl (lv_at hl 2 rfl) ?_
      obtain ⟨rfl, rfl⟩ := mm_pr h
      exact mm_iret C0 hR dX6_loadsIn_40
    · rw [if_neg c1] at h
      refine lv_iload_n hx hb dX6_loadsIn_12 rfl (lv_at hl 2 rfl) ?_
      refine lv_aload_n hx hb dX6_loadsIn_13 rfl (lv_at hl 0 rfl) ?_
      refine mm_get hx hb hts hown hR 0 0 1 vl_0 (v := .ref (ra G 8 0)) rfl rfl iX6 (by decide) lk_61 rfl dX6_loadsIn_14 ?_
      refine lv_iload_n hx hb dX6_loadsIn_17 rfl (lv_at hl 3 rfl) ?_
      obtain ⟨z2, h⟩ := mm_if h
      refine mm_ald hx hb hR 8 0 3 vl_8 (L := 24) (C := "IceRoad$Load") (r2 := 2) (i2 := x3.toNatClampNeg) rfl rfl (okI_in z2) rfl (by decide) dX6_loadsIn_18 ?_
      refine mm_get hx hb hts hown hR 2 x3.toNatClampNeg 3 (mm_vld 2 (by decide) x3.toNatClampNeg (okI_lt z2)) (v := .int (f 2 x3.toNatClampNeg 3)) rfl rfl iX1 (by decide) lk_62 rfl dX6_loadsIn_19 ?_
      refine lv_iload_n hx hb dX6_loadsIn_22 rfl (lv_at hl 1 rfl) ?_
      refine lv_icmp_ne (tgt := 30) hx hb dX6_loadsIn_23 (by decide) (fun c3 => ?_) (fun c3 => ?_)
      · rw [if_neg c3] at h
        refine lv_iconst (v := 0) hx hb dX6_loadsIn_30 (by decide) ?_
        exact L_X6_loadsIn_31 C0 (fun _ _ _ _ h9 H9 locs9 ls9 hR9 hl9 => ih h9 _ _ _ hR9 hl9) h _ _ _ hR (lv_sub hl [0, 1, 3] rfl)
      · rw [if_pos c3] at h
        refine lv_iconst (v := 1) hx hb dX6_loadsIn_26 (by decide) ?_
        refine lv_goto (tgt := 31) hx hb dX6_loadsIn_27 (by decide) ?_
        exact L_X6_loadsIn_31 C0 (fun _ _ _ _ h9 H9 locs9 ls9 hR9 hl9 => ih h9 _ _ _ hR9 hl9) h _ _ _ hR (lv_sub hl [0, 1, 3] rfl)
def S_X6_loadsIn (f : F3) (x1 : Int32) : Option (Int32 × F3) := S_X6_loadsIn_4 FU f x1 0 0
set_option maxHeartbeats 4000000 in
set_option maxRecDepth 100000 in
theorem T_X6_loadsIn (G : mmG) {f f' : F3} {rv : Int32} {x1 : Int32} (h : S_X6_loadsIn f x1 = some (rv, f')) : mmM G yX6_loadsIn cX6_loadsIn 4 (some .int) 0 [.ref (ra G 0 0), .int x1] f (some (.int rv)) f' := by
  refine mm_start (by decide +kernel) (Nat.le_of_ble_eq_true rfl) ?_
  intro p e s m args below meth c ls C0 hR hl
  obtain ⟨hx, hb, hml, hr, hown, hts, hlocks⟩ := id C0
  have hl : lv_has ls 4 [(0, .ref (ra G 0 0)), (1, .int x1)] := hl
  rw [S_X6_loadsIn] at h
  refine lv_iconst (v := 0) hx hb dX6_loadsIn_0 (by decide) ?_
  refine lv_istore_n (lv' := [(2, .int 0), (0, .ref (ra G 0 0)), (1, .int x1)]) hx hb dX6_loadsIn_1 rfl hl (by decide) rfl (fun ls hl => ?_)
  refine lv_iconst (v := 0) hx hb dX6_loadsIn_2 (by decide) ?_
  refine lv_istore_n (lv' := [(3, .int 0), (2, .int 0), (0, .ref (ra G 0 0)), (1, .int x1)]) hx hb dX6_loadsIn_3 rfl hl (by decide) rfl (fun ls hl => ?_)
  exact L_X6_loadsIn_4 C0 _ h _ _ _ hR (lv_sub hl [2, 3, 1, 0] rfl)
def S_X6_tonsDelivered_39 (k4 : F3 → Int32 → Int32 → Option (Int32 × F3)) (f : F3) (s0 : Int32) (s1 : Int32) (x2 : Int32) : Option (Int32 × F3) := k4 f (s0 + s1) (x2 + 1)
set_option maxHeartbeats 4000000 in
set_option maxRecDepth 100000 in
theorem L_X6_tonsDelivered_39 {G : mmG} {p : Program} {e : Env} {s : State} {m : MethodId} {args : Array Value} {below : List Frame} {meth : Method} {c : Code} {f' : F3} {rv : Int32} (C0 : mmC yX6_tonsDelivered cX6_tonsDelivered 3 (some .int) p s m args meth c) {k4 : F3 → Int32 → Int32 → Option (Int32 × F3)} (hk4 : ∀ (f : F3) (x1 : Int32) (x2 : Int32), k4 f x1 x2 = some (rv, f') → ∀ (H : Heap) (locs : List Loc) (ls : Array Slot), mm_R G mm_NT f (GG f) s H locs → lv_has ls 3 [(0, .ref (ra G 0 0)), (1, .int x1), (2, .int x2)] → W p G.1 e (mm_rm 0) s m args below meth c H locs 0 0 (MQ below (mm_Q G mm_NT (some (.int rv)) f' (GG f')) args s 0 0 (mm_A G)) (F0 m 4 ls [])) {f : F3} {s0 : Int32} {s1 : Int32} {x2 : Int32} (h : S_X6_tonsDelivered_39 k4 f s0 s1 x2 = some (rv, f')) (H : Heap) (locs : List Loc) (ls : Array Slot) (hR : mm_R G mm_NT f (GG f) s H locs) (hl : lv_has ls 3 [(0, .ref (ra G 0 0)), (2, .int x2)]) : W p G.1 e (mm_rm 0) s m args below meth c H locs 0 0 (MQ below (mm_Q G mm_NT (some (.int rv)) f' (GG f')) args s 0 0 (mm_A G)) (F0 m 39 ls [.int s1, .int s0]) := by
  obtain ⟨hx, hb, hml, hr, hown, hts, hlocks⟩ := id C0
  rw [S_X6_tonsDelivered_39] at h
  refine lv_iadd hx hb dX6_tonsDelivered_39 ?_
  refine lv_istore_n (lv' := [(1, .int (s0 + s1)), (0, .ref (ra G 0 0)), (2, .int x2)]) hx hb dX6_tonsDelivered_40 rfl hl (by decide) rfl (fun ls hl => ?_)
  refine lv_iinc (v := x2 + 1) (lv' := [(2, .int (x2 + 1)), (1, .int (s0 + s1)), (0, .ref (ra G 0 0))]) hx hb dX6_tonsDelivered_41 hl (k := 2) rfl rfl (by decide) rfl (fun ls hl => ?_)
  refine lv_goto (tgt := 4) hx hb dX6_tonsDelivered_44 (by decide) ?_
  exact hk4 _ (s0 + s1) (x2 + 1)  h _ _ _ hR (lv_sub hl [2, 1, 0] rfl)
def S_X6_tonsDelivered_4 : Nat → F3 → Int32 → Int32 → Option (Int32 × F3)
  | 0, _, _, _ => none
  | n + 1, f, x1, x2 => if (f 0 0 13) ≤ x2 then (some (x1, f)) else (if okI x2 24 then (if (f 2 x2.toNatClampNeg 3) = 2 then (S_X6_tonsDelivered_39 (fun f9 x1_ x2_ => S_X6_tonsDelivered_4 n f9 x1_ x2_) f x1 (f 2 x2.toNatClampNeg 0) x2) else (S_X6_tonsDelivered_39 (fun f9 x1_ x2_ => S_X6_tonsDelivered_4 n f9 x1_ x2_) f x1 0 x2)) else none)
set_option maxHeartbeats 4000000 in
set_option maxRecDepth 100000 in
theorem L_X6_tonsDelivered_4 {G : mmG} {p : Program} {e : Env} {s : State} {m : MethodId} {args : Array Value} {below : List Frame} {meth : Method} {c : Code} {f' : F3} {rv : Int32} (C0 : mmC yX6_tonsDelivered cX6_tonsDelivered 3 (some .int) p s m args meth c) : ∀ (n : Nat) {f : F3} {x1 : Int32} {x2 : Int32} , S_X6_tonsDelivered_4 n f x1 x2 = some (rv, f') → ∀ (H : Heap) (locs : List Loc) (ls : Array Slot), mm_R G mm_NT f (GG f) s H locs → lv_has ls 3 [(0, .ref (ra G 0 0)), (1, .int x1), (2, .int x2)] → W p G.1 e (mm_rm 0) s m args below meth c H locs 0 0 (MQ below (mm_Q G mm_NT (some (.int rv)) f' (GG f')) args s 0 0 (mm_A G)) (F0 m 4 ls []) := by
  obtain ⟨hx, hb, hml, hr, hown, hts, hlocks⟩ := id C0
  intro n
  induction n with
  | zero =>
    intro f x1 x2  h H locs ls hR hl
    cases h
  | succ n ih =>
    intro f x1 x2  h H locs ls hR hl
    rw [S_X6_tonsDelivered_4] at h
    refine lv_iload_n hx hb dX6_tonsDelivered_4 rfl (lv_at hl 2 rfl) ?_
    refine lv_aload_n hx hb dX6_tonsDelivered_5 rfl (lv_at hl 0 rfl) ?_
    refine mm_get hx hb hts hown hR 0 0 13 vl_0 (v := .int (f 0 0 13)) rfl rfl iX6 (by decide) lk_60 rfl dX6_tonsDelivered_6 ?_
    refine lv_icmp_ge (tgt := 47) hx hb dX6_tonsDelivered_9 (by decide) (fun c1 => ?_) (fun c1 => ?_)
    · rw [if_pos c1] at h
      refine lv_iload_n hx hb dX6_tonsDelivered_47 rfl (lv_at hl 1 rfl) ?_
      obtain ⟨rfl, rfl⟩ := mm_pr h
      exact mm_iret C0 hR dX6_tonsDelivered_48
    · rw [if_neg c1] at h
      refine lv_iload_n hx hb dX6_tonsDelivered_12 rfl (lv_at hl 1 rfl) ?_
      refine lv_aload_n hx hb dX6_tonsDelivered_13 rfl (lv_at hl 0 rfl) ?_
      refine mm_get hx hb hts hown hR 0 0 1 vl_0 (v := .ref (ra G 8 0)) rfl rfl iX6 (by decide) lk_61 rfl dX6_tonsDelivered_14 ?_
      refine lv_iload_n hx hb dX6_tonsDelivered_17 rfl (lv_at hl 2 rfl) ?_
      obtain ⟨z2, h⟩ := mm_if h
      refine mm_ald hx hb hR 8 0 3 vl_8 (L := 24) (C := "IceRoad$Load") (r2 := 2) (i2 := x2.toNatClampNeg) rfl rfl (okI_in z2) rfl (by decide) dX6_tonsDelivered_18 ?_
      refine mm_get hx hb hts hown hR 2 x2.toNatClampNeg 3 (mm_vld 2 (by decide) x2.toNatClampNeg (okI_lt z2)) (v := .int (f 2 x2.toNatClampNeg 3)) rfl rfl iX1 (by decide) lk_62 rfl dX6_tonsDelivered_19 ?_
      refine lv_iconst (v := 2) hx hb dX6_tonsDelivered_22 (by decide) ?_
      refine lv_icmp_ne (tgt := 38) hx hb dX6_tonsDelivered_23 (by decide) (fun c3 => ?_) (fun c3 => ?_)
      · rw [if_neg c3] at h
        refine lv_iconst (v := 0) hx hb dX6_tonsDelivered_38 (by decide) ?_
        exact L_X6_tonsDelivered_39 C0 (fun _ _ _ h9 H9 locs9 ls9 hR9 hl9 => ih h9 _ _ _ hR9 hl9) h _ _ _ hR (lv_sub hl [0, 2] rfl)
      · rw [if_pos c3] at h
        refine lv_aload_n hx hb dX6_tonsDelivered_26 rfl (lv_at hl 0 rfl) ?_
        refine mm_get hx hb hts hown hR 0 0 1 vl_0 (v := .ref (ra G 8 0)) rfl rfl iX6 (by decide) lk_61 rfl dX6_tonsDelivered_27 ?_
        refine lv_iload_n hx hb dX6_tonsDelivered_30 rfl (lv_at hl 2 rfl) ?_
        refine mm_ald hx hb hR 8 0 3 vl_8 (L := 24) (C := "IceRoad$Load") (r2 := 2) (i2 := x2.toNatClampNeg) rfl rfl (okI_in z2) rfl (by decide) dX6_tonsDelivered_31 ?_
        refine mm_get hx hb hts hown hR 2 x2.toNatClampNeg 0 (mm_vld 2 (by decide) x2.toNatClampNeg (okI_lt z2)) (v := .int (f 2 x2.toNatClampNeg 0)) rfl rfl iX1 (by decide) lk_86 rfl dX6_tonsDelivered_32 ?_
        refine lv_goto (tgt := 39) hx hb dX6_tonsDelivered_35 (by decide) ?_
        exact L_X6_tonsDelivered_39 C0 (fun _ _ _ h9 H9 locs9 ls9 hR9 hl9 => ih h9 _ _ _ hR9 hl9) h _ _ _ hR (lv_sub hl [0, 2] rfl)
def S_X6_tonsDelivered (f : F3)  : Option (Int32 × F3) := S_X6_tonsDelivered_4 FU f 0 0
set_option maxHeartbeats 4000000 in
set_option maxRecDepth 100000 in
theorem T_X6_tonsDelivered (G : mmG) {f f' : F3} {rv : Int32} (h : S_X6_tonsDelivered f = some (rv, f')) : mmM G yX6_tonsDelivered cX6_tonsDelivered 3 (some .int) 0 [.ref (ra G 0 0)] f (some (.int rv)) f' := by
  refine mm_start (by decide +kernel) (Nat.le_of_ble_eq_true rfl) ?_
  intro p e s m args below meth c ls C0 hR hl
  obtain ⟨hx, hb, hml, hr, hown, hts, hlocks⟩ := id C0
  have hl : lv_has ls 3 [(0, .ref (ra G 0 0))] := hl
  rw [S_X6_tonsDelivered] at h
  refine lv_iconst (v := 0) hx hb dX6_tonsDelivered_0 (by decide) ?_
  refine lv_istore_n (lv' := [(1, .int 0), (0, .ref (ra G 0 0))]) hx hb dX6_tonsDelivered_1 rfl hl (by decide) rfl (fun ls hl => ?_)
  refine lv_iconst (v := 0) hx hb dX6_tonsDelivered_2 (by decide) ?_
  refine lv_istore_n (lv' := [(2, .int 0), (1, .int 0), (0, .ref (ra G 0 0))]) hx hb dX6_tonsDelivered_3 rfl hl (by decide) rfl (fun ls hl => ?_)
  exact L_X6_tonsDelivered_4 C0 _ h _ _ _ hR (lv_sub hl [2, 1, 0] rfl)
def S_X6_count (f : F3) (x1 : Int32) : Option (Int32 × F3) := if x1 = 0 then (some (f 0 0 15, f)) else if x1 = 1 then (some (f 0 0 12, f)) else if x1 = 2 then (some (f 0 0 13, f)) else if x1 = 3 then (some (f 0 0 14, f)) else if x1 = 4 then (some (f 5 0 1, f)) else if x1 = 5 then (mm_b2 (S_X6_loadsIn f 0) fun r9 f8 => some (r9, f8)) else if x1 = 6 then (mm_b2 (S_X6_loadsIn f 1) fun r12 f11 => some (r12, f11)) else if x1 = 7 then (mm_b2 (S_X6_loadsIn f 2) fun r15 f14 => some (r15, f14)) else if x1 = 8 then (mm_b2 (S_X6_loadsIn f 3) fun r18 f17 => some (r18, f17)) else if x1 = 9 then (mm_b2 (S_X6_loadsIn f 4) fun r21 f20 => some (r21, f20)) else if x1 = 10 then (mm_b2 (S_X6_tonsDelivered f) fun r24 f23 => some (r24, f23)) else (mm_b2 (S_X6_refuse f (-7)) fun r26 f25 => some (r26, f25))
set_option maxHeartbeats 4000000 in
set_option maxRecDepth 100000 in
theorem T_X6_count (G : mmG) {f f' : F3} {rv : Int32} {x1 : Int32} (h : S_X6_count f x1 = some (rv, f')) : mmM G yX6_count cX6_count 2 (some .int) 2 [.ref (ra G 0 0), .int x1] f (some (.int rv)) f' := by
  refine mm_start (by decide +kernel) (Nat.le_of_ble_eq_true rfl) ?_
  intro p e s m args below meth c ls C0 hR hl
  obtain ⟨hx, hb, hml, hr, hown, hts, hlocks⟩ := id C0
  have hl : lv_has ls 2 [(0, .ref (ra G 0 0)), (1, .int x1)] := hl
  rw [S_X6_count] at h
  refine lv_iload_n hx hb dX6_count_0 rfl (lv_at hl 1 rfl) ?_
  refine lv_topi (fun w1 ew1 => ?_)
  by_cases c2 : w1 = 0
  · rw [if_pos (ew1.symm.trans c2)] at h
    rw [c2]
    refine lv_tableIn (off := 59) (tgt := 60) hx hb dX6_count_1 (by decide) (by decide) (by decide +kernel) (by decide) ?_
    refine lv_aload_n hx hb dX6_count_60 rfl (lv_at hl 0 rfl) ?_
    refine mm_get hx hb hts hown hR 0 0 15 vl_0 (v := .int (f 0 0 15)) rfl rfl iX6 (by decide) lk_88 rfl dX6_count_61 ?_
    obtain ⟨rfl, rfl⟩ := mm_pr h
    exact mm_iret C0 hR dX6_count_64
  rw [if_neg (fun q => c2 (ew1.trans q))] at h
  by_cases c3 : w1 = 1
  · rw [if_pos (ew1.symm.trans c3)] at h
    rw [c3]
    refine lv_tableIn (off := 64) (tgt := 65) hx hb dX6_count_1 (by decide) (by decide) (by decide +kernel) (by decide) ?_
    refine lv_aload_n hx hb dX6_count_65 rfl (lv_at hl 0 rfl) ?_
    refine mm_get hx hb hts hown hR 0 0 12 vl_0 (v := .int (f 0 0 12)) rfl rfl iX6 (by decide) lk_64 rfl dX6_count_66 ?_
    obtain ⟨rfl, rfl⟩ := mm_pr h
    exact mm_iret C0 hR dX6_count_69
  rw [if_neg (fun q => c3 (ew1.trans q))] at h
  by_cases c4 : w1 = 2
  · rw [if_pos (ew1.symm.trans c4)] at h
    rw [c4]
    refine lv_tableIn (off := 69) (tgt := 70) hx hb dX6_count_1 (by decide) (by decide) (by decide +kernel) (by decide) ?_
    refine lv_aload_n hx hb dX6_count_70 rfl (lv_at hl 0 rfl) ?_
    refine mm_get hx hb hts hown hR 0 0 13 vl_0 (v := .int (f 0 0 13)) rfl rfl iX6 (by decide) lk_60 rfl dX6_count_71 ?_
    obtain ⟨rfl, rfl⟩ := mm_pr h
    exact mm_iret C0 hR dX6_count_74
  rw [if_neg (fun q => c4 (ew1.trans q))] at h
  by_cases c5 : w1 = 3
  · rw [if_pos (ew1.symm.trans c5)] at h
    rw [c5]
    refine lv_tableIn (off := 74) (tgt := 75) hx hb dX6_count_1 (by decide) (by decide) (by decide +kernel) (by decide) ?_
    refine lv_aload_n hx hb dX6_count_75 rfl (lv_at hl 0 rfl) ?_
    refine mm_get hx hb hts hown hR 0 0 14 vl_0 (v := .int (f 0 0 14)) rfl rfl iX6 (by decide) lk_90 rfl dX6_count_76 ?_
    obtain ⟨rfl, rfl⟩ := mm_pr h
    exact mm_iret C0 hR dX6_count_79
  rw [if_neg (fun q => c5 (ew1.trans q))] at h
  by_cases c6 : w1 = 4
  · rw [if_pos (ew1.symm.trans c6)] at h
    rw [c6]
    refine lv_tableIn (off := 79) (tgt := 80) hx hb dX6_count_1 (by decide) (by decide) (by decide +kernel) (by decide) ?_
    refine lv_aload_n hx hb dX6_count_80 rfl (lv_at hl 0 rfl) ?_
    refine mm_get hx hb hts hown hR 0 0 6 vl_0 (v := .ref (ra G 5 0)) rfl rfl iX6 (by decide) lk_111 rfl dX6_count_81 ?_
    refine mm_get hx hb hts hown hR 5 0 1 vl_5 (v := .int (f 5 0 1)) rfl rfl iX4 (by decide) lk_112 rfl dX6_count_84 ?_
    obtain ⟨rfl, rfl⟩ := mm_pr h
    exact mm_iret C0 hR dX6_count_87
  rw [if_neg (fun q => c6 (ew1.trans q))] at h
  by_cases c7 : w1 = 5
  · rw [if_pos (ew1.symm.trans c7)] at h
    rw [c7]
    refine lv_tableIn (off := 87) (tgt := 88) hx hb dX6_count_1 (by decide) (by decide) (by decide +kernel) (by decide) ?_
    refine lv_aload_n hx hb dX6_count_88 rfl (lv_at hl 0 rfl) ?_
    refine lv_iconst (v := 0) hx hb dX6_count_89 (by decide) ?_
    obtain ⟨r9, f8, ef8, h⟩ := mm_b2e h
    refine mm_callV (v := some (.int r9)) (f1 := f8) (d0 := 0) (rest := []) [.int 0] C0 rfl hR 0 0 (T_X6_loadsIn G ef8) ws_X6_loadsIn lk_113 hd_X6_loadsIn ⟨by decide, by decide⟩ vl_0 rfl rfl rfl hl.1 rfl (Nat.le_of_ble_eq_true rfl) dX6_count_90 (fun H locs hR => ?_)
    refine W.eq (g2 := F0 m 93 ls (.int r9 :: [])) rfl ?_
    obtain ⟨rfl, rfl⟩ := mm_pr h
    exact mm_iret C0 hR dX6_count_93
  rw [if_neg (fun q => c7 (ew1.trans q))] at h
  by_cases c10 : w1 = 6
  · rw [if_pos (ew1.symm.trans c10)] at h
    rw [c10]
    refine lv_tableIn (off := 93) (tgt := 94) hx hb dX6_count_1 (by decide) (by decide) (by decide +kernel) (by decide) ?_
    refine lv_aload_n hx hb dX6_count_94 rfl (lv_at hl 0 rfl) ?_
    refine lv_iconst (v := 1) hx hb dX6_count_95 (by decide) ?_
    obtain ⟨r12, f11, ef11, h⟩ := mm_b2e h
    refine mm_callV (v := some (.int r12)) (f1 := f11) (d0 := 0) (rest := []) [.int 1] C0 rfl hR 0 0 (T_X6_loadsIn G ef11) ws_X6_loadsIn lk_113 hd_X6_loadsIn ⟨by decide, by decide⟩ vl_0 rfl rfl rfl hl.1 rfl (Nat.le_of_ble_eq_true rfl) dX6_count_96 (fun H locs hR => ?_)
    refine W.eq (g2 := F0 m 99 ls (.int r12 :: [])) rfl ?_
    obtain ⟨rfl, rfl⟩ := mm_pr h
    exact mm_iret C0 hR dX6_count_99
  rw [if_neg (fun q => c10 (ew1.trans q))] at h
  by_cases c13 : w1 = 7
  · rw [if_pos (ew1.symm.trans c13)] at h
    rw [c13]
    refine lv_tableIn (off := 99) (tgt := 100) hx hb dX6_count_1 (by decide) (by decide) (by decide +kernel) (by decide) ?_
    refine lv_aload_n hx hb dX6_count_100 rfl (lv_at hl 0 rfl) ?_
    refine lv_iconst (v := 2) hx hb dX6_count_101 (by decide) ?_
    obtain ⟨r15, f14, ef14, h⟩ := mm_b2e h
    refine mm_callV (v := some (.int r15)) (f1 := f14) (d0 := 0) (rest := []) [.int 2] C0 rfl hR 0 0 (T_X6_loadsIn G ef14) ws_X6_loadsIn lk_113 hd_X6_loadsIn ⟨by decide, by decide⟩ vl_0 rfl rfl rfl hl.1 rfl (Nat.le_of_ble_eq_true rfl) dX6_count_102 (fun H locs hR => ?_)
    refine W.eq (g2 := F0 m 105 ls (.int r15 :: [])) rfl ?_
    obtain ⟨rfl, rfl⟩ := mm_pr h
    exact mm_iret C0 hR dX6_count_105
  rw [if_neg (fun q => c13 (ew1.trans q))] at h
  by_cases c16 : w1 = 8
  · rw [if_pos (ew1.symm.trans c16)] at h
    rw [c16]
    refine lv_tableIn (off := 105) (tgt := 106) hx hb dX6_count_1 (by decide) (by decide) (by decide +kernel) (by decide) ?_
    refine lv_aload_n hx hb dX6_count_106 rfl (lv_at hl 0 rfl) ?_
    refine lv_iconst (v := 3) hx hb dX6_count_107 (by decide) ?_
    obtain ⟨r18, f17, ef17, h⟩ := mm_b2e h
    refine mm_callV (v := some (.int r18)) (f1 := f17) (d0 := 0) (rest := []) [.int 3] C0 rfl hR 0 0 (T_X6_loadsIn G ef17) ws_X6_loadsIn lk_113 hd_X6_loadsIn ⟨by decide, by decide⟩ vl_0 rfl rfl rfl hl.1 rfl (Nat.le_of_ble_eq_true rfl) dX6_count_108 (fun H locs hR => ?_)
    refine W.eq (g2 := F0 m 111 ls (.int r18 :: [])) rfl ?_
    obtain ⟨rfl, rfl⟩ := mm_pr h
    exact mm_iret C0 hR dX6_count_111
  rw [if_neg (fun q => c16 (ew1.trans q))] at h
  by_cases c19 : w1 = 9
  · rw [if_pos (ew1.symm.trans c19)] at h
    rw [c19]
    refine lv_tableIn (off := 111) (tgt := 112) hx hb dX6_count_1 (by decide) (by decide) (by decide +kernel) (by decide) ?_
    refine lv_aload_n hx hb dX6_count_112 rfl (lv_at hl 0 rfl) ?_
    refine lv_iconst (v := 4) hx hb dX6_count_113 (by decide) ?_
    obtain ⟨r21, f20, ef20, h⟩ := mm_b2e h
    refine mm_callV (v := some (.int r21)) (f1 := f20) (d0 := 0) (rest := []) [.int 4] C0 rfl hR 0 0 (T_X6_loadsIn G ef20) ws_X6_loadsIn lk_113 hd_X6_loadsIn ⟨by decide, by decide⟩ vl_0 rfl rfl rfl hl.1 rfl (Nat.le_of_ble_eq_true rfl) dX6_count_114 (fun H locs hR => ?_)
    refine W.eq (g2 := F0 m 117 ls (.int r21 :: [])) rfl ?_
    obtain ⟨rfl, rfl⟩ := mm_pr h
    exact mm_iret C0 hR dX6_count_117
  rw [if_neg (fun q => c19 (ew1.trans q))] at h
  by_cases c22 : w1 = 10
  · rw [if_pos (ew1.symm.trans c22)] at h
    rw [c22]
    refine lv_tableIn (off := 117) (tgt := 118) hx hb dX6_count_1 (by decide) (by decide) (by decide +kernel) (by decide) ?_
    refine lv_aload_n hx hb dX6_count_118 rfl (lv_at hl 0 rfl) ?_
    obtain ⟨r24, f23, ef23, h⟩ := mm_b2e h
    refine mm_callV (v := some (.int r24)) (f1 := f23) (d0 := 0) (rest := []) [] C0 rfl hR 0 0 (T_X6_tonsDelivered G ef23) ws_X6_tonsDelivered lk_114 hd_X6_tonsDelivered ⟨by decide, by decide⟩ vl_0 rfl rfl rfl hl.1 rfl (Nat.le_of_ble_eq_true rfl) dX6_count_119 (fun H locs hR => ?_)
    refine W.eq (g2 := F0 m 122 ls (.int r24 :: [])) rfl ?_
    obtain ⟨rfl, rfl⟩ := mm_pr h
    exact mm_iret C0 hR dX6_count_122
  rw [if_neg (fun q => c22 (ew1.trans q))] at h
  have tc2 := lv_neT (a := 0) c2 (by decide)
  have tc3 := lv_neT (a := 1) c3 (by decide)
  have tc4 := lv_neT (a := 2) c4 (by decide)
  have tc5 := lv_neT (a := 3) c5 (by decide)
  have tc6 := lv_neT (a := 4) c6 (by decide)
  have tc7 := lv_neT (a := 5) c7 (by decide)
  have tc10 := lv_neT (a := 6) c10 (by decide)
  have tc13 := lv_neT (a := 7) c13 (by decide)
  have tc16 := lv_neT (a := 8) c16 (by decide)
  have tc19 := lv_neT (a := 9) c19 (by decide)
  have tc22 := lv_neT (a := 10) c22 (by decide)
  refine lv_tableOut (tgt := 123) hx hb dX6_count_1 (by omega) (by decide) ?_
  refine lv_aload_n hx hb dX6_count_123 rfl (lv_at hl 0 rfl) ?_
  refine lv_bipush (v := (-7)) hx hb dX6_count_124 (by decide) ?_
  obtain ⟨r26, f25, ef25, h⟩ := mm_b2e h
  refine mm_callV (v := some (.int r26)) (f1 := f25) (d0 := 1) (rest := []) [.int (-7)] C0 rfl hR 0 0 (T_X6_refuse G ef25) ws_X6_refuse lk_70 hd_X6_refuse ⟨by decide, by decide⟩ vl_0 rfl rfl rfl hl.1 rfl (Nat.le_of_ble_eq_true rfl) dX6_count_126 (fun H locs hR => ?_)
  refine W.eq (g2 := F0 m 129 ls (.int r26 :: [])) rfl ?_
  obtain ⟨rfl, rfl⟩ := mm_pr h
  exact mm_iret C0 hR dX6_count_129
def S_X6_feed_48 : Nat → F3 → Int32 → Int32 → Option (Int32 × F3)
  | 0, _, _, _ => none
  | n + 1, f, x1, x3 => if x3 < 0 then (some (f 5 0 1, f)) else (Option.bind (S_X4_put f ((x1 >>> ((8 * x3) &&& 31)) &&& 255)) fun f11 => S_X6_feed_48 n f11 x1 (x3 + (-1)))
set_option maxHeartbeats 4000000 in
set_option maxRecDepth 100000 in
theorem L_X6_feed_48 {G : mmG} {p : Program} {e : Env} {s : State} {m : MethodId} {args : Array Value} {below : List Frame} {meth : Method} {c : Code} {f' : F3} {rv : Int32} (C0 : mmC yX6_feed cX6_feed 4 (some .int) p s m args meth c) : ∀ (n : Nat) {f : F3} {x1 : Int32} {x3 : Int32} , S_X6_feed_48 n f x1 x3 = some (rv, f') → ∀ (H : Heap) (locs : List Loc) (ls : Array Slot), mm_R G mm_NT f (GG f) s H locs → lv_has ls 4 [(0, .ref (ra G 0 0)), (1, .int x1), (3, .int x3)] → W p G.1 e (mm_rm 2) s m args below meth c H locs 0 0 (MQ below (mm_Q G mm_NT (some (.int rv)) f' (GG f')) args s 0 0 (mm_A G)) (F0 m 48 ls []) := by
  obtain ⟨hx, hb, hml, hr, hown, hts, hlocks⟩ := id C0
  intro n
  induction n with
  | zero =>
    intro f x1 x3  h H locs ls hR hl
    cases h
  | succ n ih =>
    intro f x1 x3  h H locs ls hR hl
    rw [S_X6_feed_48] at h
    refine lv_iload_n hx hb dX6_feed_48 rfl (lv_at hl 2 rfl) ?_
    refine lv_if_lt (tgt := 75) hx hb dX6_feed_49 (by decide) (fun c10 => ?_) (fun c10 => ?_)
    · rw [if_pos c10] at h
      refine lv_aload_n hx hb dX6_feed_75 rfl (lv_at hl 0 rfl) ?_
      refine mm_get hx hb hts hown hR 0 0 6 vl_0 (v := .ref (ra G 5 0)) rfl rfl iX6 (by decide) lk_111 rfl dX6_feed_76 ?_
      refine mm_get hx hb hts hown hR 5 0 1 vl_5 (v := .int (f 5 0 1)) rfl rfl iX4 (by decide) lk_112 rfl dX6_feed_79 ?_
      obtain ⟨rfl, rfl⟩ := mm_pr h
      exact mm_iret C0 hR dX6_feed_82
    · rw [if_neg c10] at h
      refine lv_aload_n hx hb dX6_feed_52 rfl (lv_at hl 0 rfl) ?_
      refine mm_get hx hb hts hown hR 0 0 6 vl_0 (v := .ref (ra G 5 0)) rfl rfl iX6 (by decide) lk_111 rfl dX6_feed_53 ?_
      refine lv_iload_n hx hb dX6_feed_56 rfl (lv_at hl 1 rfl) ?_
      refine lv_bipush (v := 8) hx hb dX6_feed_57 (by decide) ?_
      refine lv_iload_n hx hb dX6_feed_59 rfl (lv_at hl 2 rfl) ?_
      refine lv_imul hx hb dX6_feed_60 ?_
      refine lv_ishr hx hb dX6_feed_61 ?_
      refine lv_sipush (v := 255) hx hb dX6_feed_62 (by decide) ?_
      refine lv_iand hx hb dX6_feed_65 ?_
      obtain ⟨f11, ef11, h⟩ := mm_bind h
      refine mm_callV (v := none) (f1 := f11) (d0 := 0) (rest := []) [.int ((x1 >>> ((8 * x3) &&& 31)) &&& 255)] C0 rfl hR 5 0 (T_X4_put G ef11) ws_X4_put lk_115 hd_X4_put ⟨by decide, by decide⟩ vl_5 rfl rfl rfl hl.1 rfl (Nat.le_of_ble_eq_true rfl) dX6_feed_66 (fun H locs hR => ?_)
      refine W.eq (g2 := F0 m 69 ls ([])) rfl ?_
      refine lv_iinc (v := x3 + (-1)) (lv' := [(3, .int (x3 + (-1))), (0, .ref (ra G 0 0)), (1, .int x1)]) hx hb dX6_feed_69 hl (k := 2) rfl rfl (by decide) rfl (fun ls hl => ?_)
      refine lv_goto (tgt := 48) hx hb dX6_feed_72 (by decide) ?_
      exact ih  h _ _ _ hR (lv_sub hl [1, 2, 0] rfl)
def S_X6_feed (f : F3) (x1 : Int32) (x2 : Int32) : Option (Int32 × F3) := if 0 ≤ x2 then (if x2 ≤ 4 then (if ((f 5 0 1) + x2) ≤ 80 then (S_X6_feed_48 FU f x1 (x2 - 1)) else (mm_b2 (S_X6_refuse f (-8)) fun r5 f4 => some (r5, f4))) else (mm_b2 (S_X6_refuse f (-7)) fun r7 f6 => some (r7, f6))) else (mm_b2 (S_X6_refuse f (-4)) fun r9 f8 => some (r9, f8))
set_option maxHeartbeats 4000000 in
set_option maxRecDepth 100000 in
theorem T_X6_feed (G : mmG) {f f' : F3} {rv : Int32} {x1 : Int32} {x2 : Int32} (h : S_X6_feed f x1 x2 = some (rv, f')) : mmM G yX6_feed cX6_feed 4 (some .int) 2 [.ref (ra G 0 0), .int x1, .int x2] f (some (.int rv)) f' := by
  refine mm_start (by decide +kernel) (Nat.le_of_ble_eq_true rfl) ?_
  intro p e s m args below meth c ls C0 hR hl
  obtain ⟨hx, hb, hml, hr, hown, hts, hlocks⟩ := id C0
  have hl : lv_has ls 4 [(0, .ref (ra G 0 0)), (1, .int x1), (2, .int x2)] := hl
  rw [S_X6_feed] at h
  refine lv_iload_n hx hb dX6_feed_0 rfl (lv_at hl 2 rfl) ?_
  refine lv_if_ge (tgt := 11) hx hb dX6_feed_1 (by decide) (fun c1 => ?_) (fun c1 => ?_)
  · rw [if_pos c1] at h
    refine lv_iload_n hx hb dX6_feed_11 rfl (lv_at hl 2 rfl) ?_
    refine lv_iconst (v := 4) hx hb dX6_feed_12 (by decide) ?_
    refine lv_icmp_le (tgt := 23) hx hb dX6_feed_13 (by decide) (fun c2 => ?_) (fun c2 => ?_)
    · rw [if_pos c2] at h
      refine lv_aload_n hx hb dX6_feed_23 rfl (lv_at hl 0 rfl) ?_
      refine mm_get hx hb hts hown hR 0 0 6 vl_0 (v := .ref (ra G 5 0)) rfl rfl iX6 (by decide) lk_111 rfl dX6_feed_24 ?_
      refine mm_get hx hb hts hown hR 5 0 1 vl_5 (v := .int (f 5 0 1)) rfl rfl iX4 (by decide) lk_112 rfl dX6_feed_27 ?_
      refine lv_iload_n hx hb dX6_feed_30 rfl (lv_at hl 2 rfl) ?_
      refine lv_iadd hx hb dX6_feed_31 ?_
      refine lv_bipush (v := 80) hx hb dX6_feed_32 (by decide) ?_
      refine lv_icmp_le (tgt := 44) hx hb dX6_feed_34 (by decide) (fun c3 => ?_) (fun c3 => ?_)
      · rw [if_pos c3] at h
        refine lv_iload_n hx hb dX6_feed_44 rfl (lv_at hl 2 rfl) ?_
        refine lv_iconst (v := 1) hx hb dX6_feed_45 (by decide) ?_
        refine lv_isub hx hb dX6_feed_46 ?_
        refine lv_istore_n (lv' := [(3, .int (x2 - 1)), (0, .ref (ra G 0 0)), (1, .int x1), (2, .int x2)]) hx hb dX6_feed_47 rfl hl (by decide) rfl (fun ls hl => ?_)
        exact L_X6_feed_48 C0 _ h _ _ _ hR (lv_sub hl [1, 2, 0] rfl)
      · rw [if_neg c3] at h
        refine lv_aload_n hx hb dX6_feed_37 rfl (lv_at hl 0 rfl) ?_
        refine lv_bipush (v := (-8)) hx hb dX6_feed_38 (by decide) ?_
        obtain ⟨r5, f4, ef4, h⟩ := mm_b2e h
        refine mm_callV (v := some (.int r5)) (f1 := f4) (d0 := 1) (rest := []) [.int (-8)] C0 rfl hR 0 0 (T_X6_refuse G ef4) ws_X6_refuse lk_70 hd_X6_refuse ⟨by decide, by decide⟩ vl_0 rfl rfl rfl hl.1 rfl (Nat.le_of_ble_eq_true rfl) dX6_feed_40 (fun H locs hR => ?_)
        refine W.eq (g2 := F0 m 43 ls (.int r5 :: [])) rfl ?_
        obtain ⟨rfl, rfl⟩ := mm_pr h
        exact mm_iret C0 hR dX6_feed_43
    · rw [if_neg c2] at h
      refine lv_aload_n hx hb dX6_feed_16 rfl (lv_at hl 0 rfl) ?_
      refine lv_bipush (v := (-7)) hx hb dX6_feed_17 (by decide) ?_
      obtain ⟨r7, f6, ef6, h⟩ := mm_b2e h
      refine mm_callV (v := some (.int r7)) (f1 := f6) (d0 := 1) (rest := []) [.int (-7)] C0 rfl hR 0 0 (T_X6_refuse G ef6) ws_X6_refuse lk_70 hd_X6_refuse ⟨by decide, by decide⟩ vl_0 rfl rfl rfl hl.1 rfl (Nat.le_of_ble_eq_true rfl) dX6_feed_19 (fun H locs hR => ?_)
      refine W.eq (g2 := F0 m 22 ls (.int r7 :: [])) rfl ?_
      obtain ⟨rfl, rfl⟩ := mm_pr h
      exact mm_iret C0 hR dX6_feed_22
  · rw [if_neg c1] at h
    refine lv_aload_n hx hb dX6_feed_4 rfl (lv_at hl 0 rfl) ?_
    refine lv_bipush (v := (-4)) hx hb dX6_feed_5 (by decide) ?_
    obtain ⟨r9, f8, ef8, h⟩ := mm_b2e h
    refine mm_callV (v := some (.int r9)) (f1 := f8) (d0 := 1) (rest := []) [.int (-4)] C0 rfl hR 0 0 (T_X6_refuse G ef8) ws_X6_refuse lk_70 hd_X6_refuse ⟨by decide, by decide⟩ vl_0 rfl rfl rfl hl.1 rfl (Nat.le_of_ble_eq_true rfl) dX6_feed_7 (fun H locs hR => ?_)
    refine W.eq (g2 := F0 m 10 ls (.int r9 :: [])) rfl ?_
    obtain ⟨rfl, rfl⟩ := mm_pr h
    exact mm_iret C0 hR dX6_feed_10
def S_X6_flood_45 (f : F3) (i2 : Nat) : Option (Int32 × F3) := Option.bind (S_X0_become f i2 2) fun f11 => some (1, f11)
set_option maxHeartbeats 4000000 in
set_option maxRecDepth 100000 in
theorem L_X6_flood_45 {G : mmG} {p : Program} {e : Env} {s : State} {m : MethodId} {args : Array Value} {below : List Frame} {meth : Method} {c : Code} {f' : F3} {rv : Int32} (C0 : mmC yX6_flood cX6_flood 3 (some .int) p s m args meth c) {f : F3} {i2 : Nat} (hi2 : i2 < mm_cnt 1) (h : S_X6_flood_45 f i2 = some (rv, f')) (H : Heap) (locs : List Loc) (ls : Array Slot) (hR : mm_R G mm_NT f (GG f) s H locs) (hl : lv_has ls 3 [(2, .ref (ra G 1 i2))]) : W p G.1 e (mm_rm 2) s m args below meth c H locs 0 0 (MQ below (mm_Q G mm_NT (some (.int rv)) f' (GG f')) args s 0 0 (mm_A G)) (F0 m 45 ls []) := by
  obtain ⟨hx, hb, hml, hr, hown, hts, hlocks⟩ := id C0
  rw [S_X6_flood_45] at h
  refine lv_aload_n hx hb dX6_flood_45 rfl (lv_at hl 0 rfl) ?_
  refine lv_iconst (v := 2) hx hb dX6_flood_46 (by decide) ?_
  obtain ⟨f11, ef11, h⟩ := mm_bind h
  refine mm_callV (v := none) (f1 := f11) (d0 := 0) (rest := []) [.int 2] C0 rfl hR 1 i2 (T_X0_become G hi2 ef11) ws_X0_become lk_74 hd_X0_become ⟨by decide, by decide⟩ (mm_vld 1 (by decide) i2 hi2) rfl rfl rfl hl.1 rfl (Nat.le_of_ble_eq_true rfl) dX6_flood_47 (fun H locs hR => ?_)
  refine W.eq (g2 := F0 m 50 ls ([])) rfl ?_
  refine lv_iconst (v := 1) hx hb dX6_flood_50 (by decide) ?_
  obtain ⟨rfl, rfl⟩ := mm_pr h
  exact mm_iret C0 hR dX6_flood_51
def S_X6_flood (f : F3) (x1 : Int32) : Option (Int32 × F3) := mm_b2 (S_X6_isCell f x1) fun r2 f1 => if r2 = 0 then (mm_b2 (S_X6_refuse f1 (-3)) fun r10 f9 => some (r10, f9)) else (if okI x1 10 then (if (f1 1 x1.toNatClampNeg 0) = 1 then (S_X6_flood_45 f1 x1.toNatClampNeg) else (if (f1 1 x1.toNatClampNeg 0) = 2 then (S_X6_flood_45 f1 x1.toNatClampNeg) else (mm_b2 (S_X6_refuse f1 (-5)) fun r8 f7 => some (r8, f7)))) else none)
set_option maxHeartbeats 4000000 in
set_option maxRecDepth 100000 in
theorem T_X6_flood (G : mmG) {f f' : F3} {rv : Int32} {x1 : Int32} (h : S_X6_flood f x1 = some (rv, f')) : mmM G yX6_flood cX6_flood 3 (some .int) 2 [.ref (ra G 0 0), .int x1] f (some (.int rv)) f' := by
  refine mm_start (by decide +kernel) (Nat.le_of_ble_eq_true rfl) ?_
  intro p e s m args below meth c ls C0 hR hl
  obtain ⟨hx, hb, hml, hr, hown, hts, hlocks⟩ := id C0
  have hl : lv_has ls 3 [(0, .ref (ra G 0 0)), (1, .int x1)] := hl
  rw [S_X6_flood] at h
  refine lv_aload_n hx hb dX6_flood_0 rfl (lv_at hl 0 rfl) ?_
  refine lv_iload_n hx hb dX6_flood_1 rfl (lv_at hl 1 rfl) ?_
  obtain ⟨r2, f1, ef1, h⟩ := mm_b2e h
  refine mm_callV (v := some (.int r2)) (f1 := f1) (d0 := 0) (rest := []) [.int x1] C0 rfl hR 0 0 (T_X6_isCell G ef1) ws_X6_isCell lk_67 hd_X6_isCell ⟨by decide, by decide⟩ vl_0 rfl rfl rfl hl.1 rfl (Nat.le_of_ble_eq_true rfl) dX6_flood_2 (fun H locs hR => ?_)
  refine W.eq (g2 := F0 m 5 ls (.int r2 :: [])) rfl ?_
  refine lv_if_ne (tgt := 15) hx hb dX6_flood_5 (by decide) (fun c3 => ?_) (fun c3 => ?_)
  · rw [if_neg c3] at h
    refine lv_aload_n hx hb dX6_flood_15 rfl (lv_at hl 0 rfl) ?_
    refine mm_get hx hb hts hown hR 0 0 0 vl_0 (v := .ref (ra G 7 0)) rfl rfl iX6 (by decide) lk_68 rfl dX6_flood_16 ?_
    refine lv_iload_n hx hb dX6_flood_19 rfl (lv_at hl 1 rfl) ?_
    obtain ⟨z4, h⟩ := mm_if h
    refine mm_ald hx hb hR 7 0 2 vl_7 (L := 10) (C := "IceRoad$Cell") (r2 := 1) (i2 := x1.toNatClampNeg) rfl rfl (okI_in z4) rfl (by decide) dX6_flood_20 ?_
    refine lv_astore_n (lv' := [(2, .ref (ra G 1 x1.toNatClampNeg)), (0, .ref (ra G 0 0)), (1, .int x1)]) hx hb dX6_flood_21 rfl hl (by decide) rfl (fun ls hl => ?_)
    refine lv_aload_n hx hb dX6_flood_22 rfl (lv_at hl 0 rfl) ?_
    refine mm_get hx hb hts hown hR 1 x1.toNatClampNeg 0 (mm_vld 1 (by decide) x1.toNatClampNeg (Nat.lt_trans (okI_lt z4) (by decide))) (v := .int (f1 1 x1.toNatClampNeg 0)) rfl rfl iX0 (by decide) lk_72 rfl dX6_flood_23 ?_
    refine lv_iconst (v := 1) hx hb dX6_flood_26 (by decide) ?_
    refine lv_icmp_eq (tgt := 45) hx hb dX6_flood_27 (by decide) (fun c5 => ?_) (fun c5 => ?_)
    · rw [if_pos c5] at h
      exact L_X6_flood_45 C0 (Nat.lt_trans (okI_lt z4) (by decide)) h _ _ _ hR (lv_sub hl [0] rfl)
    · rw [if_neg c5] at h
      refine lv_aload_n hx hb dX6_flood_30 rfl (lv_at hl 0 rfl) ?_
      refine mm_get hx hb hts hown hR 1 x1.toNatClampNeg 0 (mm_vld 1 (by decide) x1.toNatClampNeg (Nat.lt_trans (okI_lt z4) (by decide))) (v := .int (f1 1 x1.toNatClampNeg 0)) rfl rfl iX0 (by decide) lk_72 rfl dX6_flood_31 ?_
      refine lv_iconst (v := 2) hx hb dX6_flood_34 (by decide) ?_
      refine lv_icmp_eq (tgt := 45) hx hb dX6_flood_35 (by decide) (fun c6 => ?_) (fun c6 => ?_)
      · rw [if_pos c6] at h
        exact L_X6_flood_45 C0 (Nat.lt_trans (okI_lt z4) (by decide)) h _ _ _ hR (lv_sub hl [0] rfl)
      · rw [if_neg c6] at h
        refine lv_aload_n hx hb dX6_flood_38 rfl (lv_at hl 1 rfl) ?_
        refine lv_bipush (v := (-5)) hx hb dX6_flood_39 (by decide) ?_
        obtain ⟨r8, f7, ef7, h⟩ := mm_b2e h
        refine mm_callV (v := some (.int r8)) (f1 := f7) (d0 := 1) (rest := []) [.int (-5)] C0 rfl hR 0 0 (T_X6_refuse G ef7) ws_X6_refuse lk_70 hd_X6_refuse ⟨by decide, by decide⟩ vl_0 rfl rfl rfl hl.1 rfl (Nat.le_of_ble_eq_true rfl) dX6_flood_41 (fun H locs hR => ?_)
        refine W.eq (g2 := F0 m 44 ls (.int r8 :: [])) rfl ?_
        obtain ⟨rfl, rfl⟩ := mm_pr h
        exact mm_iret C0 hR dX6_flood_44
  · rw [if_pos c3] at h
    refine lv_aload_n hx hb dX6_flood_8 rfl (lv_at hl 0 rfl) ?_
    refine lv_bipush (v := (-3)) hx hb dX6_flood_9 (by decide) ?_
    obtain ⟨r10, f9, ef9, h⟩ := mm_b2e h
    refine mm_callV (v := some (.int r10)) (f1 := f9) (d0 := 1) (rest := []) [.int (-3)] C0 rfl hR 0 0 (T_X6_refuse G ef9) ws_X6_refuse lk_70 hd_X6_refuse ⟨by decide, by decide⟩ vl_0 rfl rfl rfl hl.1 rfl (Nat.le_of_ble_eq_true rfl) dX6_flood_11 (fun H locs hR => ?_)
    refine W.eq (g2 := F0 m 14 ls (.int r10 :: [])) rfl ?_
    obtain ⟨rfl, rfl⟩ := mm_pr h
    exact mm_iret C0 hR dX6_flood_14
def S_X6_heat (f : F3) (x1 : Int32) : Option (Int32 × F3) := if 0 ≤ x1 then (mm_b2 (S_X5_heatOf f x1) fun r3 f2 => some (r3, f2)) else (mm_b2 (S_X6_refuse f (-3)) fun r5 f4 => some (0, f4))
set_option maxHeartbeats 4000000 in
set_option maxRecDepth 100000 in
theorem T_X6_heat (G : mmG) {f f' : F3} {rv : Int32} {x1 : Int32} (h : S_X6_heat f x1 = some (rv, f')) : mmM G yX6_heat cX6_heat 2 (some .int) 2 [.ref (ra G 0 0), .int x1] f (some (.int rv)) f' := by
  refine mm_start (by decide +kernel) (Nat.le_of_ble_eq_true rfl) ?_
  intro p e s m args below meth c ls C0 hR hl
  obtain ⟨hx, hb, hml, hr, hown, hts, hlocks⟩ := id C0
  have hl : lv_has ls 2 [(0, .ref (ra G 0 0)), (1, .int x1)] := hl
  rw [S_X6_heat] at h
  refine lv_iload_n hx hb dX6_heat_0 rfl (lv_at hl 1 rfl) ?_
  refine lv_if_ge (tgt := 13) hx hb dX6_heat_1 (by decide) (fun c1 => ?_) (fun c1 => ?_)
  · rw [if_pos c1] at h
    refine lv_aload_n hx hb dX6_heat_13 rfl (lv_at hl 0 rfl) ?_
    refine mm_get hx hb hts hown hR 0 0 4 vl_0 (v := .ref (ra G 6 0)) rfl rfl iX6 (by decide) lk_81 rfl dX6_heat_14 ?_
    refine lv_iload_n hx hb dX6_heat_17 rfl (lv_at hl 1 rfl) ?_
    obtain ⟨r3, f2, ef2, h⟩ := mm_b2e h
    refine mm_callV (v := some (.int r3)) (f1 := f2) (d0 := 1) (rest := []) [.int x1] C0 rfl hR 6 0 (T_X5_heatOf G ef2) ws_X5_heatOf lk_89 hd_X5_heatOf ⟨by decide, by decide⟩ vl_6 rfl rfl rfl hl.1 rfl (Nat.le_of_ble_eq_true rfl) dX6_heat_18 (fun H locs hR => ?_)
    refine W.eq (g2 := F0 m 21 ls (.int r3 :: [])) rfl ?_
    obtain ⟨rfl, rfl⟩ := mm_pr h
    exact mm_iret C0 hR dX6_heat_21
  · rw [if_neg c1] at h
    refine lv_aload_n hx hb dX6_heat_4 rfl (lv_at hl 0 rfl) ?_
    refine lv_bipush (v := (-3)) hx hb dX6_heat_5 (by decide) ?_
    obtain ⟨r5, f4, ef4, h⟩ := mm_b2e h
    refine mm_callV (v := some (.int r5)) (f1 := f4) (d0 := 1) (rest := []) [.int (-3)] C0 rfl hR 0 0 (T_X6_refuse G ef4) ws_X6_refuse lk_70 hd_X6_refuse ⟨by decide, by decide⟩ vl_0 rfl rfl rfl hl.1 rfl (Nat.le_of_ble_eq_true rfl) dX6_heat_7 (fun H locs hR => ?_)
    refine W.eq (g2 := F0 m 10 ls (.int r5 :: [])) rfl ?_
    refine lv_pop hx hb dX6_heat_10 rfl ?_
    refine lv_iconst (v := 0) hx hb dX6_heat_11 (by decide) ?_
    obtain ⟨rfl, rfl⟩ := mm_pr h
    exact mm_iret C0 hR dX6_heat_12
def S_X6_hoursHeldUp_21 : Nat → F3 → Int32 → Int32 → Int32 → Int32 → Option (Int32 × F3)
  | 0, _, _, _, _, _ => none
  | n + 1, f, x2, x3, x4, x5 => if x4 ≤ x5 then (some (x4, f)) else (Option.bind (S_X0_passHour f 10 x3) fun f6 => mm_b2 (S_X0_holdsUp f6 10 x2) fun r8 f7 => if r8 = 0 then (some (x5, f7)) else (S_X6_hoursHeldUp_21 n f7 x2 x3 x4 (x5 + 1)))
set_option maxHeartbeats 4000000 in
set_option maxRecDepth 100000 in
theorem L_X6_hoursHeldUp_21 {G : mmG} {p : Program} {e : Env} {s : State} {m : MethodId} {args : Array Value} {below : List Frame} {meth : Method} {c : Code} {f' : F3} {rv : Int32} (C0 : mmC yX6_hoursHeldUp cX6_hoursHeldUp 6 (some .int) p s m args meth c) : ∀ (n : Nat) {f : F3} {x2 : Int32} {x3 : Int32} {x4 : Int32} {x5 : Int32} , S_X6_hoursHeldUp_21 n f x2 x3 x4 x5 = some (rv, f') → ∀ (H : Heap) (locs : List Loc) (ls : Array Slot), mm_R G mm_NT f (GG f) s H locs → lv_has ls 6 [(0, .ref (ra G 0 0)), (2, .int x2), (3, .int x3), (4, .int x4), (5, .int x5)] → W p G.1 e (mm_rm 3) s m args below meth c H locs 0 0 (MQ below (mm_Q G mm_NT (some (.int rv)) f' (GG f')) args s 0 0 (mm_A G)) (F0 m 21 ls []) := by
  obtain ⟨hx, hb, hml, hr, hown, hts, hlocks⟩ := id C0
  intro n
  induction n with
  | zero =>
    intro f x2 x3 x4 x5  h H locs ls hR hl
    cases h
  | succ n ih =>
    intro f x2 x3 x4 x5  h H locs ls hR hl
    rw [S_X6_hoursHeldUp_21] at h
    refine lv_iload hx hb dX6_hoursHeldUp_21 (lv_at hl 4 rfl) ?_
    refine lv_iload hx hb dX6_hoursHeldUp_23 (lv_at hl 3 rfl) ?_
    refine lv_icmp_ge (tgt := 56) hx hb dX6_hoursHeldUp_25 (by decide) (fun c5 => ?_) (fun c5 => ?_)
    · rw [if_pos c5] at h
      refine lv_iload hx hb dX6_hoursHeldUp_56 (lv_at hl 3 rfl) ?_
      obtain ⟨rfl, rfl⟩ := mm_pr h
      exact mm_iret C0 hR dX6_hoursHeldUp_58
    · rw [if_neg c5] at h
      refine lv_aload_n hx hb dX6_hoursHeldUp_28 rfl (lv_at hl 0 rfl) ?_
      refine mm_get hx hb hts hown hR 0 0 10 vl_0 (v := .ref (ra G 1 10)) rfl rfl iX6 (by decide) lk_116 rfl dX6_hoursHeldUp_29 ?_
      refine lv_iload_n hx hb dX6_hoursHeldUp_32 rfl (lv_at hl 2 rfl) ?_
      obtain ⟨f6, ef6, h⟩ := mm_bind h
      refine mm_callV (v := none) (f1 := f6) (d0 := 2) (rest := []) [.int x3] C0 rfl hR 1 10 (T_X0_passHour G (by decide) ef6) ws_X0_passHour lk_118 hd_X0_passHour ⟨by decide, by decide⟩ (mm_vld 1 (by decide) 10 (by decide)) rfl rfl rfl hl.1 rfl (Nat.le_of_ble_eq_true rfl) dX6_hoursHeldUp_33 (fun H locs hR => ?_)
      refine W.eq (g2 := F0 m 36 ls ([])) rfl ?_
      refine lv_aload_n hx hb dX6_hoursHeldUp_36 rfl (lv_at hl 0 rfl) ?_
      refine mm_get hx hb hts hown hR 0 0 10 vl_0 (v := .ref (ra G 1 10)) rfl rfl iX6 (by decide) lk_116 rfl dX6_hoursHeldUp_37 ?_
      refine lv_iload_n hx hb dX6_hoursHeldUp_40 rfl (lv_at hl 1 rfl) ?_
      obtain ⟨r8, f7, ef7, h⟩ := mm_b2e h
      refine mm_callV (v := some (.int r8)) (f1 := f7) (d0 := 0) (rest := []) [.int x2] C0 rfl hR 1 10 (T_X0_holdsUp G (by decide) ef7) ws_X0_holdsUp lk_69 hd_X0_holdsUp ⟨by decide, by decide⟩ (mm_vld 1 (by decide) 10 (by decide)) rfl rfl rfl hl.1 rfl (Nat.le_of_ble_eq_true rfl) dX6_hoursHeldUp_41 (fun H locs hR => ?_)
      refine W.eq (g2 := F0 m 44 ls (.int r8 :: [])) rfl ?_
      refine lv_if_ne (tgt := 50) hx hb dX6_hoursHeldUp_44 (by decide) (fun c9 => ?_) (fun c9 => ?_)
      · rw [if_neg c9] at h
        refine lv_iinc (v := x5 + 1) (lv' := [(5, .int (x5 + 1)), (0, .ref (ra G 0 0)), (2, .int x2), (3, .int x3), (4, .int x4)]) hx hb dX6_hoursHeldUp_50 hl (k := 4) rfl rfl (by decide) rfl (fun ls hl => ?_)
        refine lv_goto (tgt := 21) hx hb dX6_hoursHeldUp_53 (by decide) ?_
        exact ih  h _ _ _ hR (lv_sub hl [1, 2, 3, 4, 0] rfl)
      · rw [if_pos c9] at h
        refine lv_iload hx hb dX6_hoursHeldUp_47 (lv_at hl 4 rfl) ?_
        obtain ⟨rfl, rfl⟩ := mm_pr h
        exact mm_iret C0 hR dX6_hoursHeldUp_49
def S_X6_hoursHeldUp (f : F3) (i1 : Nat) (x2 : Int32) (x3 : Int32) (x4 : Int32) : Option (Int32 × F3) := mm_b2 (S_X0_holdsUp f i1 x2) fun r2 f1 => if r2 = 0 then (some (0, f1)) else (Option.bind (S_X0_takeAfter f1 10 i1) fun f4 => S_X6_hoursHeldUp_21 FU f4 x2 x3 x4 0)
set_option maxHeartbeats 4000000 in
set_option maxRecDepth 100000 in
theorem T_X6_hoursHeldUp (G : mmG) {f f' : F3} {rv : Int32} {i1 : Nat} {x2 : Int32} {x3 : Int32} {x4 : Int32} (hi1 : i1 < mm_cnt 1) (h : S_X6_hoursHeldUp f i1 x2 x3 x4 = some (rv, f')) : mmM G yX6_hoursHeldUp cX6_hoursHeldUp 6 (some .int) 3 [.ref (ra G 0 0), .ref (ra G 1 i1), .int x2, .int x3, .int x4] f (some (.int rv)) f' := by
  refine mm_start (by decide +kernel) (Nat.le_of_ble_eq_true rfl) ?_
  intro p e s m args below meth c ls C0 hR hl
  obtain ⟨hx, hb, hml, hr, hown, hts, hlocks⟩ := id C0
  have hl : lv_has ls 6 [(0, .ref (ra G 0 0)), (1, .ref (ra G 1 i1)), (2, .int x2), (3, .int x3), (4, .int x4)] := hl
  rw [S_X6_hoursHeldUp] at h
  refine lv_aload_n hx hb dX6_hoursHeldUp_0 rfl (lv_at hl 1 rfl) ?_
  refine lv_iload_n hx hb dX6_hoursHeldUp_1 rfl (lv_at hl 2 rfl) ?_
  obtain ⟨r2, f1, ef1, h⟩ := mm_b2e h
  refine mm_callV (v := some (.int r2)) (f1 := f1) (d0 := 0) (rest := []) [.int x2] C0 rfl hR 1 i1 (T_X0_holdsUp G hi1 ef1) ws_X0_holdsUp lk_69 hd_X0_holdsUp ⟨by decide, by decide⟩ (mm_vld 1 (by decide) i1 hi1) rfl rfl rfl hl.1 rfl (Nat.le_of_ble_eq_true rfl) dX6_hoursHeldUp_2 (fun H locs hR => ?_)
  refine W.eq (g2 := F0 m 5 ls (.int r2 :: [])) rfl ?_
  refine lv_if_ne (tgt := 10) hx hb dX6_hoursHeldUp_5 (by decide) (fun c3 => ?_) (fun c3 => ?_)
  · rw [if_neg c3] at h
    refine lv_aload_n hx hb dX6_hoursHeldUp_10 rfl (lv_at hl 0 rfl) ?_
    refine mm_get hx hb hts hown hR 0 0 10 vl_0 (v := .ref (ra G 1 10)) rfl rfl iX6 (by decide) lk_116 rfl dX6_hoursHeldUp_11 ?_
    refine lv_aload_n hx hb dX6_hoursHeldUp_14 rfl (lv_at hl 1 rfl) ?_
    obtain ⟨f4, ef4, h⟩ := mm_bind h
    refine mm_callV (v := none) (f1 := f4) (d0 := 0) (rest := []) [.ref (ra G 1 i1)] C0 rfl hR 1 10 (T_X0_takeAfter G (by decide) hi1 ef4) ws_X0_takeAfter lk_117 hd_X0_takeAfter ⟨by decide, by decide⟩ (mm_vld 1 (by decide) 10 (by decide)) rfl rfl rfl hl.1 rfl (Nat.le_of_ble_eq_true rfl) dX6_hoursHeldUp_15 (fun H locs hR => ?_)
    refine W.eq (g2 := F0 m 18 ls ([])) rfl ?_
    refine lv_iconst (v := 0) hx hb dX6_hoursHeldUp_18 (by decide) ?_
    refine lv_istore (lv' := [(5, .int 0), (0, .ref (ra G 0 0)), (1, .ref (ra G 1 i1)), (2, .int x2), (3, .int x3), (4, .int x4)]) hx hb dX6_hoursHeldUp_19 hl (by decide) rfl (fun ls hl => ?_)
    exact L_X6_hoursHeldUp_21 C0 _ h _ _ _ hR (lv_sub hl [1, 3, 4, 5, 0] rfl)
  · rw [if_pos c3] at h
    refine lv_iconst (v := 0) hx hb dX6_hoursHeldUp_8 (by decide) ?_
    obtain ⟨rfl, rfl⟩ := mm_pr h
    exact mm_iret C0 hR dX6_hoursHeldUp_9
def S_X6_isLoad (f : F3) (x1 : Int32) : Option (Int32 × F3) := if x1 < 0 then (some (0, f)) else (if (f 0 0 13) ≤ x1 then (some (0, f)) else (some (1, f)))
set_option maxHeartbeats 4000000 in
set_option maxRecDepth 100000 in
theorem T_X6_isLoad (G : mmG) {f f' : F3} {rv : Int32} {x1 : Int32} (h : S_X6_isLoad f x1 = some (rv, f')) : mmM G yX6_isLoad cX6_isLoad 2 (some .boolean) 0 [.ref (ra G 0 0), .int x1] f (some (.int rv)) f' := by
  refine mm_start (by decide +kernel) (Nat.le_of_ble_eq_true rfl) ?_
  intro p e s m args below meth c ls C0 hR hl
  obtain ⟨hx, hb, hml, hr, hown, hts, hlocks⟩ := id C0
  have hl : lv_has ls 2 [(0, .ref (ra G 0 0)), (1, .int x1)] := hl
  rw [S_X6_isLoad] at h
  refine lv_iload_n hx hb dX6_isLoad_0 rfl (lv_at hl 1 rfl) ?_
  refine lv_if_lt (tgt := 16) hx hb dX6_isLoad_1 (by decide) (fun c1 => ?_) (fun c1 => ?_)
  · rw [if_pos c1] at h
    refine lv_iconst (v := 0) hx hb dX6_isLoad_16 (by decide) ?_
    obtain ⟨rfl, rfl⟩ := mm_pr h
    exact mm_zret C0 rfl hR dX6_isLoad_17
  · rw [if_neg c1] at h
    refine lv_iload_n hx hb dX6_isLoad_4 rfl (lv_at hl 1 rfl) ?_
    refine lv_aload_n hx hb dX6_isLoad_5 rfl (lv_at hl 0 rfl) ?_
    refine mm_get hx hb hts hown hR 0 0 13 vl_0 (v := .int (f 0 0 13)) rfl rfl iX6 (by decide) lk_60 rfl dX6_isLoad_6 ?_
    refine lv_icmp_ge (tgt := 16) hx hb dX6_isLoad_9 (by decide) (fun c2 => ?_) (fun c2 => ?_)
    · rw [if_pos c2] at h
      refine lv_iconst (v := 0) hx hb dX6_isLoad_16 (by decide) ?_
      obtain ⟨rfl, rfl⟩ := mm_pr h
      exact mm_zret C0 rfl hR dX6_isLoad_17
    · rw [if_neg c2] at h
      refine lv_iconst (v := 1) hx hb dX6_isLoad_12 (by decide) ?_
      refine lv_goto (tgt := 17) hx hb dX6_isLoad_13 (by decide) ?_
      obtain ⟨rfl, rfl⟩ := mm_pr h
      exact mm_zret C0 rfl hR dX6_isLoad_17
def S_X6_lastPlace (f : F3) (x1 : Int32) : Option (Int32 × F3) := if x1 = 0 then (some ((f 0 0 12) - 1, f)) else (some (0, f))
set_option maxHeartbeats 4000000 in
set_option maxRecDepth 100000 in
theorem T_X6_lastPlace (G : mmG) {f f' : F3} {rv : Int32} {x1 : Int32} (h : S_X6_lastPlace f x1 = some (rv, f')) : mmM G yX6_lastPlace cX6_lastPlace 2 (some .int) 0 [.ref (ra G 0 0), .int x1] f (some (.int rv)) f' := by
  refine mm_start (by decide +kernel) (Nat.le_of_ble_eq_true rfl) ?_
  intro p e s m args below meth c ls C0 hR hl
  obtain ⟨hx, hb, hml, hr, hown, hts, hlocks⟩ := id C0
  have hl : lv_has ls 2 [(0, .ref (ra G 0 0)), (1, .int x1)] := hl
  rw [S_X6_lastPlace] at h
  refine lv_iload_n hx hb dX6_lastPlace_0 rfl (lv_at hl 1 rfl) ?_
  refine lv_if_ne (tgt := 13) hx hb dX6_lastPlace_1 (by decide) (fun c1 => ?_) (fun c1 => ?_)
  · rw [if_neg c1] at h
    refine lv_iconst (v := 0) hx hb dX6_lastPlace_13 (by decide) ?_
    obtain ⟨rfl, rfl⟩ := mm_pr h
    exact mm_iret C0 hR dX6_lastPlace_14
  · rw [if_pos c1] at h
    refine lv_aload_n hx hb dX6_lastPlace_4 rfl (lv_at hl 0 rfl) ?_
    refine mm_get hx hb hts hown hR 0 0 12 vl_0 (v := .int (f 0 0 12)) rfl rfl iX6 (by decide) lk_64 rfl dX6_lastPlace_5 ?_
    refine lv_iconst (v := 1) hx hb dX6_lastPlace_8 (by decide) ?_
    refine lv_isub hx hb dX6_lastPlace_9 ?_
    refine lv_goto (tgt := 14) hx hb dX6_lastPlace_10 (by decide) ?_
    obtain ⟨rfl, rfl⟩ := mm_pr h
    exact mm_iret C0 hR dX6_lastPlace_14
def S_X6_lineUp_47 (f : F3) (i1 : Nat) (x2 : Int32) : Option F3 := if okI x2 24 then (mm_let (up f 9 0 x2.toNatClampNeg (nI i1)) fun f8 => some f8) else none
set_option maxHeartbeats 4000000 in
set_option maxRecDepth 100000 in
theorem L_X6_lineUp_47 {G : mmG} {p : Program} {e : Env} {s : State} {m : MethodId} {args : Array Value} {below : List Frame} {meth : Method} {c : Code} {f' : F3} (C0 : mmC yX6_lineUp cX6_lineUp 3 none p s m args meth c) {f : F3} {i1 : Nat} {x2 : Int32} (hi1 : i1 < mm_cnt 2) (h : S_X6_lineUp_47 f i1 x2 = some f') (H : Heap) (locs : List Loc) (ls : Array Slot) (hR : mm_R G mm_NT f (GG f) s H locs) (hl : lv_has ls 3 [(0, .ref (ra G 0 0)), (1, .ref (ra G 2 i1)), (2, .int x2)]) : W p G.1 e (mm_rm 0) s m args below meth c H locs 0 0 (MQ below (mm_Q G mm_NT none f' (GG f')) args s 0 0 (mm_A G)) (F0 m 47 ls []) := by
  obtain ⟨hx, hb, hml, hr, hown, hts, hlocks⟩ := id C0
  rw [S_X6_lineUp_47] at h
  refine lv_aload_n hx hb dX6_lineUp_47 rfl (lv_at hl 0 rfl) ?_
  refine mm_get hx hb hts hown hR 0 0 2 vl_0 (v := .ref (ra G 9 0)) rfl rfl iX6 (by decide) lk_119 rfl dX6_lineUp_48 ?_
  refine lv_iload_n hx hb dX6_lineUp_51 rfl (lv_at hl 2 rfl) ?_
  refine lv_aload_n hx hb dX6_lineUp_52 rfl (lv_at hl 1 rfl) ?_
  obtain ⟨z7, h⟩ := mm_if h
  obtain ⟨f8, ef8, h⟩ := mm_lt h
  refine mm_ast hx hb hR (j := x2) (okI_in z7) (i2 := i1) hi1 dX6_lineUp_53 (fun H locs hR => ?_)
  rw [← ef8] at hR
  obtain rfl := mm_p1 h
  exact mm_vret C0 hR dX6_lineUp_54
def S_X6_lineUp_5 : Nat → F3 → Nat → Int32 → Option F3
  | 0, _, _, _ => none
  | n + 1, f, i1, x2 => if x2 ≤ 0 then (S_X6_lineUp_47 f i1 x2) else (if okI (x2 - 1) 24 then (if (f 9 0 (x2 - 1).toNatClampNeg).toNatClampNeg < 24 then (if (f 2 i1 1) ≤ (f 2 ((f 9 0 (x2 - 1).toNatClampNeg).toNatClampNeg) 1) then (S_X6_lineUp_47 f i1 x2) else (if okI x2 24 then (mm_let (up f 9 0 x2.toNatClampNeg (nI ((f 9 0 (x2 - 1).toNatClampNeg).toNatClampNeg))) fun f6 => S_X6_lineUp_5 n f6 i1 (x2 + (-1))) else none)) else none) else none)
set_option maxHeartbeats 4000000 in
set_option maxRecDepth 100000 in
theorem L_X6_lineUp_5 {G : mmG} {p : Program} {e : Env} {s : State} {m : MethodId} {args : Array Value} {below : List Frame} {meth : Method} {c : Code} {f' : F3} (C0 : mmC yX6_lineUp cX6_lineUp 3 none p s m args meth c) : ∀ (n : Nat) {f : F3} {i1 : Nat} {x2 : Int32} (hi1 : i1 < mm_cnt 2), S_X6_lineUp_5 n f i1 x2 = some f' → ∀ (H : Heap) (locs : List Loc) (ls : Array Slot), mm_R G mm_NT f (GG f) s H locs → lv_has ls 3 [(0, .ref (ra G 0 0)), (1, .ref (ra G 2 i1)), (2, .int x2)] → W p G.1 e (mm_rm 0) s m args below meth c H locs 0 0 (MQ below (mm_Q G mm_NT none f' (GG f')) args s 0 0 (mm_A G)) (F0 m 5 ls []) := by
  obtain ⟨hx, hb, hml, hr, hown, hts, hlocks⟩ := id C0
  intro n
  induction n with
  | zero =>
    intro f i1 x2 hi1 h H locs ls hR hl
    cases h
  | succ n ih =>
    intro f i1 x2 hi1 h H locs ls hR hl
    rw [S_X6_lineUp_5] at h
    refine lv_iload_n hx hb dX6_lineUp_5 rfl (lv_at hl 2 rfl) ?_
    refine lv_if_le (tgt := 47) hx hb dX6_lineUp_6 (by decide) (fun c1 => ?_) (fun c1 => ?_)
    · rw [if_pos c1] at h
      exact L_X6_lineUp_47 C0 hi1 h _ _ _ hR (lv_sub hl [0, 1, 2] rfl)
    · rw [if_neg c1] at h
      refine lv_aload_n hx hb dX6_lineUp_9 rfl (lv_at hl 0 rfl) ?_
      refine mm_get hx hb hts hown hR 0 0 2 vl_0 (v := .ref (ra G 9 0)) rfl rfl iX6 (by decide) lk_119 rfl dX6_lineUp_10 ?_
      refine lv_iload_n hx hb dX6_lineUp_13 rfl (lv_at hl 2 rfl) ?_
      refine lv_iconst (v := 1) hx hb dX6_lineUp_14 (by decide) ?_
      refine lv_isub hx hb dX6_lineUp_15 ?_
      obtain ⟨z2, h⟩ := mm_if h
      obtain ⟨z3, h⟩ := mm_if h
      refine mm_ald hx hb hR 9 0 3 vl_9 (L := 24) (C := "IceRoad$Load") (r2 := 2) (i2 := (f 9 0 (x2 - 1).toNatClampNeg).toNatClampNeg) rfl rfl (okI_in z2) rfl (by decide) dX6_lineUp_16 ?_
      refine mm_get hx hb hts hown hR 2 ((f 9 0 (x2 - 1).toNatClampNeg).toNatClampNeg) 1 (mm_vld 2 (by decide) ((f 9 0 (x2 - 1).toNatClampNeg).toNatClampNeg) z3) (v := .int (f 2 ((f 9 0 (x2 - 1).toNatClampNeg).toNatClampNeg) 1)) rfl rfl iX1 (by decide) lk_87 rfl dX6_lineUp_17 ?_
      refine lv_aload_n hx hb dX6_lineUp_20 rfl (lv_at hl 1 rfl) ?_
      refine mm_get hx hb hts hown hR 2 i1 1 (mm_vld 2 (by decide) i1 hi1) (v := .int (f 2 i1 1)) rfl rfl iX1 (by decide) lk_87 rfl dX6_lineUp_21 ?_
      refine lv_icmp_ge (tgt := 47) hx hb dX6_lineUp_24 (by decide) (fun c4 => ?_) (fun c4 => ?_)
      · rw [if_pos c4] at h
        exact L_X6_lineUp_47 C0 hi1 h _ _ _ hR (lv_sub hl [0, 1, 2] rfl)
      · rw [if_neg c4] at h
        refine lv_aload_n hx hb dX6_lineUp_27 rfl (lv_at hl 0 rfl) ?_
        refine mm_get hx hb hts hown hR 0 0 2 vl_0 (v := .ref (ra G 9 0)) rfl rfl iX6 (by decide) lk_119 rfl dX6_lineUp_28 ?_
        refine lv_iload_n hx hb dX6_lineUp_31 rfl (lv_at hl 2 rfl) ?_
        refine lv_aload_n hx hb dX6_lineUp_32 rfl (lv_at hl 0 rfl) ?_
        refine mm_get hx hb hts hown hR 0 0 2 vl_0 (v := .ref (ra G 9 0)) rfl rfl iX6 (by decide) lk_119 rfl dX6_lineUp_33 ?_
        refine lv_iload_n hx hb dX6_lineUp_36 rfl (lv_at hl 2 rfl) ?_
        refine lv_iconst (v := 1) hx hb dX6_lineUp_37 (by decide) ?_
        refine lv_isub hx hb dX6_lineUp_38 ?_
        refine mm_ald hx hb hR 9 0 3 vl_9 (L := 24) (C := "IceRoad$Load") (r2 := 2) (i2 := (f 9 0 (x2 - 1).toNatClampNeg).toNatClampNeg) rfl rfl (okI_in z2) rfl (by decide) dX6_lineUp_39 ?_
        obtain ⟨z5, h⟩ := mm_if h
        obtain ⟨f6, ef6, h⟩ := mm_lt h
        refine mm_ast hx hb hR (j := x2) (okI_in z5) (i2 := (f 9 0 (x2 - 1).toNatClampNeg).toNatClampNeg) z3 dX6_lineUp_40 (fun H locs hR => ?_)
        rw [← ef6] at hR
        refine lv_iinc (v := x2 + (-1)) (lv' := [(2, .int (x2 + (-1))), (0, .ref (ra G 0 0)), (1, .ref (ra G 2 i1))]) hx hb dX6_lineUp_41 hl (k := 2) rfl rfl (by decide) rfl (fun ls hl => ?_)
        refine lv_goto (tgt := 5) hx hb dX6_lineUp_44 (by decide) ?_
        exact ih hi1 h _ _ _ hR (lv_sub hl [1, 2, 0] rfl)
def S_X6_lineUp (f : F3) (i1 : Nat) : Option F3 := S_X6_lineUp_5 FU f i1 (f 0 0 13)
set_option maxHeartbeats 4000000 in
set_option maxRecDepth 100000 in
theorem T_X6_lineUp (G : mmG) {f f' : F3} {i1 : Nat} (hi1 : i1 < mm_cnt 2) (h : S_X6_lineUp f i1 = some f') : mmM G yX6_lineUp cX6_lineUp 3 none 0 [.ref (ra G 0 0), .ref (ra G 2 i1)] f none f' := by
  refine mm_start (by decide +kernel) (Nat.le_of_ble_eq_true rfl) ?_
  intro p e s m args below meth c ls C0 hR hl
  obtain ⟨hx, hb, hml, hr, hown, hts, hlocks⟩ := id C0
  have hl : lv_has ls 3 [(0, .ref (ra G 0 0)), (1, .ref (ra G 2 i1))] := hl
  rw [S_X6_lineUp] at h
  refine lv_aload_n hx hb dX6_lineUp_0 rfl (lv_at hl 0 rfl) ?_
  refine mm_get hx hb hts hown hR 0 0 13 vl_0 (v := .int (f 0 0 13)) rfl rfl iX6 (by decide) lk_60 rfl dX6_lineUp_1 ?_
  refine lv_istore_n (lv' := [(2, .int (f 0 0 13)), (0, .ref (ra G 0 0)), (1, .ref (ra G 2 i1))]) hx hb dX6_lineUp_4 rfl hl (by decide) rfl (fun ls hl => ?_)
  exact L_X6_lineUp_5 C0 _ hi1 h _ _ _ hR (lv_sub hl [1, 2, 0] rfl)
def S_X6_load_34 (f : F3) (s0 : Int32) (x1 : Int32) (x2 : Int32) (x3 : Int32) : Option (Int32 × F3) := if s0 = 0 then (mm_b2 (S_X6_refuse f (-7)) fun r21 f20 => some (r21, f20)) else (if (f 0 0 13) < 24 then (if okI (f 0 0 13) 24 then (mm_let (up f 2 ((f 0 0 13).toNatClampNeg) 0 x1) fun f13 => mm_let (up f13 2 ((f 0 0 13).toNatClampNeg) 1 x2) fun f14 => mm_let (up f14 2 ((f 0 0 13).toNatClampNeg) 2 x3) fun f15 => Option.bind (S_X6_lineUp f15 ((f 0 0 13).toNatClampNeg)) fun f16 => mm_let (up f16 0 0 13 ((f16 0 0 13) + 1)) fun f17 => some ((f17 0 0 13) - 1, f17)) else none) else (mm_b2 (S_X6_refuse f (-8)) fun r19 f18 => some (r19, f18)))
set_option maxHeartbeats 4000000 in
set_option maxRecDepth 100000 in
theorem L_X6_load_34 {G : mmG} {p : Program} {e : Env} {s : State} {m : MethodId} {args : Array Value} {below : List Frame} {meth : Method} {c : Code} {f' : F3} {rv : Int32} (C0 : mmC yX6_load cX6_load 6 (some .int) p s m args meth c) {f : F3} {s0 : Int32} {x1 : Int32} {x2 : Int32} {x3 : Int32} (h : S_X6_load_34 f s0 x1 x2 x3 = some (rv, f')) (H : Heap) (locs : List Loc) (ls : Array Slot) (hR : mm_R G mm_NT f (GG f) s H locs) (hl : lv_has ls 6 [(0, .ref (ra G 0 0)), (1, .int x1), (2, .int x2), (3, .int x3)]) : W p G.1 e (mm_rm 2) s m args below meth c H locs 0 0 (MQ below (mm_Q G mm_NT (some (.int rv)) f' (GG f')) args s 0 0 (mm_A G)) (F0 m 34 ls [.int s0]) := by
  obtain ⟨hx, hb, hml, hr, hown, hts, hlocks⟩ := id C0
  rw [S_X6_load_34] at h
  refine lv_istore (lv' := [(4, .int s0), (0, .ref (ra G 0 0)), (1, .int x1), (2, .int x2), (3, .int x3)]) hx hb dX6_load_34 hl (by decide) rfl (fun ls hl => ?_)
  refine lv_iload hx hb dX6_load_36 (lv_at hl 0 rfl) ?_
  refine lv_if_ne (tgt := 48) hx hb dX6_load_38 (by decide) (fun c10 => ?_) (fun c10 => ?_)
  · rw [if_neg c10] at h
    refine lv_aload_n hx hb dX6_load_48 rfl (lv_at hl 1 rfl) ?_
    refine mm_get hx hb hts hown hR 0 0 13 vl_0 (v := .int (f 0 0 13)) rfl rfl iX6 (by decide) lk_60 rfl dX6_load_49 ?_
    refine lv_bipush (v := 24) hx hb dX6_load_52 (by decide) ?_
    refine lv_icmp_lt (tgt := 64) hx hb dX6_load_54 (by decide) (fun c11 => ?_) (fun c11 => ?_)
    · rw [if_pos c11] at h
      refine lv_aload_n hx hb dX6_load_64 rfl (lv_at hl 1 rfl) ?_
      refine mm_get hx hb hts hown hR 0 0 1 vl_0 (v := .ref (ra G 8 0)) rfl rfl iX6 (by decide) lk_61 rfl dX6_load_65 ?_
      refine lv_aload_n hx hb dX6_load_68 rfl (lv_at hl 1 rfl) ?_
      refine mm_get hx hb hts hown hR 0 0 13 vl_0 (v := .int (f 0 0 13)) rfl rfl iX6 (by decide) lk_60 rfl dX6_load_69 ?_
      obtain ⟨z12, h⟩ := mm_if h
      refine mm_ald hx hb hR 8 0 3 vl_8 (L := 24) (C := "IceRoad$Load") (r2 := 2) (i2 := (f 0 0 13).toNatClampNeg) rfl rfl (okI_in z12) rfl (by decide) dX6_load_72 ?_
      refine lv_astore (lv' := [(5, .ref (ra G 2 ((f 0 0 13).toNatClampNeg))), (4, .int s0), (0, .ref (ra G 0 0)), (1, .int x1), (2, .int x2), (3, .int x3)]) hx hb dX6_load_73 hl (by decide) rfl (fun ls hl => ?_)
      refine lv_aload hx hb dX6_load_75 (lv_at hl 0 rfl) ?_
      refine lv_iload_n hx hb dX6_load_77 rfl (lv_at hl 3 rfl) ?_
      obtain ⟨f13, ef13, h⟩ := mm_lt h
      refine mm_put hx hb hts hown hR 2 ((f 0 0 13).toNatClampNeg) 0 (by decide) (mm_vld 2 (by decide) ((f 0 0 13).toNatClampNeg) (okI_lt z12)) (x := x1) rfl rfl iX1 tyX1 tyX1_ok nmX1 (by decide) lk_86 rfl rfl rfl (Nat.le_of_ble_eq_true rfl) rfl dX6_load_78 (fun H locs hR => ?_)
      rw [← ef13] at hR
      refine lv_aload hx hb dX6_load_81 (lv_at hl 0 rfl) ?_
      refine lv_iload_n hx hb dX6_load_83 rfl (lv_at hl 4 rfl) ?_
      obtain ⟨f14, ef14, h⟩ := mm_lt h
      refine mm_put hx hb hts hown hR 2 ((f 0 0 13).toNatClampNeg) 1 (by decide) (mm_vld 2 (by decide) ((f 0 0 13).toNatClampNeg) (okI_lt z12)) (x := x2) rfl rfl iX1 tyX1 tyX1_ok nmX1 (by decide) lk_87 rfl rfl rfl (Nat.le_of_ble_eq_true rfl) rfl dX6_load_84 (fun H locs hR => ?_)
      rw [← ef14] at hR
      refine lv_aload hx hb dX6_load_87 (lv_at hl 0 rfl) ?_
      refine lv_iload_n hx hb dX6_load_89 rfl (lv_at hl 5 rfl) ?_
      obtain ⟨f15, ef15, h⟩ := mm_lt h
      refine mm_put hx hb hts hown hR 2 ((f 0 0 13).toNatClampNeg) 2 (by decide) (mm_vld 2 (by decide) ((f 0 0 13).toNatClampNeg) (okI_lt z12)) (x := x3) rfl rfl iX1 tyX1 tyX1_ok nmX1 (by decide) lk_84 rfl rfl rfl (Nat.le_of_ble_eq_true rfl) rfl dX6_load_90 (fun H locs hR => ?_)
      rw [← ef15] at hR
      refine lv_aload_n hx hb dX6_load_93 rfl (lv_at hl 2 rfl) ?_
      refine lv_aload hx hb dX6_load_94 (lv_at hl 0 rfl) ?_
      obtain ⟨f16, ef16, h⟩ := mm_bind h
      refine mm_callV (v := none) (f1 := f16) (d0 := 0) (rest := []) [.ref (ra G 2 ((f 0 0 13).toNatClampNeg))] C0 rfl hR 0 0 (T_X6_lineUp G (okI_lt z12) ef16) ws_X6_lineUp lk_120 hd_X6_lineUp ⟨by decide, by decide⟩ vl_0 rfl rfl rfl hl.1 rfl (Nat.le_of_ble_eq_true rfl) dX6_load_96 (fun H locs hR => ?_)
      refine W.eq (g2 := F0 m 99 ls ([])) rfl ?_
      refine lv_aload_n hx hb dX6_load_99 rfl (lv_at hl 2 rfl) ?_
      refine lv_dup hx hb dX6_load_100 rfl ?_
      refine mm_get hx hb hts hown hR 0 0 13 vl_0 (v := .int (f16 0 0 13)) rfl rfl iX6 (by decide) lk_60 rfl dX6_load_101 ?_
      refine lv_iconst (v := 1) hx hb dX6_load_104 (by decide) ?_
      refine lv_iadd hx hb dX6_load_105 ?_
      obtain ⟨f17, ef17, h⟩ := mm_lt h
      refine mm_put hx hb hts hown hR 0 0 13 (by decide) vl_0 (x := (f16 0 0 13) + 1) rfl rfl iX6 tyX6 tyX6_ok nmX6 (by decide) lk_60 rfl rfl rfl (Nat.le_of_ble_eq_true rfl) rfl dX6_load_106 (fun H locs hR => ?_)
      rw [← ef17] at hR
      refine lv_aload_n hx hb dX6_load_109 rfl (lv_at hl 2 rfl) ?_
      refine mm_get hx hb hts hown hR 0 0 13 vl_0 (v := .int (f17 0 0 13)) rfl rfl iX6 (by decide) lk_60 rfl dX6_load_110 ?_
      refine lv_iconst (v := 1) hx hb dX6_load_113 (by decide) ?_
      refine lv_isub hx hb dX6_load_114 ?_
      obtain ⟨rfl, rfl⟩ := mm_pr h
      exact mm_iret C0 hR dX6_load_115
    · rw [if_neg c11] at h
      refine lv_aload_n hx hb dX6_load_57 rfl (lv_at hl 1 rfl) ?_
      refine lv_bipush (v := (-8)) hx hb dX6_load_58 (by decide) ?_
      obtain ⟨r19, f18, ef18, h⟩ := mm_b2e h
      refine mm_callV (v := some (.int r19)) (f1 := f18) (d0 := 1) (rest := []) [.int (-8)] C0 rfl hR 0 0 (T_X6_refuse G ef18) ws_X6_refuse lk_70 hd_X6_refuse ⟨by decide, by decide⟩ vl_0 rfl rfl rfl hl.1 rfl (Nat.le_of_ble_eq_true rfl) dX6_load_60 (fun H locs hR => ?_)
      refine W.eq (g2 := F0 m 63 ls (.int r19 :: [])) rfl ?_
      obtain ⟨rfl, rfl⟩ := mm_pr h
      exact mm_iret C0 hR dX6_load_63
  · rw [if_pos c10] at h
    refine lv_aload_n hx hb dX6_load_41 rfl (lv_at hl 1 rfl) ?_
    refine lv_bipush (v := (-7)) hx hb dX6_load_42 (by decide) ?_
    obtain ⟨r21, f20, ef20, h⟩ := mm_b2e h
    refine mm_callV (v := some (.int r21)) (f1 := f20) (d0 := 1) (rest := []) [.int (-7)] C0 rfl hR 0 0 (T_X6_refuse G ef20) ws_X6_refuse lk_70 hd_X6_refuse ⟨by decide, by decide⟩ vl_0 rfl rfl rfl hl.1 rfl (Nat.le_of_ble_eq_true rfl) dX6_load_44 (fun H locs hR => ?_)
    refine W.eq (g2 := F0 m 47 ls (.int r21 :: [])) rfl ?_
    obtain ⟨rfl, rfl⟩ := mm_pr h
    exact mm_iret C0 hR dX6_load_47
def S_X6_load_33 (f : F3) (x1 : Int32) (x2 : Int32) (x3 : Int32) : Option (Int32 × F3) := S_X6_load_34 f 0 x1 x2 x3
set_option maxHeartbeats 4000000 in
set_option maxRecDepth 100000 in
theorem L_X6_load_33 {G : mmG} {p : Program} {e : Env} {s : State} {m : MethodId} {args : Array Value} {below : List Frame} {meth : Method} {c : Code} {f' : F3} {rv : Int32} (C0 : mmC yX6_load cX6_load 6 (some .int) p s m args meth c) {f : F3} {x1 : Int32} {x2 : Int32} {x3 : Int32} (h : S_X6_load_33 f x1 x2 x3 = some (rv, f')) (H : Heap) (locs : List Loc) (ls : Array Slot) (hR : mm_R G mm_NT f (GG f) s H locs) (hl : lv_has ls 6 [(0, .ref (ra G 0 0)), (1, .int x1), (2, .int x2), (3, .int x3)]) : W p G.1 e (mm_rm 2) s m args below meth c H locs 0 0 (MQ below (mm_Q G mm_NT (some (.int rv)) f' (GG f')) args s 0 0 (mm_A G)) (F0 m 33 ls []) := by
  obtain ⟨hx, hb, hml, hr, hown, hts, hlocks⟩ := id C0
  rw [S_X6_load_33] at h
  refine lv_iconst (v := 0) hx hb dX6_load_33 (by decide) ?_
  exact L_X6_load_34 C0 h _ _ _ hR (lv_sub hl [0, 1, 2, 3] rfl)
def S_X6_load (f : F3) (x1 : Int32) (x2 : Int32) (x3 : Int32) : Option (Int32 × F3) := mm_b2 (S_X6_isWithin f x1 1 99) fun r2 f1 => if r2 = 0 then (S_X6_load_33 f1 x1 x2 x3) else (mm_b2 (S_X6_isWithin f1 x2 0 9) fun r5 f4 => if r5 = 0 then (S_X6_load_33 f4 x1 x2 x3) else (mm_b2 (S_X6_isWithin f4 x3 0 1) fun r8 f7 => if r8 = 0 then (S_X6_load_33 f7 x1 x2 x3) else (S_X6_load_34 f7 1 x1 x2 x3)))
set_option maxHeartbeats 4000000 in
set_option maxRecDepth 100000 in
theorem T_X6_load (G : mmG) {f f' : F3} {rv : Int32} {x1 : Int32} {x2 : Int32} {x3 : Int32} (h : S_X6_load f x1 x2 x3 = some (rv, f')) : mmM G yX6_load cX6_load 6 (some .int) 2 [.ref (ra G 0 0), .int x1, .int x2, .int x3] f (some (.int rv)) f' := by
  refine mm_start (by decide +kernel) (Nat.le_of_ble_eq_true rfl) ?_
  intro p e s m args below meth c ls C0 hR hl
  obtain ⟨hx, hb, hml, hr, hown, hts, hlocks⟩ := id C0
  have hl : lv_has ls 6 [(0, .ref (ra G 0 0)), (1, .int x1), (2, .int x2), (3, .int x3)] := hl
  rw [S_X6_load] at h
  refine lv_iload_n hx hb dX6_load_0 rfl (lv_at hl 1 rfl) ?_
  refine lv_iconst (v := 1) hx hb dX6_load_1 (by decide) ?_
  refine lv_bipush (v := 99) hx hb dX6_load_2 (by decide) ?_
  obtain ⟨r2, f1, ef1, h⟩ := mm_b2e h
  refine mm_callS (v := some (.int r2)) (f1 := f1) (d0 := 0) (rest := []) [.int x1, .int 1, .int 99] C0 rfl hR (T_X6_isWithin G ef1) ws_X6_isWithin lk_65 hd_X6_isWithin ⟨by decide, by decide⟩ hl.1 rfl (Nat.le_of_ble_eq_true rfl) dX6_load_4 (fun H locs hR => ?_)
  refine W.eq (g2 := F0 m 7 ls (.int r2 :: [])) rfl ?_
  refine lv_if_eq (tgt := 33) hx hb dX6_load_7 (by decide) (fun c3 => ?_) (fun c3 => ?_)
  · rw [if_pos c3] at h
    exact L_X6_load_33 C0 h _ _ _ hR (lv_sub hl [0, 1, 2, 3] rfl)
  · rw [if_neg c3] at h
    refine lv_iload_n hx hb dX6_load_10 rfl (lv_at hl 2 rfl) ?_
    refine lv_iconst (v := 0) hx hb dX6_load_11 (by decide) ?_
    refine lv_bipush (v := 9) hx hb dX6_load_12 (by decide) ?_
    obtain ⟨r5, f4, ef4, h⟩ := mm_b2e h
    refine mm_callS (v := some (.int r5)) (f1 := f4) (d0 := 0) (rest := []) [.int x2, .int 0, .int 9] C0 rfl hR (T_X6_isWithin G ef4) ws_X6_isWithin lk_65 hd_X6_isWithin ⟨by decide, by decide⟩ hl.1 rfl (Nat.le_of_ble_eq_true rfl) dX6_load_14 (fun H locs hR => ?_)
    refine W.eq (g2 := F0 m 17 ls (.int r5 :: [])) rfl ?_
    refine lv_if_eq (tgt := 33) hx hb dX6_load_17 (by decide) (fun c6 => ?_) (fun c6 => ?_)
    · rw [if_pos c6] at h
      exact L_X6_load_33 C0 h _ _ _ hR (lv_sub hl [0, 1, 2, 3] rfl)
    · rw [if_neg c6] at h
      refine lv_iload_n hx hb dX6_load_20 rfl (lv_at hl 3 rfl) ?_
      refine lv_iconst (v := 0) hx hb dX6_load_21 (by decide) ?_
      refine lv_iconst (v := 1) hx hb dX6_load_22 (by decide) ?_
      obtain ⟨r8, f7, ef7, h⟩ := mm_b2e h
      refine mm_callS (v := some (.int r8)) (f1 := f7) (d0 := 0) (rest := []) [.int x3, .int 0, .int 1] C0 rfl hR (T_X6_isWithin G ef7) ws_X6_isWithin lk_65 hd_X6_isWithin ⟨by decide, by decide⟩ hl.1 rfl (Nat.le_of_ble_eq_true rfl) dX6_load_23 (fun H locs hR => ?_)
      refine W.eq (g2 := F0 m 26 ls (.int r8 :: [])) rfl ?_
      refine lv_if_eq (tgt := 33) hx hb dX6_load_26 (by decide) (fun c9 => ?_) (fun c9 => ?_)
      · rw [if_pos c9] at h
        exact L_X6_load_33 C0 h _ _ _ hR (lv_sub hl [0, 1, 2, 3] rfl)
      · rw [if_neg c9] at h
        refine lv_iconst (v := 1) hx hb dX6_load_29 (by decide) ?_
        refine lv_goto (tgt := 34) hx hb dX6_load_30 (by decide) ?_
        exact L_X6_load_34 C0 h _ _ _ hR (lv_sub hl [0, 1, 2, 3] rfl)
