def S_X7_can_69 (k13 : F3 → Int32 → Int32 → Int32 → Option (Int32 × F3)) (f : F3) (x1 : Int32) (x2 : Int32) (x3 : Int32) : Option (Int32 × F3) := k13 f x1 x2 (x3 + 1)
set_option maxHeartbeats 4000000 in
set_option maxRecDepth 100000 in
theorem L_X7_can_69 {G : mmG} {p : Program} {e : Env} {s : State} {m : MethodId} {args : Array Value} {below : List Frame} {meth : Method} {c : Code} {f' : F3} {rv : Int32} (C0 : mmC yX7_can cX7_can 4 (some .boolean) p s m args meth c) {k13 : F3 → Int32 → Int32 → Int32 → Option (Int32 × F3)} (hk13 : ∀ (f : F3) (x1 : Int32) (x2 : Int32) (x3 : Int32), k13 f x1 x2 x3 = some (rv, f') → ∀ (H : Heap) (locs : List Loc) (ls : Array Slot), mm_R G mm_NT f (GG f) s H locs → lv_has ls 4 [(0, .ref (ra G 20 0)), (1, .int x1), (2, .int x2), (3, .int x3)] → W p G.1 e (mm_rm 5) s m args below meth c H locs 0 0 (MQ below (mm_Q G mm_NT (some (.int rv)) f' (GG f')) args s 0 0 (mm_A G)) (F0 m 13 ls [])) {f : F3} {x1 : Int32} {x2 : Int32} {x3 : Int32} (h : S_X7_can_69 k13 f x1 x2 x3 = some (rv, f')) (H : Heap) (locs : List Loc) (ls : Array Slot) (hR : mm_R G mm_NT f (GG f) s H locs) (hl : lv_has ls 4 [(0, .ref (ra G 20 0)), (1, .int x1), (2, .int x2), (3, .int x3)]) : W p G.1 e (mm_rm 5) s m args below meth c H locs 0 0 (MQ below (mm_Q G mm_NT (some (.int rv)) f' (GG f')) args s 0 0 (mm_A G)) (F0 m 69 ls []) := by
  obtain ⟨hx, hb, hml, hr, hown, hts, hlocks⟩ := id C0
  rw [S_X7_can_69] at h
  refine lv_iinc (v := x3 + 1) (lv' := [(3, .int (x3 + 1)), (0, .ref (ra G 20 0)), (1, .int x1), (2, .int x2)]) hx hb dX7_can_69 hl (k := 3) rfl rfl (by decide) rfl (fun ls hl => ?_)
  refine lv_goto (tgt := 13) hx hb dX7_can_72 (by decide) ?_
  exact hk13 _ x1 x2 (x3 + 1)  h _ _ _ hR (lv_sub hl [1, 2, 3, 0] rfl)
def S_X7_can_13 : Nat → F3 → Int32 → Int32 → Int32 → Option (Int32 × F3)
  | 0, _, _, _, _ => none
  | n + 1, f, x1, x2, x3 => if (f 20 0 13) ≤ x3 then (some (1, f)) else (if okI x3 24 then (if (f 43 0 x3.toNatClampNeg) = 1 then (if (f 44 0 x3.toNatClampNeg) = x2 then (if okI x1 24 then (if (f 42 0 x3.toNatClampNeg) = (f 42 0 x1.toNatClampNeg) then (some (0, f)) else (if okI x2 10 then (if 10 ≤ (f 33 0 x2.toNatClampNeg) then (S_X7_can_69 (fun f9 x1_ x2_ x3_ => S_X7_can_13 n f9 x1_ x2_ x3_) f x1 x2 x3) else (some (0, f))) else none)) else none) else (S_X7_can_69 (fun f9 x1_ x2_ x3_ => S_X7_can_13 n f9 x1_ x2_ x3_) f x1 x2 x3)) else (S_X7_can_69 (fun f9 x1_ x2_ x3_ => S_X7_can_13 n f9 x1_ x2_ x3_) f x1 x2 x3)) else none)
set_option maxHeartbeats 4000000 in
set_option maxRecDepth 100000 in
theorem L_X7_can_13 {G : mmG} {p : Program} {e : Env} {s : State} {m : MethodId} {args : Array Value} {below : List Frame} {meth : Method} {c : Code} {f' : F3} {rv : Int32} (C0 : mmC yX7_can cX7_can 4 (some .boolean) p s m args meth c) : ∀ (n : Nat) {f : F3} {x1 : Int32} {x2 : Int32} {x3 : Int32} , S_X7_can_13 n f x1 x2 x3 = some (rv, f') → ∀ (H : Heap) (locs : List Loc) (ls : Array Slot), mm_R G mm_NT f (GG f) s H locs → lv_has ls 4 [(0, .ref (ra G 20 0)), (1, .int x1), (2, .int x2), (3, .int x3)] → W p G.1 e (mm_rm 5) s m args below meth c H locs 0 0 (MQ below (mm_Q G mm_NT (some (.int rv)) f' (GG f')) args s 0 0 (mm_A G)) (F0 m 13 ls []) := by
  obtain ⟨hx, hb, hml, hr, hown, hts, hlocks⟩ := id C0
  intro n
  induction n with
  | zero =>
    intro f x1 x2 x3  h H locs ls hR hl
    cases h
  | succ n ih =>
    intro f x1 x2 x3  h H locs ls hR hl
    rw [S_X7_can_13] at h
    refine lv_iload_n hx hb dX7_can_13 rfl (lv_at hl 3 rfl) ?_
    refine lv_aload_n hx hb dX7_can_14 rfl (lv_at hl 0 rfl) ?_
    refine mm_get hx hb hts hown hR 20 0 13 vl_20 (v := .int (f 20 0 13)) rfl rfl iX7 (by decide) lk_149 rfl dX7_can_15 ?_
    refine lv_icmp_ge (tgt := 75) hx hb dX7_can_18 (by decide) (fun c4 => ?_) (fun c4 => ?_)
    · rw [if_pos c4] at h
      refine lv_iconst (v := 1) hx hb dX7_can_75 (by decide) ?_
      obtain ⟨rfl, rfl⟩ := mm_pr h
      exact mm_zret C0 rfl hR dX7_can_76
    · rw [if_neg c4] at h
      refine lv_aload_n hx hb dX7_can_21 rfl (lv_at hl 0 rfl) ?_
      refine mm_get hx hb hts hown hR 20 0 17 vl_20 (v := .ref (ra G 43 0)) rfl rfl iX7 (by decide) lk_150 rfl dX7_can_22 ?_
      refine lv_iload_n hx hb dX7_can_25 rfl (lv_at hl 3 rfl) ?_
      obtain ⟨z5, h⟩ := mm_if h
      refine mm_ild hx hb hR 43 0 vl_43 (L := 24) rfl (okI_in z5) dX7_can_26 ?_
      refine lv_iconst (v := 1) hx hb dX7_can_27 (by decide) ?_
      refine lv_icmp_ne (tgt := 69) hx hb dX7_can_28 (by decide) (fun c6 => ?_) (fun c6 => ?_)
      · rw [if_neg c6] at h
        exact L_X7_can_69 C0 (fun _ _ _ _ h9 H9 locs9 ls9 hR9 hl9 => ih h9 _ _ _ hR9 hl9) h _ _ _ hR (lv_sub hl [0, 1, 2, 3] rfl)
      · rw [if_pos c6] at h
        refine lv_aload_n hx hb dX7_can_31 rfl (lv_at hl 0 rfl) ?_
        refine mm_get hx hb hts hown hR 20 0 18 vl_20 (v := .ref (ra G 44 0)) rfl rfl iX7 (by decide) lk_151 rfl dX7_can_32 ?_
        refine lv_iload_n hx hb dX7_can_35 rfl (lv_at hl 3 rfl) ?_
        refine mm_ild hx hb hR 44 0 vl_44 (L := 24) rfl (okI_in z5) dX7_can_36 ?_
        refine lv_iload_n hx hb dX7_can_37 rfl (lv_at hl 2 rfl) ?_
        refine lv_icmp_ne (tgt := 69) hx hb dX7_can_38 (by decide) (fun c7 => ?_) (fun c7 => ?_)
        · rw [if_neg c7] at h
          exact L_X7_can_69 C0 (fun _ _ _ _ h9 H9 locs9 ls9 hR9 hl9 => ih h9 _ _ _ hR9 hl9) h _ _ _ hR (lv_sub hl [0, 1, 2, 3] rfl)
        · rw [if_pos c7] at h
          refine lv_aload_n hx hb dX7_can_41 rfl (lv_at hl 0 rfl) ?_
          refine mm_get hx hb hts hown hR 20 0 16 vl_20 (v := .ref (ra G 42 0)) rfl rfl iX7 (by decide) lk_169 rfl dX7_can_42 ?_
          refine lv_iload_n hx hb dX7_can_45 rfl (lv_at hl 3 rfl) ?_
          refine mm_ild hx hb hR 42 0 vl_42 (L := 24) rfl (okI_in z5) dX7_can_46 ?_
          refine lv_aload_n hx hb dX7_can_47 rfl (lv_at hl 0 rfl) ?_
          refine mm_get hx hb hts hown hR 20 0 16 vl_20 (v := .ref (ra G 42 0)) rfl rfl iX7 (by decide) lk_169 rfl dX7_can_48 ?_
          refine lv_iload_n hx hb dX7_can_51 rfl (lv_at hl 1 rfl) ?_
          obtain ⟨z8, h⟩ := mm_if h
          refine mm_ild hx hb hR 42 0 vl_42 (L := 24) rfl (okI_in z8) dX7_can_52 ?_
          refine lv_icmp_eq (tgt := 67) hx hb dX7_can_53 (by decide) (fun c9 => ?_) (fun c9 => ?_)
          · rw [if_pos c9] at h
            refine lv_iconst (v := 0) hx hb dX7_can_67 (by decide) ?_
            obtain ⟨rfl, rfl⟩ := mm_pr h
            exact mm_zret C0 rfl hR dX7_can_68
          · rw [if_neg c9] at h
            refine lv_aload_n hx hb dX7_can_56 rfl (lv_at hl 0 rfl) ?_
            refine mm_get hx hb hts hown hR 20 0 6 vl_20 (v := .ref (ra G 33 0)) rfl rfl iX7 (by decide) lk_171 rfl dX7_can_57 ?_
            refine lv_iload_n hx hb dX7_can_60 rfl (lv_at hl 2 rfl) ?_
            obtain ⟨z10, h⟩ := mm_if h
            refine mm_ild hx hb hR 33 0 vl_33 (L := 10) rfl (okI_in z10) dX7_can_61 ?_
            refine lv_bipush (v := 10) hx hb dX7_can_62 (by decide) ?_
            refine lv_icmp_ge (tgt := 69) hx hb dX7_can_64 (by decide) (fun c11 => ?_) (fun c11 => ?_)
            · rw [if_pos c11] at h
              exact L_X7_can_69 C0 (fun _ _ _ _ h9 H9 locs9 ls9 hR9 hl9 => ih h9 _ _ _ hR9 hl9) h _ _ _ hR (lv_sub hl [0, 1, 2, 3] rfl)
            · rw [if_neg c11] at h
              refine lv_iconst (v := 0) hx hb dX7_can_67 (by decide) ?_
              obtain ⟨rfl, rfl⟩ := mm_pr h
              exact mm_zret C0 rfl hR dX7_can_68
def S_X7_can (f : F3) (x1 : Int32) (x2 : Int32) : Option (Int32 × F3) := mm_b2 (S_X7_whyNot f x1 x2) fun r2 f1 => if r2 = 0 then (S_X7_can_13 FU f1 x1 x2 0) else (some (0, f1))
set_option maxHeartbeats 4000000 in
set_option maxRecDepth 100000 in
theorem T_X7_can (G : mmG) {f f' : F3} {rv : Int32} {x1 : Int32} {x2 : Int32} (h : S_X7_can f x1 x2 = some (rv, f')) : mmM G yX7_can cX7_can 4 (some .boolean) 5 [.ref (ra G 20 0), .int x1, .int x2] f (some (.int rv)) f' := by
  refine mm_start (by decide +kernel) (Nat.le_of_ble_eq_true rfl) ?_
  intro p e s m args below meth c ls C0 hR hl
  obtain ⟨hx, hb, hml, hr, hown, hts, hlocks⟩ := id C0
  have hl : lv_has ls 4 [(0, .ref (ra G 20 0)), (1, .int x1), (2, .int x2)] := hl
  rw [S_X7_can] at h
  refine lv_aload_n hx hb dX7_can_0 rfl (lv_at hl 0 rfl) ?_
  refine lv_iload_n hx hb dX7_can_1 rfl (lv_at hl 1 rfl) ?_
  refine lv_iload_n hx hb dX7_can_2 rfl (lv_at hl 2 rfl) ?_
  obtain ⟨r2, f1, ef1, h⟩ := mm_b2e h
  refine mm_callV (v := some (.int r2)) (f1 := f1) (d0 := 4) (rest := []) [.int x1, .int x2] C0 rfl hR 20 0 (T_X7_whyNot G ef1) ws_X7_whyNot lk_170 hd_X7_whyNot ⟨by decide, by decide⟩ vl_20 rfl rfl rfl hl.1 rfl (Nat.le_of_ble_eq_true rfl) dX7_can_3 (fun H locs hR => ?_)
  refine W.eq (g2 := F0 m 6 ls (.int r2 :: [])) rfl ?_
  refine lv_if_eq (tgt := 11) hx hb dX7_can_6 (by decide) (fun c3 => ?_) (fun c3 => ?_)
  · rw [if_pos c3] at h
    refine lv_iconst (v := 0) hx hb dX7_can_11 (by decide) ?_
    refine lv_istore_n (lv' := [(3, .int 0), (0, .ref (ra G 20 0)), (1, .int x1), (2, .int x2)]) hx hb dX7_can_12 rfl hl (by decide) rfl (fun ls hl => ?_)
    exact L_X7_can_13 C0 _ h _ _ _ hR (lv_sub hl [1, 2, 3, 0] rfl)
  · rw [if_neg c3] at h
    refine lv_iconst (v := 0) hx hb dX7_can_9 (by decide) ?_
    obtain ⟨rfl, rfl⟩ := mm_pr h
    exact mm_zret C0 rfl hR dX7_can_10
def S_X7_cell_86 (f : F3) (s1 : Int32) (s2 : Int32) : Option (Int32 × F3) := if okI s1 10 then (mm_let (up f 30 0 s1.toNatClampNeg s2) fun f19 => mm_let (up f19 20 0 2 ((f19 20 0 2) + 1)) fun f20 => some ((f20 20 0 2) - 1, f20)) else none
set_option maxHeartbeats 4000000 in
set_option maxRecDepth 100000 in
theorem L_X7_cell_86 {G : mmG} {p : Program} {e : Env} {s : State} {m : MethodId} {args : Array Value} {below : List Frame} {meth : Method} {c : Code} {f' : F3} {rv : Int32} (C0 : mmC yX7_cell cX7_cell 4 (some .int) p s m args meth c) {f : F3} {s1 : Int32} {s2 : Int32} (h : S_X7_cell_86 f s1 s2 = some (rv, f')) (H : Heap) (locs : List Loc) (ls : Array Slot) (hR : mm_R G mm_NT f (GG f) s H locs) (hl : lv_has ls 4 [(0, .ref (ra G 20 0))]) : W p G.1 e (mm_rm 1) s m args below meth c H locs 0 0 (MQ below (mm_Q G mm_NT (some (.int rv)) f' (GG f')) args s 0 0 (mm_A G)) (F0 m 86 ls [.int s2, .int s1, .ref (ra G 30 0)]) := by
  obtain ⟨hx, hb, hml, hr, hown, hts, hlocks⟩ := id C0
  rw [S_X7_cell_86] at h
  obtain ⟨z18, h⟩ := mm_if h
  obtain ⟨f19, ef19, h⟩ := mm_lt h
  refine mm_ist hx hb hR 30 0 (by decide) vl_30 (L := 10) (j := s1) (x := s2) (fun _ => rfl) (okI_in z18) dX7_cell_86 (fun H locs hR => ?_)
  rw [← ef19] at hR
  refine lv_aload_n hx hb dX7_cell_87 rfl (lv_at hl 0 rfl) ?_
  refine lv_dup hx hb dX7_cell_88 rfl ?_
  refine mm_get hx hb hts hown hR 20 0 2 vl_20 (v := .int (f19 20 0 2)) rfl rfl iX7 (by decide) lk_142 rfl dX7_cell_89 ?_
  refine lv_iconst (v := 1) hx hb dX7_cell_92 (by decide) ?_
  refine lv_iadd hx hb dX7_cell_93 ?_
  obtain ⟨f20, ef20, h⟩ := mm_lt h
  refine mm_put hx hb hts hown hR 20 0 2 (by decide) vl_20 (x := (f19 20 0 2) + 1) rfl rfl iX7 tyX7 tyX7_ok nmX7 (by decide) lk_142 rfl rfl rfl (Nat.le_of_ble_eq_true rfl) rfl dX7_cell_94 (fun H locs hR => ?_)
  rw [← ef20] at hR
  refine lv_aload_n hx hb dX7_cell_97 rfl (lv_at hl 0 rfl) ?_
  refine mm_get hx hb hts hown hR 20 0 2 vl_20 (v := .int (f20 20 0 2)) rfl rfl iX7 (by decide) lk_142 rfl dX7_cell_98 ?_
  refine lv_iconst (v := 1) hx hb dX7_cell_101 (by decide) ?_
  refine lv_isub hx hb dX7_cell_102 ?_
  obtain ⟨rfl, rfl⟩ := mm_pr h
  exact mm_iret C0 hR dX7_cell_103
def S_X7_cell_26 (f : F3)  : Option (Int32 × F3) := mm_b2 (S_X7_refuse f (-7)) fun r17 f16 => some (r17, f16)
set_option maxHeartbeats 4000000 in
set_option maxRecDepth 100000 in
theorem L_X7_cell_26 {G : mmG} {p : Program} {e : Env} {s : State} {m : MethodId} {args : Array Value} {below : List Frame} {meth : Method} {c : Code} {f' : F3} {rv : Int32} (C0 : mmC yX7_cell cX7_cell 4 (some .int) p s m args meth c) {f : F3} (h : S_X7_cell_26 f = some (rv, f')) (H : Heap) (locs : List Loc) (ls : Array Slot) (hR : mm_R G mm_NT f (GG f) s H locs) (hl : lv_has ls 4 [(0, .ref (ra G 20 0))]) : W p G.1 e (mm_rm 1) s m args below meth c H locs 0 0 (MQ below (mm_Q G mm_NT (some (.int rv)) f' (GG f')) args s 0 0 (mm_A G)) (F0 m 26 ls []) := by
  obtain ⟨hx, hb, hml, hr, hown, hts, hlocks⟩ := id C0
  rw [S_X7_cell_26] at h
  refine lv_aload_n hx hb dX7_cell_26 rfl (lv_at hl 0 rfl) ?_
  refine lv_bipush (v := (-7)) hx hb dX7_cell_27 (by decide) ?_
  obtain ⟨r17, f16, ef16, h⟩ := mm_b2e h
  refine mm_callV (v := some (.int r17)) (f1 := f16) (d0 := 0) (rest := []) [.int (-7)] C0 rfl hR 20 0 (T_X7_refuse G ef16) ws_X7_refuse lk_147 hd_X7_refuse ⟨by decide, by decide⟩ vl_20 rfl rfl rfl hl.1 rfl (Nat.le_of_ble_eq_true rfl) dX7_cell_29 (fun H locs hR => ?_)
  refine W.eq (g2 := F0 m 32 ls (.int r17 :: [])) rfl ?_
  obtain ⟨rfl, rfl⟩ := mm_pr h
  exact mm_iret C0 hR dX7_cell_32
def S_X7_cell (f : F3) (x1 : Int32) (x2 : Int32) (x3 : Int32) : Option (Int32 × F3) := mm_b2 (S_X7_in f x1 1 60) fun r2 f1 => if r2 = 0 then (S_X7_cell_26 f1 ) else (mm_b2 (S_X7_in f1 x2 1 4) fun r5 f4 => if r5 = 0 then (S_X7_cell_26 f4 ) else (if (f4 20 0 13) ≤ 0 then (if (f4 20 0 2) = 10 then (mm_b2 (S_X7_refuse f4 (-8)) fun r15 f14 => some (r15, f14)) else (if okI (f4 20 0 2) 10 then (mm_let (up f4 33 0 (f4 20 0 2).toNatClampNeg x1) fun f10 => if okI (f10 20 0 2) 10 then (mm_let (up f10 34 0 (f10 20 0 2).toNatClampNeg x2) fun f12 => if x3 = 0 then (S_X7_cell_86 f12 (f12 20 0 2) 0) else (S_X7_cell_86 f12 (f12 20 0 2) 4)) else none) else none)) else (S_X7_cell_26 f4 )))
set_option maxHeartbeats 4000000 in
set_option maxRecDepth 100000 in
theorem T_X7_cell (G : mmG) {f f' : F3} {rv : Int32} {x1 : Int32} {x2 : Int32} {x3 : Int32} (h : S_X7_cell f x1 x2 x3 = some (rv, f')) : mmM G yX7_cell cX7_cell 4 (some .int) 1 [.ref (ra G 20 0), .int x1, .int x2, .int x3] f (some (.int rv)) f' := by
  refine mm_start (by decide +kernel) (Nat.le_of_ble_eq_true rfl) ?_
  intro p e s m args below meth c ls C0 hR hl
  obtain ⟨hx, hb, hml, hr, hown, hts, hlocks⟩ := id C0
  have hl : lv_has ls 4 [(0, .ref (ra G 20 0)), (1, .int x1), (2, .int x2), (3, .int x3)] := hl
  rw [S_X7_cell] at h
  refine lv_iload_n hx hb dX7_cell_0 rfl (lv_at hl 1 rfl) ?_
  refine lv_iconst (v := 1) hx hb dX7_cell_1 (by decide) ?_
  refine lv_bipush (v := 60) hx hb dX7_cell_2 (by decide) ?_
  obtain ⟨r2, f1, ef1, h⟩ := mm_b2e h
  refine mm_callS (v := some (.int r2)) (f1 := f1) (d0 := 0) (rest := []) [.int x1, .int 1, .int 60] C0 rfl hR (T_X7_in G ef1) ws_X7_in lk_144 hd_X7_in ⟨by decide, by decide⟩ hl.1 rfl (Nat.le_of_ble_eq_true rfl) dX7_cell_4 (fun H locs hR => ?_)
  refine W.eq (g2 := F0 m 7 ls (.int r2 :: [])) rfl ?_
  refine lv_if_eq (tgt := 26) hx hb dX7_cell_7 (by decide) (fun c3 => ?_) (fun c3 => ?_)
  · rw [if_pos c3] at h
    exact L_X7_cell_26 C0 h _ _ _ hR (lv_sub hl [0] rfl)
  · rw [if_neg c3] at h
    refine lv_iload_n hx hb dX7_cell_10 rfl (lv_at hl 2 rfl) ?_
    refine lv_iconst (v := 1) hx hb dX7_cell_11 (by decide) ?_
    refine lv_iconst (v := 4) hx hb dX7_cell_12 (by decide) ?_
    obtain ⟨r5, f4, ef4, h⟩ := mm_b2e h
    refine mm_callS (v := some (.int r5)) (f1 := f4) (d0 := 0) (rest := []) [.int x2, .int 1, .int 4] C0 rfl hR (T_X7_in G ef4) ws_X7_in lk_144 hd_X7_in ⟨by decide, by decide⟩ hl.1 rfl (Nat.le_of_ble_eq_true rfl) dX7_cell_13 (fun H locs hR => ?_)
    refine W.eq (g2 := F0 m 16 ls (.int r5 :: [])) rfl ?_
    refine lv_if_eq (tgt := 26) hx hb dX7_cell_16 (by decide) (fun c6 => ?_) (fun c6 => ?_)
    · rw [if_pos c6] at h
      exact L_X7_cell_26 C0 h _ _ _ hR (lv_sub hl [0] rfl)
    · rw [if_neg c6] at h
      refine lv_aload_n hx hb dX7_cell_19 rfl (lv_at hl 0 rfl) ?_
      refine mm_get hx hb hts hown hR 20 0 13 vl_20 (v := .int (f4 20 0 13)) rfl rfl iX7 (by decide) lk_149 rfl dX7_cell_20 ?_
      refine lv_if_le (tgt := 33) hx hb dX7_cell_23 (by decide) (fun c7 => ?_) (fun c7 => ?_)
      · rw [if_pos c7] at h
        refine lv_aload_n hx hb dX7_cell_33 rfl (lv_at hl 0 rfl) ?_
        refine mm_get hx hb hts hown hR 20 0 2 vl_20 (v := .int (f4 20 0 2)) rfl rfl iX7 (by decide) lk_142 rfl dX7_cell_34 ?_
        refine lv_bipush (v := 10) hx hb dX7_cell_37 (by decide) ?_
        refine lv_icmp_ne (tgt := 49) hx hb dX7_cell_39 (by decide) (fun c8 => ?_) (fun c8 => ?_)
        · rw [if_neg c8] at h
          refine lv_aload_n hx hb dX7_cell_49 rfl (lv_at hl 0 rfl) ?_
          refine mm_get hx hb hts hown hR 20 0 6 vl_20 (v := .ref (ra G 33 0)) rfl rfl iX7 (by decide) lk_171 rfl dX7_cell_50 ?_
          refine lv_aload_n hx hb dX7_cell_53 rfl (lv_at hl 0 rfl) ?_
          refine mm_get hx hb hts hown hR 20 0 2 vl_20 (v := .int (f4 20 0 2)) rfl rfl iX7 (by decide) lk_142 rfl dX7_cell_54 ?_
          refine lv_iload_n hx hb dX7_cell_57 rfl (lv_at hl 1 rfl) ?_
          obtain ⟨z9, h⟩ := mm_if h
          obtain ⟨f10, ef10, h⟩ := mm_lt h
          refine mm_ist hx hb hR 33 0 (by decide) vl_33 (L := 10) (j := f4 20 0 2) (x := x1) (fun _ => rfl) (okI_in z9) dX7_cell_58 (fun H locs hR => ?_)
          rw [← ef10] at hR
          refine lv_aload_n hx hb dX7_cell_59 rfl (lv_at hl 0 rfl) ?_
          refine mm_get hx hb hts hown hR 20 0 7 vl_20 (v := .ref (ra G 34 0)) rfl rfl iX7 (by decide) lk_172 rfl dX7_cell_60 ?_
          refine lv_aload_n hx hb dX7_cell_63 rfl (lv_at hl 0 rfl) ?_
          refine mm_get hx hb hts hown hR 20 0 2 vl_20 (v := .int (f10 20 0 2)) rfl rfl iX7 (by decide) lk_142 rfl dX7_cell_64 ?_
          refine lv_iload_n hx hb dX7_cell_67 rfl (lv_at hl 2 rfl) ?_
          obtain ⟨z11, h⟩ := mm_if h
          obtain ⟨f12, ef12, h⟩ := mm_lt h
          refine mm_ist hx hb hR 34 0 (by decide) vl_34 (L := 10) (j := f10 20 0 2) (x := x2) (fun _ => rfl) (okI_in z11) dX7_cell_68 (fun H locs hR => ?_)
          rw [← ef12] at hR
          refine lv_aload_n hx hb dX7_cell_69 rfl (lv_at hl 0 rfl) ?_
          refine mm_get hx hb hts hown hR 20 0 3 vl_20 (v := .ref (ra G 30 0)) rfl rfl iX7 (by decide) lk_140 rfl dX7_cell_70 ?_
          refine lv_aload_n hx hb dX7_cell_73 rfl (lv_at hl 0 rfl) ?_
          refine mm_get hx hb hts hown hR 20 0 2 vl_20 (v := .int (f12 20 0 2)) rfl rfl iX7 (by decide) lk_142 rfl dX7_cell_74 ?_
          refine lv_iload_n hx hb dX7_cell_77 rfl (lv_at hl 3 rfl) ?_
          refine lv_if_eq (tgt := 85) hx hb dX7_cell_78 (by decide) (fun c13 => ?_) (fun c13 => ?_)
          · rw [if_pos c13] at h
            refine lv_iconst (v := 0) hx hb dX7_cell_85 (by decide) ?_
            exact L_X7_cell_86 C0 h _ _ _ hR (lv_sub hl [0] rfl)
          · rw [if_neg c13] at h
            refine lv_iconst (v := 4) hx hb dX7_cell_81 (by decide) ?_
            refine lv_goto (tgt := 86) hx hb dX7_cell_82 (by decide) ?_
            exact L_X7_cell_86 C0 h _ _ _ hR (lv_sub hl [0] rfl)
        · rw [if_pos c8] at h
          refine lv_aload_n hx hb dX7_cell_42 rfl (lv_at hl 0 rfl) ?_
          refine lv_bipush (v := (-8)) hx hb dX7_cell_43 (by decide) ?_
          obtain ⟨r15, f14, ef14, h⟩ := mm_b2e h
          refine mm_callV (v := some (.int r15)) (f1 := f14) (d0 := 0) (rest := []) [.int (-8)] C0 rfl hR 20 0 (T_X7_refuse G ef14) ws_X7_refuse lk_147 hd_X7_refuse ⟨by decide, by decide⟩ vl_20 rfl rfl rfl hl.1 rfl (Nat.le_of_ble_eq_true rfl) dX7_cell_45 (fun H locs hR => ?_)
          refine W.eq (g2 := F0 m 48 ls (.int r15 :: [])) rfl ?_
          obtain ⟨rfl, rfl⟩ := mm_pr h
          exact mm_iret C0 hR dX7_cell_48
      · rw [if_neg c7] at h
        exact L_X7_cell_26 C0 h _ _ _ hR (lv_sub hl [0] rfl)
def S_X7_cold_72 (k18 : F3 → Int32 → Int32 → Option (Int32 × F3)) (f : F3) (s0 : Int32) (s1 : Int32) (x2 : Int32) : Option (Int32 × F3) := k18 f (s0 + s1) (x2 + 1)
set_option maxHeartbeats 4000000 in
set_option maxRecDepth 100000 in
theorem L_X7_cold_72 {G : mmG} {p : Program} {e : Env} {s : State} {m : MethodId} {args : Array Value} {below : List Frame} {meth : Method} {c : Code} {f' : F3} {rv : Int32} (C0 : mmC yX7_cold cX7_cold 4 (some .int) p s m args meth c) {k18 : F3 → Int32 → Int32 → Option (Int32 × F3)} (hk18 : ∀ (f : F3) (x1 : Int32) (x2 : Int32), k18 f x1 x2 = some (rv, f') → ∀ (H : Heap) (locs : List Loc) (ls : Array Slot), mm_R G mm_NT f (GG f) s H locs → lv_has ls 4 [(0, .ref (ra G 20 0)), (1, .int x1), (2, .int x2)] → W p G.1 e (mm_rm 1) s m args below meth c H locs 0 0 (MQ below (mm_Q G mm_NT (some (.int rv)) f' (GG f')) args s 0 0 (mm_A G)) (F0 m 18 ls [])) {f : F3} {s0 : Int32} {s1 : Int32} {x2 : Int32} (h : S_X7_cold_72 k18 f s0 s1 x2 = some (rv, f')) (H : Heap) (locs : List Loc) (ls : Array Slot) (hR : mm_R G mm_NT f (GG f) s H locs) (hl : lv_has ls 4 [(0, .ref (ra G 20 0)), (2, .int x2)]) : W p G.1 e (mm_rm 1) s m args below meth c H locs 0 0 (MQ below (mm_Q G mm_NT (some (.int rv)) f' (GG f')) args s 0 0 (mm_A G)) (F0 m 72 ls [.int s1, .int s0]) := by
  obtain ⟨hx, hb, hml, hr, hown, hts, hlocks⟩ := id C0
  rw [S_X7_cold_72] at h
  refine lv_iadd hx hb dX7_cold_72 ?_
  refine lv_istore_n (lv' := [(1, .int (s0 + s1)), (0, .ref (ra G 20 0)), (2, .int x2)]) hx hb dX7_cold_73 rfl hl (by decide) rfl (fun ls hl => ?_)
  refine lv_iinc (v := x2 + 1) (lv' := [(2, .int (x2 + 1)), (1, .int (s0 + s1)), (0, .ref (ra G 20 0))]) hx hb dX7_cold_74 hl (k := 2) rfl rfl (by decide) rfl (fun ls hl => ?_)
  refine lv_goto (tgt := 18) hx hb dX7_cold_77 (by decide) ?_
  exact hk18 _ (s0 + s1) (x2 + 1)  h _ _ _ hR (lv_sub hl [2, 1, 0] rfl)
def S_X7_cold_61 (k18 : F3 → Int32 → Int32 → Option (Int32 × F3)) (f : F3) (s1 : Int32) (s2 : Int32) (x1 : Int32) (x2 : Int32) (x3 : Int32) : Option (Int32 × F3) := if okI s1 48 then (mm_let (up f 22 0 s1.toNatClampNeg s2) fun f10 => if x3 = 0 then (S_X7_cold_72 k18 f10 x1 0 x2) else (S_X7_cold_72 k18 f10 x1 1 x2)) else none
set_option maxHeartbeats 4000000 in
set_option maxRecDepth 100000 in
theorem L_X7_cold_61 {G : mmG} {p : Program} {e : Env} {s : State} {m : MethodId} {args : Array Value} {below : List Frame} {meth : Method} {c : Code} {f' : F3} {rv : Int32} (C0 : mmC yX7_cold cX7_cold 4 (some .int) p s m args meth c) {k18 : F3 → Int32 → Int32 → Option (Int32 × F3)} (hk18 : ∀ (f : F3) (x1 : Int32) (x2 : Int32), k18 f x1 x2 = some (rv, f') → ∀ (H : Heap) (locs : List Loc) (ls : Array Slot), mm_R G mm_NT f (GG f) s H locs → lv_has ls 4 [(0, .ref (ra G 20 0)), (1, .int x1), (2, .int x2)] → W p G.1 e (mm_rm 1) s m args below meth c H locs 0 0 (MQ below (mm_Q G mm_NT (some (.int rv)) f' (GG f')) args s 0 0 (mm_A G)) (F0 m 18 ls [])) {f : F3} {s1 : Int32} {s2 : Int32} {x1 : Int32} {x2 : Int32} {x3 : Int32} (h : S_X7_cold_61 k18 f s1 s2 x1 x2 x3 = some (rv, f')) (H : Heap) (locs : List Loc) (ls : Array Slot) (hR : mm_R G mm_NT f (GG f) s H locs) (hl : lv_has ls 4 [(0, .ref (ra G 20 0)), (1, .int x1), (2, .int x2), (3, .int x3)]) : W p G.1 e (mm_rm 1) s m args below meth c H locs 0 0 (MQ below (mm_Q G mm_NT (some (.int rv)) f' (GG f')) args s 0 0 (mm_A G)) (F0 m 61 ls [.int s2, .int s1, .ref (ra G 22 0)]) := by
  obtain ⟨hx, hb, hml, hr, hown, hts, hlocks⟩ := id C0
  rw [S_X7_cold_61] at h
  obtain ⟨z9, h⟩ := mm_if h
  obtain ⟨f10, ef10, h⟩ := mm_lt h
  refine mm_ist hx hb hR 22 0 (by decide) vl_22 (L := 48) (j := s1) (x := s2) (fun _ => rfl) (okI_in z9) dX7_cold_61 (fun H locs hR => ?_)
  rw [← ef10] at hR
  refine lv_iload_n hx hb dX7_cold_62 rfl (lv_at hl 1 rfl) ?_
  refine lv_iload_n hx hb dX7_cold_63 rfl (lv_at hl 3 rfl) ?_
  refine lv_if_eq (tgt := 71) hx hb dX7_cold_64 (by decide) (fun c11 => ?_) (fun c11 => ?_)
  · rw [if_pos c11] at h
    refine lv_iconst (v := 0) hx hb dX7_cold_71 (by decide) ?_
    exact L_X7_cold_72 C0 hk18 h _ _ _ hR (lv_sub hl [0, 2] rfl)
  · rw [if_neg c11] at h
    refine lv_iconst (v := 1) hx hb dX7_cold_67 (by decide) ?_
    refine lv_goto (tgt := 72) hx hb dX7_cold_68 (by decide) ?_
    exact L_X7_cold_72 C0 hk18 h _ _ _ hR (lv_sub hl [0, 2] rfl)
def S_X7_cold_18 : Nat → F3 → Int32 → Int32 → Option (Int32 × F3)
  | 0, _, _, _ => none
  | n + 1, f, x1, x2 => if 48 ≤ x2 then (some (x1, f)) else (if okI x2 48 then (mm_b2 (S_X7_in f (f 27 0 x2.toNatClampNeg) (-600) 300) fun r7 f6 => if r7 = 0 then (S_X7_cold_61 (fun f9 x1_ x2_ => S_X7_cold_18 n f9 x1_ x2_) f6 x2 (-9999) x1 x2 r7) else (S_X7_cold_61 (fun f9 x1_ x2_ => S_X7_cold_18 n f9 x1_ x2_) f6 x2 (f6 27 0 x2.toNatClampNeg) x1 x2 r7)) else none)
set_option maxHeartbeats 4000000 in
set_option maxRecDepth 100000 in
theorem L_X7_cold_18 {G : mmG} {p : Program} {e : Env} {s : State} {m : MethodId} {args : Array Value} {below : List Frame} {meth : Method} {c : Code} {f' : F3} {rv : Int32} (C0 : mmC yX7_cold cX7_cold 4 (some .int) p s m args meth c) : ∀ (n : Nat) {f : F3} {x1 : Int32} {x2 : Int32} , S_X7_cold_18 n f x1 x2 = some (rv, f') → ∀ (H : Heap) (locs : List Loc) (ls : Array Slot), mm_R G mm_NT f (GG f) s H locs → lv_has ls 4 [(0, .ref (ra G 20 0)), (1, .int x1), (2, .int x2)] → W p G.1 e (mm_rm 1) s m args below meth c H locs 0 0 (MQ below (mm_Q G mm_NT (some (.int rv)) f' (GG f')) args s 0 0 (mm_A G)) (F0 m 18 ls []) := by
  obtain ⟨hx, hb, hml, hr, hown, hts, hlocks⟩ := id C0
  intro n
  induction n with
  | zero =>
    intro f x1 x2  h H locs ls hR hl
    cases h
  | succ n ih =>
    intro f x1 x2  h H locs ls hR hl
    rw [S_X7_cold_18] at h
    refine lv_iload_n hx hb dX7_cold_18 rfl (lv_at hl 2 rfl) ?_
    refine lv_bipush (v := 48) hx hb dX7_cold_19 (by decide) ?_
    refine lv_icmp_ge (tgt := 80) hx hb dX7_cold_21 (by decide) (fun c4 => ?_) (fun c4 => ?_)
    · rw [if_pos c4] at h
      refine lv_iload_n hx hb dX7_cold_80 rfl (lv_at hl 1 rfl) ?_
      obtain ⟨rfl, rfl⟩ := mm_pr h
      exact mm_iret C0 hR dX7_cold_81
    · rw [if_neg c4] at h
      refine lv_aload_n hx hb dX7_cold_24 rfl (lv_at hl 0 rfl) ?_
      refine mm_get hx hb hts hown hR 20 0 32 vl_20 (v := .ref (ra G 27 0)) rfl rfl iX7 (by decide) lk_174 rfl dX7_cold_25 ?_
      refine lv_iload_n hx hb dX7_cold_28 rfl (lv_at hl 2 rfl) ?_
      obtain ⟨z5, h⟩ := mm_if h
      refine mm_ild hx hb hR 27 0 vl_27 (L := 48) rfl (okI_in z5) dX7_cold_29 ?_
      refine lv_sipush (v := (-600)) hx hb dX7_cold_30 (by decide) ?_
      refine lv_sipush (v := 300) hx hb dX7_cold_33 (by decide) ?_
      obtain ⟨r7, f6, ef6, h⟩ := mm_b2e h
      refine mm_callS (v := some (.int r7)) (f1 := f6) (d0 := 0) (rest := []) [.int (f 27 0 x2.toNatClampNeg), .int (-600), .int 300] C0 rfl hR (T_X7_in G ef6) ws_X7_in lk_144 hd_X7_in ⟨by decide, by decide⟩ hl.1 rfl (Nat.le_of_ble_eq_true rfl) dX7_cold_36 (fun H locs hR => ?_)
      refine W.eq (g2 := F0 m 39 ls (.int r7 :: [])) rfl ?_
      refine lv_istore_n (lv' := [(3, .int r7), (0, .ref (ra G 20 0)), (1, .int x1), (2, .int x2)]) hx hb dX7_cold_39 rfl hl (by decide) rfl (fun ls hl => ?_)
      refine lv_aload_n hx hb dX7_cold_40 rfl (lv_at hl 1 rfl) ?_
      refine mm_get hx hb hts hown hR 20 0 12 vl_20 (v := .ref (ra G 22 0)) rfl rfl iX7 (by decide) lk_156 rfl dX7_cold_41 ?_
      refine lv_iload_n hx hb dX7_cold_44 rfl (lv_at hl 3 rfl) ?_
      refine lv_iload_n hx hb dX7_cold_45 rfl (lv_at hl 0 rfl) ?_
      refine lv_if_eq (tgt := 58) hx hb dX7_cold_46 (by decide) (fun c8 => ?_) (fun c8 => ?_)
      · rw [if_pos c8] at h
        refine lv_sipush (v := (-9999)) hx hb dX7_cold_58 (by decide) ?_
        exact L_X7_cold_61 C0 (fun _ _ _ h9 H9 locs9 ls9 hR9 hl9 => ih h9 _ _ _ hR9 hl9) h _ _ _ hR (lv_sub hl [1, 2, 3, 0] rfl)
      · rw [if_neg c8] at h
        refine lv_aload_n hx hb dX7_cold_49 rfl (lv_at hl 1 rfl) ?_
        refine mm_get hx hb hts hown hR 20 0 32 vl_20 (v := .ref (ra G 27 0)) rfl rfl iX7 (by decide) lk_174 rfl dX7_cold_50 ?_
        refine lv_iload_n hx hb dX7_cold_53 rfl (lv_at hl 3 rfl) ?_
        refine mm_ild hx hb hR 27 0 vl_27 (L := 48) rfl (okI_in z5) dX7_cold_54 ?_
        refine lv_goto (tgt := 61) hx hb dX7_cold_55 (by decide) ?_
        exact L_X7_cold_61 C0 (fun _ _ _ h9 H9 locs9 ls9 hR9 hl9 => ih h9 _ _ _ hR9 hl9) h _ _ _ hR (lv_sub hl [1, 2, 3, 0] rfl)
def S_X7_cold (f : F3)  : Option (Int32 × F3) := if (f 20 0 31) = 0 then (mm_b2 (S_X7_refuse f (-2)) fun r3 f2 => some (r3, f2)) else (S_X7_cold_18 FU f 0 0)
set_option maxHeartbeats 4000000 in
set_option maxRecDepth 100000 in
theorem T_X7_cold (G : mmG) {f f' : F3} {rv : Int32} (h : S_X7_cold f = some (rv, f')) : mmM G yX7_cold cX7_cold 4 (some .int) 1 [.ref (ra G 20 0)] f (some (.int rv)) f' := by
  refine mm_start (by decide +kernel) (Nat.le_of_ble_eq_true rfl) ?_
  intro p e s m args below meth c ls C0 hR hl
  obtain ⟨hx, hb, hml, hr, hown, hts, hlocks⟩ := id C0
  have hl : lv_has ls 4 [(0, .ref (ra G 20 0))] := hl
  rw [S_X7_cold] at h
  refine lv_aload_n hx hb dX7_cold_0 rfl (lv_at hl 0 rfl) ?_
  refine mm_get hx hb hts hown hR 20 0 31 vl_20 (v := .int (f 20 0 31)) rfl rfl iX7 (by decide) lk_173 rfl dX7_cold_1 ?_
  refine lv_if_ne (tgt := 14) hx hb dX7_cold_4 (by decide) (fun c1 => ?_) (fun c1 => ?_)
  · rw [if_neg c1] at h
    refine lv_iconst (v := 0) hx hb dX7_cold_14 (by decide) ?_
    refine lv_istore_n (lv' := [(1, .int 0), (0, .ref (ra G 20 0))]) hx hb dX7_cold_15 rfl hl (by decide) rfl (fun ls hl => ?_)
    refine lv_iconst (v := 0) hx hb dX7_cold_16 (by decide) ?_
    refine lv_istore_n (lv' := [(2, .int 0), (1, .int 0), (0, .ref (ra G 20 0))]) hx hb dX7_cold_17 rfl hl (by decide) rfl (fun ls hl => ?_)
    exact L_X7_cold_18 C0 _ h _ _ _ hR (lv_sub hl [2, 1, 0] rfl)
  · rw [if_pos c1] at h
    refine lv_aload_n hx hb dX7_cold_7 rfl (lv_at hl 0 rfl) ?_
    refine lv_bipush (v := (-2)) hx hb dX7_cold_8 (by decide) ?_
    obtain ⟨r3, f2, ef2, h⟩ := mm_b2e h
    refine mm_callV (v := some (.int r3)) (f1 := f2) (d0 := 0) (rest := []) [.int (-2)] C0 rfl hR 20 0 (T_X7_refuse G ef2) ws_X7_refuse lk_147 hd_X7_refuse ⟨by decide, by decide⟩ vl_20 rfl rfl rfl hl.1 rfl (Nat.le_of_ble_eq_true rfl) dX7_cold_10 (fun H locs hR => ?_)
    refine W.eq (g2 := F0 m 13 ls (.int r3 :: [])) rfl ?_
    obtain ⟨rfl, rfl⟩ := mm_pr h
    exact mm_iret C0 hR dX7_cold_13
def S_X7_cracks (f : F3) (x1 : Int32) : Option F3 := Option.bind (S_X7_becomes f x1 3) fun f1 => if okI x1 10 then (mm_let (up f1 35 0 x1.toNatClampNeg 0) fun f3 => mm_let (up f3 36 0 x1.toNatClampNeg 0) fun f4 => some f4) else none
set_option maxHeartbeats 4000000 in
set_option maxRecDepth 100000 in
theorem T_X7_cracks (G : mmG) {f f' : F3} {x1 : Int32} (h : S_X7_cracks f x1 = some f') : mmM G yX7_cracks cX7_cracks 2 none 1 [.ref (ra G 20 0), .int x1] f none f' := by
  refine mm_start (by decide +kernel) (Nat.le_of_ble_eq_true rfl) ?_
  intro p e s m args below meth c ls C0 hR hl
  obtain ⟨hx, hb, hml, hr, hown, hts, hlocks⟩ := id C0
  have hl : lv_has ls 2 [(0, .ref (ra G 20 0)), (1, .int x1)] := hl
  rw [S_X7_cracks] at h
  refine lv_aload_n hx hb dX7_cracks_0 rfl (lv_at hl 0 rfl) ?_
  refine lv_iload_n hx hb dX7_cracks_1 rfl (lv_at hl 1 rfl) ?_
  refine lv_iconst (v := 3) hx hb dX7_cracks_2 (by decide) ?_
  obtain ⟨f1, ef1, h⟩ := mm_bind h
  refine mm_callV (v := none) (f1 := f1) (d0 := 0) (rest := []) [.int x1, .int 3] C0 rfl hR 20 0 (T_X7_becomes G ef1) ws_X7_becomes lk_153 hd_X7_becomes ⟨by decide, by decide⟩ vl_20 rfl rfl rfl hl.1 rfl (Nat.le_of_ble_eq_true rfl) dX7_cracks_3 (fun H locs hR => ?_)
  refine W.eq (g2 := F0 m 6 ls ([])) rfl ?_
  refine lv_aload_n hx hb dX7_cracks_6 rfl (lv_at hl 0 rfl) ?_
  refine mm_get hx hb hts hown hR 20 0 8 vl_20 (v := .ref (ra G 35 0)) rfl rfl iX7 (by decide) lk_155 rfl dX7_cracks_7 ?_
  refine lv_iload_n hx hb dX7_cracks_10 rfl (lv_at hl 1 rfl) ?_
  refine lv_iconst (v := 0) hx hb dX7_cracks_11 (by decide) ?_
  obtain ⟨z2, h⟩ := mm_if h
  obtain ⟨f3, ef3, h⟩ := mm_lt h
  refine mm_ist hx hb hR 35 0 (by decide) vl_35 (L := 10) (j := x1) (x := 0) (fun _ => rfl) (okI_in z2) dX7_cracks_12 (fun H locs hR => ?_)
  rw [← ef3] at hR
  refine lv_aload_n hx hb dX7_cracks_13 rfl (lv_at hl 0 rfl) ?_
  refine mm_get hx hb hts hown hR 20 0 9 vl_20 (v := .ref (ra G 36 0)) rfl rfl iX7 (by decide) lk_175 rfl dX7_cracks_14 ?_
  refine lv_iload_n hx hb dX7_cracks_17 rfl (lv_at hl 1 rfl) ?_
  refine lv_iconst (v := 0) hx hb dX7_cracks_18 (by decide) ?_
  obtain ⟨f4, ef4, h⟩ := mm_lt h
  refine mm_ist hx hb hR 36 0 (by decide) vl_36 (L := 10) (j := x1) (x := 0) (fun _ => rfl) (okI_in z2) dX7_cracks_19 (fun H locs hR => ?_)
  rw [← ef4] at hR
  obtain rfl := mm_p1 h
  exact mm_vret C0 hR dX7_cracks_20
def S_X7_comes (f : F3) (x1 : Int32) (x2 : Int32) : Option F3 := if okI x1 24 then (if okI ((2 * x2) + (f 42 0 x1.toNatClampNeg)) 20 then (mm_let (up f 38 0 ((2 * x2) + (f 42 0 x1.toNatClampNeg)).toNatClampNeg (f 20 0 1)) fun f3 => mm_b2 (S_X7_isBorne f3 x2 (f3 40 0 x1.toNatClampNeg)) fun r5 f4 => if r5 = 0 then (mm_let (up f4 43 0 x1.toNatClampNeg 3) fun f15 => mm_let (up f15 46 0 x1.toNatClampNeg (f15 20 0 1)) fun f16 => Option.bind (S_X7_cracks f16 x2) fun f17 => some f17) else (mm_let (up f4 43 0 x1.toNatClampNeg 1) fun f7 => mm_let (up f7 44 0 x1.toNatClampNeg x2) fun f8 => mm_let (up f8 45 0 x1.toNatClampNeg 0) fun f9 => if okI x2 10 then (mm_let (up f9 35 0 x2.toNatClampNeg ((f9 35 0 x2.toNatClampNeg) + (f9 40 0 x1.toNatClampNeg))) fun f11 => if (f11 30 0 x2.toNatClampNeg) = 4 then (some f11) else (if (f11 35 0 x2.toNatClampNeg) < (f11 31 0 x2.toNatClampNeg) then (some f11) else (Option.bind (S_X7_cracks f11 x2) fun f14 => some f14))) else none)) else none) else none
set_option maxHeartbeats 4000000 in
set_option maxRecDepth 100000 in
theorem T_X7_comes (G : mmG) {f f' : F3} {x1 : Int32} {x2 : Int32} (h : S_X7_comes f x1 x2 = some f') : mmM G yX7_comes cX7_comes 3 none 2 [.ref (ra G 20 0), .int x1, .int x2] f none f' := by
  refine mm_start (by decide +kernel) (Nat.le_of_ble_eq_true rfl) ?_
  intro p e s m args below meth c ls C0 hR hl
  obtain ⟨hx, hb, hml, hr, hown, hts, hlocks⟩ := id C0
  have hl : lv_has ls 3 [(0, .ref (ra G 20 0)), (1, .int x1), (2, .int x2)] := hl
  rw [S_X7_comes] at h
  refine lv_aload_n hx hb dX7_comes_0 rfl (lv_at hl 0 rfl) ?_
  refine mm_get hx hb hts hown hR 20 0 11 vl_20 (v := .ref (ra G 38 0)) rfl rfl iX7 (by decide) lk_168 rfl dX7_comes_1 ?_
  refine lv_iconst (v := 2) hx hb dX7_comes_4 (by decide) ?_
  refine lv_iload_n hx hb dX7_comes_5 rfl (lv_at hl 2 rfl) ?_
  refine lv_imul hx hb dX7_comes_6 ?_
  refine lv_aload_n hx hb dX7_comes_7 rfl (lv_at hl 0 rfl) ?_
  refine mm_get hx hb hts hown hR 20 0 16 vl_20 (v := .ref (ra G 42 0)) rfl rfl iX7 (by decide) lk_169 rfl dX7_comes_8 ?_
  refine lv_iload_n hx hb dX7_comes_11 rfl (lv_at hl 1 rfl) ?_
  obtain ⟨z1, h⟩ := mm_if h
  refine mm_ild hx hb hR 42 0 vl_42 (L := 24) rfl (okI_in z1) dX7_comes_12 ?_
  refine lv_iadd hx hb dX7_comes_13 ?_
  refine lv_aload_n hx hb dX7_comes_14 rfl (lv_at hl 0 rfl) ?_
  refine mm_get hx hb hts hown hR 20 0 1 vl_20 (v := .int (f 20 0 1)) rfl rfl iX7 (by decide) lk_157 rfl dX7_comes_15 ?_
  obtain ⟨z2, h⟩ := mm_if h
  obtain ⟨f3, ef3, h⟩ := mm_lt h
  refine mm_ist hx hb hR 38 0 (by decide) vl_38 (L := 20) (j := (2 * x2) + (f 42 0 x1.toNatClampNeg)) (x := f 20 0 1) (fun _ => rfl) (okI_in z2) dX7_comes_18 (fun H locs hR => ?_)
  rw [← ef3] at hR
  refine lv_aload_n hx hb dX7_comes_19 rfl (lv_at hl 0 rfl) ?_
  refine lv_iload_n hx hb dX7_comes_20 rfl (lv_at hl 2 rfl) ?_
  refine lv_aload_n hx hb dX7_comes_21 rfl (lv_at hl 0 rfl) ?_
  refine mm_get hx hb hts hown hR 20 0 14 vl_20 (v := .ref (ra G 40 0)) rfl rfl iX7 (by decide) lk_160 rfl dX7_comes_22 ?_
  refine lv_iload_n hx hb dX7_comes_25 rfl (lv_at hl 1 rfl) ?_
  refine mm_ild hx hb hR 40 0 vl_40 (L := 24) rfl (okI_in z1) dX7_comes_26 ?_
  obtain ⟨r5, f4, ef4, h⟩ := mm_b2e h
  refine mm_callV (v := some (.int r5)) (f1 := f4) (d0 := 0) (rest := []) [.int x2, .int (f3 40 0 x1.toNatClampNeg)] C0 rfl hR 20 0 (T_X7_isBorne G ef4) ws_X7_isBorne lk_143 hd_X7_isBorne ⟨by decide, by decide⟩ vl_20 rfl rfl rfl hl.1 rfl (Nat.le_of_ble_eq_true rfl) dX7_comes_27 (fun H locs hR => ?_)
  refine W.eq (g2 := F0 m 30 ls (.int r5 :: [])) rfl ?_
  refine lv_if_ne (tgt := 56) hx hb dX7_comes_30 (by decide) (fun c6 => ?_) (fun c6 => ?_)
  · rw [if_neg c6] at h
    refine lv_aload_n hx hb dX7_comes_56 rfl (lv_at hl 0 rfl) ?_
    refine mm_get hx hb hts hown hR 20 0 17 vl_20 (v := .ref (ra G 43 0)) rfl rfl iX7 (by decide) lk_150 rfl dX7_comes_57 ?_
    refine lv_iload_n hx hb dX7_comes_60 rfl (lv_at hl 1 rfl) ?_
    refine lv_iconst (v := 1) hx hb dX7_comes_61 (by decide) ?_
    obtain ⟨f7, ef7, h⟩ := mm_lt h
    refine mm_ist hx hb hR 43 0 (by decide) vl_43 (L := 24) (j := x1) (x := 1) (fun _ => rfl) (okI_in z1) dX7_comes_62 (fun H locs hR => ?_)
    rw [← ef7] at hR
    refine lv_aload_n hx hb dX7_comes_63 rfl (lv_at hl 0 rfl) ?_
    refine mm_get hx hb hts hown hR 20 0 18 vl_20 (v := .ref (ra G 44 0)) rfl rfl iX7 (by decide) lk_151 rfl dX7_comes_64 ?_
    refine lv_iload_n hx hb dX7_comes_67 rfl (lv_at hl 1 rfl) ?_
    refine lv_iload_n hx hb dX7_comes_68 rfl (lv_at hl 2 rfl) ?_
    obtain ⟨f8, ef8, h⟩ := mm_lt h
    refine mm_ist hx hb hR 44 0 (by decide) vl_44 (L := 24) (j := x1) (x := x2) (fun _ => rfl) (okI_in z1) dX7_comes_69 (fun H locs hR => ?_)
    rw [← ef8] at hR
    refine lv_aload_n hx hb dX7_comes_70 rfl (lv_at hl 0 rfl) ?_
    refine mm_get hx hb hts hown hR 20 0 19 vl_20 (v := .ref (ra G 45 0)) rfl rfl iX7 (by decide) lk_176 rfl dX7_comes_71 ?_
    refine lv_iload_n hx hb dX7_comes_74 rfl (lv_at hl 1 rfl) ?_
    refine lv_iconst (v := 0) hx hb dX7_comes_75 (by decide) ?_
    obtain ⟨f9, ef9, h⟩ := mm_lt h
    refine mm_ist hx hb hR 45 0 (by decide) vl_45 (L := 24) (j := x1) (x := 0) (fun _ => rfl) (okI_in z1) dX7_comes_76 (fun H locs hR => ?_)
    rw [← ef9] at hR
    refine lv_aload_n hx hb dX7_comes_77 rfl (lv_at hl 0 rfl) ?_
    refine mm_get hx hb hts hown hR 20 0 8 vl_20 (v := .ref (ra G 35 0)) rfl rfl iX7 (by decide) lk_155 rfl dX7_comes_78 ?_
    refine lv_iload_n hx hb dX7_comes_81 rfl (lv_at hl 2 rfl) ?_
    refine lv_dup2_11 hx hb dX7_comes_82 rfl rfl ?_
    obtain ⟨z10, h⟩ := mm_if h
    refine mm_ild hx hb hR 35 0 vl_35 (L := 10) rfl (okI_in z10) dX7_comes_83 ?_
    refine lv_aload_n hx hb dX7_comes_84 rfl (lv_at hl 0 rfl) ?_
    refine mm_get hx hb hts hown hR 20 0 14 vl_20 (v := .ref (ra G 40 0)) rfl rfl iX7 (by decide) lk_160 rfl dX7_comes_85 ?_
    refine lv_iload_n hx hb dX7_comes_88 rfl (lv_at hl 1 rfl) ?_
    refine mm_ild hx hb hR 40 0 vl_40 (L := 24) rfl (okI_in z1) dX7_comes_89 ?_
    refine lv_iadd hx hb dX7_comes_90 ?_
    obtain ⟨f11, ef11, h⟩ := mm_lt h
    refine mm_ist hx hb hR 35 0 (by decide) vl_35 (L := 10) (j := x2) (x := (f9 35 0 x2.toNatClampNeg) + (f9 40 0 x1.toNatClampNeg)) (fun _ => rfl) (okI_in z10) dX7_comes_91 (fun H locs hR => ?_)
    rw [← ef11] at hR
    refine lv_aload_n hx hb dX7_comes_92 rfl (lv_at hl 0 rfl) ?_
    refine mm_get hx hb hts hown hR 20 0 3 vl_20 (v := .ref (ra G 30 0)) rfl rfl iX7 (by decide) lk_140 rfl dX7_comes_93 ?_
    refine lv_iload_n hx hb dX7_comes_96 rfl (lv_at hl 2 rfl) ?_
    refine mm_ild hx hb hR 30 0 vl_30 (L := 10) rfl (okI_in z10) dX7_comes_97 ?_
    refine lv_iconst (v := 4) hx hb dX7_comes_98 (by decide) ?_
    refine lv_icmp_eq (tgt := 122) hx hb dX7_comes_99 (by decide) (fun c12 => ?_) (fun c12 => ?_)
    · rw [if_pos c12] at h
      obtain rfl := mm_p1 h
      exact mm_vret C0 hR dX7_comes_122
    · rw [if_neg c12] at h
      refine lv_aload_n hx hb dX7_comes_102 rfl (lv_at hl 0 rfl) ?_
      refine mm_get hx hb hts hown hR 20 0 8 vl_20 (v := .ref (ra G 35 0)) rfl rfl iX7 (by decide) lk_155 rfl dX7_comes_103 ?_
      refine lv_iload_n hx hb dX7_comes_106 rfl (lv_at hl 2 rfl) ?_
      refine mm_ild hx hb hR 35 0 vl_35 (L := 10) rfl (okI_in z10) dX7_comes_107 ?_
      refine lv_aload_n hx hb dX7_comes_108 rfl (lv_at hl 0 rfl) ?_
      refine mm_get hx hb hts hown hR 20 0 4 vl_20 (v := .ref (ra G 31 0)) rfl rfl iX7 (by decide) lk_141 rfl dX7_comes_109 ?_
      refine lv_iload_n hx hb dX7_comes_112 rfl (lv_at hl 2 rfl) ?_
      refine mm_ild hx hb hR 31 0 vl_31 (L := 10) rfl (okI_in z10) dX7_comes_113 ?_
      refine lv_icmp_lt (tgt := 122) hx hb dX7_comes_114 (by decide) (fun c13 => ?_) (fun c13 => ?_)
      · rw [if_pos c13] at h
        obtain rfl := mm_p1 h
        exact mm_vret C0 hR dX7_comes_122
      · rw [if_neg c13] at h
        refine lv_aload_n hx hb dX7_comes_117 rfl (lv_at hl 0 rfl) ?_
        refine lv_iload_n hx hb dX7_comes_118 rfl (lv_at hl 2 rfl) ?_
        obtain ⟨f14, ef14, h⟩ := mm_bind h
        refine mm_callV (v := none) (f1 := f14) (d0 := 1) (rest := []) [.int x2] C0 rfl hR 20 0 (T_X7_cracks G ef14) ws_X7_cracks lk_177 hd_X7_cracks ⟨by decide, by decide⟩ vl_20 rfl rfl rfl hl.1 rfl (Nat.le_of_ble_eq_true rfl) dX7_comes_119 (fun H locs hR => ?_)
        refine W.eq (g2 := F0 m 122 ls ([])) rfl ?_
        obtain rfl := mm_p1 h
        exact mm_vret C0 hR dX7_comes_122
  · rw [if_pos c6] at h
    refine lv_aload_n hx hb dX7_comes_33 rfl (lv_at hl 0 rfl) ?_
    refine mm_get hx hb hts hown hR 20 0 17 vl_20 (v := .ref (ra G 43 0)) rfl rfl iX7 (by decide) lk_150 rfl dX7_comes_34 ?_
    refine lv_iload_n hx hb dX7_comes_37 rfl (lv_at hl 1 rfl) ?_
    refine lv_iconst (v := 3) hx hb dX7_comes_38 (by decide) ?_
    obtain ⟨f15, ef15, h⟩ := mm_lt h
    refine mm_ist hx hb hR 43 0 (by decide) vl_43 (L := 24) (j := x1) (x := 3) (fun _ => rfl) (okI_in z1) dX7_comes_39 (fun H locs hR => ?_)
    rw [← ef15] at hR
    refine lv_aload_n hx hb dX7_comes_40 rfl (lv_at hl 0 rfl) ?_
    refine mm_get hx hb hts hown hR 20 0 20 vl_20 (v := .ref (ra G 46 0)) rfl rfl iX7 (by decide) lk_178 rfl dX7_comes_41 ?_
    refine lv_iload_n hx hb dX7_comes_44 rfl (lv_at hl 1 rfl) ?_
    refine lv_aload_n hx hb dX7_comes_45 rfl (lv_at hl 0 rfl) ?_
    refine mm_get hx hb hts hown hR 20 0 1 vl_20 (v := .int (f15 20 0 1)) rfl rfl iX7 (by decide) lk_157 rfl dX7_comes_46 ?_
    obtain ⟨f16, ef16, h⟩ := mm_lt h
    refine mm_ist hx hb hR 46 0 (by decide) vl_46 (L := 24) (j := x1) (x := f15 20 0 1) (fun _ => rfl) (okI_in z1) dX7_comes_49 (fun H locs hR => ?_)
    rw [← ef16] at hR
    refine lv_aload_n hx hb dX7_comes_50 rfl (lv_at hl 0 rfl) ?_
    refine lv_iload_n hx hb dX7_comes_51 rfl (lv_at hl 2 rfl) ?_
    obtain ⟨f17, ef17, h⟩ := mm_bind h
    refine mm_callV (v := none) (f1 := f17) (d0 := 1) (rest := []) [.int x2] C0 rfl hR 20 0 (T_X7_cracks G ef17) ws_X7_cracks lk_177 hd_X7_cracks ⟨by decide, by decide⟩ vl_20 rfl rfl rfl hl.1 rfl (Nat.le_of_ble_eq_true rfl) dX7_comes_52 (fun H locs hR => ?_)
    refine W.eq (g2 := F0 m 55 ls ([])) rfl ?_
    obtain rfl := mm_p1 h
    exact mm_vret C0 hR dX7_comes_55
def S_X7_copy_102 : Nat → F3 → Int32 → Int32 → Int32 → Option (Int32 × F3)
  | 0, _, _, _, _ => none
  | n + 1, f, x2, x3, x4 => if x3 ≤ x4 then (some (x3, f)) else (if okI x4 48 then (if okI (x2 + x4) 48 then (mm_let (up f 27 0 (x2 + x4).toNatClampNeg (f 28 0 x4.toNatClampNeg)) fun f22 => S_X7_copy_102 n f22 x2 x3 (x4 + 1)) else none) else none)
set_option maxHeartbeats 4000000 in
set_option maxRecDepth 100000 in
theorem L_X7_copy_102 {G : mmG} {p : Program} {e : Env} {s : State} {m : MethodId} {args : Array Value} {below : List Frame} {meth : Method} {c : Code} {f' : F3} {rv : Int32} (C0 : mmC yX7_copy cX7_copy 5 (some .int) p s m args meth c) : ∀ (n : Nat) {f : F3} {x2 : Int32} {x3 : Int32} {x4 : Int32} , S_X7_copy_102 n f x2 x3 x4 = some (rv, f') → ∀ (H : Heap) (locs : List Loc) (ls : Array Slot), mm_R G mm_NT f (GG f) s H locs → lv_has ls 5 [(0, .ref (ra G 20 0)), (2, .int x2), (3, .int x3), (4, .int x4)] → W p G.1 e (mm_rm 1) s m args below meth c H locs 0 0 (MQ below (mm_Q G mm_NT (some (.int rv)) f' (GG f')) args s 0 0 (mm_A G)) (F0 m 102 ls []) := by
  obtain ⟨hx, hb, hml, hr, hown, hts, hlocks⟩ := id C0
  intro n
  induction n with
  | zero =>
    intro f x2 x3 x4  h H locs ls hR hl
    cases h
  | succ n ih =>
    intro f x2 x3 x4  h H locs ls hR hl
    rw [S_X7_copy_102] at h
    refine lv_iload hx hb dX7_copy_102 (lv_at hl 3 rfl) ?_
    refine lv_iload_n hx hb dX7_copy_104 rfl (lv_at hl 2 rfl) ?_
    refine lv_icmp_ge (tgt := 130) hx hb dX7_copy_105 (by decide) (fun c19 => ?_) (fun c19 => ?_)
    · rw [if_pos c19] at h
      refine lv_iload_n hx hb dX7_copy_130 rfl (lv_at hl 2 rfl) ?_
      obtain ⟨rfl, rfl⟩ := mm_pr h
      exact mm_iret C0 hR dX7_copy_131
    · rw [if_neg c19] at h
      refine lv_aload_n hx hb dX7_copy_108 rfl (lv_at hl 0 rfl) ?_
      refine mm_get hx hb hts hown hR 20 0 32 vl_20 (v := .ref (ra G 27 0)) rfl rfl iX7 (by decide) lk_174 rfl dX7_copy_109 ?_
      refine lv_iload_n hx hb dX7_copy_112 rfl (lv_at hl 1 rfl) ?_
      refine lv_iload hx hb dX7_copy_113 (lv_at hl 3 rfl) ?_
      refine lv_iadd hx hb dX7_copy_115 ?_
      refine lv_aload_n hx hb dX7_copy_116 rfl (lv_at hl 0 rfl) ?_
      refine mm_get hx hb hts hown hR 20 0 33 vl_20 (v := .ref (ra G 28 0)) rfl rfl iX7 (by decide) lk_179 rfl dX7_copy_117 ?_
      refine lv_iload hx hb dX7_copy_120 (lv_at hl 3 rfl) ?_
      obtain ⟨z20, h⟩ := mm_if h
      refine mm_ild hx hb hR 28 0 vl_28 (L := 48) rfl (okI_in z20) dX7_copy_122 ?_
      obtain ⟨z21, h⟩ := mm_if h
      obtain ⟨f22, ef22, h⟩ := mm_lt h
      refine mm_ist hx hb hR 27 0 (by decide) vl_27 (L := 48) (j := x2 + x4) (x := f 28 0 x4.toNatClampNeg) (fun _ => rfl) (okI_in z21) dX7_copy_123 (fun H locs hR => ?_)
      rw [← ef22] at hR
      refine lv_iinc (v := x4 + 1) (lv' := [(4, .int (x4 + 1)), (0, .ref (ra G 20 0)), (2, .int x2), (3, .int x3)]) hx hb dX7_copy_124 hl (k := 3) rfl rfl (by decide) rfl (fun ls hl => ?_)
      refine lv_goto (tgt := 102) hx hb dX7_copy_127 (by decide) ?_
      exact ih  h _ _ _ hR (lv_sub hl [1, 2, 3, 0] rfl)
def S_X7_copy_71 : Nat → F3 → Int32 → Int32 → Int32 → Int32 → Option (Int32 × F3)
  | 0, _, _, _, _, _ => none
  | n + 1, f, x1, x2, x3, x4 => if x3 ≤ x4 then (S_X7_copy_102 FU f x2 x3 0) else (if okI (x1 + x4) 48 then (if okI x4 48 then (mm_let (up f 28 0 x4.toNatClampNeg (f 27 0 (x1 + x4).toNatClampNeg)) fun f18 => S_X7_copy_71 n f18 x1 x2 x3 (x4 + 1)) else none) else none)
set_option maxHeartbeats 4000000 in
set_option maxRecDepth 100000 in
theorem L_X7_copy_71 {G : mmG} {p : Program} {e : Env} {s : State} {m : MethodId} {args : Array Value} {below : List Frame} {meth : Method} {c : Code} {f' : F3} {rv : Int32} (C0 : mmC yX7_copy cX7_copy 5 (some .int) p s m args meth c) : ∀ (n : Nat) {f : F3} {x1 : Int32} {x2 : Int32} {x3 : Int32} {x4 : Int32} , S_X7_copy_71 n f x1 x2 x3 x4 = some (rv, f') → ∀ (H : Heap) (locs : List Loc) (ls : Array Slot), mm_R G mm_NT f (GG f) s H locs → lv_has ls 5 [(0, .ref (ra G 20 0)), (1, .int x1), (2, .int x2), (3, .int x3), (4, .int x4)] → W p G.1 e (mm_rm 1) s m args below meth c H locs 0 0 (MQ below (mm_Q G mm_NT (some (.int rv)) f' (GG f')) args s 0 0 (mm_A G)) (F0 m 71 ls []) := by
  obtain ⟨hx, hb, hml, hr, hown, hts, hlocks⟩ := id C0
  intro n
  induction n with
  | zero =>
    intro f x1 x2 x3 x4  h H locs ls hR hl
    cases h
  | succ n ih =>
    intro f x1 x2 x3 x4  h H locs ls hR hl
    rw [S_X7_copy_71] at h
    refine lv_iload hx hb dX7_copy_71 (lv_at hl 4 rfl) ?_
    refine lv_iload_n hx hb dX7_copy_73 rfl (lv_at hl 3 rfl) ?_
    refine lv_icmp_ge (tgt := 99) hx hb dX7_copy_74 (by decide) (fun c15 => ?_) (fun c15 => ?_)
    · rw [if_pos c15] at h
      refine lv_iconst (v := 0) hx hb dX7_copy_99 (by decide) ?_
      refine lv_istore (lv' := [(4, .int 0), (0, .ref (ra G 20 0)), (1, .int x1), (2, .int x2), (3, .int x3)]) hx hb dX7_copy_100 hl (by decide) rfl (fun ls hl => ?_)
      exact L_X7_copy_102 C0 _ h _ _ _ hR (lv_sub hl [1, 3, 4, 0] rfl)
    · rw [if_neg c15] at h
      refine lv_aload_n hx hb dX7_copy_77 rfl (lv_at hl 0 rfl) ?_
      refine mm_get hx hb hts hown hR 20 0 33 vl_20 (v := .ref (ra G 28 0)) rfl rfl iX7 (by decide) lk_179 rfl dX7_copy_78 ?_
      refine lv_iload hx hb dX7_copy_81 (lv_at hl 4 rfl) ?_
      refine lv_aload_n hx hb dX7_copy_83 rfl (lv_at hl 0 rfl) ?_
      refine mm_get hx hb hts hown hR 20 0 32 vl_20 (v := .ref (ra G 27 0)) rfl rfl iX7 (by decide) lk_174 rfl dX7_copy_84 ?_
      refine lv_iload_n hx hb dX7_copy_87 rfl (lv_at hl 1 rfl) ?_
      refine lv_iload hx hb dX7_copy_88 (lv_at hl 4 rfl) ?_
      refine lv_iadd hx hb dX7_copy_90 ?_
      obtain ⟨z16, h⟩ := mm_if h
      refine mm_ild hx hb hR 27 0 vl_27 (L := 48) rfl (okI_in z16) dX7_copy_91 ?_
      obtain ⟨z17, h⟩ := mm_if h
      obtain ⟨f18, ef18, h⟩ := mm_lt h
      refine mm_ist hx hb hR 28 0 (by decide) vl_28 (L := 48) (j := x4) (x := f 27 0 (x1 + x4).toNatClampNeg) (fun _ => rfl) (okI_in z17) dX7_copy_92 (fun H locs hR => ?_)
      rw [← ef18] at hR
      refine lv_iinc (v := x4 + 1) (lv' := [(4, .int (x4 + 1)), (0, .ref (ra G 20 0)), (1, .int x1), (2, .int x2), (3, .int x3)]) hx hb dX7_copy_93 hl (k := 4) rfl rfl (by decide) rfl (fun ls hl => ?_)
      refine lv_goto (tgt := 71) hx hb dX7_copy_96 (by decide) ?_
      exact ih  h _ _ _ hR (lv_sub hl [1, 2, 3, 4, 0] rfl)
def S_X7_copy_61 (f : F3)  : Option (Int32 × F3) := mm_b2 (S_X7_refuse f (-6)) fun r14 f13 => some (r14, f13)
set_option maxHeartbeats 4000000 in
set_option maxRecDepth 100000 in
theorem L_X7_copy_61 {G : mmG} {p : Program} {e : Env} {s : State} {m : MethodId} {args : Array Value} {below : List Frame} {meth : Method} {c : Code} {f' : F3} {rv : Int32} (C0 : mmC yX7_copy cX7_copy 5 (some .int) p s m args meth c) {f : F3} (h : S_X7_copy_61 f = some (rv, f')) (H : Heap) (locs : List Loc) (ls : Array Slot) (hR : mm_R G mm_NT f (GG f) s H locs) (hl : lv_has ls 5 [(0, .ref (ra G 20 0))]) : W p G.1 e (mm_rm 1) s m args below meth c H locs 0 0 (MQ below (mm_Q G mm_NT (some (.int rv)) f' (GG f')) args s 0 0 (mm_A G)) (F0 m 61 ls []) := by
  obtain ⟨hx, hb, hml, hr, hown, hts, hlocks⟩ := id C0
  rw [S_X7_copy_61] at h
  refine lv_aload_n hx hb dX7_copy_61 rfl (lv_at hl 0 rfl) ?_
  refine lv_bipush (v := (-6)) hx hb dX7_copy_62 (by decide) ?_
  obtain ⟨r14, f13, ef13, h⟩ := mm_b2e h
  refine mm_callV (v := some (.int r14)) (f1 := f13) (d0 := 0) (rest := []) [.int (-6)] C0 rfl hR 20 0 (T_X7_refuse G ef13) ws_X7_refuse lk_147 hd_X7_refuse ⟨by decide, by decide⟩ vl_20 rfl rfl rfl hl.1 rfl (Nat.le_of_ble_eq_true rfl) dX7_copy_64 (fun H locs hR => ?_)
  refine W.eq (g2 := F0 m 67 ls (.int r14 :: [])) rfl ?_
  obtain ⟨rfl, rfl⟩ := mm_pr h
  exact mm_iret C0 hR dX7_copy_67
def S_X7_copy (f : F3) (x1 : Int32) (x2 : Int32) (x3 : Int32) : Option (Int32 × F3) := if (f 20 0 31) = 0 then (mm_b2 (S_X7_refuse f (-2)) fun r12 f11 => some (r12, f11)) else (if 0 ≤ x3 then (if x1 < 0 then (S_X7_copy_61 f ) else (if x2 < 0 then (S_X7_copy_61 f ) else (if 48 < x1 then (S_X7_copy_61 f ) else (if 48 < x2 then (S_X7_copy_61 f ) else (if (48 - x1) < x3 then (S_X7_copy_61 f ) else (if x3 ≤ (48 - x2) then (S_X7_copy_71 FU f x1 x2 x3 0) else (S_X7_copy_61 f ))))))) else (mm_b2 (S_X7_refuse f (-4)) fun r10 f9 => some (r10, f9)))
set_option maxHeartbeats 4000000 in
set_option maxRecDepth 100000 in
theorem T_X7_copy (G : mmG) {f f' : F3} {rv : Int32} {x1 : Int32} {x2 : Int32} {x3 : Int32} (h : S_X7_copy f x1 x2 x3 = some (rv, f')) : mmM G yX7_copy cX7_copy 5 (some .int) 1 [.ref (ra G 20 0), .int x1, .int x2, .int x3] f (some (.int rv)) f' := by
  refine mm_start (by decide +kernel) (Nat.le_of_ble_eq_true rfl) ?_
  intro p e s m args below meth c ls C0 hR hl
  obtain ⟨hx, hb, hml, hr, hown, hts, hlocks⟩ := id C0
  have hl : lv_has ls 5 [(0, .ref (ra G 20 0)), (1, .int x1), (2, .int x2), (3, .int x3)] := hl
  rw [S_X7_copy] at h
  refine lv_aload_n hx hb dX7_copy_0 rfl (lv_at hl 0 rfl) ?_
  refine mm_get hx hb hts hown hR 20 0 31 vl_20 (v := .int (f 20 0 31)) rfl rfl iX7 (by decide) lk_173 rfl dX7_copy_1 ?_
  refine lv_if_ne (tgt := 14) hx hb dX7_copy_4 (by decide) (fun c1 => ?_) (fun c1 => ?_)
  · rw [if_neg c1] at h
    refine lv_iload_n hx hb dX7_copy_14 rfl (lv_at hl 3 rfl) ?_
    refine lv_if_ge (tgt := 25) hx hb dX7_copy_15 (by decide) (fun c2 => ?_) (fun c2 => ?_)
    · rw [if_pos c2] at h
      refine lv_iload_n hx hb dX7_copy_25 rfl (lv_at hl 1 rfl) ?_
      refine lv_if_lt (tgt := 61) hx hb dX7_copy_26 (by decide) (fun c3 => ?_) (fun c3 => ?_)
      · rw [if_pos c3] at h
        exact L_X7_copy_61 C0 h _ _ _ hR (lv_sub hl [0] rfl)
      · rw [if_neg c3] at h
        refine lv_iload_n hx hb dX7_copy_29 rfl (lv_at hl 2 rfl) ?_
        refine lv_if_lt (tgt := 61) hx hb dX7_copy_30 (by decide) (fun c4 => ?_) (fun c4 => ?_)
        · rw [if_pos c4] at h
          exact L_X7_copy_61 C0 h _ _ _ hR (lv_sub hl [0] rfl)
        · rw [if_neg c4] at h
          refine lv_iload_n hx hb dX7_copy_33 rfl (lv_at hl 1 rfl) ?_
          refine lv_bipush (v := 48) hx hb dX7_copy_34 (by decide) ?_
          refine lv_icmp_gt (tgt := 61) hx hb dX7_copy_36 (by decide) (fun c5 => ?_) (fun c5 => ?_)
          · rw [if_pos c5] at h
            exact L_X7_copy_61 C0 h _ _ _ hR (lv_sub hl [0] rfl)
          · rw [if_neg c5] at h
            refine lv_iload_n hx hb dX7_copy_39 rfl (lv_at hl 2 rfl) ?_
            refine lv_bipush (v := 48) hx hb dX7_copy_40 (by decide) ?_
            refine lv_icmp_gt (tgt := 61) hx hb dX7_copy_42 (by decide) (fun c6 => ?_) (fun c6 => ?_)
            · rw [if_pos c6] at h
              exact L_X7_copy_61 C0 h _ _ _ hR (lv_sub hl [0] rfl)
            · rw [if_neg c6] at h
              refine lv_iload_n hx hb dX7_copy_45 rfl (lv_at hl 3 rfl) ?_
              refine lv_bipush (v := 48) hx hb dX7_copy_46 (by decide) ?_
              refine lv_iload_n hx hb dX7_copy_48 rfl (lv_at hl 1 rfl) ?_
              refine lv_isub hx hb dX7_copy_49 ?_
              refine lv_icmp_gt (tgt := 61) hx hb dX7_copy_50 (by decide) (fun c7 => ?_) (fun c7 => ?_)
              · rw [if_pos c7] at h
                exact L_X7_copy_61 C0 h _ _ _ hR (lv_sub hl [0] rfl)
              · rw [if_neg c7] at h
                refine lv_iload_n hx hb dX7_copy_53 rfl (lv_at hl 3 rfl) ?_
                refine lv_bipush (v := 48) hx hb dX7_copy_54 (by decide) ?_
                refine lv_iload_n hx hb dX7_copy_56 rfl (lv_at hl 2 rfl) ?_
                refine lv_isub hx hb dX7_copy_57 ?_
                refine lv_icmp_le (tgt := 68) hx hb dX7_copy_58 (by decide) (fun c8 => ?_) (fun c8 => ?_)
                · rw [if_pos c8] at h
                  refine lv_iconst (v := 0) hx hb dX7_copy_68 (by decide) ?_
                  refine lv_istore (lv' := [(4, .int 0), (0, .ref (ra G 20 0)), (1, .int x1), (2, .int x2), (3, .int x3)]) hx hb dX7_copy_69 hl (by decide) rfl (fun ls hl => ?_)
                  exact L_X7_copy_71 C0 _ h _ _ _ hR (lv_sub hl [1, 2, 3, 4, 0] rfl)
                · rw [if_neg c8] at h
                  exact L_X7_copy_61 C0 h _ _ _ hR (lv_sub hl [0] rfl)
    · rw [if_neg c2] at h
      refine lv_aload_n hx hb dX7_copy_18 rfl (lv_at hl 0 rfl) ?_
      refine lv_bipush (v := (-4)) hx hb dX7_copy_19 (by decide) ?_
      obtain ⟨r10, f9, ef9, h⟩ := mm_b2e h
      refine mm_callV (v := some (.int r10)) (f1 := f9) (d0 := 0) (rest := []) [.int (-4)] C0 rfl hR 20 0 (T_X7_refuse G ef9) ws_X7_refuse lk_147 hd_X7_refuse ⟨by decide, by decide⟩ vl_20 rfl rfl rfl hl.1 rfl (Nat.le_of_ble_eq_true rfl) dX7_copy_21 (fun H locs hR => ?_)
      refine W.eq (g2 := F0 m 24 ls (.int r10 :: [])) rfl ?_
      obtain ⟨rfl, rfl⟩ := mm_pr h
      exact mm_iret C0 hR dX7_copy_24
  · rw [if_pos c1] at h
    refine lv_aload_n hx hb dX7_copy_7 rfl (lv_at hl 0 rfl) ?_
    refine lv_bipush (v := (-2)) hx hb dX7_copy_8 (by decide) ?_
    obtain ⟨r12, f11, ef11, h⟩ := mm_b2e h
    refine mm_callV (v := some (.int r12)) (f1 := f11) (d0 := 0) (rest := []) [.int (-2)] C0 rfl hR 20 0 (T_X7_refuse G ef11) ws_X7_refuse lk_147 hd_X7_refuse ⟨by decide, by decide⟩ vl_20 rfl rfl rfl hl.1 rfl (Nat.le_of_ble_eq_true rfl) dX7_copy_10 (fun H locs hR => ?_)
    refine W.eq (g2 := F0 m 13 ls (.int r12 :: [])) rfl ?_
    obtain ⟨rfl, rfl⟩ := mm_pr h
    exact mm_iret C0 hR dX7_copy_13
def S_X7_many_28 (k4 : F3 → Int32 → Int32 → Int32 → Option (Int32 × F3)) (f : F3) (s0 : Int32) (s1 : Int32) (x1 : Int32) (x3 : Int32) : Option (Int32 × F3) := k4 f x1 (s0 + s1) (x3 + 1)
set_option maxHeartbeats 4000000 in
set_option maxRecDepth 100000 in
theorem L_X7_many_28 {G : mmG} {p : Program} {e : Env} {s : State} {m : MethodId} {args : Array Value} {below : List Frame} {meth : Method} {c : Code} {f' : F3} {rv : Int32} (C0 : mmC yX7_many cX7_many 4 (some .int) p s m args meth c) {k4 : F3 → Int32 → Int32 → Int32 → Option (Int32 × F3)} (hk4 : ∀ (f : F3) (x1 : Int32) (x2 : Int32) (x3 : Int32), k4 f x1 x2 x3 = some (rv, f') → ∀ (H : Heap) (locs : List Loc) (ls : Array Slot), mm_R G mm_NT f (GG f) s H locs → lv_has ls 4 [(0, .ref (ra G 20 0)), (1, .int x1), (2, .int x2), (3, .int x3)] → W p G.1 e (mm_rm 0) s m args below meth c H locs 0 0 (MQ below (mm_Q G mm_NT (some (.int rv)) f' (GG f')) args s 0 0 (mm_A G)) (F0 m 4 ls [])) {f : F3} {s0 : Int32} {s1 : Int32} {x1 : Int32} {x3 : Int32} (h : S_X7_many_28 k4 f s0 s1 x1 x3 = some (rv, f')) (H : Heap) (locs : List Loc) (ls : Array Slot) (hR : mm_R G mm_NT f (GG f) s H locs) (hl : lv_has ls 4 [(0, .ref (ra G 20 0)), (1, .int x1), (3, .int x3)]) : W p G.1 e (mm_rm 0) s m args below meth c H locs 0 0 (MQ below (mm_Q G mm_NT (some (.int rv)) f' (GG f')) args s 0 0 (mm_A G)) (F0 m 28 ls [.int s1, .int s0]) := by
  obtain ⟨hx, hb, hml, hr, hown, hts, hlocks⟩ := id C0
  rw [S_X7_many_28] at h
  refine lv_iadd hx hb dX7_many_28 ?_
  refine lv_istore_n (lv' := [(2, .int (s0 + s1)), (0, .ref (ra G 20 0)), (1, .int x1), (3, .int x3)]) hx hb dX7_many_29 rfl hl (by decide) rfl (fun ls hl => ?_)
  refine lv_iinc (v := x3 + 1) (lv' := [(3, .int (x3 + 1)), (2, .int (s0 + s1)), (0, .ref (ra G 20 0)), (1, .int x1)]) hx hb dX7_many_30 hl (k := 3) rfl rfl (by decide) rfl (fun ls hl => ?_)
  refine lv_goto (tgt := 4) hx hb dX7_many_33 (by decide) ?_
  exact hk4 _ x1 (s0 + s1) (x3 + 1)  h _ _ _ hR (lv_sub hl [2, 3, 1, 0] rfl)
def S_X7_many_4 : Nat → F3 → Int32 → Int32 → Int32 → Option (Int32 × F3)
  | 0, _, _, _, _ => none
  | n + 1, f, x1, x2, x3 => if (f 20 0 13) ≤ x3 then (some (x2, f)) else (if okI x3 24 then (if (f 43 0 x3.toNatClampNeg) = x1 then (S_X7_many_28 (fun f9 x1_ x2_ x3_ => S_X7_many_4 n f9 x1_ x2_ x3_) f x2 1 x1 x3) else (S_X7_many_28 (fun f9 x1_ x2_ x3_ => S_X7_many_4 n f9 x1_ x2_ x3_) f x2 0 x1 x3)) else none)
set_option maxHeartbeats 4000000 in
set_option maxRecDepth 100000 in
theorem L_X7_many_4 {G : mmG} {p : Program} {e : Env} {s : State} {m : MethodId} {args : Array Value} {below : List Frame} {meth : Method} {c : Code} {f' : F3} {rv : Int32} (C0 : mmC yX7_many cX7_many 4 (some .int) p s m args meth c) : ∀ (n : Nat) {f : F3} {x1 : Int32} {x2 : Int32} {x3 : Int32} , S_X7_many_4 n f x1 x2 x3 = some (rv, f') → ∀ (H : Heap) (locs : List Loc) (ls : Array Slot), mm_R G mm_NT f (GG f) s H locs → lv_has ls 4 [(0, .ref (ra G 20 0)), (1, .int x1), (2, .int x2), (3, .int x3)] → W p G.1 e (mm_rm 0) s m args below meth c H locs 0 0 (MQ below (mm_Q G mm_NT (some (.int rv)) f' (GG f')) args s 0 0 (mm_A G)) (F0 m 4 ls []) := by
  obtain ⟨hx, hb, hml, hr, hown, hts, hlocks⟩ := id C0
  intro n
  induction n with
  | zero =>
    intro f x1 x2 x3  h H locs ls hR hl
    cases h
  | succ n ih =>
    intro f x1 x2 x3  h H locs ls hR hl
    rw [S_X7_many_4] at h
    refine lv_iload_n hx hb dX7_many_4 rfl (lv_at hl 3 rfl) ?_
    refine lv_aload_n hx hb dX7_many_5 rfl (lv_at hl 0 rfl) ?_
    refine mm_get hx hb hts hown hR 20 0 13 vl_20 (v := .int (f 20 0 13)) rfl rfl iX7 (by decide) lk_149 rfl dX7_many_6 ?_
    refine lv_icmp_ge (tgt := 36) hx hb dX7_many_9 (by decide) (fun c1 => ?_) (fun c1 => ?_)
    · rw [if_pos c1] at h
      refine lv_iload_n hx hb dX7_many_36 rfl (lv_at hl 2 rfl) ?_
      obtain ⟨rfl, rfl⟩ := mm_pr h
      exact mm_iret C0 hR dX7_many_37
    · rw [if_neg c1] at h
      refine lv_iload_n hx hb dX7_many_12 rfl (lv_at hl 2 rfl) ?_
      refine lv_aload_n hx hb dX7_many_13 rfl (lv_at hl 0 rfl) ?_
      refine mm_get hx hb hts hown hR 20 0 17 vl_20 (v := .ref (ra G 43 0)) rfl rfl iX7 (by decide) lk_150 rfl dX7_many_14 ?_
      refine lv_iload_n hx hb dX7_many_17 rfl (lv_at hl 3 rfl) ?_
      obtain ⟨z2, h⟩ := mm_if h
      refine mm_ild hx hb hR 43 0 vl_43 (L := 24) rfl (okI_in z2) dX7_many_18 ?_
      refine lv_iload_n hx hb dX7_many_19 rfl (lv_at hl 1 rfl) ?_
      refine lv_icmp_ne (tgt := 27) hx hb dX7_many_20 (by decide) (fun c3 => ?_) (fun c3 => ?_)
      · rw [if_neg c3] at h
        refine lv_iconst (v := 0) hx hb dX7_many_27 (by decide) ?_
        exact L_X7_many_28 C0 (fun _ _ _ _ h9 H9 locs9 ls9 hR9 hl9 => ih h9 _ _ _ hR9 hl9) h _ _ _ hR (lv_sub hl [0, 1, 3] rfl)
      · rw [if_pos c3] at h
        refine lv_iconst (v := 1) hx hb dX7_many_23 (by decide) ?_
        refine lv_goto (tgt := 28) hx hb dX7_many_24 (by decide) ?_
        exact L_X7_many_28 C0 (fun _ _ _ _ h9 H9 locs9 ls9 hR9 hl9 => ih h9 _ _ _ hR9 hl9) h _ _ _ hR (lv_sub hl [0, 1, 3] rfl)
def S_X7_many (f : F3) (x1 : Int32) : Option (Int32 × F3) := S_X7_many_4 FU f x1 0 0
set_option maxHeartbeats 4000000 in
set_option maxRecDepth 100000 in
theorem T_X7_many (G : mmG) {f f' : F3} {rv : Int32} {x1 : Int32} (h : S_X7_many f x1 = some (rv, f')) : mmM G yX7_many cX7_many 4 (some .int) 0 [.ref (ra G 20 0), .int x1] f (some (.int rv)) f' := by
  refine mm_start (by decide +kernel) (Nat.le_of_ble_eq_true rfl) ?_
  intro p e s m args below meth c ls C0 hR hl
  obtain ⟨hx, hb, hml, hr, hown, hts, hlocks⟩ := id C0
  have hl : lv_has ls 4 [(0, .ref (ra G 20 0)), (1, .int x1)] := hl
  rw [S_X7_many] at h
  refine lv_iconst (v := 0) hx hb dX7_many_0 (by decide) ?_
  refine lv_istore_n (lv' := [(2, .int 0), (0, .ref (ra G 20 0)), (1, .int x1)]) hx hb dX7_many_1 rfl hl (by decide) rfl (fun ls hl => ?_)
  refine lv_iconst (v := 0) hx hb dX7_many_2 (by decide) ?_
  refine lv_istore_n (lv' := [(3, .int 0), (2, .int 0), (0, .ref (ra G 20 0)), (1, .int x1)]) hx hb dX7_many_3 rfl hl (by decide) rfl (fun ls hl => ?_)
  exact L_X7_many_4 C0 _ h _ _ _ hR (lv_sub hl [2, 3, 1, 0] rfl)
def S_X7_count_106 (f : F3)  : Option (Int32 × F3) := mm_b2 (S_X7_refuse f (-7)) fun r19 f18 => some (r19, f18)
set_option maxHeartbeats 4000000 in
set_option maxRecDepth 100000 in
theorem L_X7_count_106 {G : mmG} {p : Program} {e : Env} {s : State} {m : MethodId} {args : Array Value} {below : List Frame} {meth : Method} {c : Code} {f' : F3} {rv : Int32} (C0 : mmC yX7_count cX7_count 2 (some .int) p s m args meth c) {f : F3} (h : S_X7_count_106 f = some (rv, f')) (H : Heap) (locs : List Loc) (ls : Array Slot) (hR : mm_R G mm_NT f (GG f) s H locs) (hl : lv_has ls 2 [(0, .ref (ra G 20 0))]) : W p G.1 e (mm_rm 1) s m args below meth c H locs 0 0 (MQ below (mm_Q G mm_NT (some (.int rv)) f' (GG f')) args s 0 0 (mm_A G)) (F0 m 106 ls []) := by
  obtain ⟨hx, hb, hml, hr, hown, hts, hlocks⟩ := id C0
  rw [S_X7_count_106] at h
  refine lv_aload_n hx hb dX7_count_106 rfl (lv_at hl 0 rfl) ?_
  refine lv_bipush (v := (-7)) hx hb dX7_count_107 (by decide) ?_
  obtain ⟨r19, f18, ef18, h⟩ := mm_b2e h
  refine mm_callV (v := some (.int r19)) (f1 := f18) (d0 := 0) (rest := []) [.int (-7)] C0 rfl hR 20 0 (T_X7_refuse G ef18) ws_X7_refuse lk_147 hd_X7_refuse ⟨by decide, by decide⟩ vl_20 rfl rfl rfl hl.1 rfl (Nat.le_of_ble_eq_true rfl) dX7_count_109 (fun H locs hR => ?_)
  refine W.eq (g2 := F0 m 112 ls (.int r19 :: [])) rfl ?_
  obtain ⟨rfl, rfl⟩ := mm_pr h
  exact mm_iret C0 hR dX7_count_112
def S_X7_count (f : F3) (x1 : Int32) : Option (Int32 × F3) := mm_b2 (S_X7_in f x1 5 9) fun r2 f1 => if r2 = 0 then (if x1 = 0 then (some (f1 20 0 1, f1)) else if x1 = 1 then (some (f1 20 0 2, f1)) else if x1 = 2 then (some (f1 20 0 13, f1)) else if x1 = 3 then (some (f1 20 0 21, f1)) else if x1 = 4 then (some (f1 20 0 27, f1)) else if x1 = 5 then (S_X7_count_106 f1 ) else if x1 = 6 then (S_X7_count_106 f1 ) else if x1 = 7 then (S_X7_count_106 f1 ) else if x1 = 8 then (S_X7_count_106 f1 ) else if x1 = 9 then (S_X7_count_106 f1 ) else if x1 = 10 then (some (f1 20 0 24, f1)) else (S_X7_count_106 f1 )) else (mm_b2 (S_X7_many f1 (x1 - 5)) fun r17 f16 => some (r17, f16))
set_option maxHeartbeats 4000000 in
set_option maxRecDepth 100000 in
theorem T_X7_count (G : mmG) {f f' : F3} {rv : Int32} {x1 : Int32} (h : S_X7_count f x1 = some (rv, f')) : mmM G yX7_count cX7_count 2 (some .int) 1 [.ref (ra G 20 0), .int x1] f (some (.int rv)) f' := by
  refine mm_start (by decide +kernel) (Nat.le_of_ble_eq_true rfl) ?_
  intro p e s m args below meth c ls C0 hR hl
  obtain ⟨hx, hb, hml, hr, hown, hts, hlocks⟩ := id C0
  have hl : lv_has ls 2 [(0, .ref (ra G 20 0)), (1, .int x1)] := hl
  rw [S_X7_count] at h
  refine lv_iload_n hx hb dX7_count_0 rfl (lv_at hl 1 rfl) ?_
  refine lv_iconst (v := 5) hx hb dX7_count_1 (by decide) ?_
  refine lv_bipush (v := 9) hx hb dX7_count_2 (by decide) ?_
  obtain ⟨r2, f1, ef1, h⟩ := mm_b2e h
  refine mm_callS (v := some (.int r2)) (f1 := f1) (d0 := 0) (rest := []) [.int x1, .int 5, .int 9] C0 rfl hR (T_X7_in G ef1) ws_X7_in lk_144 hd_X7_in ⟨by decide, by decide⟩ hl.1 rfl (Nat.le_of_ble_eq_true rfl) dX7_count_4 (fun H locs hR => ?_)
  refine W.eq (g2 := F0 m 7 ls (.int r2 :: [])) rfl ?_
  refine lv_if_eq (tgt := 18) hx hb dX7_count_7 (by decide) (fun c3 => ?_) (fun c3 => ?_)
  · rw [if_pos c3] at h
    refine lv_iload_n hx hb dX7_count_18 rfl (lv_at hl 1 rfl) ?_
    refine lv_topi (fun w4 ew4 => ?_)
    by_cases c5 : w4 = 0
    · rw [if_pos (ew4.symm.trans c5)] at h
      rw [c5]
      refine lv_tableIn (off := 57) (tgt := 76) hx hb dX7_count_19 (by decide) (by decide) (by decide +kernel) (by decide) ?_
      refine lv_aload_n hx hb dX7_count_76 rfl (lv_at hl 0 rfl) ?_
      refine mm_get hx hb hts hown hR 20 0 1 vl_20 (v := .int (f1 20 0 1)) rfl rfl iX7 (by decide) lk_157 rfl dX7_count_77 ?_
      obtain ⟨rfl, rfl⟩ := mm_pr h
      exact mm_iret C0 hR dX7_count_80
    rw [if_neg (fun q => c5 (ew4.trans q))] at h
    by_cases c6 : w4 = 1
    · rw [if_pos (ew4.symm.trans c6)] at h
      rw [c6]
      refine lv_tableIn (off := 62) (tgt := 81) hx hb dX7_count_19 (by decide) (by decide) (by decide +kernel) (by decide) ?_
      refine lv_aload_n hx hb dX7_count_81 rfl (lv_at hl 0 rfl) ?_
      refine mm_get hx hb hts hown hR 20 0 2 vl_20 (v := .int (f1 20 0 2)) rfl rfl iX7 (by decide) lk_142 rfl dX7_count_82 ?_
      obtain ⟨rfl, rfl⟩ := mm_pr h
      exact mm_iret C0 hR dX7_count_85
    rw [if_neg (fun q => c6 (ew4.trans q))] at h
    by_cases c7 : w4 = 2
    · rw [if_pos (ew4.symm.trans c7)] at h
      rw [c7]
      refine lv_tableIn (off := 67) (tgt := 86) hx hb dX7_count_19 (by decide) (by decide) (by decide +kernel) (by decide) ?_
      refine lv_aload_n hx hb dX7_count_86 rfl (lv_at hl 0 rfl) ?_
      refine mm_get hx hb hts hown hR 20 0 13 vl_20 (v := .int (f1 20 0 13)) rfl rfl iX7 (by decide) lk_149 rfl dX7_count_87 ?_
      obtain ⟨rfl, rfl⟩ := mm_pr h
      exact mm_iret C0 hR dX7_count_90
    rw [if_neg (fun q => c7 (ew4.trans q))] at h
    by_cases c8 : w4 = 3
    · rw [if_pos (ew4.symm.trans c8)] at h
      rw [c8]
      refine lv_tableIn (off := 72) (tgt := 91) hx hb dX7_count_19 (by decide) (by decide) (by decide +kernel) (by decide) ?_
      refine lv_aload_n hx hb dX7_count_91 rfl (lv_at hl 0 rfl) ?_
      refine mm_get hx hb hts hown hR 20 0 21 vl_20 (v := .int (f1 20 0 21)) rfl rfl iX7 (by decide) lk_163 rfl dX7_count_92 ?_
      obtain ⟨rfl, rfl⟩ := mm_pr h
      exact mm_iret C0 hR dX7_count_95
    rw [if_neg (fun q => c8 (ew4.trans q))] at h
    by_cases c9 : w4 = 4
    · rw [if_pos (ew4.symm.trans c9)] at h
      rw [c9]
      refine lv_tableIn (off := 77) (tgt := 96) hx hb dX7_count_19 (by decide) (by decide) (by decide +kernel) (by decide) ?_
      refine lv_aload_n hx hb dX7_count_96 rfl (lv_at hl 0 rfl) ?_
      refine mm_get hx hb hts hown hR 20 0 27 vl_20 (v := .int (f1 20 0 27)) rfl rfl iX7 (by decide) lk_180 rfl dX7_count_97 ?_
      obtain ⟨rfl, rfl⟩ := mm_pr h
      exact mm_iret C0 hR dX7_count_100
    rw [if_neg (fun q => c9 (ew4.trans q))] at h
    by_cases c10 : w4 = 5
    · rw [if_pos (ew4.symm.trans c10)] at h
      rw [c10]
      refine lv_tableIn (off := 87) (tgt := 106) hx hb dX7_count_19 (by decide) (by decide) (by decide +kernel) (by decide) ?_
      exact L_X7_count_106 C0 h _ _ _ hR (lv_sub hl [0] rfl)
    rw [if_neg (fun q => c10 (ew4.trans q))] at h
    by_cases c11 : w4 = 6
    · rw [if_pos (ew4.symm.trans c11)] at h
      rw [c11]
      refine lv_tableIn (off := 87) (tgt := 106) hx hb dX7_count_19 (by decide) (by decide) (by decide +kernel) (by decide) ?_
      exact L_X7_count_106 C0 h _ _ _ hR (lv_sub hl [0] rfl)
    rw [if_neg (fun q => c11 (ew4.trans q))] at h
    by_cases c12 : w4 = 7
    · rw [if_pos (ew4.symm.trans c12)] at h
      rw [c12]
      refine lv_tableIn (off := 87) (tgt := 106) hx hb dX7_count_19 (by decide) (by decide) (by decide +kernel) (by decide) ?_
      exact L_X7_count_106 C0 h _ _ _ hR (lv_sub hl [0] rfl)
    rw [if_neg (fun q => c12 (ew4.trans q))] at h
    by_cases c13 : w4 = 8
    · rw [if_pos (ew4.symm.trans c13)] at h
      rw [c13]
      refine lv_tableIn (off := 87) (tgt := 106) hx hb dX7_count_19 (by decide) (by decide) (by decide +kernel) (by decide) ?_
      exact L_X7_count_106 C0 h _ _ _ hR (lv_sub hl [0] rfl)
    rw [if_neg (fun q => c13 (ew4.trans q))] at h
    by_cases c14 : w4 = 9
    · rw [if_pos (ew4.symm.trans c14)] at h
      rw [c14]
      refine lv_tableIn (off := 87) (tgt := 106) hx hb dX7_count_19 (by decide) (by decide) (by decide +kernel) (by decide) ?_
      exact L_X7_count_106 C0 h _ _ _ hR (lv_sub hl [0] rfl)
    rw [if_neg (fun q => c14 (ew4.trans q))] at h
    by_cases c15 : w4 = 10
    · rw [if_pos (ew4.symm.trans c15)] at h
      rw [c15]
      refine lv_tableIn (off := 82) (tgt := 101) hx hb dX7_count_19 (by decide) (by decide) (by decide +kernel) (by decide) ?_
      refine lv_aload_n hx hb dX7_count_101 rfl (lv_at hl 0 rfl) ?_
      refine mm_get hx hb hts hown hR 20 0 24 vl_20 (v := .int (f1 20 0 24)) rfl rfl iX7 (by decide) lk_181 rfl dX7_count_102 ?_
      obtain ⟨rfl, rfl⟩ := mm_pr h
      exact mm_iret C0 hR dX7_count_105
    rw [if_neg (fun q => c15 (ew4.trans q))] at h
    have tc5 := lv_neT (a := 0) c5 (by decide)
    have tc6 := lv_neT (a := 1) c6 (by decide)
    have tc7 := lv_neT (a := 2) c7 (by decide)
    have tc8 := lv_neT (a := 3) c8 (by decide)
    have tc9 := lv_neT (a := 4) c9 (by decide)
    have tc10 := lv_neT (a := 5) c10 (by decide)
    have tc11 := lv_neT (a := 6) c11 (by decide)
    have tc12 := lv_neT (a := 7) c12 (by decide)
    have tc13 := lv_neT (a := 8) c13 (by decide)
    have tc14 := lv_neT (a := 9) c14 (by decide)
    have tc15 := lv_neT (a := 10) c15 (by decide)
    refine lv_tableOut (tgt := 106) hx hb dX7_count_19 (by omega) (by decide) ?_
    exact L_X7_count_106 C0 h _ _ _ hR (lv_sub hl [0] rfl)
  · rw [if_neg c3] at h
    refine lv_aload_n hx hb dX7_count_10 rfl (lv_at hl 0 rfl) ?_
    refine lv_iload_n hx hb dX7_count_11 rfl (lv_at hl 1 rfl) ?_
    refine lv_iconst (v := 5) hx hb dX7_count_12 (by decide) ?_
    refine lv_isub hx hb dX7_count_13 ?_
    obtain ⟨r17, f16, ef16, h⟩ := mm_b2e h
    refine mm_callV (v := some (.int r17)) (f1 := f16) (d0 := 0) (rest := []) [.int (x1 - 5)] C0 rfl hR 20 0 (T_X7_many G ef16) ws_X7_many lk_182 hd_X7_many ⟨by decide, by decide⟩ vl_20 rfl rfl rfl hl.1 rfl (Nat.le_of_ble_eq_true rfl) dX7_count_14 (fun H locs hR => ?_)
    refine W.eq (g2 := F0 m 17 ls (.int r17 :: [])) rfl ?_
    obtain ⟨rfl, rfl⟩ := mm_pr h
    exact mm_iret C0 hR dX7_count_17
def S_X7_here (f : F3)  : Option (Int32 × F3) := if (f 20 0 27) ≤ (f 20 0 28) then (some ((-1), f)) else (if okI (f 20 0 28) 80 then (some (f 26 0 (f 20 0 28).toNatClampNeg, f)) else none)
set_option maxHeartbeats 4000000 in
set_option maxRecDepth 100000 in
theorem T_X7_here (G : mmG) {f f' : F3} {rv : Int32} (h : S_X7_here f = some (rv, f')) : mmM G yX7_here cX7_here 1 (some .int) 0 [.ref (ra G 20 0)] f (some (.int rv)) f' := by
  refine mm_start (by decide +kernel) (Nat.le_of_ble_eq_true rfl) ?_
  intro p e s m args below meth c ls C0 hR hl
  obtain ⟨hx, hb, hml, hr, hown, hts, hlocks⟩ := id C0
  have hl : lv_has ls 1 [(0, .ref (ra G 20 0))] := hl
  rw [S_X7_here] at h
  refine lv_aload_n hx hb dX7_here_0 rfl (lv_at hl 0 rfl) ?_
  refine mm_get hx hb hts hown hR 20 0 28 vl_20 (v := .int (f 20 0 28)) rfl rfl iX7 (by decide) lk_183 rfl dX7_here_1 ?_
  refine lv_aload_n hx hb dX7_here_4 rfl (lv_at hl 0 rfl) ?_
  refine mm_get hx hb hts hown hR 20 0 27 vl_20 (v := .int (f 20 0 27)) rfl rfl iX7 (by decide) lk_180 rfl dX7_here_5 ?_
  refine lv_icmp_ge (tgt := 23) hx hb dX7_here_8 (by decide) (fun c1 => ?_) (fun c1 => ?_)
  · rw [if_pos c1] at h
    refine lv_iconst (v := (-1)) hx hb dX7_here_23 (by decide) ?_
    obtain ⟨rfl, rfl⟩ := mm_pr h
    exact mm_iret C0 hR dX7_here_24
  · rw [if_neg c1] at h
    refine lv_aload_n hx hb dX7_here_11 rfl (lv_at hl 0 rfl) ?_
    refine mm_get hx hb hts hown hR 20 0 26 vl_20 (v := .ref (ra G 26 0)) rfl rfl iX7 (by decide) lk_184 rfl dX7_here_12 ?_
    refine lv_aload_n hx hb dX7_here_15 rfl (lv_at hl 0 rfl) ?_
    refine mm_get hx hb hts hown hR 20 0 28 vl_20 (v := .int (f 20 0 28)) rfl rfl iX7 (by decide) lk_183 rfl dX7_here_16 ?_
    obtain ⟨z2, h⟩ := mm_if h
    refine mm_ild hx hb hR 26 0 vl_26 (L := 80) rfl (okI_in z2) dX7_here_19 ?_
    refine lv_goto (tgt := 24) hx hb dX7_here_20 (by decide) ?_
    obtain ⟨rfl, rfl⟩ := mm_pr h
    exact mm_iret C0 hR dX7_here_24
def S_X7_digits_85 (f : F3) (s1 : Int32) : Option F3 := if okB s1 then (mm_let (up f 20 0 29 s1) fun f16 => some f16) else none
set_option maxHeartbeats 4000000 in
set_option maxRecDepth 100000 in
theorem L_X7_digits_85 {G : mmG} {p : Program} {e : Env} {s : State} {m : MethodId} {args : Array Value} {below : List Frame} {meth : Method} {c : Code} {f' : F3} (C0 : mmC yX7_digits cX7_digits 2 none p s m args meth c) {f : F3} {s1 : Int32} (h : S_X7_digits_85 f s1 = some f') (H : Heap) (locs : List Loc) (ls : Array Slot) (hR : mm_R G mm_NT f (GG f) s H locs) (hl : lv_has ls 2 []) : W p G.1 e (mm_rm 1) s m args below meth c H locs 0 0 (MQ below (mm_Q G mm_NT none f' (GG f')) args s 0 0 (mm_A G)) (F0 m 85 ls [.int s1, .ref (ra G 20 0)]) := by
  obtain ⟨hx, hb, hml, hr, hown, hts, hlocks⟩ := id C0
  rw [S_X7_digits_85] at h
  obtain ⟨z15, h⟩ := mm_if h
  obtain ⟨f16, ef16, h⟩ := mm_lt h
  refine mm_put hx hb hts hown hR 20 0 29 (by decide) vl_20 (x := s1) rfl rfl iX7 tyX7 tyX7_ok nmX7 (by decide) lk_186 rfl (okB_n z15) (okB_f z15) (Nat.le_of_ble_eq_true rfl) rfl dX7_digits_85 (fun H locs hR => ?_)
  rw [← ef16] at hR
  obtain rfl := mm_p1 h
  exact mm_vret C0 hR dX7_digits_88
def S_X7_digits_80 (f : F3)  : Option F3 := S_X7_digits_85 f 1
set_option maxHeartbeats 4000000 in
set_option maxRecDepth 100000 in
theorem L_X7_digits_80 {G : mmG} {p : Program} {e : Env} {s : State} {m : MethodId} {args : Array Value} {below : List Frame} {meth : Method} {c : Code} {f' : F3} (C0 : mmC yX7_digits cX7_digits 2 none p s m args meth c) {f : F3} (h : S_X7_digits_80 f = some f') (H : Heap) (locs : List Loc) (ls : Array Slot) (hR : mm_R G mm_NT f (GG f) s H locs) (hl : lv_has ls 2 []) : W p G.1 e (mm_rm 1) s m args below meth c H locs 0 0 (MQ below (mm_Q G mm_NT none f' (GG f')) args s 0 0 (mm_A G)) (F0 m 80 ls [.ref (ra G 20 0)]) := by
  obtain ⟨hx, hb, hml, hr, hown, hts, hlocks⟩ := id C0
  rw [S_X7_digits_80] at h
  refine lv_iconst (v := 1) hx hb dX7_digits_80 (by decide) ?_
  refine lv_goto (tgt := 85) hx hb dX7_digits_81 (by decide) ?_
  exact L_X7_digits_85 C0 h _ _ _ hR (lv_sub hl [] rfl)
def S_X7_digits_68 (f : F3) (x1 : Int32) : Option F3 := if (f 20 0 29) = 0 then (if x1 = 0 then (S_X7_digits_80 f ) else (S_X7_digits_85 f 0)) else (S_X7_digits_80 f )
set_option maxHeartbeats 4000000 in
set_option maxRecDepth 100000 in
theorem L_X7_digits_68 {G : mmG} {p : Program} {e : Env} {s : State} {m : MethodId} {args : Array Value} {below : List Frame} {meth : Method} {c : Code} {f' : F3} (C0 : mmC yX7_digits cX7_digits 2 none p s m args meth c) {f : F3} {x1 : Int32} (h : S_X7_digits_68 f x1 = some f') (H : Heap) (locs : List Loc) (ls : Array Slot) (hR : mm_R G mm_NT f (GG f) s H locs) (hl : lv_has ls 2 [(0, .ref (ra G 20 0)), (1, .int x1)]) : W p G.1 e (mm_rm 1) s m args below meth c H locs 0 0 (MQ below (mm_Q G mm_NT none f' (GG f')) args s 0 0 (mm_A G)) (F0 m 68 ls []) := by
  obtain ⟨hx, hb, hml, hr, hown, hts, hlocks⟩ := id C0
  rw [S_X7_digits_68] at h
  refine lv_aload_n hx hb dX7_digits_68 rfl (lv_at hl 0 rfl) ?_
  refine lv_aload_n hx hb dX7_digits_69 rfl (lv_at hl 0 rfl) ?_
  refine mm_get hx hb hts hown hR 20 0 29 vl_20 (v := .int (f 20 0 29)) rfl rfl iX7 (by decide) lk_186 rfl dX7_digits_70 ?_
  refine lv_if_ne (tgt := 80) hx hb dX7_digits_73 (by decide) (fun c13 => ?_) (fun c13 => ?_)
  · rw [if_neg c13] at h
    exact L_X7_digits_80 C0 h _ _ _ hR (lv_sub hl [] rfl)
  · rw [if_pos c13] at h
    refine lv_iload_n hx hb dX7_digits_76 rfl (lv_at hl 1 rfl) ?_
    refine lv_if_ne (tgt := 84) hx hb dX7_digits_77 (by decide) (fun c14 => ?_) (fun c14 => ?_)
    · rw [if_neg c14] at h
      refine lv_iconst (v := 0) hx hb dX7_digits_84 (by decide) ?_
      exact L_X7_digits_85 C0 h _ _ _ hR (lv_sub hl [] rfl)
    · rw [if_pos c14] at h
      exact L_X7_digits_80 C0 h _ _ _ hR (lv_sub hl [] rfl)
def S_X7_digits_7 : Nat → F3 → Int32 → Option F3
  | 0, _, _ => none
  | n + 1, f, x1 => if (f 20 0 29) = 0 then (if 4 ≤ x1 then (S_X7_digits_68 f x1) else (mm_b2 (S_X7_here f) fun r5 f4 => mm_b2 (S_X7_in f4 r5 48 57) fun r7 f6 => if r7 = 0 then (S_X7_digits_68 f6 x1) else (mm_b2 (S_X7_here f6) fun r10 f9 => mm_let (up f9 20 0 30 (((10 * (f6 20 0 30)) + r10) - 48)) fun f11 => mm_let (up f11 20 0 28 ((f11 20 0 28) + 1)) fun f12 => S_X7_digits_7 n f12 (x1 + 1)))) else (S_X7_digits_68 f x1)
set_option maxHeartbeats 4000000 in
set_option maxRecDepth 100000 in
theorem L_X7_digits_7 {G : mmG} {p : Program} {e : Env} {s : State} {m : MethodId} {args : Array Value} {below : List Frame} {meth : Method} {c : Code} {f' : F3} (C0 : mmC yX7_digits cX7_digits 2 none p s m args meth c) : ∀ (n : Nat) {f : F3} {x1 : Int32} , S_X7_digits_7 n f x1 = some f' → ∀ (H : Heap) (locs : List Loc) (ls : Array Slot), mm_R G mm_NT f (GG f) s H locs → lv_has ls 2 [(0, .ref (ra G 20 0)), (1, .int x1)] → W p G.1 e (mm_rm 1) s m args below meth c H locs 0 0 (MQ below (mm_Q G mm_NT none f' (GG f')) args s 0 0 (mm_A G)) (F0 m 7 ls []) := by
  obtain ⟨hx, hb, hml, hr, hown, hts, hlocks⟩ := id C0
  intro n
  induction n with
  | zero =>
    intro f x1  h H locs ls hR hl
    cases h
  | succ n ih =>
    intro f x1  h H locs ls hR hl
    rw [S_X7_digits_7] at h
    refine lv_aload_n hx hb dX7_digits_7 rfl (lv_at hl 0 rfl) ?_
    refine mm_get hx hb hts hown hR 20 0 29 vl_20 (v := .int (f 20 0 29)) rfl rfl iX7 (by decide) lk_186 rfl dX7_digits_8 ?_
    refine lv_if_ne (tgt := 68) hx hb dX7_digits_11 (by decide) (fun c2 => ?_) (fun c2 => ?_)
    · rw [if_neg c2] at h
      exact L_X7_digits_68 C0 h _ _ _ hR (lv_sub hl [0, 1] rfl)
    · rw [if_pos c2] at h
      refine lv_iload_n hx hb dX7_digits_14 rfl (lv_at hl 1 rfl) ?_
      refine lv_iconst (v := 4) hx hb dX7_digits_15 (by decide) ?_
      refine lv_icmp_ge (tgt := 68) hx hb dX7_digits_16 (by decide) (fun c3 => ?_) (fun c3 => ?_)
      · rw [if_pos c3] at h
        exact L_X7_digits_68 C0 h _ _ _ hR (lv_sub hl [0, 1] rfl)
      · rw [if_neg c3] at h
        refine lv_aload_n hx hb dX7_digits_19 rfl (lv_at hl 0 rfl) ?_
        obtain ⟨r5, f4, ef4, h⟩ := mm_b2e h
        refine mm_callV (v := some (.int r5)) (f1 := f4) (d0 := 0) (rest := []) [] C0 rfl hR 20 0 (T_X7_here G ef4) ws_X7_here lk_187 hd_X7_here ⟨by decide, by decide⟩ vl_20 rfl rfl rfl hl.1 rfl (Nat.le_of_ble_eq_true rfl) dX7_digits_20 (fun H locs hR => ?_)
        refine W.eq (g2 := F0 m 23 ls (.int r5 :: [])) rfl ?_
        refine lv_bipush (v := 48) hx hb dX7_digits_23 (by decide) ?_
        refine lv_bipush (v := 57) hx hb dX7_digits_25 (by decide) ?_
        obtain ⟨r7, f6, ef6, h⟩ := mm_b2e h
        refine mm_callS (v := some (.int r7)) (f1 := f6) (d0 := 0) (rest := []) [.int r5, .int 48, .int 57] C0 rfl hR (T_X7_in G ef6) ws_X7_in lk_144 hd_X7_in ⟨by decide, by decide⟩ hl.1 rfl (Nat.le_of_ble_eq_true rfl) dX7_digits_27 (fun H locs hR => ?_)
        refine W.eq (g2 := F0 m 30 ls (.int r7 :: [])) rfl ?_
        refine lv_if_eq (tgt := 68) hx hb dX7_digits_30 (by decide) (fun c8 => ?_) (fun c8 => ?_)
        · rw [if_pos c8] at h
          exact L_X7_digits_68 C0 h _ _ _ hR (lv_sub hl [0, 1] rfl)
        · rw [if_neg c8] at h
          refine lv_aload_n hx hb dX7_digits_33 rfl (lv_at hl 0 rfl) ?_
          refine lv_bipush (v := 10) hx hb dX7_digits_34 (by decide) ?_
          refine lv_aload_n hx hb dX7_digits_36 rfl (lv_at hl 0 rfl) ?_
          refine mm_get hx hb hts hown hR 20 0 30 vl_20 (v := .int (f6 20 0 30)) rfl rfl iX7 (by decide) lk_185 rfl dX7_digits_37 ?_
          refine lv_imul hx hb dX7_digits_40 ?_
          refine lv_aload_n hx hb dX7_digits_41 rfl (lv_at hl 0 rfl) ?_
          obtain ⟨r10, f9, ef9, h⟩ := mm_b2e h
          refine mm_callV (v := some (.int r10)) (f1 := f9) (d0 := 0) (rest := [.int (10 * (f6 20 0 30)), .ref (ra G 20 0)]) [] C0 rfl hR 20 0 (T_X7_here G ef9) ws_X7_here lk_187 hd_X7_here ⟨by decide, by decide⟩ vl_20 rfl rfl rfl hl.1 rfl (Nat.le_of_ble_eq_true rfl) dX7_digits_42 (fun H locs hR => ?_)
          refine W.eq (g2 := F0 m 45 ls (.int r10 :: .int (10 * (f6 20 0 30)) :: .ref (ra G 20 0) :: [])) rfl ?_
          refine lv_iadd hx hb dX7_digits_45 ?_
          refine lv_bipush (v := 48) hx hb dX7_digits_46 (by decide) ?_
          refine lv_isub hx hb dX7_digits_48 ?_
          obtain ⟨f11, ef11, h⟩ := mm_lt h
          refine mm_put hx hb hts hown hR 20 0 30 (by decide) vl_20 (x := ((10 * (f6 20 0 30)) + r10) - 48) rfl rfl iX7 tyX7 tyX7_ok nmX7 (by decide) lk_185 rfl rfl rfl (Nat.le_of_ble_eq_true rfl) rfl dX7_digits_49 (fun H locs hR => ?_)
          rw [← ef11] at hR
          refine lv_aload_n hx hb dX7_digits_52 rfl (lv_at hl 0 rfl) ?_
          refine lv_dup hx hb dX7_digits_53 rfl ?_
          refine mm_get hx hb hts hown hR 20 0 28 vl_20 (v := .int (f11 20 0 28)) rfl rfl iX7 (by decide) lk_183 rfl dX7_digits_54 ?_
          refine lv_iconst (v := 1) hx hb dX7_digits_57 (by decide) ?_
          refine lv_iadd hx hb dX7_digits_58 ?_
          obtain ⟨f12, ef12, h⟩ := mm_lt h
          refine mm_put hx hb hts hown hR 20 0 28 (by decide) vl_20 (x := (f11 20 0 28) + 1) rfl rfl iX7 tyX7 tyX7_ok nmX7 (by decide) lk_183 rfl rfl rfl (Nat.le_of_ble_eq_true rfl) rfl dX7_digits_59 (fun H locs hR => ?_)
          rw [← ef12] at hR
          refine lv_iinc (v := x1 + 1) (lv' := [(1, .int (x1 + 1)), (0, .ref (ra G 20 0))]) hx hb dX7_digits_62 hl (k := 1) rfl rfl (by decide) rfl (fun ls hl => ?_)
          refine lv_goto (tgt := 7) hx hb dX7_digits_65 (by decide) ?_
          exact ih  h _ _ _ hR (lv_sub hl [1, 0] rfl)
def S_X7_digits (f : F3)  : Option F3 := mm_let (up f 20 0 30 0) fun f1 => S_X7_digits_7 FU f1 0
set_option maxHeartbeats 4000000 in
set_option maxRecDepth 100000 in
theorem T_X7_digits (G : mmG) {f f' : F3} (h : S_X7_digits f = some f') : mmM G yX7_digits cX7_digits 2 none 1 [.ref (ra G 20 0)] f none f' := by
  refine mm_start (by decide +kernel) (Nat.le_of_ble_eq_true rfl) ?_
  intro p e s m args below meth c ls C0 hR hl
  obtain ⟨hx, hb, hml, hr, hown, hts, hlocks⟩ := id C0
  have hl : lv_has ls 2 [(0, .ref (ra G 20 0))] := hl
  rw [S_X7_digits] at h
  refine lv_aload_n hx hb dX7_digits_0 rfl (lv_at hl 0 rfl) ?_
  refine lv_iconst (v := 0) hx hb dX7_digits_1 (by decide) ?_
  obtain ⟨f1, ef1, h⟩ := mm_lt h
  refine mm_put hx hb hts hown hR 20 0 30 (by decide) vl_20 (x := 0) rfl rfl iX7 tyX7 tyX7_ok nmX7 (by decide) lk_185 rfl rfl rfl (Nat.le_of_ble_eq_true rfl) rfl dX7_digits_2 (fun H locs hR => ?_)
  rw [← ef1] at hR
  refine lv_iconst (v := 0) hx hb dX7_digits_5 (by decide) ?_
  refine lv_istore_n (lv' := [(1, .int 0), (0, .ref (ra G 20 0))]) hx hb dX7_digits_6 rfl hl (by decide) rfl (fun ls hl => ?_)
  exact L_X7_digits_7 C0 _ h _ _ _ hR (lv_sub hl [1, 0] rfl)
def S_X7_eats_28 (f : F3)  : Option F3 := mm_let (up f 20 0 29 1) fun f6 => some f6
set_option maxHeartbeats 4000000 in
set_option maxRecDepth 100000 in
theorem L_X7_eats_28 {G : mmG} {p : Program} {e : Env} {s : State} {m : MethodId} {args : Array Value} {below : List Frame} {meth : Method} {c : Code} {f' : F3} (C0 : mmC yX7_eats cX7_eats 2 none p s m args meth c) {f : F3} (h : S_X7_eats_28 f = some f') (H : Heap) (locs : List Loc) (ls : Array Slot) (hR : mm_R G mm_NT f (GG f) s H locs) (hl : lv_has ls 2 [(0, .ref (ra G 20 0))]) : W p G.1 e (mm_rm 1) s m args below meth c H locs 0 0 (MQ below (mm_Q G mm_NT none f' (GG f')) args s 0 0 (mm_A G)) (F0 m 28 ls []) := by
  obtain ⟨hx, hb, hml, hr, hown, hts, hlocks⟩ := id C0
  rw [S_X7_eats_28] at h
  refine lv_aload_n hx hb dX7_eats_28 rfl (lv_at hl 0 rfl) ?_
  refine lv_iconst (v := 1) hx hb dX7_eats_29 (by decide) ?_
  obtain ⟨f6, ef6, h⟩ := mm_lt h
  refine mm_put hx hb hts hown hR 20 0 29 (by decide) vl_20 (x := 1) rfl rfl iX7 tyX7 tyX7_ok nmX7 (by decide) lk_186 rfl rfl rfl (Nat.le_of_ble_eq_true rfl) rfl dX7_eats_30 (fun H locs hR => ?_)
  rw [← ef6] at hR
  obtain rfl := mm_p1 h
  exact mm_vret C0 hR dX7_eats_33
def S_X7_eats (f : F3) (x1 : Int32) : Option F3 := if (f 20 0 29) = 0 then (mm_b2 (S_X7_here f) fun r3 f2 => if r3 = x1 then (mm_let (up f2 20 0 28 ((f2 20 0 28) + 1)) fun f5 => some f5) else (S_X7_eats_28 f2 )) else (S_X7_eats_28 f )
set_option maxHeartbeats 4000000 in
set_option maxRecDepth 100000 in
theorem T_X7_eats (G : mmG) {f f' : F3} {x1 : Int32} (h : S_X7_eats f x1 = some f') : mmM G yX7_eats cX7_eats 2 none 1 [.ref (ra G 20 0), .int x1] f none f' := by
  refine mm_start (by decide +kernel) (Nat.le_of_ble_eq_true rfl) ?_
  intro p e s m args below meth c ls C0 hR hl
  obtain ⟨hx, hb, hml, hr, hown, hts, hlocks⟩ := id C0
  have hl : lv_has ls 2 [(0, .ref (ra G 20 0)), (1, .int x1)] := hl
  rw [S_X7_eats] at h
  refine lv_aload_n hx hb dX7_eats_0 rfl (lv_at hl 0 rfl) ?_
  refine mm_get hx hb hts hown hR 20 0 29 vl_20 (v := .int (f 20 0 29)) rfl rfl iX7 (by decide) lk_186 rfl dX7_eats_1 ?_
  refine lv_if_ne (tgt := 28) hx hb dX7_eats_4 (by decide) (fun c1 => ?_) (fun c1 => ?_)
  · rw [if_neg c1] at h
    exact L_X7_eats_28 C0 h _ _ _ hR (lv_sub hl [0] rfl)
  · rw [if_pos c1] at h
    refine lv_aload_n hx hb dX7_eats_7 rfl (lv_at hl 0 rfl) ?_
    obtain ⟨r3, f2, ef2, h⟩ := mm_b2e h
    refine mm_callV (v := some (.int r3)) (f1 := f2) (d0 := 0) (rest := []) [] C0 rfl hR 20 0 (T_X7_here G ef2) ws_X7_here lk_187 hd_X7_here ⟨by decide, by decide⟩ vl_20 rfl rfl rfl hl.1 rfl (Nat.le_of_ble_eq_true rfl) dX7_eats_8 (fun H locs hR => ?_)
    refine W.eq (g2 := F0 m 11 ls (.int r3 :: [])) rfl ?_
    refine lv_iload_n hx hb dX7_eats_11 rfl (lv_at hl 1 rfl) ?_
    refine lv_icmp_ne (tgt := 28) hx hb dX7_eats_12 (by decide) (fun c4 => ?_) (fun c4 => ?_)
    · rw [if_neg c4] at h
      exact L_X7_eats_28 C0 h _ _ _ hR (lv_sub hl [0] rfl)
    · rw [if_pos c4] at h
      refine lv_aload_n hx hb dX7_eats_15 rfl (lv_at hl 0 rfl) ?_
      refine lv_dup hx hb dX7_eats_16 rfl ?_
      refine mm_get hx hb hts hown hR 20 0 28 vl_20 (v := .int (f2 20 0 28)) rfl rfl iX7 (by decide) lk_183 rfl dX7_eats_17 ?_
      refine lv_iconst (v := 1) hx hb dX7_eats_20 (by decide) ?_
      refine lv_iadd hx hb dX7_eats_21 ?_
      obtain ⟨f5, ef5, h⟩ := mm_lt h
      refine mm_put hx hb hts hown hR 20 0 28 (by decide) vl_20 (x := (f2 20 0 28) + 1) rfl rfl iX7 tyX7 tyX7_ok nmX7 (by decide) lk_183 rfl rfl rfl (Nat.le_of_ble_eq_true rfl) rfl dX7_eats_22 (fun H locs hR => ?_)
      rw [← ef5] at hR
      refine lv_goto (tgt := 33) hx hb dX7_eats_25 (by decide) ?_
      obtain rfl := mm_p1 h
      exact mm_vret C0 hR dX7_eats_33
def S_X7_eats3 (f : F3) (x1 : Int32) (x2 : Int32) (x3 : Int32) : Option F3 := Option.bind (S_X7_eats f x1) fun f1 => Option.bind (S_X7_eats f1 x2) fun f2 => Option.bind (S_X7_eats f2 x3) fun f3 => some f3
set_option maxHeartbeats 4000000 in
set_option maxRecDepth 100000 in
theorem T_X7_eats3 (G : mmG) {f f' : F3} {x1 : Int32} {x2 : Int32} {x3 : Int32} (h : S_X7_eats3 f x1 x2 x3 = some f') : mmM G yX7_eats3 cX7_eats3 4 none 2 [.ref (ra G 20 0), .int x1, .int x2, .int x3] f none f' := by
  refine mm_start (by decide +kernel) (Nat.le_of_ble_eq_true rfl) ?_
  intro p e s m args below meth c ls C0 hR hl
  obtain ⟨hx, hb, hml, hr, hown, hts, hlocks⟩ := id C0
  have hl : lv_has ls 4 [(0, .ref (ra G 20 0)), (1, .int x1), (2, .int x2), (3, .int x3)] := hl
  rw [S_X7_eats3] at h
  refine lv_aload_n hx hb dX7_eats3_0 rfl (lv_at hl 0 rfl) ?_
  refine lv_iload_n hx hb dX7_eats3_1 rfl (lv_at hl 1 rfl) ?_
  obtain ⟨f1, ef1, h⟩ := mm_bind h
  refine mm_callV (v := none) (f1 := f1) (d0 := 1) (rest := []) [.int x1] C0 rfl hR 20 0 (T_X7_eats G ef1) ws_X7_eats lk_188 hd_X7_eats ⟨by decide, by decide⟩ vl_20 rfl rfl rfl hl.1 rfl (Nat.le_of_ble_eq_true rfl) dX7_eats3_2 (fun H locs hR => ?_)
  refine W.eq (g2 := F0 m 5 ls ([])) rfl ?_
  refine lv_aload_n hx hb dX7_eats3_5 rfl (lv_at hl 0 rfl) ?_
  refine lv_iload_n hx hb dX7_eats3_6 rfl (lv_at hl 2 rfl) ?_
  obtain ⟨f2, ef2, h⟩ := mm_bind h
  refine mm_callV (v := none) (f1 := f2) (d0 := 1) (rest := []) [.int x2] C0 rfl hR 20 0 (T_X7_eats G ef2) ws_X7_eats lk_188 hd_X7_eats ⟨by decide, by decide⟩ vl_20 rfl rfl rfl hl.1 rfl (Nat.le_of_ble_eq_true rfl) dX7_eats3_7 (fun H locs hR => ?_)
  refine W.eq (g2 := F0 m 10 ls ([])) rfl ?_
  refine lv_aload_n hx hb dX7_eats3_10 rfl (lv_at hl 0 rfl) ?_
  refine lv_iload_n hx hb dX7_eats3_11 rfl (lv_at hl 3 rfl) ?_
  obtain ⟨f3, ef3, h⟩ := mm_bind h
  refine mm_callV (v := none) (f1 := f3) (d0 := 1) (rest := []) [.int x3] C0 rfl hR 20 0 (T_X7_eats G ef3) ws_X7_eats lk_188 hd_X7_eats ⟨by decide, by decide⟩ vl_20 rfl rfl rfl hl.1 rfl (Nat.le_of_ble_eq_true rfl) dX7_eats3_12 (fun H locs hR => ?_)
  refine W.eq (g2 := F0 m 15 ls ([])) rfl ?_
  obtain rfl := mm_p1 h
  exact mm_vret C0 hR dX7_eats3_15
def S_X7_feed_45 : Nat → F3 → Int32 → Int32 → Option (Int32 × F3)
  | 0, _, _, _ => none
  | n + 1, f, x1, x3 => if x3 < 0 then (some (f 20 0 27, f)) else (if okI (f 20 0 27) 80 then (mm_let (up f 26 0 (f 20 0 27).toNatClampNeg ((x1 >>> ((8 * x3) &&& 31)) &&& 255)) fun f12 => mm_let (up f12 20 0 27 ((f12 20 0 27) + 1)) fun f13 => S_X7_feed_45 n f13 x1 (x3 + (-1))) else none)
set_option maxHeartbeats 4000000 in
set_option maxRecDepth 100000 in
theorem L_X7_feed_45 {G : mmG} {p : Program} {e : Env} {s : State} {m : MethodId} {args : Array Value} {below : List Frame} {meth : Method} {c : Code} {f' : F3} {rv : Int32} (C0 : mmC yX7_feed cX7_feed 4 (some .int) p s m args meth c) : ∀ (n : Nat) {f : F3} {x1 : Int32} {x3 : Int32} , S_X7_feed_45 n f x1 x3 = some (rv, f') → ∀ (H : Heap) (locs : List Loc) (ls : Array Slot), mm_R G mm_NT f (GG f) s H locs → lv_has ls 4 [(0, .ref (ra G 20 0)), (1, .int x1), (3, .int x3)] → W p G.1 e (mm_rm 1) s m args below meth c H locs 0 0 (MQ below (mm_Q G mm_NT (some (.int rv)) f' (GG f')) args s 0 0 (mm_A G)) (F0 m 45 ls []) := by
  obtain ⟨hx, hb, hml, hr, hown, hts, hlocks⟩ := id C0
  intro n
  induction n with
  | zero =>
    intro f x1 x3  h H locs ls hR hl
    cases h
  | succ n ih =>
    intro f x1 x3  h H locs ls hR hl
    rw [S_X7_feed_45] at h
    refine lv_iload_n hx hb dX7_feed_45 rfl (lv_at hl 2 rfl) ?_
    refine lv_if_lt (tgt := 84) hx hb dX7_feed_46 (by decide) (fun c10 => ?_) (fun c10 => ?_)
    · rw [if_pos c10] at h
      refine lv_aload_n hx hb dX7_feed_84 rfl (lv_at hl 0 rfl) ?_
      refine mm_get hx hb hts hown hR 20 0 27 vl_20 (v := .int (f 20 0 27)) rfl rfl iX7 (by decide) lk_180 rfl dX7_feed_85 ?_
      obtain ⟨rfl, rfl⟩ := mm_pr h
      exact mm_iret C0 hR dX7_feed_88
    · rw [if_neg c10] at h
      refine lv_aload_n hx hb dX7_feed_49 rfl (lv_at hl 0 rfl) ?_
      refine mm_get hx hb hts hown hR 20 0 26 vl_20 (v := .ref (ra G 26 0)) rfl rfl iX7 (by decide) lk_184 rfl dX7_feed_50 ?_
      refine lv_aload_n hx hb dX7_feed_53 rfl (lv_at hl 0 rfl) ?_
      refine mm_get hx hb hts hown hR 20 0 27 vl_20 (v := .int (f 20 0 27)) rfl rfl iX7 (by decide) lk_180 rfl dX7_feed_54 ?_
      refine lv_iload_n hx hb dX7_feed_57 rfl (lv_at hl 1 rfl) ?_
      refine lv_bipush (v := 8) hx hb dX7_feed_58 (by decide) ?_
      refine lv_iload_n hx hb dX7_feed_60 rfl (lv_at hl 2 rfl) ?_
      refine lv_imul hx hb dX7_feed_61 ?_
      refine lv_ishr hx hb dX7_feed_62 ?_
      refine lv_sipush (v := 255) hx hb dX7_feed_63 (by decide) ?_
      refine lv_iand hx hb dX7_feed_66 ?_
      obtain ⟨z11, h⟩ := mm_if h
      obtain ⟨f12, ef12, h⟩ := mm_lt h
      refine mm_ist hx hb hR 26 0 (by decide) vl_26 (L := 80) (j := f 20 0 27) (x := (x1 >>> ((8 * x3) &&& 31)) &&& 255) (fun _ => rfl) (okI_in z11) dX7_feed_67 (fun H locs hR => ?_)
      rw [← ef12] at hR
      refine lv_aload_n hx hb dX7_feed_68 rfl (lv_at hl 0 rfl) ?_
      refine lv_dup hx hb dX7_feed_69 rfl ?_
      refine mm_get hx hb hts hown hR 20 0 27 vl_20 (v := .int (f12 20 0 27)) rfl rfl iX7 (by decide) lk_180 rfl dX7_feed_70 ?_
      refine lv_iconst (v := 1) hx hb dX7_feed_73 (by decide) ?_
      refine lv_iadd hx hb dX7_feed_74 ?_
      obtain ⟨f13, ef13, h⟩ := mm_lt h
      refine mm_put hx hb hts hown hR 20 0 27 (by decide) vl_20 (x := (f12 20 0 27) + 1) rfl rfl iX7 tyX7 tyX7_ok nmX7 (by decide) lk_180 rfl rfl rfl (Nat.le_of_ble_eq_true rfl) rfl dX7_feed_75 (fun H locs hR => ?_)
      rw [← ef13] at hR
      refine lv_iinc (v := x3 + (-1)) (lv' := [(3, .int (x3 + (-1))), (0, .ref (ra G 20 0)), (1, .int x1)]) hx hb dX7_feed_78 hl (k := 2) rfl rfl (by decide) rfl (fun ls hl => ?_)
      refine lv_goto (tgt := 45) hx hb dX7_feed_81 (by decide) ?_
      exact ih  h _ _ _ hR (lv_sub hl [1, 2, 0] rfl)
def S_X7_feed (f : F3) (x1 : Int32) (x2 : Int32) : Option (Int32 × F3) := if 0 ≤ x2 then (if x2 ≤ 4 then (if ((f 20 0 27) + x2) ≤ 80 then (S_X7_feed_45 FU f x1 (x2 - 1)) else (mm_b2 (S_X7_refuse f (-8)) fun r5 f4 => some (r5, f4))) else (mm_b2 (S_X7_refuse f (-7)) fun r7 f6 => some (r7, f6))) else (mm_b2 (S_X7_refuse f (-4)) fun r9 f8 => some (r9, f8))
set_option maxHeartbeats 4000000 in
set_option maxRecDepth 100000 in
theorem T_X7_feed (G : mmG) {f f' : F3} {rv : Int32} {x1 : Int32} {x2 : Int32} (h : S_X7_feed f x1 x2 = some (rv, f')) : mmM G yX7_feed cX7_feed 4 (some .int) 1 [.ref (ra G 20 0), .int x1, .int x2] f (some (.int rv)) f' := by
  refine mm_start (by decide +kernel) (Nat.le_of_ble_eq_true rfl) ?_
  intro p e s m args below meth c ls C0 hR hl
  obtain ⟨hx, hb, hml, hr, hown, hts, hlocks⟩ := id C0
  have hl : lv_has ls 4 [(0, .ref (ra G 20 0)), (1, .int x1), (2, .int x2)] := hl
  rw [S_X7_feed] at h
  refine lv_iload_n hx hb dX7_feed_0 rfl (lv_at hl 2 rfl) ?_
  refine lv_if_ge (tgt := 11) hx hb dX7_feed_1 (by decide) (fun c1 => ?_) (fun c1 => ?_)
  · rw [if_pos c1] at h
    refine lv_iload_n hx hb dX7_feed_11 rfl (lv_at hl 2 rfl) ?_
    refine lv_iconst (v := 4) hx hb dX7_feed_12 (by decide) ?_
    refine lv_icmp_le (tgt := 23) hx hb dX7_feed_13 (by decide) (fun c2 => ?_) (fun c2 => ?_)
    · rw [if_pos c2] at h
      refine lv_aload_n hx hb dX7_feed_23 rfl (lv_at hl 0 rfl) ?_
      refine mm_get hx hb hts hown hR 20 0 27 vl_20 (v := .int (f 20 0 27)) rfl rfl iX7 (by decide) lk_180 rfl dX7_feed_24 ?_
      refine lv_iload_n hx hb dX7_feed_27 rfl (lv_at hl 2 rfl) ?_
      refine lv_iadd hx hb dX7_feed_28 ?_
      refine lv_bipush (v := 80) hx hb dX7_feed_29 (by decide) ?_
      refine lv_icmp_le (tgt := 41) hx hb dX7_feed_31 (by decide) (fun c3 => ?_) (fun c3 => ?_)
      · rw [if_pos c3] at h
        refine lv_iload_n hx hb dX7_feed_41 rfl (lv_at hl 2 rfl) ?_
        refine lv_iconst (v := 1) hx hb dX7_feed_42 (by decide) ?_
        refine lv_isub hx hb dX7_feed_43 ?_
        refine lv_istore_n (lv' := [(3, .int (x2 - 1)), (0, .ref (ra G 20 0)), (1, .int x1), (2, .int x2)]) hx hb dX7_feed_44 rfl hl (by decide) rfl (fun ls hl => ?_)
        exact L_X7_feed_45 C0 _ h _ _ _ hR (lv_sub hl [1, 2, 0] rfl)
      · rw [if_neg c3] at h
        refine lv_aload_n hx hb dX7_feed_34 rfl (lv_at hl 0 rfl) ?_
        refine lv_bipush (v := (-8)) hx hb dX7_feed_35 (by decide) ?_
        obtain ⟨r5, f4, ef4, h⟩ := mm_b2e h
        refine mm_callV (v := some (.int r5)) (f1 := f4) (d0 := 0) (rest := []) [.int (-8)] C0 rfl hR 20 0 (T_X7_refuse G ef4) ws_X7_refuse lk_147 hd_X7_refuse ⟨by decide, by decide⟩ vl_20 rfl rfl rfl hl.1 rfl (Nat.le_of_ble_eq_true rfl) dX7_feed_37 (fun H locs hR => ?_)
        refine W.eq (g2 := F0 m 40 ls (.int r5 :: [])) rfl ?_
        obtain ⟨rfl, rfl⟩ := mm_pr h
        exact mm_iret C0 hR dX7_feed_40
    · rw [if_neg c2] at h
      refine lv_aload_n hx hb dX7_feed_16 rfl (lv_at hl 0 rfl) ?_
      refine lv_bipush (v := (-7)) hx hb dX7_feed_17 (by decide) ?_
      obtain ⟨r7, f6, ef6, h⟩ := mm_b2e h
      refine mm_callV (v := some (.int r7)) (f1 := f6) (d0 := 0) (rest := []) [.int (-7)] C0 rfl hR 20 0 (T_X7_refuse G ef6) ws_X7_refuse lk_147 hd_X7_refuse ⟨by decide, by decide⟩ vl_20 rfl rfl rfl hl.1 rfl (Nat.le_of_ble_eq_true rfl) dX7_feed_19 (fun H locs hR => ?_)
      refine W.eq (g2 := F0 m 22 ls (.int r7 :: [])) rfl ?_
      obtain ⟨rfl, rfl⟩ := mm_pr h
      exact mm_iret C0 hR dX7_feed_22
  · rw [if_neg c1] at h
    refine lv_aload_n hx hb dX7_feed_4 rfl (lv_at hl 0 rfl) ?_
    refine lv_bipush (v := (-4)) hx hb dX7_feed_5 (by decide) ?_
    obtain ⟨r9, f8, ef8, h⟩ := mm_b2e h
    refine mm_callV (v := some (.int r9)) (f1 := f8) (d0 := 0) (rest := []) [.int (-4)] C0 rfl hR 20 0 (T_X7_refuse G ef8) ws_X7_refuse lk_147 hd_X7_refuse ⟨by decide, by decide⟩ vl_20 rfl rfl rfl hl.1 rfl (Nat.le_of_ble_eq_true rfl) dX7_feed_7 (fun H locs hR => ?_)
    refine W.eq (g2 := F0 m 10 ls (.int r9 :: [])) rfl ?_
    obtain ⟨rfl, rfl⟩ := mm_pr h
    exact mm_iret C0 hR dX7_feed_10
def S_X7_fieldRead (f : F3)  : Option (Int32 × F3) := mm_b2 (S_X7_here f) fun r2 f1 => if r2 = 99 then (Option.bind (S_X7_eats3 f1 99 101 108) fun f5 => Option.bind (S_X7_eats f5 108) fun f6 => some (2, f6)) else if r2 = 104 then (Option.bind (S_X7_eats3 f1 104 101 97) fun f8 => Option.bind (S_X7_eats f8 116) fun f9 => some (3, f9)) else if r2 = 114 then (Option.bind (S_X7_eats3 f1 114 97 110) fun f11 => Option.bind (S_X7_eats f11 107) fun f12 => some (1, f12)) else if r2 = 119 then (Option.bind (S_X7_eats3 f1 119 101 105) fun f14 => Option.bind (S_X7_eats3 f14 103 104 116) fun f15 => some (0, f15)) else (Option.bind (S_X7_eats3 f1 115 110 111) fun f16 => Option.bind (S_X7_eats f16 119) fun f17 => some (4, f17))
set_option maxHeartbeats 4000000 in
set_option maxRecDepth 100000 in
theorem T_X7_fieldRead (G : mmG) {f f' : F3} {rv : Int32} (h : S_X7_fieldRead f = some (rv, f')) : mmM G yX7_fieldRead cX7_fieldRead 2 (some .int) 3 [.ref (ra G 20 0)] f (some (.int rv)) f' := by
  refine mm_start (by decide +kernel) (Nat.le_of_ble_eq_true rfl) ?_
  intro p e s m args below meth c ls C0 hR hl
  obtain ⟨hx, hb, hml, hr, hown, hts, hlocks⟩ := id C0
  have hl : lv_has ls 2 [(0, .ref (ra G 20 0))] := hl
  rw [S_X7_fieldRead] at h
  refine lv_aload_n hx hb dX7_fieldRead_0 rfl (lv_at hl 0 rfl) ?_
  obtain ⟨r2, f1, ef1, h⟩ := mm_b2e h
  refine mm_callV (v := some (.int r2)) (f1 := f1) (d0 := 0) (rest := []) [] C0 rfl hR 20 0 (T_X7_here G ef1) ws_X7_here lk_187 hd_X7_here ⟨by decide, by decide⟩ vl_20 rfl rfl rfl hl.1 rfl (Nat.le_of_ble_eq_true rfl) dX7_fieldRead_1 (fun H locs hR => ?_)
  refine W.eq (g2 := F0 m 4 ls (.int r2 :: [])) rfl ?_
  refine lv_istore_n (lv' := [(1, .int r2), (0, .ref (ra G 20 0))]) hx hb dX7_fieldRead_4 rfl hl (by decide) rfl (fun ls hl => ?_)
  refine lv_iload_n hx hb dX7_fieldRead_5 rfl (lv_at hl 0 rfl) ?_
  refine lv_topi (fun w3 ew3 => ?_)
  by_cases c4 : w3 = 99
  · rw [if_pos (ew3.symm.trans c4)] at h
    rw [c4]
    refine lv_lookup (off := 82) (tgt := 88) hx hb dX7_fieldRead_6 (by decide +kernel) (by decide +kernel) (by decide) ?_
    refine lv_aload_n hx hb dX7_fieldRead_88 rfl (lv_at hl 1 rfl) ?_
    refine lv_bipush (v := 99) hx hb dX7_fieldRead_89 (by decide) ?_
    refine lv_bipush (v := 101) hx hb dX7_fieldRead_91 (by decide) ?_
    refine lv_bipush (v := 108) hx hb dX7_fieldRead_93 (by decide) ?_
    obtain ⟨f5, ef5, h⟩ := mm_bind h
    refine mm_callV (v := none) (f1 := f5) (d0 := 2) (rest := []) [.int 99, .int 101, .int 108] C0 rfl hR 20 0 (T_X7_eats3 G ef5) ws_X7_eats3 lk_189 hd_X7_eats3 ⟨by decide, by decide⟩ vl_20 rfl rfl rfl hl.1 rfl (Nat.le_of_ble_eq_true rfl) dX7_fieldRead_95 (fun H locs hR => ?_)
    refine W.eq (g2 := F0 m 98 ls ([])) rfl ?_
    refine lv_aload_n hx hb dX7_fieldRead_98 rfl (lv_at hl 1 rfl) ?_
    refine lv_bipush (v := 108) hx hb dX7_fieldRead_99 (by decide) ?_
    obtain ⟨f6, ef6, h⟩ := mm_bind h
    refine mm_callV (v := none) (f1 := f6) (d0 := 1) (rest := []) [.int 108] C0 rfl hR 20 0 (T_X7_eats G ef6) ws_X7_eats lk_188 hd_X7_eats ⟨by decide, by decide⟩ vl_20 rfl rfl rfl hl.1 rfl (Nat.le_of_ble_eq_true rfl) dX7_fieldRead_101 (fun H locs hR => ?_)
    refine W.eq (g2 := F0 m 104 ls ([])) rfl ?_
    refine lv_iconst (v := 2) hx hb dX7_fieldRead_104 (by decide) ?_
    obtain ⟨rfl, rfl⟩ := mm_pr h
    exact mm_iret C0 hR dX7_fieldRead_105
  rw [if_neg (fun q => c4 (ew3.trans q))] at h
  by_cases c7 : w3 = 104
  · rw [if_pos (ew3.symm.trans c7)] at h
    rw [c7]
    refine lv_lookup (off := 100) (tgt := 106) hx hb dX7_fieldRead_6 (by decide +kernel) (by decide +kernel) (by decide) ?_
    refine lv_aload_n hx hb dX7_fieldRead_106 rfl (lv_at hl 1 rfl) ?_
    refine lv_bipush (v := 104) hx hb dX7_fieldRead_107 (by decide) ?_
    refine lv_bipush (v := 101) hx hb dX7_fieldRead_109 (by decide) ?_
    refine lv_bipush (v := 97) hx hb dX7_fieldRead_111 (by decide) ?_
    obtain ⟨f8, ef8, h⟩ := mm_bind h
    refine mm_callV (v := none) (f1 := f8) (d0 := 2) (rest := []) [.int 104, .int 101, .int 97] C0 rfl hR 20 0 (T_X7_eats3 G ef8) ws_X7_eats3 lk_189 hd_X7_eats3 ⟨by decide, by decide⟩ vl_20 rfl rfl rfl hl.1 rfl (Nat.le_of_ble_eq_true rfl) dX7_fieldRead_113 (fun H locs hR => ?_)
    refine W.eq (g2 := F0 m 116 ls ([])) rfl ?_
    refine lv_aload_n hx hb dX7_fieldRead_116 rfl (lv_at hl 1 rfl) ?_
    refine lv_bipush (v := 116) hx hb dX7_fieldRead_117 (by decide) ?_
    obtain ⟨f9, ef9, h⟩ := mm_bind h
    refine mm_callV (v := none) (f1 := f9) (d0 := 1) (rest := []) [.int 116] C0 rfl hR 20 0 (T_X7_eats G ef9) ws_X7_eats lk_188 hd_X7_eats ⟨by decide, by decide⟩ vl_20 rfl rfl rfl hl.1 rfl (Nat.le_of_ble_eq_true rfl) dX7_fieldRead_119 (fun H locs hR => ?_)
    refine W.eq (g2 := F0 m 122 ls ([])) rfl ?_
    refine lv_iconst (v := 3) hx hb dX7_fieldRead_122 (by decide) ?_
    obtain ⟨rfl, rfl⟩ := mm_pr h
    exact mm_iret C0 hR dX7_fieldRead_123
  rw [if_neg (fun q => c7 (ew3.trans q))] at h
  by_cases c10 : w3 = 114
  · rw [if_pos (ew3.symm.trans c10)] at h
    rw [c10]
    refine lv_lookup (off := 64) (tgt := 70) hx hb dX7_fieldRead_6 (by decide +kernel) (by decide +kernel) (by decide) ?_
    refine lv_aload_n hx hb dX7_fieldRead_70 rfl (lv_at hl 1 rfl) ?_
    refine lv_bipush (v := 114) hx hb dX7_fieldRead_71 (by decide) ?_
    refine lv_bipush (v := 97) hx hb dX7_fieldRead_73 (by decide) ?_
    refine lv_bipush (v := 110) hx hb dX7_fieldRead_75 (by decide) ?_
    obtain ⟨f11, ef11, h⟩ := mm_bind h
    refine mm_callV (v := none) (f1 := f11) (d0 := 2) (rest := []) [.int 114, .int 97, .int 110] C0 rfl hR 20 0 (T_X7_eats3 G ef11) ws_X7_eats3 lk_189 hd_X7_eats3 ⟨by decide, by decide⟩ vl_20 rfl rfl rfl hl.1 rfl (Nat.le_of_ble_eq_true rfl) dX7_fieldRead_77 (fun H locs hR => ?_)
    refine W.eq (g2 := F0 m 80 ls ([])) rfl ?_
    refine lv_aload_n hx hb dX7_fieldRead_80 rfl (lv_at hl 1 rfl) ?_
    refine lv_bipush (v := 107) hx hb dX7_fieldRead_81 (by decide) ?_
    obtain ⟨f12, ef12, h⟩ := mm_bind h
    refine mm_callV (v := none) (f1 := f12) (d0 := 1) (rest := []) [.int 107] C0 rfl hR 20 0 (T_X7_eats G ef12) ws_X7_eats lk_188 hd_X7_eats ⟨by decide, by decide⟩ vl_20 rfl rfl rfl hl.1 rfl (Nat.le_of_ble_eq_true rfl) dX7_fieldRead_83 (fun H locs hR => ?_)
    refine W.eq (g2 := F0 m 86 ls ([])) rfl ?_
    refine lv_iconst (v := 1) hx hb dX7_fieldRead_86 (by decide) ?_
    obtain ⟨rfl, rfl⟩ := mm_pr h
    exact mm_iret C0 hR dX7_fieldRead_87
  rw [if_neg (fun q => c10 (ew3.trans q))] at h
  by_cases c13 : w3 = 119
  · rw [if_pos (ew3.symm.trans c13)] at h
    rw [c13]
    refine lv_lookup (off := 42) (tgt := 48) hx hb dX7_fieldRead_6 (by decide +kernel) (by decide +kernel) (by decide) ?_
    refine lv_aload_n hx hb dX7_fieldRead_48 rfl (lv_at hl 1 rfl) ?_
    refine lv_bipush (v := 119) hx hb dX7_fieldRead_49 (by decide) ?_
    refine lv_bipush (v := 101) hx hb dX7_fieldRead_51 (by decide) ?_
    refine lv_bipush (v := 105) hx hb dX7_fieldRead_53 (by decide) ?_
    obtain ⟨f14, ef14, h⟩ := mm_bind h
    refine mm_callV (v := none) (f1 := f14) (d0 := 2) (rest := []) [.int 119, .int 101, .int 105] C0 rfl hR 20 0 (T_X7_eats3 G ef14) ws_X7_eats3 lk_189 hd_X7_eats3 ⟨by decide, by decide⟩ vl_20 rfl rfl rfl hl.1 rfl (Nat.le_of_ble_eq_true rfl) dX7_fieldRead_55 (fun H locs hR => ?_)
    refine W.eq (g2 := F0 m 58 ls ([])) rfl ?_
    refine lv_aload_n hx hb dX7_fieldRead_58 rfl (lv_at hl 1 rfl) ?_
    refine lv_bipush (v := 103) hx hb dX7_fieldRead_59 (by decide) ?_
    refine lv_bipush (v := 104) hx hb dX7_fieldRead_61 (by decide) ?_
    refine lv_bipush (v := 116) hx hb dX7_fieldRead_63 (by decide) ?_
    obtain ⟨f15, ef15, h⟩ := mm_bind h
    refine mm_callV (v := none) (f1 := f15) (d0 := 2) (rest := []) [.int 103, .int 104, .int 116] C0 rfl hR 20 0 (T_X7_eats3 G ef15) ws_X7_eats3 lk_189 hd_X7_eats3 ⟨by decide, by decide⟩ vl_20 rfl rfl rfl hl.1 rfl (Nat.le_of_ble_eq_true rfl) dX7_fieldRead_65 (fun H locs hR => ?_)
    refine W.eq (g2 := F0 m 68 ls ([])) rfl ?_
    refine lv_iconst (v := 0) hx hb dX7_fieldRead_68 (by decide) ?_
    obtain ⟨rfl, rfl⟩ := mm_pr h
    exact mm_iret C0 hR dX7_fieldRead_69
  rw [if_neg (fun q => c13 (ew3.trans q))] at h
  refine lv_lookup (off := 118) (tgt := 124) hx hb dX7_fieldRead_6 (by decide +kernel) (by show Op.lookupswitch.offset [(99, 82), (104, 100), (114, 64), (119, 42)] _ _ = _; rw [lv_osw c4 (by decide), lv_osw c7 (by decide), lv_osw c10 (by decide), lv_osw c13 (by decide), Op.lookupswitch.offset_nil]) (by decide) ?_
  refine lv_aload_n hx hb dX7_fieldRead_124 rfl (lv_at hl 1 rfl) ?_
  refine lv_bipush (v := 115) hx hb dX7_fieldRead_125 (by decide) ?_
  refine lv_bipush (v := 110) hx hb dX7_fieldRead_127 (by decide) ?_
  refine lv_bipush (v := 111) hx hb dX7_fieldRead_129 (by decide) ?_
  obtain ⟨f16, ef16, h⟩ := mm_bind h
  refine mm_callV (v := none) (f1 := f16) (d0 := 2) (rest := []) [.int 115, .int 110, .int 111] C0 rfl hR 20 0 (T_X7_eats3 G ef16) ws_X7_eats3 lk_189 hd_X7_eats3 ⟨by decide, by decide⟩ vl_20 rfl rfl rfl hl.1 rfl (Nat.le_of_ble_eq_true rfl) dX7_fieldRead_131 (fun H locs hR => ?_)
  refine W.eq (g2 := F0 m 134 ls ([])) rfl ?_
  refine lv_aload_n hx hb dX7_fieldRead_134 rfl (lv_at hl 1 rfl) ?_
  refine lv_bipush (v := 119) hx hb dX7_fieldRead_135 (by decide) ?_
  obtain ⟨f17, ef17, h⟩ := mm_bind h
  refine mm_callV (v := none) (f1 := f17) (d0 := 1) (rest := []) [.int 119] C0 rfl hR 20 0 (T_X7_eats G ef17) ws_X7_eats lk_188 hd_X7_eats ⟨by decide, by decide⟩ vl_20 rfl rfl rfl hl.1 rfl (Nat.le_of_ble_eq_true rfl) dX7_fieldRead_137 (fun H locs hR => ?_)
  refine W.eq (g2 := F0 m 140 ls ([])) rfl ?_
  refine lv_iconst (v := 4) hx hb dX7_fieldRead_140 (by decide) ?_
  obtain ⟨rfl, rfl⟩ := mm_pr h
  exact mm_iret C0 hR dX7_fieldRead_141
def S_X7_flood_42 (f : F3) (x1 : Int32) : Option (Int32 × F3) := Option.bind (S_X7_becomes f x1 2) fun f11 => some (1, f11)
set_option maxHeartbeats 4000000 in
set_option maxRecDepth 100000 in
theorem L_X7_flood_42 {G : mmG} {p : Program} {e : Env} {s : State} {m : MethodId} {args : Array Value} {below : List Frame} {meth : Method} {c : Code} {f' : F3} {rv : Int32} (C0 : mmC yX7_flood cX7_flood 2 (some .int) p s m args meth c) {f : F3} {x1 : Int32} (h : S_X7_flood_42 f x1 = some (rv, f')) (H : Heap) (locs : List Loc) (ls : Array Slot) (hR : mm_R G mm_NT f (GG f) s H locs) (hl : lv_has ls 2 [(0, .ref (ra G 20 0)), (1, .int x1)]) : W p G.1 e (mm_rm 2) s m args below meth c H locs 0 0 (MQ below (mm_Q G mm_NT (some (.int rv)) f' (GG f')) args s 0 0 (mm_A G)) (F0 m 42 ls []) := by
  obtain ⟨hx, hb, hml, hr, hown, hts, hlocks⟩ := id C0
  rw [S_X7_flood_42] at h
  refine lv_aload_n hx hb dX7_flood_42 rfl (lv_at hl 0 rfl) ?_
  refine lv_iload_n hx hb dX7_flood_43 rfl (lv_at hl 1 rfl) ?_
  refine lv_iconst (v := 2) hx hb dX7_flood_44 (by decide) ?_
  obtain ⟨f11, ef11, h⟩ := mm_bind h
  refine mm_callV (v := none) (f1 := f11) (d0 := 0) (rest := []) [.int x1, .int 2] C0 rfl hR 20 0 (T_X7_becomes G ef11) ws_X7_becomes lk_153 hd_X7_becomes ⟨by decide, by decide⟩ vl_20 rfl rfl rfl hl.1 rfl (Nat.le_of_ble_eq_true rfl) dX7_flood_45 (fun H locs hR => ?_)
  refine W.eq (g2 := F0 m 48 ls ([])) rfl ?_
  refine lv_iconst (v := 1) hx hb dX7_flood_48 (by decide) ?_
  obtain ⟨rfl, rfl⟩ := mm_pr h
  exact mm_iret C0 hR dX7_flood_49
def S_X7_flood (f : F3) (x1 : Int32) : Option (Int32 × F3) := mm_b2 (S_X7_isCell f x1) fun r2 f1 => if r2 = 0 then (mm_b2 (S_X7_refuse f1 (-3)) fun r10 f9 => some (r10, f9)) else (if okI x1 10 then (if (f1 30 0 x1.toNatClampNeg) = 1 then (S_X7_flood_42 f1 x1) else (if (f1 30 0 x1.toNatClampNeg) = 2 then (S_X7_flood_42 f1 x1) else (mm_b2 (S_X7_refuse f1 (-5)) fun r8 f7 => some (r8, f7)))) else none)
set_option maxHeartbeats 4000000 in
set_option maxRecDepth 100000 in
theorem T_X7_flood (G : mmG) {f f' : F3} {rv : Int32} {x1 : Int32} (h : S_X7_flood f x1 = some (rv, f')) : mmM G yX7_flood cX7_flood 2 (some .int) 2 [.ref (ra G 20 0), .int x1] f (some (.int rv)) f' := by
  refine mm_start (by decide +kernel) (Nat.le_of_ble_eq_true rfl) ?_
  intro p e s m args below meth c ls C0 hR hl
  obtain ⟨hx, hb, hml, hr, hown, hts, hlocks⟩ := id C0
  have hl : lv_has ls 2 [(0, .ref (ra G 20 0)), (1, .int x1)] := hl
  rw [S_X7_flood] at h
  refine lv_aload_n hx hb dX7_flood_0 rfl (lv_at hl 0 rfl) ?_
  refine lv_iload_n hx hb dX7_flood_1 rfl (lv_at hl 1 rfl) ?_
  obtain ⟨r2, f1, ef1, h⟩ := mm_b2e h
  refine mm_callV (v := some (.int r2)) (f1 := f1) (d0 := 1) (rest := []) [.int x1] C0 rfl hR 20 0 (T_X7_isCell G ef1) ws_X7_isCell lk_146 hd_X7_isCell ⟨by decide, by decide⟩ vl_20 rfl rfl rfl hl.1 rfl (Nat.le_of_ble_eq_true rfl) dX7_flood_2 (fun H locs hR => ?_)
  refine W.eq (g2 := F0 m 5 ls (.int r2 :: [])) rfl ?_
  refine lv_if_ne (tgt := 15) hx hb dX7_flood_5 (by decide) (fun c3 => ?_) (fun c3 => ?_)
  · rw [if_neg c3] at h
    refine lv_aload_n hx hb dX7_flood_15 rfl (lv_at hl 0 rfl) ?_
    refine mm_get hx hb hts hown hR 20 0 3 vl_20 (v := .ref (ra G 30 0)) rfl rfl iX7 (by decide) lk_140 rfl dX7_flood_16 ?_
    refine lv_iload_n hx hb dX7_flood_19 rfl (lv_at hl 1 rfl) ?_
    obtain ⟨z4, h⟩ := mm_if h
    refine mm_ild hx hb hR 30 0 vl_30 (L := 10) rfl (okI_in z4) dX7_flood_20 ?_
    refine lv_iconst (v := 1) hx hb dX7_flood_21 (by decide) ?_
    refine lv_icmp_eq (tgt := 42) hx hb dX7_flood_22 (by decide) (fun c5 => ?_) (fun c5 => ?_)
    · rw [if_pos c5] at h
      exact L_X7_flood_42 C0 h _ _ _ hR (lv_sub hl [0, 1] rfl)
    · rw [if_neg c5] at h
      refine lv_aload_n hx hb dX7_flood_25 rfl (lv_at hl 0 rfl) ?_
      refine mm_get hx hb hts hown hR 20 0 3 vl_20 (v := .ref (ra G 30 0)) rfl rfl iX7 (by decide) lk_140 rfl dX7_flood_26 ?_
      refine lv_iload_n hx hb dX7_flood_29 rfl (lv_at hl 1 rfl) ?_
      refine mm_ild hx hb hR 30 0 vl_30 (L := 10) rfl (okI_in z4) dX7_flood_30 ?_
      refine lv_iconst (v := 2) hx hb dX7_flood_31 (by decide) ?_
      refine lv_icmp_eq (tgt := 42) hx hb dX7_flood_32 (by decide) (fun c6 => ?_) (fun c6 => ?_)
      · rw [if_pos c6] at h
        exact L_X7_flood_42 C0 h _ _ _ hR (lv_sub hl [0, 1] rfl)
      · rw [if_neg c6] at h
        refine lv_aload_n hx hb dX7_flood_35 rfl (lv_at hl 0 rfl) ?_
        refine lv_bipush (v := (-5)) hx hb dX7_flood_36 (by decide) ?_
        obtain ⟨r8, f7, ef7, h⟩ := mm_b2e h
        refine mm_callV (v := some (.int r8)) (f1 := f7) (d0 := 0) (rest := []) [.int (-5)] C0 rfl hR 20 0 (T_X7_refuse G ef7) ws_X7_refuse lk_147 hd_X7_refuse ⟨by decide, by decide⟩ vl_20 rfl rfl rfl hl.1 rfl (Nat.le_of_ble_eq_true rfl) dX7_flood_38 (fun H locs hR => ?_)
        refine W.eq (g2 := F0 m 41 ls (.int r8 :: [])) rfl ?_
        obtain ⟨rfl, rfl⟩ := mm_pr h
        exact mm_iret C0 hR dX7_flood_41
  · rw [if_pos c3] at h
    refine lv_aload_n hx hb dX7_flood_8 rfl (lv_at hl 0 rfl) ?_
    refine lv_bipush (v := (-3)) hx hb dX7_flood_9 (by decide) ?_
    obtain ⟨r10, f9, ef9, h⟩ := mm_b2e h
    refine mm_callV (v := some (.int r10)) (f1 := f9) (d0 := 0) (rest := []) [.int (-3)] C0 rfl hR 20 0 (T_X7_refuse G ef9) ws_X7_refuse lk_147 hd_X7_refuse ⟨by decide, by decide⟩ vl_20 rfl rfl rfl hl.1 rfl (Nat.le_of_ble_eq_true rfl) dX7_flood_11 (fun H locs hR => ?_)
    refine W.eq (g2 := F0 m 14 ls (.int r10 :: [])) rfl ?_
    obtain ⟨rfl, rfl⟩ := mm_pr h
    exact mm_iret C0 hR dX7_flood_14
