def S_X7_tear (f : F3)  : Option (Int32 × F3) := mm_let (up f 20 0 31 0) fun f1 => if (f 20 0 31) = 0 then (some (0, f1)) else (some (1, f1))
set_option maxHeartbeats 4000000 in
set_option maxRecDepth 100000 in
theorem T_X7_tear (G : mmG) {f f' : F3} {rv : Int32} (h : S_X7_tear f = some (rv, f')) : mmM G yX7_tear cX7_tear 2 (some .int) 0 [.ref (ra G 20 0)] f (some (.int rv)) f' := by
  refine mm_start (by decide +kernel) (Nat.le_of_ble_eq_true rfl) ?_
  intro p e s m args below meth c ls C0 hR hl
  obtain ⟨hx, hb, hml, hr, hown, hts, hlocks⟩ := id C0
  have hl : lv_has ls 2 [(0, .ref (ra G 20 0))] := hl
  rw [S_X7_tear] at h
  refine lv_aload_n hx hb dX7_tear_0 rfl (lv_at hl 0 rfl) ?_
  refine mm_get hx hb hts hown hR 20 0 31 vl_20 (v := .int (f 20 0 31)) rfl rfl iX7 (by decide) lk_173 rfl dX7_tear_1 ?_
  refine lv_istore_n (lv' := [(1, .int (f 20 0 31)), (0, .ref (ra G 20 0))]) hx hb dX7_tear_4 rfl hl (by decide) rfl (fun ls hl => ?_)
  refine lv_aload_n hx hb dX7_tear_5 rfl (lv_at hl 1 rfl) ?_
  refine lv_iconst (v := 0) hx hb dX7_tear_6 (by decide) ?_
  obtain ⟨f1, ef1, h⟩ := mm_lt h
  refine mm_put hx hb hts hown hR 20 0 31 (by decide) vl_20 (x := 0) rfl rfl iX7 tyX7 tyX7_ok nmX7 (by decide) lk_173 rfl rfl rfl (Nat.le_of_ble_eq_true rfl) rfl dX7_tear_7 (fun H locs hR => ?_)
  rw [← ef1] at hR
  refine lv_iload_n hx hb dX7_tear_10 rfl (lv_at hl 0 rfl) ?_
  refine lv_if_eq (tgt := 18) hx hb dX7_tear_11 (by decide) (fun c2 => ?_) (fun c2 => ?_)
  · rw [if_pos c2] at h
    refine lv_iconst (v := 0) hx hb dX7_tear_18 (by decide) ?_
    obtain ⟨rfl, rfl⟩ := mm_pr h
    exact mm_iret C0 hR dX7_tear_19
  · rw [if_neg c2] at h
    refine lv_iconst (v := 1) hx hb dX7_tear_14 (by decide) ?_
    refine lv_goto (tgt := 19) hx hb dX7_tear_15 (by decide) ?_
    obtain ⟨rfl, rfl⟩ := mm_pr h
    exact mm_iret C0 hR dX7_tear_19
def S_X7_tell_65 (f : F3) (x1 : Int32) (x2 : Int32) : Option (Int32 × F3) := mm_let (up f 20 0 31 1) fun f15 => if okI x1 48 then (mm_let (up f15 27 0 x1.toNatClampNeg x2) fun f17 => some (1, f17)) else none
set_option maxHeartbeats 4000000 in
set_option maxRecDepth 100000 in
theorem L_X7_tell_65 {G : mmG} {p : Program} {e : Env} {s : State} {m : MethodId} {args : Array Value} {below : List Frame} {meth : Method} {c : Code} {f' : F3} {rv : Int32} (C0 : mmC yX7_tell cX7_tell 4 (some .int) p s m args meth c) {f : F3} {x1 : Int32} {x2 : Int32} (h : S_X7_tell_65 f x1 x2 = some (rv, f')) (H : Heap) (locs : List Loc) (ls : Array Slot) (hR : mm_R G mm_NT f (GG f) s H locs) (hl : lv_has ls 4 [(0, .ref (ra G 20 0)), (1, .int x1), (2, .int x2)]) : W p G.1 e (mm_rm 1) s m args below meth c H locs 0 0 (MQ below (mm_Q G mm_NT (some (.int rv)) f' (GG f')) args s 0 0 (mm_A G)) (F0 m 65 ls []) := by
  obtain ⟨hx, hb, hml, hr, hown, hts, hlocks⟩ := id C0
  rw [S_X7_tell_65] at h
  refine lv_aload_n hx hb dX7_tell_65 rfl (lv_at hl 0 rfl) ?_
  refine lv_iconst (v := 1) hx hb dX7_tell_66 (by decide) ?_
  obtain ⟨f15, ef15, h⟩ := mm_lt h
  refine mm_put hx hb hts hown hR 20 0 31 (by decide) vl_20 (x := 1) rfl rfl iX7 tyX7 tyX7_ok nmX7 (by decide) lk_173 rfl rfl rfl (Nat.le_of_ble_eq_true rfl) rfl dX7_tell_67 (fun H locs hR => ?_)
  rw [← ef15] at hR
  refine lv_aload_n hx hb dX7_tell_70 rfl (lv_at hl 0 rfl) ?_
  refine mm_get hx hb hts hown hR 20 0 32 vl_20 (v := .ref (ra G 27 0)) rfl rfl iX7 (by decide) lk_174 rfl dX7_tell_71 ?_
  refine lv_iload_n hx hb dX7_tell_74 rfl (lv_at hl 1 rfl) ?_
  refine lv_iload_n hx hb dX7_tell_75 rfl (lv_at hl 2 rfl) ?_
  obtain ⟨z16, h⟩ := mm_if h
  obtain ⟨f17, ef17, h⟩ := mm_lt h
  refine mm_ist hx hb hR 27 0 (by decide) vl_27 (L := 48) (j := x1) (x := x2) (fun _ => rfl) (okI_in z16) dX7_tell_76 (fun H locs hR => ?_)
  rw [← ef17] at hR
  refine lv_iconst (v := 1) hx hb dX7_tell_77 (by decide) ?_
  obtain ⟨rfl, rfl⟩ := mm_pr h
  exact mm_iret C0 hR dX7_tell_78
def S_X7_tell_39 : Nat → F3 → Int32 → Int32 → Int32 → Option (Int32 × F3)
  | 0, _, _, _, _ => none
  | n + 1, f, x1, x2, x3 => if 48 ≤ x3 then (S_X7_tell_65 f x1 x2) else (if (f 20 0 31) = 0 then (if okI x3 48 then (mm_let (up f 27 0 x3.toNatClampNeg 0) fun f14 => S_X7_tell_39 n f14 x1 x2 (x3 + 1)) else none) else (S_X7_tell_65 f x1 x2))
set_option maxHeartbeats 4000000 in
set_option maxRecDepth 100000 in
theorem L_X7_tell_39 {G : mmG} {p : Program} {e : Env} {s : State} {m : MethodId} {args : Array Value} {below : List Frame} {meth : Method} {c : Code} {f' : F3} {rv : Int32} (C0 : mmC yX7_tell cX7_tell 4 (some .int) p s m args meth c) : ∀ (n : Nat) {f : F3} {x1 : Int32} {x2 : Int32} {x3 : Int32} , S_X7_tell_39 n f x1 x2 x3 = some (rv, f') → ∀ (H : Heap) (locs : List Loc) (ls : Array Slot), mm_R G mm_NT f (GG f) s H locs → lv_has ls 4 [(0, .ref (ra G 20 0)), (1, .int x1), (2, .int x2), (3, .int x3)] → W p G.1 e (mm_rm 1) s m args below meth c H locs 0 0 (MQ below (mm_Q G mm_NT (some (.int rv)) f' (GG f')) args s 0 0 (mm_A G)) (F0 m 39 ls []) := by
  obtain ⟨hx, hb, hml, hr, hown, hts, hlocks⟩ := id C0
  intro n
  induction n with
  | zero =>
    intro f x1 x2 x3  h H locs ls hR hl
    cases h
  | succ n ih =>
    intro f x1 x2 x3  h H locs ls hR hl
    rw [S_X7_tell_39] at h
    refine lv_iload_n hx hb dX7_tell_39 rfl (lv_at hl 3 rfl) ?_
    refine lv_bipush (v := 48) hx hb dX7_tell_40 (by decide) ?_
    refine lv_icmp_ge (tgt := 65) hx hb dX7_tell_42 (by decide) (fun c11 => ?_) (fun c11 => ?_)
    · rw [if_pos c11] at h
      exact L_X7_tell_65 C0 h _ _ _ hR (lv_sub hl [0, 1, 2] rfl)
    · rw [if_neg c11] at h
      refine lv_aload_n hx hb dX7_tell_45 rfl (lv_at hl 0 rfl) ?_
      refine mm_get hx hb hts hown hR 20 0 31 vl_20 (v := .int (f 20 0 31)) rfl rfl iX7 (by decide) lk_173 rfl dX7_tell_46 ?_
      refine lv_if_ne (tgt := 65) hx hb dX7_tell_49 (by decide) (fun c12 => ?_) (fun c12 => ?_)
      · rw [if_neg c12] at h
        exact L_X7_tell_65 C0 h _ _ _ hR (lv_sub hl [0, 1, 2] rfl)
      · rw [if_pos c12] at h
        refine lv_aload_n hx hb dX7_tell_52 rfl (lv_at hl 0 rfl) ?_
        refine mm_get hx hb hts hown hR 20 0 32 vl_20 (v := .ref (ra G 27 0)) rfl rfl iX7 (by decide) lk_174 rfl dX7_tell_53 ?_
        refine lv_iload_n hx hb dX7_tell_56 rfl (lv_at hl 3 rfl) ?_
        refine lv_iconst (v := 0) hx hb dX7_tell_57 (by decide) ?_
        obtain ⟨z13, h⟩ := mm_if h
        obtain ⟨f14, ef14, h⟩ := mm_lt h
        refine mm_ist hx hb hR 27 0 (by decide) vl_27 (L := 48) (j := x3) (x := 0) (fun _ => rfl) (okI_in z13) dX7_tell_58 (fun H locs hR => ?_)
        rw [← ef14] at hR
        refine lv_iinc (v := x3 + 1) (lv' := [(3, .int (x3 + 1)), (0, .ref (ra G 20 0)), (1, .int x1), (2, .int x2)]) hx hb dX7_tell_59 hl (k := 3) rfl rfl (by decide) rfl (fun ls hl => ?_)
        refine lv_goto (tgt := 39) hx hb dX7_tell_62 (by decide) ?_
        exact ih  h _ _ _ hR (lv_sub hl [1, 2, 3, 0] rfl)
def S_X7_tell (f : F3) (x1 : Int32) (x2 : Int32) : Option (Int32 × F3) := mm_b2 (S_X7_in f x1 0 47) fun r2 f1 => if r2 = 0 then (mm_b2 (S_X7_refuse f1 (-3)) fun r10 f9 => some (r10, f9)) else (mm_b2 (S_X7_in f1 x2 (-9999) 9999) fun r5 f4 => if r5 = 0 then (mm_b2 (S_X7_refuse f4 (-7)) fun r8 f7 => some (r8, f7)) else (S_X7_tell_39 FU f4 x1 x2 0))
set_option maxHeartbeats 4000000 in
set_option maxRecDepth 100000 in
theorem T_X7_tell (G : mmG) {f f' : F3} {rv : Int32} {x1 : Int32} {x2 : Int32} (h : S_X7_tell f x1 x2 = some (rv, f')) : mmM G yX7_tell cX7_tell 4 (some .int) 1 [.ref (ra G 20 0), .int x1, .int x2] f (some (.int rv)) f' := by
  refine mm_start (by decide +kernel) (Nat.le_of_ble_eq_true rfl) ?_
  intro p e s m args below meth c ls C0 hR hl
  obtain ⟨hx, hb, hml, hr, hown, hts, hlocks⟩ := id C0
  have hl : lv_has ls 4 [(0, .ref (ra G 20 0)), (1, .int x1), (2, .int x2)] := hl
  rw [S_X7_tell] at h
  refine lv_iload_n hx hb dX7_tell_0 rfl (lv_at hl 1 rfl) ?_
  refine lv_iconst (v := 0) hx hb dX7_tell_1 (by decide) ?_
  refine lv_bipush (v := 47) hx hb dX7_tell_2 (by decide) ?_
  obtain ⟨r2, f1, ef1, h⟩ := mm_b2e h
  refine mm_callS (v := some (.int r2)) (f1 := f1) (d0 := 0) (rest := []) [.int x1, .int 0, .int 47] C0 rfl hR (T_X7_in G ef1) ws_X7_in lk_144 hd_X7_in ⟨by decide, by decide⟩ hl.1 rfl (Nat.le_of_ble_eq_true rfl) dX7_tell_4 (fun H locs hR => ?_)
  refine W.eq (g2 := F0 m 7 ls (.int r2 :: [])) rfl ?_
  refine lv_if_ne (tgt := 17) hx hb dX7_tell_7 (by decide) (fun c3 => ?_) (fun c3 => ?_)
  · rw [if_neg c3] at h
    refine lv_iload_n hx hb dX7_tell_17 rfl (lv_at hl 2 rfl) ?_
    refine lv_sipush (v := (-9999)) hx hb dX7_tell_18 (by decide) ?_
    refine lv_sipush (v := 9999) hx hb dX7_tell_21 (by decide) ?_
    obtain ⟨r5, f4, ef4, h⟩ := mm_b2e h
    refine mm_callS (v := some (.int r5)) (f1 := f4) (d0 := 0) (rest := []) [.int x2, .int (-9999), .int 9999] C0 rfl hR (T_X7_in G ef4) ws_X7_in lk_144 hd_X7_in ⟨by decide, by decide⟩ hl.1 rfl (Nat.le_of_ble_eq_true rfl) dX7_tell_24 (fun H locs hR => ?_)
    refine W.eq (g2 := F0 m 27 ls (.int r5 :: [])) rfl ?_
    refine lv_if_ne (tgt := 37) hx hb dX7_tell_27 (by decide) (fun c6 => ?_) (fun c6 => ?_)
    · rw [if_neg c6] at h
      refine lv_iconst (v := 0) hx hb dX7_tell_37 (by decide) ?_
      refine lv_istore_n (lv' := [(3, .int 0), (0, .ref (ra G 20 0)), (1, .int x1), (2, .int x2)]) hx hb dX7_tell_38 rfl hl (by decide) rfl (fun ls hl => ?_)
      exact L_X7_tell_39 C0 _ h _ _ _ hR (lv_sub hl [1, 2, 3, 0] rfl)
    · rw [if_pos c6] at h
      refine lv_aload_n hx hb dX7_tell_30 rfl (lv_at hl 0 rfl) ?_
      refine lv_bipush (v := (-7)) hx hb dX7_tell_31 (by decide) ?_
      obtain ⟨r8, f7, ef7, h⟩ := mm_b2e h
      refine mm_callV (v := some (.int r8)) (f1 := f7) (d0 := 0) (rest := []) [.int (-7)] C0 rfl hR 20 0 (T_X7_refuse G ef7) ws_X7_refuse lk_147 hd_X7_refuse ⟨by decide, by decide⟩ vl_20 rfl rfl rfl hl.1 rfl (Nat.le_of_ble_eq_true rfl) dX7_tell_33 (fun H locs hR => ?_)
      refine W.eq (g2 := F0 m 36 ls (.int r8 :: [])) rfl ?_
      obtain ⟨rfl, rfl⟩ := mm_pr h
      exact mm_iret C0 hR dX7_tell_36
  · rw [if_pos c3] at h
    refine lv_aload_n hx hb dX7_tell_10 rfl (lv_at hl 0 rfl) ?_
    refine lv_bipush (v := (-3)) hx hb dX7_tell_11 (by decide) ?_
    obtain ⟨r10, f9, ef9, h⟩ := mm_b2e h
    refine mm_callV (v := some (.int r10)) (f1 := f9) (d0 := 0) (rest := []) [.int (-3)] C0 rfl hR 20 0 (T_X7_refuse G ef9) ws_X7_refuse lk_147 hd_X7_refuse ⟨by decide, by decide⟩ vl_20 rfl rfl rfl hl.1 rfl (Nat.le_of_ble_eq_true rfl) dX7_tell_13 (fun H locs hR => ?_)
    refine W.eq (g2 := F0 m 16 ls (.int r10 :: [])) rfl ?_
    obtain ⟨rfl, rfl⟩ := mm_pr h
    exact mm_iret C0 hR dX7_tell_16
def S_X7_thaw_194 : Nat → F3 → Int32 → Int32 → Option (Int32 × F3)
  | 0, _, _, _ => none
  | n + 1, f, x3, x5 => if 10 ≤ x5 then (some (x3, f)) else (if okI (5 * x5) 50 then (if okI x5 10 then (mm_let (up f 30 0 x5.toNatClampNeg (f 25 0 (5 * x5).toNatClampNeg)) fun f33 => if okI ((5 * x5) + 1) 50 then (mm_let (up f33 31 0 x5.toNatClampNeg (f33 25 0 ((5 * x5) + 1).toNatClampNeg)) fun f35 => if okI ((5 * x5) + 2) 50 then (mm_let (up f35 35 0 x5.toNatClampNeg (f35 25 0 ((5 * x5) + 2).toNatClampNeg)) fun f37 => if okI ((5 * x5) + 3) 50 then (mm_let (up f37 36 0 x5.toNatClampNeg (f37 25 0 ((5 * x5) + 3).toNatClampNeg)) fun f39 => if okI ((5 * x5) + 4) 50 then (mm_let (up f39 37 0 x5.toNatClampNeg (f39 25 0 ((5 * x5) + 4).toNatClampNeg)) fun f41 => S_X7_thaw_194 n f41 x3 (x5 + 1)) else none) else none) else none) else none) else none) else none)
set_option maxHeartbeats 4000000 in
set_option maxRecDepth 100000 in
theorem L_X7_thaw_194 {G : mmG} {p : Program} {e : Env} {s : State} {m : MethodId} {args : Array Value} {below : List Frame} {meth : Method} {c : Code} {f' : F3} {rv : Int32} (C0 : mmC yX7_thaw cX7_thaw 6 (some .int) p s m args meth c) : ∀ (n : Nat) {f : F3} {x3 : Int32} {x5 : Int32} , S_X7_thaw_194 n f x3 x5 = some (rv, f') → ∀ (H : Heap) (locs : List Loc) (ls : Array Slot), mm_R G mm_NT f (GG f) s H locs → lv_has ls 6 [(0, .ref (ra G 20 0)), (3, .int x3), (5, .int x5)] → W p G.1 e (mm_rm 2) s m args below meth c H locs 0 0 (MQ below (mm_Q G mm_NT (some (.int rv)) f' (GG f')) args s 0 0 (mm_A G)) (F0 m 194 ls []) := by
  obtain ⟨hx, hb, hml, hr, hown, hts, hlocks⟩ := id C0
  intro n
  induction n with
  | zero =>
    intro f x3 x5  h H locs ls hR hl
    cases h
  | succ n ih =>
    intro f x3 x5  h H locs ls hR hl
    rw [S_X7_thaw_194] at h
    refine lv_iload hx hb dX7_thaw_194 (lv_at hl 2 rfl) ?_
    refine lv_bipush (v := 10) hx hb dX7_thaw_196 (by decide) ?_
    refine lv_icmp_ge (tgt := 295) hx hb dX7_thaw_198 (by decide) (fun c30 => ?_) (fun c30 => ?_)
    · rw [if_pos c30] at h
      refine lv_iload_n hx hb dX7_thaw_295 rfl (lv_at hl 1 rfl) ?_
      obtain ⟨rfl, rfl⟩ := mm_pr h
      exact mm_iret C0 hR dX7_thaw_296
    · rw [if_neg c30] at h
      refine lv_aload_n hx hb dX7_thaw_201 rfl (lv_at hl 0 rfl) ?_
      refine mm_get hx hb hts hown hR 20 0 3 vl_20 (v := .ref (ra G 30 0)) rfl rfl iX7 (by decide) lk_140 rfl dX7_thaw_202 ?_
      refine lv_iload hx hb dX7_thaw_205 (lv_at hl 2 rfl) ?_
      refine lv_aload_n hx hb dX7_thaw_207 rfl (lv_at hl 0 rfl) ?_
      refine mm_get hx hb hts hown hR 20 0 25 vl_20 (v := .ref (ra G 25 0)) rfl rfl iX7 (by decide) lk_207 rfl dX7_thaw_208 ?_
      refine lv_iconst (v := 5) hx hb dX7_thaw_211 (by decide) ?_
      refine lv_iload hx hb dX7_thaw_212 (lv_at hl 2 rfl) ?_
      refine lv_imul hx hb dX7_thaw_214 ?_
      obtain ⟨z31, h⟩ := mm_if h
      refine mm_ild hx hb hR 25 0 vl_25 (L := 50) rfl (okI_in z31) dX7_thaw_215 ?_
      obtain ⟨z32, h⟩ := mm_if h
      obtain ⟨f33, ef33, h⟩ := mm_lt h
      refine mm_ist hx hb hR 30 0 (by decide) vl_30 (L := 10) (j := x5) (x := f 25 0 (5 * x5).toNatClampNeg) (fun _ => rfl) (okI_in z32) dX7_thaw_216 (fun H locs hR => ?_)
      rw [← ef33] at hR
      refine lv_aload_n hx hb dX7_thaw_217 rfl (lv_at hl 0 rfl) ?_
      refine mm_get hx hb hts hown hR 20 0 4 vl_20 (v := .ref (ra G 31 0)) rfl rfl iX7 (by decide) lk_141 rfl dX7_thaw_218 ?_
      refine lv_iload hx hb dX7_thaw_221 (lv_at hl 2 rfl) ?_
      refine lv_aload_n hx hb dX7_thaw_223 rfl (lv_at hl 0 rfl) ?_
      refine mm_get hx hb hts hown hR 20 0 25 vl_20 (v := .ref (ra G 25 0)) rfl rfl iX7 (by decide) lk_207 rfl dX7_thaw_224 ?_
      refine lv_iconst (v := 5) hx hb dX7_thaw_227 (by decide) ?_
      refine lv_iload hx hb dX7_thaw_228 (lv_at hl 2 rfl) ?_
      refine lv_imul hx hb dX7_thaw_230 ?_
      refine lv_iconst (v := 1) hx hb dX7_thaw_231 (by decide) ?_
      refine lv_iadd hx hb dX7_thaw_232 ?_
      obtain ⟨z34, h⟩ := mm_if h
      refine mm_ild hx hb hR 25 0 vl_25 (L := 50) rfl (okI_in z34) dX7_thaw_233 ?_
      obtain ⟨f35, ef35, h⟩ := mm_lt h
      refine mm_ist hx hb hR 31 0 (by decide) vl_31 (L := 10) (j := x5) (x := f33 25 0 ((5 * x5) + 1).toNatClampNeg) (fun _ => rfl) (okI_in z32) dX7_thaw_234 (fun H locs hR => ?_)
      rw [← ef35] at hR
      refine lv_aload_n hx hb dX7_thaw_235 rfl (lv_at hl 0 rfl) ?_
      refine mm_get hx hb hts hown hR 20 0 8 vl_20 (v := .ref (ra G 35 0)) rfl rfl iX7 (by decide) lk_155 rfl dX7_thaw_236 ?_
      refine lv_iload hx hb dX7_thaw_239 (lv_at hl 2 rfl) ?_
      refine lv_aload_n hx hb dX7_thaw_241 rfl (lv_at hl 0 rfl) ?_
      refine mm_get hx hb hts hown hR 20 0 25 vl_20 (v := .ref (ra G 25 0)) rfl rfl iX7 (by decide) lk_207 rfl dX7_thaw_242 ?_
      refine lv_iconst (v := 5) hx hb dX7_thaw_245 (by decide) ?_
      refine lv_iload hx hb dX7_thaw_246 (lv_at hl 2 rfl) ?_
      refine lv_imul hx hb dX7_thaw_248 ?_
      refine lv_iconst (v := 2) hx hb dX7_thaw_249 (by decide) ?_
      refine lv_iadd hx hb dX7_thaw_250 ?_
      obtain ⟨z36, h⟩ := mm_if h
      refine mm_ild hx hb hR 25 0 vl_25 (L := 50) rfl (okI_in z36) dX7_thaw_251 ?_
      obtain ⟨f37, ef37, h⟩ := mm_lt h
      refine mm_ist hx hb hR 35 0 (by decide) vl_35 (L := 10) (j := x5) (x := f35 25 0 ((5 * x5) + 2).toNatClampNeg) (fun _ => rfl) (okI_in z32) dX7_thaw_252 (fun H locs hR => ?_)
      rw [← ef37] at hR
      refine lv_aload_n hx hb dX7_thaw_253 rfl (lv_at hl 0 rfl) ?_
      refine mm_get hx hb hts hown hR 20 0 9 vl_20 (v := .ref (ra G 36 0)) rfl rfl iX7 (by decide) lk_175 rfl dX7_thaw_254 ?_
      refine lv_iload hx hb dX7_thaw_257 (lv_at hl 2 rfl) ?_
      refine lv_aload_n hx hb dX7_thaw_259 rfl (lv_at hl 0 rfl) ?_
      refine mm_get hx hb hts hown hR 20 0 25 vl_20 (v := .ref (ra G 25 0)) rfl rfl iX7 (by decide) lk_207 rfl dX7_thaw_260 ?_
      refine lv_iconst (v := 5) hx hb dX7_thaw_263 (by decide) ?_
      refine lv_iload hx hb dX7_thaw_264 (lv_at hl 2 rfl) ?_
      refine lv_imul hx hb dX7_thaw_266 ?_
      refine lv_iconst (v := 3) hx hb dX7_thaw_267 (by decide) ?_
      refine lv_iadd hx hb dX7_thaw_268 ?_
      obtain ⟨z38, h⟩ := mm_if h
      refine mm_ild hx hb hR 25 0 vl_25 (L := 50) rfl (okI_in z38) dX7_thaw_269 ?_
      obtain ⟨f39, ef39, h⟩ := mm_lt h
      refine mm_ist hx hb hR 36 0 (by decide) vl_36 (L := 10) (j := x5) (x := f37 25 0 ((5 * x5) + 3).toNatClampNeg) (fun _ => rfl) (okI_in z32) dX7_thaw_270 (fun H locs hR => ?_)
      rw [← ef39] at hR
      refine lv_aload_n hx hb dX7_thaw_271 rfl (lv_at hl 0 rfl) ?_
      refine mm_get hx hb hts hown hR 20 0 10 vl_20 (v := .ref (ra G 37 0)) rfl rfl iX7 (by decide) lk_148 rfl dX7_thaw_272 ?_
      refine lv_iload hx hb dX7_thaw_275 (lv_at hl 2 rfl) ?_
      refine lv_aload_n hx hb dX7_thaw_277 rfl (lv_at hl 0 rfl) ?_
      refine mm_get hx hb hts hown hR 20 0 25 vl_20 (v := .ref (ra G 25 0)) rfl rfl iX7 (by decide) lk_207 rfl dX7_thaw_278 ?_
      refine lv_iconst (v := 5) hx hb dX7_thaw_281 (by decide) ?_
      refine lv_iload hx hb dX7_thaw_282 (lv_at hl 2 rfl) ?_
      refine lv_imul hx hb dX7_thaw_284 ?_
      refine lv_iconst (v := 4) hx hb dX7_thaw_285 (by decide) ?_
      refine lv_iadd hx hb dX7_thaw_286 ?_
      obtain ⟨z40, h⟩ := mm_if h
      refine mm_ild hx hb hR 25 0 vl_25 (L := 50) rfl (okI_in z40) dX7_thaw_287 ?_
      obtain ⟨f41, ef41, h⟩ := mm_lt h
      refine mm_ist hx hb hR 37 0 (by decide) vl_37 (L := 10) (j := x5) (x := f39 25 0 ((5 * x5) + 4).toNatClampNeg) (fun _ => rfl) (okI_in z32) dX7_thaw_288 (fun H locs hR => ?_)
      rw [← ef41] at hR
      refine lv_iinc (v := x5 + 1) (lv' := [(5, .int (x5 + 1)), (0, .ref (ra G 20 0)), (3, .int x3)]) hx hb dX7_thaw_289 hl (k := 2) rfl rfl (by decide) rfl (fun ls hl => ?_)
      refine lv_goto (tgt := 194) hx hb dX7_thaw_292 (by decide) ?_
      exact ih  h _ _ _ hR (lv_sub hl [1, 2, 0] rfl)
def S_X7_thaw_191 (f : F3) (x3 : Int32) : Option (Int32 × F3) := S_X7_thaw_194 FU f x3 0
set_option maxHeartbeats 4000000 in
set_option maxRecDepth 100000 in
theorem L_X7_thaw_191 {G : mmG} {p : Program} {e : Env} {s : State} {m : MethodId} {args : Array Value} {below : List Frame} {meth : Method} {c : Code} {f' : F3} {rv : Int32} (C0 : mmC yX7_thaw cX7_thaw 6 (some .int) p s m args meth c) {f : F3} {x3 : Int32} (h : S_X7_thaw_191 f x3 = some (rv, f')) (H : Heap) (locs : List Loc) (ls : Array Slot) (hR : mm_R G mm_NT f (GG f) s H locs) (hl : lv_has ls 6 [(0, .ref (ra G 20 0)), (3, .int x3)]) : W p G.1 e (mm_rm 2) s m args below meth c H locs 0 0 (MQ below (mm_Q G mm_NT (some (.int rv)) f' (GG f')) args s 0 0 (mm_A G)) (F0 m 191 ls []) := by
  obtain ⟨hx, hb, hml, hr, hown, hts, hlocks⟩ := id C0
  rw [S_X7_thaw_191] at h
  refine lv_iconst (v := 0) hx hb dX7_thaw_191 (by decide) ?_
  refine lv_istore (lv' := [(5, .int 0), (0, .ref (ra G 20 0)), (3, .int x3)]) hx hb dX7_thaw_192 hl (by decide) rfl (fun ls hl => ?_)
  exact L_X7_thaw_194 C0 _ h _ _ _ hR (lv_sub hl [1, 2, 0] rfl)
def S_X7_thaw_186 (k131 : F3 → Int32 → Int32 → Int32 → Int32 → Option (Int32 × F3)) (f : F3) (s0 : Int32) (s1 : Int32) (x1 : Int32) (x2 : Int32) (x4 : Int32) : Option (Int32 × F3) := k131 f x1 x2 (s0 + s1) x4
set_option maxHeartbeats 4000000 in
set_option maxRecDepth 100000 in
theorem L_X7_thaw_186 {G : mmG} {p : Program} {e : Env} {s : State} {m : MethodId} {args : Array Value} {below : List Frame} {meth : Method} {c : Code} {f' : F3} {rv : Int32} (C0 : mmC yX7_thaw cX7_thaw 6 (some .int) p s m args meth c) {k131 : F3 → Int32 → Int32 → Int32 → Int32 → Option (Int32 × F3)} (hk131 : ∀ (f : F3) (x1 : Int32) (x2 : Int32) (x3 : Int32) (x4 : Int32), k131 f x1 x2 x3 x4 = some (rv, f') → ∀ (H : Heap) (locs : List Loc) (ls : Array Slot), mm_R G mm_NT f (GG f) s H locs → lv_has ls 6 [(0, .ref (ra G 20 0)), (1, .int x1), (2, .int x2), (3, .int x3), (4, .int x4)] → W p G.1 e (mm_rm 2) s m args below meth c H locs 0 0 (MQ below (mm_Q G mm_NT (some (.int rv)) f' (GG f')) args s 0 0 (mm_A G)) (F0 m 131 ls [])) {f : F3} {s0 : Int32} {s1 : Int32} {x1 : Int32} {x2 : Int32} {x4 : Int32} (h : S_X7_thaw_186 k131 f s0 s1 x1 x2 x4 = some (rv, f')) (H : Heap) (locs : List Loc) (ls : Array Slot) (hR : mm_R G mm_NT f (GG f) s H locs) (hl : lv_has ls 6 [(0, .ref (ra G 20 0)), (1, .int x1), (2, .int x2), (4, .int x4)]) : W p G.1 e (mm_rm 2) s m args below meth c H locs 0 0 (MQ below (mm_Q G mm_NT (some (.int rv)) f' (GG f')) args s 0 0 (mm_A G)) (F0 m 186 ls [.int s1, .int s0]) := by
  obtain ⟨hx, hb, hml, hr, hown, hts, hlocks⟩ := id C0
  rw [S_X7_thaw_186] at h
  refine lv_iadd hx hb dX7_thaw_186 ?_
  refine lv_istore_n (lv' := [(3, .int (s0 + s1)), (0, .ref (ra G 20 0)), (1, .int x1), (2, .int x2), (4, .int x4)]) hx hb dX7_thaw_187 rfl hl (by decide) rfl (fun ls hl => ?_)
  refine lv_goto (tgt := 131) hx hb dX7_thaw_188 (by decide) ?_
  exact hk131 _ x1 x2 (s0 + s1) x4  h _ _ _ hR (lv_sub hl [1, 2, 3, 0, 4] rfl)
def S_X7_thaw_146 (k131 : F3 → Int32 → Int32 → Int32 → Int32 → Option (Int32 × F3)) : Nat → F3 → Int32 → Int32 → Int32 → Int32 → Option (Int32 × F3)
  | 0, _, _, _, _, _ => none
  | n + 1, f, x1, x2, x3, x5 => if (f 20 0 2) ≤ x5 then (mm_b2 (S_X7_allBear f x1) fun r27 f26 => if r27 = 0 then (S_X7_thaw_186 k131 f26 x3 0 x1 x2 r27) else (S_X7_thaw_186 k131 f26 x3 1 x1 x2 r27)) else (Option.bind (S_X7_grows f x5 x2) fun f29 => S_X7_thaw_146 k131 n f29 x1 x2 x3 (x5 + 1))
set_option maxHeartbeats 4000000 in
set_option maxRecDepth 100000 in
theorem L_X7_thaw_146 {G : mmG} {p : Program} {e : Env} {s : State} {m : MethodId} {args : Array Value} {below : List Frame} {meth : Method} {c : Code} {f' : F3} {rv : Int32} (C0 : mmC yX7_thaw cX7_thaw 6 (some .int) p s m args meth c) {k131 : F3 → Int32 → Int32 → Int32 → Int32 → Option (Int32 × F3)} (hk131 : ∀ (f : F3) (x1 : Int32) (x2 : Int32) (x3 : Int32) (x4 : Int32), k131 f x1 x2 x3 x4 = some (rv, f') → ∀ (H : Heap) (locs : List Loc) (ls : Array Slot), mm_R G mm_NT f (GG f) s H locs → lv_has ls 6 [(0, .ref (ra G 20 0)), (1, .int x1), (2, .int x2), (3, .int x3), (4, .int x4)] → W p G.1 e (mm_rm 2) s m args below meth c H locs 0 0 (MQ below (mm_Q G mm_NT (some (.int rv)) f' (GG f')) args s 0 0 (mm_A G)) (F0 m 131 ls [])) : ∀ (n : Nat) {f : F3} {x1 : Int32} {x2 : Int32} {x3 : Int32} {x5 : Int32} , S_X7_thaw_146 k131 n f x1 x2 x3 x5 = some (rv, f') → ∀ (H : Heap) (locs : List Loc) (ls : Array Slot), mm_R G mm_NT f (GG f) s H locs → lv_has ls 6 [(0, .ref (ra G 20 0)), (1, .int x1), (2, .int x2), (3, .int x3), (5, .int x5)] → W p G.1 e (mm_rm 2) s m args below meth c H locs 0 0 (MQ below (mm_Q G mm_NT (some (.int rv)) f' (GG f')) args s 0 0 (mm_A G)) (F0 m 146 ls []) := by
  obtain ⟨hx, hb, hml, hr, hown, hts, hlocks⟩ := id C0
  intro n
  induction n with
  | zero =>
    intro f x1 x2 x3 x5  h H locs ls hR hl
    cases h
  | succ n ih =>
    intro f x1 x2 x3 x5  h H locs ls hR hl
    rw [S_X7_thaw_146] at h
    refine lv_iload hx hb dX7_thaw_146 (lv_at hl 4 rfl) ?_
    refine lv_aload_n hx hb dX7_thaw_148 rfl (lv_at hl 0 rfl) ?_
    refine mm_get hx hb hts hown hR 20 0 2 vl_20 (v := .int (f 20 0 2)) rfl rfl iX7 (by decide) lk_142 rfl dX7_thaw_149 ?_
    refine lv_icmp_ge (tgt := 168) hx hb dX7_thaw_152 (by decide) (fun c25 => ?_) (fun c25 => ?_)
    · rw [if_pos c25] at h
      refine lv_aload_n hx hb dX7_thaw_168 rfl (lv_at hl 0 rfl) ?_
      refine lv_iload_n hx hb dX7_thaw_169 rfl (lv_at hl 1 rfl) ?_
      obtain ⟨r27, f26, ef26, h⟩ := mm_b2e h
      refine mm_callV (v := some (.int r27)) (f1 := f26) (d0 := 1) (rest := []) [.int x1] C0 rfl hR 20 0 (T_X7_allBear G ef26) ws_X7_allBear lk_206 hd_X7_allBear ⟨by decide, by decide⟩ vl_20 rfl rfl rfl hl.1 rfl (Nat.le_of_ble_eq_true rfl) dX7_thaw_170 (fun H locs hR => ?_)
      refine W.eq (g2 := F0 m 173 ls (.int r27 :: [])) rfl ?_
      refine lv_istore (lv' := [(4, .int r27), (0, .ref (ra G 20 0)), (1, .int x1), (2, .int x2), (3, .int x3), (5, .int x5)]) hx hb dX7_thaw_173 hl (by decide) rfl (fun ls hl => ?_)
      refine lv_iload_n hx hb dX7_thaw_175 rfl (lv_at hl 4 rfl) ?_
      refine lv_iload hx hb dX7_thaw_176 (lv_at hl 0 rfl) ?_
      refine lv_if_eq (tgt := 185) hx hb dX7_thaw_178 (by decide) (fun c28 => ?_) (fun c28 => ?_)
      · rw [if_pos c28] at h
        refine lv_iconst (v := 0) hx hb dX7_thaw_185 (by decide) ?_
        exact L_X7_thaw_186 C0 hk131 h _ _ _ hR (lv_sub hl [1, 2, 3, 0] rfl)
      · rw [if_neg c28] at h
        refine lv_iconst (v := 1) hx hb dX7_thaw_181 (by decide) ?_
        refine lv_goto (tgt := 186) hx hb dX7_thaw_182 (by decide) ?_
        exact L_X7_thaw_186 C0 hk131 h _ _ _ hR (lv_sub hl [1, 2, 3, 0] rfl)
    · rw [if_neg c25] at h
      refine lv_aload_n hx hb dX7_thaw_155 rfl (lv_at hl 0 rfl) ?_
      refine lv_iload hx hb dX7_thaw_156 (lv_at hl 4 rfl) ?_
      refine lv_iload_n hx hb dX7_thaw_158 rfl (lv_at hl 2 rfl) ?_
      obtain ⟨f29, ef29, h⟩ := mm_bind h
      refine mm_callV (v := none) (f1 := f29) (d0 := 1) (rest := []) [.int x5, .int x2] C0 rfl hR 20 0 (T_X7_grows G ef29) ws_X7_grows lk_193 hd_X7_grows ⟨by decide, by decide⟩ vl_20 rfl rfl rfl hl.1 rfl (Nat.le_of_ble_eq_true rfl) dX7_thaw_159 (fun H locs hR => ?_)
      refine W.eq (g2 := F0 m 162 ls ([])) rfl ?_
      refine lv_iinc (v := x5 + 1) (lv' := [(5, .int (x5 + 1)), (0, .ref (ra G 20 0)), (1, .int x1), (2, .int x2), (3, .int x3)]) hx hb dX7_thaw_162 hl (k := 4) rfl rfl (by decide) rfl (fun ls hl => ?_)
      refine lv_goto (tgt := 146) hx hb dX7_thaw_165 (by decide) ?_
      exact ih  h _ _ _ hR (lv_sub hl [1, 2, 3, 4, 0] rfl)
def S_X7_thaw_131 : Nat → F3 → Int32 → Int32 → Int32 → Int32 → Option (Int32 × F3)
  | 0, _, _, _, _, _ => none
  | n + 1, f, x1, x2, x3, x4 => if x4 = 0 then (S_X7_thaw_191 f x3) else (if 500 ≤ x3 then (S_X7_thaw_191 f x3) else (S_X7_thaw_146 (fun f9 x1_ x2_ x3_ x4_ => S_X7_thaw_131 n f9 x1_ x2_ x3_ x4_) FU f x1 x2 x3 0))
set_option maxHeartbeats 4000000 in
set_option maxRecDepth 100000 in
theorem L_X7_thaw_131 {G : mmG} {p : Program} {e : Env} {s : State} {m : MethodId} {args : Array Value} {below : List Frame} {meth : Method} {c : Code} {f' : F3} {rv : Int32} (C0 : mmC yX7_thaw cX7_thaw 6 (some .int) p s m args meth c) : ∀ (n : Nat) {f : F3} {x1 : Int32} {x2 : Int32} {x3 : Int32} {x4 : Int32} , S_X7_thaw_131 n f x1 x2 x3 x4 = some (rv, f') → ∀ (H : Heap) (locs : List Loc) (ls : Array Slot), mm_R G mm_NT f (GG f) s H locs → lv_has ls 6 [(0, .ref (ra G 20 0)), (1, .int x1), (2, .int x2), (3, .int x3), (4, .int x4)] → W p G.1 e (mm_rm 2) s m args below meth c H locs 0 0 (MQ below (mm_Q G mm_NT (some (.int rv)) f' (GG f')) args s 0 0 (mm_A G)) (F0 m 131 ls []) := by
  obtain ⟨hx, hb, hml, hr, hown, hts, hlocks⟩ := id C0
  intro n
  induction n with
  | zero =>
    intro f x1 x2 x3 x4  h H locs ls hR hl
    cases h
  | succ n ih =>
    intro f x1 x2 x3 x4  h H locs ls hR hl
    rw [S_X7_thaw_131] at h
    refine lv_iload hx hb dX7_thaw_131 (lv_at hl 4 rfl) ?_
    refine lv_if_eq (tgt := 191) hx hb dX7_thaw_133 (by decide) (fun c23 => ?_) (fun c23 => ?_)
    · rw [if_pos c23] at h
      exact L_X7_thaw_191 C0 h _ _ _ hR (lv_sub hl [0, 3] rfl)
    · rw [if_neg c23] at h
      refine lv_iload_n hx hb dX7_thaw_136 rfl (lv_at hl 3 rfl) ?_
      refine lv_sipush (v := 500) hx hb dX7_thaw_137 (by decide) ?_
      refine lv_icmp_ge (tgt := 191) hx hb dX7_thaw_140 (by decide) (fun c24 => ?_) (fun c24 => ?_)
      · rw [if_pos c24] at h
        exact L_X7_thaw_191 C0 h _ _ _ hR (lv_sub hl [0, 3] rfl)
      · rw [if_neg c24] at h
        refine lv_iconst (v := 0) hx hb dX7_thaw_143 (by decide) ?_
        refine lv_istore (lv' := [(5, .int 0), (0, .ref (ra G 20 0)), (1, .int x1), (2, .int x2), (3, .int x3), (4, .int x4)]) hx hb dX7_thaw_144 hl (by decide) rfl (fun ls hl => ?_)
        exact L_X7_thaw_146 C0 (fun _ _ _ _ _ h9 H9 locs9 ls9 hR9 hl9 => ih h9 _ _ _ hR9 hl9) _ h _ _ _ hR (lv_sub hl [1, 2, 3, 4, 0] rfl)
def S_X7_thaw_32 : Nat → F3 → Int32 → Int32 → Int32 → Option (Int32 × F3)
  | 0, _, _, _, _ => none
  | n + 1, f, x1, x2, x3 => if 10 ≤ x3 then (mm_b2 (S_X7_allBear f x1) fun r11 f10 => S_X7_thaw_131 FU f10 x1 x2 0 r11) else (if okI x3 10 then (if okI (5 * x3) 50 then (mm_let (up f 25 0 (5 * x3).toNatClampNeg (f 30 0 x3.toNatClampNeg)) fun f14 => if okI ((5 * x3) + 1) 50 then (mm_let (up f14 25 0 ((5 * x3) + 1).toNatClampNeg (f14 31 0 x3.toNatClampNeg)) fun f16 => if okI ((5 * x3) + 2) 50 then (mm_let (up f16 25 0 ((5 * x3) + 2).toNatClampNeg (f16 35 0 x3.toNatClampNeg)) fun f18 => if okI ((5 * x3) + 3) 50 then (mm_let (up f18 25 0 ((5 * x3) + 3).toNatClampNeg (f18 36 0 x3.toNatClampNeg)) fun f20 => if okI ((5 * x3) + 4) 50 then (mm_let (up f20 25 0 ((5 * x3) + 4).toNatClampNeg (f20 37 0 x3.toNatClampNeg)) fun f22 => S_X7_thaw_32 n f22 x1 x2 (x3 + 1)) else none) else none) else none) else none) else none) else none)
set_option maxHeartbeats 4000000 in
set_option maxRecDepth 100000 in
theorem L_X7_thaw_32 {G : mmG} {p : Program} {e : Env} {s : State} {m : MethodId} {args : Array Value} {below : List Frame} {meth : Method} {c : Code} {f' : F3} {rv : Int32} (C0 : mmC yX7_thaw cX7_thaw 6 (some .int) p s m args meth c) : ∀ (n : Nat) {f : F3} {x1 : Int32} {x2 : Int32} {x3 : Int32} , S_X7_thaw_32 n f x1 x2 x3 = some (rv, f') → ∀ (H : Heap) (locs : List Loc) (ls : Array Slot), mm_R G mm_NT f (GG f) s H locs → lv_has ls 6 [(0, .ref (ra G 20 0)), (1, .int x1), (2, .int x2), (3, .int x3)] → W p G.1 e (mm_rm 2) s m args below meth c H locs 0 0 (MQ below (mm_Q G mm_NT (some (.int rv)) f' (GG f')) args s 0 0 (mm_A G)) (F0 m 32 ls []) := by
  obtain ⟨hx, hb, hml, hr, hown, hts, hlocks⟩ := id C0
  intro n
  induction n with
  | zero =>
    intro f x1 x2 x3  h H locs ls hR hl
    cases h
  | succ n ih =>
    intro f x1 x2 x3  h H locs ls hR hl
    rw [S_X7_thaw_32] at h
    refine lv_iload_n hx hb dX7_thaw_32 rfl (lv_at hl 3 rfl) ?_
    refine lv_bipush (v := 10) hx hb dX7_thaw_33 (by decide) ?_
    refine lv_icmp_ge (tgt := 122) hx hb dX7_thaw_35 (by decide) (fun c9 => ?_) (fun c9 => ?_)
    · rw [if_pos c9] at h
      refine lv_iconst (v := 0) hx hb dX7_thaw_122 (by decide) ?_
      refine lv_istore_n (lv' := [(3, .int 0), (0, .ref (ra G 20 0)), (1, .int x1), (2, .int x2)]) hx hb dX7_thaw_123 rfl hl (by decide) rfl (fun ls hl => ?_)
      refine lv_aload_n hx hb dX7_thaw_124 rfl (lv_at hl 1 rfl) ?_
      refine lv_iload_n hx hb dX7_thaw_125 rfl (lv_at hl 2 rfl) ?_
      obtain ⟨r11, f10, ef10, h⟩ := mm_b2e h
      refine mm_callV (v := some (.int r11)) (f1 := f10) (d0 := 1) (rest := []) [.int x1] C0 rfl hR 20 0 (T_X7_allBear G ef10) ws_X7_allBear lk_206 hd_X7_allBear ⟨by decide, by decide⟩ vl_20 rfl rfl rfl hl.1 rfl (Nat.le_of_ble_eq_true rfl) dX7_thaw_126 (fun H locs hR => ?_)
      refine W.eq (g2 := F0 m 129 ls (.int r11 :: [])) rfl ?_
      refine lv_istore (lv' := [(4, .int r11), (3, .int 0), (0, .ref (ra G 20 0)), (1, .int x1), (2, .int x2)]) hx hb dX7_thaw_129 hl (by decide) rfl (fun ls hl => ?_)
      exact L_X7_thaw_131 C0 _ h _ _ _ hR (lv_sub hl [2, 3, 4, 1, 0] rfl)
    · rw [if_neg c9] at h
      refine lv_aload_n hx hb dX7_thaw_38 rfl (lv_at hl 0 rfl) ?_
      refine mm_get hx hb hts hown hR 20 0 25 vl_20 (v := .ref (ra G 25 0)) rfl rfl iX7 (by decide) lk_207 rfl dX7_thaw_39 ?_
      refine lv_iconst (v := 5) hx hb dX7_thaw_42 (by decide) ?_
      refine lv_iload_n hx hb dX7_thaw_43 rfl (lv_at hl 3 rfl) ?_
      refine lv_imul hx hb dX7_thaw_44 ?_
      refine lv_aload_n hx hb dX7_thaw_45 rfl (lv_at hl 0 rfl) ?_
      refine mm_get hx hb hts hown hR 20 0 3 vl_20 (v := .ref (ra G 30 0)) rfl rfl iX7 (by decide) lk_140 rfl dX7_thaw_46 ?_
      refine lv_iload_n hx hb dX7_thaw_49 rfl (lv_at hl 3 rfl) ?_
      obtain ⟨z12, h⟩ := mm_if h
      refine mm_ild hx hb hR 30 0 vl_30 (L := 10) rfl (okI_in z12) dX7_thaw_50 ?_
      obtain ⟨z13, h⟩ := mm_if h
      obtain ⟨f14, ef14, h⟩ := mm_lt h
      refine mm_ist hx hb hR 25 0 (by decide) vl_25 (L := 50) (j := 5 * x3) (x := f 30 0 x3.toNatClampNeg) (fun _ => rfl) (okI_in z13) dX7_thaw_51 (fun H locs hR => ?_)
      rw [← ef14] at hR
      refine lv_aload_n hx hb dX7_thaw_52 rfl (lv_at hl 0 rfl) ?_
      refine mm_get hx hb hts hown hR 20 0 25 vl_20 (v := .ref (ra G 25 0)) rfl rfl iX7 (by decide) lk_207 rfl dX7_thaw_53 ?_
      refine lv_iconst (v := 5) hx hb dX7_thaw_56 (by decide) ?_
      refine lv_iload_n hx hb dX7_thaw_57 rfl (lv_at hl 3 rfl) ?_
      refine lv_imul hx hb dX7_thaw_58 ?_
      refine lv_iconst (v := 1) hx hb dX7_thaw_59 (by decide) ?_
      refine lv_iadd hx hb dX7_thaw_60 ?_
      refine lv_aload_n hx hb dX7_thaw_61 rfl (lv_at hl 0 rfl) ?_
      refine mm_get hx hb hts hown hR 20 0 4 vl_20 (v := .ref (ra G 31 0)) rfl rfl iX7 (by decide) lk_141 rfl dX7_thaw_62 ?_
      refine lv_iload_n hx hb dX7_thaw_65 rfl (lv_at hl 3 rfl) ?_
      refine mm_ild hx hb hR 31 0 vl_31 (L := 10) rfl (okI_in z12) dX7_thaw_66 ?_
      obtain ⟨z15, h⟩ := mm_if h
      obtain ⟨f16, ef16, h⟩ := mm_lt h
      refine mm_ist hx hb hR 25 0 (by decide) vl_25 (L := 50) (j := (5 * x3) + 1) (x := f14 31 0 x3.toNatClampNeg) (fun _ => rfl) (okI_in z15) dX7_thaw_67 (fun H locs hR => ?_)
      rw [← ef16] at hR
      refine lv_aload_n hx hb dX7_thaw_68 rfl (lv_at hl 0 rfl) ?_
      refine mm_get hx hb hts hown hR 20 0 25 vl_20 (v := .ref (ra G 25 0)) rfl rfl iX7 (by decide) lk_207 rfl dX7_thaw_69 ?_
      refine lv_iconst (v := 5) hx hb dX7_thaw_72 (by decide) ?_
      refine lv_iload_n hx hb dX7_thaw_73 rfl (lv_at hl 3 rfl) ?_
      refine lv_imul hx hb dX7_thaw_74 ?_
      refine lv_iconst (v := 2) hx hb dX7_thaw_75 (by decide) ?_
      refine lv_iadd hx hb dX7_thaw_76 ?_
      refine lv_aload_n hx hb dX7_thaw_77 rfl (lv_at hl 0 rfl) ?_
      refine mm_get hx hb hts hown hR 20 0 8 vl_20 (v := .ref (ra G 35 0)) rfl rfl iX7 (by decide) lk_155 rfl dX7_thaw_78 ?_
      refine lv_iload_n hx hb dX7_thaw_81 rfl (lv_at hl 3 rfl) ?_
      refine mm_ild hx hb hR 35 0 vl_35 (L := 10) rfl (okI_in z12) dX7_thaw_82 ?_
      obtain ⟨z17, h⟩ := mm_if h
      obtain ⟨f18, ef18, h⟩ := mm_lt h
      refine mm_ist hx hb hR 25 0 (by decide) vl_25 (L := 50) (j := (5 * x3) + 2) (x := f16 35 0 x3.toNatClampNeg) (fun _ => rfl) (okI_in z17) dX7_thaw_83 (fun H locs hR => ?_)
      rw [← ef18] at hR
      refine lv_aload_n hx hb dX7_thaw_84 rfl (lv_at hl 0 rfl) ?_
      refine mm_get hx hb hts hown hR 20 0 25 vl_20 (v := .ref (ra G 25 0)) rfl rfl iX7 (by decide) lk_207 rfl dX7_thaw_85 ?_
      refine lv_iconst (v := 5) hx hb dX7_thaw_88 (by decide) ?_
      refine lv_iload_n hx hb dX7_thaw_89 rfl (lv_at hl 3 rfl) ?_
      refine lv_imul hx hb dX7_thaw_90 ?_
      refine lv_iconst (v := 3) hx hb dX7_thaw_91 (by decide) ?_
      refine lv_iadd hx hb dX7_thaw_92 ?_
      refine lv_aload_n hx hb dX7_thaw_93 rfl (lv_at hl 0 rfl) ?_
      refine mm_get hx hb hts hown hR 20 0 9 vl_20 (v := .ref (ra G 36 0)) rfl rfl iX7 (by decide) lk_175 rfl dX7_thaw_94 ?_
      refine lv_iload_n hx hb dX7_thaw_97 rfl (lv_at hl 3 rfl) ?_
      refine mm_ild hx hb hR 36 0 vl_36 (L := 10) rfl (okI_in z12) dX7_thaw_98 ?_
      obtain ⟨z19, h⟩ := mm_if h
      obtain ⟨f20, ef20, h⟩ := mm_lt h
      refine mm_ist hx hb hR 25 0 (by decide) vl_25 (L := 50) (j := (5 * x3) + 3) (x := f18 36 0 x3.toNatClampNeg) (fun _ => rfl) (okI_in z19) dX7_thaw_99 (fun H locs hR => ?_)
      rw [← ef20] at hR
      refine lv_aload_n hx hb dX7_thaw_100 rfl (lv_at hl 0 rfl) ?_
      refine mm_get hx hb hts hown hR 20 0 25 vl_20 (v := .ref (ra G 25 0)) rfl rfl iX7 (by decide) lk_207 rfl dX7_thaw_101 ?_
      refine lv_iconst (v := 5) hx hb dX7_thaw_104 (by decide) ?_
      refine lv_iload_n hx hb dX7_thaw_105 rfl (lv_at hl 3 rfl) ?_
      refine lv_imul hx hb dX7_thaw_106 ?_
      refine lv_iconst (v := 4) hx hb dX7_thaw_107 (by decide) ?_
      refine lv_iadd hx hb dX7_thaw_108 ?_
      refine lv_aload_n hx hb dX7_thaw_109 rfl (lv_at hl 0 rfl) ?_
      refine mm_get hx hb hts hown hR 20 0 10 vl_20 (v := .ref (ra G 37 0)) rfl rfl iX7 (by decide) lk_148 rfl dX7_thaw_110 ?_
      refine lv_iload_n hx hb dX7_thaw_113 rfl (lv_at hl 3 rfl) ?_
      refine mm_ild hx hb hR 37 0 vl_37 (L := 10) rfl (okI_in z12) dX7_thaw_114 ?_
      obtain ⟨z21, h⟩ := mm_if h
      obtain ⟨f22, ef22, h⟩ := mm_lt h
      refine mm_ist hx hb hR 25 0 (by decide) vl_25 (L := 50) (j := (5 * x3) + 4) (x := f20 37 0 x3.toNatClampNeg) (fun _ => rfl) (okI_in z21) dX7_thaw_115 (fun H locs hR => ?_)
      rw [← ef22] at hR
      refine lv_iinc (v := x3 + 1) (lv' := [(3, .int (x3 + 1)), (0, .ref (ra G 20 0)), (1, .int x1), (2, .int x2)]) hx hb dX7_thaw_116 hl (k := 3) rfl rfl (by decide) rfl (fun ls hl => ?_)
      refine lv_goto (tgt := 32) hx hb dX7_thaw_119 (by decide) ?_
      exact ih  h _ _ _ hR (lv_sub hl [1, 2, 3, 0] rfl)
def S_X7_thaw_23 (f : F3)  : Option (Int32 × F3) := mm_b2 (S_X7_refuse f (-7)) fun r8 f7 => some (r8, f7)
set_option maxHeartbeats 4000000 in
set_option maxRecDepth 100000 in
theorem L_X7_thaw_23 {G : mmG} {p : Program} {e : Env} {s : State} {m : MethodId} {args : Array Value} {below : List Frame} {meth : Method} {c : Code} {f' : F3} {rv : Int32} (C0 : mmC yX7_thaw cX7_thaw 6 (some .int) p s m args meth c) {f : F3} (h : S_X7_thaw_23 f = some (rv, f')) (H : Heap) (locs : List Loc) (ls : Array Slot) (hR : mm_R G mm_NT f (GG f) s H locs) (hl : lv_has ls 6 [(0, .ref (ra G 20 0))]) : W p G.1 e (mm_rm 2) s m args below meth c H locs 0 0 (MQ below (mm_Q G mm_NT (some (.int rv)) f' (GG f')) args s 0 0 (mm_A G)) (F0 m 23 ls []) := by
  obtain ⟨hx, hb, hml, hr, hown, hts, hlocks⟩ := id C0
  rw [S_X7_thaw_23] at h
  refine lv_aload_n hx hb dX7_thaw_23 rfl (lv_at hl 0 rfl) ?_
  refine lv_bipush (v := (-7)) hx hb dX7_thaw_24 (by decide) ?_
  obtain ⟨r8, f7, ef7, h⟩ := mm_b2e h
  refine mm_callV (v := some (.int r8)) (f1 := f7) (d0 := 0) (rest := []) [.int (-7)] C0 rfl hR 20 0 (T_X7_refuse G ef7) ws_X7_refuse lk_147 hd_X7_refuse ⟨by decide, by decide⟩ vl_20 rfl rfl rfl hl.1 rfl (Nat.le_of_ble_eq_true rfl) dX7_thaw_26 (fun H locs hR => ?_)
  refine W.eq (g2 := F0 m 29 ls (.int r8 :: [])) rfl ?_
  obtain ⟨rfl, rfl⟩ := mm_pr h
  exact mm_iret C0 hR dX7_thaw_29
def S_X7_thaw (f : F3) (x1 : Int32) (x2 : Int32) : Option (Int32 × F3) := mm_b2 (S_X7_in f x1 1 99) fun r2 f1 => if r2 = 0 then (S_X7_thaw_23 f1 ) else (mm_b2 (S_X7_in f1 x2 (-600) 300) fun r5 f4 => if r5 = 0 then (S_X7_thaw_23 f4 ) else (S_X7_thaw_32 FU f4 x1 x2 0))
set_option maxHeartbeats 4000000 in
set_option maxRecDepth 100000 in
theorem T_X7_thaw (G : mmG) {f f' : F3} {rv : Int32} {x1 : Int32} {x2 : Int32} (h : S_X7_thaw f x1 x2 = some (rv, f')) : mmM G yX7_thaw cX7_thaw 6 (some .int) 2 [.ref (ra G 20 0), .int x1, .int x2] f (some (.int rv)) f' := by
  refine mm_start (by decide +kernel) (Nat.le_of_ble_eq_true rfl) ?_
  intro p e s m args below meth c ls C0 hR hl
  obtain ⟨hx, hb, hml, hr, hown, hts, hlocks⟩ := id C0
  have hl : lv_has ls 6 [(0, .ref (ra G 20 0)), (1, .int x1), (2, .int x2)] := hl
  rw [S_X7_thaw] at h
  refine lv_iload_n hx hb dX7_thaw_0 rfl (lv_at hl 1 rfl) ?_
  refine lv_iconst (v := 1) hx hb dX7_thaw_1 (by decide) ?_
  refine lv_bipush (v := 99) hx hb dX7_thaw_2 (by decide) ?_
  obtain ⟨r2, f1, ef1, h⟩ := mm_b2e h
  refine mm_callS (v := some (.int r2)) (f1 := f1) (d0 := 0) (rest := []) [.int x1, .int 1, .int 99] C0 rfl hR (T_X7_in G ef1) ws_X7_in lk_144 hd_X7_in ⟨by decide, by decide⟩ hl.1 rfl (Nat.le_of_ble_eq_true rfl) dX7_thaw_4 (fun H locs hR => ?_)
  refine W.eq (g2 := F0 m 7 ls (.int r2 :: [])) rfl ?_
  refine lv_if_eq (tgt := 23) hx hb dX7_thaw_7 (by decide) (fun c3 => ?_) (fun c3 => ?_)
  · rw [if_pos c3] at h
    exact L_X7_thaw_23 C0 h _ _ _ hR (lv_sub hl [0] rfl)
  · rw [if_neg c3] at h
    refine lv_iload_n hx hb dX7_thaw_10 rfl (lv_at hl 2 rfl) ?_
    refine lv_sipush (v := (-600)) hx hb dX7_thaw_11 (by decide) ?_
    refine lv_sipush (v := 300) hx hb dX7_thaw_14 (by decide) ?_
    obtain ⟨r5, f4, ef4, h⟩ := mm_b2e h
    refine mm_callS (v := some (.int r5)) (f1 := f4) (d0 := 0) (rest := []) [.int x2, .int (-600), .int 300] C0 rfl hR (T_X7_in G ef4) ws_X7_in lk_144 hd_X7_in ⟨by decide, by decide⟩ hl.1 rfl (Nat.le_of_ble_eq_true rfl) dX7_thaw_17 (fun H locs hR => ?_)
    refine W.eq (g2 := F0 m 20 ls (.int r5 :: [])) rfl ?_
    refine lv_if_ne (tgt := 30) hx hb dX7_thaw_20 (by decide) (fun c6 => ?_) (fun c6 => ?_)
    · rw [if_neg c6] at h
      refine lv_iconst (v := 0) hx hb dX7_thaw_30 (by decide) ?_
      refine lv_istore_n (lv' := [(3, .int 0), (0, .ref (ra G 20 0)), (1, .int x1), (2, .int x2)]) hx hb dX7_thaw_31 rfl hl (by decide) rfl (fun ls hl => ?_)
      exact L_X7_thaw_32 C0 _ h _ _ _ hR (lv_sub hl [1, 2, 3, 0] rfl)
    · rw [if_pos c6] at h
      exact L_X7_thaw_23 C0 h _ _ _ hR (lv_sub hl [0] rfl)
def S_X7_thick (f : F3) (x1 : Int32) (x2 : Int32) : Option (Int32 × F3) := mm_b2 (S_X7_isCell f x1) fun r2 f1 => if r2 = 0 then (mm_b2 (S_X7_refuse f1 (-3)) fun r15 f14 => some (r15, f14)) else (if okI x1 10 then (if (f1 30 0 x1.toNatClampNeg) = 4 then (mm_b2 (S_X7_refuse f1 (-5)) fun r13 f12 => some (r13, f12)) else (mm_b2 (S_X7_in f1 x2 0 3000) fun r7 f6 => if r7 = 0 then (mm_b2 (S_X7_refuse f6 (-7)) fun r11 f10 => some (r11, f10)) else (mm_let (up f6 31 0 x1.toNatClampNeg x2) fun f9 => some (f6 31 0 x1.toNatClampNeg, f9)))) else none)
set_option maxHeartbeats 4000000 in
set_option maxRecDepth 100000 in
theorem T_X7_thick (G : mmG) {f f' : F3} {rv : Int32} {x1 : Int32} {x2 : Int32} (h : S_X7_thick f x1 x2 = some (rv, f')) : mmM G yX7_thick cX7_thick 4 (some .int) 2 [.ref (ra G 20 0), .int x1, .int x2] f (some (.int rv)) f' := by
  refine mm_start (by decide +kernel) (Nat.le_of_ble_eq_true rfl) ?_
  intro p e s m args below meth c ls C0 hR hl
  obtain ⟨hx, hb, hml, hr, hown, hts, hlocks⟩ := id C0
  have hl : lv_has ls 4 [(0, .ref (ra G 20 0)), (1, .int x1), (2, .int x2)] := hl
  rw [S_X7_thick] at h
  refine lv_aload_n hx hb dX7_thick_0 rfl (lv_at hl 0 rfl) ?_
  refine lv_iload_n hx hb dX7_thick_1 rfl (lv_at hl 1 rfl) ?_
  obtain ⟨r2, f1, ef1, h⟩ := mm_b2e h
  refine mm_callV (v := some (.int r2)) (f1 := f1) (d0 := 1) (rest := []) [.int x1] C0 rfl hR 20 0 (T_X7_isCell G ef1) ws_X7_isCell lk_146 hd_X7_isCell ⟨by decide, by decide⟩ vl_20 rfl rfl rfl hl.1 rfl (Nat.le_of_ble_eq_true rfl) dX7_thick_2 (fun H locs hR => ?_)
  refine W.eq (g2 := F0 m 5 ls (.int r2 :: [])) rfl ?_
  refine lv_if_ne (tgt := 15) hx hb dX7_thick_5 (by decide) (fun c3 => ?_) (fun c3 => ?_)
  · rw [if_neg c3] at h
    refine lv_aload_n hx hb dX7_thick_15 rfl (lv_at hl 0 rfl) ?_
    refine mm_get hx hb hts hown hR 20 0 3 vl_20 (v := .ref (ra G 30 0)) rfl rfl iX7 (by decide) lk_140 rfl dX7_thick_16 ?_
    refine lv_iload_n hx hb dX7_thick_19 rfl (lv_at hl 1 rfl) ?_
    obtain ⟨z4, h⟩ := mm_if h
    refine mm_ild hx hb hR 30 0 vl_30 (L := 10) rfl (okI_in z4) dX7_thick_20 ?_
    refine lv_iconst (v := 4) hx hb dX7_thick_21 (by decide) ?_
    refine lv_icmp_ne (tgt := 32) hx hb dX7_thick_22 (by decide) (fun c5 => ?_) (fun c5 => ?_)
    · rw [if_neg c5] at h
      refine lv_iload_n hx hb dX7_thick_32 rfl (lv_at hl 2 rfl) ?_
      refine lv_iconst (v := 0) hx hb dX7_thick_33 (by decide) ?_
      refine lv_sipush (v := 3000) hx hb dX7_thick_34 (by decide) ?_
      obtain ⟨r7, f6, ef6, h⟩ := mm_b2e h
      refine mm_callS (v := some (.int r7)) (f1 := f6) (d0 := 0) (rest := []) [.int x2, .int 0, .int 3000] C0 rfl hR (T_X7_in G ef6) ws_X7_in lk_144 hd_X7_in ⟨by decide, by decide⟩ hl.1 rfl (Nat.le_of_ble_eq_true rfl) dX7_thick_37 (fun H locs hR => ?_)
      refine W.eq (g2 := F0 m 40 ls (.int r7 :: [])) rfl ?_
      refine lv_if_ne (tgt := 50) hx hb dX7_thick_40 (by decide) (fun c8 => ?_) (fun c8 => ?_)
      · rw [if_neg c8] at h
        refine lv_aload_n hx hb dX7_thick_50 rfl (lv_at hl 0 rfl) ?_
        refine mm_get hx hb hts hown hR 20 0 4 vl_20 (v := .ref (ra G 31 0)) rfl rfl iX7 (by decide) lk_141 rfl dX7_thick_51 ?_
        refine lv_iload_n hx hb dX7_thick_54 rfl (lv_at hl 1 rfl) ?_
        refine mm_ild hx hb hR 31 0 vl_31 (L := 10) rfl (okI_in z4) dX7_thick_55 ?_
        refine lv_istore_n (lv' := [(3, .int (f6 31 0 x1.toNatClampNeg)), (0, .ref (ra G 20 0)), (1, .int x1), (2, .int x2)]) hx hb dX7_thick_56 rfl hl (by decide) rfl (fun ls hl => ?_)
        refine lv_aload_n hx hb dX7_thick_57 rfl (lv_at hl 1 rfl) ?_
        refine mm_get hx hb hts hown hR 20 0 4 vl_20 (v := .ref (ra G 31 0)) rfl rfl iX7 (by decide) lk_141 rfl dX7_thick_58 ?_
        refine lv_iload_n hx hb dX7_thick_61 rfl (lv_at hl 2 rfl) ?_
        refine lv_iload_n hx hb dX7_thick_62 rfl (lv_at hl 3 rfl) ?_
        obtain ⟨f9, ef9, h⟩ := mm_lt h
        refine mm_ist hx hb hR 31 0 (by decide) vl_31 (L := 10) (j := x1) (x := x2) (fun _ => rfl) (okI_in z4) dX7_thick_63 (fun H locs hR => ?_)
        rw [← ef9] at hR
        refine lv_iload_n hx hb dX7_thick_64 rfl (lv_at hl 0 rfl) ?_
        obtain ⟨rfl, rfl⟩ := mm_pr h
        exact mm_iret C0 hR dX7_thick_65
      · rw [if_pos c8] at h
        refine lv_aload_n hx hb dX7_thick_43 rfl (lv_at hl 0 rfl) ?_
        refine lv_bipush (v := (-7)) hx hb dX7_thick_44 (by decide) ?_
        obtain ⟨r11, f10, ef10, h⟩ := mm_b2e h
        refine mm_callV (v := some (.int r11)) (f1 := f10) (d0 := 0) (rest := []) [.int (-7)] C0 rfl hR 20 0 (T_X7_refuse G ef10) ws_X7_refuse lk_147 hd_X7_refuse ⟨by decide, by decide⟩ vl_20 rfl rfl rfl hl.1 rfl (Nat.le_of_ble_eq_true rfl) dX7_thick_46 (fun H locs hR => ?_)
        refine W.eq (g2 := F0 m 49 ls (.int r11 :: [])) rfl ?_
        obtain ⟨rfl, rfl⟩ := mm_pr h
        exact mm_iret C0 hR dX7_thick_49
    · rw [if_pos c5] at h
      refine lv_aload_n hx hb dX7_thick_25 rfl (lv_at hl 0 rfl) ?_
      refine lv_bipush (v := (-5)) hx hb dX7_thick_26 (by decide) ?_
      obtain ⟨r13, f12, ef12, h⟩ := mm_b2e h
      refine mm_callV (v := some (.int r13)) (f1 := f12) (d0 := 0) (rest := []) [.int (-5)] C0 rfl hR 20 0 (T_X7_refuse G ef12) ws_X7_refuse lk_147 hd_X7_refuse ⟨by decide, by decide⟩ vl_20 rfl rfl rfl hl.1 rfl (Nat.le_of_ble_eq_true rfl) dX7_thick_28 (fun H locs hR => ?_)
      refine W.eq (g2 := F0 m 31 ls (.int r13 :: [])) rfl ?_
      obtain ⟨rfl, rfl⟩ := mm_pr h
      exact mm_iret C0 hR dX7_thick_31
  · rw [if_pos c3] at h
    refine lv_aload_n hx hb dX7_thick_8 rfl (lv_at hl 0 rfl) ?_
    refine lv_bipush (v := (-3)) hx hb dX7_thick_9 (by decide) ?_
    obtain ⟨r15, f14, ef14, h⟩ := mm_b2e h
    refine mm_callV (v := some (.int r15)) (f1 := f14) (d0 := 0) (rest := []) [.int (-3)] C0 rfl hR 20 0 (T_X7_refuse G ef14) ws_X7_refuse lk_147 hd_X7_refuse ⟨by decide, by decide⟩ vl_20 rfl rfl rfl hl.1 rfl (Nat.le_of_ble_eq_true rfl) dX7_thick_11 (fun H locs hR => ?_)
    refine W.eq (g2 := F0 m 14 ls (.int r15 :: [])) rfl ?_
    obtain ⟨rfl, rfl⟩ := mm_pr h
    exact mm_iret C0 hR dX7_thick_14
def S_X7_turn (f : F3) (x1 : Int32) : Option (Int32 × F3) := mm_b2 (S_X7_isLoad f x1) fun r2 f1 => if r2 = 0 then (mm_b2 (S_X7_refuse f1 (-3)) fun r12 f11 => some (r12, f11)) else (if okI x1 24 then (if (f1 43 0 x1.toNatClampNeg) = 0 then (mm_let (up f1 43 0 x1.toNatClampNeg 4) fun f6 => mm_b2 (S_X7_many f6 0) fun r8 f7 => some (r8, f7)) else (mm_b2 (S_X7_refuse f1 (-7)) fun r10 f9 => some (r10, f9))) else none)
set_option maxHeartbeats 4000000 in
set_option maxRecDepth 100000 in
theorem T_X7_turn (G : mmG) {f f' : F3} {rv : Int32} {x1 : Int32} (h : S_X7_turn f x1 = some (rv, f')) : mmM G yX7_turn cX7_turn 2 (some .int) 2 [.ref (ra G 20 0), .int x1] f (some (.int rv)) f' := by
  refine mm_start (by decide +kernel) (Nat.le_of_ble_eq_true rfl) ?_
  intro p e s m args below meth c ls C0 hR hl
  obtain ⟨hx, hb, hml, hr, hown, hts, hlocks⟩ := id C0
  have hl : lv_has ls 2 [(0, .ref (ra G 20 0)), (1, .int x1)] := hl
  rw [S_X7_turn] at h
  refine lv_aload_n hx hb dX7_turn_0 rfl (lv_at hl 0 rfl) ?_
  refine lv_iload_n hx hb dX7_turn_1 rfl (lv_at hl 1 rfl) ?_
  obtain ⟨r2, f1, ef1, h⟩ := mm_b2e h
  refine mm_callV (v := some (.int r2)) (f1 := f1) (d0 := 1) (rest := []) [.int x1] C0 rfl hR 20 0 (T_X7_isLoad G ef1) ws_X7_isLoad lk_198 hd_X7_isLoad ⟨by decide, by decide⟩ vl_20 rfl rfl rfl hl.1 rfl (Nat.le_of_ble_eq_true rfl) dX7_turn_2 (fun H locs hR => ?_)
  refine W.eq (g2 := F0 m 5 ls (.int r2 :: [])) rfl ?_
  refine lv_if_ne (tgt := 15) hx hb dX7_turn_5 (by decide) (fun c3 => ?_) (fun c3 => ?_)
  · rw [if_neg c3] at h
    refine lv_aload_n hx hb dX7_turn_15 rfl (lv_at hl 0 rfl) ?_
    refine mm_get hx hb hts hown hR 20 0 17 vl_20 (v := .ref (ra G 43 0)) rfl rfl iX7 (by decide) lk_150 rfl dX7_turn_16 ?_
    refine lv_iload_n hx hb dX7_turn_19 rfl (lv_at hl 1 rfl) ?_
    obtain ⟨z4, h⟩ := mm_if h
    refine mm_ild hx hb hR 43 0 vl_43 (L := 24) rfl (okI_in z4) dX7_turn_20 ?_
    refine lv_if_eq (tgt := 31) hx hb dX7_turn_21 (by decide) (fun c5 => ?_) (fun c5 => ?_)
    · rw [if_pos c5] at h
      refine lv_aload_n hx hb dX7_turn_31 rfl (lv_at hl 0 rfl) ?_
      refine mm_get hx hb hts hown hR 20 0 17 vl_20 (v := .ref (ra G 43 0)) rfl rfl iX7 (by decide) lk_150 rfl dX7_turn_32 ?_
      refine lv_iload_n hx hb dX7_turn_35 rfl (lv_at hl 1 rfl) ?_
      refine lv_iconst (v := 4) hx hb dX7_turn_36 (by decide) ?_
      obtain ⟨f6, ef6, h⟩ := mm_lt h
      refine mm_ist hx hb hR 43 0 (by decide) vl_43 (L := 24) (j := x1) (x := 4) (fun _ => rfl) (okI_in z4) dX7_turn_37 (fun H locs hR => ?_)
      rw [← ef6] at hR
      refine lv_aload_n hx hb dX7_turn_38 rfl (lv_at hl 0 rfl) ?_
      refine lv_iconst (v := 0) hx hb dX7_turn_39 (by decide) ?_
      obtain ⟨r8, f7, ef7, h⟩ := mm_b2e h
      refine mm_callV (v := some (.int r8)) (f1 := f7) (d0 := 0) (rest := []) [.int 0] C0 rfl hR 20 0 (T_X7_many G ef7) ws_X7_many lk_182 hd_X7_many ⟨by decide, by decide⟩ vl_20 rfl rfl rfl hl.1 rfl (Nat.le_of_ble_eq_true rfl) dX7_turn_40 (fun H locs hR => ?_)
      refine W.eq (g2 := F0 m 43 ls (.int r8 :: [])) rfl ?_
      obtain ⟨rfl, rfl⟩ := mm_pr h
      exact mm_iret C0 hR dX7_turn_43
    · rw [if_neg c5] at h
      refine lv_aload_n hx hb dX7_turn_24 rfl (lv_at hl 0 rfl) ?_
      refine lv_bipush (v := (-7)) hx hb dX7_turn_25 (by decide) ?_
      obtain ⟨r10, f9, ef9, h⟩ := mm_b2e h
      refine mm_callV (v := some (.int r10)) (f1 := f9) (d0 := 0) (rest := []) [.int (-7)] C0 rfl hR 20 0 (T_X7_refuse G ef9) ws_X7_refuse lk_147 hd_X7_refuse ⟨by decide, by decide⟩ vl_20 rfl rfl rfl hl.1 rfl (Nat.le_of_ble_eq_true rfl) dX7_turn_27 (fun H locs hR => ?_)
      refine W.eq (g2 := F0 m 30 ls (.int r10 :: [])) rfl ?_
      obtain ⟨rfl, rfl⟩ := mm_pr h
      exact mm_iret C0 hR dX7_turn_30
  · rw [if_pos c3] at h
    refine lv_aload_n hx hb dX7_turn_8 rfl (lv_at hl 0 rfl) ?_
    refine lv_bipush (v := (-3)) hx hb dX7_turn_9 (by decide) ?_
    obtain ⟨r12, f11, ef11, h⟩ := mm_b2e h
    refine mm_callV (v := some (.int r12)) (f1 := f11) (d0 := 0) (rest := []) [.int (-3)] C0 rfl hR 20 0 (T_X7_refuse G ef11) ws_X7_refuse lk_147 hd_X7_refuse ⟨by decide, by decide⟩ vl_20 rfl rfl rfl hl.1 rfl (Nat.le_of_ble_eq_true rfl) dX7_turn_11 (fun H locs hR => ?_)
    refine W.eq (g2 := F0 m 14 ls (.int r12 :: [])) rfl ?_
    obtain ⟨rfl, rfl⟩ := mm_pr h
    exact mm_iret C0 hR dX7_turn_14
def S_X7_weather_44 (f : F3) (x1 : Int32) (x2 : Int32) : Option (Int32 × F3) := if okI x1 48 then (mm_let (up f 22 0 x1.toNatClampNeg x2) fun f13 => some (f 22 0 x1.toNatClampNeg, f13)) else none
set_option maxHeartbeats 4000000 in
set_option maxRecDepth 100000 in
theorem L_X7_weather_44 {G : mmG} {p : Program} {e : Env} {s : State} {m : MethodId} {args : Array Value} {below : List Frame} {meth : Method} {c : Code} {f' : F3} {rv : Int32} (C0 : mmC yX7_weather cX7_weather 4 (some .int) p s m args meth c) {f : F3} {x1 : Int32} {x2 : Int32} (h : S_X7_weather_44 f x1 x2 = some (rv, f')) (H : Heap) (locs : List Loc) (ls : Array Slot) (hR : mm_R G mm_NT f (GG f) s H locs) (hl : lv_has ls 4 [(0, .ref (ra G 20 0)), (1, .int x1), (2, .int x2)]) : W p G.1 e (mm_rm 1) s m args below meth c H locs 0 0 (MQ below (mm_Q G mm_NT (some (.int rv)) f' (GG f')) args s 0 0 (mm_A G)) (F0 m 44 ls []) := by
  obtain ⟨hx, hb, hml, hr, hown, hts, hlocks⟩ := id C0
  rw [S_X7_weather_44] at h
  refine lv_aload_n hx hb dX7_weather_44 rfl (lv_at hl 0 rfl) ?_
  refine mm_get hx hb hts hown hR 20 0 12 vl_20 (v := .ref (ra G 22 0)) rfl rfl iX7 (by decide) lk_156 rfl dX7_weather_45 ?_
  refine lv_iload_n hx hb dX7_weather_48 rfl (lv_at hl 1 rfl) ?_
  obtain ⟨z12, h⟩ := mm_if h
  refine mm_ild hx hb hR 22 0 vl_22 (L := 48) rfl (okI_in z12) dX7_weather_49 ?_
  refine lv_istore_n (lv' := [(3, .int (f 22 0 x1.toNatClampNeg)), (0, .ref (ra G 20 0)), (1, .int x1), (2, .int x2)]) hx hb dX7_weather_50 rfl hl (by decide) rfl (fun ls hl => ?_)
  refine lv_aload_n hx hb dX7_weather_51 rfl (lv_at hl 1 rfl) ?_
  refine mm_get hx hb hts hown hR 20 0 12 vl_20 (v := .ref (ra G 22 0)) rfl rfl iX7 (by decide) lk_156 rfl dX7_weather_52 ?_
  refine lv_iload_n hx hb dX7_weather_55 rfl (lv_at hl 2 rfl) ?_
  refine lv_iload_n hx hb dX7_weather_56 rfl (lv_at hl 3 rfl) ?_
  obtain ⟨f13, ef13, h⟩ := mm_lt h
  refine mm_ist hx hb hR 22 0 (by decide) vl_22 (L := 48) (j := x1) (x := x2) (fun _ => rfl) (okI_in z12) dX7_weather_57 (fun H locs hR => ?_)
  rw [← ef13] at hR
  refine lv_iload_n hx hb dX7_weather_58 rfl (lv_at hl 0 rfl) ?_
  obtain ⟨rfl, rfl⟩ := mm_pr h
  exact mm_iret C0 hR dX7_weather_59
def S_X7_weather (f : F3) (x1 : Int32) (x2 : Int32) : Option (Int32 × F3) := mm_b2 (S_X7_in f x1 0 47) fun r2 f1 => if r2 = 0 then (mm_b2 (S_X7_nought f1 (-3)) fun r11 f10 => some (r11, f10)) else (if x2 = (-9999) then (S_X7_weather_44 f1 x1 x2) else (mm_b2 (S_X7_in f1 x2 (-600) 300) fun r6 f5 => if r6 = 0 then (mm_b2 (S_X7_nought f5 (-7)) fun r9 f8 => some (r9, f8)) else (S_X7_weather_44 f5 x1 x2)))
set_option maxHeartbeats 4000000 in
set_option maxRecDepth 100000 in
theorem T_X7_weather (G : mmG) {f f' : F3} {rv : Int32} {x1 : Int32} {x2 : Int32} (h : S_X7_weather f x1 x2 = some (rv, f')) : mmM G yX7_weather cX7_weather 4 (some .int) 1 [.ref (ra G 20 0), .int x1, .int x2] f (some (.int rv)) f' := by
  refine mm_start (by decide +kernel) (Nat.le_of_ble_eq_true rfl) ?_
  intro p e s m args below meth c ls C0 hR hl
  obtain ⟨hx, hb, hml, hr, hown, hts, hlocks⟩ := id C0
  have hl : lv_has ls 4 [(0, .ref (ra G 20 0)), (1, .int x1), (2, .int x2)] := hl
  rw [S_X7_weather] at h
  refine lv_iload_n hx hb dX7_weather_0 rfl (lv_at hl 1 rfl) ?_
  refine lv_iconst (v := 0) hx hb dX7_weather_1 (by decide) ?_
  refine lv_bipush (v := 47) hx hb dX7_weather_2 (by decide) ?_
  obtain ⟨r2, f1, ef1, h⟩ := mm_b2e h
  refine mm_callS (v := some (.int r2)) (f1 := f1) (d0 := 0) (rest := []) [.int x1, .int 0, .int 47] C0 rfl hR (T_X7_in G ef1) ws_X7_in lk_144 hd_X7_in ⟨by decide, by decide⟩ hl.1 rfl (Nat.le_of_ble_eq_true rfl) dX7_weather_4 (fun H locs hR => ?_)
  refine W.eq (g2 := F0 m 7 ls (.int r2 :: [])) rfl ?_
  refine lv_if_ne (tgt := 17) hx hb dX7_weather_7 (by decide) (fun c3 => ?_) (fun c3 => ?_)
  · rw [if_neg c3] at h
    refine lv_iload_n hx hb dX7_weather_17 rfl (lv_at hl 2 rfl) ?_
    refine lv_sipush (v := (-9999)) hx hb dX7_weather_18 (by decide) ?_
    refine lv_icmp_eq (tgt := 44) hx hb dX7_weather_21 (by decide) (fun c4 => ?_) (fun c4 => ?_)
    · rw [if_pos c4] at h
      exact L_X7_weather_44 C0 h _ _ _ hR (lv_sub hl [0, 1, 2] rfl)
    · rw [if_neg c4] at h
      refine lv_iload_n hx hb dX7_weather_24 rfl (lv_at hl 2 rfl) ?_
      refine lv_sipush (v := (-600)) hx hb dX7_weather_25 (by decide) ?_
      refine lv_sipush (v := 300) hx hb dX7_weather_28 (by decide) ?_
      obtain ⟨r6, f5, ef5, h⟩ := mm_b2e h
      refine mm_callS (v := some (.int r6)) (f1 := f5) (d0 := 0) (rest := []) [.int x2, .int (-600), .int 300] C0 rfl hR (T_X7_in G ef5) ws_X7_in lk_144 hd_X7_in ⟨by decide, by decide⟩ hl.1 rfl (Nat.le_of_ble_eq_true rfl) dX7_weather_31 (fun H locs hR => ?_)
      refine W.eq (g2 := F0 m 34 ls (.int r6 :: [])) rfl ?_
      refine lv_if_ne (tgt := 44) hx hb dX7_weather_34 (by decide) (fun c7 => ?_) (fun c7 => ?_)
      · rw [if_neg c7] at h
        exact L_X7_weather_44 C0 h _ _ _ hR (lv_sub hl [0, 1, 2] rfl)
      · rw [if_pos c7] at h
        refine lv_aload_n hx hb dX7_weather_37 rfl (lv_at hl 0 rfl) ?_
        refine lv_bipush (v := (-7)) hx hb dX7_weather_38 (by decide) ?_
        obtain ⟨r9, f8, ef8, h⟩ := mm_b2e h
        refine mm_callV (v := some (.int r9)) (f1 := f8) (d0 := 0) (rest := []) [.int (-7)] C0 rfl hR 20 0 (T_X7_nought G ef8) ws_X7_nought lk_196 hd_X7_nought ⟨by decide, by decide⟩ vl_20 rfl rfl rfl hl.1 rfl (Nat.le_of_ble_eq_true rfl) dX7_weather_40 (fun H locs hR => ?_)
        refine W.eq (g2 := F0 m 43 ls (.int r9 :: [])) rfl ?_
        obtain ⟨rfl, rfl⟩ := mm_pr h
        exact mm_iret C0 hR dX7_weather_43
  · rw [if_pos c3] at h
    refine lv_aload_n hx hb dX7_weather_10 rfl (lv_at hl 0 rfl) ?_
    refine lv_bipush (v := (-3)) hx hb dX7_weather_11 (by decide) ?_
    obtain ⟨r11, f10, ef10, h⟩ := mm_b2e h
    refine mm_callV (v := some (.int r11)) (f1 := f10) (d0 := 0) (rest := []) [.int (-3)] C0 rfl hR 20 0 (T_X7_nought G ef10) ws_X7_nought lk_196 hd_X7_nought ⟨by decide, by decide⟩ vl_20 rfl rfl rfl hl.1 rfl (Nat.le_of_ble_eq_true rfl) dX7_weather_13 (fun H locs hR => ?_)
    refine W.eq (g2 := F0 m 16 ls (.int r11 :: [])) rfl ?_
    obtain ⟨rfl, rfl⟩ := mm_pr h
    exact mm_iret C0 hR dX7_weather_16
def S_X7_why_25 (f : F3)  : Option (Int32 × F3) := mm_b2 (S_X7_refuse f (-3)) fun r10 f9 => some (r10, f9)
set_option maxHeartbeats 4000000 in
set_option maxRecDepth 100000 in
theorem L_X7_why_25 {G : mmG} {p : Program} {e : Env} {s : State} {m : MethodId} {args : Array Value} {below : List Frame} {meth : Method} {c : Code} {f' : F3} {rv : Int32} (C0 : mmC yX7_why cX7_why 3 (some .int) p s m args meth c) {f : F3} (h : S_X7_why_25 f = some (rv, f')) (H : Heap) (locs : List Loc) (ls : Array Slot) (hR : mm_R G mm_NT f (GG f) s H locs) (hl : lv_has ls 3 [(0, .ref (ra G 20 0))]) : W p G.1 e (mm_rm 5) s m args below meth c H locs 0 0 (MQ below (mm_Q G mm_NT (some (.int rv)) f' (GG f')) args s 0 0 (mm_A G)) (F0 m 25 ls []) := by
  obtain ⟨hx, hb, hml, hr, hown, hts, hlocks⟩ := id C0
  rw [S_X7_why_25] at h
  refine lv_aload_n hx hb dX7_why_25 rfl (lv_at hl 0 rfl) ?_
  refine lv_bipush (v := (-3)) hx hb dX7_why_26 (by decide) ?_
  obtain ⟨r10, f9, ef9, h⟩ := mm_b2e h
  refine mm_callV (v := some (.int r10)) (f1 := f9) (d0 := 0) (rest := []) [.int (-3)] C0 rfl hR 20 0 (T_X7_refuse G ef9) ws_X7_refuse lk_147 hd_X7_refuse ⟨by decide, by decide⟩ vl_20 rfl rfl rfl hl.1 rfl (Nat.le_of_ble_eq_true rfl) dX7_why_28 (fun H locs hR => ?_)
  refine W.eq (g2 := F0 m 31 ls (.int r10 :: [])) rfl ?_
  obtain ⟨rfl, rfl⟩ := mm_pr h
  exact mm_iret C0 hR dX7_why_31
def S_X7_why (f : F3) (x1 : Int32) (x2 : Int32) : Option (Int32 × F3) := mm_b2 (S_X7_isLoad f x1) fun r2 f1 => if r2 = 0 then (S_X7_why_25 f1 ) else (mm_b2 (S_X7_isCell f1 x2) fun r5 f4 => if r5 = 0 then (S_X7_why_25 f4 ) else (mm_b2 (S_X7_whyNot f4 x1 x2) fun r8 f7 => some (r8, f7)))
set_option maxHeartbeats 4000000 in
set_option maxRecDepth 100000 in
theorem T_X7_why (G : mmG) {f f' : F3} {rv : Int32} {x1 : Int32} {x2 : Int32} (h : S_X7_why f x1 x2 = some (rv, f')) : mmM G yX7_why cX7_why 3 (some .int) 5 [.ref (ra G 20 0), .int x1, .int x2] f (some (.int rv)) f' := by
  refine mm_start (by decide +kernel) (Nat.le_of_ble_eq_true rfl) ?_
  intro p e s m args below meth c ls C0 hR hl
  obtain ⟨hx, hb, hml, hr, hown, hts, hlocks⟩ := id C0
  have hl : lv_has ls 3 [(0, .ref (ra G 20 0)), (1, .int x1), (2, .int x2)] := hl
  rw [S_X7_why] at h
  refine lv_aload_n hx hb dX7_why_0 rfl (lv_at hl 0 rfl) ?_
  refine lv_iload_n hx hb dX7_why_1 rfl (lv_at hl 1 rfl) ?_
  obtain ⟨r2, f1, ef1, h⟩ := mm_b2e h
  refine mm_callV (v := some (.int r2)) (f1 := f1) (d0 := 1) (rest := []) [.int x1] C0 rfl hR 20 0 (T_X7_isLoad G ef1) ws_X7_isLoad lk_198 hd_X7_isLoad ⟨by decide, by decide⟩ vl_20 rfl rfl rfl hl.1 rfl (Nat.le_of_ble_eq_true rfl) dX7_why_2 (fun H locs hR => ?_)
  refine W.eq (g2 := F0 m 5 ls (.int r2 :: [])) rfl ?_
  refine lv_if_eq (tgt := 25) hx hb dX7_why_5 (by decide) (fun c3 => ?_) (fun c3 => ?_)
  · rw [if_pos c3] at h
    exact L_X7_why_25 C0 h _ _ _ hR (lv_sub hl [0] rfl)
  · rw [if_neg c3] at h
    refine lv_aload_n hx hb dX7_why_8 rfl (lv_at hl 0 rfl) ?_
    refine lv_iload_n hx hb dX7_why_9 rfl (lv_at hl 2 rfl) ?_
    obtain ⟨r5, f4, ef4, h⟩ := mm_b2e h
    refine mm_callV (v := some (.int r5)) (f1 := f4) (d0 := 1) (rest := []) [.int x2] C0 rfl hR 20 0 (T_X7_isCell G ef4) ws_X7_isCell lk_146 hd_X7_isCell ⟨by decide, by decide⟩ vl_20 rfl rfl rfl hl.1 rfl (Nat.le_of_ble_eq_true rfl) dX7_why_10 (fun H locs hR => ?_)
    refine W.eq (g2 := F0 m 13 ls (.int r5 :: [])) rfl ?_
    refine lv_if_eq (tgt := 25) hx hb dX7_why_13 (by decide) (fun c6 => ?_) (fun c6 => ?_)
    · rw [if_pos c6] at h
      exact L_X7_why_25 C0 h _ _ _ hR (lv_sub hl [0] rfl)
    · rw [if_neg c6] at h
      refine lv_aload_n hx hb dX7_why_16 rfl (lv_at hl 0 rfl) ?_
      refine lv_iload_n hx hb dX7_why_17 rfl (lv_at hl 1 rfl) ?_
      refine lv_iload_n hx hb dX7_why_18 rfl (lv_at hl 2 rfl) ?_
      obtain ⟨r8, f7, ef7, h⟩ := mm_b2e h
      refine mm_callV (v := some (.int r8)) (f1 := f7) (d0 := 4) (rest := []) [.int x1, .int x2] C0 rfl hR 20 0 (T_X7_whyNot G ef7) ws_X7_whyNot lk_170 hd_X7_whyNot ⟨by decide, by decide⟩ vl_20 rfl rfl rfl hl.1 rfl (Nat.le_of_ble_eq_true rfl) dX7_why_19 (fun H locs hR => ?_)
      refine W.eq (g2 := F0 m 22 ls (.int r8 :: [])) rfl ?_
      refine lv_goto (tgt := 31) hx hb dX7_why_22 (by decide) ?_
      obtain ⟨rfl, rfl⟩ := mm_pr h
      exact mm_iret C0 hR dX7_why_31
def S_X7_wipe (f : F3)  : Option (Int32 × F3) := mm_let (up f 20 0 27 0) fun f1 => some (f 20 0 27, f1)
set_option maxHeartbeats 4000000 in
set_option maxRecDepth 100000 in
theorem T_X7_wipe (G : mmG) {f f' : F3} {rv : Int32} (h : S_X7_wipe f = some (rv, f')) : mmM G yX7_wipe cX7_wipe 2 (some .int) 0 [.ref (ra G 20 0)] f (some (.int rv)) f' := by
  refine mm_start (by decide +kernel) (Nat.le_of_ble_eq_true rfl) ?_
  intro p e s m args below meth c ls C0 hR hl
  obtain ⟨hx, hb, hml, hr, hown, hts, hlocks⟩ := id C0
  have hl : lv_has ls 2 [(0, .ref (ra G 20 0))] := hl
  rw [S_X7_wipe] at h
  refine lv_aload_n hx hb dX7_wipe_0 rfl (lv_at hl 0 rfl) ?_
  refine mm_get hx hb hts hown hR 20 0 27 vl_20 (v := .int (f 20 0 27)) rfl rfl iX7 (by decide) lk_180 rfl dX7_wipe_1 ?_
  refine lv_istore_n (lv' := [(1, .int (f 20 0 27)), (0, .ref (ra G 20 0))]) hx hb dX7_wipe_4 rfl hl (by decide) rfl (fun ls hl => ?_)
  refine lv_aload_n hx hb dX7_wipe_5 rfl (lv_at hl 1 rfl) ?_
  refine lv_iconst (v := 0) hx hb dX7_wipe_6 (by decide) ?_
  obtain ⟨f1, ef1, h⟩ := mm_lt h
  refine mm_put hx hb hts hown hR 20 0 27 (by decide) vl_20 (x := 0) rfl rfl iX7 tyX7 tyX7_ok nmX7 (by decide) lk_180 rfl rfl rfl (Nat.le_of_ble_eq_true rfl) rfl dX7_wipe_7 (fun H locs hR => ?_)
  rw [← ef1] at hR
  refine lv_iload_n hx hb dX7_wipe_10 rfl (lv_at hl 0 rfl) ?_
  obtain ⟨rfl, rfl⟩ := mm_pr h
  exact mm_iret C0 hR dX7_wipe_11
